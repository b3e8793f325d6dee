section
-- ===== PART A: goes FIRST, ahead of the names: the tables' words, and 'selects' of the private methods out of them =====
/-- a private method of a class that the tables say can be made, by its rows of tables_1 -/
def lw_okq (q : MethodName × Nat) : Prop := (q.1.cls ≠ "java/lang/invoke/MethodHandle" ∧ q.1.cls ≠ "java/lang/invoke/VarHandle") ∧ Cond.instantiable q.1.cls q.2 ∈ tables_1 ∧ Cond.privateMethod q.1 ∈ tables_1 ∧ Cond.instanceMethod q.1 ∈ tables_1
theorem lw_p0 : lw_okq (⟨"java/lang/Throwable", "fillInStackTrace", "(I)Ljava/lang/Throwable;"⟩, 6) := ⟨⟨by decide +kernel, by decide +kernel⟩, List.mem_of_getElem? (i := 439) (by decide +kernel), List.mem_of_getElem? (i := 437) (by decide +kernel), List.mem_of_getElem? (i := 438) (by decide +kernel)⟩
theorem lw_p1 : lw_okq (⟨"ExamMarker", "requireUnpublished", "()V"⟩, 9) := ⟨⟨by decide +kernel, by decide +kernel⟩, List.mem_of_getElem? (i := 33) (by decide +kernel), List.mem_of_getElem? (i := 530) (by decide +kernel), List.mem_of_getElem? (i := 531) (by decide +kernel)⟩
theorem lw_p2 : lw_okq (⟨"ExamMarker$Seeds", "placeOf", "(III)I"⟩, 3) := ⟨⟨by decide +kernel, by decide +kernel⟩, List.mem_of_getElem? (i := 47) (by decide +kernel), List.mem_of_getElem? (i := 569) (by decide +kernel), List.mem_of_getElem? (i := 570) (by decide +kernel)⟩
theorem lw_p3 : lw_okq (⟨"ExamMarker", "refusesEntry", "(LExamMarker$Book;IIII)Z"⟩, 9) := ⟨⟨by decide +kernel, by decide +kernel⟩, List.mem_of_getElem? (i := 33) (by decide +kernel), List.mem_of_getElem? (i := 693) (by decide +kernel), List.mem_of_getElem? (i := 694) (by decide +kernel)⟩
theorem lw_p4 : lw_okq (⟨"ExamMarker$SheetReader", "positionOfError", "()I"⟩, 9) := ⟨⟨by decide +kernel, by decide +kernel⟩, List.mem_of_getElem? (i := 218) (by decide +kernel), List.mem_of_getElem? (i := 768) (by decide +kernel), List.mem_of_getElem? (i := 769) (by decide +kernel)⟩
theorem lw_p5 : lw_okq (⟨"ExamMarker$SheetReader", "accepts", "(C)Z"⟩, 9) := ⟨⟨by decide +kernel, by decide +kernel⟩, List.mem_of_getElem? (i := 218) (by decide +kernel), List.mem_of_getElem? (i := 772) (by decide +kernel), List.mem_of_getElem? (i := 773) (by decide +kernel)⟩
theorem lw_p6 : lw_okq (⟨"ExamMarker$SheetReader", "goesOn", "(ZI)Z"⟩, 9) := ⟨⟨by decide +kernel, by decide +kernel⟩, List.mem_of_getElem? (i := 218) (by decide +kernel), List.mem_of_getElem? (i := 777) (by decide +kernel), List.mem_of_getElem? (i := 778) (by decide +kernel)⟩
theorem lw_p7 : lw_okq (⟨"ExamMarker$SheetReader", "startsEntry", "(I)Z"⟩, 9) := ⟨⟨by decide +kernel, by decide +kernel⟩, List.mem_of_getElem? (i := 218) (by decide +kernel), List.mem_of_getElem? (i := 781) (by decide +kernel), List.mem_of_getElem? (i := 782) (by decide +kernel)⟩
theorem lw_p8 : lw_okq (⟨"ExamMarker$SheetReader", "takesDigit", "(II)Z"⟩, 9) := ⟨⟨by decide +kernel, by decide +kernel⟩, List.mem_of_getElem? (i := 218) (by decide +kernel), List.mem_of_getElem? (i := 785) (by decide +kernel), List.mem_of_getElem? (i := 786) (by decide +kernel)⟩
theorem lw_p9 : lw_okq (⟨"ExamMarker", "requireGrade", "(I)V"⟩, 9) := ⟨⟨by decide +kernel, by decide +kernel⟩, List.mem_of_getElem? (i := 33) (by decide +kernel), List.mem_of_getElem? (i := 933) (by decide +kernel), List.mem_of_getElem? (i := 934) (by decide +kernel)⟩
theorem lw_p10 : lw_okq (⟨"ExamMarker$Outcome", "assess", "(LExamMarker$Book;I)V"⟩, 6) := ⟨⟨by decide +kernel, by decide +kernel⟩, List.mem_of_getElem? (i := 299) (by decide +kernel), List.mem_of_getElem? (i := 949) (by decide +kernel), List.mem_of_getElem? (i := 950) (by decide +kernel)⟩
theorem lw_p11 : lw_okq (⟨"ExamMarker$Outcome", "findRawResult", "(LExamMarker$Book;II)V"⟩, 6) := ⟨⟨by decide +kernel, by decide +kernel⟩, List.mem_of_getElem? (i := 299) (by decide +kernel), List.mem_of_getElem? (i := 954) (by decide +kernel), List.mem_of_getElem? (i := 955) (by decide +kernel)⟩
theorem lw_p12 : lw_okq (⟨"ExamMarker$Outcome", "isLifted", "(LExamMarker$Book;I)Z"⟩, 6) := ⟨⟨by decide +kernel, by decide +kernel⟩, List.mem_of_getElem? (i := 299) (by decide +kernel), List.mem_of_getElem? (i := 969) (by decide +kernel), List.mem_of_getElem? (i := 970) (by decide +kernel)⟩
theorem lw_p13 : lw_okq (⟨"ExamMarker$Tally", "correct", "(LExamMarker$Book;II)I"⟩, 4) := ⟨⟨by decide +kernel, by decide +kernel⟩, List.mem_of_getElem? (i := 281) (by decide +kernel), List.mem_of_getElem? (i := 989) (by decide +kernel), List.mem_of_getElem? (i := 990) (by decide +kernel)⟩
theorem lw_p14 : lw_okq (⟨"ExamMarker", "rankOf", "(I)I"⟩, 9) := ⟨⟨by decide +kernel, by decide +kernel⟩, List.mem_of_getElem? (i := 33) (by decide +kernel), List.mem_of_getElem? (i := 1004) (by decide +kernel), List.mem_of_getElem? (i := 1005) (by decide +kernel)⟩
theorem lw_p15 : lw_okq (⟨"ExamMarker", "refusesPublication", "()Z"⟩, 9) := ⟨⟨by decide +kernel, by decide +kernel⟩, List.mem_of_getElem? (i := 33) (by decide +kernel), List.mem_of_getElem? (i := 1097) (by decide +kernel), List.mem_of_getElem? (i := 1098) (by decide +kernel)⟩
def lw_privs_1 : List (MethodName × Nat) := [(⟨"java/lang/Throwable", "fillInStackTrace", "(I)Ljava/lang/Throwable;"⟩, 6), (⟨"ExamMarker", "requireUnpublished", "()V"⟩, 9), (⟨"ExamMarker$Seeds", "placeOf", "(III)I"⟩, 3), (⟨"ExamMarker", "refusesEntry", "(LExamMarker$Book;IIII)Z"⟩, 9), (⟨"ExamMarker$SheetReader", "positionOfError", "()I"⟩, 9), (⟨"ExamMarker$SheetReader", "accepts", "(C)Z"⟩, 9), (⟨"ExamMarker$SheetReader", "goesOn", "(ZI)Z"⟩, 9), (⟨"ExamMarker$SheetReader", "startsEntry", "(I)Z"⟩, 9), (⟨"ExamMarker$SheetReader", "takesDigit", "(II)Z"⟩, 9), (⟨"ExamMarker", "requireGrade", "(I)V"⟩, 9), (⟨"ExamMarker$Outcome", "assess", "(LExamMarker$Book;I)V"⟩, 6), (⟨"ExamMarker$Outcome", "findRawResult", "(LExamMarker$Book;II)V"⟩, 6), (⟨"ExamMarker$Outcome", "isLifted", "(LExamMarker$Book;I)Z"⟩, 6), (⟨"ExamMarker$Tally", "correct", "(LExamMarker$Book;II)I"⟩, 4), (⟨"ExamMarker", "rankOf", "(I)I"⟩, 9), (⟨"ExamMarker", "refusesPublication", "()Z"⟩, 9)]
theorem lw_r1 : ∀ q ∈ lw_privs_1, lw_okq q := List.forall_mem_cons.mpr ⟨lw_p0, List.forall_mem_cons.mpr ⟨lw_p1, List.forall_mem_cons.mpr ⟨lw_p2, List.forall_mem_cons.mpr ⟨lw_p3, List.forall_mem_cons.mpr ⟨lw_p4, List.forall_mem_cons.mpr ⟨lw_p5, List.forall_mem_cons.mpr ⟨lw_p6, List.forall_mem_cons.mpr ⟨lw_p7, List.forall_mem_cons.mpr ⟨lw_p8, List.forall_mem_cons.mpr ⟨lw_p9, List.forall_mem_cons.mpr ⟨lw_p10, List.forall_mem_cons.mpr ⟨lw_p11, List.forall_mem_cons.mpr ⟨lw_p12, List.forall_mem_cons.mpr ⟨lw_p13, List.forall_mem_cons.mpr ⟨lw_p14, List.forall_mem_cons.mpr ⟨lw_p15, fun _ h => absurd h List.not_mem_nil⟩⟩⟩⟩⟩⟩⟩⟩⟩⟩⟩⟩⟩⟩⟩⟩
theorem lw_p16 : lw_okq (⟨"ExamMarker", "refusesAppeal", "(II)Z"⟩, 9) := ⟨⟨by decide +kernel, by decide +kernel⟩, List.mem_of_getElem? (i := 33) (by decide +kernel), List.mem_of_getElem? (i := 1132) (by decide +kernel), List.mem_of_getElem? (i := 1133) (by decide +kernel)⟩
theorem lw_p17 : lw_okq (⟨"ExamMarker", "refusesRemark", "(IIII)Z"⟩, 9) := ⟨⟨by decide +kernel, by decide +kernel⟩, List.mem_of_getElem? (i := 33) (by decide +kernel), List.mem_of_getElem? (i := 1149) (by decide +kernel), List.mem_of_getElem? (i := 1150) (by decide +kernel)⟩
theorem lw_p18 : lw_okq (⟨"ExamMarkerModel", "fails", "(I)I"⟩, 28) := ⟨⟨by decide +kernel, by decide +kernel⟩, List.mem_of_getElem? (i := 1216) (by decide +kernel), List.mem_of_getElem? (i := 1322) (by decide +kernel), List.mem_of_getElem? (i := 1323) (by decide +kernel)⟩
theorem lw_p19 : lw_okq (⟨"ExamMarkerModel", "isPublished", "()Z"⟩, 28) := ⟨⟨by decide +kernel, by decide +kernel⟩, List.mem_of_getElem? (i := 1216) (by decide +kernel), List.mem_of_getElem? (i := 1326) (by decide +kernel), List.mem_of_getElem? (i := 1327) (by decide +kernel)⟩
theorem lw_p20 : lw_okq (⟨"ExamMarkerModel", "isAbove", "(II)Z"⟩, 28) := ⟨⟨by decide +kernel, by decide +kernel⟩, List.mem_of_getElem? (i := 1216) (by decide +kernel), List.mem_of_getElem? (i := 1330) (by decide +kernel), List.mem_of_getElem? (i := 1331) (by decide +kernel)⟩
theorem lw_p21 : lw_okq (⟨"ExamMarkerModel", "part", "(II)I"⟩, 28) := ⟨⟨by decide +kernel, by decide +kernel⟩, List.mem_of_getElem? (i := 1216) (by decide +kernel), List.mem_of_getElem? (i := 1334) (by decide +kernel), List.mem_of_getElem? (i := 1335) (by decide +kernel)⟩
theorem lw_p22 : lw_okq (⟨"ExamMarkerModel", "changes", "()V"⟩, 28) := ⟨⟨by decide +kernel, by decide +kernel⟩, List.mem_of_getElem? (i := 1216) (by decide +kernel), List.mem_of_getElem? (i := 1341) (by decide +kernel), List.mem_of_getElem? (i := 1342) (by decide +kernel)⟩
theorem lw_p23 : lw_okq (⟨"ExamMarkerModel", "frames", "()V"⟩, 28) := ⟨⟨by decide +kernel, by decide +kernel⟩, List.mem_of_getElem? (i := 1216) (by decide +kernel), List.mem_of_getElem? (i := 1345) (by decide +kernel), List.mem_of_getElem? (i := 1346) (by decide +kernel)⟩
theorem lw_p24 : lw_okq (⟨"ExamMarkerModel", "keeps", "()V"⟩, 28) := ⟨⟨by decide +kernel, by decide +kernel⟩, List.mem_of_getElem? (i := 1216) (by decide +kernel), List.mem_of_getElem? (i := 1349) (by decide +kernel), List.mem_of_getElem? (i := 1350) (by decide +kernel)⟩
theorem lw_p25 : lw_okq (⟨"ExamMarkerModel", "hasMarked", "(III)Z"⟩, 28) := ⟨⟨by decide +kernel, by decide +kernel⟩, List.mem_of_getElem? (i := 1216) (by decide +kernel), List.mem_of_getElem? (i := 1371) (by decide +kernel), List.mem_of_getElem? (i := 1372) (by decide +kernel)⟩
theorem lw_p26 : lw_okq (⟨"ExamMarkerModel", "pays", "(II)V"⟩, 28) := ⟨⟨by decide +kernel, by decide +kernel⟩, List.mem_of_getElem? (i := 1216) (by decide +kernel), List.mem_of_getElem? (i := 1375) (by decide +kernel), List.mem_of_getElem? (i := 1376) (by decide +kernel)⟩
theorem lw_p27 : lw_okq (⟨"ExamMarkerModel", "deviation", "(III)I"⟩, 28) := ⟨⟨by decide +kernel, by decide +kernel⟩, List.mem_of_getElem? (i := 1216) (by decide +kernel), List.mem_of_getElem? (i := 1379) (by decide +kernel), List.mem_of_getElem? (i := 1380) (by decide +kernel)⟩
theorem lw_p28 : lw_okq (⟨"ExamMarkerModel", "markerRefusal", "(II)I"⟩, 28) := ⟨⟨by decide +kernel, by decide +kernel⟩, List.mem_of_getElem? (i := 1216) (by decide +kernel), List.mem_of_getElem? (i := 1387) (by decide +kernel), List.mem_of_getElem? (i := 1388) (by decide +kernel)⟩
theorem lw_p29 : lw_okq (⟨"ExamMarkerModel", "corrects", "(II)I"⟩, 28) := ⟨⟨by decide +kernel, by decide +kernel⟩, List.mem_of_getElem? (i := 1216) (by decide +kernel), List.mem_of_getElem? (i := 1391) (by decide +kernel), List.mem_of_getElem? (i := 1392) (by decide +kernel)⟩
theorem lw_p30 : lw_okq (⟨"ExamMarkerModel", "setting", "(I)I"⟩, 28) := ⟨⟨by decide +kernel, by decide +kernel⟩, List.mem_of_getElem? (i := 1216) (by decide +kernel), List.mem_of_getElem? (i := 1398) (by decide +kernel), List.mem_of_getElem? (i := 1399) (by decide +kernel)⟩
theorem lw_p31 : lw_okq (⟨"ExamMarkerModel", "suspended", "(II)Z"⟩, 28) := ⟨⟨by decide +kernel, by decide +kernel⟩, List.mem_of_getElem? (i := 1216) (by decide +kernel), List.mem_of_getElem? (i := 1406) (by decide +kernel), List.mem_of_getElem? (i := 1407) (by decide +kernel)⟩
def lw_privs_2 : List (MethodName × Nat) := [(⟨"ExamMarker", "refusesAppeal", "(II)Z"⟩, 9), (⟨"ExamMarker", "refusesRemark", "(IIII)Z"⟩, 9), (⟨"ExamMarkerModel", "fails", "(I)I"⟩, 28), (⟨"ExamMarkerModel", "isPublished", "()Z"⟩, 28), (⟨"ExamMarkerModel", "isAbove", "(II)Z"⟩, 28), (⟨"ExamMarkerModel", "part", "(II)I"⟩, 28), (⟨"ExamMarkerModel", "changes", "()V"⟩, 28), (⟨"ExamMarkerModel", "frames", "()V"⟩, 28), (⟨"ExamMarkerModel", "keeps", "()V"⟩, 28), (⟨"ExamMarkerModel", "hasMarked", "(III)Z"⟩, 28), (⟨"ExamMarkerModel", "pays", "(II)V"⟩, 28), (⟨"ExamMarkerModel", "deviation", "(III)I"⟩, 28), (⟨"ExamMarkerModel", "markerRefusal", "(II)I"⟩, 28), (⟨"ExamMarkerModel", "corrects", "(II)I"⟩, 28), (⟨"ExamMarkerModel", "setting", "(I)I"⟩, 28), (⟨"ExamMarkerModel", "suspended", "(II)Z"⟩, 28)]
theorem lw_r2 : ∀ q ∈ lw_privs_2, lw_okq q := List.forall_mem_cons.mpr ⟨lw_p16, List.forall_mem_cons.mpr ⟨lw_p17, List.forall_mem_cons.mpr ⟨lw_p18, List.forall_mem_cons.mpr ⟨lw_p19, List.forall_mem_cons.mpr ⟨lw_p20, List.forall_mem_cons.mpr ⟨lw_p21, List.forall_mem_cons.mpr ⟨lw_p22, List.forall_mem_cons.mpr ⟨lw_p23, List.forall_mem_cons.mpr ⟨lw_p24, List.forall_mem_cons.mpr ⟨lw_p25, List.forall_mem_cons.mpr ⟨lw_p26, List.forall_mem_cons.mpr ⟨lw_p27, List.forall_mem_cons.mpr ⟨lw_p28, List.forall_mem_cons.mpr ⟨lw_p29, List.forall_mem_cons.mpr ⟨lw_p30, List.forall_mem_cons.mpr ⟨lw_p31, fun _ h => absurd h List.not_mem_nil⟩⟩⟩⟩⟩⟩⟩⟩⟩⟩⟩⟩⟩⟩⟩⟩
theorem lw_p32 : lw_okq (⟨"ExamMarkerModel", "refusal", "(IIII)I"⟩, 28) := ⟨⟨by decide +kernel, by decide +kernel⟩, List.mem_of_getElem? (i := 1216) (by decide +kernel), List.mem_of_getElem? (i := 1417) (by decide +kernel), List.mem_of_getElem? (i := 1418) (by decide +kernel)⟩
theorem lw_p33 : lw_okq (⟨"ExamMarkerModel", "hasEntered", "(III)Z"⟩, 28) := ⟨⟨by decide +kernel, by decide +kernel⟩, List.mem_of_getElem? (i := 1216) (by decide +kernel), List.mem_of_getElem? (i := 1421) (by decide +kernel), List.mem_of_getElem? (i := 1422) (by decide +kernel)⟩
theorem lw_p34 : lw_okq (⟨"ExamMarkerModel", "isOf", "(III)Z"⟩, 28) := ⟨⟨by decide +kernel, by decide +kernel⟩, List.mem_of_getElem? (i := 1216) (by decide +kernel), List.mem_of_getElem? (i := 1425) (by decide +kernel), List.mem_of_getElem? (i := 1426) (by decide +kernel)⟩
theorem lw_p35 : lw_okq (⟨"ExamMarkerModel", "entries", "(II)I"⟩, 28) := ⟨⟨by decide +kernel, by decide +kernel⟩, List.mem_of_getElem? (i := 1216) (by decide +kernel), List.mem_of_getElem? (i := 1429) (by decide +kernel), List.mem_of_getElem? (i := 1430) (by decide +kernel)⟩
theorem lw_p36 : lw_okq (⟨"ExamMarkerModel", "finds", "(II)V"⟩, 28) := ⟨⟨by decide +kernel, by decide +kernel⟩, List.mem_of_getElem? (i := 1216) (by decide +kernel), List.mem_of_getElem? (i := 1433) (by decide +kernel), List.mem_of_getElem? (i := 1434) (by decide +kernel)⟩
theorem lw_p37 : lw_okq (⟨"ExamMarkerModel", "isValid", "(I)Z"⟩, 28) := ⟨⟨by decide +kernel, by decide +kernel⟩, List.mem_of_getElem? (i := 1216) (by decide +kernel), List.mem_of_getElem? (i := 1437) (by decide +kernel), List.mem_of_getElem? (i := 1438) (by decide +kernel)⟩
theorem lw_p38 : lw_okq (⟨"ExamMarkerModel", "value", "(I)I"⟩, 28) := ⟨⟨by decide +kernel, by decide +kernel⟩, List.mem_of_getElem? (i := 1216) (by decide +kernel), List.mem_of_getElem? (i := 1441) (by decide +kernel), List.mem_of_getElem? (i := 1442) (by decide +kernel)⟩
theorem lw_p39 : lw_okq (⟨"ExamMarkerModel", "agree", "(II)Z"⟩, 28) := ⟨⟨by decide +kernel, by decide +kernel⟩, List.mem_of_getElem? (i := 1216) (by decide +kernel), List.mem_of_getElem? (i := 1445) (by decide +kernel), List.mem_of_getElem? (i := 1446) (by decide +kernel)⟩
theorem lw_p40 : lw_okq (⟨"ExamMarkerModel", "reports", "(IIIII)I"⟩, 28) := ⟨⟨by decide +kernel, by decide +kernel⟩, List.mem_of_getElem? (i := 1216) (by decide +kernel), List.mem_of_getElem? (i := 1449) (by decide +kernel), List.mem_of_getElem? (i := 1450) (by decide +kernel)⟩
theorem lw_p41 : lw_okq (⟨"ExamMarkerModel", "enters", "(IIII)V"⟩, 28) := ⟨⟨by decide +kernel, by decide +kernel⟩, List.mem_of_getElem? (i := 1216) (by decide +kernel), List.mem_of_getElem? (i := 1453) (by decide +kernel), List.mem_of_getElem? (i := 1454) (by decide +kernel)⟩
theorem lw_p42 : lw_okq (⟨"ExamMarkerModel", "isSheet", "()Z"⟩, 28) := ⟨⟨by decide +kernel, by decide +kernel⟩, List.mem_of_getElem? (i := 1216) (by decide +kernel), List.mem_of_getElem? (i := 1465) (by decide +kernel), List.mem_of_getElem? (i := 1466) (by decide +kernel)⟩
theorem lw_p43 : lw_okq (⟨"ExamMarkerModel", "digit", "(C)I"⟩, 28) := ⟨⟨by decide +kernel, by decide +kernel⟩, List.mem_of_getElem? (i := 1216) (by decide +kernel), List.mem_of_getElem? (i := 1469) (by decide +kernel), List.mem_of_getElem? (i := 1470) (by decide +kernel)⟩
theorem lw_p44 : lw_okq (⟨"ExamMarkerModel", "here", "()I"⟩, 28) := ⟨⟨by decide +kernel, by decide +kernel⟩, List.mem_of_getElem? (i := 1216) (by decide +kernel), List.mem_of_getElem? (i := 1473) (by decide +kernel), List.mem_of_getElem? (i := 1474) (by decide +kernel)⟩
theorem lw_p45 : lw_okq (⟨"ExamMarkerModel", "must", "(I)V"⟩, 28) := ⟨⟨by decide +kernel, by decide +kernel⟩, List.mem_of_getElem? (i := 1216) (by decide +kernel), List.mem_of_getElem? (i := 1477) (by decide +kernel), List.mem_of_getElem? (i := 1478) (by decide +kernel)⟩
theorem lw_p46 : lw_okq (⟨"ExamMarkerModel", "readsEntry", "()V"⟩, 28) := ⟨⟨by decide +kernel, by decide +kernel⟩, List.mem_of_getElem? (i := 1216) (by decide +kernel), List.mem_of_getElem? (i := 1481) (by decide +kernel), List.mem_of_getElem? (i := 1482) (by decide +kernel)⟩
theorem lw_p47 : lw_okq (⟨"ExamMarkerModel", "scriptRefusal", "(II)I"⟩, 28) := ⟨⟨by decide +kernel, by decide +kernel⟩, List.mem_of_getElem? (i := 1216) (by decide +kernel), List.mem_of_getElem? (i := 1493) (by decide +kernel), List.mem_of_getElem? (i := 1494) (by decide +kernel)⟩
def lw_privs_3 : List (MethodName × Nat) := [(⟨"ExamMarkerModel", "refusal", "(IIII)I"⟩, 28), (⟨"ExamMarkerModel", "hasEntered", "(III)Z"⟩, 28), (⟨"ExamMarkerModel", "isOf", "(III)Z"⟩, 28), (⟨"ExamMarkerModel", "entries", "(II)I"⟩, 28), (⟨"ExamMarkerModel", "finds", "(II)V"⟩, 28), (⟨"ExamMarkerModel", "isValid", "(I)Z"⟩, 28), (⟨"ExamMarkerModel", "value", "(I)I"⟩, 28), (⟨"ExamMarkerModel", "agree", "(II)Z"⟩, 28), (⟨"ExamMarkerModel", "reports", "(IIIII)I"⟩, 28), (⟨"ExamMarkerModel", "enters", "(IIII)V"⟩, 28), (⟨"ExamMarkerModel", "isSheet", "()Z"⟩, 28), (⟨"ExamMarkerModel", "digit", "(C)I"⟩, 28), (⟨"ExamMarkerModel", "here", "()I"⟩, 28), (⟨"ExamMarkerModel", "must", "(I)V"⟩, 28), (⟨"ExamMarkerModel", "readsEntry", "()V"⟩, 28), (⟨"ExamMarkerModel", "scriptRefusal", "(II)I"⟩, 28)]
theorem lw_r3 : ∀ q ∈ lw_privs_3, lw_okq q := List.forall_mem_cons.mpr ⟨lw_p32, List.forall_mem_cons.mpr ⟨lw_p33, List.forall_mem_cons.mpr ⟨lw_p34, List.forall_mem_cons.mpr ⟨lw_p35, List.forall_mem_cons.mpr ⟨lw_p36, List.forall_mem_cons.mpr ⟨lw_p37, List.forall_mem_cons.mpr ⟨lw_p38, List.forall_mem_cons.mpr ⟨lw_p39, List.forall_mem_cons.mpr ⟨lw_p40, List.forall_mem_cons.mpr ⟨lw_p41, List.forall_mem_cons.mpr ⟨lw_p42, List.forall_mem_cons.mpr ⟨lw_p43, List.forall_mem_cons.mpr ⟨lw_p44, List.forall_mem_cons.mpr ⟨lw_p45, List.forall_mem_cons.mpr ⟨lw_p46, List.forall_mem_cons.mpr ⟨lw_p47, fun _ h => absurd h List.not_mem_nil⟩⟩⟩⟩⟩⟩⟩⟩⟩⟩⟩⟩⟩⟩⟩⟩
theorem lw_p48 : lw_okq (⟨"ExamMarkerModel", "entryOf", "(III)I"⟩, 28) := ⟨⟨by decide +kernel, by decide +kernel⟩, List.mem_of_getElem? (i := 1216) (by decide +kernel), List.mem_of_getElem? (i := 1497) (by decide +kernel), List.mem_of_getElem? (i := 1498) (by decide +kernel)⟩
theorem lw_p49 : lw_okq (⟨"ExamMarkerModel", "settled", "(II)I"⟩, 28) := ⟨⟨by decide +kernel, by decide +kernel⟩, List.mem_of_getElem? (i := 1216) (by decide +kernel), List.mem_of_getElem? (i := 1505) (by decide +kernel), List.mem_of_getElem? (i := 1506) (by decide +kernel)⟩
theorem lw_p50 : lw_okq (⟨"ExamMarkerModel", "appealPart", "(III)I"⟩, 28) := ⟨⟨by decide +kernel, by decide +kernel⟩, List.mem_of_getElem? (i := 1216) (by decide +kernel), List.mem_of_getElem? (i := 1509) (by decide +kernel), List.mem_of_getElem? (i := 1510) (by decide +kernel)⟩
theorem lw_p51 : lw_okq (⟨"ExamMarkerModel", "state", "(II)I"⟩, 28) := ⟨⟨by decide +kernel, by decide +kernel⟩, List.mem_of_getElem? (i := 1216) (by decide +kernel), List.mem_of_getElem? (i := 1513) (by decide +kernel), List.mem_of_getElem? (i := 1514) (by decide +kernel)⟩
theorem lw_p52 : lw_okq (⟨"ExamMarkerModel", "isExcused", "(II)Z"⟩, 28) := ⟨⟨by decide +kernel, by decide +kernel⟩, List.mem_of_getElem? (i := 1216) (by decide +kernel), List.mem_of_getElem? (i := 1521) (by decide +kernel), List.mem_of_getElem? (i := 1522) (by decide +kernel)⟩
theorem lw_p53 : lw_okq (⟨"ExamMarkerModel", "pointAt", "(I)I"⟩, 28) := ⟨⟨by decide +kernel, by decide +kernel⟩, List.mem_of_getElem? (i := 1216) (by decide +kernel), List.mem_of_getElem? (i := 1536) (by decide +kernel), List.mem_of_getElem? (i := 1537) (by decide +kernel)⟩
theorem lw_p54 : lw_okq (⟨"ExamMarkerModel", "full", "()I"⟩, 28) := ⟨⟨by decide +kernel, by decide +kernel⟩, List.mem_of_getElem? (i := 1216) (by decide +kernel), List.mem_of_getElem? (i := 1548) (by decide +kernel), List.mem_of_getElem? (i := 1549) (by decide +kernel)⟩
theorem lw_p55 : lw_okq (⟨"ExamMarkerModel", "scaled", "(JJ)I"⟩, 28) := ⟨⟨by decide +kernel, by decide +kernel⟩, List.mem_of_getElem? (i := 1216) (by decide +kernel), List.mem_of_getElem? (i := 1552) (by decide +kernel), List.mem_of_getElem? (i := 1553) (by decide +kernel)⟩
theorem lw_p56 : lw_okq (⟨"ExamMarkerModel", "hasGrade", "(I)Z"⟩, 28) := ⟨⟨by decide +kernel, by decide +kernel⟩, List.mem_of_getElem? (i := 1216) (by decide +kernel), List.mem_of_getElem? (i := 1569) (by decide +kernel), List.mem_of_getElem? (i := 1570) (by decide +kernel)⟩
theorem lw_p57 : lw_okq (⟨"ExamMarkerModel", "marksOf", "(I)V"⟩, 28) := ⟨⟨by decide +kernel, by decide +kernel⟩, List.mem_of_getElem? (i := 1216) (by decide +kernel), List.mem_of_getElem? (i := 1573) (by decide +kernel), List.mem_of_getElem? (i := 1574) (by decide +kernel)⟩
theorem lw_p58 : lw_okq (⟨"ExamMarkerModel", "grades", "(I)V"⟩, 28) := ⟨⟨by decide +kernel, by decide +kernel⟩, List.mem_of_getElem? (i := 1216) (by decide +kernel), List.mem_of_getElem? (i := 1577) (by decide +kernel), List.mem_of_getElem? (i := 1578) (by decide +kernel)⟩
theorem lw_p59 : lw_okq (⟨"ExamMarkerModel", "raws", "(I)V"⟩, 28) := ⟨⟨by decide +kernel, by decide +kernel⟩, List.mem_of_getElem? (i := 1216) (by decide +kernel), List.mem_of_getElem? (i := 1581) (by decide +kernel), List.mem_of_getElem? (i := 1582) (by decide +kernel)⟩
theorem lw_p60 : lw_okq (⟨"ExamMarkerModel", "isLifted", "(I)Z"⟩, 28) := ⟨⟨by decide +kernel, by decide +kernel⟩, List.mem_of_getElem? (i := 1216) (by decide +kernel), List.mem_of_getElem? (i := 1589) (by decide +kernel), List.mem_of_getElem? (i := 1590) (by decide +kernel)⟩
theorem lw_p61 : lw_okq (⟨"ExamMarkerModel", "isAhead", "(II)Z"⟩, 28) := ⟨⟨by decide +kernel, by decide +kernel⟩, List.mem_of_getElem? (i := 1216) (by decide +kernel), List.mem_of_getElem? (i := 1601) (by decide +kernel), List.mem_of_getElem? (i := 1602) (by decide +kernel)⟩
theorem lw_p62 : lw_okq (⟨"ExamMarkerModel", "gradeOf", "(I)I"⟩, 28) := ⟨⟨by decide +kernel, by decide +kernel⟩, List.mem_of_getElem? (i := 1216) (by decide +kernel), List.mem_of_getElem? (i := 1609) (by decide +kernel), List.mem_of_getElem? (i := 1610) (by decide +kernel)⟩
theorem lw_p63 : lw_okq (⟨"ExamMarkerModel", "gradeWith", "(III)I"⟩, 28) := ⟨⟨by decide +kernel, by decide +kernel⟩, List.mem_of_getElem? (i := 1216) (by decide +kernel), List.mem_of_getElem? (i := 1617) (by decide +kernel), List.mem_of_getElem? (i := 1618) (by decide +kernel)⟩
def lw_privs_4 : List (MethodName × Nat) := [(⟨"ExamMarkerModel", "entryOf", "(III)I"⟩, 28), (⟨"ExamMarkerModel", "settled", "(II)I"⟩, 28), (⟨"ExamMarkerModel", "appealPart", "(III)I"⟩, 28), (⟨"ExamMarkerModel", "state", "(II)I"⟩, 28), (⟨"ExamMarkerModel", "isExcused", "(II)Z"⟩, 28), (⟨"ExamMarkerModel", "pointAt", "(I)I"⟩, 28), (⟨"ExamMarkerModel", "full", "()I"⟩, 28), (⟨"ExamMarkerModel", "scaled", "(JJ)I"⟩, 28), (⟨"ExamMarkerModel", "hasGrade", "(I)Z"⟩, 28), (⟨"ExamMarkerModel", "marksOf", "(I)V"⟩, 28), (⟨"ExamMarkerModel", "grades", "(I)V"⟩, 28), (⟨"ExamMarkerModel", "raws", "(I)V"⟩, 28), (⟨"ExamMarkerModel", "isLifted", "(I)Z"⟩, 28), (⟨"ExamMarkerModel", "isAhead", "(II)Z"⟩, 28), (⟨"ExamMarkerModel", "gradeOf", "(I)I"⟩, 28), (⟨"ExamMarkerModel", "gradeWith", "(III)I"⟩, 28)]
theorem lw_r4 : ∀ q ∈ lw_privs_4, lw_okq q := List.forall_mem_cons.mpr ⟨lw_p48, List.forall_mem_cons.mpr ⟨lw_p49, List.forall_mem_cons.mpr ⟨lw_p50, List.forall_mem_cons.mpr ⟨lw_p51, List.forall_mem_cons.mpr ⟨lw_p52, List.forall_mem_cons.mpr ⟨lw_p53, List.forall_mem_cons.mpr ⟨lw_p54, List.forall_mem_cons.mpr ⟨lw_p55, List.forall_mem_cons.mpr ⟨lw_p56, List.forall_mem_cons.mpr ⟨lw_p57, List.forall_mem_cons.mpr ⟨lw_p58, List.forall_mem_cons.mpr ⟨lw_p59, List.forall_mem_cons.mpr ⟨lw_p60, List.forall_mem_cons.mpr ⟨lw_p61, List.forall_mem_cons.mpr ⟨lw_p62, List.forall_mem_cons.mpr ⟨lw_p63, fun _ h => absurd h List.not_mem_nil⟩⟩⟩⟩⟩⟩⟩⟩⟩⟩⟩⟩⟩⟩⟩⟩
theorem lw_p64 : lw_okq (⟨"ExamMarkerModel", "withGrades", "()I"⟩, 28) := ⟨⟨by decide +kernel, by decide +kernel⟩, List.mem_of_getElem? (i := 1216) (by decide +kernel), List.mem_of_getElem? (i := 1658) (by decide +kernel), List.mem_of_getElem? (i := 1659) (by decide +kernel)⟩
theorem lw_p65 : lw_okq (⟨"ExamMarkerModel", "allAppeals", "(II)I"⟩, 28) := ⟨⟨by decide +kernel, by decide +kernel⟩, List.mem_of_getElem? (i := 1216) (by decide +kernel), List.mem_of_getElem? (i := 1666) (by decide +kernel), List.mem_of_getElem? (i := 1667) (by decide +kernel)⟩
theorem lw_p66 : lw_okq (⟨"ExamMarkerModel", "appeals", "(III)I"⟩, 28) := ⟨⟨by decide +kernel, by decide +kernel⟩, List.mem_of_getElem? (i := 1216) (by decide +kernel), List.mem_of_getElem? (i := 1670) (by decide +kernel), List.mem_of_getElem? (i := 1671) (by decide +kernel)⟩
theorem lw_p67 : lw_okq (⟨"ExamMarkerModel", "seeds", "()I"⟩, 28) := ⟨⟨by decide +kernel, by decide +kernel⟩, List.mem_of_getElem? (i := 1216) (by decide +kernel), List.mem_of_getElem? (i := 1698) (by decide +kernel), List.mem_of_getElem? (i := 1699) (by decide +kernel)⟩
theorem lw_p68 : lw_okq (⟨"ExamMarkerModel", "seedMarks", "()I"⟩, 28) := ⟨⟨by decide +kernel, by decide +kernel⟩, List.mem_of_getElem? (i := 1216) (by decide +kernel), List.mem_of_getElem? (i := 1702) (by decide +kernel), List.mem_of_getElem? (i := 1703) (by decide +kernel)⟩
theorem lw_p69 : lw_okq (⟨"ExamMarkerModel", "disputed", "()I"⟩, 28) := ⟨⟨by decide +kernel, by decide +kernel⟩, List.mem_of_getElem? (i := 1216) (by decide +kernel), List.mem_of_getElem? (i := 1706) (by decide +kernel), List.mem_of_getElem? (i := 1707) (by decide +kernel)⟩
def lw_privs_5 : List (MethodName × Nat) := [(⟨"ExamMarkerModel", "withGrades", "()I"⟩, 28), (⟨"ExamMarkerModel", "allAppeals", "(II)I"⟩, 28), (⟨"ExamMarkerModel", "appeals", "(III)I"⟩, 28), (⟨"ExamMarkerModel", "seeds", "()I"⟩, 28), (⟨"ExamMarkerModel", "seedMarks", "()I"⟩, 28), (⟨"ExamMarkerModel", "disputed", "()I"⟩, 28)]
theorem lw_r5 : ∀ q ∈ lw_privs_5, lw_okq q := List.forall_mem_cons.mpr ⟨lw_p64, List.forall_mem_cons.mpr ⟨lw_p65, List.forall_mem_cons.mpr ⟨lw_p66, List.forall_mem_cons.mpr ⟨lw_p67, List.forall_mem_cons.mpr ⟨lw_p68, List.forall_mem_cons.mpr ⟨lw_p69, fun _ h => absurd h List.not_mem_nil⟩⟩⟩⟩⟩⟩
def lw_privs : List (MethodName × Nat) := lw_privs_1 ++ (lw_privs_2 ++ (lw_privs_3 ++ (lw_privs_4 ++ (lw_privs_5))))
def lw_tbl : List Cond := k2_sels lw_privs ++ tables_1
theorem lw_privs_ok : ∀ q ∈ lw_privs, lw_okq q := by
  show ∀ q ∈ lw_privs_1 ++ (lw_privs_2 ++ (lw_privs_3 ++ (lw_privs_4 ++ (lw_privs_5)))), lw_okq q
  exact List.forall_mem_append.mpr ⟨lw_r1, List.forall_mem_append.mpr ⟨lw_r2, List.forall_mem_append.mpr ⟨lw_r3, List.forall_mem_append.mpr ⟨lw_r4, lw_r5⟩⟩⟩⟩
/-- the streams that the claim lets the run draw from -/
abbrev lw_cs : List Choice := [Jvm.Choice.named "NaN.bits"]
theorem lw_bits : nanBits ∈ lw_cs := by first | decide | exact List.mem_cons_self | simp [lw_cs, nanBits]
-- ===== end of PART A; then your names; then what follows =====
/-! ===== BEGIN words of one list among another's, by their places ===== -/
theorem goodIn_r {big : List Cond} (ws : List Cond) (ps : List Nat) (hp : ws = ps.filterMap (fun i => big[i]?)) (h : ws.all goodWord = true) : GoodIn big ws := by
  intro w hw
  have h1 := List.all_eq_true.mp h w hw
  rw [hp] at hw
  obtain ⟨i, -, hi⟩ := List.mem_filterMap.mp hw
  have hm : w ∈ big := by first | exact List.mem_of_getElem? hi | exact List.getElem?_mem hi
  exact ⟨hm, good_of_word h1⟩
theorem goodIn_app {big a b : List Cond} (ha : GoodIn big a) (hb : GoodIn big b) : GoodIn big (a ++ b) := fun w h => (List.mem_append.mp h).elim (ha w) (hb w)
theorem goodIn_ca {big a b : List Cond} {c : Cond} (ha : GoodIn big (c :: a)) (hb : GoodIn big b) : GoodIn big (c :: (a ++ b)) := fun w h => (List.mem_cons.mp h).elim (fun e => ha w (List.mem_cons.mpr (Or.inl e))) (fun h => (List.mem_append.mp h).elim (fun h => ha w (List.mem_cons.mpr (Or.inr h))) (hb w))
theorem goodIn_sub {big ws : List Cond} (hm : ∀ w ∈ ws, w ∈ big) (h : ws.all goodWord = true) : GoodIn big ws := fun w hw => ⟨hm w hw, good_of_word (List.all_eq_true.mp h w hw)⟩
/-! ===== END ===== -/

/-! ===== BEGIN exceptions that leave a method, and their catching by the caller (launches without stack traces) ===== -/
section VXA
/-! The laws vx_back, vx_callV, vx_callS, vx_callSW, vx_throw0, vx_throwS follow proofs of the library, with one case more: JvmDerived/Free/Laws.lean (Back.of_free), Shelf42/LK1.lean (callV, callS), Shelf/KitTraced.lean (throwNew0V, throwNewS). -/
/-- where a method has thrown q: the class by its name, the cell, what was written, the world -/
def vx_T (XC : String → State → State → Prop) (st : State) (q : Addr) (t : State) (mc ms : Nat) (free : Addr → Prop) : Prop :=
  ∃ (E : String) (ce : Cell) (L : List Loc), XC E st t ∧ t.heap[q]? = some ce ∧ ce.vm = .none ∧ st.vm.findClass E = some ce.cls ∧ st.WarmedH t.vm ∧ st.sameButNew ({ t with vm := st.vm } : State) L mc ms ∧ ∀ z ∈ L, free z.base
def vx_Q (Qc : Array Value → State → Outcome → State → Prop) (XC : String → State → State → Prop) (mc ms : Nat) (free : Addr → Prop) : Array Value → State → Outcome → State → Prop := fun a st o t =>
  (Qc a st o t ∧ ∃ L, FrameEnd st o t L mc ms ∧ ∀ q ∈ L, free q.base) ∨ ∃ q, o = .threw q ∧ vx_T XC st q t mc ms free
/-- a callee that returns or throws -/
def vx_Met (l : Launch) (y : MethodName) (ws : List Cond) (rm : Room) (Pc : Array Value → State → Prop) (Qc : Array Value → State → Outcome → State → Prop) (XC : String → State → State → Prop) (mc ms : Nat) (free : Addr → Prop) : Prop :=
  MetFree l y (headSpec ws rm) Pc (fun _ _ _ _ _ => True) (vx_Q Qc XC mc ms free)
def vx_Post (XC : String → State → State → Prop) (mc ms : Nat) (free : Addr → Prop) : Pt → Array Value → Addr → Pt → Prop := fun A a q B =>
  ∃ (g : JFrame) (mk : MethodId) (t : State) (L : List Loc) (E : String) (ce : Cell), B.U.heap = t.heap ∧ B.U.vm = t.vm ∧ XC E (A.U.calling g mk a) t ∧ t.heap[q]? = some ce ∧ ce.vm = .none ∧ A.U.vm.findClass E = some ce.cls ∧ B.locs = A.locs ++ L ∧ (∀ z ∈ L, free z.base) ∧ B.cells = A.cells + mc ∧ B.slots = A.slots + ms
def vx_Back (l : Launch) (R : Room) (p : Program) (e : Env) (below : List Frame) (s : State) (sargs : Array Value) (y : MethodName) (len W9 : Nat)
    (Pre : Pt → Array Value → Prop) (Post : Pt → Array Value → Option Value → Pt → Prop) (PostX : Pt → Array Value → Addr → Pt → Prop) : Prop :=
  ∀ (m : MethodId) (meth : Method) (c : Code) (A : Pt) (g : JFrame) (ig : Instr) (mk : MethodId) (a : Array Value),
    Stand p l e R s m sargs below meth c A.U A.locs A.cells A.slots → g.method = m → g.locals.size = c.maxLocals → decode c.code g.pc = .ok (ig, len) →
    2 * g.monitorRoom + (g.stack.map fun v => v.category).sum ≤ W9 → A.U.methodNamed? y = some mk → Pre A a →
    (∃ (v : Option Value) (B : Pt), Stand p l e R s m sargs below meth c B.U B.locs B.cells B.slots ∧ Post A a v B ∧
      Steps p.tables e below (doInvoke e (A.U.setTop g) [] mk a).1 (B.U.setTop { g with pc := g.pc + len, stack := v.toList ++ g.stack })) ∨
    (∃ (q : Addr) (B : Pt), Stand p l e R s m sargs below meth c B.U B.locs B.cells B.slots ∧ PostX A a q B ∧
      Steps p.tables e below (doInvoke e (A.U.setTop g) [] mk a).1 ((B.U.setTop g).pushFrame (.throwing q)))
section Payer
variable {l : Launch} {R : Room} {p : Program} {e : Env} {below : List Frame} {s : State} {sargs : Array Value} {y : MethodName} {len W9 : Nat}
theorem vx_back {ws : List Cond} {rm : Room} {Pc : Array Value → State → Prop} {Qc : Array Value → State → Outcome → State → Prop} {XC : String → State → State → Prop} {mc ms : Nat} {free : Addr → Prop} {bytes : ByteArray} {maxL : Nat} {ret : Option FieldType}
    (hM : vx_Met l y ws rm Pc Qc XC mc ms free) (hblind : FrameBlind Pc) (hrc : rm.cells = mc) (hrs : rm.slots = ms)
    (hframes : rm.frames + 1 ≤ R.frames) (hlocals : W9 + (maxL + 11) + rm.locals ≤ R.locals)
    (hws : ∀ w ∈ ws, ∀ a' U, s.WarmedH U.vm → w.before a' U = true) (hcode : Cond.code y bytes maxL ret ∈ ws) (hinit : ∀ a' U, s.WarmedH U.vm → (Cond.initialized y.cls).before a' U = true) :
    vx_Back l R p e below s sargs y len W9 (PreOf R mc ms Pc) (PostOf Qc mc ms free) (vx_Post XC mc ms free) := by
  intro m meth c A g ig mk a X hg hsize hdg hW hn hp
  have h1 : (headSpec ws rm).pre.before a A.U = true := atoms_intro fun w hw => hws w hw _ _ X.warmed
  have h2 : (Cond.code y bytes maxL ret).before a A.U = true := hws _ hcode _ _ X.warmed
  have h3 : (Cond.initialized y.cls).before a A.U = true := hinit _ _ X.warmed
  have h4 : A.cells + (headSpec ws rm).room.cells ≤ R.cells := by rw [show (headSpec ws rm).room.cells = mc from hrc]; exact hp.1
  have h5 : A.slots + (headSpec ws rm).room.slots ≤ R.slots := by rw [show (headSpec ws rm).room.slots = ms from hrs]; exact hp.2.1
  have hPc : Pc a (A.U.calling g mk a) := hblind _ _ _ _ hp.2.2
  obtain ⟨U, Ls, c0, s0⟩ := A
  dsimp only [Pt.U, Pt.locs, Pt.cells, Pt.slots] at h1 h2 h3 h4 h5 X hn hPc ⊢
  obtain ⟨methY, cY, hmY, hcY, -, hlY, -, -, -, -⟩ := Cond.code_spec hn h2
  obtain ⟨kY, hkY, -⟩ := className_of_methodNamed hn
  have hinitY : kY.init = .initialized := Cond.initialized_spec (findClass_of_methodNamed hn) hkY h3
  have h : At U g.method c below := by rw [hg]; exact X.here
  have hlocals9 : W9 + (maxL + 11) + (headSpec ws rm).room.locals ≤ R.locals := hlocals
  have happ : (headSpec ws rm).appliesLoose y e.platform (U.calling g mk a) = true :=
    Spec.appliesLoose_calling (g := g) h hdg hn hkY hinitY
      (X.room_calling (g := g) (R' := (headSpec ws rm).room) hsize hmY hcY hframes (by rw [hlY]; omega) h4 h5) h1
  obtain ⟨mid, hmid⟩ := h.above
  have hfr : (U.setTop g).frames = (.java g :: mid) ++ below := by rw [State.frames_setTop' g h.top, hmid]; rfl
  obtain ⟨o, s₂, hsteps, -, hend, hq⟩ := Steps.callFree hM p X.admits X.cas X.clock (acts := []) hfr happ hPc trivial
  have hq' : vx_Q Qc XC mc ms free a (U.calling g mk a) o s₂ := hq
  rw [State.frames_setTop' g h.top] at hend
  obtain ⟨g₀, hg0⟩ := Option.isSome_iff_exists.mp h.top
  obtain ⟨r, hr⟩ := State.topJava?_eq_some.mp hg0
  have hr' : (({ U with heap := s₂.heap, slotsUsed := s₂.slotsUsed } : State).setVm s₂.vm).frames = .java g₀ :: r := hr
  rcases hq' with ⟨hqc, L, hfe, hL⟩ | ⟨q, rfl, E, ce, L, hx, hce, hcv, hcl, hW₂, hsm, hL⟩
  · obtain ⟨⟨v, rfl⟩, hW₂, e2, q2, q3, q4, q5, q6⟩ := id hfe
    have e3 : s₂ = ({ (U.calling g mk a).setFrames s₂.frames with heap := s₂.heap, slotsUsed := s₂.slotsUsed } : State).setVm s₂.vm := by
      have : s₂ = ({ s₂ with vm := (U.calling g mk a).vm } : State).setVm s₂.vm := rfl
      rw [e2] at this
      exact this
    obtain ⟨c₂, i₂, len₂, hc₂, hd₂, hf₂⟩ := hend
    have hW' : U.WarmedH s₂.vm := hW₂
    have hcc : c₂ = c := by
      have h1 : s₂.code? g.method = U.code? g.method := by
        rw [State.code?_eq, State.code?_eq, hW'.alike.method?]
      exact Option.some.inj (hc₂.symm.trans (h1.trans h.code))
    subst hcc
    have hlen : len₂ = len := by rw [hdg] at hd₂; cases hd₂; rfl
    subst hlen
    have hs₂ : s₂ = (({ U with heap := s₂.heap, slotsUsed := s₂.slotsUsed } : State).setVm s₂.vm).setTop { g with pc := g.pc + len₂, stack := v.toList ++ g.stack } := by
      refine e3.trans ?_
      rw [hf₂, State.calling_eq h.top, State.setFrames_setFrames, State.setTop_of_frames _ hr', hr]
      rfl
    have hsame : U.sameButNew ({ U with heap := s₂.heap, slotsUsed := s₂.slotsUsed } : State) L mc ms := by
      refine ⟨?_, q2, q3, q4, q5, q6⟩
      obtain ⟨t, ht, -⟩ := State.frames_cons hr
      show ({ U with heap := s₂.heap, slotsUsed := s₂.slotsUsed } : State) = { U.setFrames U.frames with heap := s₂.heap, slotsUsed := s₂.slotsUsed }
      rw [State.setFrames_self ht]
    subst hg
    refine Or.inl ⟨v, ⟨(({ U with heap := s₂.heap, slotsUsed := s₂.slotsUsed } : State).setVm s₂.vm), Ls ++ L, c0 + mc, s0 + ms⟩,
      ⟨X.admits, X.cas, X.clock, X.frames, X.room, X.hears, X.method, X.code, (X.here.setHeapUsed s₂.heap s₂.slotsUsed).setVm hW'.alike, X.tail, State.WarmedH.trans X.warmed hW', X.limits, X.bytes, X.same.trans (hsame.setVm s.vm)⟩,
      ⟨g, mk, s₂, L, rfl, rfl, hqc, rfl, hL, rfl, rfl⟩, ?_⟩
    show Steps p.tables e below _ ((({ U with heap := s₂.heap, slotsUsed := s₂.slotsUsed } : State).setVm s₂.vm).setTop { g with pc := g.pc + len₂, stack := v.toList ++ g.stack })
    rw [← hs₂]
    exact hsteps
  · obtain ⟨e2, q2, q3, q4, q5, q6⟩ := id hsm
    have e3 : s₂ = ({ (U.calling g mk a).setFrames s₂.frames with heap := s₂.heap, slotsUsed := s₂.slotsUsed } : State).setVm s₂.vm := by
      have : s₂ = ({ s₂ with vm := (U.calling g mk a).vm } : State).setVm s₂.vm := rfl
      rw [e2] at this
      exact this
    have hf₂ : s₂.frames = .throwing q :: .java g :: U.frames.tail := hend
    have hW' : U.WarmedH s₂.vm := hW₂
    have hs₂ : s₂ = ((({ U with heap := s₂.heap, slotsUsed := s₂.slotsUsed } : State).setVm s₂.vm).setTop g).pushFrame (.throwing q) := by
      refine e3.trans ?_
      rw [hf₂, State.calling_eq h.top, State.setFrames_setFrames, State.pushFrame, State.frames_setTop _ hr', State.setTop_of_frames _ hr', State.setFrames_setFrames, hr]
      rfl
    have hsame : U.sameButNew ({ U with heap := s₂.heap, slotsUsed := s₂.slotsUsed } : State) L mc ms := by
      refine ⟨?_, q2, q3, q4, q5, q6⟩
      obtain ⟨t, ht, -⟩ := State.frames_cons hr
      show ({ U with heap := s₂.heap, slotsUsed := s₂.slotsUsed } : State) = { U.setFrames U.frames with heap := s₂.heap, slotsUsed := s₂.slotsUsed }
      rw [State.setFrames_self ht]
    subst hg
    refine Or.inr ⟨q, ⟨(({ U with heap := s₂.heap, slotsUsed := s₂.slotsUsed } : State).setVm s₂.vm), Ls ++ L, c0 + mc, s0 + ms⟩,
      ⟨X.admits, X.cas, X.clock, X.frames, X.room, X.hears, X.method, X.code, (X.here.setHeapUsed s₂.heap s₂.slotsUsed).setVm hW'.alike, X.tail, State.WarmedH.trans X.warmed hW', X.limits, X.bytes, X.same.trans (hsame.setVm s.vm)⟩,
      ⟨g, mk, s₂, L, E, ce, rfl, rfl, hx, hce, hcv, hcl, rfl, hL, rfl, rfl⟩, ?_⟩
    show Steps p.tables e below _ (((({ U with heap := s₂.heap, slotsUsed := s₂.slotsUsed } : State).setVm s₂.vm).setTop g).pushFrame (.throwing q))
    rw [← hs₂]
    exact hsteps
end Payer
section Calls
variable {p : Program} {l : Launch} {e : Env} {R : Room} {s : State} {m : MethodId} {args : Array Value} {below : List Frame} {meth : Method} {c : Code} {T : State} {locs : List Loc} {cells slots : Nat}
theorem vx_callV (X : Stand p l e R s m args below meth c T locs cells slots) (hexec : p.tables.exec = Jvm.exec) {own C : String} {index : Nat} {y : MethodName} {bytes : ByteArray} {maxL : Nat} {ret : Option FieldType}
    (hown : s.vm.findClass own = some m.cls) (hlink : (Cond.methodLink own index y).before args s = true) (hinst : (Cond.instanceMethod y).before args s = true) (hsel : (Cond.selects C y y).before args s = true)
    (hcode : (Cond.code y bytes maxL ret).before args s = true) (hy : y.cls ≠ "java/lang/invoke/MethodHandle" ∧ y.cls ≠ "java/lang/invoke/VarHandle")
    {W9 : Nat} {Pre : Pt → Array Value → Prop} {Post : Pt → Array Value → Option Value → Pt → Prop} {PostX : Pt → Array Value → Addr → Pt → Prop} (hK : vx_Back l R p e below s args y 3 W9 Pre Post PostX)
    {b : Addr} {cellB : Cell} (hcell : T.heap[b]? = some cellB) (hobj : cellB.vm.isStatics = false) (hcls : s.vm.findClass C = some cellB.cls)
    {g : JFrame} (hg : g.method = m) (hsize : g.locals.size = c.maxLocals) {argsL rest : List Value} (hlen : ∀ sig, parseMethodDescriptor y.desc = some sig → argsL.length = sig.parameters.length)
    (hstack : g.stack = argsL.reverse ++ .ref b :: rest) (hW : 2 * g.monitorRoom + (rest.map fun v => v.category).sum ≤ W9) (hdg : decode c.code g.pc = .ok (.invokevirtual index, 3))
    (hpre : ∀ vm₁, s.WarmedH vm₁ → Pre ⟨T.setVm vm₁, locs, cells, slots⟩ (Value.ref b :: argsL).toArray) :
    (∃ (v : Option Value) (vm₁ : Vm) (B : Pt), s.WarmedH vm₁ ∧ Stand p l e R s m args below meth c B.U B.locs B.cells B.slots ∧ Post ⟨T.setVm vm₁, locs, cells, slots⟩ (Value.ref b :: argsL).toArray v B ∧
      ∀ target, Steps p.tables e below (B.U.setTop { g with pc := g.pc + 3, stack := v.toList ++ rest }) target → Steps p.tables e below (T.setTop g) target) ∨
    (∃ (q : Addr) (vm₁ : Vm) (B : Pt), s.WarmedH vm₁ ∧ Stand p l e R s m args below meth c B.U B.locs B.cells B.slots ∧ PostX ⟨T.setVm vm₁, locs, cells, slots⟩ (Value.ref b :: argsL).toArray q B ∧
      Steps p.tables e below (T.setTop g) ((B.U.setTop { g with stack := rest }).pushFrame (.throwing q))) := by
  obtain ⟨mk, methM, hnamed, hmethM, hstM, habM⟩ := Cond.instanceMethod_spec hinst
  obtain ⟨methM', cM, hmethM', -, -, -, -, -, -, hsigM⟩ := Cond.code_spec hnamed hcode
  cases hmethM.symm.trans hmethM'
  obtain ⟨c2, r2, m2, q1, q2, q3, q4, kP, hkP, hkPi⟩ := Cond.selects_spec hsel
  cases hcls.symm.trans q1
  cases (State.methodFound?_of_named hnamed hy).symm.trans q2
  cases hnamed.symm.trans q3
  have hselP : selectMethod e.platform s.vm cellB.cls mk = .method mk := by rw [Launch.admits_selectMethod X.admits]; exact q4
  obtain ⟨vm₁, X₁, hstep₁⟩ := X.invokevirtual hexec hown hlink hnamed hmethM hstM hkP hkPi hy (a := b) (cell := cellB) hcell
    (fun z h => by rw [h] at hobj; cases hobj) hselP hmethM habM hkP hkPi (g := g) hg (argsL := argsL) (rest := rest) (hlen _ hsigM) hstack hdg
  rcases hK m meth c ⟨T.setVm vm₁, locs, cells, slots⟩ { g with stack := rest } (.invokevirtual index) mk (Value.ref b :: argsL).toArray X₁ hg hsize hdg hW (X₁.named hnamed) (hpre vm₁ X₁.warmed) with ⟨v, B, X', hpost, hsteps⟩ | ⟨q, B, X', hpost, hsteps⟩
  · exact Or.inl ⟨v, vm₁, B, X₁.warmed, X', hpost, fun target h => hstep₁ _ fun acts => by rw [doInvoke_state]; exact hsteps.trans h⟩
  · exact Or.inr ⟨q, vm₁, B, X₁.warmed, X', hpost, hstep₁ _ fun acts => by rw [doInvoke_state]; exact hsteps⟩
theorem vx_callS (X : Stand p l e R s m args below meth c T locs cells slots) (hexec : p.tables.exec = Jvm.exec) {own : String} {index : Nat} {y : MethodName} {bytes : ByteArray} {maxL : Nat} {ret : Option FieldType}
    (hown : s.vm.findClass own = some m.cls) (hlink : (Cond.methodLink own index y).before args s = true) (hstat : (Cond.static y).before args s = true) (hinit : (Cond.initialized y.cls).before args s = true)
    (hcode : (Cond.code y bytes maxL ret).before args s = true) (hy : y.cls ≠ "java/lang/invoke/MethodHandle" ∧ y.cls ≠ "java/lang/invoke/VarHandle")
    {W9 : Nat} {Pre : Pt → Array Value → Prop} {Post : Pt → Array Value → Option Value → Pt → Prop} {PostX : Pt → Array Value → Addr → Pt → Prop} (hK : vx_Back l R p e below s args y 3 W9 Pre Post PostX)
    {g : JFrame} (hg : g.method = m) (hsize : g.locals.size = c.maxLocals) {argsL rest : List Value} (hlen : ∀ sig, parseMethodDescriptor y.desc = some sig → argsL.length = sig.parameters.length)
    (hstack : g.stack = argsL.reverse ++ rest) (hW : 2 * g.monitorRoom + (rest.map fun v => v.category).sum ≤ W9) (hdg : decode c.code g.pc = .ok (.invokestatic index, 3))
    (hpre : ∀ vm₁, s.WarmedH vm₁ → Pre ⟨T.setVm vm₁, locs, cells, slots⟩ argsL.toArray) :
    (∃ (v : Option Value) (vm₁ : Vm) (B : Pt), s.WarmedH vm₁ ∧ Stand p l e R s m args below meth c B.U B.locs B.cells B.slots ∧ Post ⟨T.setVm vm₁, locs, cells, slots⟩ argsL.toArray v B ∧
      ∀ target, Steps p.tables e below (B.U.setTop { g with pc := g.pc + 3, stack := v.toList ++ rest }) target → Steps p.tables e below (T.setTop g) target) ∨
    (∃ (q : Addr) (vm₁ : Vm) (B : Pt), s.WarmedH vm₁ ∧ Stand p l e R s m args below meth c B.U B.locs B.cells B.slots ∧ PostX ⟨T.setVm vm₁, locs, cells, slots⟩ argsL.toArray q B ∧
      Steps p.tables e below (T.setTop g) ((B.U.setTop { g with stack := rest }).pushFrame (.throwing q))) := by
  obtain ⟨mk, hnamed⟩ := Cond.code_named hcode
  obtain ⟨methM, cM, hmethM, -, -, -, -, -, -, hsigM⟩ := Cond.code_spec hnamed hcode
  have hstatic : methM.isStatic = true := Cond.static_spec hnamed hmethM hstat
  obtain ⟨kP, hkP, -⟩ := className_of_methodNamed hnamed
  have hinitP : kP.init = .initialized := Cond.initialized_spec (findClass_of_methodNamed hnamed) hkP hinit
  obtain ⟨vm₁, X₁, hstep₁⟩ := X.invokestatic hexec hown hlink hnamed hmethM hstatic hkP hinitP hy (g := g) hg (argsL := argsL) (rest := rest) (hlen _ hsigM) hstack hdg
  rcases hK m meth c ⟨T.setVm vm₁, locs, cells, slots⟩ { g with stack := rest } (.invokestatic index) mk argsL.toArray X₁ hg hsize hdg hW (X₁.named hnamed) (hpre vm₁ X₁.warmed) with ⟨v, B, X', hpost, hsteps⟩ | ⟨q, B, X', hpost, hsteps⟩
  · exact Or.inl ⟨v, vm₁, B, X₁.warmed, X', hpost, fun target h => hstep₁ _ fun acts => by rw [doInvoke_state]; exact hsteps.trans h⟩
  · exact Or.inr ⟨q, vm₁, B, X₁.warmed, X', hpost, hstep₁ _ fun acts => by rw [doInvoke_state]; exact hsteps⟩
end Calls
theorem vx_cls {s : State} {T : State} {vm₁ : Vm} {E : String} {k : ClassId} (hW : s.WarmedH vm₁) (h : (T.setVm vm₁).vm.findClass E = some k) : s.vm.findClass E = some k := by
  have h1 : vm₁.findClass E = some k := h
  rw [hW.alike.findClass] at h1
  exact h1
/-- the method's frame g, with q thrown over it -/
def vx_W (p : Program) (l : Launch) (e : Env) (R : Room) (s : State) (m : MethodId) (args : Array Value) (below : List Frame) (meth : Method) (c : Code) (H : Heap) (locs : List Loc) (cells slots : Nat) (Q : State → Prop) (g : JFrame) (q : Addr) : Prop :=
  ∀ T : State, T.heap = H → Stand p l e R s m args below meth c T locs cells slots → ∃ t, Steps p.tables e below ((T.setTop g).pushFrame (.throwing q)) t ∧ Q t
def vx_Run (p : Program) (l : Launch) (e : Env) (R : Room) (s : State) (m : MethodId) (args : Array Value) (below : List Frame) (meth : Method) (c : Code) (H : Heap) (locs : List Loc) (cells slots mc ms : Nat) (g : JFrame) (rest : List Value) (Qa : State → Outcome → State → Prop) (XC : String → State → State → Prop) (free : Addr → Prop) : Prop :=
  ∀ T : State, T.heap = H → Stand p l e R s m args below meth c T locs cells slots →
    (∃ (v : Option Value) (st₀ t T' : State) (L : List Loc), st₀.heap = H ∧ Stand p l e R s m args below meth c T' (locs ++ L) (cells + mc) (slots + ms) ∧ (∀ q ∈ L, free q.base) ∧ T'.heap = t.heap ∧ T'.vm = t.vm ∧ Qa st₀ (.returned v) t ∧
      Goes p e below T g T' { g with pc := g.pc + 3, stack := v.toList ++ rest }) ∨
    (∃ (q : Addr) (st₀ t T' : State) (L : List Loc) (E : String) (ce : Cell), st₀.heap = H ∧ Stand p l e R s m args below meth c T' (locs ++ L) (cells + mc) (slots + ms) ∧ (∀ z ∈ L, free z.base) ∧ T'.heap = t.heap ∧ T'.vm = t.vm ∧ XC E st₀ t ∧ t.heap[q]? = some ce ∧ ce.vm = .none ∧ s.vm.findClass E = some ce.cls ∧
      Steps p.tables e below (T.setTop g) ((T'.setTop { g with stack := rest }).pushFrame (.throwing q)))
def vx_X {S : Type} (px : S → Prop) (B : String → S → State → Prop) (A : Nat → Prop) : String → State → State → Prop := fun E st t => ∃ u : S, px u ∧ B E u t ∧ va_F A st t
section Runs
variable {p : Program} {l : Launch} {e : Env} {R : Room} {s : State} {m : MethodId} {args : Array Value} {below : List Frame} {meth : Method} {c : Code} {H : Heap} {locs : List Loc} {cells slots : Nat}
variable {y : MethodName} {bytes cc : ByteArray} {maxL nL mc ms n index : Nat} {ret : Option FieldType} {ws : List Cond} {rm : Room} {Pc : Array Value → State → Prop} {Qc : Array Value → State → Outcome → State → Prop} {XC : String → State → State → Prop} {free : Addr → Prop} {Ts : List Cond} {own C : String} {b : Addr} {As rest : List Value} {g : JFrame}
theorem vx_callBack (cb : CallB R s args own index y bytes maxL ret ws rm mc ms n) (hM : vx_Met l y ws rm Pc Qc XC mc ms free) (hbl : FrameBlind Pc) : vx_Back l R p e below s args y 3 8 (PreOf R mc ms Pc) (PostOf Qc mc ms free) (vx_Post XC mc ms free) := by
  obtain ⟨hrc, hrs, hfr, hlo, hws, hcw, -, hini, -⟩ := cb
  exact vx_back (bytes := bytes) (maxL := maxL) (ret := ret) hM hbl hrc hrs hfr hlo hws hcw (fun a' U hW => word_at hW (Or.inl (by first | rfl | simp [Cond.onTables, Cond.keeps, Cond.steady])) hini)
theorem vx_runV (S : CallFix p m c cc nL s args Ts own) (hM : vx_Met l y ws rm Pc Qc XC mc ms free) (cw : CallW R s args own C index y bytes maxL ret ws rm mc ms n) (hp : PreV s H C b Pc As)
    (hg : g.method = m) (hn : As.length = n) (hsize : g.locals.size = nL) (hstack : g.stack = As.reverse ++ .ref b :: rest) (hW : 2 * g.monitorRoom + (rest.map fun v => v.category).sum ≤ 8) (hdg : decode cc g.pc = .ok (.invokevirtual index, 3)) (hf : cells + mc ≤ R.cells ∧ slots + ms ≤ R.slots) :
    vx_Run p l e R s m args below meth c H locs cells slots mc ms g rest (Qc (Value.ref b :: As).toArray) XC free := by
  have hK : vx_Back l R p e below s args y 3 8 (PreOf R mc ms Pc) (PostOf Qc mc ms free) (vx_Post XC mc ms free) := vx_callBack cw.1 hM hp.1
  obtain ⟨⟨-, -, -, -, -, -, hcode, -, hy, hlen, hl⟩, hin, hse⟩ := cw
  obtain ⟨hx, hb, hml, ho, -⟩ := S
  obtain ⟨-, ⟨cellB, hcB, hoB, hclB⟩, hPc⟩ := hp
  intro T hT X
  rcases vx_callV X hx (C := C) (bytes := bytes) (maxL := maxL) (ret := ret) ho hl hin hse hcode hy hK (by rw [hT]; exact hcB) hoB hclB hg (hsize.trans hml.symm) (argsL := As) (rest := rest) (fun sig h => hn.trans (hlen sig h)) hstack hW (by rw [hb]; exact hdg)
    (fun vm₁ hW₁ => ⟨hf.1, hf.2, hPc (T.setVm vm₁) hT hW₁⟩) with ⟨v, vm₁, ⟨U', l2, c2, s2⟩, hW₁, X', ⟨g', mk, t, L, e1, e2, hq, h1, hL, h2, h3⟩, st⟩ | ⟨q, vm₁, ⟨U', l2, c2, s2⟩, hW₁, X', ⟨g', mk, t, L, E, ce, e1, e2, hq, hce, hcv, hcl, h1, hL, h2, h3⟩, st⟩
  · dsimp only [Pt.U, Pt.locs, Pt.cells, Pt.slots] at X' e1 e2 h1 h2 h3 st
    subst h1; subst h2; subst h3
    exact Or.inl ⟨v, (T.setVm vm₁).calling g' mk (Value.ref b :: As).toArray, t, U', L, hT, X', hL, e1, e2, hq, st⟩
  · dsimp only [Pt.U, Pt.locs, Pt.cells, Pt.slots] at X' e1 e2 h1 h2 h3 st hcl
    subst h1; subst h2; subst h3
    exact Or.inr ⟨q, (T.setVm vm₁).calling g' mk (Value.ref b :: As).toArray, t, U', L, E, ce, hT, X', hL, e1, e2, hq, hce, hcv, vx_cls hW₁ hcl, st⟩
theorem vx_runS (S : CallFix p m c cc nL s args Ts own) (hM : vx_Met l y ws rm Pc Qc XC mc ms free) (cw : CallB R s args own index y bytes maxL ret ws rm mc ms n ∧ (Cond.static y).before args s = true) (hp : PreS s H Pc As)
    (hg : g.method = m) (hn : As.length = n) (hsize : g.locals.size = nL) (hstack : g.stack = As.reverse ++ rest) (hW : 2 * g.monitorRoom + (rest.map fun v => v.category).sum ≤ 8) (hdg : decode cc g.pc = .ok (.invokestatic index, 3)) (hf : cells + mc ≤ R.cells ∧ slots + ms ≤ R.slots) :
    vx_Run p l e R s m args below meth c H locs cells slots mc ms g rest (Qc As.toArray) XC free := by
  have hK : vx_Back l R p e below s args y 3 8 (PreOf R mc ms Pc) (PostOf Qc mc ms free) (vx_Post XC mc ms free) := vx_callBack cw.1 hM hp.1
  obtain ⟨⟨-, -, -, -, -, -, hcode, hini, hy, hlen, hl⟩, hstt⟩ := cw
  obtain ⟨hx, hb, hml, ho, -⟩ := S
  intro T hT X
  rcases vx_callS X hx (bytes := bytes) (maxL := maxL) (ret := ret) ho hl hstt hini hcode hy hK hg (hsize.trans hml.symm) (argsL := As) (rest := rest) (fun sig h => hn.trans (hlen sig h)) hstack hW (by rw [hb]; exact hdg)
    (fun vm₁ hW₁ => ⟨hf.1, hf.2, hp.2 (T.setVm vm₁) hT hW₁⟩) with ⟨v, vm₁, ⟨U', l2, c2, s2⟩, hW₁, X', ⟨g', mk, t, L, e1, e2, hq, h1, hL, h2, h3⟩, st⟩ | ⟨q, vm₁, ⟨U', l2, c2, s2⟩, hW₁, X', ⟨g', mk, t, L, E, ce, e1, e2, hq, hce, hcv, hcl, h1, hL, h2, h3⟩, st⟩
  · dsimp only [Pt.U, Pt.locs, Pt.cells, Pt.slots] at X' e1 e2 h1 h2 h3 st
    subst h1; subst h2; subst h3
    exact Or.inl ⟨v, (T.setVm vm₁).calling g' mk As.toArray, t, U', L, hT, X', hL, e1, e2, hq, st⟩
  · dsimp only [Pt.U, Pt.locs, Pt.cells, Pt.slots] at X' e1 e2 h1 h2 h3 st hcl
    subst h1; subst h2; subst h3
    exact Or.inr ⟨q, (T.setVm vm₁).calling g' mk As.toArray, t, U', L, E, ce, hT, X', hL, e1, e2, hq, hce, hcv, vx_cls hW₁ hcl, st⟩
end Runs
section Rows
variable {p : Program} {l : Launch} {e : Env} {R : Room} {s : State} {m : MethodId} {args : Array Value} {below : List Frame} {meth : Method} {c : Code} {H : Heap} {locs : List Loc} {cells slots : Nat} {Q : State → Prop}
variable {mc ms : Nat} {free : Addr → Prop} {A0 A1 : Nat → Prop} {H0 : Heap} {a : Array Value} {pc : Nat} {ls : Array Slot} {st0 rest : List Value}
theorem vx_keep {st₀ t T' : State} {L : List Loc} (h0 : st₀.heap = H) (e1 : T'.heap = t.heap) (hS : va_S A0 H0 H locs) (hA : ∀ q, q < H.size → A1 q → A0 q) (hf : ∀ q, free q → A0 q) (hL : ∀ q ∈ L, free q.base) (hF : va_F A1 st₀ t) :
    H.size ≤ T'.heap.size ∧ (∀ q : Nat, q < H.size → ¬ A1 q → T'.heap[q]? = H[q]?) ∧ va_S A0 H0 T'.heap (locs ++ L) := by
  obtain ⟨hz, hk⟩ := hF
  rw [h0] at hz hk
  exact ⟨by rw [e1]; exact hz, fun q h1 h2 => by rw [e1]; exact hk q h1 h2,
    ⟨Nat.le_trans hS.1 (by rw [e1]; exact hz), fun q h1 h2 => by rw [e1, hk q (Nat.lt_of_lt_of_le h1 hS.1) (fun z => h2 (hA q (Nat.lt_of_lt_of_le h1 hS.1) z))]; exact hS.2.1 q h1 h2, fun q hq => by
      rcases List.mem_append.mp hq with h | h
      · exact hS.2.2 q h
      · exact hf _ (hL q h)⟩⟩
theorem vx_calli {S SX : Type} {post : Int32 → S → Prop} {px : SX → Prop} {B : S → State → Prop} {BX : String → SX → State → Prop} {AX : Nat → Prop} (hr : vx_Run p l e R s m args below meth c H locs cells slots mc ms (F0 m pc ls st0) rest (va_Qi post B A1 a) (vx_X px BX AX) free) (hS : va_S A0 H0 H locs) (hA : ∀ q, q < H.size → A1 q → A0 q) (hf : ∀ q, free q → A0 q) (hAX : ∀ q, q < H.size → AX q → A0 q)
    (kx : ∀ (E : String) (ce : Cell) (q9 : Addr) (u : SX) (t : State) (H1 : Heap) (locs1 : List Loc), t.heap = H1 → s.vm.Alike t.vm → px u → BX E u t → H.size ≤ H1.size → (∀ q : Nat, q < H.size → ¬ AX q → H1[q]? = H[q]?) → va_S A0 H0 H1 locs1 → H1[q9]? = some ce → ce.vm = .none → s.vm.findClass E = some ce.cls → vx_W p l e R s m args below meth c H1 locs1 (cells + mc) (slots + ms) Q (F0 m pc ls rest) q9)
    (kk : ∀ (r : Int32) (u : S) (t : State) (H1 : Heap) (locs1 : List Loc), t.heap = H1 → s.vm.Alike t.vm → post r u → B u t → H.size ≤ H1.size → (∀ q : Nat, q < H.size → ¬ A1 q → H1[q]? = H[q]?) → va_S A0 H0 H1 locs1 → W p l e R s m args below meth c H1 locs1 (cells + mc) (slots + ms) Q (F0 m (pc + 3) ls (.int r :: rest))) : W p l e R s m args below meth c H locs cells slots Q (F0 m pc ls st0) := by
  intro T hT X
  rcases hr T hT X with ⟨v, st₀, t, T', L, h0, X', hL, e1, e2, ⟨⟨r, u, hv, hp, hb⟩, hF⟩, st⟩ | ⟨q, st₀, t, T', L, E, ce, h0, X', hL, e1, e2, ⟨u, hp, hb, hF⟩, hce, hcv, hcl, st⟩
  · cases hv
    obtain ⟨k1, k2, k3⟩ := vx_keep h0 e1 hS hA hf hL hF
    obtain ⟨t2, a1, b1⟩ := kk r u t T'.heap (locs ++ L) e1.symm (by rw [← e2]; exact X'.warmed.alike) hp hb k1 k2 k3 T' rfl X'
    exact ⟨t2, st t2 a1, b1⟩
  · obtain ⟨k1, k2, k3⟩ := vx_keep h0 e1 hS hAX hf hL hF
    obtain ⟨t2, a1, b1⟩ := kx E ce q u t T'.heap (locs ++ L) e1.symm (by rw [← e2]; exact X'.warmed.alike) hp hb k1 k2 k3 (by rw [e1]; exact hce) hcv hcl T' rfl X'
    exact ⟨t2, st.trans a1, b1⟩
theorem vx_calll {S SX : Type} {post : Int64 → S → Prop} {px : SX → Prop} {B : S → State → Prop} {BX : String → SX → State → Prop} {AX : Nat → Prop} (hr : vx_Run p l e R s m args below meth c H locs cells slots mc ms (F0 m pc ls st0) rest (va_Ql post B A1 a) (vx_X px BX AX) free) (hS : va_S A0 H0 H locs) (hA : ∀ q, q < H.size → A1 q → A0 q) (hf : ∀ q, free q → A0 q) (hAX : ∀ q, q < H.size → AX q → A0 q)
    (kx : ∀ (E : String) (ce : Cell) (q9 : Addr) (u : SX) (t : State) (H1 : Heap) (locs1 : List Loc), t.heap = H1 → s.vm.Alike t.vm → px u → BX E u t → H.size ≤ H1.size → (∀ q : Nat, q < H.size → ¬ AX q → H1[q]? = H[q]?) → va_S A0 H0 H1 locs1 → H1[q9]? = some ce → ce.vm = .none → s.vm.findClass E = some ce.cls → vx_W p l e R s m args below meth c H1 locs1 (cells + mc) (slots + ms) Q (F0 m pc ls rest) q9)
    (kk : ∀ (r : Int64) (u : S) (t : State) (H1 : Heap) (locs1 : List Loc), t.heap = H1 → s.vm.Alike t.vm → post r u → B u t → H.size ≤ H1.size → (∀ q : Nat, q < H.size → ¬ A1 q → H1[q]? = H[q]?) → va_S A0 H0 H1 locs1 → W p l e R s m args below meth c H1 locs1 (cells + mc) (slots + ms) Q (F0 m (pc + 3) ls (.long r :: rest))) : W p l e R s m args below meth c H locs cells slots Q (F0 m pc ls st0) := by
  intro T hT X
  rcases hr T hT X with ⟨v, st₀, t, T', L, h0, X', hL, e1, e2, ⟨⟨r, u, hv, hp, hb⟩, hF⟩, st⟩ | ⟨q, st₀, t, T', L, E, ce, h0, X', hL, e1, e2, ⟨u, hp, hb, hF⟩, hce, hcv, hcl, st⟩
  · cases hv
    obtain ⟨k1, k2, k3⟩ := vx_keep h0 e1 hS hA hf hL hF
    obtain ⟨t2, a1, b1⟩ := kk r u t T'.heap (locs ++ L) e1.symm (by rw [← e2]; exact X'.warmed.alike) hp hb k1 k2 k3 T' rfl X'
    exact ⟨t2, st t2 a1, b1⟩
  · obtain ⟨k1, k2, k3⟩ := vx_keep h0 e1 hS hAX hf hL hF
    obtain ⟨t2, a1, b1⟩ := kx E ce q u t T'.heap (locs ++ L) e1.symm (by rw [← e2]; exact X'.warmed.alike) hp hb k1 k2 k3 (by rw [e1]; exact hce) hcv hcl T' rfl X'
    exact ⟨t2, st.trans a1, b1⟩
theorem vx_callf {S SX : Type} {post : UInt32 → S → Prop} {px : SX → Prop} {B : S → State → Prop} {BX : String → SX → State → Prop} {AX : Nat → Prop} (hr : vx_Run p l e R s m args below meth c H locs cells slots mc ms (F0 m pc ls st0) rest (va_Qf post B A1 a) (vx_X px BX AX) free) (hS : va_S A0 H0 H locs) (hA : ∀ q, q < H.size → A1 q → A0 q) (hf : ∀ q, free q → A0 q) (hAX : ∀ q, q < H.size → AX q → A0 q)
    (kx : ∀ (E : String) (ce : Cell) (q9 : Addr) (u : SX) (t : State) (H1 : Heap) (locs1 : List Loc), t.heap = H1 → s.vm.Alike t.vm → px u → BX E u t → H.size ≤ H1.size → (∀ q : Nat, q < H.size → ¬ AX q → H1[q]? = H[q]?) → va_S A0 H0 H1 locs1 → H1[q9]? = some ce → ce.vm = .none → s.vm.findClass E = some ce.cls → vx_W p l e R s m args below meth c H1 locs1 (cells + mc) (slots + ms) Q (F0 m pc ls rest) q9)
    (kk : ∀ (r : UInt32) (u : S) (t : State) (H1 : Heap) (locs1 : List Loc), t.heap = H1 → s.vm.Alike t.vm → post r u → B u t → H.size ≤ H1.size → (∀ q : Nat, q < H.size → ¬ A1 q → H1[q]? = H[q]?) → va_S A0 H0 H1 locs1 → W p l e R s m args below meth c H1 locs1 (cells + mc) (slots + ms) Q (F0 m (pc + 3) ls (.float r :: rest))) : W p l e R s m args below meth c H locs cells slots Q (F0 m pc ls st0) := by
  intro T hT X
  rcases hr T hT X with ⟨v, st₀, t, T', L, h0, X', hL, e1, e2, ⟨⟨r, u, hv, hp, hb⟩, hF⟩, st⟩ | ⟨q, st₀, t, T', L, E, ce, h0, X', hL, e1, e2, ⟨u, hp, hb, hF⟩, hce, hcv, hcl, st⟩
  · cases hv
    obtain ⟨k1, k2, k3⟩ := vx_keep h0 e1 hS hA hf hL hF
    obtain ⟨t2, a1, b1⟩ := kk r u t T'.heap (locs ++ L) e1.symm (by rw [← e2]; exact X'.warmed.alike) hp hb k1 k2 k3 T' rfl X'
    exact ⟨t2, st t2 a1, b1⟩
  · obtain ⟨k1, k2, k3⟩ := vx_keep h0 e1 hS hAX hf hL hF
    obtain ⟨t2, a1, b1⟩ := kx E ce q u t T'.heap (locs ++ L) e1.symm (by rw [← e2]; exact X'.warmed.alike) hp hb k1 k2 k3 (by rw [e1]; exact hce) hcv hcl T' rfl X'
    exact ⟨t2, st.trans a1, b1⟩
theorem vx_calld {S SX : Type} {post : UInt64 → S → Prop} {px : SX → Prop} {B : S → State → Prop} {BX : String → SX → State → Prop} {AX : Nat → Prop} (hr : vx_Run p l e R s m args below meth c H locs cells slots mc ms (F0 m pc ls st0) rest (va_Qd post B A1 a) (vx_X px BX AX) free) (hS : va_S A0 H0 H locs) (hA : ∀ q, q < H.size → A1 q → A0 q) (hf : ∀ q, free q → A0 q) (hAX : ∀ q, q < H.size → AX q → A0 q)
    (kx : ∀ (E : String) (ce : Cell) (q9 : Addr) (u : SX) (t : State) (H1 : Heap) (locs1 : List Loc), t.heap = H1 → s.vm.Alike t.vm → px u → BX E u t → H.size ≤ H1.size → (∀ q : Nat, q < H.size → ¬ AX q → H1[q]? = H[q]?) → va_S A0 H0 H1 locs1 → H1[q9]? = some ce → ce.vm = .none → s.vm.findClass E = some ce.cls → vx_W p l e R s m args below meth c H1 locs1 (cells + mc) (slots + ms) Q (F0 m pc ls rest) q9)
    (kk : ∀ (r : UInt64) (u : S) (t : State) (H1 : Heap) (locs1 : List Loc), t.heap = H1 → s.vm.Alike t.vm → post r u → B u t → H.size ≤ H1.size → (∀ q : Nat, q < H.size → ¬ A1 q → H1[q]? = H[q]?) → va_S A0 H0 H1 locs1 → W p l e R s m args below meth c H1 locs1 (cells + mc) (slots + ms) Q (F0 m (pc + 3) ls (.double r :: rest))) : W p l e R s m args below meth c H locs cells slots Q (F0 m pc ls st0) := by
  intro T hT X
  rcases hr T hT X with ⟨v, st₀, t, T', L, h0, X', hL, e1, e2, ⟨⟨r, u, hv, hp, hb⟩, hF⟩, st⟩ | ⟨q, st₀, t, T', L, E, ce, h0, X', hL, e1, e2, ⟨u, hp, hb, hF⟩, hce, hcv, hcl, st⟩
  · cases hv
    obtain ⟨k1, k2, k3⟩ := vx_keep h0 e1 hS hA hf hL hF
    obtain ⟨t2, a1, b1⟩ := kk r u t T'.heap (locs ++ L) e1.symm (by rw [← e2]; exact X'.warmed.alike) hp hb k1 k2 k3 T' rfl X'
    exact ⟨t2, st t2 a1, b1⟩
  · obtain ⟨k1, k2, k3⟩ := vx_keep h0 e1 hS hAX hf hL hF
    obtain ⟨t2, a1, b1⟩ := kx E ce q u t T'.heap (locs ++ L) e1.symm (by rw [← e2]; exact X'.warmed.alike) hp hb k1 k2 k3 (by rw [e1]; exact hce) hcv hcl T' rfl X'
    exact ⟨t2, st.trans a1, b1⟩
theorem vx_callv {S SX : Type} {post : S → Prop} {px : SX → Prop} {B : S → State → Prop} {BX : String → SX → State → Prop} {AX : Nat → Prop} (hr : vx_Run p l e R s m args below meth c H locs cells slots mc ms (F0 m pc ls st0) rest (va_Qv post B A1 a) (vx_X px BX AX) free) (hS : va_S A0 H0 H locs) (hA : ∀ q, q < H.size → A1 q → A0 q) (hf : ∀ q, free q → A0 q) (hAX : ∀ q, q < H.size → AX q → A0 q)
    (kx : ∀ (E : String) (ce : Cell) (q9 : Addr) (u : SX) (t : State) (H1 : Heap) (locs1 : List Loc), t.heap = H1 → s.vm.Alike t.vm → px u → BX E u t → H.size ≤ H1.size → (∀ q : Nat, q < H.size → ¬ AX q → H1[q]? = H[q]?) → va_S A0 H0 H1 locs1 → H1[q9]? = some ce → ce.vm = .none → s.vm.findClass E = some ce.cls → vx_W p l e R s m args below meth c H1 locs1 (cells + mc) (slots + ms) Q (F0 m pc ls rest) q9)
    (kk : ∀ (u : S) (t : State) (H1 : Heap) (locs1 : List Loc), t.heap = H1 → s.vm.Alike t.vm → post u → B u t → H.size ≤ H1.size → (∀ q : Nat, q < H.size → ¬ A1 q → H1[q]? = H[q]?) → va_S A0 H0 H1 locs1 → W p l e R s m args below meth c H1 locs1 (cells + mc) (slots + ms) Q (F0 m (pc + 3) ls (rest))) : W p l e R s m args below meth c H locs cells slots Q (F0 m pc ls st0) := by
  intro T hT X
  rcases hr T hT X with ⟨v, st₀, t, T', L, h0, X', hL, e1, e2, ⟨⟨u, hv, hp, hb⟩, hF⟩, st⟩ | ⟨q, st₀, t, T', L, E, ce, h0, X', hL, e1, e2, ⟨u, hp, hb, hF⟩, hce, hcv, hcl, st⟩
  · cases hv
    obtain ⟨k1, k2, k3⟩ := vx_keep h0 e1 hS hA hf hL hF
    obtain ⟨t2, a1, b1⟩ := kk u t T'.heap (locs ++ L) e1.symm (by rw [← e2]; exact X'.warmed.alike) hp hb k1 k2 k3 T' rfl X'
    exact ⟨t2, st t2 a1, b1⟩
  · obtain ⟨k1, k2, k3⟩ := vx_keep h0 e1 hS hAX hf hL hF
    obtain ⟨t2, a1, b1⟩ := kx E ce q u t T'.heap (locs ++ L) e1.symm (by rw [← e2]; exact X'.warmed.alike) hp hb k1 k2 k3 (by rw [e1]; exact hce) hcv hcl T' rfl X'
    exact ⟨t2, st.trans a1, b1⟩
/-- caught by the row x of this method's table; the rows ahead don't take it -/
theorem vx_catch {own name : String} {E : String} {ce : Cell} {q : Addr} (hown : s.vm.findClass own = some m.cls) (pre : List ExceptionTableEntry) (x : ExceptionTableEntry) (suf : List ExceptionTableEntry) (hsplit : c.exceptionTable.toList = pre ++ x :: suf)
    (hpass : ∀ z ∈ pre, covers z pc = false ∨ (z.catchType ≠ 0 ∧ ∃ nm : String, (Cond.classLink own z.catchType nm).before args s = true ∧ va_Nc E nm s)) (hx : covers x pc = true) (h0 : x.catchType ≠ 0)
    (hlink : (Cond.classLink own x.catchType name).before args s = true) (hcast : (Cond.castable E name).before args s = true) (hcell : H[q]? = some ce) (hv : ce.vm = .none) (hcl : s.vm.findClass E = some ce.cls)
    (kk : W p l e R s m args below meth c H locs cells slots Q (F0 m x.handlerPc ls [.ref q])) : vx_W p l e R s m args below meth c H locs cells slots Q (F0 m pc ls rest) q := by
  intro T hT X
  have hpl : e.platform.magicAccessors = ({} : Platform).magicAccessors := by rw [X.admits.platform]
  obtain ⟨c3, c4, hc3, hc4, hasg⟩ := Cond.castable_spec hcast
  cases Option.some.inj (hc3.symm.trans hcl)
  obtain ⟨c5, hc5, hcl5⟩ := Cond.classLink_spec hown hlink e.platform hpl
  cases Option.some.inj (hc4.symm.trans hc5)
  obtain ⟨vm', X', st⟩ := X.thenCaughtThrough q (g := F0 m pc ls rest) rfl (Steps.refl _) (by rw [hT]; exact hcell) (by rw [hv]; rfl) (by obtain ⟨k9, h9, -⟩ := Vm.findClass_spec hcl; exact ⟨k9, h9⟩) pre x suf hsplit
    (fun z hz => by
      rcases hpass z hz with h | ⟨hz0, nm, hl1, hn1⟩
      · exact Or.inl h
      · obtain ⟨c6, hc6, hcl6⟩ := Cond.classLink_spec hown hl1 e.platform hpl
        obtain ⟨a8, b8, h1, h2, h3⟩ := hn1
        cases Option.some.inj (h1.symm.trans hcl)
        cases Option.some.inj (h2.symm.trans hc6)
        exact Or.inr ⟨hz0, _, hcl6, h3⟩) hx (Or.inr ⟨h0, c4, hcl5, hasg⟩)
  obtain ⟨t, a1, b1⟩ := kk (T.setVm vm') hT X'
  exact ⟨t, st.trans a1, b1⟩
end Rows
section Ends
variable {p : Program} {l : Launch} {e : Env} {R : Room} {s : State} {m : MethodId} {args : Array Value} {below : List Frame} {meth : Method} {c : Code} {H : Heap} {locs : List Loc} {cells slots : Nat} {Q : State → Prop}
variable {mc ms : Nat} {free : Addr → Prop} {A0 A1 : Nat → Prop} {H0 : Heap} {a : Array Value} {ls : Array Slot} {st0 rest : List Value}
variable {Qc : Array Value → State → Outcome → State → Prop} {XC : String → State → State → Prop}
/-- what a body that may throw owes at its end -/
def vx_MQ (below : List Frame) (Qc : Array Value → State → Outcome → State → Prop) (XC : String → State → State → Prop) (a : Array Value) (s : State) (mc ms : Nat) (free : Addr → Prop) : State → Prop := fun t =>
  ∃ o, t.status = .running ∧ Ended t below o ∧ vx_Q Qc XC mc ms free a s o t
theorem vx_ret {g : JFrame} {mc ms : Nat} (k : W p l e R s m args below meth c H locs cells slots (MQ below Qc args s mc ms free) g) : W p l e R s m args below meth c H locs cells slots (vx_MQ below Qc XC args s mc ms free) g := by
  intro T hT X
  obtain ⟨t, a1, o, b1, b2, b3, b4⟩ := k T hT X
  exact ⟨t, a1, o, b1, b2, Or.inl ⟨b3, b4⟩⟩
/-- not caught here: it goes on to the caller -/
theorem vx_widen {g : JFrame} {q : Addr} {k n : Nat} (h1 : cells ≤ k) (h2 : slots ≤ n) (kk : vx_W p l e R s m args below meth c H locs k n Q g q) : vx_W p l e R s m args below meth c H locs cells slots Q g q := fun T hT X => kk T hT (stand_widen X h1 h2)
theorem vx_out {pc : Nat} {E : String} {ce : Cell} {q : Addr} {mc ms : Nat} (hout : ∀ x ∈ c.exceptionTable.toList, covers x pc = false) (hlocks : meth.locks = false) (hcell : H[q]? = some ce) (hv : ce.vm = .none) (hcl : s.vm.findClass E = some ce.cls)
    (hx : ∀ t : State, t.heap = H → s.vm.Alike t.vm → XC E s t) (hf : ∀ z ∈ locs, free z.base) (hc : cells ≤ mc) (hs : slots ≤ ms) :
    vx_W p l e R s m args below meth c H locs cells slots (vx_MQ below Qc XC args s mc ms free) (F0 m pc ls rest) q := by
  intro T hT X
  obtain ⟨st1, hrun, hend, hW, hsm⟩ := X.leaveThrown q (g := F0 m pc ls rest) rfl rfl rfl hout hlocks
  have hcell9 : (T.setFrames (.throwing q :: below)).heap[q]? = some ce := by
    show T.heap[q]? = some ce
    rw [hT]; exact hcell
  exact ⟨_, st1, .threw q, hrun, hend, Or.inr ⟨q, rfl, E, ce, locs, hx _ hT hW.alike, hcell9, hv, hcl, hW, hsm.mono hc hs, hf⟩⟩
theorem vx_frame {U : State} {k n : Nat} (h : s.sameButNew ({ U with vm := s.vm } : State) locs k n) : s.heap.size ≤ U.heap.size ∧ ∀ q : Nat, q < s.heap.size → (∀ z ∈ locs, z.base ≠ q) → U.heap[q]? = s.heap[q]? := by
  obtain ⟨-, h2, -, -, -, h6⟩ := h
  refine ⟨h2, fun q hq hz => ?_⟩
  obtain ⟨c9, e1, e2, e3, e4⟩ := h6 q _ (Array.getElem?_eq_getElem hq)
  have hs : c9.slots = (s.heap[q]).slots := Array.ext_getElem? fun i => e4 i fun hm => hz _ hm rfl
  have h9 : c9 = s.heap[q] := by
    rw [hs] at e2
    exact e2
  have e5 : U.heap[q]? = some c9 := e1
  rw [e5, h9, Array.getElem?_eq_getElem hq]
/-- the words of a throw but the four that speak of the heap -/
def vx_no (w : Cond) : Bool := decide (w ≠ .isRef (.static Bundle.tN "UNASSIGNED_STACK" Bundle.steD)) && decide (w ≠ .isRef (.static Bundle.tN "SUPPRESSED_SENTINEL" Bundle.listD)) && decide (w ≠ .laysStatic Bundle.tN "UNASSIGNED_STACK" Bundle.steD) && decide (w ≠ .laysStatic Bundle.tN "SUPPRESSED_SENTINEL" Bundle.listD)
def vx_at0 (own : String) (ic : Nat) (X : String) (names : List String) : List Cond := (Bundle.ownAtoms0 own ic X names).filter vx_no
def vx_atS (own : String) (ic : Nat) (X : String) (names : List String) : List Cond := (Bundle.ownAtoms own ic X names).filter vx_no
/-- a word that the tables alone decide, or a good one -/
def vx_ot (w : Cond) : Bool := w.onTables || goodWord w
theorem vx_ot_at {args a' : Array Value} {s U : State} {w : Cond} (hW : s.WarmedH U.vm) (hvm : s.vm = U.vm) (hg : vx_ot w = true) (h : w.before args s = true) : w.before a' U = true := by
  simp only [vx_ot, Bool.or_eq_true] at hg
  rcases hg with hg | hg
  · exact va_tabs hg hvm h
  · exact word_at hW (good_of_word hg) h
/-- a list's words: the good ones out of the method's own list, the others by premises of their own -/
theorem vx_hat {args : Array Value} {s : State} {L B : List Cond} (h1 : ∀ w ∈ L.filter goodWord, w.before args s = true) (h2 : ∀ w ∈ L.filter (fun w => !goodWord w), w ∈ B) (h3 : ∀ w ∈ B, w.before args s = true) : ∀ w ∈ L, w.before args s = true := by
  intro w hw
  by_cases g : goodWord w = true
  · exact h1 w (List.mem_filter.mpr ⟨hw, g⟩)
  · refine h3 w (h2 w (List.mem_filter.mpr ⟨hw, ?_⟩))
    show (!goodWord w) = true
    cases hgw : goodWord w
    · rfl
    · exact absurd hgw g
theorem vx_c {args : Array Value} {s : State} {w : Cond} {B : List Cond} (h : w.before args s = true) (t : ∀ w ∈ B, w.before args s = true) : ∀ w' ∈ w :: B, w'.before args s = true := fun w' h' => (List.mem_cons.mp h').elim (fun e => by rw [e]; exact h) (t w')
theorem vx_n {args : Array Value} {s : State} : ∀ w ∈ ([] : List Cond), w.before args s = true := fun _ h => nomatch h
theorem vx_own {args : Array Value} {s : State} {L : List Cond} (h1 : ∀ w ∈ L.filter vx_no, w.before args s = true)
    (hU : (Cond.isRef (.static Bundle.tN "UNASSIGNED_STACK" Bundle.steD)).before args s = true) (hN : (Cond.isRef (.static Bundle.tN "SUPPRESSED_SENTINEL" Bundle.listD)).before args s = true)
    (lU : (Cond.laysStatic Bundle.tN "UNASSIGNED_STACK" Bundle.steD).before args s = true) (lN : (Cond.laysStatic Bundle.tN "SUPPRESSED_SENTINEL" Bundle.listD).before args s = true) : ∀ w ∈ L, w.before args s = true := by
  intro w hw
  by_cases e1 : w = .isRef (.static Bundle.tN "UNASSIGNED_STACK" Bundle.steD)
  · rw [e1]; exact hU
  · by_cases e2 : w = .isRef (.static Bundle.tN "SUPPRESSED_SENTINEL" Bundle.listD)
    · rw [e2]; exact hN
    · by_cases e3 : w = .laysStatic Bundle.tN "UNASSIGNED_STACK" Bundle.steD
      · rw [e3]; exact lU
      · by_cases e4 : w = .laysStatic Bundle.tN "SUPPRESSED_SENTINEL" Bundle.listD
        · rw [e4]; exact lN
        · exact h1 w (List.mem_filter.mpr ⟨hw, by unfold vx_no; rw [decide_eq_true e1, decide_eq_true e2, decide_eq_true e3, decide_eq_true e4]; rfl⟩)
/-- where a static field lies, its class's statics cell in H -/
def vx_L (C n d : String) (A : Nat → Prop) (U : State) (H : Heap) : Prop := ∃ (c : ClassId) (k : Class) (i : Nat) (f : Field) (a : Nat) (cell : Cell), U.vm.findClass C = some c ∧ U.fieldFound? C n d = some (c, k, i, f) ∧ f.isStatic = true ∧ k.statics = some a ∧ H[a]? = some cell ∧ cell.vm.isStatics = true ∧ cell.cls = c ∧ f.slot < cell.slots.size ∧ k.staticTypes[f.slot]? = some f.type ∧ ¬ A a
theorem vx_L.moved {C n d : String} {A : Nat → Prop} {u U : State} {H : Heap} (hvm : u.vm.Alike U.vm) (h : vx_L C n d A u H) : vx_L C n d A U H := by
  obtain ⟨c, k, i, f, a, cell, h1, h2, h3, h4, h5, h6, h7, h8, h9, h10⟩ := h
  obtain ⟨k', hi', he⟩ := State.fieldFound?_setVm hvm h2
  exact ⟨c, k', i, f, a, cell, by rw [hvm.findClass]; exact h1, hi', h3, by rw [he]; exact h4, h5, h6, h7, h8, by rw [he]; exact h9, h10⟩
theorem vx_L.kept {C n d : String} {A : Nat → Prop} {U : State} {H H1 : Heap} (h : vx_L C n d A U H) (hq : ∀ a : Nat, a < H.size → ¬ A a → H1[a]? = H[a]?) : vx_L C n d A U H1 := by
  obtain ⟨c, k, i, f, a, cell, h1, h2, h3, h4, h5, h6, h7, h8, h9, h10⟩ := h
  exact ⟨c, k, i, f, a, cell, h1, h2, h3, h4, by rw [hq a (Array.getElem?_eq_some_iff.mp h5).1 h10]; exact h5, h6, h7, h8, h9, h10⟩
theorem vx_L.narrow {C n d : String} {A B : Nat → Prop} {U : State} {H : Heap} (h : vx_L C n d A U H) (hAB : ∀ q, B q → A q) : vx_L C n d B U H := by
  obtain ⟨c, k, i, f, a, cell, h1, h2, h3, h4, h5, h6, h7, h8, h9, h10⟩ := h
  exact ⟨c, k, i, f, a, cell, h1, h2, h3, h4, h5, h6, h7, h8, h9, fun z => h10 (hAB _ z)⟩
theorem vx_L.word {C n d : String} {A : Nat → Prop} {s : State} {args : Array Value} (h : vx_L C n d A s s.heap) : (Cond.laysStatic C n d).before args s = true := by
  obtain ⟨c, k, i, f, a, cell, h1, h2, h3, h4, h5, h6, h7, h8, h9, -⟩ := h
  show (Cond.laysStatic C n d).holds args s none s [] = true
  exact Cond.laysStatic_of h1 h2 h3 h4 h5 h6 h7 h8 h9
/-- .. and what it holds: null or some reference -/
def vx_Zq (C n d : String) (A : Nat → Prop) (U : State) (H : Heap) : Prop := va_Zq C n d A U H ∧ vx_L C n d A U H
theorem vx_Zq.moved {C n d : String} {A : Nat → Prop} {u U : State} {H : Heap} (hvm : u.vm.Alike U.vm) (h : vx_Zq C n d A u H) : vx_Zq C n d A U H := ⟨va_Zq.moved hvm h.1, vx_L.moved hvm h.2⟩
theorem vx_Zq.kept {C n d : String} {A : Nat → Prop} {U : State} {H H1 : Heap} (h : vx_Zq C n d A U H) (hq : ∀ a : Nat, a < H.size → ¬ A a → H1[a]? = H[a]?) : vx_Zq C n d A U H1 := ⟨va_Zq.kept h.1 hq, vx_L.kept h.2 hq⟩
theorem vx_Zq.narrow {C n d : String} {A B : Nat → Prop} {U : State} {H : Heap} (h : vx_Zq C n d A U H) (hAB : ∀ q, B q → A q) : vx_Zq C n d B U H := ⟨va_Zq.narrow h.1 hAB, vx_L.narrow h.2 hAB⟩
theorem vx_Zqof {args : Array Value} {s : State} {C n d : String} {A : Nat → Prop} (hl : (Cond.laysStatic C n d).before args s = true) (hini : (Cond.initialized C).before args s = true) (h : (Cond.isRef (.static C n d)).before args s = true) (hA : ∀ a : Nat, a < s.heap.size → ¬ A a) : vx_Zq C n d A s s.heap := by
  refine ⟨va_Zqof hl hini h hA, ?_⟩
  obtain ⟨c, k, i, f, a, cell, h1, h2, h3, h4, h5, h6, h7, h8, h9⟩ := Cond.laysStatic_spec hl
  exact ⟨c, k, i, f, a, cell, h1, h2, h3, h4, h5, h6, h7, h8, h9, hA a (Array.getElem?_eq_some_iff.mp h5).1⟩
theorem vx_isRef {C n d : String} {v : Value} {A : Nat → Prop} {s : State} {args : Array Value} (h : va_Z C n d v A s s.heap) (hv : v.isRef = true) : (Cond.isRef (.static C n d)).before args s = true := by
  obtain ⟨cf, kf, fi, f, a, cell, h1, h2, h3, h4, h5, h6, h7, -⟩ := h
  have he : (Term.static C n d).eval args s none [] s = some v := by
    simp [Term.eval, State.fieldNamed?, h1, h2, h4, h5, h6, h7]
  simp only [Cond.before, Cond.holds, Cond.value, he]
  cases v <;> simp_all [Value.isRef]
theorem vx_isRefq {C n d : String} {A : Nat → Prop} {s : State} {args : Array Value} (h : va_Zq C n d A s s.heap) : (Cond.isRef (.static C n d)).before args s = true := by
  rcases h with h | ⟨t, h⟩
  · exact vx_isRef h rfl
  · exact vx_isRef h rfl
/-- the same frame, seen from here: as if the method were called anew in this heap -/
theorem vx_rebase {T : State} (X : Stand p l e R s m args below meth c T locs cells slots) {R' : Room} (hf : R'.frames ≤ R.frames) (hl : R'.locals ≤ R.locals) (hc : cells + R'.cells ≤ R.cells) (hs : slots + R'.slots ≤ R.slots) :
    Stand p l e R' ((T.setVm s.vm).setFrames (.invoking m args :: below)) m args below meth c T [] 0 0 := by
  have htop : (T.setVm s.vm).topJava?.isSome := X.here.top
  have hF : ((T.setVm s.vm).setFrames (.invoking m args :: below)).frames = .invoking m args :: below := State.frames_setFrames _ (State.cur_lt_of_top htop)
  obtain ⟨g₀, hg0⟩ := Option.isSome_iff_exists.mp htop
  obtain ⟨r, hr⟩ := State.topJava?_eq_some.mp hg0
  have hl9 : e.platform.stackLimits (T.setVm s.vm).me = e.platform.stackLimits s.me := X.limits
  have hb9 : (T.setVm s.vm).me.stackBytes = s.me.stackBytes := X.bytes
  refine ⟨X.admits, X.cas, X.clock, hF, ?_, X.hears, X.method, X.code, X.here, X.tail, X.warmed, ?_, ?_, ?_⟩
  · have h := X.room
    have hU : ((T.setVm s.vm).setFrames (.invoking m args :: below)).localsInUse = s.localsInUse := by
      rw [State.localsInUse_invoking hF (meth := meth) (c := c) X.method X.code, State.localsInUse_invoking X.frames X.method X.code]
    simp only [State.hasRoom, Bool.and_eq_true, decide_eq_true_eq] at h ⊢
    obtain ⟨⟨⟨⟨h1, h2, h3, h4, h5, h6⟩, h7⟩, h8⟩, h9⟩ := h
    rw [X.frames, List.length_cons] at h2 h3
    have q1 := X.heapSize
    have q2 := X.used
    simp only [hF, hU, List.length_cons, State.stackLimits_setFrames, State.stackBytes_setFrames, hl9, hb9]
    refine ⟨⟨⟨⟨by omega, by omega, by omega, by omega, by omega, h6⟩, ?_⟩, ?_⟩, X.book⟩
    · show T.heap.size + R'.cells ≤ e.platform.maxCells
      omega
    · show T.slotsUsed + R'.slots ≤ e.platform.maxSlots
      omega
  · rw [State.stackLimits_setFrames]; rfl
  · rw [State.stackBytes_setFrames]; rfl
  · refine ⟨?_, Nat.le_refl _, Nat.le_refl _, ?_, ?_, fun a c9 h9 => ⟨c9, h9, rfl, rfl, fun _ _ => rfl⟩⟩
    · obtain ⟨t, ht, -⟩ := State.frames_cons hr
      show T.setVm s.vm = { ((T.setVm s.vm).setFrames (.invoking m args :: below)).setFrames (T.setVm s.vm).frames with heap := T.heap, slotsUsed := T.slotsUsed }
      rw [State.setFrames_setFrames, State.setFrames_self ht]
      rfl
    · show T.slotsUsed = T.slotsUsed + ((T.heap.toList.drop T.heap.size).map (·.slots.size)).sum
      rw [List.drop_eq_nil_of_le (Nat.le_of_eq Array.length_toList)]
      rfl
    · show ((T.heap.toList.drop T.heap.size).map (·.slots.size)).sum ≤ 0
      rw [List.drop_eq_nil_of_le (Nat.le_of_eq Array.length_toList)]
      exact Nat.le_refl _
/-- 'throw new E()': new; dup; invokespecial; athrow -/
theorem vx_throw0 {cc : ByteArray} {pc : Nat} (hexec : p.tables.exec = Jvm.exec) (hb : c.code = cc) (hl : l.stackTraces = false) {own cls : String} {names : List String} {ik ic mc ms : Nat} {A : Nat → Prop}
    (hown : s.vm.findClass own = some m.cls) (hcls : Bundle.fit cls = true) (hnames : ∀ n ∈ names, Bundle.fit n = true)
    (hk : (Cond.classLink own ik cls).before args s = true) (hini : (Cond.initialized cls).before args s = true) (hat : ∀ w ∈ vx_at0 own ic cls names, w.before args s = true)
    (hgood : ∀ w ∈ Cond.classLink own ik cls :: Cond.initialized cls :: vx_at0 own ic cls names, vx_ot w = true)
    (hU : vx_Zq Bundle.tN "UNASSIGNED_STACK" Bundle.steD A s s.heap) (hN : vx_Zq Bundle.tN "SUPPRESSED_SENTINEL" Bundle.listD A s s.heap) (hS : va_S A s.heap H locs) (hsize : ls.size = c.maxLocals)
    (d0 : decode cc pc = .ok (.new ik, 3)) (d3 : decode cc (pc + 3) = .ok (.dup, 1)) (d4 : decode cc (pc + 4) = .ok (.invokespecial ic, 3)) (d7 : decode cc (pc + 7) = .ok (.athrow, 1))
    (hout : ∀ x ∈ c.exceptionTable.toList, covers x (pc + 7) = false)
    (hRframes : names.length + 3 < R.frames) (hRlocals : (rest.map fun v => v.category).sum + (13 * (names.length + 1) + 42) ≤ R.locals) (hRcells : cells + 1 ≤ R.cells) (hRslots : slots + 6 ≤ R.slots) (hlocks : meth.locks = false)
    (hx : ∀ t : State, s.vm.Alike t.vm → H.size ≤ t.heap.size → (∀ q : Nat, q < H.size → t.heap[q]? = H[q]?) → XC cls s t)
    (hf : ∀ z ∈ locs, free z.base) (hc : cells + 1 ≤ mc) (hs : slots + 6 ≤ ms) :
    W p l e R s m args below meth c H locs cells slots (vx_MQ below Qc XC args s mc ms free) (F0 m pc ls rest) := by
  intro T hT X
  have htr : e.platform.stackTraces = false := (show e.platform.stackTraces = l.stackTraces by rw [X.admits.platform]).trans hl
  have Y := vx_rebase X (R' := { frames := R.frames, locals := R.locals, cells := 1, slots := 6 }) (Nat.le_refl _) (Nat.le_refl _) hRcells hRslots
  obtain ⟨s', hA⟩ : ∃ z, z = (T.setVm s.vm).setFrames (.invoking m args :: below) := ⟨_, rfl⟩
  rw [← hA] at Y
  have hvm : s'.vm = s.vm := by rw [hA]; rfl
  have hhp : s'.heap = H := by rw [hA]; exact hT
  have hW0 : s.WarmedH s'.vm := by rw [hvm]; exact State.WarmedH.refl s
  have hat' : ∀ w ∈ vx_at0 own ic cls names, w.before args s' = true := fun w hw => vx_ot_at hW0 hvm.symm (hgood w (List.mem_cons_of_mem _ (List.mem_cons_of_mem _ hw))) (hat w hw)
  have hk' : (Cond.classLink own ik cls).before args s' = true := vx_ot_at hW0 hvm.symm (hgood _ List.mem_cons_self) hk
  have hini' : (Cond.initialized cls).before args s' = true := vx_ot_at hW0 hvm.symm (hgood _ (List.mem_cons_of_mem _ List.mem_cons_self)) hini
  have hU' : vx_Zq Bundle.tN "UNASSIGNED_STACK" Bundle.steD A s' s'.heap := by rw [hhp]; exact vx_Zq.moved hW0.alike (hU.kept hS.2.1)
  have hN' : vx_Zq Bundle.tN "SUPPRESSED_SENTINEL" Bundle.listD A s' s'.heap := by rw [hhp]; exact vx_Zq.moved hW0.alike (hN.kept hS.2.1)
  have h : ∀ w ∈ Bundle.ownAtoms0 own ic cls names, w.before args s' = true := vx_own hat' (vx_isRefq hU'.1) (vx_isRefq hN'.1) hU'.2.word hN'.2.word
  have hown' : s'.vm.findClass own = some m.cls := by rw [hvm]; exact hown
  have hins : (Cond.instantiable cls 6).before args s' = true := h _ (by simp [Bundle.ownAtoms0])
  obtain ⟨vm₁, cX, kX, hfX, hkX, -, -, X₁, st1⟩ := Y.newCold hexec (own := own) (C := cls) (index := ik) (n := 6) hown' hk' hins hini'
    (g := F0 m pc ls rest) rfl (by rw [hb]; exact d0) (Nat.le_refl _) (Nat.le_refl _)
  generalize hT1 : (T.setVm vm₁).pushCell { cls := cX, slots := kX.instanceTypes.map defaultValue, vm := .none } = T1 at X₁ st1
  have hcat : (Value.ref T.heap.size).category = 1 := rfl
  have hcellA : T1.heap[T.heap.size]? = some (freshCell cX kX) := by rw [← hT1]; exact State.heap_pushCell_size _ _
  have d3' : decode c.code (pc + 3) = .ok (.dup, 1) := by rw [hb]; exact d3
  obtain ⟨U, hsteps, hrun, hend, hW, hsame, ce, hce, hO⟩ := X₁.ctorThrow0 hexec htr (own := own) (cls := cls) (names := names) (ic := ic) hown' hcls hnames h (fun x hx => nomatch hx) hfX hkX hcellA (by rw [hhp, hT]; exact Nat.le_refl _)
    (g := { method := m, pc := pc + 4, locals := ls, stack := .ref T.heap.size :: .ref T.heap.size :: rest, locked := none }) rfl hsize rfl rfl (rest := rest) rfl
    (by rw [hb]; exact d4) (by rw [hb]; exact d7) hout hRframes (by simp only [List.map_cons, List.sum_cons, hcat]; omega) hlocks
  obtain ⟨f1, f2⟩ := vx_frame hsame
  rw [hhp] at f1 f2
  have hWs : s.WarmedH U.vm := State.WarmedH.trans hW0 hW
  have hcl : s.vm.findClass cls = some ce.cls := by
    have h9 := hO.cls
    rw [hvm] at h9
    exact h9
  have hall : s.sameButNew ({ U with vm := s.vm } : State) locs mc ms := by
    subst hA
    obtain ⟨e1, e2⟩ := hsame
    rw [State.setFrames_setFrames] at e1
    have h2 : (T.setVm s.vm).sameButNew ({ U with vm := s.vm } : State) [] (0 + 1) (0 + 6) := ⟨e1, e2⟩
    have h3 := X.same.trans h2
    rw [List.append_nil] at h3
    exact h3.mono hc hs
  refine ⟨U, ?_, .threw T.heap.size, hrun, hend, Or.inr ⟨T.heap.size, rfl, cls, ce, locs, hx U hWs.alike f1 (fun q hq => f2 q hq (fun z hz => nomatch hz)), hce, hO.vm, hcl, hWs, hall, hf⟩⟩
  refine st1 _ ?_
  show Steps p.tables e below (T1.setTop { method := m, pc := pc + 3, locals := ls, stack := .ref T.heap.size :: rest, locked := none }) _
  jvm_step X₁.here [X₁.here.top, hexec, d3', Value.category]
  exact hsteps
/-- 'throw new E("text")': new; dup; ldc; invokespecial; athrow -/
theorem vx_throwS {cc : ByteArray} {pc : Nat} (hexec : p.tables.exec = Jvm.exec) (hb : c.code = cc) (hl : l.stackTraces = false) {own cls text : String} {names : List String} {ik is ic mc ms sa : Nat} {A : Nat → Prop}
    (hown : s.vm.findClass own = some m.cls) (hcls : Bundle.fit cls = true) (hnames : ∀ n ∈ names, Bundle.fit n = true)
    (hk : (Cond.classLink own ik cls).before args s = true) (hini : (Cond.initialized cls).before args s = true) (hstr : vk_R own is text sa s) (hat : ∀ w ∈ vx_atS own ic cls names, w.before args s = true)
    (hgood : ∀ w ∈ Cond.classLink own ik cls :: Cond.initialized cls :: vx_atS own ic cls names, vx_ot w = true)
    (hU : vx_Zq Bundle.tN "UNASSIGNED_STACK" Bundle.steD A s s.heap) (hN : vx_Zq Bundle.tN "SUPPRESSED_SENTINEL" Bundle.listD A s s.heap) (hS : va_S A s.heap H locs) (hsize : ls.size = c.maxLocals)
    (d0 : decode cc pc = .ok (.new ik, 3)) (d3 : decode cc (pc + 3) = .ok (.dup, 1)) (d4 : decode cc (pc + 4) = .ok (.ldc is, 2)) (d6 : decode cc (pc + 6) = .ok (.invokespecial ic, 3)) (d9 : decode cc (pc + 9) = .ok (.athrow, 1))
    (hout : ∀ x ∈ c.exceptionTable.toList, covers x (pc + 9) = false)
    (hRframes : names.length + 3 < R.frames) (hRlocals : (rest.map fun v => v.category).sum + (13 * (names.length + 1) + 43) ≤ R.locals) (hRcells : cells + 1 ≤ R.cells) (hRslots : slots + 6 ≤ R.slots) (hlocks : meth.locks = false)
    (hx : ∀ t : State, s.vm.Alike t.vm → H.size ≤ t.heap.size → (∀ q : Nat, q < H.size → t.heap[q]? = H[q]?) → XC cls s t)
    (hf : ∀ z ∈ locs, free z.base) (hc : cells + 1 ≤ mc) (hs : slots + 6 ≤ ms) :
    W p l e R s m args below meth c H locs cells slots (vx_MQ below Qc XC args s mc ms free) (F0 m pc ls rest) := by
  intro T hT X
  have htr : e.platform.stackTraces = false := (show e.platform.stackTraces = l.stackTraces by rw [X.admits.platform]).trans hl
  have Y := vx_rebase X (R' := { frames := R.frames, locals := R.locals, cells := 1, slots := 6 }) (Nat.le_refl _) (Nat.le_refl _) hRcells hRslots
  obtain ⟨s', hA⟩ : ∃ z, z = (T.setVm s.vm).setFrames (.invoking m args :: below) := ⟨_, rfl⟩
  rw [← hA] at Y
  have hvm : s'.vm = s.vm := by rw [hA]; rfl
  have hhp : s'.heap = H := by rw [hA]; exact hT
  have hW0 : s.WarmedH s'.vm := by rw [hvm]; exact State.WarmedH.refl s
  have hat' : ∀ w ∈ vx_atS own ic cls names, w.before args s' = true := fun w hw => vx_ot_at hW0 hvm.symm (hgood w (List.mem_cons_of_mem _ (List.mem_cons_of_mem _ hw))) (hat w hw)
  have hk' : (Cond.classLink own ik cls).before args s' = true := vx_ot_at hW0 hvm.symm (hgood _ List.mem_cons_self) hk
  have hini' : (Cond.initialized cls).before args s' = true := vx_ot_at hW0 hvm.symm (hgood _ (List.mem_cons_of_mem _ List.mem_cons_self)) hini
  have hU' : vx_Zq Bundle.tN "UNASSIGNED_STACK" Bundle.steD A s' s'.heap := by rw [hhp]; exact vx_Zq.moved hW0.alike (hU.kept hS.2.1)
  have hN' : vx_Zq Bundle.tN "SUPPRESSED_SENTINEL" Bundle.listD A s' s'.heap := by rw [hhp]; exact vx_Zq.moved hW0.alike (hN.kept hS.2.1)
  have h : ∀ w ∈ Bundle.ownAtoms own ic cls names, w.before args s' = true := vx_own hat' (vx_isRefq hU'.1) (vx_isRefq hN'.1) hU'.2.word hN'.2.word
  have hown' : s'.vm.findClass own = some m.cls := by rw [hvm]; exact hown
  have hins : (Cond.instantiable cls 6).before args s' = true := h _ (by simp [Bundle.ownAtoms])
  obtain ⟨vm₁, cX, kX, hfX, hkX, -, -, X₁, st1⟩ := Y.newCold hexec (own := own) (C := cls) (index := ik) (n := 6) hown' hk' hins hini'
    (g := F0 m pc ls rest) rfl (by rw [hb]; exact d0) (Nat.le_refl _) (Nat.le_refl _)
  generalize hT1 : (T.setVm vm₁).pushCell { cls := cX, slots := kX.instanceTypes.map defaultValue, vm := .none } = T1 at X₁ st1
  have hcat : (Value.ref T.heap.size).category = 1 := rfl
  have hcellA : T1.heap[T.heap.size]? = some (freshCell cX kX) := by rw [← hT1]; exact State.heap_pushCell_size _ _
  have d3' : decode c.code (pc + 3) = .ok (.dup, 1) := by rw [hb]; exact d3
  have d4' : decode c.code (pc + 4) = .ok (.ldc is, 2) := by rw [hb]; exact d4
  have hstr' : vk_R own is text sa s' := vk_R.warm hW0 hstr
  obtain ⟨U, hsteps, hrun, hend, hW, hsame, ce, hce, hO⟩ := X₁.ctorThrowS hexec htr (own := own) (cls := cls) (names := names) (ic := ic) hown' hcls hnames h (fun x hx => nomatch hx) hfX hkX hcellA (by rw [hhp, hT]; exact Nat.le_refl _) (msg := .ref sa) rfl
    (g := { method := m, pc := pc + 6, locals := ls, stack := .ref sa :: .ref T.heap.size :: .ref T.heap.size :: rest, locked := none }) rfl hsize rfl rfl (rest := rest) rfl
    (by rw [hb]; exact d6) (by rw [hb]; exact d9) hout hRframes (by simp only [List.map_cons, List.sum_cons, hcat]; omega) hlocks
  obtain ⟨f1, f2⟩ := vx_frame hsame
  rw [hhp] at f1 f2
  have hWs : s.WarmedH U.vm := State.WarmedH.trans hW0 hW
  have hcl : s.vm.findClass cls = some ce.cls := by
    have h9 := hO.cls
    rw [hvm] at h9
    exact h9
  have hall : s.sameButNew ({ U with vm := s.vm } : State) locs mc ms := by
    subst hA
    obtain ⟨e1, e2⟩ := hsame
    rw [State.setFrames_setFrames] at e1
    have h2 : (T.setVm s.vm).sameButNew ({ U with vm := s.vm } : State) [] (0 + 1) (0 + 6) := ⟨e1, e2⟩
    have h3 := X.same.trans h2
    rw [List.append_nil] at h3
    exact h3.mono hc hs
  refine ⟨U, ?_, .threw T.heap.size, hrun, hend, Or.inr ⟨T.heap.size, rfl, cls, ce, locs, hx U hWs.alike f1 (fun q hq => f2 q hq (fun z hz => nomatch hz)), hce, hO.vm, hcl, hWs, hall, hf⟩⟩
  refine st1 _ ?_
  show Steps p.tables e below (T1.setTop { method := m, pc := pc + 3, locals := ls, stack := .ref T.heap.size :: rest, locked := none }) _
  jvm_step X₁.here [X₁.here.top, hexec, d3', Value.category]
  exact X₁.ldcString hexec (own := own) (text := text) (index := is) (a := sa) hown' hstr'.1 hstr'.2
    (g := { method := m, pc := pc + 4, locals := ls, stack := .ref T.heap.size :: .ref T.heap.size :: rest, locked := none }) rfl d4' _ hsteps
/-- 'throw new E("text")', the text by a wide index -/
theorem vx_throwSW {cc : ByteArray} {pc : Nat} (hexec : p.tables.exec = Jvm.exec) (hb : c.code = cc) (hl : l.stackTraces = false) {own cls text : String} {names : List String} {ik is ic mc ms sa : Nat} {A : Nat → Prop}
    (hown : s.vm.findClass own = some m.cls) (hcls : Bundle.fit cls = true) (hnames : ∀ n ∈ names, Bundle.fit n = true)
    (hk : (Cond.classLink own ik cls).before args s = true) (hini : (Cond.initialized cls).before args s = true) (hstr : vk_R own is text sa s) (hat : ∀ w ∈ vx_atS own ic cls names, w.before args s = true)
    (hgood : ∀ w ∈ Cond.classLink own ik cls :: Cond.initialized cls :: vx_atS own ic cls names, vx_ot w = true)
    (hU : vx_Zq Bundle.tN "UNASSIGNED_STACK" Bundle.steD A s s.heap) (hN : vx_Zq Bundle.tN "SUPPRESSED_SENTINEL" Bundle.listD A s s.heap) (hS : va_S A s.heap H locs) (hsize : ls.size = c.maxLocals)
    (d0 : decode cc pc = .ok (.new ik, 3)) (d3 : decode cc (pc + 3) = .ok (.dup, 1)) (d4 : decode cc (pc + 4) = .ok (.ldc_w is, 3)) (d7 : decode cc (pc + 7) = .ok (.invokespecial ic, 3)) (d10 : decode cc (pc + 10) = .ok (.athrow, 1))
    (hout : ∀ x ∈ c.exceptionTable.toList, covers x (pc + 10) = false)
    (hRframes : names.length + 3 < R.frames) (hRlocals : (rest.map fun v => v.category).sum + (13 * (names.length + 1) + 43) ≤ R.locals) (hRcells : cells + 1 ≤ R.cells) (hRslots : slots + 6 ≤ R.slots) (hlocks : meth.locks = false)
    (hx : ∀ t : State, s.vm.Alike t.vm → H.size ≤ t.heap.size → (∀ q : Nat, q < H.size → t.heap[q]? = H[q]?) → XC cls s t)
    (hf : ∀ z ∈ locs, free z.base) (hc : cells + 1 ≤ mc) (hs : slots + 6 ≤ ms) :
    W p l e R s m args below meth c H locs cells slots (vx_MQ below Qc XC args s mc ms free) (F0 m pc ls rest) := by
  intro T hT X
  have htr : e.platform.stackTraces = false := (show e.platform.stackTraces = l.stackTraces by rw [X.admits.platform]).trans hl
  have Y := vx_rebase X (R' := { frames := R.frames, locals := R.locals, cells := 1, slots := 6 }) (Nat.le_refl _) (Nat.le_refl _) hRcells hRslots
  obtain ⟨s', hA⟩ : ∃ z, z = (T.setVm s.vm).setFrames (.invoking m args :: below) := ⟨_, rfl⟩
  rw [← hA] at Y
  have hvm : s'.vm = s.vm := by rw [hA]; rfl
  have hhp : s'.heap = H := by rw [hA]; exact hT
  have hW0 : s.WarmedH s'.vm := by rw [hvm]; exact State.WarmedH.refl s
  have hat' : ∀ w ∈ vx_atS own ic cls names, w.before args s' = true := fun w hw => vx_ot_at hW0 hvm.symm (hgood w (List.mem_cons_of_mem _ (List.mem_cons_of_mem _ hw))) (hat w hw)
  have hk' : (Cond.classLink own ik cls).before args s' = true := vx_ot_at hW0 hvm.symm (hgood _ List.mem_cons_self) hk
  have hini' : (Cond.initialized cls).before args s' = true := vx_ot_at hW0 hvm.symm (hgood _ (List.mem_cons_of_mem _ List.mem_cons_self)) hini
  have hU' : vx_Zq Bundle.tN "UNASSIGNED_STACK" Bundle.steD A s' s'.heap := by rw [hhp]; exact vx_Zq.moved hW0.alike (hU.kept hS.2.1)
  have hN' : vx_Zq Bundle.tN "SUPPRESSED_SENTINEL" Bundle.listD A s' s'.heap := by rw [hhp]; exact vx_Zq.moved hW0.alike (hN.kept hS.2.1)
  have h : ∀ w ∈ Bundle.ownAtoms own ic cls names, w.before args s' = true := vx_own hat' (vx_isRefq hU'.1) (vx_isRefq hN'.1) hU'.2.word hN'.2.word
  have hown' : s'.vm.findClass own = some m.cls := by rw [hvm]; exact hown
  have hins : (Cond.instantiable cls 6).before args s' = true := h _ (by simp [Bundle.ownAtoms])
  obtain ⟨vm₁, cX, kX, hfX, hkX, -, -, X₁, st1⟩ := Y.newCold hexec (own := own) (C := cls) (index := ik) (n := 6) hown' hk' hins hini'
    (g := F0 m pc ls rest) rfl (by rw [hb]; exact d0) (Nat.le_refl _) (Nat.le_refl _)
  generalize hT1 : (T.setVm vm₁).pushCell { cls := cX, slots := kX.instanceTypes.map defaultValue, vm := .none } = T1 at X₁ st1
  have hcat : (Value.ref T.heap.size).category = 1 := rfl
  have hcellA : T1.heap[T.heap.size]? = some (freshCell cX kX) := by rw [← hT1]; exact State.heap_pushCell_size _ _
  have d3' : decode c.code (pc + 3) = .ok (.dup, 1) := by rw [hb]; exact d3
  have d4' : decode c.code (pc + 4) = .ok (.ldc_w is, 3) := by rw [hb]; exact d4
  have hstr' : vk_R own is text sa s' := vk_R.warm hW0 hstr
  obtain ⟨U, hsteps, hrun, hend, hW, hsame, ce, hce, hO⟩ := X₁.ctorThrowS hexec htr (own := own) (cls := cls) (names := names) (ic := ic) hown' hcls hnames h (fun x hx => nomatch hx) hfX hkX hcellA (by rw [hhp, hT]; exact Nat.le_refl _) (msg := .ref sa) rfl
    (g := { method := m, pc := pc + 7, locals := ls, stack := .ref sa :: .ref T.heap.size :: .ref T.heap.size :: rest, locked := none }) rfl hsize rfl rfl (rest := rest) rfl
    (by rw [hb]; exact d7) (by rw [hb]; exact d10) hout hRframes (by simp only [List.map_cons, List.sum_cons, hcat]; omega) hlocks
  obtain ⟨f1, f2⟩ := vx_frame hsame
  rw [hhp] at f1 f2
  have hWs : s.WarmedH U.vm := State.WarmedH.trans hW0 hW
  have hcl : s.vm.findClass cls = some ce.cls := by
    have h9 := hO.cls
    rw [hvm] at h9
    exact h9
  have hall : s.sameButNew ({ U with vm := s.vm } : State) locs mc ms := by
    subst hA
    obtain ⟨e1, e2⟩ := hsame
    rw [State.setFrames_setFrames] at e1
    have h2 : (T.setVm s.vm).sameButNew ({ U with vm := s.vm } : State) [] (0 + 1) (0 + 6) := ⟨e1, e2⟩
    have h3 := X.same.trans h2
    rw [List.append_nil] at h3
    exact h3.mono hc hs
  refine ⟨U, ?_, .threw T.heap.size, hrun, hend, Or.inr ⟨T.heap.size, rfl, cls, ce, locs, hx U hWs.alike f1 (fun q hq => f2 q hq (fun z hz => nomatch hz)), hce, hO.vm, hcl, hWs, hall, hf⟩⟩
  refine st1 _ ?_
  show Steps p.tables e below (T1.setTop { method := m, pc := pc + 3, locals := ls, stack := .ref T.heap.size :: rest, locked := none }) _
  jvm_step X₁.here [X₁.here.top, hexec, d3', Value.category]
  exact X₁.ldcStringW hexec (own := own) (text := text) (index := is) (a := sa) hown' hstr'.1 hstr'.2
    (g := { method := m, pc := pc + 4, locals := ls, stack := .ref T.heap.size :: .ref T.heap.size :: rest, locked := none }) rfl d4' _ hsteps
end Ends
section Bodies
variable {l : Launch}
theorem vx_ofW {y : MethodName} {ws ws' : List Cond} {rm : Room} {Pc : Array Value → State → Prop} {Qc : Array Value → State → Outcome → State → Prop} {XC : String → State → State → Prop} {mc ms : Nat} {free : Addr → Prop} {cc : ByteArray} {maxL : Nat} {ret : Option FieldType}
    (hy : plainName y.cls = true) (hw : ws = Cond.code y cc maxL ret :: ws')
    (body : ∀ p e s m args below meth c s₁, BodyLoose p l y (headSpec ws rm) cc maxL ret e s m args below meth c s₁ → c.maxLocals = maxL → (∀ x ∈ c.exceptionTable.toList, False) → Pc args s →
      W p l e (headSpec ws rm).room s m args below meth c s.heap [] 0 0 (vx_MQ below Qc XC args s mc ms free) (entryFrame m args maxL)) : vx_Met l y ws rm Pc Qc XC mc ms free := by
  refine MetFree.of_bodyS (code := cc) (maxLocals := maxL) (ret := ret) hy ?_ ?_
  · intro args s m h hn
    obtain ⟨meth, c, h1, h2, h3, h4, h5, h6, -, -⟩ := Cond.code_spec hn (atoms_spec (ws := ws) h _ (by rw [hw]; exact List.mem_cons_self))
    exact ⟨meth, c, h1, h2, h3, h4, h5, h6⟩
  · intro p e s m args below meth c s₁ B hml hP _
    have hh0 : s₁.heap = s.heap := by rw [B.state]; rfl
    have ht : ∀ x ∈ c.exceptionTable.toList, False := by
      obtain ⟨meth9, c9, h1, h2, -, -, -, -, h7, -⟩ := Cond.code_spec B.named (atoms_spec (ws := ws) B.pre _ (by rw [hw]; exact List.mem_cons_self))
      cases Option.some.inj (h1.symm.trans B.method)
      cases Option.some.inj (h2.symm.trans (Stand.of_body B).code)
      intro x hx
      rw [Array.isEmpty_iff.mp h7] at hx
      cases hx
    obtain ⟨t, a1, o, b1, b2, b3⟩ := body p e s m args below meth c s₁ B hml ht hP s₁ hh0 (Stand.of_body B)
    exact ⟨t, o, a1, b1, b2, b3⟩
/-- the table of a body with handlers -/
theorem vx_table {p : Program} {x y : MethodName} {S : Spec} {cc bytes : ByteArray} {maxL maxL' : Nat} {ret ret' : Option FieldType} {e : Env} {s s₁ : State} {m : MethodId} {args : Array Value} {below : List Frame} {meth : Method} {c : Code} {hh : List (Nat × Nat × Nat × Nat)}
    (B : BodyLoose p l y S cc maxL ret e s m args below meth c s₁) (h : (Cond.codeWith y bytes maxL' ret' hh).before args s = true) : c.exceptionTable.toList = tableOf hh := by
  obtain ⟨m9, meth9, c9, hn9, h1, h2, -, -, h6, -⟩ := Cond.codeWith_spec h
  cases Option.some.inj (hn9.symm.trans B.named)
  cases Option.some.inj (h1.symm.trans B.method)
  cases Option.some.inj (h2.symm.trans (Stand.of_body B).code)
  rw [← h6, table_eq]
end Bodies
end VXA
/-! ===== END ===== -/
/-! ===== BEGIN a static call of a method with an exception table ===== -/
section VXS
variable {p : Program} {l : Launch} {e : Env} {R : Room} {s : State} {m : MethodId} {args : Array Value} {below : List Frame} {meth : Method} {c : Code} {T : State} {H : Heap} {locs : List Loc} {cells slots : Nat}
abbrev vx_CSW (R : Room) (s : State) (args : Array Value) (own : String) (index : Nat) (y : MethodName) (bytes : ByteArray) (maxL : Nat) (ret : Option FieldType) (hh : List (Nat × Nat × Nat × Nat)) (ws : List Cond) (rm : Room) (mc ms n : Nat) : Prop :=
  (rm.cells = mc ∧ rm.slots = ms ∧ rm.frames + 1 ≤ R.frames ∧ 8 + (maxL + 11) + rm.locals ≤ R.locals ∧ (∀ w ∈ ws, ∀ (a' : Array Value) (U : State), s.WarmedH U.vm → w.before a' U = true) ∧ Cond.codeWith y bytes maxL ret hh ∈ ws) ∧
  (Cond.codeWith y bytes maxL ret hh).before args s = true ∧ (Cond.initialized y.cls).before args s = true ∧ (y.cls ≠ "java/lang/invoke/MethodHandle" ∧ y.cls ≠ "java/lang/invoke/VarHandle") ∧
  (∀ sig, parseMethodDescriptor y.desc = some sig → n = sig.parameters.length) ∧ (Cond.methodLink own index y).before args s = true ∧ (Cond.static y).before args s = true
theorem vx_cwSW {own : String} {index maxL mc ms : Nat} {y : MethodName} {bytes : ByteArray} {ret : Option FieldType} {hh : List (Nat × Nat × Nat × Nat)} {Ts ws ws' : List Cond} {rm : Room} (n : Nat) (ht : ∀ w ∈ Ts, w.before args s = true) (hT : GoodIn Ts (va_wsS own index y ws)) (hw : ws = Cond.codeWith y bytes maxL ret hh :: ws') (hrc : rm.cells = mc) (hrs : rm.slots = ms)
    (hd : y.cls ≠ "java/lang/invoke/MethodHandle" ∧ y.cls ≠ "java/lang/invoke/VarHandle" ∧ (parseMethodDescriptor y.desc).map (fun d => d.parameters.length) = some n) (hR : rm.frames + 1 ≤ R.frames ∧ 8 + (maxL + 11) + rm.locals ≤ R.locals) :
    vx_CSW R s args own index y bytes maxL ret hh ws rm mc ms n := by
  have ok : ∀ w ∈ va_wsS own index y ws, w.before args s = true := fun w h => ht w (hT w h).1
  have hG : GoodIn Ts ws := fun w h => hT w (by unfold va_wsS; exact List.mem_append_right _ h)
  have hc : Cond.codeWith y bytes maxL ret hh ∈ ws := by rw [hw]; exact List.mem_cons_self
  refine ⟨⟨hrc, hrs, hR.1, hR.2, pay_in ht hG, hc⟩, ht _ (hG _ hc).1, ok _ (by simp [va_wsS]), ⟨hd.1, hd.2.1⟩, fun sig h => ?_, ok _ (by simp [va_wsS]), ok _ (by simp [va_wsS])⟩
  have h2 := hd.2.2
  rw [h] at h2
  exact (Option.some.inj h2).symm
theorem vx_callSW (X : Stand p l e R s m args below meth c T locs cells slots) (hexec : p.tables.exec = Jvm.exec) {own : String} {index : Nat} {y : MethodName} {bytes : ByteArray} {maxL : Nat} {ret : Option FieldType} {hh : List (Nat × Nat × Nat × Nat)}
    (hown : s.vm.findClass own = some m.cls) (hlink : (Cond.methodLink own index y).before args s = true) (hstat : (Cond.static y).before args s = true) (hinit : (Cond.initialized y.cls).before args s = true)
    (hcode : (Cond.codeWith y bytes maxL ret hh).before args s = true) (hy : y.cls ≠ "java/lang/invoke/MethodHandle" ∧ y.cls ≠ "java/lang/invoke/VarHandle")
    {W9 : Nat} {Pre : Pt → Array Value → Prop} {Post : Pt → Array Value → Option Value → Pt → Prop} (hK : Back l R p e below s args y 3 W9 Pre Post)
    {g : JFrame} (hg : g.method = m) (hsize : g.locals.size = c.maxLocals) {argsL rest : List Value} (hlen : ∀ sig, parseMethodDescriptor y.desc = some sig → argsL.length = sig.parameters.length)
    (hstack : g.stack = argsL.reverse ++ rest) (hW : 2 * g.monitorRoom + (rest.map fun v => v.category).sum ≤ W9) (hdg : decode c.code g.pc = .ok (.invokestatic index, 3))
    (hpre : ∀ vm₁, s.WarmedH vm₁ → Pre ⟨T.setVm vm₁, locs, cells, slots⟩ argsL.toArray) :
    ∃ (v : Option Value) (vm₁ : Vm) (B : Pt), s.WarmedH vm₁ ∧ Stand p l e R s m args below meth c B.U B.locs B.cells B.slots ∧ Post ⟨T.setVm vm₁, locs, cells, slots⟩ argsL.toArray v B ∧
      ∀ target, Steps p.tables e below (B.U.setTop { g with pc := g.pc + 3, stack := v.toList ++ rest }) target → Steps p.tables e below (T.setTop g) target := by
  obtain ⟨mk, methM, cM, hnamed, hmethM, -, -, -, -, -, -, hsigM⟩ := Cond.codeWith_spec hcode
  have hstatic : methM.isStatic = true := Cond.static_spec hnamed hmethM hstat
  obtain ⟨kP, hkP, -⟩ := className_of_methodNamed hnamed
  have hinitP : kP.init = .initialized := Cond.initialized_spec (findClass_of_methodNamed hnamed) hkP hinit
  obtain ⟨vm₁, X₁, hstep₁⟩ := X.invokestatic hexec hown hlink hnamed hmethM hstatic hkP hinitP hy (g := g) hg (argsL := argsL) (rest := rest) (hlen _ hsigM) hstack hdg
  obtain ⟨v, B, X', hpost, hsteps⟩ := hK m meth c ⟨T.setVm vm₁, locs, cells, slots⟩ { g with stack := rest } (.invokestatic index) mk argsL.toArray X₁ hg hsize hdg hW (X₁.named hnamed) (hpre vm₁ X₁.warmed)
  exact ⟨v, vm₁, B, X₁.warmed, X', hpost, fun target h => hstep₁ _ fun acts => by rw [doInvoke_state]; exact hsteps.trans h⟩
theorem vx_runSW {y : MethodName} {bytes cc : ByteArray} {maxL nL mc ms n index : Nat} {ret : Option FieldType} {hh : List (Nat × Nat × Nat × Nat)} {ws : List Cond} {rm : Room} {Pc : Array Value → State → Prop} {Qc : Array Value → State → Outcome → State → Prop} {free : Addr → Prop} {Ts : List Cond} {own : String} {As rest : List Value} {g : JFrame}
    (S : CallFix p m c cc nL s args Ts own) (hM : Met l y ws rm Pc Qc mc ms free) (cw : vx_CSW R s args own index y bytes maxL ret hh ws rm mc ms n) (hp : PreS s H Pc As)
    (hg : g.method = m) (hn : As.length = n) (hsize : g.locals.size = nL) (hstack : g.stack = As.reverse ++ rest) (hW : 2 * g.monitorRoom + (rest.map fun v => v.category).sum ≤ 8) (hdg : decode cc g.pc = .ok (.invokestatic index, 3)) (hf : cells + mc ≤ R.cells ∧ slots + ms ≤ R.slots) :
    va_Run p l e R s m args below meth c H locs cells slots mc ms g rest (Qc As.toArray) (free) := by
  obtain ⟨⟨hrc, hrs, hfr, hlo, hws, hcw⟩, hcode, hini, hy, hlen, hl, hstt⟩ := cw
  have hK : Back l R p e below s args y 3 8 (PreOf R mc ms Pc) (PostOf Qc mc ms free) := va_backW (hh := hh) (bytes := bytes) (maxL := maxL) (ret := ret) hM hp.1 hrc hrs hfr hlo hws hcw (fun a' U hW => word_at hW (Or.inl (by first | rfl | simp [Cond.onTables, Cond.keeps, Cond.steady])) hini)
  obtain ⟨hx, hb, hml, ho, -⟩ := S
  intro T hT X
  obtain ⟨v, vm₁, ⟨U', l2, c2, s2⟩, hW₁, X', ⟨g', mk, t, L, e1, e2, hq, h1, hL, h2, h3⟩, st⟩ := vx_callSW X hx (hh := hh) (bytes := bytes) (maxL := maxL) (ret := ret) ho hl hstt hini hcode hy hK hg (hsize.trans hml.symm) (argsL := As) (rest := rest) (fun sig h => hn.trans (hlen sig h)) hstack hW (by rw [hb]; exact hdg)
    (fun vm₁ hW₁ => ⟨hf.1, hf.2, hp.2 (T.setVm vm₁) hT hW₁⟩)
  dsimp only [Pt.U, Pt.locs, Pt.cells, Pt.slots] at X' e1 e2 h1 h2 h3 st
  subst h1; subst h2; subst h3
  exact ⟨v, (T.setVm vm₁).calling g' mk As.toArray, t, U', L, hT, X', hL, e1, e2, hq, st⟩
/-- not caught here, past rows that name other classes: it goes on to the caller -/
theorem vx_outP {p : Program} {l : Launch} {e : Env} {R : Room} {s : State} {m : MethodId} {args : Array Value} {below : List Frame} {meth : Method} {c : Code} {H : Heap} {locs : List Loc} {cells slots : Nat} {free : Addr → Prop} {ls : Array Slot} {rest : List Value} {Qc : Array Value → State → Outcome → State → Prop} {XC : String → State → State → Prop}
    {pc : Nat} {own E : String} {ce : Cell} {q : Addr} {mc ms : Nat} (hown : s.vm.findClass own = some m.cls) (hlocks : meth.locks = false)
    (hpass : ∀ z ∈ c.exceptionTable.toList, covers z pc = false ∨ (z.catchType ≠ 0 ∧ ∃ nm : String, (Cond.classLink own z.catchType nm).before args s = true ∧ va_Nc E nm s)) (hcell : H[q]? = some ce) (hv : ce.vm = .none) (hcl : s.vm.findClass E = some ce.cls)
    (hx : ∀ t : State, t.heap = H → s.vm.Alike t.vm → XC E s t) (hf : ∀ z ∈ locs, free z.base) (hc : cells ≤ mc) (hs : slots ≤ ms) :
    vx_W p l e R s m args below meth c H locs cells slots (vx_MQ below Qc XC args s mc ms free) (F0 m pc ls rest) q := by
  intro T hT X
  have hpl : e.platform.magicAccessors = ({} : Platform).magicAccessors := by rw [X.admits.platform]
  obtain ⟨vm', hW', X', st⟩ := X.outThrough hlocks q (g := F0 m pc ls rest) rfl rfl rfl (cell := ce) (by rw [hT]; exact hcell) (by rw [hv]; rfl)
    (by obtain ⟨k9, h9, -⟩ := Vm.findClass_spec hcl; exact ⟨k9, h9⟩) (fun z hz => by
      rcases hpass z hz with h | ⟨hz0, nm, hl1, hn1⟩
      · exact Or.inl h
      · obtain ⟨c6, hc6, hcl6⟩ := Cond.classLink_spec hown hl1 e.platform hpl
        obtain ⟨a8, b8, h1, h2, h3⟩ := hn1
        cases Option.some.inj (h1.symm.trans hcl)
        cases Option.some.inj (h2.symm.trans hc6)
        exact Or.inr ⟨hz0, _, hcl6, h3⟩)
  obtain ⟨g₀, hfr⟩ := X'.frames_eq
  have hcell9 : ((T.setVm vm').setFrames (.throwing q :: below)).heap[q]? = some ce := by
    show T.heap[q]? = some ce
    rw [hT]; exact hcell
  have hend : Ended ((T.setVm vm').setFrames (.throwing q :: below)) below (.threw q) := State.frames_setFrames _ (State.cur_lt_of_frames hfr)
  refine ⟨(T.setVm vm').setFrames (.throwing q :: below), ?_, .threw q, X'.here.running, hend, Or.inr ⟨q, rfl, E, ce, locs, hx _ hT (X'.ends _).1.alike, hcell9, hv, hcl, (X'.ends _).1, (X'.ends _).2.mono hc hs, hf⟩⟩
  rw [X.pushThrowing_eq]
  exact st
/-- a thing of a world lies in the heap -/
theorem vx_lt {D : va_G} {cl : List vw_C} {ws : va_W} {H1 : Heap} (h : va_P D cl ws H1) {k : Nat} {q : Nat × va_E} (hk : ws[k]? = some q) : q.1 < H1.size := (h k q hk).lt
end VXS
/-! ===== END ===== -/
/-! ===== BEGIN methods with a table of their own: called by a name, returning or throwing ===== -/
section VXH
/-! vx_backW, vx_callVX, vx_callSX, vx_callVW, vx_runVW, vx_runVX, vx_runSX, vx_ofWH follow the same proofs as their sisters above (Free/Laws.lean, Shelf42/LK1.lean); vx_outP calls Shelf42/NT130.lean (outThrough). -/
section
variable {l : Launch} {R : Room} {p : Program} {e : Env} {below : List Frame} {s : State} {sargs : Array Value} {y : MethodName} {len W9 : Nat}
theorem vx_backW {ws : List Cond} {rm : Room} {Pc : Array Value → State → Prop} {Qc : Array Value → State → Outcome → State → Prop} {XC : String → State → State → Prop} {mc ms : Nat} {free : Addr → Prop} {bytes : ByteArray} {maxL : Nat} {ret : Option FieldType} {hh : List (Nat × Nat × Nat × Nat)}
    (hM : vx_Met l y ws rm Pc Qc XC mc ms free) (hblind : FrameBlind Pc) (hrc : rm.cells = mc) (hrs : rm.slots = ms)
    (hframes : rm.frames + 1 ≤ R.frames) (hlocals : W9 + (maxL + 11) + rm.locals ≤ R.locals)
    (hws : ∀ w ∈ ws, ∀ a' U, s.WarmedH U.vm → w.before a' U = true) (hcode : Cond.codeWith y bytes maxL ret hh ∈ ws) (hinit : ∀ a' U, s.WarmedH U.vm → (Cond.initialized y.cls).before a' U = true) :
    vx_Back l R p e below s sargs y len W9 (PreOf R mc ms Pc) (PostOf Qc mc ms free) (vx_Post XC mc ms free) := by
  intro m meth c A g ig mk a X hg hsize hdg hW hn hp
  have h1 : (headSpec ws rm).pre.before a A.U = true := atoms_intro fun w hw => hws w hw _ _ X.warmed
  have h2 : (Cond.codeWith y bytes maxL ret hh).before a A.U = true := hws _ hcode _ _ X.warmed
  have h3 : (Cond.initialized y.cls).before a A.U = true := hinit _ _ X.warmed
  have h4 : A.cells + (headSpec ws rm).room.cells ≤ R.cells := by rw [show (headSpec ws rm).room.cells = mc from hrc]; exact hp.1
  have h5 : A.slots + (headSpec ws rm).room.slots ≤ R.slots := by rw [show (headSpec ws rm).room.slots = ms from hrs]; exact hp.2.1
  have hPc : Pc a (A.U.calling g mk a) := hblind _ _ _ _ hp.2.2
  obtain ⟨U, Ls, c0, s0⟩ := A
  dsimp only [Pt.U, Pt.locs, Pt.cells, Pt.slots] at h1 h2 h3 h4 h5 X hn hPc ⊢
  obtain ⟨m9, methY, cY, hn9, hmY, hcY, -, hlY, -⟩ := Cond.codeWith_spec h2
  cases Option.some.inj (hn9.symm.trans hn)
  obtain ⟨kY, hkY, -⟩ := className_of_methodNamed hn
  have hinitY : kY.init = .initialized := Cond.initialized_spec (findClass_of_methodNamed hn) hkY h3
  have h : At U g.method c below := by rw [hg]; exact X.here
  have hlocals9 : W9 + (maxL + 11) + (headSpec ws rm).room.locals ≤ R.locals := hlocals
  have happ : (headSpec ws rm).appliesLoose y e.platform (U.calling g mk a) = true :=
    Spec.appliesLoose_calling (g := g) h hdg hn hkY hinitY
      (X.room_calling (g := g) (R' := (headSpec ws rm).room) hsize hmY hcY hframes (by rw [hlY]; omega) h4 h5) h1
  obtain ⟨mid, hmid⟩ := h.above
  have hfr : (U.setTop g).frames = (.java g :: mid) ++ below := by rw [State.frames_setTop' g h.top, hmid]; rfl
  obtain ⟨o, s₂, hsteps, -, hend, hq⟩ := Steps.callFree hM p X.admits X.cas X.clock (acts := []) hfr happ hPc trivial
  have hq' : vx_Q Qc XC mc ms free a (U.calling g mk a) o s₂ := hq
  rw [State.frames_setTop' g h.top] at hend
  obtain ⟨g₀, hg0⟩ := Option.isSome_iff_exists.mp h.top
  obtain ⟨r, hr⟩ := State.topJava?_eq_some.mp hg0
  have hr' : (({ U with heap := s₂.heap, slotsUsed := s₂.slotsUsed } : State).setVm s₂.vm).frames = .java g₀ :: r := hr
  rcases hq' with ⟨hqc, L, hfe, hL⟩ | ⟨q, rfl, E, ce, L, hx, hce, hcv, hcl, hW₂, hsm, hL⟩
  · obtain ⟨⟨v, rfl⟩, hW₂, e2, q2, q3, q4, q5, q6⟩ := id hfe
    have e3 : s₂ = ({ (U.calling g mk a).setFrames s₂.frames with heap := s₂.heap, slotsUsed := s₂.slotsUsed } : State).setVm s₂.vm := by
      have : s₂ = ({ s₂ with vm := (U.calling g mk a).vm } : State).setVm s₂.vm := rfl
      rw [e2] at this
      exact this
    obtain ⟨c₂, i₂, len₂, hc₂, hd₂, hf₂⟩ := hend
    have hW' : U.WarmedH s₂.vm := hW₂
    have hcc : c₂ = c := by
      have h1 : s₂.code? g.method = U.code? g.method := by
        rw [State.code?_eq, State.code?_eq, hW'.alike.method?]
      exact Option.some.inj (hc₂.symm.trans (h1.trans h.code))
    subst hcc
    have hlen : len₂ = len := by rw [hdg] at hd₂; cases hd₂; rfl
    subst hlen
    have hs₂ : s₂ = (({ U with heap := s₂.heap, slotsUsed := s₂.slotsUsed } : State).setVm s₂.vm).setTop { g with pc := g.pc + len₂, stack := v.toList ++ g.stack } := by
      refine e3.trans ?_
      rw [hf₂, State.calling_eq h.top, State.setFrames_setFrames, State.setTop_of_frames _ hr', hr]
      rfl
    have hsame : U.sameButNew ({ U with heap := s₂.heap, slotsUsed := s₂.slotsUsed } : State) L mc ms := by
      refine ⟨?_, q2, q3, q4, q5, q6⟩
      obtain ⟨t, ht, -⟩ := State.frames_cons hr
      show ({ U with heap := s₂.heap, slotsUsed := s₂.slotsUsed } : State) = { U.setFrames U.frames with heap := s₂.heap, slotsUsed := s₂.slotsUsed }
      rw [State.setFrames_self ht]
    subst hg
    refine Or.inl ⟨v, ⟨(({ U with heap := s₂.heap, slotsUsed := s₂.slotsUsed } : State).setVm s₂.vm), Ls ++ L, c0 + mc, s0 + ms⟩,
      ⟨X.admits, X.cas, X.clock, X.frames, X.room, X.hears, X.method, X.code, (X.here.setHeapUsed s₂.heap s₂.slotsUsed).setVm hW'.alike, X.tail, State.WarmedH.trans X.warmed hW', X.limits, X.bytes, X.same.trans (hsame.setVm s.vm)⟩,
      ⟨g, mk, s₂, L, rfl, rfl, hqc, rfl, hL, rfl, rfl⟩, ?_⟩
    show Steps p.tables e below _ ((({ U with heap := s₂.heap, slotsUsed := s₂.slotsUsed } : State).setVm s₂.vm).setTop { g with pc := g.pc + len₂, stack := v.toList ++ g.stack })
    rw [← hs₂]
    exact hsteps
  · obtain ⟨e2, q2, q3, q4, q5, q6⟩ := id hsm
    have e3 : s₂ = ({ (U.calling g mk a).setFrames s₂.frames with heap := s₂.heap, slotsUsed := s₂.slotsUsed } : State).setVm s₂.vm := by
      have : s₂ = ({ s₂ with vm := (U.calling g mk a).vm } : State).setVm s₂.vm := rfl
      rw [e2] at this
      exact this
    have hf₂ : s₂.frames = .throwing q :: .java g :: U.frames.tail := hend
    have hW' : U.WarmedH s₂.vm := hW₂
    have hs₂ : s₂ = ((({ U with heap := s₂.heap, slotsUsed := s₂.slotsUsed } : State).setVm s₂.vm).setTop g).pushFrame (.throwing q) := by
      refine e3.trans ?_
      rw [hf₂, State.calling_eq h.top, State.setFrames_setFrames, State.pushFrame, State.frames_setTop _ hr', State.setTop_of_frames _ hr', State.setFrames_setFrames, hr]
      rfl
    have hsame : U.sameButNew ({ U with heap := s₂.heap, slotsUsed := s₂.slotsUsed } : State) L mc ms := by
      refine ⟨?_, q2, q3, q4, q5, q6⟩
      obtain ⟨t, ht, -⟩ := State.frames_cons hr
      show ({ U with heap := s₂.heap, slotsUsed := s₂.slotsUsed } : State) = { U.setFrames U.frames with heap := s₂.heap, slotsUsed := s₂.slotsUsed }
      rw [State.setFrames_self ht]
    subst hg
    refine Or.inr ⟨q, ⟨(({ U with heap := s₂.heap, slotsUsed := s₂.slotsUsed } : State).setVm s₂.vm), Ls ++ L, c0 + mc, s0 + ms⟩,
      ⟨X.admits, X.cas, X.clock, X.frames, X.room, X.hears, X.method, X.code, (X.here.setHeapUsed s₂.heap s₂.slotsUsed).setVm hW'.alike, X.tail, State.WarmedH.trans X.warmed hW', X.limits, X.bytes, X.same.trans (hsame.setVm s.vm)⟩,
      ⟨g, mk, s₂, L, E, ce, rfl, rfl, hx, hce, hcv, hcl, rfl, hL, rfl, rfl⟩, ?_⟩
    show Steps p.tables e below _ (((({ U with heap := s₂.heap, slotsUsed := s₂.slotsUsed } : State).setVm s₂.vm).setTop g).pushFrame (.throwing q))
    rw [← hs₂]
    exact hsteps
end
variable {p : Program} {l : Launch} {e : Env} {R : Room} {s : State} {m : MethodId} {args : Array Value} {below : List Frame} {meth : Method} {c : Code} {T : State} {H : Heap} {locs : List Loc} {cells slots : Nat}
theorem vx_callVX (X : Stand p l e R s m args below meth c T locs cells slots) (hexec : p.tables.exec = Jvm.exec) {own C : String} {index : Nat} {y : MethodName} {bytes : ByteArray} {maxL : Nat} {ret : Option FieldType} {hh : List (Nat × Nat × Nat × Nat)}
    (hown : s.vm.findClass own = some m.cls) (hlink : (Cond.methodLink own index y).before args s = true) (hinst : (Cond.instanceMethod y).before args s = true) (hsel : (Cond.selects C y y).before args s = true)
    (hcode : (Cond.codeWith y bytes maxL ret hh).before args s = true) (hy : y.cls ≠ "java/lang/invoke/MethodHandle" ∧ y.cls ≠ "java/lang/invoke/VarHandle")
    {W9 : Nat} {Pre : Pt → Array Value → Prop} {Post : Pt → Array Value → Option Value → Pt → Prop} {PostX : Pt → Array Value → Addr → Pt → Prop} (hK : vx_Back l R p e below s args y 3 W9 Pre Post PostX)
    {b : Addr} {cellB : Cell} (hcell : T.heap[b]? = some cellB) (hobj : cellB.vm.isStatics = false) (hcls : s.vm.findClass C = some cellB.cls)
    {g : JFrame} (hg : g.method = m) (hsize : g.locals.size = c.maxLocals) {argsL rest : List Value} (hlen : ∀ sig, parseMethodDescriptor y.desc = some sig → argsL.length = sig.parameters.length)
    (hstack : g.stack = argsL.reverse ++ .ref b :: rest) (hW : 2 * g.monitorRoom + (rest.map fun v => v.category).sum ≤ W9) (hdg : decode c.code g.pc = .ok (.invokevirtual index, 3))
    (hpre : ∀ vm₁, s.WarmedH vm₁ → Pre ⟨T.setVm vm₁, locs, cells, slots⟩ (Value.ref b :: argsL).toArray) :
    (∃ (v : Option Value) (vm₁ : Vm) (B : Pt), s.WarmedH vm₁ ∧ Stand p l e R s m args below meth c B.U B.locs B.cells B.slots ∧ Post ⟨T.setVm vm₁, locs, cells, slots⟩ (Value.ref b :: argsL).toArray v B ∧
      ∀ target, Steps p.tables e below (B.U.setTop { g with pc := g.pc + 3, stack := v.toList ++ rest }) target → Steps p.tables e below (T.setTop g) target) ∨
    (∃ (q : Addr) (vm₁ : Vm) (B : Pt), s.WarmedH vm₁ ∧ Stand p l e R s m args below meth c B.U B.locs B.cells B.slots ∧ PostX ⟨T.setVm vm₁, locs, cells, slots⟩ (Value.ref b :: argsL).toArray q B ∧
      Steps p.tables e below (T.setTop g) ((B.U.setTop { g with stack := rest }).pushFrame (.throwing q))) := by
  obtain ⟨mk, methM, hnamed, hmethM, hstM, habM⟩ := Cond.instanceMethod_spec hinst
  obtain ⟨m8, methM', cM, hn8, hmethM', -, -, -, -, -, -, hsigM⟩ := Cond.codeWith_spec hcode
  cases Option.some.inj (hn8.symm.trans hnamed)
  cases hmethM.symm.trans hmethM'
  obtain ⟨c2, r2, m2, q1, q2, q3, q4, kP, hkP, hkPi⟩ := Cond.selects_spec hsel
  cases hcls.symm.trans q1
  cases (State.methodFound?_of_named hnamed hy).symm.trans q2
  cases hnamed.symm.trans q3
  have hselP : selectMethod e.platform s.vm cellB.cls mk = .method mk := by rw [Launch.admits_selectMethod X.admits]; exact q4
  obtain ⟨vm₁, X₁, hstep₁⟩ := X.invokevirtual hexec hown hlink hnamed hmethM hstM hkP hkPi hy (a := b) (cell := cellB) hcell
    (fun z h => by rw [h] at hobj; cases hobj) hselP hmethM habM hkP hkPi (g := g) hg (argsL := argsL) (rest := rest) (hlen _ hsigM) hstack hdg
  rcases hK m meth c ⟨T.setVm vm₁, locs, cells, slots⟩ { g with stack := rest } (.invokevirtual index) mk (Value.ref b :: argsL).toArray X₁ hg hsize hdg hW (X₁.named hnamed) (hpre vm₁ X₁.warmed) with ⟨v, B, X', hpost, hsteps⟩ | ⟨q, B, X', hpost, hsteps⟩
  · exact Or.inl ⟨v, vm₁, B, X₁.warmed, X', hpost, fun target h => hstep₁ _ fun acts => by rw [doInvoke_state]; exact hsteps.trans h⟩
  · exact Or.inr ⟨q, vm₁, B, X₁.warmed, X', hpost, hstep₁ _ fun acts => by rw [doInvoke_state]; exact hsteps⟩
theorem vx_callSX (X : Stand p l e R s m args below meth c T locs cells slots) (hexec : p.tables.exec = Jvm.exec) {own : String} {index : Nat} {y : MethodName} {bytes : ByteArray} {maxL : Nat} {ret : Option FieldType} {hh : List (Nat × Nat × Nat × Nat)}
    (hown : s.vm.findClass own = some m.cls) (hlink : (Cond.methodLink own index y).before args s = true) (hstat : (Cond.static y).before args s = true) (hinit : (Cond.initialized y.cls).before args s = true)
    (hcode : (Cond.codeWith y bytes maxL ret hh).before args s = true) (hy : y.cls ≠ "java/lang/invoke/MethodHandle" ∧ y.cls ≠ "java/lang/invoke/VarHandle")
    {W9 : Nat} {Pre : Pt → Array Value → Prop} {Post : Pt → Array Value → Option Value → Pt → Prop} {PostX : Pt → Array Value → Addr → Pt → Prop} (hK : vx_Back l R p e below s args y 3 W9 Pre Post PostX)
    {g : JFrame} (hg : g.method = m) (hsize : g.locals.size = c.maxLocals) {argsL rest : List Value} (hlen : ∀ sig, parseMethodDescriptor y.desc = some sig → argsL.length = sig.parameters.length)
    (hstack : g.stack = argsL.reverse ++ rest) (hW : 2 * g.monitorRoom + (rest.map fun v => v.category).sum ≤ W9) (hdg : decode c.code g.pc = .ok (.invokestatic index, 3))
    (hpre : ∀ vm₁, s.WarmedH vm₁ → Pre ⟨T.setVm vm₁, locs, cells, slots⟩ argsL.toArray) :
    (∃ (v : Option Value) (vm₁ : Vm) (B : Pt), s.WarmedH vm₁ ∧ Stand p l e R s m args below meth c B.U B.locs B.cells B.slots ∧ Post ⟨T.setVm vm₁, locs, cells, slots⟩ argsL.toArray v B ∧
      ∀ target, Steps p.tables e below (B.U.setTop { g with pc := g.pc + 3, stack := v.toList ++ rest }) target → Steps p.tables e below (T.setTop g) target) ∨
    (∃ (q : Addr) (vm₁ : Vm) (B : Pt), s.WarmedH vm₁ ∧ Stand p l e R s m args below meth c B.U B.locs B.cells B.slots ∧ PostX ⟨T.setVm vm₁, locs, cells, slots⟩ argsL.toArray q B ∧
      Steps p.tables e below (T.setTop g) ((B.U.setTop { g with stack := rest }).pushFrame (.throwing q))) := by
  obtain ⟨mk, methM, cM, hnamed, hmethM, -, -, -, -, -, -, hsigM⟩ := Cond.codeWith_spec hcode
  have hstatic : methM.isStatic = true := Cond.static_spec hnamed hmethM hstat
  obtain ⟨kP, hkP, -⟩ := className_of_methodNamed hnamed
  have hinitP : kP.init = .initialized := Cond.initialized_spec (findClass_of_methodNamed hnamed) hkP hinit
  obtain ⟨vm₁, X₁, hstep₁⟩ := X.invokestatic hexec hown hlink hnamed hmethM hstatic hkP hinitP hy (g := g) hg (argsL := argsL) (rest := rest) (hlen _ hsigM) hstack hdg
  rcases hK m meth c ⟨T.setVm vm₁, locs, cells, slots⟩ { g with stack := rest } (.invokestatic index) mk argsL.toArray X₁ hg hsize hdg hW (X₁.named hnamed) (hpre vm₁ X₁.warmed) with ⟨v, B, X', hpost, hsteps⟩ | ⟨q, B, X', hpost, hsteps⟩
  · exact Or.inl ⟨v, vm₁, B, X₁.warmed, X', hpost, fun target h => hstep₁ _ fun acts => by rw [doInvoke_state]; exact hsteps.trans h⟩
  · exact Or.inr ⟨q, vm₁, B, X₁.warmed, X', hpost, hstep₁ _ fun acts => by rw [doInvoke_state]; exact hsteps⟩
theorem vx_callVW (X : Stand p l e R s m args below meth c T locs cells slots) (hexec : p.tables.exec = Jvm.exec) {own C : String} {index : Nat} {y : MethodName} {bytes : ByteArray} {maxL : Nat} {ret : Option FieldType} {hh : List (Nat × Nat × Nat × Nat)}
    (hown : s.vm.findClass own = some m.cls) (hlink : (Cond.methodLink own index y).before args s = true) (hinst : (Cond.instanceMethod y).before args s = true) (hsel : (Cond.selects C y y).before args s = true)
    (hcode : (Cond.codeWith y bytes maxL ret hh).before args s = true) (hy : y.cls ≠ "java/lang/invoke/MethodHandle" ∧ y.cls ≠ "java/lang/invoke/VarHandle")
    {W9 : Nat} {Pre : Pt → Array Value → Prop} {Post : Pt → Array Value → Option Value → Pt → Prop} (hK : Back l R p e below s args y 3 W9 Pre Post)
    {b : Addr} {cellB : Cell} (hcell : T.heap[b]? = some cellB) (hobj : cellB.vm.isStatics = false) (hcls : s.vm.findClass C = some cellB.cls)
    {g : JFrame} (hg : g.method = m) (hsize : g.locals.size = c.maxLocals) {argsL rest : List Value} (hlen : ∀ sig, parseMethodDescriptor y.desc = some sig → argsL.length = sig.parameters.length)
    (hstack : g.stack = argsL.reverse ++ .ref b :: rest) (hW : 2 * g.monitorRoom + (rest.map fun v => v.category).sum ≤ W9) (hdg : decode c.code g.pc = .ok (.invokevirtual index, 3))
    (hpre : ∀ vm₁, s.WarmedH vm₁ → Pre ⟨T.setVm vm₁, locs, cells, slots⟩ (Value.ref b :: argsL).toArray) :
    ∃ (v : Option Value) (vm₁ : Vm) (B : Pt), s.WarmedH vm₁ ∧ Stand p l e R s m args below meth c B.U B.locs B.cells B.slots ∧ Post ⟨T.setVm vm₁, locs, cells, slots⟩ (Value.ref b :: argsL).toArray v B ∧
      ∀ target, Steps p.tables e below (B.U.setTop { g with pc := g.pc + 3, stack := v.toList ++ rest }) target → Steps p.tables e below (T.setTop g) target := by
  obtain ⟨mk, methM, hnamed, hmethM, hstM, habM⟩ := Cond.instanceMethod_spec hinst
  obtain ⟨m8, methM', cM, hn8, hmethM', -, -, -, -, -, -, hsigM⟩ := Cond.codeWith_spec hcode
  cases Option.some.inj (hn8.symm.trans hnamed)
  cases hmethM.symm.trans hmethM'
  obtain ⟨c2, r2, m2, q1, q2, q3, q4, kP, hkP, hkPi⟩ := Cond.selects_spec hsel
  cases hcls.symm.trans q1
  cases (State.methodFound?_of_named hnamed hy).symm.trans q2
  cases hnamed.symm.trans q3
  have hselP : selectMethod e.platform s.vm cellB.cls mk = .method mk := by rw [Launch.admits_selectMethod X.admits]; exact q4
  obtain ⟨vm₁, X₁, hstep₁⟩ := X.invokevirtual hexec hown hlink hnamed hmethM hstM hkP hkPi hy (a := b) (cell := cellB) hcell
    (fun z h => by rw [h] at hobj; cases hobj) hselP hmethM habM hkP hkPi (g := g) hg (argsL := argsL) (rest := rest) (hlen _ hsigM) hstack hdg
  obtain ⟨v, B, X', hpost, hsteps⟩ := hK m meth c ⟨T.setVm vm₁, locs, cells, slots⟩ { g with stack := rest } (.invokevirtual index) mk (Value.ref b :: argsL).toArray X₁ hg hsize hdg hW (X₁.named hnamed) (hpre vm₁ X₁.warmed)
  exact ⟨v, vm₁, B, X₁.warmed, X', hpost, fun target h => hstep₁ _ fun acts => by rw [doInvoke_state]; exact hsteps.trans h⟩
abbrev vx_CVW (R : Room) (s : State) (args : Array Value) (own C : String) (index : Nat) (y : MethodName) (bytes : ByteArray) (maxL : Nat) (ret : Option FieldType) (hh : List (Nat × Nat × Nat × Nat)) (ws : List Cond) (rm : Room) (mc ms n : Nat) : Prop :=
  (rm.cells = mc ∧ rm.slots = ms ∧ rm.frames + 1 ≤ R.frames ∧ 8 + (maxL + 11) + rm.locals ≤ R.locals ∧ (∀ w ∈ ws, ∀ (a' : Array Value) (U : State), s.WarmedH U.vm → w.before a' U = true) ∧ Cond.codeWith y bytes maxL ret hh ∈ ws) ∧
  (Cond.codeWith y bytes maxL ret hh).before args s = true ∧ (Cond.initialized y.cls).before args s = true ∧ (y.cls ≠ "java/lang/invoke/MethodHandle" ∧ y.cls ≠ "java/lang/invoke/VarHandle") ∧
  (∀ sig, parseMethodDescriptor y.desc = some sig → n = sig.parameters.length) ∧ (Cond.methodLink own index y).before args s = true ∧ (Cond.instanceMethod y).before args s = true ∧ (Cond.selects C y y).before args s = true
theorem vx_cwVW {own C : String} {index maxL mc ms : Nat} {y : MethodName} {bytes : ByteArray} {ret : Option FieldType} {hh : List (Nat × Nat × Nat × Nat)} {Ts ws ws' : List Cond} {rm : Room} (n : Nat) (ht : ∀ w ∈ Ts, w.before args s = true) (hT : GoodIn Ts (wsV own index C y ws)) (hw : ws = Cond.codeWith y bytes maxL ret hh :: ws') (hrc : rm.cells = mc) (hrs : rm.slots = ms)
    (hd : y.cls = C ∧ y.cls ≠ "java/lang/invoke/MethodHandle" ∧ y.cls ≠ "java/lang/invoke/VarHandle" ∧ (parseMethodDescriptor y.desc).map (fun d => d.parameters.length) = some n) (hR : rm.frames + 1 ≤ R.frames ∧ 8 + (maxL + 11) + rm.locals ≤ R.locals) :
    vx_CVW R s args own C index y bytes maxL ret hh ws rm mc ms n := by
  obtain ⟨hC, hd⟩ := hd
  subst hC
  have ok : ∀ w ∈ wsV own index y.cls y ws, w.before args s = true := fun w h => ht w (hT w h).1
  have hG : GoodIn Ts ws := fun w h => hT w (by unfold wsV; exact List.mem_append_right _ h)
  have hc : Cond.codeWith y bytes maxL ret hh ∈ ws := by rw [hw]; exact List.mem_cons_self
  refine ⟨⟨hrc, hrs, hR.1, hR.2, pay_in ht hG, hc⟩, ht _ (hG _ hc).1, ok _ (by simp [wsV]), ⟨hd.1, hd.2.1⟩, fun sig h => ?_, ok _ (by simp [wsV]), ok _ (by simp [wsV]), ok _ (by simp [wsV])⟩
  have h2 := hd.2.2
  rw [h] at h2
  exact (Option.some.inj h2).symm
theorem vx_runVW {y : MethodName} {bytes cc : ByteArray} {maxL nL mc ms n index : Nat} {ret : Option FieldType} {hh : List (Nat × Nat × Nat × Nat)} {ws : List Cond} {rm : Room} {Pc : Array Value → State → Prop} {Qc : Array Value → State → Outcome → State → Prop} {free : Addr → Prop} {Ts : List Cond} {own C : String} {b : Addr} {As rest : List Value} {g : JFrame}
    (S : CallFix p m c cc nL s args Ts own) (hM : Met l y ws rm Pc Qc mc ms free) (cw : vx_CVW R s args own C index y bytes maxL ret hh ws rm mc ms n) (hp : PreV s H C b Pc As)
    (hg : g.method = m) (hn : As.length = n) (hsize : g.locals.size = nL) (hstack : g.stack = As.reverse ++ .ref b :: rest) (hW : 2 * g.monitorRoom + (rest.map fun v => v.category).sum ≤ 8) (hdg : decode cc g.pc = .ok (.invokevirtual index, 3)) (hf : cells + mc ≤ R.cells ∧ slots + ms ≤ R.slots) :
    va_Run p l e R s m args below meth c H locs cells slots mc ms g rest (Qc (Value.ref b :: As).toArray) free := by
  obtain ⟨⟨hrc, hrs, hfr, hlo, hws, hcw⟩, hcode, hini, hy, hlen, hl, hin, hse⟩ := cw
  have hK : Back l R p e below s args y 3 8 (PreOf R mc ms Pc) (PostOf Qc mc ms free) := va_backW (hh := hh) (bytes := bytes) (maxL := maxL) (ret := ret) hM hp.1 hrc hrs hfr hlo hws hcw (fun a' U hW => word_at hW (Or.inl (by first | rfl | simp [Cond.onTables, Cond.keeps, Cond.steady])) hini)
  obtain ⟨hx, hb, hml, ho, -⟩ := S
  obtain ⟨-, ⟨cellB, hcB, hoB, hclB⟩, hPc⟩ := hp
  intro T hT X
  obtain ⟨v, vm₁, ⟨U', l2, c2, s2⟩, hW₁, X', ⟨g', mk, t, L, e1, e2, hq, h1, hL, h2, h3⟩, st⟩ := vx_callVW X hx (C := C) (hh := hh) (bytes := bytes) (maxL := maxL) (ret := ret) ho hl hin hse hcode hy hK (by rw [hT]; exact hcB) hoB hclB hg (hsize.trans hml.symm) (argsL := As) (rest := rest) (fun sig h => hn.trans (hlen sig h)) hstack hW (by rw [hb]; exact hdg)
    (fun vm₁ hW₁ => ⟨hf.1, hf.2, hPc (T.setVm vm₁) hT hW₁⟩)
  dsimp only [Pt.U, Pt.locs, Pt.cells, Pt.slots] at X' e1 e2 h1 h2 h3 st
  subst h1; subst h2; subst h3
  exact ⟨v, (T.setVm vm₁).calling g' mk (Value.ref b :: As).toArray, t, U', L, hT, X', hL, e1, e2, hq, st⟩
section
variable {y : MethodName} {bytes cc : ByteArray} {maxL nL mc ms n index : Nat} {ret : Option FieldType} {ws : List Cond} {rm : Room} {Pc : Array Value → State → Prop} {Qc : Array Value → State → Outcome → State → Prop} {XC : String → State → State → Prop} {free : Addr → Prop} {Ts : List Cond} {own C : String} {b : Addr} {As rest : List Value} {g : JFrame}
theorem vx_runVX {hh : List (Nat × Nat × Nat × Nat)} (S : CallFix p m c cc nL s args Ts own) (hM : vx_Met l y ws rm Pc Qc XC mc ms free) (cw : vx_CVW R s args own C index y bytes maxL ret hh ws rm mc ms n) (hp : PreV s H C b Pc As)
    (hg : g.method = m) (hn : As.length = n) (hsize : g.locals.size = nL) (hstack : g.stack = As.reverse ++ .ref b :: rest) (hW : 2 * g.monitorRoom + (rest.map fun v => v.category).sum ≤ 8) (hdg : decode cc g.pc = .ok (.invokevirtual index, 3)) (hf : cells + mc ≤ R.cells ∧ slots + ms ≤ R.slots) :
    vx_Run p l e R s m args below meth c H locs cells slots mc ms g rest (Qc (Value.ref b :: As).toArray) XC free := by
  obtain ⟨⟨hrc, hrs, hfr, hlo, hws, hcw⟩, hcode, hini, hy, hlen, hl, hin, hse⟩ := cw
  have hK : vx_Back l R p e below s args y 3 8 (PreOf R mc ms Pc) (PostOf Qc mc ms free) (vx_Post XC mc ms free) := vx_backW (hh := hh) (bytes := bytes) (maxL := maxL) (ret := ret) hM hp.1 hrc hrs hfr hlo hws hcw (fun a' U hW => word_at hW (Or.inl (by first | rfl | simp [Cond.onTables, Cond.keeps, Cond.steady])) hini)
  obtain ⟨hx, hb, hml, ho, -⟩ := S
  obtain ⟨-, ⟨cellB, hcB, hoB, hclB⟩, hPc⟩ := hp
  intro T hT X
  rcases vx_callVX X hx (C := C) (hh := hh) (bytes := bytes) (maxL := maxL) (ret := ret) ho hl hin hse hcode hy hK (by rw [hT]; exact hcB) hoB hclB hg (hsize.trans hml.symm) (argsL := As) (rest := rest) (fun sig h => hn.trans (hlen sig h)) hstack hW (by rw [hb]; exact hdg)
    (fun vm₁ hW₁ => ⟨hf.1, hf.2, hPc (T.setVm vm₁) hT hW₁⟩) with ⟨v, vm₁, ⟨U', l2, c2, s2⟩, hW₁, X', ⟨g', mk, t, L, e1, e2, hq, h1, hL, h2, h3⟩, st⟩ | ⟨q, vm₁, ⟨U', l2, c2, s2⟩, hW₁, X', ⟨g', mk, t, L, E, ce, e1, e2, hq, hce, hcv, hcl, h1, hL, h2, h3⟩, st⟩
  · dsimp only [Pt.U, Pt.locs, Pt.cells, Pt.slots] at X' e1 e2 h1 h2 h3 st
    subst h1; subst h2; subst h3
    exact Or.inl ⟨v, (T.setVm vm₁).calling g' mk (Value.ref b :: As).toArray, t, U', L, hT, X', hL, e1, e2, hq, st⟩
  · dsimp only [Pt.U, Pt.locs, Pt.cells, Pt.slots] at X' e1 e2 h1 h2 h3 st hcl
    subst h1; subst h2; subst h3
    exact Or.inr ⟨q, (T.setVm vm₁).calling g' mk (Value.ref b :: As).toArray, t, U', L, E, ce, hT, X', hL, e1, e2, hq, hce, hcv, vx_cls hW₁ hcl, st⟩
theorem vx_runSX {hh : List (Nat × Nat × Nat × Nat)} (S : CallFix p m c cc nL s args Ts own) (hM : vx_Met l y ws rm Pc Qc XC mc ms free) (cw : vx_CSW R s args own index y bytes maxL ret hh ws rm mc ms n) (hp : PreS s H Pc As)
    (hg : g.method = m) (hn : As.length = n) (hsize : g.locals.size = nL) (hstack : g.stack = As.reverse ++ rest) (hW : 2 * g.monitorRoom + (rest.map fun v => v.category).sum ≤ 8) (hdg : decode cc g.pc = .ok (.invokestatic index, 3)) (hf : cells + mc ≤ R.cells ∧ slots + ms ≤ R.slots) :
    vx_Run p l e R s m args below meth c H locs cells slots mc ms g rest (Qc As.toArray) XC free := by
  obtain ⟨⟨hrc, hrs, hfr, hlo, hws, hcw⟩, hcode, hini, hy, hlen, hl, hstt⟩ := cw
  have hK : vx_Back l R p e below s args y 3 8 (PreOf R mc ms Pc) (PostOf Qc mc ms free) (vx_Post XC mc ms free) := vx_backW (hh := hh) (bytes := bytes) (maxL := maxL) (ret := ret) hM hp.1 hrc hrs hfr hlo hws hcw (fun a' U hW => word_at hW (Or.inl (by first | rfl | simp [Cond.onTables, Cond.keeps, Cond.steady])) hini)
  obtain ⟨hx, hb, hml, ho, -⟩ := S
  intro T hT X
  rcases vx_callSX X hx (hh := hh) (bytes := bytes) (maxL := maxL) (ret := ret) ho hl hstt hini hcode hy hK hg (hsize.trans hml.symm) (argsL := As) (rest := rest) (fun sig h => hn.trans (hlen sig h)) hstack hW (by rw [hb]; exact hdg)
    (fun vm₁ hW₁ => ⟨hf.1, hf.2, hp.2 (T.setVm vm₁) hT hW₁⟩) with ⟨v, vm₁, ⟨U', l2, c2, s2⟩, hW₁, X', ⟨g', mk, t, L, e1, e2, hq, h1, hL, h2, h3⟩, st⟩ | ⟨q, vm₁, ⟨U', l2, c2, s2⟩, hW₁, X', ⟨g', mk, t, L, E, ce, e1, e2, hq, hce, hcv, hcl, h1, hL, h2, h3⟩, st⟩
  · dsimp only [Pt.U, Pt.locs, Pt.cells, Pt.slots] at X' e1 e2 h1 h2 h3 st
    subst h1; subst h2; subst h3
    exact Or.inl ⟨v, (T.setVm vm₁).calling g' mk As.toArray, t, U', L, hT, X', hL, e1, e2, hq, st⟩
  · dsimp only [Pt.U, Pt.locs, Pt.cells, Pt.slots] at X' e1 e2 h1 h2 h3 st hcl
    subst h1; subst h2; subst h3
    exact Or.inr ⟨q, (T.setVm vm₁).calling g' mk As.toArray, t, U', L, E, ce, hT, X', hL, e1, e2, hq, hce, hcv, vx_cls hW₁ hcl, st⟩
end
end VXH
theorem vx_ofWH {l : Launch} {y : MethodName} {ws ws' : List Cond} {rm : Room} {Pc : Array Value → State → Prop} {Qc : Array Value → State → Outcome → State → Prop} {XC : String → State → State → Prop} {mc ms : Nat} {free : Addr → Prop} {cc : ByteArray} {maxL : Nat} {ret : Option FieldType} {hh : List (Nat × Nat × Nat × Nat)}
    (hy : plainName y.cls = true) (hw : ws = Cond.codeWith y cc maxL ret hh :: ws')
    (body : ∀ p e s m args below meth c s₁, BodyLoose p l y (headSpec ws rm) cc maxL ret e s m args below meth c s₁ → c.maxLocals = maxL → Pc args s →
      W p l e (headSpec ws rm).room s m args below meth c s.heap [] 0 0 (vx_MQ below Qc XC args s mc ms free) (entryFrame m args maxL)) : vx_Met l y ws rm Pc Qc XC mc ms free := by
  refine MetFree.of_bodyS (code := cc) (maxLocals := maxL) (ret := ret) hy ?_ ?_
  · intro args s m h hn
    obtain ⟨m9, meth, c, hn9, h1, h2, h3, h4, -, h5, h6, -⟩ := Cond.codeWith_spec (atoms_spec (ws := ws) h _ (by rw [hw]; exact List.mem_cons_self))
    cases hn.symm.trans hn9
    exact ⟨meth, c, h1, h2, h3, h4, h5, h6⟩
  · intro p e s m args below meth c s₁ B hml hP _
    have hh0 : s₁.heap = s.heap := by rw [B.state]; rfl
    obtain ⟨t, a1, o, b1, b2, b3⟩ := body p e s m args below meth c s₁ B hml hP s₁ hh0 (Stand.of_body B)
    exact ⟨t, o, a1, b1, b2, b3⟩
/-! ===== END ===== -/
end
section
def RX0 : String := "ExamMarker$Appeals"
def TX0 : u_T := fun k => match k with
  | 0 => ("ExamMarker$Appeals", "states", "[I", true)
  | 1 => ("ExamMarker$Appeals", "fees", "[I", true)
  | 2 => ("ExamMarker$Appeals", "marks", "[I", true)
  | _ => ("ExamMarker$Appeals", "refunded", "I", false)
def tyX0 : Nat → FieldType := fun k => match k with
  | 0 => .array .int
  | 1 => .array .int
  | 2 => .array .int
  | _ => .int
theorem nmX0 : ∀ a, a < 4 → ∀ b, b < 4 → a ≠ b → (TX0 a).2.1 ≠ (TX0 b).2.1 := by decide +kernel
theorem tyX0_ok : ∀ k, k < 4 → parseFieldDescriptor (TX0 k).2.2.1 = some (tyX0 k) := by decide +kernel
def RX1 : String := "ExamMarker$Book"
def TX1 : u_T := fun k => match k with
  | 0 => ("ExamMarker$Book", "maxima", "[I", true)
  | 1 => ("ExamMarker$Book", "settings", "[I", true)
  | 2 => ("ExamMarker$Book", "boundaries", "[I", true)
  | 3 => ("ExamMarker$Book", "excusedBits", "[I", true)
  | 4 => ("ExamMarker$Book", "raises", "[I", true)
  | 5 => ("ExamMarker$Book", "pay", "[I", true)
  | 6 => ("ExamMarker$Book", "seeds", "LExamMarker$Seeds;", true)
  | 7 => ("ExamMarker$Book", "entries", "LExamMarker$Entries;", true)
  | 8 => ("ExamMarker$Book", "curve", "LExamMarker$Curve;", true)
  | 9 => ("ExamMarker$Book", "appeals", "LExamMarker$Appeals;", true)
  | 10 => ("ExamMarker$Book", "published", "Z", false)
  | _ => ("ExamMarker$Book", "validValues", "[I", true)
def tyX1 : Nat → FieldType := fun k => match k with
  | 0 => .array .int
  | 1 => .array .int
  | 2 => .array .int
  | 3 => .array .int
  | 4 => .array .int
  | 5 => .array .int
  | 6 => .object "ExamMarker$Seeds"
  | 7 => .object "ExamMarker$Entries"
  | 8 => .object "ExamMarker$Curve"
  | 9 => .object "ExamMarker$Appeals"
  | 10 => .boolean
  | _ => .array .int
theorem nmX1 : ∀ a, a < 12 → ∀ b, b < 12 → a ≠ b → (TX1 a).2.1 ≠ (TX1 b).2.1 := by decide +kernel
theorem tyX1_ok : ∀ k, k < 12 → parseFieldDescriptor (TX1 k).2.2.1 = some (tyX1 k) := by decide +kernel
def RX2 : String := "ExamMarker$Curve"
def TX2 : u_T := fun k => match k with
  | 0 => ("ExamMarker$Curve", "places", "[I", true)
  | 1 => ("ExamMarker$Curve", "values", "[I", true)
  | _ => ("ExamMarker$Curve", "size", "I", false)
def tyX2 : Nat → FieldType := fun k => match k with
  | 0 => .array .int
  | 1 => .array .int
  | _ => .int
theorem nmX2 : ∀ a, a < 3 → ∀ b, b < 3 → a ≠ b → (TX2 a).2.1 ≠ (TX2 b).2.1 := by decide +kernel
theorem tyX2_ok : ∀ k, k < 3 → parseFieldDescriptor (TX2 k).2.2.1 = some (tyX2 k) := by decide +kernel
def RX3 : String := "ExamMarker$Entries"
def TX3 : u_T := fun k => match k with
  | 0 => ("ExamMarker$Entries", "sizes", "[I", true)
  | 1 => ("ExamMarker$Entries", "markers", "[I", true)
  | 2 => ("ExamMarker$Entries", "marks", "[I", true)
  | 3 => ("ExamMarker$Entries", "order", "[I", true)
  | _ => ("ExamMarker$Entries", "total", "I", false)
def tyX3 : Nat → FieldType := fun k => match k with
  | 0 => .array .int
  | 1 => .array .int
  | 2 => .array .int
  | 3 => .array .int
  | _ => .int
theorem nmX3 : ∀ a, a < 5 → ∀ b, b < 5 → a ≠ b → (TX3 a).2.1 ≠ (TX3 b).2.1 := by decide +kernel
theorem tyX3_ok : ∀ k, k < 5 → parseFieldDescriptor (TX3 k).2.2.1 = some (tyX3 k) := by decide +kernel
def RX4 : String := "ExamMarker$History"
def TX4 : u_T := fun k => match k with
  | 0 => ("ExamMarker$History", "past", "[LExamMarker$Book;", true)
  | 1 => ("ExamMarker$History", "oldest", "I", false)
  | _ => ("ExamMarker$History", "size", "I", false)
def tyX4 : Nat → FieldType := fun k => match k with
  | 0 => .array (.object "ExamMarker$Book")
  | 1 => .int
  | _ => .int
theorem nmX4 : ∀ a, a < 3 → ∀ b, b < 3 → a ≠ b → (TX4 a).2.1 ≠ (TX4 b).2.1 := by decide +kernel
theorem tyX4_ok : ∀ k, k < 3 → parseFieldDescriptor (TX4 k).2.2.1 = some (tyX4 k) := by decide +kernel
def RX5 : String := "ExamMarker$Outcome"
def TX5 : u_T := fun k => match k with
  | 0 => ("ExamMarker$Outcome", "settled", "[I", true)
  | 1 => ("ExamMarker$Outcome", "numerator", "J", false)
  | 2 => ("ExamMarker$Outcome", "denominator", "J", false)
  | 3 => ("ExamMarker$Outcome", "scaled", "I", false)
  | 4 => ("ExamMarker$Outcome", "plainGrade", "I", false)
  | _ => ("ExamMarker$Outcome", "grade", "I", false)
def tyX5 : Nat → FieldType := fun k => match k with
  | 0 => .array .int
  | 1 => .long
  | 2 => .long
  | 3 => .int
  | 4 => .int
  | _ => .int
theorem nmX5 : ∀ a, a < 6 → ∀ b, b < 6 → a ≠ b → (TX5 a).2.1 ≠ (TX5 b).2.1 := by decide +kernel
theorem tyX5_ok : ∀ k, k < 6 → parseFieldDescriptor (TX5 k).2.2.1 = some (tyX5 k) := by decide +kernel
def RX6 : String := "ExamMarker$Report"
def TX6 : u_T := fun k => match k with
  | 0 => ("ExamMarker$Report", "codes", "[I", true)
  | 1 => ("ExamMarker$Report", "details", "[I", true)
  | _ => ("ExamMarker$Report", "size", "I", false)
def tyX6 : Nat → FieldType := fun k => match k with
  | 0 => .array .int
  | 1 => .array .int
  | _ => .int
theorem nmX6 : ∀ a, a < 3 → ∀ b, b < 3 → a ≠ b → (TX6 a).2.1 ≠ (TX6 b).2.1 := by decide +kernel
theorem tyX6_ok : ∀ k, k < 3 → parseFieldDescriptor (TX6 k).2.2.1 = some (tyX6 k) := by decide +kernel
def RX7 : String := "ExamMarker$Seeds"
def TX7 : u_T := fun k => match k with
  | 0 => ("ExamMarker$Seeds", "sizes", "[I", true)
  | 1 => ("ExamMarker$Seeds", "definitive", "[I", true)
  | _ => ("ExamMarker$Seeds", "given", "[I", true)
def tyX7 : Nat → FieldType := fun k => match k with
  | 0 => .array .int
  | 1 => .array .int
  | _ => .array .int
theorem nmX7 : ∀ a, a < 3 → ∀ b, b < 3 → a ≠ b → (TX7 a).2.1 ≠ (TX7 b).2.1 := by decide +kernel
theorem tyX7_ok : ∀ k, k < 3 → parseFieldDescriptor (TX7 k).2.2.1 = some (tyX7 k) := by decide +kernel
def RX8 : String := "ExamMarker$SheetReader"
def TX8 : u_T := fun k => match k with
  | 0 => ("ExamMarker$SheetReader", "text", "[C", true)
  | 1 => ("ExamMarker$SheetReader", "expected", "I", false)
  | 2 => ("ExamMarker$SheetReader", "length", "I", false)
  | 3 => ("ExamMarker$SheetReader", "error", "I", false)
  | 4 => ("ExamMarker$SheetReader", "marker", "I", false)
  | 5 => ("ExamMarker$SheetReader", "question", "I", false)
  | 6 => ("ExamMarker$SheetReader", "entries", "I", false)
  | 7 => ("ExamMarker$SheetReader", "candidates", "[I", true)
  | _ => ("ExamMarker$SheetReader", "marks", "[I", true)
def tyX8 : Nat → FieldType := fun k => match k with
  | 0 => .array .char
  | 1 => .int
  | 2 => .int
  | 3 => .int
  | 4 => .int
  | 5 => .int
  | 6 => .int
  | 7 => .array .int
  | _ => .array .int
theorem nmX8 : ∀ a, a < 9 → ∀ b, b < 9 → a ≠ b → (TX8 a).2.1 ≠ (TX8 b).2.1 := by decide +kernel
theorem tyX8_ok : ∀ k, k < 9 → parseFieldDescriptor (TX8 k).2.2.1 = some (tyX8 k) := by decide +kernel
def RX9 : String := "ExamMarker$Tally"
def TX9 : u_T := fun k => match k with
  | 0 => ("ExamMarker$Tally", "seen", "[I", true)
  | 1 => ("ExamMarker$Tally", "first", "[I", true)
  | 2 => ("ExamMarker$Tally", "second", "[I", true)
  | _ => ("ExamMarker$Tally", "added", "[I", true)
def tyX9 : Nat → FieldType := fun k => match k with
  | 0 => .array .int
  | 1 => .array .int
  | 2 => .array .int
  | _ => .array .int
theorem nmX9 : ∀ a, a < 4 → ∀ b, b < 4 → a ≠ b → (TX9 a).2.1 ≠ (TX9 b).2.1 := by decide +kernel
theorem tyX9_ok : ∀ k, k < 4 → parseFieldDescriptor (TX9 k).2.2.1 = some (tyX9 k) := by decide +kernel
def RX10 : String := "ExamMarker"
def TX10 : u_T := fun k => match k with
  | 0 => ("ExamMarker", "now", "LExamMarker$Book;", true)
  | 1 => ("ExamMarker", "draft", "LExamMarker$Book;", true)
  | 2 => ("ExamMarker", "saved", "LExamMarker$Book;", true)
  | 3 => ("ExamMarker", "hasSaved", "Z", false)
  | 4 => ("ExamMarker", "history", "LExamMarker$History;", true)
  | 5 => ("ExamMarker", "reader", "LExamMarker$SheetReader;", true)
  | 6 => ("ExamMarker", "latest", "LExamMarker$Report;", true)
  | 7 => ("ExamMarker", "outcomes", "[LExamMarker$Outcome;", true)
  | _ => ("ExamMarker", "tally", "LExamMarker$Tally;", true)
def tyX10 : Nat → FieldType := fun k => match k with
  | 0 => .object "ExamMarker$Book"
  | 1 => .object "ExamMarker$Book"
  | 2 => .object "ExamMarker$Book"
  | 3 => .boolean
  | 4 => .object "ExamMarker$History"
  | 5 => .object "ExamMarker$SheetReader"
  | 6 => .object "ExamMarker$Report"
  | 7 => .array (.object "ExamMarker$Outcome")
  | _ => .object "ExamMarker$Tally"
theorem nmX10 : ∀ a, a < 9 → ∀ b, b < 9 → a ≠ b → (TX10 a).2.1 ≠ (TX10 b).2.1 := by decide +kernel
theorem tyX10_ok : ∀ k, k < 9 → parseFieldDescriptor (TX10 k).2.2.1 = some (tyX10 k) := by decide +kernel
def RX11 : String := "ExamMarkerModel"
def TX11 : u_T := fun k => match k with
  | 0 => ("ExamMarkerModel", "thrown", "I", false)
  | 1 => ("ExamMarkerModel", "s", "[I", true)
  | 2 => ("ExamMarkerModel", "saved", "[I", true)
  | 3 => ("ExamMarkerModel", "frame", "[I", true)
  | 4 => ("ExamMarkerModel", "history", "[I", true)
  | 5 => ("ExamMarkerModel", "kept", "I", false)
  | 6 => ("ExamMarkerModel", "hasSaved", "Z", false)
  | 7 => ("ExamMarkerModel", "text", "[I", true)
  | 8 => ("ExamMarkerModel", "length", "I", false)
  | 9 => ("ExamMarkerModel", "errorAt", "I", false)
  | 10 => ("ExamMarkerModel", "reports", "[I", true)
  | 11 => ("ExamMarkerModel", "reportMany", "I", false)
  | 12 => ("ExamMarkerModel", "values", "[I", true)
  | 13 => ("ExamMarkerModel", "valid", "I", false)
  | 14 => ("ExamMarkerModel", "marks", "[I", true)
  | 15 => ("ExamMarkerModel", "numerator", "J", false)
  | 16 => ("ExamMarkerModel", "denominator", "J", false)
  | 17 => ("ExamMarkerModel", "mark", "I", false)
  | 18 => ("ExamMarkerModel", "plain", "I", false)
  | 19 => ("ExamMarkerModel", "grade", "I", false)
  | 20 => ("ExamMarkerModel", "causeDetail", "I", false)
  | 21 => ("ExamMarkerModel", "spot", "I", false)
  | 22 => ("ExamMarkerModel", "isRight", "Z", false)
  | 23 => ("ExamMarkerModel", "readCandidate", "I", false)
  | 24 => ("ExamMarkerModel", "readMark", "I", false)
  | 25 => ("ExamMarkerModel", "scaledMarks", "[I", true)
  | 26 => ("ExamMarkerModel", "numerators", "[J", true)
  | _ => ("ExamMarkerModel", "denominators", "[J", true)
def tyX11 : Nat → FieldType := fun k => match k with
  | 0 => .int
  | 1 => .array .int
  | 2 => .array .int
  | 3 => .array .int
  | 4 => .array .int
  | 5 => .int
  | 6 => .boolean
  | 7 => .array .int
  | 8 => .int
  | 9 => .int
  | 10 => .array .int
  | 11 => .int
  | 12 => .array .int
  | 13 => .int
  | 14 => .array .int
  | 15 => .long
  | 16 => .long
  | 17 => .int
  | 18 => .int
  | 19 => .int
  | 20 => .int
  | 21 => .int
  | 22 => .boolean
  | 23 => .int
  | 24 => .int
  | 25 => .array .int
  | 26 => .array .long
  | _ => .array .long
theorem nmX11 : ∀ a, a < 28 → ∀ b, b < 28 → a ≠ b → (TX11 a).2.1 ≠ (TX11 b).2.1 := by decide +kernel
theorem tyX11_ok : ∀ k, k < 28 → parseFieldDescriptor (TX11 k).2.2.1 = some (tyX11 k) := by decide +kernel
def RJ13 : String := "java/lang/Long"
def RJ6 : String := "java/lang/Integer"
def RJ7 : String := "java/util/Arrays"
def RJ9 : String := "java/lang/Math"
def RJxe99ae : String := "java/lang/Double"
def RJxf58ca : String := "java/lang/Float"
def R_law : String := "ExamMarkerLaw"
abbrev RL : String := R_law
abbrev cX0_init : ByteArray := prog_2_method_1_code
def yX0_init : MethodName := ⟨RX0, "<init>", "()V"⟩
abbrev cX0_copyFrom : ByteArray := prog_2_method_2_code
def yX0_copyFrom : MethodName := ⟨RX0, "copyFrom", "(LExamMarker$Appeals;)V"⟩
abbrev cX0_inState : ByteArray := prog_2_method_3_code
def yX0_inState : MethodName := ⟨RX0, "inState", "(III)I"⟩
abbrev cX0_made : ByteArray := prog_2_method_4_code
def yX0_made : MethodName := ⟨RX0, "made", "()I"⟩
abbrev cX0_open : ByteArray := prog_2_method_5_code
def yX0_open : MethodName := ⟨RX0, "open", "(II)V"⟩
abbrev cX0_close : ByteArray := prog_2_method_6_code
def yX0_close : MethodName := ⟨RX0, "close", "(IIZ)V"⟩
abbrev cX0_refund : ByteArray := prog_2_method_7_code
def yX0_refund : MethodName := ⟨RX0, "refund", "(I)I"⟩
abbrev cX1_init : ByteArray := prog_3_method_1_code
def yX1_init : MethodName := ⟨RX1, "<init>", "()V"⟩
abbrev cX1_copyFrom : ByteArray := prog_3_method_2_code
def yX1_copyFrom : MethodName := ⟨RX1, "copyFrom", "(LExamMarker$Book;)V"⟩
abbrev cX1_fullMaximum : ByteArray := prog_3_method_3_code
def yX1_fullMaximum : MethodName := ⟨RX1, "fullMaximum", "()I"⟩
abbrev cX1_greatestMark : ByteArray := prog_3_method_4_code
def yX1_greatestMark : MethodName := ⟨RX1, "greatestMark", "(I)I"⟩
abbrev cX1_earn : ByteArray := prog_3_method_5_code
def yX1_earn : MethodName := ⟨RX1, "earn", "(II)V"⟩
abbrev cX1_makeEntry : ByteArray := prog_3_method_6_code
def yX1_makeEntry : MethodName := ⟨RX1, "makeEntry", "(III)I"⟩
abbrev cX1_isValid : ByteArray := prog_3_method_7_code
def yX1_isValid : MethodName := ⟨RX1, "isValid", "(I)Z"⟩
abbrev cX1_valueOf : ByteArray := prog_3_method_8_code
def yX1_valueOf : MethodName := ⟨RX1, "valueOf", "(I)I"⟩
abbrev cX1_readValidValues : ByteArray := prog_3_method_9_code
def yX1_readValidValues : MethodName := ⟨RX1, "readValidValues", "(I)I"⟩
abbrev cX1_agree : ByteArray := prog_3_method_10_code
def yX1_agree : MethodName := ⟨RX1, "agree", "(II)Z"⟩
abbrev cX1_hasAgreement : ByteArray := prog_3_method_11_code
def yX1_hasAgreement : MethodName := ⟨RX1, "hasAgreement", "(I)Z"⟩
abbrev cX1_settledOf : ByteArray := prog_3_method_12_code
def yX1_settledOf : MethodName := ⟨RX1, "settledOf", "(I)I"⟩
abbrev cX1_standingOf : ByteArray := prog_3_method_13_code
def yX1_standingOf : MethodName := ⟨RX1, "standingOf", "(I)I"⟩
abbrev cX1_isExcused : ByteArray := prog_3_method_14_code
def yX1_isExcused : MethodName := ⟨RX1, "isExcused", "(II)Z"⟩
abbrev cX1_hasGrade : ByteArray := prog_3_method_15_code
def yX1_hasGrade : MethodName := ⟨RX1, "hasGrade", "(I)Z"⟩
abbrev cX1_gradedCandidates : ByteArray := prog_3_method_16_code
def yX1_gradedCandidates : MethodName := ⟨RX1, "gradedCandidates", "()I"⟩
abbrev cX1_disputedScripts : ByteArray := prog_3_method_17_code
def yX1_disputedScripts : MethodName := ⟨RX1, "disputedScripts", "()I"⟩
abbrev cX1_plainGradeOf : ByteArray := prog_3_method_18_code
def yX1_plainGradeOf : MethodName := ⟨RX1, "plainGradeOf", "(I)I"⟩
abbrev cX2_init : ByteArray := prog_4_method_1_code
def yX2_init : MethodName := ⟨RX2, "<init>", "()V"⟩
abbrev cX2_copyFrom : ByteArray := prog_4_method_2_code
def yX2_copyFrom : MethodName := ⟨RX2, "copyFrom", "(LExamMarker$Curve;)V"⟩
abbrev cX2_indexOf : ByteArray := prog_4_method_3_code
def yX2_indexOf : MethodName := ⟨RX2, "indexOf", "(I)I"⟩
abbrev cX2_put : ByteArray := prog_4_method_4_code
def yX2_put : MethodName := ⟨RX2, "put", "(II)I"⟩
abbrev cX2_takeAway : ByteArray := prog_4_method_5_code
def yX2_takeAway : MethodName := ⟨RX2, "takeAway", "(I)I"⟩
abbrev cX2_scale : ByteArray := prog_4_method_6_code
def yX2_scale : MethodName := ⟨RX2, "scale", "(JJI)I"⟩
abbrev cX2_round : ByteArray := prog_4_method_7_code
def yX2_round : MethodName := ⟨RX2, "round", "(JJ)I"⟩
abbrev cX3_init : ByteArray := prog_5_method_1_code
def yX3_init : MethodName := ⟨RX3, "<init>", "()V"⟩
abbrev cX3_copyFrom : ByteArray := prog_5_method_2_code
def yX3_copyFrom : MethodName := ⟨RX3, "copyFrom", "(LExamMarker$Entries;)V"⟩
abbrev cX3_put : ByteArray := prog_5_method_3_code
def yX3_put : MethodName := ⟨RX3, "put", "(III)I"⟩
abbrev cX3_isBy : ByteArray := prog_5_method_4_code
def yX3_isBy : MethodName := ⟨RX3, "isBy", "(II)Z"⟩
abbrev cX3_hasEntryBy : ByteArray := prog_5_method_5_code
def yX3_hasEntryBy : MethodName := ⟨RX3, "hasEntryBy", "(II)Z"⟩
abbrev cX3_greatestMark : ByteArray := prog_5_method_6_code
def yX3_greatestMark : MethodName := ⟨RX3, "greatestMark", "(I)I"⟩
abbrev cX4_init : ByteArray := prog_6_method_1_code
def yX4_init : MethodName := ⟨RX4, "<init>", "()V"⟩
abbrev cX4_keep : ByteArray := prog_6_method_2_code
def yX4_keep : MethodName := ⟨RX4, "keep", "(LExamMarker$Book;)V"⟩
abbrev cX4_takeBack : ByteArray := prog_6_method_3_code
def yX4_takeBack : MethodName := ⟨RX4, "takeBack", "(LExamMarker$Book;)V"⟩
abbrev cX5_init : ByteArray := prog_7_method_1_code
def yX5_init : MethodName := ⟨RX5, "<init>", "()V"⟩
abbrev cX5_find : ByteArray := prog_7_method_2_code
def yX5_find : MethodName := ⟨RX5, "find", "(LExamMarker$Book;I)V"⟩
abbrev cX5_suppose : ByteArray := prog_7_method_3_code
def yX5_suppose : MethodName := ⟨RX5, "suppose", "(LExamMarker$Book;III)V"⟩
abbrev cX5_assess : ByteArray := prog_7_method_4_code
def yX5_assess : MethodName := ⟨RX5, "assess", "(LExamMarker$Book;I)V"⟩
abbrev cX5_findRawResult : ByteArray := prog_7_method_5_code
def yX5_findRawResult : MethodName := ⟨RX5, "findRawResult", "(LExamMarker$Book;II)V"⟩
abbrev cX5_isLifted : ByteArray := prog_7_method_6_code
def yX5_isLifted : MethodName := ⟨RX5, "isLifted", "(LExamMarker$Book;I)Z"⟩
abbrev cX5_compareWith : ByteArray := prog_7_method_7_code
def yX5_compareWith : MethodName := ⟨RX5, "compareWith", "(LExamMarker$Outcome;)I"⟩
abbrev cX6_init : ByteArray := prog_8_method_1_code
def yX6_init : MethodName := ⟨RX6, "<init>", "()V"⟩
abbrev cX6_tell : ByteArray := prog_8_method_2_code
def yX6_tell : MethodName := ⟨RX6, "tell", "(IIII)Z"⟩
abbrev cX7_init : ByteArray := prog_9_method_1_code
def yX7_init : MethodName := ⟨RX7, "<init>", "()V"⟩
abbrev cX7_copyFrom : ByteArray := prog_9_method_2_code
def yX7_copyFrom : MethodName := ⟨RX7, "copyFrom", "(LExamMarker$Seeds;)V"⟩
abbrev cX7_define : ByteArray := prog_9_method_3_code
def yX7_define : MethodName := ⟨RX7, "define", "(II)I"⟩
abbrev cX7_give : ByteArray := prog_9_method_4_code
def yX7_give : MethodName := ⟨RX7, "give", "(IIII)I"⟩
abbrev cX7_isMarked : ByteArray := prog_9_method_5_code
def yX7_isMarked : MethodName := ⟨RX7, "isMarked", "(III)Z"⟩
abbrev cX7_placeOf : ByteArray := prog_9_method_6_code
def yX7_placeOf : MethodName := ⟨RX7, "placeOf", "(III)I"⟩
abbrev cX7_markedSeeds : ByteArray := prog_9_method_7_code
def yX7_markedSeeds : MethodName := ⟨RX7, "markedSeeds", "()I"⟩
abbrev cX7_greatestMark : ByteArray := prog_9_method_8_code
def yX7_greatestMark : MethodName := ⟨RX7, "greatestMark", "(I)I"⟩
abbrev cX7_correctionOf : ByteArray := prog_9_method_9_code
def yX7_correctionOf : MethodName := ⟨RX7, "correctionOf", "(III)I"⟩
abbrev cX7_strays : ByteArray := prog_9_method_10_code
def yX7_strays : MethodName := ⟨RX7, "strays", "(III)Z"⟩
abbrev cX8_init : ByteArray := prog_10_method_1_code
def yX8_init : MethodName := ⟨RX8, "<init>", "()V"⟩
abbrev cX8_store : ByteArray := prog_10_method_2_code
def yX8_store : MethodName := ⟨RX8, "store", "(I)V"⟩
abbrev cX8_readAndClear : ByteArray := prog_10_method_3_code
def yX8_readAndClear : MethodName := ⟨RX8, "readAndClear", "()V"⟩
abbrev cX8_positionOfError : ByteArray := prog_10_method_4_code
def yX8_positionOfError : MethodName := ⟨RX8, "positionOfError", "()I"⟩
abbrev cX8_accepts : ByteArray := prog_10_method_5_code
def yX8_accepts : MethodName := ⟨RX8, "accepts", "(C)Z"⟩
abbrev cX8_goesOn : ByteArray := prog_10_method_6_code
def yX8_goesOn : MethodName := ⟨RX8, "goesOn", "(ZI)Z"⟩
abbrev cX8_startsEntry : ByteArray := prog_10_method_7_code
def yX8_startsEntry : MethodName := ⟨RX8, "startsEntry", "(I)Z"⟩
abbrev cX8_takesDigit : ByteArray := prog_10_method_8_code
def yX8_takesDigit : MethodName := ⟨RX8, "takesDigit", "(II)Z"⟩
abbrev cX9_init : ByteArray := prog_11_method_1_code
def yX9_init : MethodName := ⟨RX9, "<init>", "()V"⟩
abbrev cX9_sumOf : ByteArray := prog_11_method_2_code
def yX9_sumOf : MethodName := ⟨RX9, "sumOf", "(LExamMarker$Book;I)I"⟩
abbrev cX9_correct : ByteArray := prog_11_method_3_code
def yX9_correct : MethodName := ⟨RX9, "correct", "(LExamMarker$Book;II)I"⟩
abbrev cX10_init : ByteArray := prog_1_method_1_code
def yX10_init : MethodName := ⟨RX10, "<init>", "()V"⟩
abbrev cX10_setMaximum : ByteArray := prog_1_method_2_code
def yX10_setMaximum : MethodName := ⟨RX10, "setMaximum", "(II)I"⟩
abbrev cX10_set : ByteArray := prog_1_method_3_code
def yX10_set : MethodName := ⟨RX10, "set", "(II)I"⟩
abbrev cX10_addSeed : ByteArray := prog_1_method_4_code
def yX10_addSeed : MethodName := ⟨RX10, "addSeed", "(II)I"⟩
abbrev cX10_markSeed : ByteArray := prog_1_method_5_code
def yX10_markSeed : MethodName := ⟨RX10, "markSeed", "(IIII)I"⟩
abbrev cX10_correction : ByteArray := prog_1_method_6_code
def yX10_correction : MethodName := ⟨RX10, "correction", "(II)I"⟩
abbrev cX10_isSuspended : ByteArray := prog_1_method_7_code
def yX10_isSuspended : MethodName := ⟨RX10, "isSuspended", "(II)Z"⟩
abbrev cX10_enter : ByteArray := prog_1_method_8_code
def yX10_enter : MethodName := ⟨RX10, "enter", "(IIII)I"⟩
abbrev cX10_append : ByteArray := prog_1_method_9_code
def yX10_append : MethodName := ⟨RX10, "append", "(I)I"⟩
abbrev cX10_sheet : ByteArray := prog_1_method_10_code
def yX10_sheet : MethodName := ⟨RX10, "sheet", "()I"⟩
abbrev cX10_errorPosition : ByteArray := prog_1_method_11_code
def yX10_errorPosition : MethodName := ⟨RX10, "errorPosition", "()I"⟩
abbrev cX10_entry : ByteArray := prog_1_method_12_code
def yX10_entry : MethodName := ⟨RX10, "entry", "(IIII)I"⟩
abbrev cX10_script : ByteArray := prog_1_method_13_code
def yX10_script : MethodName := ⟨RX10, "script", "(III)I"⟩
abbrev cX10_excuse : ByteArray := prog_1_method_14_code
def yX10_excuse : MethodName := ⟨RX10, "excuse", "(IIZ)Z"⟩
abbrev cX10_raise : ByteArray := prog_1_method_15_code
def yX10_raise : MethodName := ⟨RX10, "raise", "(II)I"⟩
abbrev cX10_setPoint : ByteArray := prog_1_method_16_code
def yX10_setPoint : MethodName := ⟨RX10, "setPoint", "(II)I"⟩
abbrev cX10_removePoint : ByteArray := prog_1_method_17_code
def yX10_removePoint : MethodName := ⟨RX10, "removePoint", "(I)I"⟩
abbrev cX10_curve : ByteArray := prog_1_method_18_code
def yX10_curve : MethodName := ⟨RX10, "curve", "(I)I"⟩
abbrev cX10_setBoundary : ByteArray := prog_1_method_19_code
def yX10_setBoundary : MethodName := ⟨RX10, "setBoundary", "(II)I"⟩
abbrev cX10_result : ByteArray := prog_1_method_20_code
def yX10_result : MethodName := ⟨RX10, "result", "(II)J"⟩
abbrev cX10_recount : ByteArray := prog_1_method_21_code
def yX10_recount : MethodName := ⟨RX10, "recount", "(I)I"⟩
abbrev cX10_ranked : ByteArray := prog_1_method_22_code
def yX10_ranked : MethodName := ⟨RX10, "ranked", "(I)I"⟩
abbrev cX10_graded : ByteArray := prog_1_method_23_code
def yX10_graded : MethodName := ⟨RX10, "graded", "(I)I"⟩
abbrev cX10_gradeIf : ByteArray := prog_1_method_24_code
def yX10_gradeIf : MethodName := ⟨RX10, "gradeIf", "(III)I"⟩
abbrev cX10_needed : ByteArray := prog_1_method_25_code
def yX10_needed : MethodName := ⟨RX10, "needed", "(III)I"⟩
abbrev cX10_meanBits : ByteArray := prog_1_method_26_code
def yX10_meanBits : MethodName := ⟨RX10, "meanBits", "(I)J"⟩
abbrev cX10_validBits : ByteArray := prog_1_method_27_code
def yX10_validBits : MethodName := ⟨RX10, "validBits", "(I)I"⟩
abbrev cX10_publish : ByteArray := prog_1_method_28_code
def yX10_publish : MethodName := ⟨RX10, "publish", "()I"⟩
abbrev cX10_withdraw : ByteArray := prog_1_method_29_code
def yX10_withdraw : MethodName := ⟨RX10, "withdraw", "()I"⟩
abbrev cX10_appeal : ByteArray := prog_1_method_30_code
def yX10_appeal : MethodName := ⟨RX10, "appeal", "(II)I"⟩
abbrev cX10_remark : ByteArray := prog_1_method_31_code
def yX10_remark : MethodName := ⟨RX10, "remark", "(IIII)I"⟩
abbrev cX10_account : ByteArray := prog_1_method_32_code
def yX10_account : MethodName := ⟨RX10, "account", "(I)I"⟩
abbrev cX10_levels : ByteArray := prog_1_method_33_code
def yX10_levels : MethodName := ⟨RX10, "levels", "()I"⟩
abbrev cX10_report : ByteArray := prog_1_method_34_code
def yX10_report : MethodName := ⟨RX10, "report", "(II)I"⟩
abbrev cX10_count : ByteArray := prog_1_method_35_code
def yX10_count : MethodName := ⟨RX10, "count", "(I)I"⟩
abbrev cX10_undo : ByteArray := prog_1_method_36_code
def yX10_undo : MethodName := ⟨RX10, "undo", "()I"⟩
abbrev cX10_save : ByteArray := prog_1_method_37_code
def yX10_save : MethodName := ⟨RX10, "save", "()I"⟩
abbrev cX10_restore : ByteArray := prog_1_method_38_code
def yX10_restore : MethodName := ⟨RX10, "restore", "()I"⟩
abbrev cX10_requireCandidate : ByteArray := prog_1_method_39_code
def yX10_requireCandidate : MethodName := ⟨RX10, "requireCandidate", "(I)V"⟩
abbrev cX10_requireQuestion : ByteArray := prog_1_method_40_code
def yX10_requireQuestion : MethodName := ⟨RX10, "requireQuestion", "(I)V"⟩
abbrev cX10_requireMarker : ByteArray := prog_1_method_41_code
def yX10_requireMarker : MethodName := ⟨RX10, "requireMarker", "(I)V"⟩
abbrev cX10_requireGradeNumber : ByteArray := prog_1_method_42_code
def yX10_requireGradeNumber : MethodName := ⟨RX10, "requireGradeNumber", "(I)V"⟩
abbrev cX10_requireScript : ByteArray := prog_1_method_43_code
def yX10_requireScript : MethodName := ⟨RX10, "requireScript", "(II)V"⟩
abbrev cX10_requireNotNegative : ByteArray := prog_1_method_44_code
def yX10_requireNotNegative : MethodName := ⟨RX10, "requireNotNegative", "(I)V"⟩
abbrev cX10_requireRange : ByteArray := prog_1_method_45_code
def yX10_requireRange : MethodName := ⟨RX10, "requireRange", "(III)V"⟩
abbrev cX10_requireUnpublished : ByteArray := prog_1_method_46_code
def yX10_requireUnpublished : MethodName := ⟨RX10, "requireUnpublished", "()V"⟩
abbrev cX10_requireGrade : ByteArray := prog_1_method_47_code
def yX10_requireGrade : MethodName := ⟨RX10, "requireGrade", "(I)V"⟩
abbrev cX10_refusesEntry : ByteArray := prog_1_method_48_code
def yX10_refusesEntry : MethodName := ⟨RX10, "refusesEntry", "(LExamMarker$Book;IIII)Z"⟩
abbrev cX10_refusesPublication : ByteArray := prog_1_method_49_code
def yX10_refusesPublication : MethodName := ⟨RX10, "refusesPublication", "()Z"⟩
abbrev cX10_refusesAppeal : ByteArray := prog_1_method_50_code
def yX10_refusesAppeal : MethodName := ⟨RX10, "refusesAppeal", "(II)Z"⟩
abbrev cX10_refusesRemark : ByteArray := prog_1_method_51_code
def yX10_refusesRemark : MethodName := ⟨RX10, "refusesRemark", "(IIII)Z"⟩
abbrev cX10_rankOf : ByteArray := prog_1_method_52_code
def yX10_rankOf : MethodName := ⟨RX10, "rankOf", "(I)I"⟩
abbrev cX10_isBelow : ByteArray := prog_1_method_53_code
def yX10_isBelow : MethodName := ⟨RX10, "isBelow", "(II)Z"⟩
abbrev cX10_scriptOf : ByteArray := prog_1_method_54_code
def yX10_scriptOf : MethodName := ⟨RX10, "scriptOf", "(II)I"⟩
abbrev cX10_questionOf : ByteArray := prog_1_method_55_code
def yX10_questionOf : MethodName := ⟨RX10, "questionOf", "(I)I"⟩
abbrev cX10_sumOf : ByteArray := prog_1_method_56_code
def yX10_sumOf : MethodName := ⟨RX10, "sumOf", "([I)I"⟩
abbrev cX10_copyRow : ByteArray := prog_1_method_57_code
def yX10_copyRow : MethodName := ⟨RX10, "copyRow", "([I[I)V"⟩
abbrev cX10_distanceOf : ByteArray := prog_1_method_58_code
def yX10_distanceOf : MethodName := ⟨RX10, "distanceOf", "(II)I"⟩
abbrev cX10_greatestCommonDivisor : ByteArray := prog_1_method_59_code
def yX10_greatestCommonDivisor : MethodName := ⟨RX10, "greatestCommonDivisor", "(JJ)J"⟩
abbrev cX10_halfWithNearer : ByteArray := prog_1_method_60_code
def yX10_halfWithNearer : MethodName := ⟨RX10, "halfWithNearer", "(III)I"⟩
abbrev cX10_doubleBits : ByteArray := prog_1_method_61_code
def yX10_doubleBits : MethodName := ⟨RX10, "doubleBits", "(D)J"⟩
abbrev cX10_floatBits : ByteArray := prog_1_method_62_code
def yX10_floatBits : MethodName := ⟨RX10, "floatBits", "(F)I"⟩
abbrev cX11_init : ByteArray := prog_13_method_1_code
def yX11_init : MethodName := ⟨RX11, "<init>", "()V"⟩
abbrev cX11_thrown : ByteArray := prog_13_method_2_code
def yX11_thrown : MethodName := ⟨RX11, "thrown", "()I"⟩
abbrev cX11_fails : ByteArray := prog_13_method_3_code
def yX11_fails : MethodName := ⟨RX11, "fails", "(I)I"⟩
abbrev cX11_in : ByteArray := prog_13_method_4_code
def yX11_in : MethodName := ⟨RX11, "in", "(III)Z"⟩
abbrev cX11_isCandidate : ByteArray := prog_13_method_5_code
def yX11_isCandidate : MethodName := ⟨RX11, "isCandidate", "(I)Z"⟩
abbrev cX11_isQuestion : ByteArray := prog_13_method_6_code
def yX11_isQuestion : MethodName := ⟨RX11, "isQuestion", "(I)Z"⟩
abbrev cX11_isMarker : ByteArray := prog_13_method_7_code
def yX11_isMarker : MethodName := ⟨RX11, "isMarker", "(I)Z"⟩
abbrev cX11_amount : ByteArray := prog_13_method_8_code
def yX11_amount : MethodName := ⟨RX11, "amount", "(I)I"⟩
abbrev cX11_setting : ByteArray := prog_13_method_9_code
def yX11_setting : MethodName := ⟨RX11, "setting", "(I)I"⟩
abbrev cX11_isPublished : ByteArray := prog_13_method_10_code
def yX11_isPublished : MethodName := ⟨RX11, "isPublished", "()Z"⟩
abbrev cX11_full : ByteArray := prog_13_method_11_code
def yX11_full : MethodName := ⟨RX11, "full", "()I"⟩
abbrev cX11_frames : ByteArray := prog_13_method_12_code
def yX11_frames : MethodName := ⟨RX11, "frames", "()V"⟩
abbrev cX11_keeps : ByteArray := prog_13_method_13_code
def yX11_keeps : MethodName := ⟨RX11, "keeps", "()V"⟩
abbrev cX11_changes : ByteArray := prog_13_method_14_code
def yX11_changes : MethodName := ⟨RX11, "changes", "()V"⟩
abbrev cX11_markedAt : ByteArray := prog_13_method_15_code
def yX11_markedAt : MethodName := ⟨RX11, "markedAt", "(III)I"⟩
abbrev cX11_deviation : ByteArray := prog_13_method_16_code
def yX11_deviation : MethodName := ⟨RX11, "deviation", "(III)I"⟩
abbrev cX11_hasMarked : ByteArray := prog_13_method_17_code
def yX11_hasMarked : MethodName := ⟨RX11, "hasMarked", "(III)Z"⟩
abbrev cX11_suspended : ByteArray := prog_13_method_18_code
def yX11_suspended : MethodName := ⟨RX11, "suspended", "(II)Z"⟩
abbrev cX11_corrects : ByteArray := prog_13_method_19_code
def yX11_corrects : MethodName := ⟨RX11, "corrects", "(II)I"⟩
abbrev cX11_part : ByteArray := prog_13_method_20_code
def yX11_part : MethodName := ⟨RX11, "part", "(II)I"⟩
abbrev cX11_isOf : ByteArray := prog_13_method_21_code
def yX11_isOf : MethodName := ⟨RX11, "isOf", "(III)Z"⟩
abbrev cX11_entries : ByteArray := prog_13_method_22_code
def yX11_entries : MethodName := ⟨RX11, "entries", "(II)I"⟩
abbrev cX11_entryOf : ByteArray := prog_13_method_23_code
def yX11_entryOf : MethodName := ⟨RX11, "entryOf", "(III)I"⟩
abbrev cX11_isValid : ByteArray := prog_13_method_24_code
def yX11_isValid : MethodName := ⟨RX11, "isValid", "(I)Z"⟩
abbrev cX11_value : ByteArray := prog_13_method_25_code
def yX11_value : MethodName := ⟨RX11, "value", "(I)I"⟩
abbrev cX11_agree : ByteArray := prog_13_method_26_code
def yX11_agree : MethodName := ⟨RX11, "agree", "(II)Z"⟩
abbrev cX11_finds : ByteArray := prog_13_method_27_code
def yX11_finds : MethodName := ⟨RX11, "finds", "(II)V"⟩
abbrev cX11_appealPart : ByteArray := prog_13_method_28_code
def yX11_appealPart : MethodName := ⟨RX11, "appealPart", "(III)I"⟩
abbrev cX11_state : ByteArray := prog_13_method_29_code
def yX11_state : MethodName := ⟨RX11, "state", "(II)I"⟩
abbrev cX11_settled : ByteArray := prog_13_method_30_code
def yX11_settled : MethodName := ⟨RX11, "settled", "(II)I"⟩
abbrev cX11_hasGrade : ByteArray := prog_13_method_31_code
def yX11_hasGrade : MethodName := ⟨RX11, "hasGrade", "(I)Z"⟩
abbrev cX11_withGrades : ByteArray := prog_13_method_32_code
def yX11_withGrades : MethodName := ⟨RX11, "withGrades", "()I"⟩
abbrev cX11_isExcused : ByteArray := prog_13_method_33_code
def yX11_isExcused : MethodName := ⟨RX11, "isExcused", "(II)Z"⟩
abbrev cX11_marksOf : ByteArray := prog_13_method_34_code
def yX11_marksOf : MethodName := ⟨RX11, "marksOf", "(I)V"⟩
abbrev cX11_divisor : ByteArray := prog_13_method_35_code
def yX11_divisor : MethodName := ⟨RX11, "divisor", "(JJ)J"⟩
abbrev cX11_raws : ByteArray := prog_13_method_36_code
def yX11_raws : MethodName := ⟨RX11, "raws", "(I)V"⟩
abbrev cX11_rounded : ByteArray := prog_13_method_37_code
def yX11_rounded : MethodName := ⟨RX11, "rounded", "(JJ)I"⟩
abbrev cX11_scaled : ByteArray := prog_13_method_38_code
def yX11_scaled : MethodName := ⟨RX11, "scaled", "(JJ)I"⟩
abbrev cX11_grades : ByteArray := prog_13_method_39_code
def yX11_grades : MethodName := ⟨RX11, "grades", "(I)V"⟩
abbrev cX11_isLifted : ByteArray := prog_13_method_40_code
def yX11_isLifted : MethodName := ⟨RX11, "isLifted", "(I)Z"⟩
abbrev cX11_gradeOf : ByteArray := prog_13_method_41_code
def yX11_gradeOf : MethodName := ⟨RX11, "gradeOf", "(I)I"⟩
abbrev cX11_reports : ByteArray := prog_13_method_42_code
def yX11_reports : MethodName := ⟨RX11, "reports", "(IIIII)I"⟩
abbrev cX11_isAbove : ByteArray := prog_13_method_43_code
def yX11_isAbove : MethodName := ⟨RX11, "isAbove", "(II)Z"⟩
abbrev cX11_setMaximum : ByteArray := prog_13_method_44_code
def yX11_setMaximum : MethodName := ⟨RX11, "setMaximum", "(II)I"⟩
abbrev cX11_isValue : ByteArray := prog_13_method_45_code
def yX11_isValue : MethodName := ⟨RX11, "isValue", "(II)Z"⟩
abbrev cX11_set : ByteArray := prog_13_method_46_code
def yX11_set : MethodName := ⟨RX11, "set", "(II)I"⟩
abbrev cX11_addSeed : ByteArray := prog_13_method_47_code
def yX11_addSeed : MethodName := ⟨RX11, "addSeed", "(II)I"⟩
abbrev cX11_pays : ByteArray := prog_13_method_48_code
def yX11_pays : MethodName := ⟨RX11, "pays", "(II)V"⟩
abbrev cX11_markSeed : ByteArray := prog_13_method_49_code
def yX11_markSeed : MethodName := ⟨RX11, "markSeed", "(IIII)I"⟩
abbrev cX11_markerRefusal : ByteArray := prog_13_method_50_code
def yX11_markerRefusal : MethodName := ⟨RX11, "markerRefusal", "(II)I"⟩
abbrev cX11_correction : ByteArray := prog_13_method_51_code
def yX11_correction : MethodName := ⟨RX11, "correction", "(II)I"⟩
abbrev cX11_isSuspended : ByteArray := prog_13_method_52_code
def yX11_isSuspended : MethodName := ⟨RX11, "isSuspended", "(II)Z"⟩
abbrev cX11_hasEntered : ByteArray := prog_13_method_53_code
def yX11_hasEntered : MethodName := ⟨RX11, "hasEntered", "(III)Z"⟩
abbrev cX11_refusal : ByteArray := prog_13_method_54_code
def yX11_refusal : MethodName := ⟨RX11, "refusal", "(IIII)I"⟩
abbrev cX11_enters : ByteArray := prog_13_method_55_code
def yX11_enters : MethodName := ⟨RX11, "enters", "(IIII)V"⟩
abbrev cX11_enter : ByteArray := prog_13_method_56_code
def yX11_enter : MethodName := ⟨RX11, "enter", "(IIII)I"⟩
abbrev cX11_append : ByteArray := prog_13_method_57_code
def yX11_append : MethodName := ⟨RX11, "append", "(I)I"⟩
abbrev cX11_here : ByteArray := prog_13_method_58_code
def yX11_here : MethodName := ⟨RX11, "here", "()I"⟩
abbrev cX11_must : ByteArray := prog_13_method_59_code
def yX11_must : MethodName := ⟨RX11, "must", "(I)V"⟩
abbrev cX11_digit : ByteArray := prog_13_method_60_code
def yX11_digit : MethodName := ⟨RX11, "digit", "(C)I"⟩
abbrev cX11_readsEntry : ByteArray := prog_13_method_61_code
def yX11_readsEntry : MethodName := ⟨RX11, "readsEntry", "()V"⟩
abbrev cX11_isSheet : ByteArray := prog_13_method_62_code
def yX11_isSheet : MethodName := ⟨RX11, "isSheet", "()Z"⟩
abbrev cX11_sheet : ByteArray := prog_13_method_63_code
def yX11_sheet : MethodName := ⟨RX11, "sheet", "()I"⟩
abbrev cX11_errorPosition : ByteArray := prog_13_method_64_code
def yX11_errorPosition : MethodName := ⟨RX11, "errorPosition", "()I"⟩
abbrev cX11_scriptRefusal : ByteArray := prog_13_method_65_code
def yX11_scriptRefusal : MethodName := ⟨RX11, "scriptRefusal", "(II)I"⟩
abbrev cX11_entry : ByteArray := prog_13_method_66_code
def yX11_entry : MethodName := ⟨RX11, "entry", "(IIII)I"⟩
abbrev cX11_script : ByteArray := prog_13_method_67_code
def yX11_script : MethodName := ⟨RX11, "script", "(III)I"⟩
abbrev cX11_bits : ByteArray := prog_13_method_68_code
def yX11_bits : MethodName := ⟨RX11, "bits", "(I)I"⟩
abbrev cX11_excuse : ByteArray := prog_13_method_69_code
def yX11_excuse : MethodName := ⟨RX11, "excuse", "(IIZ)Z"⟩
abbrev cX11_raise : ByteArray := prog_13_method_70_code
def yX11_raise : MethodName := ⟨RX11, "raise", "(II)I"⟩
abbrev cX11_pointAt : ByteArray := prog_13_method_71_code
def yX11_pointAt : MethodName := ⟨RX11, "pointAt", "(I)I"⟩
abbrev cX11_setPoint : ByteArray := prog_13_method_72_code
def yX11_setPoint : MethodName := ⟨RX11, "setPoint", "(II)I"⟩
abbrev cX11_removePoint : ByteArray := prog_13_method_73_code
def yX11_removePoint : MethodName := ⟨RX11, "removePoint", "(I)I"⟩
abbrev cX11_curve : ByteArray := prog_13_method_74_code
def yX11_curve : MethodName := ⟨RX11, "curve", "(I)I"⟩
abbrev cX11_setBoundary : ByteArray := prog_13_method_75_code
def yX11_setBoundary : MethodName := ⟨RX11, "setBoundary", "(II)I"⟩
abbrev cX11_result : ByteArray := prog_13_method_76_code
def yX11_result : MethodName := ⟨RX11, "result", "(II)J"⟩
abbrev cX11_recount : ByteArray := prog_13_method_77_code
def yX11_recount : MethodName := ⟨RX11, "recount", "(I)I"⟩
abbrev cX11_isAhead : ByteArray := prog_13_method_78_code
def yX11_isAhead : MethodName := ⟨RX11, "isAhead", "(II)Z"⟩
abbrev cX11_ranked : ByteArray := prog_13_method_79_code
def yX11_ranked : MethodName := ⟨RX11, "ranked", "(I)I"⟩
abbrev cX11_graded : ByteArray := prog_13_method_80_code
def yX11_graded : MethodName := ⟨RX11, "graded", "(I)I"⟩
abbrev cX11_gradeWith : ByteArray := prog_13_method_81_code
def yX11_gradeWith : MethodName := ⟨RX11, "gradeWith", "(III)I"⟩
abbrev cX11_gradeIf : ByteArray := prog_13_method_82_code
def yX11_gradeIf : MethodName := ⟨RX11, "gradeIf", "(III)I"⟩
abbrev cX11_needed : ByteArray := prog_13_method_83_code
def yX11_needed : MethodName := ⟨RX11, "needed", "(III)I"⟩
abbrev cX11_meanBits : ByteArray := prog_13_method_84_code
def yX11_meanBits : MethodName := ⟨RX11, "meanBits", "(I)J"⟩
abbrev cX11_validBits : ByteArray := prog_13_method_85_code
def yX11_validBits : MethodName := ⟨RX11, "validBits", "(I)I"⟩
abbrev cX11_publish : ByteArray := prog_13_method_86_code
def yX11_publish : MethodName := ⟨RX11, "publish", "()I"⟩
abbrev cX11_appeals : ByteArray := prog_13_method_87_code
def yX11_appeals : MethodName := ⟨RX11, "appeals", "(III)I"⟩
abbrev cX11_allAppeals : ByteArray := prog_13_method_88_code
def yX11_allAppeals : MethodName := ⟨RX11, "allAppeals", "(II)I"⟩
abbrev cX11_withdraw : ByteArray := prog_13_method_89_code
def yX11_withdraw : MethodName := ⟨RX11, "withdraw", "()I"⟩
abbrev cX11_appeal : ByteArray := prog_13_method_90_code
def yX11_appeal : MethodName := ⟨RX11, "appeal", "(II)I"⟩
abbrev cX11_remark : ByteArray := prog_13_method_91_code
def yX11_remark : MethodName := ⟨RX11, "remark", "(IIII)I"⟩
abbrev cX11_account : ByteArray := prog_13_method_92_code
def yX11_account : MethodName := ⟨RX11, "account", "(I)I"⟩
abbrev cX11_levels : ByteArray := prog_13_method_93_code
def yX11_levels : MethodName := ⟨RX11, "levels", "()I"⟩
abbrev cX11_report : ByteArray := prog_13_method_94_code
def yX11_report : MethodName := ⟨RX11, "report", "(II)I"⟩
abbrev cX11_seeds : ByteArray := prog_13_method_95_code
def yX11_seeds : MethodName := ⟨RX11, "seeds", "()I"⟩
abbrev cX11_seedMarks : ByteArray := prog_13_method_96_code
def yX11_seedMarks : MethodName := ⟨RX11, "seedMarks", "()I"⟩
abbrev cX11_disputed : ByteArray := prog_13_method_97_code
def yX11_disputed : MethodName := ⟨RX11, "disputed", "()I"⟩
abbrev cX11_count : ByteArray := prog_13_method_98_code
def yX11_count : MethodName := ⟨RX11, "count", "(I)I"⟩
abbrev cX11_undo : ByteArray := prog_13_method_99_code
def yX11_undo : MethodName := ⟨RX11, "undo", "()I"⟩
abbrev cX11_save : ByteArray := prog_13_method_100_code
def yX11_save : MethodName := ⟨RX11, "save", "()I"⟩
abbrev cX11_restore : ByteArray := prog_13_method_101_code
def yX11_restore : MethodName := ⟨RX11, "restore", "()I"⟩
abbrev cJxe99ae_isNaN_b9ae7 : ByteArray := prog_18_method_6_code
def yJxe99ae_isNaN_b9ae7 : MethodName := ⟨RJxe99ae, "isNaN", "(D)Z"⟩
abbrev cJxe99ae_doubleToLongBits_ccdee : ByteArray := prog_18_method_23_code
def yJxe99ae_doubleToLongBits_ccdee : MethodName := ⟨RJxe99ae, "doubleToLongBits", "(D)J"⟩
abbrev cJxf58ca_isNaN_12338 : ByteArray := prog_20_method_6_code
def yJxf58ca_isNaN_12338 : MethodName := ⟨RJxf58ca, "isNaN", "(F)Z"⟩
abbrev cJxf58ca_floatToIntBits_5c35a : ByteArray := prog_20_method_24_code
def yJxf58ca_floatToIntBits_5c35a : MethodName := ⟨RJxf58ca, "floatToIntBits", "(F)I"⟩
abbrev cJ6_bitCount_0f7a4 : ByteArray := prog_24_method_49_code
def yJ6_bitCount_0f7a4 : MethodName := ⟨RJ6, "bitCount", "(I)I"⟩
abbrev cJ13_compare_74951 : ByteArray := prog_25_method_42_code
def yJ13_compare_74951 : MethodName := ⟨RJ13, "compare", "(JJ)I"⟩
abbrev cJ9_floorDiv_f86c9 : ByteArray := prog_26_method_49_code
def yJ9_floorDiv_f86c9 : MethodName := ⟨RJ9, "floorDiv", "(JJ)J"⟩
abbrev cJ7_fill_53178 : ByteArray := prog_35_method_103_code
def yJ7_fill_53178 : MethodName := ⟨RJ7, "fill", "([II)V"⟩
abbrev cL_setMaximum : ByteArray := method_3_code
def yL_setMaximum : MethodName := ⟨RL, "setMaximum", "(LExamMarker;II[J)I"⟩
abbrev cL_set : ByteArray := method_4_code
def yL_set : MethodName := ⟨RL, "set", "(LExamMarker;II[J)I"⟩
abbrev cL_addSeed : ByteArray := method_5_code
def yL_addSeed : MethodName := ⟨RL, "addSeed", "(LExamMarker;II[J)I"⟩
abbrev cL_markSeed : ByteArray := method_6_code
def yL_markSeed : MethodName := ⟨RL, "markSeed", "(LExamMarker;IIII[J)I"⟩
abbrev cL_correction : ByteArray := method_7_code
def yL_correction : MethodName := ⟨RL, "correction", "(LExamMarker;II[J)I"⟩
abbrev cL_isSuspended : ByteArray := method_8_code
def yL_isSuspended : MethodName := ⟨RL, "isSuspended", "(LExamMarker;II[J)I"⟩
abbrev cL_enter : ByteArray := method_9_code
def yL_enter : MethodName := ⟨RL, "enter", "(LExamMarker;IIII[J)I"⟩
abbrev cL_append : ByteArray := method_10_code
def yL_append : MethodName := ⟨RL, "append", "(LExamMarker;I[J)I"⟩
abbrev cL_sheet : ByteArray := method_11_code
def yL_sheet : MethodName := ⟨RL, "sheet", "(LExamMarker;[J)I"⟩
abbrev cL_entry : ByteArray := method_12_code
def yL_entry : MethodName := ⟨RL, "entry", "(LExamMarker;IIII[J)I"⟩
abbrev cL_script : ByteArray := method_13_code
def yL_script : MethodName := ⟨RL, "script", "(LExamMarker;III[J)I"⟩
abbrev cL_excuse : ByteArray := method_14_code
def yL_excuse : MethodName := ⟨RL, "excuse", "(LExamMarker;IIZ[J)I"⟩
abbrev cL_raise : ByteArray := method_15_code
def yL_raise : MethodName := ⟨RL, "raise", "(LExamMarker;II[J)I"⟩
abbrev cL_setPoint : ByteArray := method_16_code
def yL_setPoint : MethodName := ⟨RL, "setPoint", "(LExamMarker;II[J)I"⟩
abbrev cL_removePoint : ByteArray := method_17_code
def yL_removePoint : MethodName := ⟨RL, "removePoint", "(LExamMarker;I[J)I"⟩
abbrev cL_curve : ByteArray := method_18_code
def yL_curve : MethodName := ⟨RL, "curve", "(LExamMarker;I[J)I"⟩
abbrev cL_setBoundary : ByteArray := method_19_code
def yL_setBoundary : MethodName := ⟨RL, "setBoundary", "(LExamMarker;II[J)I"⟩
abbrev cL_result : ByteArray := method_20_code
def yL_result : MethodName := ⟨RL, "result", "(LExamMarker;II[J)I"⟩
abbrev cL_recount : ByteArray := method_21_code
def yL_recount : MethodName := ⟨RL, "recount", "(LExamMarker;I[J)I"⟩
abbrev cL_ranked : ByteArray := method_22_code
def yL_ranked : MethodName := ⟨RL, "ranked", "(LExamMarker;I[J)I"⟩
abbrev cL_graded : ByteArray := method_23_code
def yL_graded : MethodName := ⟨RL, "graded", "(LExamMarker;I[J)I"⟩
abbrev cL_gradeIf : ByteArray := method_24_code
def yL_gradeIf : MethodName := ⟨RL, "gradeIf", "(LExamMarker;III[J)I"⟩
abbrev cL_needed : ByteArray := method_25_code
def yL_needed : MethodName := ⟨RL, "needed", "(LExamMarker;III[J)I"⟩
abbrev cL_meanBits : ByteArray := method_26_code
def yL_meanBits : MethodName := ⟨RL, "meanBits", "(LExamMarker;I[J)I"⟩
abbrev cL_validBits : ByteArray := method_27_code
def yL_validBits : MethodName := ⟨RL, "validBits", "(LExamMarker;I[J)I"⟩
abbrev cL_publish : ByteArray := method_28_code
def yL_publish : MethodName := ⟨RL, "publish", "(LExamMarker;[J)I"⟩
abbrev cL_withdraw : ByteArray := method_29_code
def yL_withdraw : MethodName := ⟨RL, "withdraw", "(LExamMarker;[J)I"⟩
abbrev cL_appeal : ByteArray := method_30_code
def yL_appeal : MethodName := ⟨RL, "appeal", "(LExamMarker;II[J)I"⟩
abbrev cL_remark : ByteArray := method_31_code
def yL_remark : MethodName := ⟨RL, "remark", "(LExamMarker;IIII[J)I"⟩
abbrev cL_account : ByteArray := method_32_code
def yL_account : MethodName := ⟨RL, "account", "(LExamMarker;I[J)I"⟩
abbrev cL_report : ByteArray := method_33_code
def yL_report : MethodName := ⟨RL, "report", "(LExamMarker;II[J)I"⟩
abbrev cL_count : ByteArray := method_34_code
def yL_count : MethodName := ⟨RL, "count", "(LExamMarker;I[J)I"⟩
abbrev cL_undo : ByteArray := method_35_code
def yL_undo : MethodName := ⟨RL, "undo", "(LExamMarker;[J)I"⟩
abbrev cL_restore : ByteArray := method_36_code
def yL_restore : MethodName := ⟨RL, "restore", "(LExamMarker;[J)I"⟩
abbrev cL_law : ByteArray := code
def yL_law : MethodName := ⟨R_law, "law", "([I)Z"⟩
abbrev kCl : List vw_C := [(RX0, TX0, 4), (RX1, TX1, 12), (RX2, TX2, 3), (RX3, TX3, 5), (RX4, TX4, 3), (RX5, TX5, 6), (RX6, TX6, 3), (RX7, TX7, 3), (RX8, TX8, 9), (RX9, TX9, 4), (RX10, TX10, 9), (RX11, TX11, 28)]
def kTyF : Nat → Nat → FieldType := fun ci => match ci with
  | 0 => tyX0
  | 1 => tyX1
  | 2 => tyX2
  | 3 => tyX3
  | 4 => tyX4
  | 5 => tyX5
  | 6 => tyX6
  | 7 => tyX7
  | 8 => tyX8
  | 9 => tyX9
  | 10 => tyX10
  | _ => tyX11
def kNF : Nat → Nat := fun ci => match ci with
  | 0 => 4
  | 1 => 12
  | 2 => 3
  | 3 => 5
  | 4 => 3
  | 5 => 6
  | 6 => 3
  | 7 => 3
  | 8 => 9
  | 9 => 4
  | 10 => 9
  | _ => 28
def kG : List Cond := lw_tbl.filter goodWord
theorem inG (i : Nat) {w : Cond} (h : lw_tbl[i]? = some w) (hg : goodWord w = true) : w ∈ kG := List.mem_filter.mpr ⟨List.mem_of_getElem? h, hg⟩
theorem inT1 (j : Nat) {w : Cond} (h : tables_1_1[j]? = some w) (hg : goodWord w = true) : w ∈ kG := by
  have h := List.mem_of_getElem? h
  exact List.mem_filter.mpr ⟨List.mem_append_right _ (show w ∈ tables_1 from List.mem_append_left _ h), hg⟩
theorem inT2 (j : Nat) {w : Cond} (h : tables_1_2[j]? = some w) (hg : goodWord w = true) : w ∈ kG := by
  have h := List.mem_of_getElem? h
  exact List.mem_filter.mpr ⟨List.mem_append_right _ (show w ∈ tables_1 from List.mem_append_right _ (List.mem_append_left _ h)), hg⟩
theorem inT3 (j : Nat) {w : Cond} (h : tables_1_3[j]? = some w) (hg : goodWord w = true) : w ∈ kG := by
  have h := List.mem_of_getElem? h
  exact List.mem_filter.mpr ⟨List.mem_append_right _ (show w ∈ tables_1 from List.mem_append_right _ (List.mem_append_right _ (List.mem_append_left _ h))), hg⟩
theorem inT4 (j : Nat) {w : Cond} (h : tables_1_4[j]? = some w) (hg : goodWord w = true) : w ∈ kG := by
  have h := List.mem_of_getElem? h
  exact List.mem_filter.mpr ⟨List.mem_append_right _ (show w ∈ tables_1 from List.mem_append_right _ (List.mem_append_right _ (List.mem_append_right _ (List.mem_append_left _ h)))), hg⟩
theorem inT5 (j : Nat) {w : Cond} (h : tables_1_5[j]? = some w) (hg : goodWord w = true) : w ∈ kG := by
  have h := List.mem_of_getElem? h
  exact List.mem_filter.mpr ⟨List.mem_append_right _ (show w ∈ tables_1 from List.mem_append_right _ (List.mem_append_right _ (List.mem_append_right _ (List.mem_append_right _ (List.mem_append_left _ h))))), hg⟩
theorem inT6 (j : Nat) {w : Cond} (h : tables_1_6[j]? = some w) (hg : goodWord w = true) : w ∈ kG := by
  have h := List.mem_of_getElem? h
  exact List.mem_filter.mpr ⟨List.mem_append_right _ (show w ∈ tables_1 from List.mem_append_right _ (List.mem_append_right _ (List.mem_append_right _ (List.mem_append_right _ (List.mem_append_right _ (List.mem_append_left _ h)))))), hg⟩
theorem inT7 (j : Nat) {w : Cond} (h : tables_1_7[j]? = some w) (hg : goodWord w = true) : w ∈ kG := by
  have h := List.mem_of_getElem? h
  exact List.mem_filter.mpr ⟨List.mem_append_right _ (show w ∈ tables_1 from List.mem_append_right _ (List.mem_append_right _ (List.mem_append_right _ (List.mem_append_right _ (List.mem_append_right _ (List.mem_append_right _ (List.mem_append_left _ h))))))), hg⟩
theorem inT8 (j : Nat) {w : Cond} (h : tables_1_8[j]? = some w) (hg : goodWord w = true) : w ∈ kG := by
  have h := List.mem_of_getElem? h
  exact List.mem_filter.mpr ⟨List.mem_append_right _ (show w ∈ tables_1 from List.mem_append_right _ (List.mem_append_right _ (List.mem_append_right _ (List.mem_append_right _ (List.mem_append_right _ (List.mem_append_right _ (List.mem_append_right _ (h)))))))), hg⟩
abbrev kM : Type := MethodName × ByteArray × Nat × Option FieldType × List ExceptionTableEntry
abbrev mX0_init : kM := (yX0_init, cX0_init, 1, none, [])
abbrev mX0_copyFrom : kM := (yX0_copyFrom, cX0_copyFrom, 2, none, [])
abbrev mX0_inState : kM := (yX0_inState, cX0_inState, 6, (some FieldType.int), [])
abbrev mX0_made : kM := (yX0_made, cX0_made, 1, (some FieldType.int), [])
abbrev mX0_open : kM := (yX0_open, cX0_open, 3, none, [])
abbrev mX0_close : kM := (yX0_close, cX0_close, 4, none, [])
abbrev mX0_refund : kM := (yX0_refund, cX0_refund, 2, (some FieldType.int), [])
abbrev mX1_init : kM := (yX1_init, cX1_init, 1, none, [])
abbrev mX1_copyFrom : kM := (yX1_copyFrom, cX1_copyFrom, 2, none, [])
abbrev mX1_fullMaximum : kM := (yX1_fullMaximum, cX1_fullMaximum, 1, (some FieldType.int), [])
abbrev mX1_greatestMark : kM := (yX1_greatestMark, cX1_greatestMark, 2, (some FieldType.int), [])
abbrev mX1_earn : kM := (yX1_earn, cX1_earn, 3, none, [])
abbrev mX1_makeEntry : kM := (yX1_makeEntry, cX1_makeEntry, 4, (some FieldType.int), [])
abbrev mX1_isValid : kM := (yX1_isValid, cX1_isValid, 3, (some FieldType.boolean), [])
abbrev mX1_valueOf : kM := (yX1_valueOf, cX1_valueOf, 5, (some FieldType.int), [])
abbrev mX1_readValidValues : kM := (yX1_readValidValues, cX1_readValidValues, 5, (some FieldType.int), [])
abbrev mX1_agree : kM := (yX1_agree, cX1_agree, 3, (some FieldType.boolean), [])
abbrev mX1_hasAgreement : kM := (yX1_hasAgreement, cX1_hasAgreement, 2, (some FieldType.boolean), [])
abbrev mX1_settledOf : kM := (yX1_settledOf, cX1_settledOf, 3, (some FieldType.int), [])
abbrev mX1_standingOf : kM := (yX1_standingOf, cX1_standingOf, 3, (some FieldType.int), [])
abbrev mX1_isExcused : kM := (yX1_isExcused, cX1_isExcused, 3, (some FieldType.boolean), [])
abbrev mX1_hasGrade : kM := (yX1_hasGrade, cX1_hasGrade, 3, (some FieldType.boolean), [])
abbrev mX1_gradedCandidates : kM := (yX1_gradedCandidates, cX1_gradedCandidates, 3, (some FieldType.int), [])
abbrev mX1_disputedScripts : kM := (yX1_disputedScripts, cX1_disputedScripts, 3, (some FieldType.int), [])
abbrev mX1_plainGradeOf : kM := (yX1_plainGradeOf, cX1_plainGradeOf, 3, (some FieldType.int), [])
abbrev mX2_init : kM := (yX2_init, cX2_init, 1, none, [])
abbrev mX2_copyFrom : kM := (yX2_copyFrom, cX2_copyFrom, 2, none, [])
abbrev mX2_indexOf : kM := (yX2_indexOf, cX2_indexOf, 3, (some FieldType.int), [])
abbrev mX2_put : kM := (yX2_put, cX2_put, 4, (some FieldType.int), [])
abbrev mX2_takeAway : kM := (yX2_takeAway, cX2_takeAway, 4, (some FieldType.int), [])
abbrev mX2_scale : kM := (yX2_scale, cX2_scale, 13, (some FieldType.int), [])
abbrev mX2_round : kM := (yX2_round, cX2_round, 4, (some FieldType.int), [])
abbrev mX3_init : kM := (yX3_init, cX3_init, 1, none, [])
abbrev mX3_copyFrom : kM := (yX3_copyFrom, cX3_copyFrom, 2, none, [])
abbrev mX3_put : kM := (yX3_put, cX3_put, 6, (some FieldType.int), [])
abbrev mX3_isBy : kM := (yX3_isBy, cX3_isBy, 3, (some FieldType.boolean), [])
abbrev mX3_hasEntryBy : kM := (yX3_hasEntryBy, cX3_hasEntryBy, 4, (some FieldType.boolean), [])
abbrev mX3_greatestMark : kM := (yX3_greatestMark, cX3_greatestMark, 4, (some FieldType.int), [])
abbrev mX4_init : kM := (yX4_init, cX4_init, 2, none, [])
abbrev mX4_keep : kM := (yX4_keep, cX4_keep, 2, none, [])
abbrev mX4_takeBack : kM := (yX4_takeBack, cX4_takeBack, 2, none, [])
abbrev mX5_init : kM := (yX5_init, cX5_init, 1, none, [])
abbrev mX5_find : kM := (yX5_find, cX5_find, 4, none, [])
abbrev mX5_suppose : kM := (yX5_suppose, cX5_suppose, 5, none, [])
abbrev mX5_assess : kM := (yX5_assess, cX5_assess, 4, none, [])
abbrev mX5_findRawResult : kM := (yX5_findRawResult, cX5_findRawResult, 14, none, [])
abbrev mX5_isLifted : kM := (yX5_isLifted, cX5_isLifted, 7, (some FieldType.boolean), [])
abbrev mX5_compareWith : kM := (yX5_compareWith, cX5_compareWith, 2, (some FieldType.int), [])
abbrev mX6_init : kM := (yX6_init, cX6_init, 1, none, [])
abbrev mX6_tell : kM := (yX6_tell, cX6_tell, 5, (some FieldType.boolean), [])
abbrev mX7_init : kM := (yX7_init, cX7_init, 1, none, [])
abbrev mX7_copyFrom : kM := (yX7_copyFrom, cX7_copyFrom, 2, none, [])
abbrev mX7_define : kM := (yX7_define, cX7_define, 4, (some FieldType.int), [])
abbrev mX7_give : kM := (yX7_give, cX7_give, 5, (some FieldType.int), [])
abbrev mX7_isMarked : kM := (yX7_isMarked, cX7_isMarked, 4, (some FieldType.boolean), [])
abbrev mX7_placeOf : kM := (yX7_placeOf, cX7_placeOf, 4, (some FieldType.int), [])
abbrev mX7_markedSeeds : kM := (yX7_markedSeeds, cX7_markedSeeds, 3, (some FieldType.int), [])
abbrev mX7_greatestMark : kM := (yX7_greatestMark, cX7_greatestMark, 5, (some FieldType.int), [])
abbrev mX7_correctionOf : kM := (yX7_correctionOf, cX7_correctionOf, 8, (some FieldType.int), [])
abbrev mX7_strays : kM := (yX7_strays, cX7_strays, 6, (some FieldType.boolean), [])
abbrev mX8_init : kM := (yX8_init, cX8_init, 1, none, [])
abbrev mX8_store : kM := (yX8_store, cX8_store, 2, none, [])
abbrev mX8_readAndClear : kM := (yX8_readAndClear, cX8_readAndClear, 1, none, [])
abbrev mX8_positionOfError : kM := (yX8_positionOfError, cX8_positionOfError, 2, (some FieldType.int), [])
abbrev mX8_accepts : kM := (yX8_accepts, cX8_accepts, 3, (some FieldType.boolean), [])
abbrev mX8_goesOn : kM := (yX8_goesOn, cX8_goesOn, 3, (some FieldType.boolean), [])
abbrev mX8_startsEntry : kM := (yX8_startsEntry, cX8_startsEntry, 2, (some FieldType.boolean), [])
abbrev mX8_takesDigit : kM := (yX8_takesDigit, cX8_takesDigit, 3, (some FieldType.boolean), [])
abbrev mX9_init : kM := (yX9_init, cX9_init, 1, none, [])
abbrev mX9_sumOf : kM := (yX9_sumOf, cX9_sumOf, 7, (some FieldType.int), [])
abbrev mX9_correct : kM := (yX9_correct, cX9_correct, 6, (some FieldType.int), [])
abbrev mX10_init : kM := (yX10_init, cX10_init, 2, none, [])
abbrev mX10_setMaximum : kM := (yX10_setMaximum, cX10_setMaximum, 4, (some FieldType.int), [])
abbrev mX10_set : kM := (yX10_set, cX10_set, 4, (some FieldType.int), [])
abbrev mX10_addSeed : kM := (yX10_addSeed, cX10_addSeed, 3, (some FieldType.int), [])
abbrev mX10_markSeed : kM := (yX10_markSeed, cX10_markSeed, 5, (some FieldType.int), [])
abbrev mX10_correction : kM := (yX10_correction, cX10_correction, 3, (some FieldType.int), [])
abbrev mX10_isSuspended : kM := (yX10_isSuspended, cX10_isSuspended, 3, (some FieldType.boolean), [])
abbrev mX10_enter : kM := (yX10_enter, cX10_enter, 6, (some FieldType.int), [])
abbrev mX10_append : kM := (yX10_append, cX10_append, 5, (some FieldType.int), [])
abbrev mX10_sheet : kM := (yX10_sheet, cX10_sheet, 3, (some FieldType.int), [])
abbrev mX10_errorPosition : kM := (yX10_errorPosition, cX10_errorPosition, 1, (some FieldType.int), [])
abbrev mX10_entry : kM := (yX10_entry, cX10_entry, 7, (some FieldType.int), [])
abbrev mX10_script : kM := (yX10_script, cX10_script, 5, (some FieldType.int), [])
abbrev mX10_excuse : kM := (yX10_excuse, cX10_excuse, 6, (some FieldType.boolean), [])
abbrev mX10_raise : kM := (yX10_raise, cX10_raise, 4, (some FieldType.int), [])
abbrev mX10_setPoint : kM := (yX10_setPoint, cX10_setPoint, 3, (some FieldType.int), [])
abbrev mX10_removePoint : kM := (yX10_removePoint, cX10_removePoint, 3, (some FieldType.int), [])
abbrev mX10_curve : kM := (yX10_curve, cX10_curve, 3, (some FieldType.int), [])
abbrev mX10_setBoundary : kM := (yX10_setBoundary, cX10_setBoundary, 6, (some FieldType.int), [])
abbrev mX10_result : kM := (yX10_result, cX10_result, 4, (some FieldType.long), [])
abbrev mX10_recount : kM := (yX10_recount, cX10_recount, 2, (some FieldType.int), [])
abbrev mX10_ranked : kM := (yX10_ranked, cX10_ranked, 3, (some FieldType.int), [])
abbrev mX10_graded : kM := (yX10_graded, cX10_graded, 4, (some FieldType.int), [])
abbrev mX10_gradeIf : kM := (yX10_gradeIf, cX10_gradeIf, 5, (some FieldType.int), [])
abbrev mX10_needed : kM := (yX10_needed, cX10_needed, 6, (some FieldType.int), [])
abbrev mX10_meanBits : kM := (yX10_meanBits, cX10_meanBits, 5, (some FieldType.long), [])
abbrev mX10_validBits : kM := (yX10_validBits, cX10_validBits, 5, (some FieldType.int), [])
abbrev mX10_publish : kM := (yX10_publish, cX10_publish, 1, (some FieldType.int), [])
abbrev mX10_withdraw : kM := (yX10_withdraw, cX10_withdraw, 1, (some FieldType.int), [])
abbrev mX10_appeal : kM := (yX10_appeal, cX10_appeal, 4, (some FieldType.int), [])
abbrev mX10_remark : kM := (yX10_remark, cX10_remark, 9, (some FieldType.int), [])
abbrev mX10_account : kM := (yX10_account, cX10_account, 2, (some FieldType.int), [])
abbrev mX10_levels : kM := (yX10_levels, cX10_levels, 1, (some FieldType.int), [])
abbrev mX10_report : kM := (yX10_report, cX10_report, 3, (some FieldType.int), [])
abbrev mX10_count : kM := (yX10_count, cX10_count, 2, (some FieldType.int), [])
abbrev mX10_undo : kM := (yX10_undo, cX10_undo, 1, (some FieldType.int), [])
abbrev mX10_save : kM := (yX10_save, cX10_save, 1, (some FieldType.int), [])
abbrev mX10_restore : kM := (yX10_restore, cX10_restore, 1, (some FieldType.int), [])
abbrev mX10_requireCandidate : kM := (yX10_requireCandidate, cX10_requireCandidate, 1, none, [])
abbrev mX10_requireQuestion : kM := (yX10_requireQuestion, cX10_requireQuestion, 1, none, [])
abbrev mX10_requireMarker : kM := (yX10_requireMarker, cX10_requireMarker, 1, none, [])
abbrev mX10_requireGradeNumber : kM := (yX10_requireGradeNumber, cX10_requireGradeNumber, 1, none, [])
abbrev mX10_requireScript : kM := (yX10_requireScript, cX10_requireScript, 2, none, [])
abbrev mX10_requireNotNegative : kM := (yX10_requireNotNegative, cX10_requireNotNegative, 1, none, [])
abbrev mX10_requireRange : kM := (yX10_requireRange, cX10_requireRange, 3, none, [])
abbrev mX10_requireUnpublished : kM := (yX10_requireUnpublished, cX10_requireUnpublished, 1, none, [])
abbrev mX10_requireGrade : kM := (yX10_requireGrade, cX10_requireGrade, 2, none, [])
abbrev mX10_refusesEntry : kM := (yX10_refusesEntry, cX10_refusesEntry, 7, (some FieldType.boolean), [])
abbrev mX10_refusesPublication : kM := (yX10_refusesPublication, cX10_refusesPublication, 4, (some FieldType.boolean), [])
abbrev mX10_refusesAppeal : kM := (yX10_refusesAppeal, cX10_refusesAppeal, 4, (some FieldType.boolean), [])
abbrev mX10_refusesRemark : kM := (yX10_refusesRemark, cX10_refusesRemark, 6, (some FieldType.boolean), [])
abbrev mX10_rankOf : kM := (yX10_rankOf, cX10_rankOf, 5, (some FieldType.int), [])
abbrev mX10_isBelow : kM := (yX10_isBelow, cX10_isBelow, 2, (some FieldType.boolean), [])
abbrev mX10_scriptOf : kM := (yX10_scriptOf, cX10_scriptOf, 2, (some FieldType.int), [])
abbrev mX10_questionOf : kM := (yX10_questionOf, cX10_questionOf, 1, (some FieldType.int), [])
abbrev mX10_sumOf : kM := (yX10_sumOf, cX10_sumOf, 3, (some FieldType.int), [])
abbrev mX10_copyRow : kM := (yX10_copyRow, cX10_copyRow, 2, none, [])
abbrev mX10_distanceOf : kM := (yX10_distanceOf, cX10_distanceOf, 2, (some FieldType.int), [])
abbrev mX10_greatestCommonDivisor : kM := (yX10_greatestCommonDivisor, cX10_greatestCommonDivisor, 11, (some FieldType.long), [])
abbrev mX10_halfWithNearer : kM := (yX10_halfWithNearer, cX10_halfWithNearer, 6, (some FieldType.int), [])
abbrev mX10_doubleBits : kM := (yX10_doubleBits, cX10_doubleBits, 7, (some FieldType.long), [])
abbrev mX10_floatBits : kM := (yX10_floatBits, cX10_floatBits, 3, (some FieldType.int), [])
abbrev mX11_init : kM := (yX11_init, cX11_init, 2, none, [])
abbrev mX11_thrown : kM := (yX11_thrown, cX11_thrown, 1, (some FieldType.int), [])
abbrev mX11_fails : kM := (yX11_fails, cX11_fails, 2, (some FieldType.int), [])
abbrev mX11_in : kM := (yX11_in, cX11_in, 3, (some FieldType.boolean), [])
abbrev mX11_isCandidate : kM := (yX11_isCandidate, cX11_isCandidate, 1, (some FieldType.boolean), [])
abbrev mX11_isQuestion : kM := (yX11_isQuestion, cX11_isQuestion, 1, (some FieldType.boolean), [])
abbrev mX11_isMarker : kM := (yX11_isMarker, cX11_isMarker, 1, (some FieldType.boolean), [])
abbrev mX11_amount : kM := (yX11_amount, cX11_amount, 1, (some FieldType.int), [])
abbrev mX11_setting : kM := (yX11_setting, cX11_setting, 2, (some FieldType.int), [])
abbrev mX11_isPublished : kM := (yX11_isPublished, cX11_isPublished, 1, (some FieldType.boolean), [])
abbrev mX11_full : kM := (yX11_full, cX11_full, 3, (some FieldType.int), [])
abbrev mX11_frames : kM := (yX11_frames, cX11_frames, 2, none, [])
abbrev mX11_keeps : kM := (yX11_keeps, cX11_keeps, 2, none, [])
abbrev mX11_changes : kM := (yX11_changes, cX11_changes, 1, none, [])
abbrev mX11_markedAt : kM := (yX11_markedAt, cX11_markedAt, 3, (some FieldType.int), [])
abbrev mX11_deviation : kM := (yX11_deviation, cX11_deviation, 4, (some FieldType.int), [])
abbrev mX11_hasMarked : kM := (yX11_hasMarked, cX11_hasMarked, 4, (some FieldType.boolean), [])
abbrev mX11_suspended : kM := (yX11_suspended, cX11_suspended, 5, (some FieldType.boolean), [])
abbrev mX11_corrects : kM := (yX11_corrects, cX11_corrects, 6, (some FieldType.int), [])
abbrev mX11_part : kM := (yX11_part, cX11_part, 3, (some FieldType.int), [])
abbrev mX11_isOf : kM := (yX11_isOf, cX11_isOf, 4, (some FieldType.boolean), [])
abbrev mX11_entries : kM := (yX11_entries, cX11_entries, 5, (some FieldType.int), [])
abbrev mX11_entryOf : kM := (yX11_entryOf, cX11_entryOf, 6, (some FieldType.int), [])
abbrev mX11_isValid : kM := (yX11_isValid, cX11_isValid, 2, (some FieldType.boolean), [])
abbrev mX11_value : kM := (yX11_value, cX11_value, 4, (some FieldType.int), [])
abbrev mX11_agree : kM := (yX11_agree, cX11_agree, 3, (some FieldType.boolean), [])
abbrev mX11_finds : kM := (yX11_finds, cX11_finds, 4, none, [])
abbrev mX11_appealPart : kM := (yX11_appealPart, cX11_appealPart, 4, (some FieldType.int), [])
abbrev mX11_state : kM := (yX11_state, cX11_state, 3, (some FieldType.int), [])
abbrev mX11_settled : kM := (yX11_settled, cX11_settled, 5, (some FieldType.int), [])
abbrev mX11_hasGrade : kM := (yX11_hasGrade, cX11_hasGrade, 4, (some FieldType.boolean), [])
abbrev mX11_withGrades : kM := (yX11_withGrades, cX11_withGrades, 3, (some FieldType.int), [])
abbrev mX11_isExcused : kM := (yX11_isExcused, cX11_isExcused, 3, (some FieldType.boolean), [])
abbrev mX11_marksOf : kM := (yX11_marksOf, cX11_marksOf, 3, none, [])
abbrev mX11_divisor : kM := (yX11_divisor, cX11_divisor, 10, (some FieldType.long), [])
abbrev mX11_raws : kM := (yX11_raws, cX11_raws, 14, none, [])
abbrev mX11_rounded : kM := (yX11_rounded, cX11_rounded, 4, (some FieldType.int), [])
abbrev mX11_scaled : kM := (yX11_scaled, cX11_scaled, 15, (some FieldType.int), [])
abbrev mX11_grades : kM := (yX11_grades, cX11_grades, 2, none, [])
abbrev mX11_isLifted : kM := (yX11_isLifted, cX11_isLifted, 6, (some FieldType.boolean), [])
abbrev mX11_gradeOf : kM := (yX11_gradeOf, cX11_gradeOf, 2, (some FieldType.int), [])
abbrev mX11_reports : kM := (yX11_reports, cX11_reports, 6, (some FieldType.int), [])
abbrev mX11_isAbove : kM := (yX11_isAbove, cX11_isAbove, 6, (some FieldType.boolean), [])
abbrev mX11_setMaximum : kM := (yX11_setMaximum, cX11_setMaximum, 4, (some FieldType.int), [])
abbrev mX11_isValue : kM := (yX11_isValue, cX11_isValue, 2, (some FieldType.boolean), [])
abbrev mX11_set : kM := (yX11_set, cX11_set, 4, (some FieldType.int), [])
abbrev mX11_addSeed : kM := (yX11_addSeed, cX11_addSeed, 4, (some FieldType.int), [])
abbrev mX11_pays : kM := (yX11_pays, cX11_pays, 3, none, [])
abbrev mX11_markSeed : kM := (yX11_markSeed, cX11_markSeed, 5, (some FieldType.int), [])
abbrev mX11_markerRefusal : kM := (yX11_markerRefusal, cX11_markerRefusal, 3, (some FieldType.int), [])
abbrev mX11_correction : kM := (yX11_correction, cX11_correction, 3, (some FieldType.int), [])
abbrev mX11_isSuspended : kM := (yX11_isSuspended, cX11_isSuspended, 3, (some FieldType.boolean), [])
abbrev mX11_hasEntered : kM := (yX11_hasEntered, cX11_hasEntered, 6, (some FieldType.boolean), [])
abbrev mX11_refusal : kM := (yX11_refusal, cX11_refusal, 5, (some FieldType.int), [])
abbrev mX11_enters : kM := (yX11_enters, cX11_enters, 6, none, [])
abbrev mX11_enter : kM := (yX11_enter, cX11_enter, 6, (some FieldType.int), [])
abbrev mX11_append : kM := (yX11_append, cX11_append, 5, (some FieldType.int), [])
abbrev mX11_here : kM := (yX11_here, cX11_here, 1, (some FieldType.int), [])
abbrev mX11_must : kM := (yX11_must, cX11_must, 2, none, [])
abbrev mX11_digit : kM := (yX11_digit, cX11_digit, 2, (some FieldType.int), [])
abbrev mX11_readsEntry : kM := (yX11_readsEntry, cX11_readsEntry, 1, none, [])
abbrev mX11_isSheet : kM := (yX11_isSheet, cX11_isSheet, 1, (some FieldType.boolean), [])
abbrev mX11_sheet : kM := (yX11_sheet, cX11_sheet, 8, (some FieldType.int), [])
abbrev mX11_errorPosition : kM := (yX11_errorPosition, cX11_errorPosition, 1, (some FieldType.int), [])
abbrev mX11_scriptRefusal : kM := (yX11_scriptRefusal, cX11_scriptRefusal, 3, (some FieldType.int), [])
abbrev mX11_entry : kM := (yX11_entry, cX11_entry, 6, (some FieldType.int), [])
abbrev mX11_script : kM := (yX11_script, cX11_script, 4, (some FieldType.int), [])
abbrev mX11_bits : kM := (yX11_bits, cX11_bits, 3, (some FieldType.int), [])
abbrev mX11_excuse : kM := (yX11_excuse, cX11_excuse, 5, (some FieldType.boolean), [])
abbrev mX11_raise : kM := (yX11_raise, cX11_raise, 4, (some FieldType.int), [])
abbrev mX11_pointAt : kM := (yX11_pointAt, cX11_pointAt, 3, (some FieldType.int), [])
abbrev mX11_setPoint : kM := (yX11_setPoint, cX11_setPoint, 4, (some FieldType.int), [])
abbrev mX11_removePoint : kM := (yX11_removePoint, cX11_removePoint, 5, (some FieldType.int), [])
abbrev mX11_curve : kM := (yX11_curve, cX11_curve, 2, (some FieldType.int), [])
abbrev mX11_setBoundary : kM := (yX11_setBoundary, cX11_setBoundary, 6, (some FieldType.int), [])
abbrev mX11_result : kM := (yX11_result, cX11_result, 3, (some FieldType.long), [])
abbrev mX11_recount : kM := (yX11_recount, cX11_recount, 4, (some FieldType.int), [])
abbrev mX11_isAhead : kM := (yX11_isAhead, cX11_isAhead, 7, (some FieldType.boolean), [])
abbrev mX11_ranked : kM := (yX11_ranked, cX11_ranked, 5, (some FieldType.int), [])
abbrev mX11_graded : kM := (yX11_graded, cX11_graded, 4, (some FieldType.int), [])
abbrev mX11_gradeWith : kM := (yX11_gradeWith, cX11_gradeWith, 4, (some FieldType.int), [])
abbrev mX11_gradeIf : kM := (yX11_gradeIf, cX11_gradeIf, 4, (some FieldType.int), [])
abbrev mX11_needed : kM := (yX11_needed, cX11_needed, 5, (some FieldType.int), [])
abbrev mX11_meanBits : kM := (yX11_meanBits, cX11_meanBits, 5, (some FieldType.long), [])
abbrev mX11_validBits : kM := (yX11_validBits, cX11_validBits, 5, (some FieldType.int), [])
abbrev mX11_publish : kM := (yX11_publish, cX11_publish, 3, (some FieldType.int), [])
abbrev mX11_appeals : kM := (yX11_appeals, cX11_appeals, 6, (some FieldType.int), [])
abbrev mX11_allAppeals : kM := (yX11_allAppeals, cX11_allAppeals, 5, (some FieldType.int), [])
abbrev mX11_withdraw : kM := (yX11_withdraw, cX11_withdraw, 1, (some FieldType.int), [])
abbrev mX11_appeal : kM := (yX11_appeal, cX11_appeal, 4, (some FieldType.int), [])
abbrev mX11_remark : kM := (yX11_remark, cX11_remark, 7, (some FieldType.int), [])
abbrev mX11_account : kM := (yX11_account, cX11_account, 2, (some FieldType.int), [])
abbrev mX11_levels : kM := (yX11_levels, cX11_levels, 1, (some FieldType.int), [])
abbrev mX11_report : kM := (yX11_report, cX11_report, 3, (some FieldType.int), [])
abbrev mX11_seeds : kM := (yX11_seeds, cX11_seeds, 3, (some FieldType.int), [])
abbrev mX11_seedMarks : kM := (yX11_seedMarks, cX11_seedMarks, 3, (some FieldType.int), [])
abbrev mX11_disputed : kM := (yX11_disputed, cX11_disputed, 4, (some FieldType.int), [])
abbrev mX11_count : kM := (yX11_count, cX11_count, 2, (some FieldType.int), [])
abbrev mX11_undo : kM := (yX11_undo, cX11_undo, 2, (some FieldType.int), [])
abbrev mX11_save : kM := (yX11_save, cX11_save, 2, (some FieldType.int), [])
abbrev mX11_restore : kM := (yX11_restore, cX11_restore, 2, (some FieldType.int), [])
abbrev mJxe99ae_isNaN_b9ae7 : kM := (yJxe99ae_isNaN_b9ae7, cJxe99ae_isNaN_b9ae7, 2, (some FieldType.boolean), [])
abbrev mJxe99ae_doubleToLongBits_ccdee : kM := (yJxe99ae_doubleToLongBits_ccdee, cJxe99ae_doubleToLongBits_ccdee, 2, (some FieldType.long), [])
abbrev mJxf58ca_isNaN_12338 : kM := (yJxf58ca_isNaN_12338, cJxf58ca_isNaN_12338, 1, (some FieldType.boolean), [])
abbrev mJxf58ca_floatToIntBits_5c35a : kM := (yJxf58ca_floatToIntBits_5c35a, cJxf58ca_floatToIntBits_5c35a, 1, (some FieldType.int), [])
abbrev mJ6_bitCount_0f7a4 : kM := (yJ6_bitCount_0f7a4, cJ6_bitCount_0f7a4, 1, (some FieldType.int), [])
abbrev mJ13_compare_74951 : kM := (yJ13_compare_74951, cJ13_compare_74951, 4, (some FieldType.int), [])
abbrev mJ9_floorDiv_f86c9 : kM := (yJ9_floorDiv_f86c9, cJ9_floorDiv_f86c9, 6, (some FieldType.long), [])
abbrev mJ7_fill_53178 : kM := (yJ7_fill_53178, cJ7_fill_53178, 4, none, [])
abbrev mL_setMaximum : kM := (yL_setMaximum, cL_setMaximum, 5, (some FieldType.int), tableOf [(0, 10, 13, 13), (0, 10, 17, 15), (0, 10, 21, 17), (0, 10, 25, 19)])
abbrev mL_set : kM := (yL_set, cL_set, 5, (some FieldType.int), tableOf [(0, 10, 13, 13), (0, 10, 17, 15), (0, 10, 21, 17)])
abbrev mL_addSeed : kM := (yL_addSeed, cL_addSeed, 5, (some FieldType.int), tableOf [(0, 10, 13, 13), (0, 10, 17, 15), (0, 10, 21, 17), (0, 10, 25, 19)])
abbrev mL_markSeed : kM := (yL_markSeed, cL_markSeed, 7, (some FieldType.int), tableOf [(0, 14, 17, 13), (0, 14, 21, 15), (0, 14, 25, 17), (0, 14, 29, 19)])
abbrev mL_correction : kM := (yL_correction, cL_correction, 5, (some FieldType.int), tableOf [(0, 10, 13, 13)])
abbrev mL_isSuspended : kM := (yL_isSuspended, cL_isSuspended, 5, (some FieldType.int), tableOf [(0, 17, 20, 13)])
abbrev mL_enter : kM := (yL_enter, cL_enter, 7, (some FieldType.int), tableOf [(0, 14, 17, 13), (0, 14, 21, 15), (0, 14, 25, 17)])
abbrev mL_append : kM := (yL_append, cL_append, 4, (some FieldType.int), tableOf [(0, 9, 12, 15), (0, 9, 15, 19)])
abbrev mL_sheet : kM := (yL_sheet, cL_sheet, 3, (some FieldType.int), tableOf [(0, 8, 11, 15), (0, 8, 14, 17)])
abbrev mL_entry : kM := (yL_entry, cL_entry, 7, (some FieldType.int), tableOf [(0, 14, 17, 13), (0, 14, 21, 52), (0, 14, 25, 15)])
abbrev mL_script : kM := (yL_script, cL_script, 6, (some FieldType.int), tableOf [(0, 12, 15, 13), (0, 12, 19, 15)])
abbrev mL_excuse : kM := (yL_excuse, cL_excuse, 6, (some FieldType.int), tableOf [(0, 19, 22, 13), (0, 19, 26, 17), (0, 19, 30, 19)])
abbrev mL_raise : kM := (yL_raise, cL_raise, 5, (some FieldType.int), tableOf [(0, 10, 13, 13), (0, 10, 17, 15), (0, 10, 21, 17)])
abbrev mL_setPoint : kM := (yL_setPoint, cL_setPoint, 5, (some FieldType.int), tableOf [(0, 10, 13, 15), (0, 10, 17, 17), (0, 10, 21, 19)])
abbrev mL_removePoint : kM := (yL_removePoint, cL_removePoint, 4, (some FieldType.int), tableOf [(0, 9, 12, 17), (0, 9, 15, 52)])
abbrev mL_curve : kM := (yL_curve, cL_curve, 4, (some FieldType.int), tableOf [(0, 9, 12, 15)])
abbrev mL_setBoundary : kM := (yL_setBoundary, cL_setBoundary, 5, (some FieldType.int), tableOf [(0, 10, 13, 13), (0, 10, 17, 15), (0, 10, 21, 17)])
abbrev mL_result : kM := (yL_result, cL_result, 5, (some FieldType.int), tableOf [(0, 9, 12, 13), (0, 9, 16, 15), (0, 9, 20, 52)])
abbrev mL_recount : kM := (yL_recount, cL_recount, 4, (some FieldType.int), tableOf [(0, 9, 12, 13)])
abbrev mL_ranked : kM := (yL_ranked, cL_ranked, 4, (some FieldType.int), tableOf [(0, 9, 12, 52)])
abbrev mL_graded : kM := (yL_graded, cL_graded, 4, (some FieldType.int), tableOf [(0, 9, 12, 13)])
abbrev mL_gradeIf : kM := (yL_gradeIf, cL_gradeIf, 6, (some FieldType.int), tableOf [(0, 12, 15, 13), (0, 12, 19, 15), (0, 12, 23, 52)])
abbrev mL_needed : kM := (yL_needed, cL_needed, 6, (some FieldType.int), tableOf [(0, 12, 15, 13), (0, 12, 19, 52)])
abbrev mL_meanBits : kM := (yL_meanBits, cL_meanBits, 4, (some FieldType.int), tableOf [(0, 8, 11, 13), (0, 8, 14, 100)])
abbrev mL_validBits : kM := (yL_validBits, cL_validBits, 4, (some FieldType.int), tableOf [(0, 9, 12, 13), (0, 9, 15, 100)])
abbrev mL_publish : kM := (yL_publish, cL_publish, 3, (some FieldType.int), tableOf [(0, 8, 11, 19), (0, 8, 14, 17)])
abbrev mL_withdraw : kM := (yL_withdraw, cL_withdraw, 3, (some FieldType.int), tableOf [(0, 8, 11, 19), (0, 8, 14, 17)])
abbrev mL_appeal : kM := (yL_appeal, cL_appeal, 5, (some FieldType.int), tableOf [(0, 10, 13, 13), (0, 10, 17, 17)])
abbrev mL_remark : kM := (yL_remark, cL_remark, 7, (some FieldType.int), tableOf [(0, 14, 17, 13), (0, 14, 21, 15), (0, 14, 25, 17)])
abbrev mL_account : kM := (yL_account, cL_account, 4, (some FieldType.int), tableOf [(0, 9, 12, 15)])
abbrev mL_report : kM := (yL_report, cL_report, 5, (some FieldType.int), tableOf [(0, 10, 13, 52), (0, 10, 17, 15)])
abbrev mL_count : kM := (yL_count, cL_count, 4, (some FieldType.int), tableOf [(0, 9, 12, 15)])
abbrev mL_undo : kM := (yL_undo, cL_undo, 3, (some FieldType.int), tableOf [(0, 8, 11, 19)])
abbrev mL_restore : kM := (yL_restore, cL_restore, 3, (some FieldType.int), tableOf [(0, 8, 11, 19)])
abbrev mL_law : kM := (yL_law, cL_law, 8, ret, [])
def kNM : List (String × Nat × MethodName × String) := [("ExamMarker$Book", 39, yX3_init, "ExamMarker"), ("ExamMarker$Book", 46, yX2_init, "ExamMarker"), ("ExamMarker$Book", 53, yX0_init, "ExamMarker"), ("ExamMarker", 31, yX8_init, "ExamMarker"), ("ExamMarker", 38, yX6_init, "ExamMarker"), ("ExamMarker", 51, yX9_init, "ExamMarker"), ("ExamMarker", 56, yX5_init, "ExamMarker"), ("ExamMarker$Book", 67, yX10_copyRow, "ExamMarker"), ("ExamMarker$Seeds", 27, yX10_copyRow, "ExamMarker"), ("ExamMarker$Entries", 24, yX10_copyRow, "ExamMarker"), ("ExamMarker$Curve", 18, yX10_copyRow, "ExamMarker"), ("ExamMarker$Appeals", 21, yX10_copyRow, "ExamMarker"), ("ExamMarker$Entries", 36, yX10_questionOf, "ExamMarker"), ("ExamMarker$Seeds", 45, yX10_distanceOf, "ExamMarker"), ("ExamMarker$Book", 114, yX10_isBelow, "ExamMarker"), ("ExamMarker$Book", 118, yX10_questionOf, "ExamMarker"), ("ExamMarker$Book", 144, yX10_distanceOf, "ExamMarker"), ("ExamMarker$SheetReader", 46, yX10_isBelow, "ExamMarker"), ("ExamMarker$Book", 157, yX10_halfWithNearer, "ExamMarker"), ("ExamMarker$Book", 88, yX10_sumOf, "ExamMarker"), ("ExamMarker$Book", 160, yX10_scriptOf, "ExamMarker"), ("ExamMarker$Outcome", 19, yX10_scriptOf, "ExamMarker"), ("ExamMarker$Outcome", 85, yX10_greatestCommonDivisor, "ExamMarker"), ("ExamMarker$Tally", 45, yX10_questionOf, "ExamMarker"), ("ExamMarker$Tally", 88, yX10_halfWithNearer, "ExamMarker"), ("ExamMarker$Tally", 64, yX10_scriptOf, "ExamMarker")]
def kNC : List (String × String) := [("java/lang/ArrayIndexOutOfBoundsException", "java/lang/ArrayIndexOutOfBoundsException"), ("java/lang/IndexOutOfBoundsException", "java/lang/IndexOutOfBoundsException"), ("java/lang/IllegalArgumentException", "java/lang/IllegalArgumentException"), ("java/lang/UnsupportedOperationException", "java/lang/UnsupportedOperationException"), ("java/lang/IllegalStateException", "java/lang/IllegalStateException"), ("java/util/NoSuchElementException", "java/util/NoSuchElementException"), ("java/lang/ArithmeticException", "java/lang/ArithmeticException"), ("java/lang/ArrayIndexOutOfBoundsException", "java/lang/IndexOutOfBoundsException"), ("ExamMarker", "java/lang/Object"), ("ExamMarker$Book", "java/lang/Object"), ("ExamMarker$Seeds", "java/lang/Object"), ("ExamMarker$Entries", "java/lang/Object"), ("ExamMarker$Curve", "java/lang/Object"), ("ExamMarker$Appeals", "java/lang/Object"), ("ExamMarker$History", "java/lang/Object"), ("ExamMarker$SheetReader", "java/lang/Object"), ("ExamMarker$Report", "java/lang/Object"), ("ExamMarker$Tally", "java/lang/Object"), ("ExamMarker$Outcome", "java/lang/Object"), ("ExamMarkerModel", "java/lang/Object"), ("java/lang/ArrayIndexOutOfBoundsException", "java/lang/Object"), ("java/lang/IndexOutOfBoundsException", "java/lang/Object"), ("java/lang/IllegalArgumentException", "java/lang/Object"), ("java/lang/UnsupportedOperationException", "java/lang/Object"), ("java/lang/IllegalStateException", "java/lang/Object"), ("java/util/NoSuchElementException", "java/lang/Object"), ("java/lang/ArithmeticException", "java/lang/Object"), ("java/lang/Throwable", "java/lang/Object"), ("java/lang/String", "java/lang/Object")]
def kND : List MethodName := [⟨"java/lang/IndexOutOfBoundsException", "<init>", "()V"⟩, ⟨"java/lang/IndexOutOfBoundsException", "<init>", "(Ljava/lang/String;)V"⟩, ⟨"java/lang/RuntimeException", "<init>", "()V"⟩, ⟨"java/lang/RuntimeException", "<init>", "(Ljava/lang/String;)V"⟩, ⟨"java/lang/Exception", "<init>", "()V"⟩, ⟨"java/lang/Exception", "<init>", "(Ljava/lang/String;)V"⟩, ⟨"java/lang/Throwable", "<init>", "()V"⟩, ⟨"java/lang/Throwable", "<init>", "(Ljava/lang/String;)V"⟩]
def kSR : List (String × Nat × String) := [("ExamMarker", 462, "no such question"), ("ExamMarker", 470, "out of range"), ("ExamMarker", 371, "the results are published"), ("ExamMarker", 74, "a mark would be greater than the maximum"), ("ExamMarker", 89, "no such setting"), ("ExamMarker", 110, "the question has all its seeds"), ("ExamMarker", 464, "no such marker"), ("ExamMarker", 119, "no such seed"), ("ExamMarker", 125, "the marker marked this seed already"), ("ExamMarker", 460, "no such candidate"), ("ExamMarker", 468, "the mark is negative"), ("ExamMarker", 157, "the entry is refused"), ("ExamMarker", 167, "the buffer is full"), ("ExamMarker", 180, "the text is no sheet"), ("ExamMarker", 201, "an entry of the sheet is refused"), ("ExamMarker", 211, "no such entry"), ("ExamMarker", 255, "a third question would be excused"), ("ExamMarker", 275, "the curve has all its points"), ("ExamMarker", 280, "no point at this place"), ("ExamMarker", 298, "no such boundary"), ("ExamMarker", 472, "the candidate has no grade"), ("ExamMarker", 336, "no such rank"), ("ExamMarker", 466, "no such grade"), ("ExamMarker", 345, "the maximum is not sufficient"), ("ExamMarker", 349, "no candidates for the mean"), ("ExamMarker", 361, "no entries for the share"), ("ExamMarker", 377, "the publication is refused"), ("ExamMarker", 382, "the results are not published"), ("ExamMarker", 387, "an appeal was made"), ("ExamMarker", 392, "the appeal is refused"), ("ExamMarker", 401, "the remark is refused"), ("ExamMarker", 429, "no such level"), ("ExamMarker", 447, "no change can be taken back"), ("ExamMarker", 455, "nothing was saved")]
def kTab (cc : ByteArray) (t : List (Nat × Instr × Nat)) : Prop := ∀ (k : Nat) (q : Nat × Instr × Nat), t[k]? = some q → decode cc q.1 = .ok q.2
theorem kTab_of {cc : ByteArray} {t : List (Nat × Instr × Nat)} (h : t.all (fun q => decide (decode cc q.1 = .ok q.2)) = true) : kTab cc t :=
  fun k q hq => of_decide_eq_true (List.all_eq_true.mp h q (List.mem_of_getElem? hq))
end
section
/-! The judgement over abstract states: ints as Int, memory Mu by offsets from z, a skeleton of kinds -/
abbrev Mu : Type := Nat → Nat → Int
abbrev Kd : Type := (Nat × Nat × (Nat → Option Nat)) ⊕ (Nat × (Nat → Option Nat))
def iI (x : Int) : Int32 := Int32.ofInt x
def iL (x : Int) : Int64 := Int64.ofInt x
def up2 (μ : Mu) (a k : Nat) (v : Int) : Mu := fun a' k' => if a' = a ∧ k' = k then v else μ a' k'
abbrev kX : Type := Nat × va_G × (Nat → ClassId)
def kTyA : Nat → FieldType := fun t => match t with
  | 0 => .int
  | 1 => .char
  | 2 => .long
  | 3 => .object RX1
  | _ => .object RX5
def kFld (z : Nat) (ty : FieldType) (x : Int) (r : Option Nat) : Value := match ty with
  | .long => .long (iL x)
  | .object _ => va_rf (r.map (fun a => z + a))
  | .array _ => va_rf (r.map (fun a => z + a))
  | _ => .int (iI x)
def kArr (z t n : Nat) (g : Nat → Int) (rf : Nat → Option Nat) : vp_A := (n, match t with
  | 0 => .inl (fun j => iI (g j))
  | 1 => .inl (fun j => iI (g j))
  | 2 => .inr (.inl (fun j => iL (g j)))
  | _ => .inr (.inr (.inr (.inr (fun j => (rf j).map (fun a => z + a))))))
def kFs (z ci : Nat) (g : Nat → Int) (rf : Nat → Option Nat) : List Value := (List.range (kNF ci)).map (fun k => kFld z (kTyF ci k) (g k) (rf k))
def kE (X : kX) (g : Nat → Int) (kd : Kd) : va_E := match kd with
  | .inl (t, n, rf) => .inl (X.2.2 t, kArr X.1 t n g rf)
  | .inr (ci, rf) => .inr (ci, kFs X.1 ci g rf)
def kWf (X : kX) (μ : Mu) : Nat → List Kd → va_W
  | _, [] => []
  | k, kd :: r => (X.1 + k, kE X (μ k) kd) :: kWf X μ (k + 1) r
abbrev kW (X : kX) (sk : List Kd) (μ : Mu) : va_W := kWf X μ 0 sk
theorem kWf_get (X : kX) (μ : Mu) : ∀ (sk : List Kd) (n k : Nat), (kWf X μ n sk)[k]? = sk[k]?.map (fun kd => (X.1 + (n + k), kE X (μ (n + k)) kd))
  | [], n, k => by simp [kWf]
  | kd :: r, n, 0 => by simp [kWf]
  | kd :: r, n, k + 1 => by
    simp only [kWf, List.getElem?_cons_succ]
    rw [kWf_get X μ r (n + 1) k, show n + 1 + k = n + (k + 1) by omega]
theorem kW_get {X : kX} {μ : Mu} {sk : List Kd} {k : Nat} {kd : Kd} (h : sk[k]? = some kd) : (kW X sk μ)[k]? = some (X.1 + k, kE X (μ k) kd) := by
  rw [kWf_get, h]; simp
theorem kW_len {X : kX} {μ : Mu} {sk : List Kd} : (kW X sk μ).length = sk.length := by
  have : ∀ (sk : List Kd) (n : Nat), (kWf X μ n sk).length = sk.length := by
    intro sk
    induction sk with
    | nil => intro n; rfl
    | cons a r ih => intro n; simp [kWf, ih]
  exact this sk 0
theorem kW_ext {X : kX} {w : va_W} {sk : List Kd} {μ : Mu} (h : ∀ k : Nat, w[k]? = sk[k]?.map (fun kd => (X.1 + k, kE X (μ k) kd))) : w = kW X sk μ := by
  refine List.ext_getElem? fun k => ?_
  rw [h k, kWf_get]; simp
/-- one place of the memory is written -/
theorem kW_up {X : kX} {μ : Mu} {sk : List Kd} {a k : Nat} {kd : Kd} {v : Int} (h : sk[a]? = some kd) : (kW X sk μ).set a (X.1 + a, kE X (up2 μ a k v a) kd) = kW X sk (up2 μ a k v) := by
  refine kW_ext fun j => ?_
  rw [List.getElem?_set]
  have hl : a < (kW X sk μ).length := by rw [kW_len]; exact (List.getElem?_eq_some_iff.mp h).1
  by_cases e : a = j
  · subst e
    rw [if_pos rfl, if_pos hl, h]; rfl
  · rw [if_neg e, kWf_get]
    have : up2 μ a k v j = μ j := by funext q; unfold up2; rw [if_neg]; rintro ⟨h1, -⟩; exact e h1.symm
    simp [this]
theorem kW_D {X : kX} {μ : Mu} {sk : List Kd} : va_D (fun q => X.1 ≤ q) (kW X sk μ) := by
  have key : ∀ (k : Nat) (q : Nat × va_E), (kW X sk μ)[k]? = some q → q.1 = X.1 + k := by
    intro k q hq
    rw [kWf_get] at hq
    cases hs : sk[k]? with
    | none => rw [hs] at hq; cases hq
    | some kd => rw [hs] at hq; cases hq; simp
  refine ⟨fun i j p q hp hq h => ?_, fun k q hq => ?_⟩
  · rw [key i p hp, key j q hq] at h; omega
  · rw [key k q hq]; exact Nat.le_add_right _ _
abbrev kTys (X : kX) : List (ClassId × FieldType) := [(X.2.2 0, .int), (X.2.2 1, .char), (X.2.2 2, .long), (X.2.2 3, .object RX1), (X.2.2 4, .object RX5)]

/-- what the tables and the statics give, at any state of the run -/
def EU (X : kX) (U : State) (H : Heap) : Prop :=
  va_K X.2.1 kCl (kTys X) U ∧ (∀ q ∈ kNM, va_Nw (.methodLinkNest q.1 q.2.1 q.2.2.1 q.2.2.2) U) ∧ (∀ q ∈ kNC, va_Nw (.castable q.1 q.2) U) ∧ (∀ q ∈ kND, va_Nw (.declares q) U) ∧ (∀ q ∈ kSR, ∃ a : Nat, vk_R q.1 q.2.1 q.2.2 a U) ∧
  vx_Zq Bundle.tN "UNASSIGNED_STACK" Bundle.steD (fun q => X.1 ≤ q) U H ∧ vx_Zq Bundle.tN "SUPPRESSED_SENTINEL" Bundle.listD (fun q => X.1 ≤ q) U H ∧
  (∃ t : Nat, va_Z "ExamMarker" "LEAST_SETTINGS" "[I" (.ref t) (fun q => X.1 ≤ q) U H ∧ va_T .int t 5 (fun j => .int (iI (if j = 1 then 1 else 0))) (fun q => X.1 ≤ q) U H) ∧
  (∃ t : Nat, va_Z "ExamMarker" "GREATEST_SETTINGS" "[I" (.ref t) (fun q => X.1 ≤ q) U H ∧ va_T .int t 5 (fun j => .int (iI (if j = 0 then 5 else if j = 1 then 40 else if j = 2 then 10 else if j = 3 then 5 else 99))) (fun q => X.1 ≤ q) U H) ∧ va_AO RX1 U ∧ va_AO RX5 U
theorem EU.go {X : kX} {s U : State} {H H' : Heap} (hW : s.WarmedH U.vm) (hk : ∀ q : Nat, q < H.size → ¬ X.1 ≤ q → H'[q]? = H[q]?) (h : EU X s H) : EU X U H' := by
  obtain ⟨h1, h2, h3, h4, h5, h6, h7, ⟨t8, h8, g8⟩, ⟨t9, h9, g9⟩, h10, h11⟩ := h
  have hA := hW.alike
  refine ⟨va_K.moved hA h1, fun q hq => va_Nw.warmM hW (h2 q hq), fun q hq => va_Nw.warmC hW (h3 q hq), fun q hq => va_Nw.warmD hW (h4 q hq), fun q hq => ?_, vx_Zq.moved hA (h6.kept hk), vx_Zq.moved hA (h7.kept hk),
    ⟨t8, va_Z.moved hA (h8.kept hk), va_T.moved hA (g8.kept hk)⟩, ⟨t9, va_Z.moved hA (h9.kept hk), va_T.moved hA (g9.kept hk)⟩, va_AO.moved hA h10, va_AO.moved hA h11⟩
  obtain ⟨a, ha⟩ := h5 q hq
  exact ⟨a, vk_R.warm hW ha⟩
abbrev kPo : Type := (Option Value → List Kd → Mu → Prop) × (Nat → List Kd → Mu → Prop)
def exName : Nat → String := fun e => match e with
  | 0 => "java/lang/IllegalStateException"
  | 1 => "java/lang/IllegalArgumentException"
  | 2 => "java/lang/IndexOutOfBoundsException"
  | 3 => "java/lang/ArithmeticException"
  | 4 => "java/lang/UnsupportedOperationException"
  | _ => "java/util/NoSuchElementException"
abbrev kFree (X : kX) : Nat → Prop := fun q => X.1 ≤ q
/-- the heap holds the memory -/
def kHp (X : kX) (sk : List Kd) (ex : Bool) (μ : Mu) (H : Heap) : Prop := va_P X.2.1 kCl (kW X sk μ) H ∧ (ex = true → H.size = X.1 + sk.length)
def kQ (X : kX) (ex : Bool) (po : kPo) : Array Value → State → Outcome → State → Prop := fun _ st o t => ∃ (v : Option Value) (sk' : List Kd) (μ' : Mu), o = .returned v ∧ po.1 v sk' μ' ∧ kHp X sk' ex μ' t.heap ∧ va_F (kFree X) st t
def kQx (X : kX) (po : kPo) : String → State → State → Prop := fun E st t => ∃ (e : Nat) (sk' : List Kd) (μ' : Mu), E = exName e ∧ po.2 e sk' μ' ∧ kHp X sk' false μ' t.heap ∧ va_F (kFree X) st t
def kPc (X : kX) (sk : List Kd) (ex : Bool) (μ : Mu) (args : List Value) : Array Value → State → Prop := va_Pc args (fun U => EU X U U.heap ∧ kHp X sk ex μ U.heap ∧ X.1 ≤ U.heap.size)
abbrev kWs (md : kM) : List Cond := Cond.code md.1 md.2.1 md.2.2.1 md.2.2.2.1 :: kG
abbrev kRm (d mc ms : Nat) : Room := { frames := 8 + d, cells := mc, slots := ms, locals := (d + 1) * 100 }
/-- a method's contract -/
def Ct (X : kX) (md : kM) (d : Nat) (sk : List Kd) (ex : Bool) (μ : Mu) (mc ms : Nat) (args : List Value) (po : kPo) : Prop :=
  ∀ l0 : Launch, l0.stackTraces = false → vx_Met l0 md.1 (kWs md) (kRm d mc ms) (kPc X sk ex μ args) (kQ X ex po) (kQx X po) mc ms (kFree X)
/-- what stays the same all through a method's body -/
def kC (X : kX) (md : kM) (d : Nat) (p : Program) (l0 : Launch) (R : Room) (s : State) (m : MethodId) (args : Array Value) (meth : Method) (c : Code) (mc ms : Nat) : Prop :=
  p.tables.exec = Jvm.exec ∧ c.code = md.2.1 ∧ c.maxLocals = md.2.2.1 ∧ meth.sig.returnType = md.2.2.2.1 ∧ meth.locks = false ∧ s.vm.findClass md.1.cls = some m.cls ∧ meth.name = md.1.name ∧ (∀ w ∈ kG, w.before args s = true) ∧ EU X s s.heap ∧
  (8 + d ≤ R.frames ∧ (d + 1) * 100 ≤ R.locals ∧ mc ≤ R.cells ∧ ms ≤ R.slots) ∧ l0.stackTraces = false ∧ c.exceptionTable.toList = md.2.2.2.2 ∧ X.1 ≤ s.heap.size
/-- from here the method comes to its end as po says, with at most cr cells of sr slots made on the way -/
def KJ (X : kX) (md : kM) (d : Nat) (ex : Bool) (po : kPo) (sk : List Kd) (cr sr : Nat) (pc : Nat) (l : List (Nat × Value)) (st : List Value) (μ : Mu) : Prop :=
  ∀ (p : Program) (l0 : Launch) (e : Env) (R : Room) (s : State) (m : MethodId) (args : Array Value) (below : List Frame) (meth : Method) (c : Code) (H : Heap) (locs : List Loc) (cells slots mc ms : Nat) (ls : Array Slot),
    kC X md d p l0 R s m args meth c mc ms → cells + cr ≤ mc → slots + sr ≤ ms → lv_has ls md.2.2.1 l → kHp X sk ex μ H → va_S (kFree X) s.heap H locs → (ex = true → s.heap.size + cells = H.size) →
    W p l0 e R s m args below meth c H locs cells slots (vx_MQ below (kQ X ex po) (kQx X po) args s mc ms (kFree X)) (F0 m pc ls st)
theorem ct_of {X : kX} {md : kM} {d : Nat} {sk : List Kd} {ex : Bool} {μ : Mu} {mc ms : Nat} {args : List Value} {po : kPo} (hy : plainName md.1.cls = true) (ht : md.2.2.2.2 = []) (hl : (lg_sl args).length ≤ md.2.2.1)
    (k : KJ X md d ex po sk mc ms 0 (lv_args 0 args) [] μ) : Ct X md d sk ex μ mc ms args po := by
  intro l0 hl0
  refine vx_ofW (cc := md.2.1) (maxL := md.2.2.1) (ret := md.2.2.2.1) hy rfl ?_
  intro p e s m args0 below meth c s₁ B hml hxt hv
  obtain ⟨rfl, hE, hH, hz⟩ := hv
  have hts := atoms_spec (ws := kWs md) B.pre
  rw [lg_entry_eq]
  exact k p l0 e _ s m _ below meth c s.heap [] 0 0 mc ms _
    ⟨B.exec, B.bytes, hml, B.returns, B.notSynchronized, findClass_of_methodNamed B.named, (name_of_methodNamed B.named B.method).1, fun w hw => hts w (List.mem_cons_of_mem _ hw), hE, ⟨Nat.le_refl _, Nat.le_refl _, Nat.le_refl _, Nat.le_refl _⟩, hl0, by rw [ht]; exact List.eq_nil_iff_forall_not_mem.mpr hxt, hz⟩
    (by omega) (by omega) (lv_entry args hl) hH va_S.rf (fun _ => rfl)
theorem W_sized {p : Program} {l : Launch} {e : Env} {R : Room} {s : State} {m : MethodId} {args : Array Value} {below : List Frame} {meth : Method} {c : Code} {H : Heap} {locs : List Loc} {cells slots : Nat} {Q : State → Prop} {g : JFrame}
    (k : H.size ≤ s.heap.size + cells → W p l e R s m args below meth c H locs cells slots Q g) : W p l e R s m args below meth c H locs cells slots Q g := fun T hT X => k (by rw [← hT]; exact X.heapSize) T hT X
theorem va_S_tr {A : Nat → Prop} {H0 H H1 : Heap} {locs locs1 : List Loc} (h : va_S A H0 H locs) (h1 : va_S A H H1 locs1) : va_S A H0 H1 locs1 :=
  ⟨Nat.le_trans h.1 h1.1, fun q hq hA => (h1.2.1 q (Nat.lt_of_lt_of_le hq h.1) hA).trans (h.2.1 q hq hA), h1.2.2⟩
theorem va_S_at {A : Nat → Prop} {H0 H : Heap} {locs : List Loc} (h : va_S A H0 H locs) : va_S A H H locs := ⟨Nat.le_refl _, fun _ _ _ => rfl, h.2.2⟩
end
section
/-! rows: an instruction each, over the judgement KJ -/
def gI (x : Int) : Prop := -2147483648 ≤ x ∧ x < 2147483648
def gL (x : Int) : Prop := -9223372036854775808 ≤ x ∧ x < 9223372036854775808
theorem iI_toInt {x : Int} (h : gI x) : (iI x).toInt = x := Int32.toInt_ofInt_of_le h.1 h.2
theorem iL_toInt {x : Int} (h : gL x) : (iL x).toInt = x := Int64.toInt_ofInt_of_le h.1 h.2
theorem iI_of (v : Int32) : iI v.toInt = v := Int32.ofInt_toInt v
theorem iL_of (v : Int64) : iL v.toInt = v := Int64.ofInt_toInt v
theorem iI_add (x y : Int) : iI x + iI y = iI (x + y) := (Int32.ofInt_add x y).symm
theorem iI_mul (x y : Int) : iI x * iI y = iI (x * y) := (Int32.ofInt_mul x y).symm
theorem iI_sub (x y : Int) : iI x - iI y = iI (x - y) := (Int32.ofInt_sub x y).symm
theorem iI_neg (x : Int) : - iI x = iI (-x) := (Int32.ofInt_neg x).symm
theorem iL_add (x y : Int) : iL x + iL y = iL (x + y) := (Int64.ofInt_add x y).symm
theorem iL_mul (x y : Int) : iL x * iL y = iL (x * y) := (Int64.ofInt_mul x y).symm
theorem iL_sub (x y : Int) : iL x - iL y = iL (x - y) := (Int64.ofInt_sub x y).symm
theorem iI_lt {x y : Int} (hx : gI x) (hy : gI y) : iI x < iI y ↔ x < y := by rw [Int32.lt_iff_toInt_lt, iI_toInt hx, iI_toInt hy]
theorem iI_le {x y : Int} (hx : gI x) (hy : gI y) : iI x ≤ iI y ↔ x ≤ y := by rw [Int32.le_iff_toInt_le, iI_toInt hx, iI_toInt hy]
theorem iI_eq {x y : Int} (hx : gI x) (hy : gI y) : iI x = iI y ↔ x = y := by rw [← Int32.toInt_inj, iI_toInt hx, iI_toInt hy]
theorem iL_lt {x y : Int} (hx : gL x) (hy : gL y) : iL x < iL y ↔ x < y := by rw [Int64.lt_iff_toInt_lt, iL_toInt hx, iL_toInt hy]
theorem iL_eq {x y : Int} (hx : gL x) (hy : gL y) : iL x = iL y ↔ x = y := by rw [← Int64.toInt_inj, iL_toInt hx, iL_toInt hy]
theorem gI_0 : gI 0 := by unfold gI; omega
theorem iI_0 : iI 0 = 0 := by decide
theorem iI_div {x y : Int} (hx : gI x) (hy : gI y) (h : ¬ (x = -2147483648 ∧ y = -1)) : iI x / iI y = iI (x.tdiv y) := by
  rw [← Int32.toInt_inj, Int32.toInt_div, iI_toInt hx, iI_toInt hy]
  unfold iI
  rw [Int32.toInt_ofInt]
theorem iL_div {x y : Int} (hx : gL x) (hy : gL y) (h : ¬ (x = -9223372036854775808 ∧ y = -1)) : iL x / iL y = iL (x.tdiv y) := by
  rw [← Int64.toInt_inj, Int64.toInt_div, iL_toInt hx, iL_toInt hy]
  unfold iL
  rw [Int64.toInt_ofInt]
theorem iI_rem {x y : Int} (hx : gI x) (hy : gI y) (h : ¬ (x = -2147483648 ∧ y = -1)) : iI x - iI x / iI y * iI y = iI (x.tmod y) := by
  rw [iI_div hx hy h, iI_mul, iI_sub]
  congr 1
  have := Int.mul_tdiv_add_tmod x y
  rw [Int.mul_comm] at this
  omega
theorem iL_rem {x y : Int} (hx : gL x) (hy : gL y) (h : ¬ (x = -9223372036854775808 ∧ y = -1)) : iL x - iL x / iL y * iL y = iL (x.tmod y) := by
  rw [iL_div hx hy h, iL_mul, iL_sub]
  congr 1
  have := Int.mul_tdiv_add_tmod x y
  rw [Int.mul_comm] at this
  omega
theorem iI_ne0 {y : Int} (hy : gI y) (h : y ≠ 0) : ¬ iI y = 0 := by
  rw [← iI_0, iI_eq hy gI_0]; exact h
theorem gL_0 : gL 0 := by unfold gL; omega
theorem iL_0 : iL 0 = 0 := by decide
theorem iL_ne0 {y : Int} (hy : gL y) (h : y ≠ 0) : ¬ iL y = 0 := by
  rw [← iL_0, iL_eq hy gL_0]; exact h
def andI (x y : Int) : Int := (iI x &&& iI y).toInt
def orI (x y : Int) : Int := (iI x ||| iI y).toInt
def xorI (x y : Int) : Int := (iI x ^^^ iI y).toInt
def shlI (x y : Int) : Int := (iI x <<< (iI y &&& 31)).toInt
def shrI (x y : Int) : Int := (iI x >>> (iI y &&& 31)).toInt
def ushrI (x y : Int) : Int := (((iI x).toUInt32 >>> ((iI y).toUInt32 &&& Int32.toUInt32 31)).toInt32).toInt
def charI (x : Int) : Int := (((iI x).toUInt32 % 65536).toInt32).toInt
def orL (x y : Int) : Int := (iL x ||| iL y).toInt
def xorL (x y : Int) : Int := (iL x ^^^ iL y).toInt
def shlL (x y : Int) : Int := (iL x <<< ((iI y).toInt64 &&& 63)).toInt
def ushrL (x y : Int) : Int := (((iL x).toUInt64 >>> ((iI y).toInt64.toUInt64 &&& Int64.toUInt64 63)).toInt64).toInt
abbrev Res : Type := Mu × Nat × Int
def i_lt {α : Type} (x y : Int) (A B : Option α) : Option α := if (-2147483648 ≤ x ∧ x < 2147483648) ∧ (-2147483648 ≤ y ∧ y < 2147483648) then (if x < y then A else B) else none
def i_eq {α : Type} (x y : Int) (A B : Option α) : Option α := if (-2147483648 ≤ x ∧ x < 2147483648) ∧ (-2147483648 ≤ y ∧ y < 2147483648) then (if x = y then A else B) else none
def l_lt {α : Type} (x y : Int) (A B : Option α) : Option α := if (-9223372036854775808 ≤ x ∧ x < 9223372036854775808) ∧ (-9223372036854775808 ≤ y ∧ y < 9223372036854775808) then (if x < y then A else B) else none
def l_eq {α : Type} (x y : Int) (A B : Option α) : Option α := if (-9223372036854775808 ≤ x ∧ x < 9223372036854775808) ∧ (-9223372036854775808 ≤ y ∧ y < 9223372036854775808) then (if x = y then A else B) else none
def i_div {α : Type} (x y : Int) (k : Int → Option α) : Option α := if ((-2147483648 ≤ x ∧ x < 2147483648) ∧ (-2147483648 ≤ y ∧ y < 2147483648)) ∧ y ≠ 0 ∧ ¬ (x = -2147483648 ∧ y = -1) then k (x.tdiv y) else none
def i_rem {α : Type} (x y : Int) (k : Int → Option α) : Option α := if ((-2147483648 ≤ x ∧ x < 2147483648) ∧ (-2147483648 ≤ y ∧ y < 2147483648)) ∧ y ≠ 0 ∧ ¬ (x = -2147483648 ∧ y = -1) then k (x.tmod y) else none
def l_div {α : Type} (x y : Int) (k : Int → Option α) : Option α := if ((-9223372036854775808 ≤ x ∧ x < 9223372036854775808) ∧ (-9223372036854775808 ≤ y ∧ y < 9223372036854775808)) ∧ y ≠ 0 ∧ ¬ (x = -9223372036854775808 ∧ y = -1) then k (x.tdiv y) else none
def l_rem {α : Type} (x y : Int) (k : Int → Option α) : Option α := if ((-9223372036854775808 ≤ x ∧ x < 9223372036854775808) ∧ (-9223372036854775808 ≤ y ∧ y < 9223372036854775808)) ∧ y ≠ 0 ∧ ¬ (x = -9223372036854775808 ∧ y = -1) then k (x.tmod y) else none
def i_2l {α : Type} (x : Int) (k : Option α) : Option α := if -2147483648 ≤ x ∧ x < 2147483648 then k else none
theorem og {α : Type} {P : Prop} [d : Decidable P] {a : Option α} {r : α} (h : (if P then a else none) = some r) : P ∧ a = some r := by
  by_cases hp : P
  · rw [if_pos hp] at h; exact ⟨hp, h⟩
  · rw [if_neg hp] at h; cases h
section KR
variable {X : kX} {md : kM} {d : Nat} {ex : Bool} {po : kPo} {sk : List Kd} {cr sr pc : Nat} {l : List (Nat × Value)} {st : List Value} {μ : Mu} {res : Res} {x y : Int}
theorem K_iconst {n : Int} (hd : decode md.2.1 pc = .ok (.iconst n, 1)) (hv : Int32.ofInt n = iI x) (k : KJ X md d ex po sk cr sr (pc + 1) l (.int (iI x) :: st) μ) : KJ X md d ex po sk cr sr (pc) l (st) μ := by
  intro p l0 e R s m args below meth c H locs cells slots mc ms ls C hc hs hl hH hS hz
  refine lv_iconst C.1 C.2.1 hd hv ?_
  exact k p l0 e R s m args below meth c H locs cells slots mc ms ls C hc hs hl hH hS hz
theorem K_bipush {n : Int} (hd : decode md.2.1 pc = .ok (.bipush n, 2)) (hv : (Int8.ofInt n).toInt32 = iI x) (k : KJ X md d ex po sk cr sr (pc + 2) l (.int (iI x) :: st) μ) : KJ X md d ex po sk cr sr (pc) l (st) μ := by
  intro p l0 e R s m args below meth c H locs cells slots mc ms ls C hc hs hl hH hS hz
  refine lv_bipush C.1 C.2.1 hd hv ?_
  exact k p l0 e R s m args below meth c H locs cells slots mc ms ls C hc hs hl hH hS hz
theorem K_sipush {n : Int} (hd : decode md.2.1 pc = .ok (.sipush n, 3)) (hv : (Int16.ofInt n).toInt32 = iI x) (k : KJ X md d ex po sk cr sr (pc + 3) l (.int (iI x) :: st) μ) : KJ X md d ex po sk cr sr (pc) l (st) μ := by
  intro p l0 e R s m args below meth c H locs cells slots mc ms ls C hc hs hl hH hS hz
  refine lv_sipush C.1 C.2.1 hd hv ?_
  exact k p l0 e R s m args below meth c H locs cells slots mc ms ls C hc hs hl hH hS hz
theorem K_lconst {n : Fin 2} (hd : decode md.2.1 pc = .ok (.lconst n, 1)) (hv : Int64.ofNat (n : Nat) = iL x) (k : KJ X md d ex po sk cr sr (pc + 1) l (.long (iL x) :: st) μ) : KJ X md d ex po sk cr sr (pc) l (st) μ := by
  intro p l0 e R s m args below meth c H locs cells slots mc ms ls C hc hs hl hH hS hz
  refine lv_lconst C.1 C.2.1 hd hv ?_
  exact k p l0 e R s m args below meth c H locs cells slots mc ms ls C hc hs hl hH hS hz
theorem K_ldc {n : Nat} {v : Int32} (hd : decode md.2.1 pc = .ok (.ldc n, 2)) (hw : Cond.constant md.1.cls n v ∈ kG) (hv : v = iI x) (k : KJ X md d ex po sk cr sr (pc + 2) l (.int (iI x) :: st) μ) : KJ X md d ex po sk cr sr (pc) l (st) μ := by
  intro p l0 e R s m args below meth c H locs cells slots mc ms ls C hc hs hl hH hS hz
  subst hv
  refine lv_ldc C.1 C.2.1 C.2.2.2.2.2.1 (C.2.2.2.2.2.2.2.1 _ hw) hd ?_
  exact k p l0 e R s m args below meth c H locs cells slots mc ms ls C hc hs hl hH hS hz
theorem K_ldcw {n : Nat} {v : Int32} (hd : decode md.2.1 pc = .ok (.ldc_w n, 3)) (hw : Cond.constant md.1.cls n v ∈ kG) (hv : v = iI x) (k : KJ X md d ex po sk cr sr (pc + 3) l (.int (iI x) :: st) μ) : KJ X md d ex po sk cr sr (pc) l (st) μ := by
  intro p l0 e R s m args below meth c H locs cells slots mc ms ls C hc hs hl hH hS hz
  subst hv
  refine lv_ldcw C.1 C.2.1 C.2.2.2.2.2.1 (C.2.2.2.2.2.2.2.1 _ hw) hd ?_
  exact k p l0 e R s m args below meth c H locs cells slots mc ms ls C hc hs hl hH hS hz
theorem K_ldc2 {n : Nat} {v : Int64} (hd : decode md.2.1 pc = .ok (.ldc2_w n, 3)) (hw : Cond.constantLong md.1.cls n v ∈ kG) (hv : v = iL x) (k : KJ X md d ex po sk cr sr (pc + 3) l (.long (iL x) :: st) μ) : KJ X md d ex po sk cr sr (pc) l (st) μ := by
  intro p l0 e R s m args below meth c H locs cells slots mc ms ls C hc hs hl hH hS hz
  subst hv
  refine lv_ldc2 C.1 C.2.1 C.2.2.2.2.2.1 (C.2.2.2.2.2.2.2.1 _ hw) hd ?_
  exact k p l0 e R s m args below meth c H locs cells slots mc ms ls C hc hs hl hH hS hz
theorem K_ldc2d {n : Nat} {v : UInt64} (hd : decode md.2.1 pc = .ok (.ldc2_w n, 3)) (hw : Cond.constantDouble md.1.cls n v ∈ kG) (k : KJ X md d ex po sk cr sr (pc + 3) l (.double v :: st) μ) : KJ X md d ex po sk cr sr (pc) l (st) μ := by
  intro p l0 e R s m args below meth c H locs cells slots mc ms ls C hc hs hl hH hS hz
  refine lv_ldc2d C.1 C.2.1 C.2.2.2.2.2.1 (C.2.2.2.2.2.2.2.1 _ hw) hd ?_
  exact k p l0 e R s m args below meth c H locs cells slots mc ms ls C hc hs hl hH hS hz
theorem K_dconst0 (hd : decode md.2.1 pc = .ok (.dconst 0, 1)) (k : KJ X md d ex po sk cr sr (pc + 1) l (.double FP.dconst0 :: st) μ) : KJ X md d ex po sk cr sr (pc) l (st) μ := by
  intro p l0 e R s m args below meth c H locs cells slots mc ms ls C hc hs hl hH hS hz
  refine lv_dconst0 C.1 C.2.1 hd ?_
  exact k p l0 e R s m args below meth c H locs cells slots mc ms ls C hc hs hl hH hS hz
theorem K_dconst1 (hd : decode md.2.1 pc = .ok (.dconst 1, 1)) (k : KJ X md d ex po sk cr sr (pc + 1) l (.double FP.dconst1 :: st) μ) : KJ X md d ex po sk cr sr (pc) l (st) μ := by
  intro p l0 e R s m args below meth c H locs cells slots mc ms ls C hc hs hl hH hS hz
  refine lv_dconst1 C.1 C.2.1 hd ?_
  exact k p l0 e R s m args below meth c H locs cells slots mc ms ls C hc hs hl hH hS hz
theorem K_iload_n {n : Fin 4} {v : Int32} (j : Nat) (hd : decode md.2.1 pc = .ok (.iload_n n, 1)) (hj : l[j]? = some ((n : Nat), .int v)) (k : KJ X md d ex po sk cr sr (pc + 1) l (.int v :: st) μ) : KJ X md d ex po sk cr sr (pc) l (st) μ := by
  intro p l0 e R s m args below meth c H locs cells slots mc ms ls C hc hs hl hH hS hz
  refine lv_iload_n C.1 C.2.1 hd rfl (lv_at hl j hj) ?_
  exact k p l0 e R s m args below meth c H locs cells slots mc ms ls C hc hs hl hH hS hz
theorem K_iload {n : Nat} {v : Int32} (j : Nat) (hd : decode md.2.1 pc = .ok (.iload n, 2)) (hj : l[j]? = some (n, .int v)) (k : KJ X md d ex po sk cr sr (pc + 2) l (.int v :: st) μ) : KJ X md d ex po sk cr sr (pc) l (st) μ := by
  intro p l0 e R s m args below meth c H locs cells slots mc ms ls C hc hs hl hH hS hz
  refine lv_iload C.1 C.2.1 hd (lv_at hl j hj) ?_
  exact k p l0 e R s m args below meth c H locs cells slots mc ms ls C hc hs hl hH hS hz
theorem K_lload_n {n : Fin 4} {v : Int64} (j : Nat) (hd : decode md.2.1 pc = .ok (.lload_n n, 1)) (hj : l[j]? = some ((n : Nat), .long v)) (k : KJ X md d ex po sk cr sr (pc + 1) l (.long v :: st) μ) : KJ X md d ex po sk cr sr (pc) l (st) μ := by
  intro p l0 e R s m args below meth c H locs cells slots mc ms ls C hc hs hl hH hS hz
  refine lv_lload_n C.1 C.2.1 hd rfl (lv_at hl j hj) ?_
  exact k p l0 e R s m args below meth c H locs cells slots mc ms ls C hc hs hl hH hS hz
theorem K_lload {n : Nat} {v : Int64} (j : Nat) (hd : decode md.2.1 pc = .ok (.lload n, 2)) (hj : l[j]? = some (n, .long v)) (k : KJ X md d ex po sk cr sr (pc + 2) l (.long v :: st) μ) : KJ X md d ex po sk cr sr (pc) l (st) μ := by
  intro p l0 e R s m args below meth c H locs cells slots mc ms ls C hc hs hl hH hS hz
  refine lv_lload C.1 C.2.1 hd (lv_at hl j hj) ?_
  exact k p l0 e R s m args below meth c H locs cells slots mc ms ls C hc hs hl hH hS hz
theorem K_aload_n {n : Fin 4} {v : Nat} (j : Nat) (hd : decode md.2.1 pc = .ok (.aload_n n, 1)) (hj : l[j]? = some ((n : Nat), .ref v)) (k : KJ X md d ex po sk cr sr (pc + 1) l (.ref v :: st) μ) : KJ X md d ex po sk cr sr (pc) l (st) μ := by
  intro p l0 e R s m args below meth c H locs cells slots mc ms ls C hc hs hl hH hS hz
  refine lv_aload_n C.1 C.2.1 hd rfl (lv_at hl j hj) ?_
  exact k p l0 e R s m args below meth c H locs cells slots mc ms ls C hc hs hl hH hS hz
theorem K_aload {n : Nat} {v : Nat} (j : Nat) (hd : decode md.2.1 pc = .ok (.aload n, 2)) (hj : l[j]? = some (n, .ref v)) (k : KJ X md d ex po sk cr sr (pc + 2) l (.ref v :: st) μ) : KJ X md d ex po sk cr sr (pc) l (st) μ := by
  intro p l0 e R s m args below meth c H locs cells slots mc ms ls C hc hs hl hH hS hz
  refine lv_aload C.1 C.2.1 hd (lv_at hl j hj) ?_
  exact k p l0 e R s m args below meth c H locs cells slots mc ms ls C hc hs hl hH hS hz
theorem K_dload_n {n : Fin 4} {v : UInt64} (j : Nat) (hd : decode md.2.1 pc = .ok (.dload_n n, 1)) (hj : l[j]? = some ((n : Nat), .double v)) (k : KJ X md d ex po sk cr sr (pc + 1) l (.double v :: st) μ) : KJ X md d ex po sk cr sr (pc) l (st) μ := by
  intro p l0 e R s m args below meth c H locs cells slots mc ms ls C hc hs hl hH hS hz
  refine lv_dload_n C.1 C.2.1 hd rfl (lv_at hl j hj) ?_
  exact k p l0 e R s m args below meth c H locs cells slots mc ms ls C hc hs hl hH hS hz
theorem K_dload {n : Nat} {v : UInt64} (j : Nat) (hd : decode md.2.1 pc = .ok (.dload n, 2)) (hj : l[j]? = some (n, .double v)) (k : KJ X md d ex po sk cr sr (pc + 2) l (.double v :: st) μ) : KJ X md d ex po sk cr sr (pc) l (st) μ := by
  intro p l0 e R s m args below meth c H locs cells slots mc ms ls C hc hs hl hH hS hz
  refine lv_dload C.1 C.2.1 hd (lv_at hl j hj) ?_
  exact k p l0 e R s m args below meth c H locs cells slots mc ms ls C hc hs hl hH hS hz
theorem K_fload_n {n : Fin 4} {v : UInt32} (j : Nat) (hd : decode md.2.1 pc = .ok (.fload_n n, 1)) (hj : l[j]? = some ((n : Nat), .float v)) (k : KJ X md d ex po sk cr sr (pc + 1) l (.float v :: st) μ) : KJ X md d ex po sk cr sr (pc) l (st) μ := by
  intro p l0 e R s m args below meth c H locs cells slots mc ms ls C hc hs hl hH hS hz
  refine lv_fload_n C.1 C.2.1 hd rfl (lv_at hl j hj) ?_
  exact k p l0 e R s m args below meth c H locs cells slots mc ms ls C hc hs hl hH hS hz
theorem K_istore_n {n : Fin 4} {v : Int32} {l' : List (Nat × Value)} (hd : decode md.2.1 pc = .ok (.istore_n n, 1)) (hn : (n : Nat) < md.2.2.1) (hf : ((n : Nat), Value.int v) :: l.filter (fun q => !(q.1 == (n : Nat)) && !(q.1 + 1 == (n : Nat) && q.2.category == 2)) = l') (k : KJ X md d ex po sk cr sr (pc + 1) l' (st) μ) : KJ X md d ex po sk cr sr (pc) l (.int v :: st) μ := by
  intro p l0 e R s m args below meth c H locs cells slots mc ms ls C hc hs hl hH hS hz
  refine lv_istore_n C.1 C.2.1 hd rfl hl hn hf (fun ls hl => ?_)
  exact k p l0 e R s m args below meth c H locs cells slots mc ms ls C hc hs hl hH hS hz
theorem K_istore {n : Nat} {v : Int32} {l' : List (Nat × Value)} (hd : decode md.2.1 pc = .ok (.istore n, 2)) (hn : n < md.2.2.1) (hf : (n, Value.int v) :: l.filter (fun q => !(q.1 == n) && !(q.1 + 1 == n && q.2.category == 2)) = l') (k : KJ X md d ex po sk cr sr (pc + 2) l' (st) μ) : KJ X md d ex po sk cr sr (pc) l (.int v :: st) μ := by
  intro p l0 e R s m args below meth c H locs cells slots mc ms ls C hc hs hl hH hS hz
  refine lv_istore C.1 C.2.1 hd hl hn hf (fun ls hl => ?_)
  exact k p l0 e R s m args below meth c H locs cells slots mc ms ls C hc hs hl hH hS hz
theorem K_lstore_n {n : Fin 4} {v : Int64} {l' : List (Nat × Value)} (hd : decode md.2.1 pc = .ok (.lstore_n n, 1)) (hn : (n : Nat) + 1 < md.2.2.1) (hf : ((n : Nat), Value.long v) :: l.filter (fun q => !(q.1 == (n : Nat)) && (!(q.1 == (n : Nat) + 1) && !(q.1 + 1 == (n : Nat) && q.2.category == 2))) = l') (k : KJ X md d ex po sk cr sr (pc + 1) l' (st) μ) : KJ X md d ex po sk cr sr (pc) l (.long v :: st) μ := by
  intro p l0 e R s m args below meth c H locs cells slots mc ms ls C hc hs hl hH hS hz
  refine lv_lstore_n C.1 C.2.1 hd rfl hl hn hf (fun ls hl => ?_)
  exact k p l0 e R s m args below meth c H locs cells slots mc ms ls C hc hs hl hH hS hz
theorem K_lstore {n : Nat} {v : Int64} {l' : List (Nat × Value)} (hd : decode md.2.1 pc = .ok (.lstore n, 2)) (hn : n + 1 < md.2.2.1) (hf : (n, Value.long v) :: l.filter (fun q => !(q.1 == n) && (!(q.1 == n + 1) && !(q.1 + 1 == n && q.2.category == 2))) = l') (k : KJ X md d ex po sk cr sr (pc + 2) l' (st) μ) : KJ X md d ex po sk cr sr (pc) l (.long v :: st) μ := by
  intro p l0 e R s m args below meth c H locs cells slots mc ms ls C hc hs hl hH hS hz
  refine lv_lstore C.1 C.2.1 hd hl hn hf (fun ls hl => ?_)
  exact k p l0 e R s m args below meth c H locs cells slots mc ms ls C hc hs hl hH hS hz
theorem K_astore_n {n : Fin 4} {v : Nat} {l' : List (Nat × Value)} (hd : decode md.2.1 pc = .ok (.astore_n n, 1)) (hn : (n : Nat) < md.2.2.1) (hf : ((n : Nat), Value.ref v) :: l.filter (fun q => !(q.1 == (n : Nat)) && !(q.1 + 1 == (n : Nat) && q.2.category == 2)) = l') (k : KJ X md d ex po sk cr sr (pc + 1) l' (st) μ) : KJ X md d ex po sk cr sr (pc) l (.ref v :: st) μ := by
  intro p l0 e R s m args below meth c H locs cells slots mc ms ls C hc hs hl hH hS hz
  refine lv_astore_n C.1 C.2.1 hd rfl hl hn hf (fun ls hl => ?_)
  exact k p l0 e R s m args below meth c H locs cells slots mc ms ls C hc hs hl hH hS hz
theorem K_astore {n : Nat} {v : Nat} {l' : List (Nat × Value)} (hd : decode md.2.1 pc = .ok (.astore n, 2)) (hn : n < md.2.2.1) (hf : (n, Value.ref v) :: l.filter (fun q => !(q.1 == n) && !(q.1 + 1 == n && q.2.category == 2)) = l') (k : KJ X md d ex po sk cr sr (pc + 2) l' (st) μ) : KJ X md d ex po sk cr sr (pc) l (.ref v :: st) μ := by
  intro p l0 e R s m args below meth c H locs cells slots mc ms ls C hc hs hl hH hS hz
  refine lv_astore C.1 C.2.1 hd hl hn hf (fun ls hl => ?_)
  exact k p l0 e R s m args below meth c H locs cells slots mc ms ls C hc hs hl hH hS hz
theorem K_dstore_n {n : Fin 4} {v : UInt64} {l' : List (Nat × Value)} (hd : decode md.2.1 pc = .ok (.dstore_n n, 1)) (hn : (n : Nat) + 1 < md.2.2.1) (hf : ((n : Nat), Value.double v) :: l.filter (fun q => !(q.1 == (n : Nat)) && (!(q.1 == (n : Nat) + 1) && !(q.1 + 1 == (n : Nat) && q.2.category == 2))) = l') (k : KJ X md d ex po sk cr sr (pc + 1) l' (st) μ) : KJ X md d ex po sk cr sr (pc) l (.double v :: st) μ := by
  intro p l0 e R s m args below meth c H locs cells slots mc ms ls C hc hs hl hH hS hz
  refine lv_dstore_n C.1 C.2.1 hd rfl hl hn hf (fun ls hl => ?_)
  exact k p l0 e R s m args below meth c H locs cells slots mc ms ls C hc hs hl hH hS hz
theorem K_dstore {n : Nat} {v : UInt64} {l' : List (Nat × Value)} (hd : decode md.2.1 pc = .ok (.dstore n, 2)) (hn : n + 1 < md.2.2.1) (hf : (n, Value.double v) :: l.filter (fun q => !(q.1 == n) && (!(q.1 == n + 1) && !(q.1 + 1 == n && q.2.category == 2))) = l') (k : KJ X md d ex po sk cr sr (pc + 2) l' (st) μ) : KJ X md d ex po sk cr sr (pc) l (.double v :: st) μ := by
  intro p l0 e R s m args below meth c H locs cells slots mc ms ls C hc hs hl hH hS hz
  refine lv_dstore C.1 C.2.1 hd hl hn hf (fun ls hl => ?_)
  exact k p l0 e R s m args below meth c H locs cells slots mc ms ls C hc hs hl hH hS hz
theorem K_iinc {i : Nat} {n : Int} {l' : List (Nat × Value)} (j : Nat) (hd : decode md.2.1 pc = .ok (.iinc i n, 3)) (hj : l[j]? = some (i, .int (iI x))) (hn : i < md.2.2.1) (hf : (i, Value.int (iI (x + n))) :: l.filter (fun q => !(q.1 == i) && !(q.1 + 1 == i && q.2.category == 2)) = l') (k : KJ X md d ex po sk cr sr (pc + 3) l' (st) μ) : KJ X md d ex po sk cr sr (pc) l (st) μ := by
  intro p l0 e R s m args below meth c H locs cells slots mc ms ls C hc hs hl hH hS hz
  refine lv_iinc C.1 C.2.1 hd hl hj (by rw [show Int32.ofInt n = iI n from rfl, iI_add]) hn hf (fun ls hl => ?_)
  exact k p l0 e R s m args below meth c H locs cells slots mc ms ls C hc hs hl hH hS hz
theorem K_iadd (hd : decode md.2.1 pc = .ok (.iadd, 1)) (k : KJ X md d ex po sk cr sr (pc + 1) l (.int (iI (x + y)) :: st) μ) : KJ X md d ex po sk cr sr (pc) l (.int (iI y) :: .int (iI x) :: st) μ := by
  intro p l0 e R s m args below meth c H locs cells slots mc ms ls C hc hs hl hH hS hz
  refine lv_iadd C.1 C.2.1 hd ?_
  rw [iI_add]
  exact k p l0 e R s m args below meth c H locs cells slots mc ms ls C hc hs hl hH hS hz
theorem K_isub (hd : decode md.2.1 pc = .ok (.isub, 1)) (k : KJ X md d ex po sk cr sr (pc + 1) l (.int (iI (x - y)) :: st) μ) : KJ X md d ex po sk cr sr (pc) l (.int (iI y) :: .int (iI x) :: st) μ := by
  intro p l0 e R s m args below meth c H locs cells slots mc ms ls C hc hs hl hH hS hz
  refine lv_isub C.1 C.2.1 hd ?_
  rw [iI_sub]
  exact k p l0 e R s m args below meth c H locs cells slots mc ms ls C hc hs hl hH hS hz
theorem K_imul (hd : decode md.2.1 pc = .ok (.imul, 1)) (k : KJ X md d ex po sk cr sr (pc + 1) l (.int (iI (x * y)) :: st) μ) : KJ X md d ex po sk cr sr (pc) l (.int (iI y) :: .int (iI x) :: st) μ := by
  intro p l0 e R s m args below meth c H locs cells slots mc ms ls C hc hs hl hH hS hz
  refine lv_imul C.1 C.2.1 hd ?_
  rw [iI_mul]
  exact k p l0 e R s m args below meth c H locs cells slots mc ms ls C hc hs hl hH hS hz
theorem K_ladd (hd : decode md.2.1 pc = .ok (.ladd, 1)) (k : KJ X md d ex po sk cr sr (pc + 1) l (.long (iL (x + y)) :: st) μ) : KJ X md d ex po sk cr sr (pc) l (.long (iL y) :: .long (iL x) :: st) μ := by
  intro p l0 e R s m args below meth c H locs cells slots mc ms ls C hc hs hl hH hS hz
  refine lv_ladd C.1 C.2.1 hd ?_
  rw [iL_add]
  exact k p l0 e R s m args below meth c H locs cells slots mc ms ls C hc hs hl hH hS hz
theorem K_lsub (hd : decode md.2.1 pc = .ok (.lsub, 1)) (k : KJ X md d ex po sk cr sr (pc + 1) l (.long (iL (x - y)) :: st) μ) : KJ X md d ex po sk cr sr (pc) l (.long (iL y) :: .long (iL x) :: st) μ := by
  intro p l0 e R s m args below meth c H locs cells slots mc ms ls C hc hs hl hH hS hz
  refine lv_lsub C.1 C.2.1 hd ?_
  rw [iL_sub]
  exact k p l0 e R s m args below meth c H locs cells slots mc ms ls C hc hs hl hH hS hz
theorem K_lmul (hd : decode md.2.1 pc = .ok (.lmul, 1)) (k : KJ X md d ex po sk cr sr (pc + 1) l (.long (iL (x * y)) :: st) μ) : KJ X md d ex po sk cr sr (pc) l (.long (iL y) :: .long (iL x) :: st) μ := by
  intro p l0 e R s m args below meth c H locs cells slots mc ms ls C hc hs hl hH hS hz
  refine lv_lmul C.1 C.2.1 hd ?_
  rw [iL_mul]
  exact k p l0 e R s m args below meth c H locs cells slots mc ms ls C hc hs hl hH hS hz
theorem K_ineg (hd : decode md.2.1 pc = .ok (.ineg, 1)) (k : KJ X md d ex po sk cr sr (pc + 1) l (.int (iI (-x)) :: st) μ) : KJ X md d ex po sk cr sr (pc) l (.int (iI x) :: st) μ := by
  intro p l0 e R s m args below meth c H locs cells slots mc ms ls C hc hs hl hH hS hz
  refine lv_ineg C.1 C.2.1 hd ?_
  rw [iI_neg]
  exact k p l0 e R s m args below meth c H locs cells slots mc ms ls C hc hs hl hH hS hz
theorem K_iand (hd : decode md.2.1 pc = .ok (.iand, 1)) (k : KJ X md d ex po sk cr sr (pc + 1) l (.int (iI (andI x y)) :: st) μ) : KJ X md d ex po sk cr sr (pc) l (.int (iI y) :: .int (iI x) :: st) μ := by
  intro p l0 e R s m args below meth c H locs cells slots mc ms ls C hc hs hl hH hS hz
  refine lv_iand C.1 C.2.1 hd ?_
  rw [show (_ : Int32) = iI (andI x y) from (iI_of _).symm]
  exact k p l0 e R s m args below meth c H locs cells slots mc ms ls C hc hs hl hH hS hz
theorem K_ior (hd : decode md.2.1 pc = .ok (.ior, 1)) (k : KJ X md d ex po sk cr sr (pc + 1) l (.int (iI (orI x y)) :: st) μ) : KJ X md d ex po sk cr sr (pc) l (.int (iI y) :: .int (iI x) :: st) μ := by
  intro p l0 e R s m args below meth c H locs cells slots mc ms ls C hc hs hl hH hS hz
  refine lv_ior C.1 C.2.1 hd ?_
  rw [show (_ : Int32) = iI (orI x y) from (iI_of _).symm]
  exact k p l0 e R s m args below meth c H locs cells slots mc ms ls C hc hs hl hH hS hz
theorem K_ixor (hd : decode md.2.1 pc = .ok (.ixor, 1)) (k : KJ X md d ex po sk cr sr (pc + 1) l (.int (iI (xorI x y)) :: st) μ) : KJ X md d ex po sk cr sr (pc) l (.int (iI y) :: .int (iI x) :: st) μ := by
  intro p l0 e R s m args below meth c H locs cells slots mc ms ls C hc hs hl hH hS hz
  refine lv_ixor C.1 C.2.1 hd ?_
  rw [show (_ : Int32) = iI (xorI x y) from (iI_of _).symm]
  exact k p l0 e R s m args below meth c H locs cells slots mc ms ls C hc hs hl hH hS hz
theorem K_ishl (hd : decode md.2.1 pc = .ok (.ishl, 1)) (k : KJ X md d ex po sk cr sr (pc + 1) l (.int (iI (shlI x y)) :: st) μ) : KJ X md d ex po sk cr sr (pc) l (.int (iI y) :: .int (iI x) :: st) μ := by
  intro p l0 e R s m args below meth c H locs cells slots mc ms ls C hc hs hl hH hS hz
  refine lv_ishl C.1 C.2.1 hd ?_
  rw [show (_ : Int32) = iI (shlI x y) from (iI_of _).symm]
  exact k p l0 e R s m args below meth c H locs cells slots mc ms ls C hc hs hl hH hS hz
theorem K_ishr (hd : decode md.2.1 pc = .ok (.ishr, 1)) (k : KJ X md d ex po sk cr sr (pc + 1) l (.int (iI (shrI x y)) :: st) μ) : KJ X md d ex po sk cr sr (pc) l (.int (iI y) :: .int (iI x) :: st) μ := by
  intro p l0 e R s m args below meth c H locs cells slots mc ms ls C hc hs hl hH hS hz
  refine lv_ishr C.1 C.2.1 hd ?_
  rw [show (_ : Int32) = iI (shrI x y) from (iI_of _).symm]
  exact k p l0 e R s m args below meth c H locs cells slots mc ms ls C hc hs hl hH hS hz
theorem K_iushr (hd : decode md.2.1 pc = .ok (.iushr, 1)) (k : KJ X md d ex po sk cr sr (pc + 1) l (.int (iI (ushrI x y)) :: st) μ) : KJ X md d ex po sk cr sr (pc) l (.int (iI y) :: .int (iI x) :: st) μ := by
  intro p l0 e R s m args below meth c H locs cells slots mc ms ls C hc hs hl hH hS hz
  refine lv_iushr C.1 C.2.1 hd (v := iI (ushrI x y)) (iI_of _).symm ?_
  exact k p l0 e R s m args below meth c H locs cells slots mc ms ls C hc hs hl hH hS hz
theorem K_i2c (hd : decode md.2.1 pc = .ok (.i2c, 1)) (k : KJ X md d ex po sk cr sr (pc + 1) l (.int (iI (charI x)) :: st) μ) : KJ X md d ex po sk cr sr (pc) l (.int (iI x) :: st) μ := by
  intro p l0 e R s m args below meth c H locs cells slots mc ms ls C hc hs hl hH hS hz
  refine lv_i2c C.1 C.2.1 hd (v := iI (charI x)) (iI_of _).symm ?_
  exact k p l0 e R s m args below meth c H locs cells slots mc ms ls C hc hs hl hH hS hz
theorem K_lor (hd : decode md.2.1 pc = .ok (.lor, 1)) (k : KJ X md d ex po sk cr sr (pc + 1) l (.long (iL (orL x y)) :: st) μ) : KJ X md d ex po sk cr sr (pc) l (.long (iL y) :: .long (iL x) :: st) μ := by
  intro p l0 e R s m args below meth c H locs cells slots mc ms ls C hc hs hl hH hS hz
  refine lv_lor C.1 C.2.1 hd ?_
  rw [show (_ : Int64) = iL (orL x y) from (iL_of _).symm]
  exact k p l0 e R s m args below meth c H locs cells slots mc ms ls C hc hs hl hH hS hz
theorem K_lxor (hd : decode md.2.1 pc = .ok (.lxor, 1)) (k : KJ X md d ex po sk cr sr (pc + 1) l (.long (iL (xorL x y)) :: st) μ) : KJ X md d ex po sk cr sr (pc) l (.long (iL y) :: .long (iL x) :: st) μ := by
  intro p l0 e R s m args below meth c H locs cells slots mc ms ls C hc hs hl hH hS hz
  refine lv_lxor C.1 C.2.1 hd ?_
  rw [show (_ : Int64) = iL (xorL x y) from (iL_of _).symm]
  exact k p l0 e R s m args below meth c H locs cells slots mc ms ls C hc hs hl hH hS hz
theorem K_lshl (hd : decode md.2.1 pc = .ok (.lshl, 1)) (k : KJ X md d ex po sk cr sr (pc + 1) l (.long (iL (shlL x y)) :: st) μ) : KJ X md d ex po sk cr sr (pc) l (.int (iI y) :: .long (iL x) :: st) μ := by
  intro p l0 e R s m args below meth c H locs cells slots mc ms ls C hc hs hl hH hS hz
  refine lv_lshl C.1 C.2.1 hd (v := iL (shlL x y)) (iL_of _).symm ?_
  exact k p l0 e R s m args below meth c H locs cells slots mc ms ls C hc hs hl hH hS hz
theorem K_lushr (hd : decode md.2.1 pc = .ok (.lushr, 1)) (k : KJ X md d ex po sk cr sr (pc + 1) l (.long (iL (ushrL x y)) :: st) μ) : KJ X md d ex po sk cr sr (pc) l (.int (iI y) :: .long (iL x) :: st) μ := by
  intro p l0 e R s m args below meth c H locs cells slots mc ms ls C hc hs hl hH hS hz
  refine lv_lushr C.1 C.2.1 hd (v := iL (ushrL x y)) (iL_of _).symm ?_
  exact k p l0 e R s m args below meth c H locs cells slots mc ms ls C hc hs hl hH hS hz
theorem K_l2i (hd : decode md.2.1 pc = .ok (.l2i, 1)) (k : KJ X md d ex po sk cr sr (pc + 1) l (.int (iI x) :: st) μ) : KJ X md d ex po sk cr sr (pc) l (.long (iL x) :: st) μ := by
  intro p l0 e R s m args below meth c H locs cells slots mc ms ls C hc hs hl hH hS hz
  refine lv_l2i C.1 C.2.1 hd (v := iI x) (by unfold iI iL; exact Int64.toInt32_ofInt) ?_
  exact k p l0 e R s m args below meth c H locs cells slots mc ms ls C hc hs hl hH hS hz
theorem K_i2l {r : Res} {k0 : Option Res} (hd : decode md.2.1 pc = .ok (.i2l, 1)) (h : i_2l x k0 = some r) (k : k0 = some r → KJ X md d ex po sk cr sr (pc + 1) l (.long (iL x) :: st) μ) : KJ X md d ex po sk cr sr (pc) l (.int (iI x) :: st) μ := by
  intro p l0 e R s m args below meth c H locs cells slots mc ms ls C hc hs hl hH hS hz
  obtain ⟨g, h⟩ := og h
  refine lv_i2l C.1 C.2.1 hd (v := iL x) (by unfold iI iL; exact Int32.toInt64_ofInt g.1 (by have := g.2; show x ≤ 2147483647; omega)) ?_
  exact k h p l0 e R s m args below meth c H locs cells slots mc ms ls C hc hs hl hH hS hz
theorem K_idiv {r : Res} {k0 : Int → Option Res} (hd : decode md.2.1 pc = .ok (.idiv, 1)) (h : i_div x y k0 = some r) (k : k0 (x.tdiv y) = some r → KJ X md d ex po sk cr sr (pc + 1) l (.int (iI (x.tdiv y)) :: st) μ) : KJ X md d ex po sk cr sr (pc) l (.int (iI y) :: .int (iI x) :: st) μ := by
  intro p l0 e R s m args below meth c H locs cells slots mc ms ls C hc hs hl hH hS hz
  obtain ⟨⟨⟨g1, g2⟩, g3, g4⟩, h⟩ := og h
  refine lv_idiv C.1 C.2.1 hd (iI_ne0 g2 g3) ?_
  rw [iI_div g1 g2 g4]
  exact k h p l0 e R s m args below meth c H locs cells slots mc ms ls C hc hs hl hH hS hz
theorem K_irem {r : Res} {k0 : Int → Option Res} (hd : decode md.2.1 pc = .ok (.irem, 1)) (h : i_rem x y k0 = some r) (k : k0 (x.tmod y) = some r → KJ X md d ex po sk cr sr (pc + 1) l (.int (iI (x.tmod y)) :: st) μ) : KJ X md d ex po sk cr sr (pc) l (.int (iI y) :: .int (iI x) :: st) μ := by
  intro p l0 e R s m args below meth c H locs cells slots mc ms ls C hc hs hl hH hS hz
  obtain ⟨⟨⟨g1, g2⟩, g3, g4⟩, h⟩ := og h
  refine lv_irem C.1 C.2.1 hd (iI_ne0 g2 g3) ?_
  rw [iI_rem g1 g2 g4]
  exact k h p l0 e R s m args below meth c H locs cells slots mc ms ls C hc hs hl hH hS hz
theorem K_ldiv {r : Res} {k0 : Int → Option Res} (hd : decode md.2.1 pc = .ok (.ldiv, 1)) (h : l_div x y k0 = some r) (k : k0 (x.tdiv y) = some r → KJ X md d ex po sk cr sr (pc + 1) l (.long (iL (x.tdiv y)) :: st) μ) : KJ X md d ex po sk cr sr (pc) l (.long (iL y) :: .long (iL x) :: st) μ := by
  intro p l0 e R s m args below meth c H locs cells slots mc ms ls C hc hs hl hH hS hz
  obtain ⟨⟨⟨g1, g2⟩, g3, g4⟩, h⟩ := og h
  refine lv_ldiv C.1 C.2.1 hd (iL_ne0 g2 g3) ?_
  rw [iL_div g1 g2 g4]
  exact k h p l0 e R s m args below meth c H locs cells slots mc ms ls C hc hs hl hH hS hz
theorem K_lrem {r : Res} {k0 : Int → Option Res} (hd : decode md.2.1 pc = .ok (.lrem, 1)) (h : l_rem x y k0 = some r) (k : k0 (x.tmod y) = some r → KJ X md d ex po sk cr sr (pc + 1) l (.long (iL (x.tmod y)) :: st) μ) : KJ X md d ex po sk cr sr (pc) l (.long (iL y) :: .long (iL x) :: st) μ := by
  intro p l0 e R s m args below meth c H locs cells slots mc ms ls C hc hs hl hH hS hz
  obtain ⟨⟨⟨g1, g2⟩, g3, g4⟩, h⟩ := og h
  refine lv_lrem C.1 C.2.1 hd (iL_ne0 g2 g3) ?_
  rw [iL_rem g1 g2 g4]
  exact k h p l0 e R s m args below meth c H locs cells slots mc ms ls C hc hs hl hH hS hz
theorem K_icmp_lt {r : Res} {A B : Option Res} {off : Int} {tgt : Nat} (hd : decode md.2.1 pc = .ok (.if_icmp .lt off, 3)) (ht : (pc : Int) + off = (tgt : Int)) (h : i_lt x y A B = some r) (kt : A = some r → KJ X md d ex po sk cr sr (tgt) l (st) μ) (kf : B = some r → KJ X md d ex po sk cr sr (pc + 3) l (st) μ) : KJ X md d ex po sk cr sr (pc) l (.int (iI y) :: .int (iI x) :: st) μ := by
  intro p l0 e R s m args below meth c H locs cells slots mc ms ls C hc hs hl hH hS hz
  obtain ⟨⟨g1, g2⟩, h⟩ := og h
  refine lv_icmp_lt C.1 C.2.1 hd ht (fun q => ?_) (fun q => ?_)
  · have q2 : x < y := (iI_lt g1 g2).mp q
    rw [if_pos (by omega)] at h
    exact kt h p l0 e R s m args below meth c H locs cells slots mc ms ls C hc hs hl hH hS hz
  · have q2 : ¬ (x < y) := fun z => q ((iI_lt g1 g2).mpr z)
    rw [if_neg (by omega)] at h
    exact kf h p l0 e R s m args below meth c H locs cells slots mc ms ls C hc hs hl hH hS hz
theorem K_if_lt {r : Res} {A B : Option Res} {off : Int} {tgt : Nat} (hd : decode md.2.1 pc = .ok (.ifCond .lt off, 3)) (ht : (pc : Int) + off = (tgt : Int)) (h : i_lt x 0 A B = some r) (kt : A = some r → KJ X md d ex po sk cr sr (tgt) l (st) μ) (kf : B = some r → KJ X md d ex po sk cr sr (pc + 3) l (st) μ) : KJ X md d ex po sk cr sr (pc) l (.int (iI x) :: st) μ := by
  intro p l0 e R s m args below meth c H locs cells slots mc ms ls C hc hs hl hH hS hz
  obtain ⟨⟨g1, g2⟩, h⟩ := og h
  refine lv_if_lt C.1 C.2.1 hd ht (fun q => ?_) (fun q => ?_)
  · rw [← iI_0] at q; have q2 : x < 0 := (iI_lt g1 g2).mp q
    rw [if_pos (by omega)] at h
    exact kt h p l0 e R s m args below meth c H locs cells slots mc ms ls C hc hs hl hH hS hz
  · rw [← iI_0] at q; have q2 : ¬ (x < 0) := fun z => q ((iI_lt g1 g2).mpr z)
    rw [if_neg (by omega)] at h
    exact kf h p l0 e R s m args below meth c H locs cells slots mc ms ls C hc hs hl hH hS hz
theorem K_icmp_ge {r : Res} {A B : Option Res} {off : Int} {tgt : Nat} (hd : decode md.2.1 pc = .ok (.if_icmp .ge off, 3)) (ht : (pc : Int) + off = (tgt : Int)) (h : i_lt x y B A = some r) (kt : A = some r → KJ X md d ex po sk cr sr (tgt) l (st) μ) (kf : B = some r → KJ X md d ex po sk cr sr (pc + 3) l (st) μ) : KJ X md d ex po sk cr sr (pc) l (.int (iI y) :: .int (iI x) :: st) μ := by
  intro p l0 e R s m args below meth c H locs cells slots mc ms ls C hc hs hl hH hS hz
  obtain ⟨⟨g1, g2⟩, h⟩ := og h
  refine lv_icmp_ge C.1 C.2.1 hd ht (fun q => ?_) (fun q => ?_)
  · have q2 : y ≤ x := (iI_le g2 g1).mp q
    rw [if_neg (by omega)] at h
    exact kt h p l0 e R s m args below meth c H locs cells slots mc ms ls C hc hs hl hH hS hz
  · have q2 : ¬ (y ≤ x) := fun z => q ((iI_le g2 g1).mpr z)
    rw [if_pos (by omega)] at h
    exact kf h p l0 e R s m args below meth c H locs cells slots mc ms ls C hc hs hl hH hS hz
theorem K_if_ge {r : Res} {A B : Option Res} {off : Int} {tgt : Nat} (hd : decode md.2.1 pc = .ok (.ifCond .ge off, 3)) (ht : (pc : Int) + off = (tgt : Int)) (h : i_lt x 0 B A = some r) (kt : A = some r → KJ X md d ex po sk cr sr (tgt) l (st) μ) (kf : B = some r → KJ X md d ex po sk cr sr (pc + 3) l (st) μ) : KJ X md d ex po sk cr sr (pc) l (.int (iI x) :: st) μ := by
  intro p l0 e R s m args below meth c H locs cells slots mc ms ls C hc hs hl hH hS hz
  obtain ⟨⟨g1, g2⟩, h⟩ := og h
  refine lv_if_ge C.1 C.2.1 hd ht (fun q => ?_) (fun q => ?_)
  · rw [← iI_0] at q; have q2 : 0 ≤ x := (iI_le g2 g1).mp q
    rw [if_neg (by omega)] at h
    exact kt h p l0 e R s m args below meth c H locs cells slots mc ms ls C hc hs hl hH hS hz
  · rw [← iI_0] at q; have q2 : ¬ (0 ≤ x) := fun z => q ((iI_le g2 g1).mpr z)
    rw [if_pos (by omega)] at h
    exact kf h p l0 e R s m args below meth c H locs cells slots mc ms ls C hc hs hl hH hS hz
theorem K_icmp_gt {r : Res} {A B : Option Res} {off : Int} {tgt : Nat} (hd : decode md.2.1 pc = .ok (.if_icmp .gt off, 3)) (ht : (pc : Int) + off = (tgt : Int)) (h : i_lt y x A B = some r) (kt : A = some r → KJ X md d ex po sk cr sr (tgt) l (st) μ) (kf : B = some r → KJ X md d ex po sk cr sr (pc + 3) l (st) μ) : KJ X md d ex po sk cr sr (pc) l (.int (iI y) :: .int (iI x) :: st) μ := by
  intro p l0 e R s m args below meth c H locs cells slots mc ms ls C hc hs hl hH hS hz
  obtain ⟨⟨g1, g2⟩, h⟩ := og h
  refine lv_icmp_gt C.1 C.2.1 hd ht (fun q => ?_) (fun q => ?_)
  · have q2 : y < x := (iI_lt g1 g2).mp q
    rw [if_pos (by omega)] at h
    exact kt h p l0 e R s m args below meth c H locs cells slots mc ms ls C hc hs hl hH hS hz
  · have q2 : ¬ (y < x) := fun z => q ((iI_lt g1 g2).mpr z)
    rw [if_neg (by omega)] at h
    exact kf h p l0 e R s m args below meth c H locs cells slots mc ms ls C hc hs hl hH hS hz
theorem K_if_gt {r : Res} {A B : Option Res} {off : Int} {tgt : Nat} (hd : decode md.2.1 pc = .ok (.ifCond .gt off, 3)) (ht : (pc : Int) + off = (tgt : Int)) (h : i_lt 0 x A B = some r) (kt : A = some r → KJ X md d ex po sk cr sr (tgt) l (st) μ) (kf : B = some r → KJ X md d ex po sk cr sr (pc + 3) l (st) μ) : KJ X md d ex po sk cr sr (pc) l (.int (iI x) :: st) μ := by
  intro p l0 e R s m args below meth c H locs cells slots mc ms ls C hc hs hl hH hS hz
  obtain ⟨⟨g1, g2⟩, h⟩ := og h
  refine lv_if_gt C.1 C.2.1 hd ht (fun q => ?_) (fun q => ?_)
  · rw [← iI_0] at q; have q2 : 0 < x := (iI_lt g1 g2).mp q
    rw [if_pos (by omega)] at h
    exact kt h p l0 e R s m args below meth c H locs cells slots mc ms ls C hc hs hl hH hS hz
  · rw [← iI_0] at q; have q2 : ¬ (0 < x) := fun z => q ((iI_lt g1 g2).mpr z)
    rw [if_neg (by omega)] at h
    exact kf h p l0 e R s m args below meth c H locs cells slots mc ms ls C hc hs hl hH hS hz
theorem K_icmp_le {r : Res} {A B : Option Res} {off : Int} {tgt : Nat} (hd : decode md.2.1 pc = .ok (.if_icmp .le off, 3)) (ht : (pc : Int) + off = (tgt : Int)) (h : i_lt y x B A = some r) (kt : A = some r → KJ X md d ex po sk cr sr (tgt) l (st) μ) (kf : B = some r → KJ X md d ex po sk cr sr (pc + 3) l (st) μ) : KJ X md d ex po sk cr sr (pc) l (.int (iI y) :: .int (iI x) :: st) μ := by
  intro p l0 e R s m args below meth c H locs cells slots mc ms ls C hc hs hl hH hS hz
  obtain ⟨⟨g1, g2⟩, h⟩ := og h
  refine lv_icmp_le C.1 C.2.1 hd ht (fun q => ?_) (fun q => ?_)
  · have q2 : x ≤ y := (iI_le g2 g1).mp q
    rw [if_neg (by omega)] at h
    exact kt h p l0 e R s m args below meth c H locs cells slots mc ms ls C hc hs hl hH hS hz
  · have q2 : ¬ (x ≤ y) := fun z => q ((iI_le g2 g1).mpr z)
    rw [if_pos (by omega)] at h
    exact kf h p l0 e R s m args below meth c H locs cells slots mc ms ls C hc hs hl hH hS hz
theorem K_if_le {r : Res} {A B : Option Res} {off : Int} {tgt : Nat} (hd : decode md.2.1 pc = .ok (.ifCond .le off, 3)) (ht : (pc : Int) + off = (tgt : Int)) (h : i_lt 0 x B A = some r) (kt : A = some r → KJ X md d ex po sk cr sr (tgt) l (st) μ) (kf : B = some r → KJ X md d ex po sk cr sr (pc + 3) l (st) μ) : KJ X md d ex po sk cr sr (pc) l (.int (iI x) :: st) μ := by
  intro p l0 e R s m args below meth c H locs cells slots mc ms ls C hc hs hl hH hS hz
  obtain ⟨⟨g1, g2⟩, h⟩ := og h
  refine lv_if_le C.1 C.2.1 hd ht (fun q => ?_) (fun q => ?_)
  · rw [← iI_0] at q; have q2 : x ≤ 0 := (iI_le g2 g1).mp q
    rw [if_neg (by omega)] at h
    exact kt h p l0 e R s m args below meth c H locs cells slots mc ms ls C hc hs hl hH hS hz
  · rw [← iI_0] at q; have q2 : ¬ (x ≤ 0) := fun z => q ((iI_le g2 g1).mpr z)
    rw [if_pos (by omega)] at h
    exact kf h p l0 e R s m args below meth c H locs cells slots mc ms ls C hc hs hl hH hS hz
theorem K_icmp_eq {r : Res} {A B : Option Res} {off : Int} {tgt : Nat} (hd : decode md.2.1 pc = .ok (.if_icmp .eq off, 3)) (ht : (pc : Int) + off = (tgt : Int)) (h : i_eq x y A B = some r) (kt : A = some r → KJ X md d ex po sk cr sr (tgt) l (st) μ) (kf : B = some r → KJ X md d ex po sk cr sr (pc + 3) l (st) μ) : KJ X md d ex po sk cr sr (pc) l (.int (iI y) :: .int (iI x) :: st) μ := by
  intro p l0 e R s m args below meth c H locs cells slots mc ms ls C hc hs hl hH hS hz
  obtain ⟨⟨g1, g2⟩, h⟩ := og h
  refine lv_icmp_eq C.1 C.2.1 hd ht (fun q => ?_) (fun q => ?_)
  · have q2 : x = y := (iI_eq g1 g2).mp q
    rw [if_pos (by omega)] at h
    exact kt h p l0 e R s m args below meth c H locs cells slots mc ms ls C hc hs hl hH hS hz
  · have q2 : ¬ (x = y) := fun z => q ((iI_eq g1 g2).mpr z)
    rw [if_neg (by omega)] at h
    exact kf h p l0 e R s m args below meth c H locs cells slots mc ms ls C hc hs hl hH hS hz
theorem K_if_eq {r : Res} {A B : Option Res} {off : Int} {tgt : Nat} (hd : decode md.2.1 pc = .ok (.ifCond .eq off, 3)) (ht : (pc : Int) + off = (tgt : Int)) (h : i_eq x 0 A B = some r) (kt : A = some r → KJ X md d ex po sk cr sr (tgt) l (st) μ) (kf : B = some r → KJ X md d ex po sk cr sr (pc + 3) l (st) μ) : KJ X md d ex po sk cr sr (pc) l (.int (iI x) :: st) μ := by
  intro p l0 e R s m args below meth c H locs cells slots mc ms ls C hc hs hl hH hS hz
  obtain ⟨⟨g1, g2⟩, h⟩ := og h
  refine lv_if_eq C.1 C.2.1 hd ht (fun q => ?_) (fun q => ?_)
  · rw [← iI_0] at q; have q2 : x = 0 := (iI_eq g1 g2).mp q
    rw [if_pos (by omega)] at h
    exact kt h p l0 e R s m args below meth c H locs cells slots mc ms ls C hc hs hl hH hS hz
  · rw [← iI_0] at q; have q2 : ¬ (x = 0) := fun z => q ((iI_eq g1 g2).mpr z)
    rw [if_neg (by omega)] at h
    exact kf h p l0 e R s m args below meth c H locs cells slots mc ms ls C hc hs hl hH hS hz
theorem K_icmp_ne {r : Res} {A B : Option Res} {off : Int} {tgt : Nat} (hd : decode md.2.1 pc = .ok (.if_icmp .ne off, 3)) (ht : (pc : Int) + off = (tgt : Int)) (h : i_eq x y B A = some r) (kt : A = some r → KJ X md d ex po sk cr sr (tgt) l (st) μ) (kf : B = some r → KJ X md d ex po sk cr sr (pc + 3) l (st) μ) : KJ X md d ex po sk cr sr (pc) l (.int (iI y) :: .int (iI x) :: st) μ := by
  intro p l0 e R s m args below meth c H locs cells slots mc ms ls C hc hs hl hH hS hz
  obtain ⟨⟨g1, g2⟩, h⟩ := og h
  refine lv_icmp_ne C.1 C.2.1 hd ht (fun q => ?_) (fun q => ?_)
  · have q2 : x ≠ y := fun z => q ((iI_eq g1 g2).mpr z)
    rw [if_neg (by omega)] at h
    exact kt h p l0 e R s m args below meth c H locs cells slots mc ms ls C hc hs hl hH hS hz
  · have q2 : ¬ (x ≠ y) := fun z => z ((iI_eq g1 g2).mp q)
    rw [if_pos (by omega)] at h
    exact kf h p l0 e R s m args below meth c H locs cells slots mc ms ls C hc hs hl hH hS hz
theorem K_if_ne {r : Res} {A B : Option Res} {off : Int} {tgt : Nat} (hd : decode md.2.1 pc = .ok (.ifCond .ne off, 3)) (ht : (pc : Int) + off = (tgt : Int)) (h : i_eq x 0 B A = some r) (kt : A = some r → KJ X md d ex po sk cr sr (tgt) l (st) μ) (kf : B = some r → KJ X md d ex po sk cr sr (pc + 3) l (st) μ) : KJ X md d ex po sk cr sr (pc) l (.int (iI x) :: st) μ := by
  intro p l0 e R s m args below meth c H locs cells slots mc ms ls C hc hs hl hH hS hz
  obtain ⟨⟨g1, g2⟩, h⟩ := og h
  refine lv_if_ne C.1 C.2.1 hd ht (fun q => ?_) (fun q => ?_)
  · rw [← iI_0] at q; have q2 : x ≠ 0 := fun z => q ((iI_eq g1 g2).mpr z)
    rw [if_neg (by omega)] at h
    exact kt h p l0 e R s m args below meth c H locs cells slots mc ms ls C hc hs hl hH hS hz
  · rw [← iI_0] at q; have q2 : ¬ (x ≠ 0) := fun z => z ((iI_eq g1 g2).mp q)
    rw [if_pos (by omega)] at h
    exact kf h p l0 e R s m args below meth c H locs cells slots mc ms ls C hc hs hl hH hS hz
theorem K_goto {off : Int} {tgt : Nat} (hd : decode md.2.1 pc = .ok (.goto off, 3)) (ht : (pc : Int) + off = (tgt : Int)) (k : KJ X md d ex po sk cr sr (tgt) l (st) μ) : KJ X md d ex po sk cr sr (pc) l (st) μ := by
  intro p l0 e R s m args below meth c H locs cells slots mc ms ls C hc hs hl hH hS hz
  refine lv_goto C.1 C.2.1 hd ht ?_
  exact k p l0 e R s m args below meth c H locs cells slots mc ms ls C hc hs hl hH hS hz
theorem K_dup {v : Value} (hd : decode md.2.1 pc = .ok (.dup, 1)) (hv : v.category = 1) (k : KJ X md d ex po sk cr sr (pc + 1) l (v :: v :: st) μ) : KJ X md d ex po sk cr sr (pc) l (v :: st) μ := by
  intro p l0 e R s m args below meth c H locs cells slots mc ms ls C hc hs hl hH hS hz
  refine lv_dup C.1 C.2.1 hd hv ?_
  exact k p l0 e R s m args below meth c H locs cells slots mc ms ls C hc hs hl hH hS hz
theorem K_dup2 {v w : Value} (hd : decode md.2.1 pc = .ok (.dup2, 1)) (hv : v.category = 1) (hw : w.category = 1) (k : KJ X md d ex po sk cr sr (pc + 1) l (v :: w :: v :: w :: st) μ) : KJ X md d ex po sk cr sr (pc) l (v :: w :: st) μ := by
  intro p l0 e R s m args below meth c H locs cells slots mc ms ls C hc hs hl hH hS hz
  refine lv_dup2_11 C.1 C.2.1 hd hv hw ?_
  exact k p l0 e R s m args below meth c H locs cells slots mc ms ls C hc hs hl hH hS hz
theorem K_pop {v : Value} (hd : decode md.2.1 pc = .ok (.pop, 1)) (hv : v.category = 1) (k : KJ X md d ex po sk cr sr (pc + 1) l (st) μ) : KJ X md d ex po sk cr sr (pc) l (v :: st) μ := by
  intro p l0 e R s m args below meth c H locs cells slots mc ms ls C hc hs hl hH hS hz
  refine lv_pop C.1 C.2.1 hd hv ?_
  exact k p l0 e R s m args below meth c H locs cells slots mc ms ls C hc hs hl hH hS hz
theorem K_sub {l' : List (Nat × Value)} (js : List Nat) (hj : lv_pick l js = l') (k : KJ X md d ex po sk cr sr (pc) l' (st) μ) : KJ X md d ex po sk cr sr (pc) l (st) μ := by
  intro p l0 e R s m args below meth c H locs cells slots mc ms ls C hc hs hl hH hS hz
  exact k p l0 e R s m args below meth c H locs cells slots mc ms ls C hc hs (lv_sub hl js hj) hH hS hz
end KR
end
section
/-! rows of the heap -/
def kCF (ci : Nat) (C : String) (T : u_T) (N : Nat) : Prop := kCl[ci]? = some (C, T, N) ∧ kNF ci = N ∧ (∀ w ∈ u_ws C T N, w ∈ kG) ∧ (∀ a, a < N → ∀ b, b < N → a ≠ b → (T a).2.1 ≠ (T b).2.1) ∧ (∀ k, k < N → parseFieldDescriptor (T k).2.2.1 = some (kTyF ci k))
def kFL (own : String) (idx ci k : Nat) (fin : Bool) : Prop := ∃ (C : String) (T : u_T) (N : Nat), kCF ci C T N ∧ k < N ∧ Cond.fieldLink own idx (T k).1 (T k).2.1 (T k).2.2.1 ∈ kG ∧ (T k).2.2.2 = fin ∧ True
theorem kFs_len {z ci : Nat} {g : Nat → Int} {rf : Nat → Option Nat} : (kFs z ci g rf).length = kNF ci := by simp [kFs]
theorem kFs_get {z ci k : Nat} {g : Nat → Int} {rf : Nat → Option Nat} (hk : k < kNF ci) : (kFs z ci g rf)[k]? = some (kFld z (kTyF ci k) (g k) (rf k)) := by
  simp [kFs, hk]
theorem kFs_set {z ci k : Nat} {g g' : Nat → Int} {rf rf' : Nat → Option Nat} (ho : ∀ j, j ≠ k → g' j = g j ∧ rf' j = rf j) : (kFs z ci g rf).set k (kFld z (kTyF ci k) (g' k) (rf' k)) = kFs z ci g' rf' := by
  refine List.ext_getElem? fun j => ?_
  rw [List.getElem?_set]
  by_cases hj : j < kNF ci
  · rw [kFs_get hj]
    by_cases e : k = j
    · subst e
      rw [if_pos rfl, if_pos (by rw [kFs_len]; exact hj), kFs_get hj]
    · rw [if_neg e, kFs_get hj, (ho j (fun z => e z.symm)).1, (ho j (fun z => e z.symm)).2]
  · rw [List.getElem?_eq_none (by rw [kFs_len]; omega : (kFs z ci g' rf').length ≤ j)]
    by_cases e : k = j
    · subst e
      rw [if_pos rfl, if_neg (by rw [kFs_len]; exact hj)]
    · rw [if_neg e, List.getElem?_eq_none (by rw [kFs_len]; omega)]
theorem up2_at (μ : Mu) (a k : Nat) (v : Int) : up2 μ a k v a k = v := by simp [up2]
theorem up2_ne (μ : Mu) (a k : Nat) (v : Int) {a' k' : Nat} (h : a' ≠ a ∨ k' ≠ k) : up2 μ a k v a' k' = μ a' k' := by
  unfold up2; rw [if_neg]; rintro ⟨h1, h2⟩; rcases h with h | h
  · exact h h1
  · exact h h2
def rdI {α : Type} (μ : Mu) (a n : Nat) (i : Int) (k : Int → Option α) : Option α := if 0 ≤ i ∧ i < n then k (μ a i.toNat) else none
def wrI {α : Type} (μ : Mu) (a n : Nat) (i x : Int) (k : Mu → Option α) : Option α := if 0 ≤ i ∧ i < n then k (up2 μ a i.toNat x) else none
def rdA {α : Type} (n : Nat) (i : Int) (f : Nat → Nat) (k : Nat → Option α) : Option α := if 0 ≤ i ∧ i < n then k (f i.toNat) else none
/-- a place within bounds -/
theorem in_iI {i : Int} {n : Nat} (h0 : 0 ≤ i) (h : i < n) (hn : n < 2 ^ 31) : vp_in (iI i) n ∧ (iI i).toNatClampNeg = i.toNat := by
  obtain ⟨j, rfl⟩ : ∃ j : Nat, i = j := ⟨i.toNat, by omega⟩
  have hj : j < n := by omega
  have e : iI (j : Int) = nI j := rfl
  rw [e]
  exact ⟨vp_in_nI hj hn, by rw [nI_clamp (by omega)]; rfl⟩
section KR2
variable {X : kX} {md : kM} {d : Nat} {ex : Bool} {po : kPo} {sk : List Kd} {cr sr pc : Nat} {l : List (Nat × Value)} {st : List Value} {μ : Mu} {res : Res} {x y : Int} {a n ci k idx : Nat} {rf : Nat → Option Nat} {own : String} {fin : Bool}
theorem K_getI (hd : decode md.2.1 pc = .ok (.getfield idx, 3)) (F : kFL md.1.cls idx ci k fin) (hsk : sk[a]? = some (.inr (ci, rf))) (ht : kTyF ci k = .int ∨ kTyF ci k = .boolean) (kk : KJ X md d ex po sk cr sr (pc + 3) l (.int (iI (μ a k)) :: st) μ) : KJ X md d ex po sk cr sr (pc) l (.ref (X.1 + a) :: st) μ := by
  intro p l0 e R s m args below meth c H locs cells slots mc ms ls C hc hs hl hH hS hz
  obtain ⟨Cn, Tn, N, ⟨f1, f2, f3, f4, f5⟩, f6, f7, f8, f9⟩ := F
  refine va_get C.1 C.2.1 (Ts := kG) C.2.2.2.2.2.2.2.1 f3 C.2.2.2.2.2.1 (C.2.2.2.2.2.2.2.2.1).1 hH.1 a (kW_get hsk) f1 k f6 (C.2.2.2.2.2.2.2.1 _ f7) (fun x h => h) (kFs_get (by rw [f2]; exact f6)) hd ?_
  rw [show kFld X.1 (kTyF ci k) (μ a k) (rf k) = .int (iI (μ a k)) by rcases ht with h | h <;> rw [h] <;> rfl]
  exact kk p l0 e R s m args below meth c H locs cells slots mc ms ls C hc hs hl hH hS hz
theorem K_getL (hd : decode md.2.1 pc = .ok (.getfield idx, 3)) (F : kFL md.1.cls idx ci k fin) (hsk : sk[a]? = some (.inr (ci, rf))) (ht : kTyF ci k = .long) (kk : KJ X md d ex po sk cr sr (pc + 3) l (.long (iL (μ a k)) :: st) μ) : KJ X md d ex po sk cr sr (pc) l (.ref (X.1 + a) :: st) μ := by
  intro p l0 e R s m args below meth c H locs cells slots mc ms ls C hc hs hl hH hS hz
  obtain ⟨Cn, Tn, N, ⟨f1, f2, f3, f4, f5⟩, f6, f7, f8, f9⟩ := F
  refine va_get C.1 C.2.1 (Ts := kG) C.2.2.2.2.2.2.2.1 f3 C.2.2.2.2.2.1 (C.2.2.2.2.2.2.2.2.1).1 hH.1 a (kW_get hsk) f1 k f6 (C.2.2.2.2.2.2.2.1 _ f7) (fun x h => h) (kFs_get (by rw [f2]; exact f6)) hd ?_
  rw [show kFld X.1 (kTyF ci k) (μ a k) (rf k) = .long (iL (μ a k)) by rw [ht]; rfl]
  exact kk p l0 e R s m args below meth c H locs cells slots mc ms ls C hc hs hl hH hS hz
theorem K_getR {b : Nat} (hd : decode md.2.1 pc = .ok (.getfield idx, 3)) (F : kFL md.1.cls idx ci k fin) (hsk : sk[a]? = some (.inr (ci, rf))) (hr : rf k = some b) (ht : (match kTyF ci k with | .object _ => true | .array _ => true | _ => false) = true) (kk : KJ X md d ex po sk cr sr (pc + 3) l (.ref (X.1 + b) :: st) μ) : KJ X md d ex po sk cr sr (pc) l (.ref (X.1 + a) :: st) μ := by
  intro p l0 e R s m args below meth c H locs cells slots mc ms ls C hc hs hl hH hS hz
  obtain ⟨Cn, Tn, N, ⟨f1, f2, f3, f4, f5⟩, f6, f7, f8, f9⟩ := F
  refine va_get C.1 C.2.1 (Ts := kG) C.2.2.2.2.2.2.2.1 f3 C.2.2.2.2.2.1 (C.2.2.2.2.2.2.2.2.1).1 hH.1 a (kW_get hsk) f1 k f6 (C.2.2.2.2.2.2.2.1 _ f7) (fun x h => h) (kFs_get (by rw [f2]; exact f6)) hd ?_
  rw [show kFld X.1 (kTyF ci k) (μ a k) (rf k) = .ref (X.1 + b) by
    rw [hr]
    revert ht
    cases kTyF ci k <;> intro ht <;> first | rfl | cases ht]
  exact kk p l0 e R s m args below meth c H locs cells slots mc ms ls C hc hs hl hH hS hz
theorem K_putI (hd : decode md.2.1 pc = .ok (.putfield idx, 3)) (F : kFL md.1.cls idx ci k false) (hsk : sk[a]? = some (.inr (ci, rf))) (ht : kTyF ci k = .int) (kk : KJ X md d ex po sk cr sr (pc + 3) l (st) (up2 μ a k x)) : KJ X md d ex po sk cr sr (pc) l (.int (iI x) :: .ref (X.1 + a) :: st) μ := by
  intro p l0 e R s m args below meth c H locs cells slots mc ms ls C hc hs hl hH hS hz
  obtain ⟨Cn, Tn, N, ⟨f1, f2, f3, f4, f5⟩, f6, f7, f8, f9⟩ := F
  have hlt : k < (kFs X.1 ci (μ a) rf).length := by rw [kFs_len, f2]; exact f6
  refine va_put C.1 C.2.1 (Ts := kG) C.2.2.2.2.2.2.2.1 f3 (kTyF ci) f5 f4 C.2.2.2.2.2.1 (C.2.2.2.2.2.2.2.2.1).1 hH.1 kW_D (va_S_at hS) a (kW_get hsk) f1 k f6 (C.2.2.2.2.2.2.2.1 _ f7) (fun x h => h) f8 (f5 k f6) (by rw [ht]; rfl) (by rw [ht]; rfl) hlt hd ?_
  intro H1 locs1 g1 g2 g3
  rw [show (Value.int (iI x)) = kFld X.1 (kTyF ci k) (up2 μ a k x a k) (rf k) by rw [up2_at, ht]; rfl, kFs_set (g' := up2 μ a k x a) (rf' := rf) (fun j hj => ⟨up2_ne _ _ _ _ (Or.inr hj), rfl⟩)] at g1
  rw [show (Sum.inr (ci, kFs X.1 ci (up2 μ a k x a) (rf)) : va_E) = kE X (up2 μ a k x a) (.inr (ci, rf)) from rfl, kW_up hsk] at g1
  refine W_sized (fun hz1 => ?_)
  exact kk p l0 e R s m args below meth c H1 locs1 cells slots mc ms ls C hc hs hl ⟨g1, fun q => by have a1 := hH.2 q; have a2 := hz q; have a3 := g3.1; omega⟩ (va_S_tr hS g3) (fun q => by have a2 := hz q; have a3 := g3.1; omega)
theorem K_putL (hd : decode md.2.1 pc = .ok (.putfield idx, 3)) (F : kFL md.1.cls idx ci k false) (hsk : sk[a]? = some (.inr (ci, rf))) (ht : kTyF ci k = .long) (kk : KJ X md d ex po sk cr sr (pc + 3) l (st) (up2 μ a k x)) : KJ X md d ex po sk cr sr (pc) l (.long (iL x) :: .ref (X.1 + a) :: st) μ := by
  intro p l0 e R s m args below meth c H locs cells slots mc ms ls C hc hs hl hH hS hz
  obtain ⟨Cn, Tn, N, ⟨f1, f2, f3, f4, f5⟩, f6, f7, f8, f9⟩ := F
  have hlt : k < (kFs X.1 ci (μ a) rf).length := by rw [kFs_len, f2]; exact f6
  refine va_put C.1 C.2.1 (Ts := kG) C.2.2.2.2.2.2.2.1 f3 (kTyF ci) f5 f4 C.2.2.2.2.2.1 (C.2.2.2.2.2.2.2.2.1).1 hH.1 kW_D (va_S_at hS) a (kW_get hsk) f1 k f6 (C.2.2.2.2.2.2.2.1 _ f7) (fun x h => h) f8 (f5 k f6) (by rw [ht]; rfl) (by rw [ht]; rfl) hlt hd ?_
  intro H1 locs1 g1 g2 g3
  rw [show (Value.long (iL x)) = kFld X.1 (kTyF ci k) (up2 μ a k x a k) (rf k) by rw [up2_at, ht]; rfl, kFs_set (g' := up2 μ a k x a) (rf' := rf) (fun j hj => ⟨up2_ne _ _ _ _ (Or.inr hj), rfl⟩)] at g1
  rw [show (Sum.inr (ci, kFs X.1 ci (up2 μ a k x a) (rf)) : va_E) = kE X (up2 μ a k x a) (.inr (ci, rf)) from rfl, kW_up hsk] at g1
  refine W_sized (fun hz1 => ?_)
  exact kk p l0 e R s m args below meth c H1 locs1 cells slots mc ms ls C hc hs hl ⟨g1, fun q => by have a1 := hH.2 q; have a2 := hz q; have a3 := g3.1; omega⟩ (va_S_tr hS g3) (fun q => by have a2 := hz q; have a3 := g3.1; omega)
theorem K_putIF (hd : decode md.2.1 pc = .ok (.putfield idx, 3)) (F : kFL md.1.cls idx ci k true) (hsk : sk[a]? = some (.inr (ci, rf))) (hini : md.1.name = "<init>") (hdc : ∀ (Cn : String) (Tn : u_T) (N : Nat), kCl[ci]? = some (Cn, Tn, N) → (Tn k).1 = md.1.cls) (ht : kTyF ci k = .int) (kk : KJ X md d ex po sk cr sr (pc + 3) l (st) (up2 μ a k x)) : KJ X md d ex po sk cr sr (pc) l (.int (iI x) :: .ref (X.1 + a) :: st) μ := by
  intro p l0 e R s m args below meth c H locs cells slots mc ms ls C hc hs hl hH hS hz
  obtain ⟨Cn, Tn, N, ⟨f1, f2, f3, f4, f5⟩, f6, f7, f8, f9⟩ := F
  have hlt : k < (kFs X.1 ci (μ a) rf).length := by rw [kFs_len, f2]; exact f6
  refine va_putF C.1 C.2.1 (Ts := kG) C.2.2.2.2.2.2.2.1 f3 (kTyF ci) f5 f4 C.2.2.2.2.2.1 (C.2.2.2.2.2.2.2.2.1).1 hH.1 kW_D (va_S_at hS) a (kW_get hsk) f1 k f6 (C.2.2.2.2.2.2.2.1 _ f7) (fun x h => h) f8 (C.2.2.2.2.2.2.1.trans hini) (hdc Cn Tn N f1) (f5 k f6) (by rw [ht]; rfl) (by rw [ht]; rfl) hlt hd ?_
  intro H1 locs1 g1 g2 g3
  rw [show (Value.int (iI x)) = kFld X.1 (kTyF ci k) (up2 μ a k x a k) (rf k) by rw [up2_at, ht]; rfl, kFs_set (g' := up2 μ a k x a) (rf' := rf) (fun j hj => ⟨up2_ne _ _ _ _ (Or.inr hj), rfl⟩)] at g1
  rw [show (Sum.inr (ci, kFs X.1 ci (up2 μ a k x a) (rf)) : va_E) = kE X (up2 μ a k x a) (.inr (ci, rf)) from rfl, kW_up hsk] at g1
  refine W_sized (fun hz1 => ?_)
  exact kk p l0 e R s m args below meth c H1 locs1 cells slots mc ms ls C hc hs hl ⟨g1, fun q => by have a1 := hH.2 q; have a2 := hz q; have a3 := g3.1; omega⟩ (va_S_tr hS g3) (fun q => by have a2 := hz q; have a3 := g3.1; omega)
theorem K_putLF (hd : decode md.2.1 pc = .ok (.putfield idx, 3)) (F : kFL md.1.cls idx ci k true) (hsk : sk[a]? = some (.inr (ci, rf))) (hini : md.1.name = "<init>") (hdc : ∀ (Cn : String) (Tn : u_T) (N : Nat), kCl[ci]? = some (Cn, Tn, N) → (Tn k).1 = md.1.cls) (ht : kTyF ci k = .long) (kk : KJ X md d ex po sk cr sr (pc + 3) l (st) (up2 μ a k x)) : KJ X md d ex po sk cr sr (pc) l (.long (iL x) :: .ref (X.1 + a) :: st) μ := by
  intro p l0 e R s m args below meth c H locs cells slots mc ms ls C hc hs hl hH hS hz
  obtain ⟨Cn, Tn, N, ⟨f1, f2, f3, f4, f5⟩, f6, f7, f8, f9⟩ := F
  have hlt : k < (kFs X.1 ci (μ a) rf).length := by rw [kFs_len, f2]; exact f6
  refine va_putF C.1 C.2.1 (Ts := kG) C.2.2.2.2.2.2.2.1 f3 (kTyF ci) f5 f4 C.2.2.2.2.2.1 (C.2.2.2.2.2.2.2.2.1).1 hH.1 kW_D (va_S_at hS) a (kW_get hsk) f1 k f6 (C.2.2.2.2.2.2.2.1 _ f7) (fun x h => h) f8 (C.2.2.2.2.2.2.1.trans hini) (hdc Cn Tn N f1) (f5 k f6) (by rw [ht]; rfl) (by rw [ht]; rfl) hlt hd ?_
  intro H1 locs1 g1 g2 g3
  rw [show (Value.long (iL x)) = kFld X.1 (kTyF ci k) (up2 μ a k x a k) (rf k) by rw [up2_at, ht]; rfl, kFs_set (g' := up2 μ a k x a) (rf' := rf) (fun j hj => ⟨up2_ne _ _ _ _ (Or.inr hj), rfl⟩)] at g1
  rw [show (Sum.inr (ci, kFs X.1 ci (up2 μ a k x a) (rf)) : va_E) = kE X (up2 μ a k x a) (.inr (ci, rf)) from rfl, kW_up hsk] at g1
  refine W_sized (fun hz1 => ?_)
  exact kk p l0 e R s m args below meth c H1 locs1 cells slots mc ms ls C hc hs hl ⟨g1, fun q => by have a1 := hH.2 q; have a2 := hz q; have a3 := g3.1; omega⟩ (va_S_tr hS g3) (fun q => by have a2 := hz q; have a3 := g3.1; omega)
theorem K_putZ (hd : decode md.2.1 pc = .ok (.putfield idx, 3)) (F : kFL md.1.cls idx ci k false) (hsk : sk[a]? = some (.inr (ci, rf))) (ht : kTyF ci k = .boolean) (hx : x = 0 ∨ x = 1) (kk : KJ X md d ex po sk cr sr (pc + 3) l (st) (up2 μ a k x)) : KJ X md d ex po sk cr sr (pc) l (.int (iI x) :: .ref (X.1 + a) :: st) μ := by
  intro p l0 e R s m args below meth c H locs cells slots mc ms ls C hc hs hl hH hS hz
  obtain ⟨Cn, Tn, N, ⟨f1, f2, f3, f4, f5⟩, f6, f7, f8, f9⟩ := F
  have hlt : k < (kFs X.1 ci (μ a) rf).length := by rw [kFs_len, f2]; exact f6
  refine va_put C.1 C.2.1 (Ts := kG) C.2.2.2.2.2.2.2.1 f3 (kTyF ci) f5 f4 C.2.2.2.2.2.1 (C.2.2.2.2.2.2.2.2.1).1 hH.1 kW_D (va_S_at hS) a (kW_get hsk) f1 k f6 (C.2.2.2.2.2.2.2.1 _ f7) (fun x h => h) f8 (f5 k f6) (by rw [ht]; rcases hx with h | h <;> subst h <;> rfl) (by rw [ht]; rcases hx with h | h <;> subst h <;> rfl) hlt hd ?_
  intro H1 locs1 g1 g2 g3
  rw [show (Value.int (iI x)) = kFld X.1 (kTyF ci k) (up2 μ a k x a k) (rf k) by rw [up2_at, ht]; rfl, kFs_set (g' := up2 μ a k x a) (rf' := rf) (fun j hj => ⟨up2_ne _ _ _ _ (Or.inr hj), rfl⟩)] at g1
  rw [show (Sum.inr (ci, kFs X.1 ci (up2 μ a k x a) (rf)) : va_E) = kE X (up2 μ a k x a) (.inr (ci, rf)) from rfl, kW_up hsk] at g1
  refine W_sized (fun hz1 => ?_)
  exact kk p l0 e R s m args below meth c H1 locs1 cells slots mc ms ls C hc hs hl ⟨g1, fun q => by have a1 := hH.2 q; have a2 := hz q; have a3 := g3.1; omega⟩ (va_S_tr hS g3) (fun q => by have a2 := hz q; have a3 := g3.1; omega)
theorem K_iald {r : Res} {k0 : Int → Option Res} (hd : decode md.2.1 pc = .ok (.iaload, 1)) (hsk : sk[a]? = some (.inl (0, n, rf))) (hn : n < 2 ^ 31) (h : rdI μ a n x k0 = some r) (k : k0 (μ a x.toNat) = some r → KJ X md d ex po sk cr sr (pc + 1) l (.int (iI (μ a x.toNat)) :: st) μ) : KJ X md d ex po sk cr sr (pc) l (.int (iI x) :: .ref (X.1 + a) :: st) μ := by
  intro p l0 e R s m args below meth c H locs cells slots mc ms ls C hc hs hl hH hS hz
  obtain ⟨⟨g1, g2⟩, h⟩ := og h
  obtain ⟨i1, i2⟩ := in_iI g1 g2 hn
  refine va_iald C.1 C.2.1 (C.2.2.2.2.2.2.2.2.1).1 hH.1 a 0 (cA := X.2.2 0) (n := n) (f := fun j => iI (μ a j)) (kW_get hsk) rfl i1 hd ?_
  rw [i2]
  exact k h p l0 e R s m args below meth c H locs cells slots mc ms ls C hc hs hl hH hS hz
theorem K_cald {r : Res} {k0 : Int → Option Res} (hd : decode md.2.1 pc = .ok (.caload, 1)) (hsk : sk[a]? = some (.inl (1, n, rf))) (hn : n < 2 ^ 31) (h : rdI μ a n x k0 = some r) (k : k0 (μ a x.toNat) = some r → KJ X md d ex po sk cr sr (pc + 1) l (.int (iI (μ a x.toNat)) :: st) μ) : KJ X md d ex po sk cr sr (pc) l (.int (iI x) :: .ref (X.1 + a) :: st) μ := by
  intro p l0 e R s m args below meth c H locs cells slots mc ms ls C hc hs hl hH hS hz
  obtain ⟨⟨g1, g2⟩, h⟩ := og h
  obtain ⟨i1, i2⟩ := in_iI g1 g2 hn
  refine va_cald C.1 C.2.1 (C.2.2.2.2.2.2.2.2.1).1 hH.1 a 1 (cA := X.2.2 1) (n := n) (f := fun j => iI (μ a j)) (kW_get hsk) rfl i1 hd ?_
  rw [i2]
  exact k h p l0 e R s m args below meth c H locs cells slots mc ms ls C hc hs hl hH hS hz
theorem K_lald {r : Res} {k0 : Int → Option Res} (hd : decode md.2.1 pc = .ok (.laload, 1)) (hsk : sk[a]? = some (.inl (2, n, rf))) (hn : n < 2 ^ 31) (h : rdI μ a n x k0 = some r) (k : k0 (μ a x.toNat) = some r → KJ X md d ex po sk cr sr (pc + 1) l (.long (iL (μ a x.toNat)) :: st) μ) : KJ X md d ex po sk cr sr (pc) l (.int (iI x) :: .ref (X.1 + a) :: st) μ := by
  intro p l0 e R s m args below meth c H locs cells slots mc ms ls C hc hs hl hH hS hz
  obtain ⟨⟨g1, g2⟩, h⟩ := og h
  obtain ⟨i1, i2⟩ := in_iI g1 g2 hn
  refine va_lald C.1 C.2.1 (C.2.2.2.2.2.2.2.2.1).1 hH.1 a 2 (cA := X.2.2 2) (n := n) (f := fun j => iL (μ a j)) (kW_get hsk) rfl i1 hd ?_
  rw [i2]
  exact k h p l0 e R s m args below meth c H locs cells slots mc ms ls C hc hs hl hH hS hz
theorem K_iast {r : Res} {k0 : Mu → Option Res} (hd : decode md.2.1 pc = .ok (.iastore, 1)) (hsk : sk[a]? = some (.inl (0, n, rf))) (hn : n < 2 ^ 31) (h : wrI μ a n x y k0 = some r) (k : k0 (up2 μ a x.toNat y) = some r → KJ X md d ex po sk cr sr (pc + 1) l (st) (up2 μ a x.toNat y)) : KJ X md d ex po sk cr sr (pc) l (.int (iI y) :: .int (iI x) :: .ref (X.1 + a) :: st) μ := by
  intro p l0 e R s m args below meth c H locs cells slots mc ms ls C hc hs hl hH hS hz
  obtain ⟨⟨g1, g2⟩, h⟩ := og h
  obtain ⟨i1, i2⟩ := in_iI g1 g2 hn
  refine va_iast C.1 C.2.1 (C.2.2.2.2.2.2.2.2.1).1 hH.1 kW_D (va_S_at hS) a 0 (cA := X.2.2 0) (n := n) (f := fun j => iI (μ a j)) (kW_get hsk) rfl i1 hd ?_
  intro H1 locs1 g1 g2 g3
  rw [i2] at g1
  rw [show (Sum.inl (X.2.2 0, n, .inl (upd (fun j => iI (μ a j)) x.toNat (iI y))) : va_E) = kE X (up2 μ a x.toNat y a) (.inl (0, n, rf)) by
    have e : upd (fun j => iI (μ a j)) x.toNat (iI y) = fun j => iI (up2 μ a x.toNat y a j) := by
      funext j
      by_cases hj : j = x.toNat
      · subst hj; simp [upd, up2_at]
      · simp [upd, hj, up2_ne μ a x.toNat y (a' := a) (k' := j) (Or.inr hj)]
    rw [e]; rfl, kW_up hsk] at g1
  refine W_sized (fun hz1 => ?_)
  exact k h p l0 e R s m args below meth c H1 locs1 cells slots mc ms ls C hc hs hl ⟨g1, fun q => by have a1 := hH.2 q; have a2 := hz q; have a3 := g3.1; omega⟩ (va_S_tr hS g3) (fun q => by have a2 := hz q; have a3 := g3.1; omega)
theorem K_last {r : Res} {k0 : Mu → Option Res} (hd : decode md.2.1 pc = .ok (.lastore, 1)) (hsk : sk[a]? = some (.inl (2, n, rf))) (hn : n < 2 ^ 31) (h : wrI μ a n x y k0 = some r) (k : k0 (up2 μ a x.toNat y) = some r → KJ X md d ex po sk cr sr (pc + 1) l (st) (up2 μ a x.toNat y)) : KJ X md d ex po sk cr sr (pc) l (.long (iL y) :: .int (iI x) :: .ref (X.1 + a) :: st) μ := by
  intro p l0 e R s m args below meth c H locs cells slots mc ms ls C hc hs hl hH hS hz
  obtain ⟨⟨g1, g2⟩, h⟩ := og h
  obtain ⟨i1, i2⟩ := in_iI g1 g2 hn
  refine va_last C.1 C.2.1 (C.2.2.2.2.2.2.2.2.1).1 hH.1 kW_D (va_S_at hS) a 2 (cA := X.2.2 2) (n := n) (f := fun j => iL (μ a j)) (kW_get hsk) rfl i1 hd ?_
  intro H1 locs1 g1 g2 g3
  rw [i2] at g1
  rw [show (Sum.inl (X.2.2 2, n, .inr (.inl (vp_updL (fun j => iL (μ a j)) x.toNat (iL y)))) : va_E) = kE X (up2 μ a x.toNat y a) (.inl (2, n, rf)) by
    have e : vp_updL (fun j => iL (μ a j)) x.toNat (iL y) = fun j => iL (up2 μ a x.toNat y a j) := by
      funext j
      by_cases hj : j = x.toNat
      · subst hj; simp [vp_updL, up2_at]
      · simp [vp_updL, hj, up2_ne μ a x.toNat y (a' := a) (k' := j) (Or.inr hj)]
    rw [e]; rfl, kW_up hsk] at g1
  refine W_sized (fun hz1 => ?_)
  exact k h p l0 e R s m args below meth c H1 locs1 cells slots mc ms ls C hc hs hl ⟨g1, fun q => by have a1 := hH.2 q; have a2 := hz q; have a3 := g3.1; omega⟩ (va_S_tr hS g3) (fun q => by have a2 := hz q; have a3 := g3.1; omega)
theorem K_cast {r : Res} {k0 : Mu → Option Res} (hd : decode md.2.1 pc = .ok (.castore, 1)) (hsk : sk[a]? = some (.inl (1, n, rf))) (hn : n < 2 ^ 31) (hc16 : 0 ≤ y ∧ y < 65536) (h : wrI μ a n x y k0 = some r) (k : k0 (up2 μ a x.toNat y) = some r → KJ X md d ex po sk cr sr (pc + 1) l (st) (up2 μ a x.toNat y)) : KJ X md d ex po sk cr sr (pc) l (.int (iI y) :: .int (iI x) :: .ref (X.1 + a) :: st) μ := by
  intro p l0 e R s m args below meth c H locs cells slots mc ms ls C hc hs hl hH hS hz
  obtain ⟨⟨g1, g2⟩, h⟩ := og h
  obtain ⟨i1, i2⟩ := in_iI g1 g2 hn
  refine va_cast C.1 C.2.1 (C.2.2.2.2.2.2.2.2.1).1 hH.1 kW_D (va_S_at hS) a 1 (cA := X.2.2 1) (n := n) (f := fun j => iI (μ a j)) (kW_get hsk) rfl i1 hd ?_
  intro H1 locs1 g1 g2 g3
  rw [i2] at g1
  rw [show vp_nar .char (iI y) = iI y by
    obtain ⟨j, rfl⟩ : ∃ j : Nat, y = j := ⟨y.toNat, by omega⟩
    have e := (pk_charN (q := j) (by omega)).1
    rw [show iI (j : Int) = nI j from rfl]
    unfold vp_nar; rw [e]] at g1
  rw [show (Sum.inl (X.2.2 1, n, .inl (upd (fun j => iI (μ a j)) x.toNat (iI y))) : va_E) = kE X (up2 μ a x.toNat y a) (.inl (1, n, rf)) by
    have e : upd (fun j => iI (μ a j)) x.toNat (iI y) = fun j => iI (up2 μ a x.toNat y a j) := by
      funext j
      by_cases hj : j = x.toNat
      · subst hj; simp [upd, up2_at]
      · simp [upd, hj, up2_ne μ a x.toNat y (a' := a) (k' := j) (Or.inr hj)]
    rw [e]; rfl, kW_up hsk] at g1
  refine W_sized (fun hz1 => ?_)
  exact k h p l0 e R s m args below meth c H1 locs1 cells slots mc ms ls C hc hs hl ⟨g1, fun q => by have a1 := hH.2 q; have a2 := hz q; have a3 := g3.1; omega⟩ (va_S_tr hS g3) (fun q => by have a2 := hz q; have a3 := g3.1; omega)
theorem K_alen (hd : decode md.2.1 pc = .ok (.arraylength, 1)) {t : Nat} (hsk : sk[a]? = some (.inl (t, n, rf))) (ht : t < 5) (kk : KJ X md d ex po sk cr sr (pc + 1) l (.int (iI n) :: st) μ) : KJ X md d ex po sk cr sr (pc) l (.ref (X.1 + a) :: st) μ := by
  intro p l0 e R s m args below meth c H locs cells slots mc ms ls C hc hs hl hH hS hz
  refine va_alen C.1 C.2.1 (C.2.2.2.2.2.2.2.2.1).1 hH.1 a t (kW_get hsk) (ty := kTyA t) ?_ (v := iI n) rfl hd ?_
  · match t, ht with
    | 0, _ => rfl
    | 1, _ => rfl
    | 2, _ => rfl
    | 3, _ => rfl
    | 4, _ => rfl
  · exact kk p l0 e R s m args below meth c H locs cells slots mc ms ls C hc hs hl hH hS hz
theorem K_aald {r : Res} {k0 : Nat → Option Res} {t : Nat} {f : Nat → Nat} (hd : decode md.2.1 pc = .ok (.aaload, 1)) (hsk : sk[a]? = some (.inl (t, n, rf))) (ht : t = 3 ∨ t = 4) (hn : n < 2 ^ 31) (hf : ∀ j, j < n → rf j = some (f j)) (h : rdA n x f k0 = some r) (k : k0 (f x.toNat) = some r → KJ X md d ex po sk cr sr (pc + 1) l (.ref (X.1 + f x.toNat) :: st) μ) : KJ X md d ex po sk cr sr (pc) l (.int (iI x) :: .ref (X.1 + a) :: st) μ := by
  intro p l0 e R s m args below meth c H locs cells slots mc ms ls C hc hs hl hH hS hz
  obtain ⟨⟨g1, g2⟩, h⟩ := og h
  obtain ⟨i1, i2⟩ := in_iI g1 g2 hn
  have hv : rf x.toNat = some (f x.toNat) := hf _ (by omega)
  rcases ht with e | e
  · subst e
    refine va_aldq C.1 C.2.1 (C.2.2.2.2.2.2.2.2.1).1 hH.1 a 3 (cA := X.2.2 3) (n := n) (f := fun j => (rf j).map (fun a => X.1 + a)) (kW_get hsk) (C := RX1) rfl i1 hd ?_
    rw [i2, hv]
    exact k h p l0 e R s m args below meth c H locs cells slots mc ms ls C hc hs hl hH hS hz
  · subst e
    refine va_aldq C.1 C.2.1 (C.2.2.2.2.2.2.2.2.1).1 hH.1 a 4 (cA := X.2.2 4) (n := n) (f := fun j => (rf j).map (fun a => X.1 + a)) (kW_get hsk) (C := RX5) rfl i1 hd ?_
    rw [i2, hv]
    exact k h p l0 e R s m args below meth c H locs cells slots mc ms ls C hc hs hl hH hS hz
end KR2
end
section
/-! returns, throws, calls -/
def cq (res : Res) : Nat := if res.2.1 = 0 then 0 else 1
def rvO (rk : Nat) (x : Int) : Option Value := match rk with
  | 0 => none
  | 1 => some (.int (iI x))
  | _ => some (.long (iL x))
def poR (rk : Nat) (sk : List Kd) (res : Res) : kPo := (fun v sk' μ' => sk' = sk ∧ res.2.1 = 0 ∧ μ' = res.1 ∧ v = rvO rk res.2.2, fun e sk' μ' => sk' = sk ∧ res.2.1 = e + 1 ∧ μ' = res.1)
def retZ (μ : Mu) (x : Int) : Option Res := if x = 0 ∨ x = 1 then some (μ, 0, x) else none
def kTH (own : String) (ic e : Nat) : Prop := Bundle.fit (exName e) = true ∧ Cond.initialized (exName e) ∈ kG ∧
  (∀ w ∈ vx_atS own ic (exName e) ["java/lang/RuntimeException", "java/lang/Exception"], w ∈ kG ∨ (∃ q ∈ kNC, w = .castable q.1 q.2) ∨ (∃ q ∈ kND, w = .declares q)) ∧
  (∀ w ∈ vx_atS own ic (exName e) ["java/lang/RuntimeException", "java/lang/Exception"], vx_ot w = true)
def kMf (mdY : kM) (n : Nat) : Prop := Cond.code mdY.1 mdY.2.1 mdY.2.2.1 mdY.2.2.2.1 ∈ kG ∧ Cond.initialized mdY.1.cls ∈ kG ∧ (mdY.1.cls ≠ "java/lang/invoke/MethodHandle" ∧ mdY.1.cls ≠ "java/lang/invoke/VarHandle" ∧ (parseMethodDescriptor mdY.1.desc).map (fun d => d.parameters.length) = some n) ∧ mdY.2.2.1 ≤ 40
def kMV (own : String) (idx : Nat) (mdY : kM) (n ci : Nat) : Prop := Cond.methodLink own idx mdY.1 ∈ kG ∧ Cond.instanceMethod mdY.1 ∈ kG ∧ Cond.selects mdY.1.cls mdY.1 mdY.1 ∈ kG ∧ kMf mdY n ∧ ∃ (T : u_T) (N : Nat), kCl[ci]? = some (mdY.1.cls, T, N)
def kMS (own : String) (idx : Nat) (mdY : kM) (n : Nat) : Prop := Cond.methodLink own idx mdY.1 ∈ kG ∧ Cond.static mdY.1 ∈ kG ∧ kMf mdY n
def kMSN (own : String) (idx : Nat) (mdY : kM) (n : Nat) (host : String) : Prop := (own, idx, mdY.1, host) ∈ kNM ∧ Cond.static mdY.1 ∈ kG ∧ kMf mdY n
theorem kG_good {w : Cond} (h : w ∈ kG) : (w.onTables && w.keeps) = true ∨ ∃ ty, w = .arrayClass ty := good_of_word (List.mem_filter.mp h).2
theorem kPc_blind {X : kX} {sk : List Kd} {ex : Bool} {μ : Mu} {args : List Value} : FrameBlind (kPc X sk ex μ args) := by
  intro a U g mk h
  obtain ⟨h1, h2, h3, h4⟩ := h
  exact ⟨h1, EU.go (s := U) (U := U.calling g mk a) (State.WarmedH.refl U) (fun _ _ _ => rfl) h2, h3, h4⟩
theorem kF_trans {X : kX} {s t : State} {H : Heap} {locs : List Loc} (h : va_S (kFree X) s.heap H locs) (ht : t.heap = H) : va_F (kFree X) s t := h.F ht
section KR3
variable {X : kX} {md mdY : kM} {d d' : Nat} {ex : Bool} {po poY : kPo} {sk : List Kd} {cr sr pc mcY msY : Nat} {l : List (Nat × Value)} {st As : List Value} {μ : Mu} {res : Res} {x y : Int} {a b n ci k idx : Nat} {rf : Nat → Option Nat} {own : String}
theorem K_iret {ty : FieldType} (hd : decode md.2.1 pc = .ok (.ireturn, 1)) (hr : md.2.2.2.1 = some ty) (hn : narrow ty (.int (iI x)) = .int (iI x)) (hp : po.1 (some (.int (iI x))) sk μ) : KJ X md d ex po sk cr sr pc l [.int (iI x)] μ := by
  intro p l0 e R s m args below meth c H locs cells slots mc ms ls C hc hs hl hH hS hz
  by_cases hex : ex = true
  · refine W.widen (k := mc) (n := ms) (by omega) (by omega) (vx_ret ?_)
    exact W.zret C.1 C.2.1 (C.2.2.2.1.trans hr) hn (fun t ht hW => ⟨_, sk, μ, rfl, hp, by rw [ht]; exact hH, hS.F ht⟩) hS.2.2 hd C.2.2.2.2.1
  · refine W.widen (k := mc) (n := ms) (by omega) (by omega) (vx_ret ?_)
    exact W.zret C.1 C.2.1 (C.2.2.2.1.trans hr) hn (fun t ht hW => ⟨_, sk, μ, rfl, hp, by rw [ht]; exact hH, hS.F ht⟩) hS.2.2 hd C.2.2.2.2.1
theorem K_lret (hd : decode md.2.1 pc = .ok (.lreturn, 1)) (hr : md.2.2.2.1 = some .long) (hp : po.1 (some (.long (iL x))) sk μ) : KJ X md d ex po sk cr sr pc l [.long (iL x)] μ := by
  intro p l0 e R s m args below meth c H locs cells slots mc ms ls C hc hs hl hH hS hz
  refine W.widen (k := mc) (n := ms) (by omega) (by omega) (vx_ret ?_)
  exact W.lret C.1 C.2.1 (C.2.2.2.1.trans hr) (fun t ht hW => ⟨_, sk, μ, rfl, hp, by rw [ht]; exact hH, hS.F ht⟩) hS.2.2 hd C.2.2.2.2.1
theorem K_vret (hd : decode md.2.1 pc = .ok (.return_, 1)) (hr : md.2.2.2.1 = none) (hp : po.1 none sk μ) : KJ X md d ex po sk cr sr pc l [] μ := by
  intro p l0 e R s m args below meth c H locs cells slots mc ms ls C hc hs hl hH hS hz
  refine W.widen (k := mc) (n := ms) (by omega) (by omega) (vx_ret ?_)
  exact W.vret C.1 C.2.1 (C.2.2.2.1.trans hr) (fun t ht hW => ⟨_, sk, μ, rfl, hp, by rw [ht]; exact hH, hS.F ht⟩) hS.2.2 hd C.2.2.2.2.1
theorem k_hat {X : kX} {s : State} {args : Array Value} {own : String} {ic e : Nat} (hG : ∀ w ∈ kG, w.before args s = true) (hE : EU X s s.heap) (F : kTH own ic e) : ∀ w ∈ vx_atS own ic (exName e) ["java/lang/RuntimeException", "java/lang/Exception"], w.before args s = true := by
  intro w hw
  rcases F.2.2.1 w hw with h | ⟨q, hq, rfl⟩ | ⟨q, hq, rfl⟩
  · exact hG w h
  · exact va_Nw.use rfl (hE.2.2.1 q hq)
  · exact va_Nw.use rfl (hE.2.2.2.1 q hq)
theorem K_throwS {ik is ic e0 : Nat} {text : String} (F : kTH md.1.cls ic e0) (hk : Cond.classLink md.1.cls ik (exName e0) ∈ kG) (hstr : (md.1.cls, is, text) ∈ kSR) (htab : md.2.2.2.2 = [])
    (d0 : decode md.2.1 pc = .ok (.new ik, 3)) (d3 : decode md.2.1 (pc + 3) = .ok (.dup, 1)) (d4 : decode md.2.1 (pc + 4) = .ok (.ldc is, 2)) (d6 : decode md.2.1 (pc + 6) = .ok (.invokespecial ic, 3)) (d9 : decode md.2.1 (pc + 9) = .ok (.athrow, 1))
    (hp : po.2 e0 sk μ) : KJ X md d ex po sk (cr + 1) (sr + 6) pc l [] μ := by
  intro p l0 e R s m args below meth c H locs cells slots mc ms ls C hc hs hl hH hS hz
  obtain ⟨c1, c2, c3, c4, c5, c6, c7, c8, c9, ⟨r1, r2, r3, r4⟩, c11, c12, c13⟩ := C
  obtain ⟨sa, hsa⟩ := c9.2.2.2.2.1 _ hstr
  refine vx_throwS (names := ["java/lang/RuntimeException", "java/lang/Exception"]) (A := kFree X) c1 c2 c11 c6 F.1 (by decide +kernel) (c8 _ hk) (c8 _ F.2.1) hsa (k_hat c8 c9 F) ?_ c9.2.2.2.2.2.1 c9.2.2.2.2.2.2.1 hS (by rw [hl.1, c3]) d0 d3 d4 d6 d9 (by rw [c12, htab]; exact fun x h => nomatch h)
    (by simp only [List.length_cons, List.length_nil]; omega) (by simp only [List.length_cons, List.length_nil, List.map_nil, List.sum_nil]; omega) (by omega) (by omega) c5 (fun t hA hz1 hk1 => ?_) hS.2.2 (by omega) (by omega)
  · intro w hw
    rcases List.mem_cons.mp hw with rfl | hw
    · rfl
    · rcases List.mem_cons.mp hw with rfl | hw
      · rfl
      · exact F.2.2.2 w hw
  · exact ⟨e0, sk, μ, rfl, hp, ⟨hH.1.kept (fun k q hq => hk1 _ ((hH.1 k q hq).lt)), fun h => by cases h⟩, ⟨Nat.le_trans hS.1 hz1, fun q h1 h2 => (hk1 q (Nat.lt_of_lt_of_le h1 hS.1)).trans (hS.2.1 q h1 h2)⟩⟩
theorem K_throwSW {ik is ic e0 : Nat} {text : String} (F : kTH md.1.cls ic e0) (hk : Cond.classLink md.1.cls ik (exName e0) ∈ kG) (hstr : (md.1.cls, is, text) ∈ kSR) (htab : md.2.2.2.2 = [])
    (d0 : decode md.2.1 pc = .ok (.new ik, 3)) (d3 : decode md.2.1 (pc + 3) = .ok (.dup, 1)) (d4 : decode md.2.1 (pc + 4) = .ok (.ldc_w is, 3)) (d6 : decode md.2.1 (pc + 7) = .ok (.invokespecial ic, 3)) (d9 : decode md.2.1 (pc + 10) = .ok (.athrow, 1))
    (hp : po.2 e0 sk μ) : KJ X md d ex po sk (cr + 1) (sr + 6) pc l [] μ := by
  intro p l0 e R s m args below meth c H locs cells slots mc ms ls C hc hs hl hH hS hz
  obtain ⟨c1, c2, c3, c4, c5, c6, c7, c8, c9, ⟨r1, r2, r3, r4⟩, c11, c12, c13⟩ := C
  obtain ⟨sa, hsa⟩ := c9.2.2.2.2.1 _ hstr
  refine vx_throwSW (names := ["java/lang/RuntimeException", "java/lang/Exception"]) (A := kFree X) c1 c2 c11 c6 F.1 (by decide +kernel) (c8 _ hk) (c8 _ F.2.1) hsa (k_hat c8 c9 F) ?_ c9.2.2.2.2.2.1 c9.2.2.2.2.2.2.1 hS (by rw [hl.1, c3]) d0 d3 d4 d6 d9 (by rw [c12, htab]; exact fun x h => nomatch h)
    (by simp only [List.length_cons, List.length_nil]; omega) (by simp only [List.length_cons, List.length_nil, List.map_nil, List.sum_nil]; omega) (by omega) (by omega) c5 (fun t hA hz1 hk1 => ?_) hS.2.2 (by omega) (by omega)
  · intro w hw
    rcases List.mem_cons.mp hw with rfl | hw
    · rfl
    · rcases List.mem_cons.mp hw with rfl | hw
      · rfl
      · exact F.2.2.2 w hw
  · exact ⟨e0, sk, μ, rfl, hp, ⟨hH.1.kept (fun k q hq => hk1 _ ((hH.1 k q hq).lt)), fun h => by cases h⟩, ⟨Nat.le_trans hS.1 hz1, fun q h1 h2 => (hk1 q (Nat.lt_of_lt_of_le h1 hS.1)).trans (hS.2.1 q h1 h2)⟩⟩
end KR3
section KR4
variable {p : Program} {l0 : Launch} {e : Env} {R : Room} {s : State} {m : MethodId} {args : Array Value} {below : List Frame} {meth : Method} {c : Code} {H : Heap} {locs : List Loc} {cells slots mc ms : Nat} {Q : State → Prop} {ls : Array Slot}
variable {X : kX} {md mdY : kM} {d d' : Nat} {ex : Bool} {poY : kPo} {sk : List Kd} {pc mcY msY : Nat} {st st0 : List Value} {μ : Mu} {a : Array Value}
/-- behind a call that returns or throws -/
theorem K_run (hr : vx_Run p l0 e R s m args below meth c H locs cells slots mcY msY (F0 m pc ls st0) st (kQ X ex poY a) (kQx X poY) (kFree X)) (hS : va_S (kFree X) s.heap H locs)
    (kk : ∀ (v : Option Value) (sk' : List Kd) (μ' : Mu) (H' : Heap) (locs' : List Loc), poY.1 v sk' μ' → kHp X sk' ex μ' H' → va_S (kFree X) s.heap H' locs' → W p l0 e R s m args below meth c H' locs' (cells + mcY) (slots + msY) Q (F0 m (pc + 3) ls (v.toList ++ st)))
    (kx : ∀ (e0 : Nat) (ce : Cell) (q : Addr) (sk' : List Kd) (μ' : Mu) (H' : Heap) (locs' : List Loc), poY.2 e0 sk' μ' → kHp X sk' false μ' H' → va_S (kFree X) s.heap H' locs' → H'[q]? = some ce → ce.vm = .none → s.vm.findClass (exName e0) = some ce.cls → vx_W p l0 e R s m args below meth c H' locs' (cells + mcY) (slots + msY) Q (F0 m pc ls st) q) :
    W p l0 e R s m args below meth c H locs cells slots Q (F0 m pc ls st0) := by
  intro T hT X0
  rcases hr T hT X0 with ⟨v, st₀, t, T', L, h0, X', hL, e1, e2, ⟨v', sk', μ', hv, hp, hb, hF⟩, hst⟩ | ⟨q, st₀, t, T', L, E, ce, h0, X', hL, e1, e2, ⟨e0, sk', μ', hE, hp, hb, hF⟩, hce, hcv, hcl, hst⟩
  · cases hv
    obtain ⟨k1, k2, k3⟩ := vx_keep h0 e1 hS (fun _ _ h => h) (fun _ h => h) hL hF
    obtain ⟨t2, a1, b1⟩ := kk v sk' μ' T'.heap (locs ++ L) hp (by rw [e1]; exact hb) k3 T' rfl X'
    exact ⟨t2, hst t2 a1, b1⟩
  · subst hE
    obtain ⟨k1, k2, k3⟩ := vx_keep h0 e1 hS (fun _ _ h => h) (fun _ h => h) hL hF
    obtain ⟨t2, a1, b1⟩ := kx e0 ce q sk' μ' T'.heap (locs ++ L) hp (by rw [e1]; exact hb) k3 (by rw [e1]; exact hce) hcv hcl T' rfl X'
    exact ⟨t2, hst.trans a1, b1⟩
theorem k_pre (C : kC X md d p l0 R s m args meth c mc ms) (hH : kHp X sk ex μ H) (hS : va_S (kFree X) s.heap H locs) {As : List Value} (U : State) (hU : U.heap = H) (hW : s.WarmedH U.vm) : kPc X sk ex μ As As.toArray U := by
  obtain ⟨c1, c2, c3, c4, c5, c6, c7, c8, c9, c10, c11, c12, c13⟩ := C
  exact ⟨rfl, EU.go hW (by rw [hU]; exact hS.2.1) c9, by rw [hU]; exact hH, by rw [hU]; exact Nat.le_trans c13 hS.1⟩
theorem k_callB {n idx : Nat} (C : kC X md d p l0 R s m args meth c mc ms) (M : kMf mdY n) (hdd : d' + 1 ≤ d) (hl : Cond.methodLink md.1.cls idx mdY.1 ∈ kG) :
    CallB R s args md.1.cls idx mdY.1 mdY.2.1 mdY.2.2.1 mdY.2.2.2.1 (kWs mdY) (kRm d' mcY msY) mcY msY n := by
  obtain ⟨c1, c2, c3, c4, c5, c6, c7, c8, c9, ⟨r1, r2, r3, r4⟩, c11, c12, c13⟩ := C
  obtain ⟨m1, m2, m3, m4⟩ := M
  exact callB_of n c8 (fun w hw => by
    rcases List.mem_cons.mp hw with rfl | hw
    · exact ⟨m1, kG_good m1⟩
    · exact ⟨hw, kG_good hw⟩) rfl rfl rfl (c8 _ m2) (c8 _ hl) m3 ⟨by show 8 + d' + 1 ≤ R.frames; omega, by show 8 + (mdY.2.2.1 + 11) + (d' + 1) * 100 ≤ R.locals; omega⟩
end KR4
section KR5
variable {X : kX} {md mdY : kM} {d d' : Nat} {ex : Bool} {po poY : kPo} {sk : List Kd} {cr sr pc mcY msY : Nat} {l : List (Nat × Value)} {st As : List Value} {μ : Mu} {b n ci idx : Nat} {rf : Nat → Option Nat}
theorem K_callV (hd : decode md.2.1 pc = .ok (.invokevirtual idx, 3)) (M : kMV md.1.cls idx mdY n ci) (hsk : sk[b]? = some (.inr (ci, rf))) (hn : As.length = n) (hst : (st.map fun v => v.category).sum ≤ 8) (hdd : d' + 1 ≤ d) (htab : md.2.2.2.2 = [])
    (hC : Ct X mdY d' sk ex μ mcY msY (.ref (X.1 + b) :: As) poY) (hlen : ex = true → ∀ v sk' μ', poY.1 v sk' μ' → sk'.length = sk.length + mcY)
    (kk : ∀ v sk' μ', poY.1 v sk' μ' → KJ X md d ex po sk' cr sr (pc + 3) l (v.toList ++ st) μ') (kx : ∀ e sk' μ', poY.2 e sk' μ' → po.2 e sk' μ') {st1 : List Value} (hs1 : st1 = As.reverse ++ .ref (X.1 + b) :: st) : KJ X md d ex po sk (cr + mcY) (sr + msY) pc l st1 μ := by
  subst hs1
  intro p l0 e R s m args below meth c H locs cells slots mc ms ls C hc hs hl hH hS hz
  obtain ⟨M1, M2, M3, M4, T, N, M5⟩ := M
  have C' := C
  obtain ⟨c1, c2, c3, c4, c5, c6, c7, c8, c9, ⟨r1, r2, r3, r4⟩, c11, c12, c13⟩ := C'
  refine K_run (vx_runV (As := As) (C := mdY.1.cls) (b := X.1 + b) (rest := st) ⟨c1, c2, c3, c6, c8⟩ (hC l0 c11) ⟨k_callB C M4 hdd M1, c8 _ M2, c8 _ M3⟩ ⟨kPc_blind, va_recv c9.1 hH.1 (q := (mdY.1.cls, T, N)) M5 (kW_get hsk), k_pre C hH hS⟩ rfl hn hl.1 rfl (lv_room hst) hd ⟨by omega, by omega⟩) hS
    (fun v sk' μ' H' locs' hp hH' hS' => kk v sk' μ' hp p l0 e R s m args below meth c H' locs' (cells + mcY) (slots + msY) mc ms ls C (by omega) (by omega) hl hH' hS' (fun h => by have a1 := hH'.2 h; have a2 := hH.2 h; have a3 := hz h; have a4 := hlen h v sk' μ' hp; omega))
    (fun e0 ce q sk' μ' H' locs' hp hH' hS' h1 h2 h3 => vx_out (by rw [c12, htab]; exact fun x h => nomatch h) c5 h1 h2 h3 (fun t ht hA => ⟨e0, sk', μ', rfl, kx e0 sk' μ' hp, by rw [ht]; exact hH', hS'.F ht⟩) hS'.2.2 (by omega) (by omega))
theorem K_callS (hd : decode md.2.1 pc = .ok (.invokestatic idx, 3)) (M : kMS md.1.cls idx mdY n) (hn : As.length = n) (hst : (st.map fun v => v.category).sum ≤ 8) (hdd : d' + 1 ≤ d) (htab : md.2.2.2.2 = [])
    (hC : Ct X mdY d' sk ex μ mcY msY As poY) (hlen : ex = true → ∀ v sk' μ', poY.1 v sk' μ' → sk'.length = sk.length + mcY)
    (kk : ∀ v sk' μ', poY.1 v sk' μ' → KJ X md d ex po sk' cr sr (pc + 3) l (v.toList ++ st) μ') (kx : ∀ e sk' μ', poY.2 e sk' μ' → po.2 e sk' μ') {st1 : List Value} (hs1 : st1 = As.reverse ++ st) : KJ X md d ex po sk (cr + mcY) (sr + msY) pc l st1 μ := by
  subst hs1
  intro p l0 e R s m args below meth c H locs cells slots mc ms ls C hc hs hl hH hS hz
  obtain ⟨M1, M2, M4⟩ := M
  have C' := C
  obtain ⟨c1, c2, c3, c4, c5, c6, c7, c8, c9, ⟨r1, r2, r3, r4⟩, c11, c12, c13⟩ := C'
  refine K_run (vx_runS (As := As) (rest := st) ⟨c1, c2, c3, c6, c8⟩ (hC l0 c11) ⟨k_callB C M4 hdd M1, c8 _ M2⟩ ⟨kPc_blind, k_pre C hH hS⟩ rfl hn hl.1 rfl (lv_room hst) hd ⟨by omega, by omega⟩) hS
    (fun v sk' μ' H' locs' hp hH' hS' => kk v sk' μ' hp p l0 e R s m args below meth c H' locs' (cells + mcY) (slots + msY) mc ms ls C (by omega) (by omega) hl hH' hS' (fun h => by have a1 := hH'.2 h; have a2 := hH.2 h; have a3 := hz h; have a4 := hlen h v sk' μ' hp; omega))
    (fun e0 ce q sk' μ' H' locs' hp hH' hS' h1 h2 h3 => vx_out (by rw [c12, htab]; exact fun x h => nomatch h) c5 h1 h2 h3 (fun t ht hA => ⟨e0, sk', μ', rfl, kx e0 sk' μ' hp, by rw [ht]; exact hH', hS'.F ht⟩) hS'.2.2 (by omega) (by omega))
end KR5
end
section
/-! rows: nest mates' static methods, constructors, the library's functions, static arrays, switches, floating point -/
theorem met_of_vx {l : Launch} {y : MethodName} {ws : List Cond} {rm : Room} {Pc : Array Value → State → Prop} {Qc : Array Value → State → Outcome → State → Prop} {XC : String → State → State → Prop} {mc ms : Nat} {free : Addr → Prop}
    (hM : vx_Met l y ws rm Pc Qc XC mc ms free) (hno : ∀ E st t, ¬ XC E st t) : Met l y ws rm Pc Qc mc ms free := by
  intro p e ha hc hk s m args below hf happ hP hK
  obtain ⟨n, o, h1, h2, h3, h4⟩ := hM p e ha hc hk s m args below hf happ hP hK
  refine ⟨n, o, h1, h2, h3, ?_⟩
  rcases h4 with h | ⟨q, -, E, ce, L, hx, -⟩
  · exact h
  · exact absurd hx (hno E s _)
def i_max {α : Type} (x y : Int) (k : Int → Option α) : Option α := if (-2147483648 ≤ x ∧ x < 2147483648) ∧ (-2147483648 ≤ y ∧ y < 2147483648) then k (if x < y then y else x) else none
def i_min {α : Type} (x y : Int) (k : Int → Option α) : Option α := if (-2147483648 ≤ x ∧ x < 2147483648) ∧ (-2147483648 ≤ y ∧ y < 2147483648) then k (if y < x then y else x) else none
def i_abs {α : Type} (x : Int) (k : Int → Option α) : Option α := if -2147483648 ≤ x ∧ x < 2147483648 then k (if 0 ≤ x then x else 0 - x) else none
def cpM (μ : Mu) (a0 sp a dp n : Nat) : Mu := fun a' k => if a' = a ∧ dp ≤ k ∧ k < dp + n then μ a0 (sp + (k - dp)) else μ a' k
def cpyI {α : Type} (μ : Mu) (a0 n0 : Nat) (sp : Int) (a n1 : Nat) (dp n : Int) (k : Mu → Option α) : Option α := if (0 ≤ sp ∧ sp < 2147483648) ∧ (0 ≤ dp ∧ dp < 2147483648) ∧ (0 ≤ n ∧ n < 2147483648) ∧ sp + n ≤ n0 ∧ dp + n ≤ n1 then k (cpM μ a0 sp.toNat a dp.toNat n.toNat) else none
def rdC {α : Type} (n : Nat) (i : Int) (f : Nat → Int) (k : Int → Option α) : Option α := if 0 ≤ i ∧ i < n then k (f i.toNat) else none
def i_sw {α : Type} (x lo : Int) (As : List (Option α)) (D : Option α) : Option α := if -2147483648 ≤ x ∧ x < 2147483648 then (if x < lo then D else As.getD (x - lo).toNat D) else none
def kSw (P : Int → Option Res → Prop) : List Int → List (Option Res) → Prop
  | o :: os, A :: As => P o A ∧ kSw P os As
  | [], [] => True
  | _, _ => False
theorem kSw_at {P : Int → Option Res → Prop} : ∀ (os : List Int) (As : List (Option Res)) (j : Nat) (D : Option Res), kSw P os As → j < As.length → ∃ o, os[j]? = some o ∧ P o (As.getD j D)
  | o :: os, A :: As, 0, D, h, _ => ⟨o, rfl, h.1⟩
  | o :: os, A :: As, j + 1, D, h, hj => by
    obtain ⟨o', h1, h2⟩ := kSw_at os As j D h.2 (by simpa using hj)
    exact ⟨o', by simpa using h1, by simpa using h2⟩
  | [], [], j, D, _, hj => by simp at hj
  | [], A :: As, j, D, h, _ => h.elim
  | o :: os, [], j, D, h, _ => h.elim
theorem kSw_len {P : Int → Option Res → Prop} : ∀ (os : List Int) (As : List (Option Res)), kSw P os As → os.length = As.length
  | o :: os, A :: As, h => by simp [kSw_len os As h.2]
  | [], [], _ => rfl
  | [], A :: As, h => h.elim
  | o :: os, [], h => h.elim
def dcI (op : CmpOp) (x y : UInt64) : Int := (Op.cmpValue (FP.dcmp x y) op).toInt
def fcI (op : CmpOp) (x y : UInt32) : Int := (Op.cmpValue (FP.fcmp x y) op).toInt
def d_ck {α : Type} (r : UInt64) (k : UInt64 → Option α) : Option α := if r &&& 0x7fffffffffffffff ≤ 0x7ff0000000000000 then k r else none
def f_ck {α : Type} (r : UInt32) (k : UInt32 → Option α) : Option α := if r &&& 0x7fffffff ≤ 0x7f800000 then k r else none
section KR6
variable {X : kX} {md mdY : kM} {d d' : Nat} {ex : Bool} {po poY : kPo} {sk : List Kd} {cr sr pc mcY msY : Nat} {l : List (Nat × Value)} {st As : List Value} {μ : Mu} {res : Res} {x y : Int} {b n ci idx a a0 n0 n1 : Nat} {rf rf0 : Nat → Option Nat} {host : String}
theorem K_callSN (hd : decode md.2.1 pc = .ok (.invokestatic idx, 3)) (M : kMSN md.1.cls idx mdY n host) (hn : As.length = n) (hst : (st.map fun v => v.category).sum ≤ 8) (hdd : d' + 1 ≤ d)
    (hC : Ct X mdY d' sk ex μ mcY msY As poY) (hlen : ex = true → ∀ v sk' μ', poY.1 v sk' μ' → sk'.length = sk.length + mcY)
    (kk : ∀ v sk' μ', poY.1 v sk' μ' → KJ X md d ex po sk' cr sr (pc + 3) l (v.toList ++ st) μ') (kx : ∀ e sk' μ', ¬ poY.2 e sk' μ') {st1 : List Value} (hs1 : st1 = As.reverse ++ st) : KJ X md d ex po sk (cr + mcY) (sr + msY) pc l st1 μ := by
  subst hs1
  intro p l0 e R s m args below meth c H locs cells slots mc ms ls C hc hs hl hH hS hz
  obtain ⟨M1, M2, m1, m2, m3, m4⟩ := M
  have C' := C
  obtain ⟨c1, c2, c3, c4, c5, c6, c7, c8, c9, ⟨r1, r2, r3, r4⟩, c11, c12, c13⟩ := C'
  have hM := met_of_vx (hC l0 c11) (fun E st t h => by obtain ⟨e0, sk', μ', -, h2, -⟩ := h; exact kx e0 sk' μ' h2)
  have hr := va_runSN (p := p) (e := e) (R := R) (below := below) (meth := meth) (H := H) (locs := locs) (cells := cells) (slots := slots) (g := F0 m pc ls (As.reverse ++ st)) (As := As) (rest := st) (index := idx) (n := n) (own := md.1.cls) (host := host) ⟨c1, c2, c3, c6, c8⟩ hM ⟨va_cnB n c8 (fun w hw => by
    rcases List.mem_cons.mp hw with rfl | hw
    · exact ⟨m1, kG_good m1⟩
    · exact ⟨hw, kG_good hw⟩) rfl rfl rfl (c9.2.1 _ M1) (c8 _ m2) m3 ⟨by show 8 + d' + 1 ≤ R.frames; omega, by show 8 + (mdY.2.2.1 + 11) + (d' + 1) * 100 ≤ R.locals; omega⟩, c8 _ M2, trivial⟩ ⟨kPc_blind, k_pre C hH hS⟩ rfl hn hl.1 rfl (lv_room hst) hd ⟨by omega, by omega⟩
  have hr' : vx_Run p l0 e R s m args below meth c H locs cells slots mcY msY (F0 m pc ls (As.reverse ++ st)) st (kQ X ex poY As.toArray) (kQx X poY) (kFree X) := fun T hT X0 => Or.inl (hr T hT X0)
  exact K_run hr' hS
    (fun v sk' μ' H' locs' hp hH' hS' => kk v sk' μ' hp p l0 e R s m args below meth c H' locs' (cells + mcY) (slots + msY) mc ms ls C (by omega) (by omega) hl hH' hS' (fun h => by have a1 := hH'.2 h; have a2 := hH.2 h; have a3 := hz h; have a4 := hlen h v sk' μ' hp; omega))
    (fun e0 ce q sk' μ' H' locs' hp hH' hS' h1 h2 h3 => absurd hp (kx e0 sk' μ'))
theorem K_callI (hd : decode md.2.1 pc = .ok (.invokespecial idx, 3)) (hl0 : Cond.methodLink md.1.cls idx mdY.1 ∈ kG) (M2 : Cond.instanceMethod mdY.1 ∈ kG) (M4 : kMf mdY n) (hnm : mdY.1.name = "<init>") (hrt : mdY.2.2.2.1 = none) (hn : As.length = n) (hst : (st.map fun v => v.category).sum ≤ 8) (hdd : d' + 1 ≤ d)
    (hC : Ct X mdY d' sk ex μ mcY msY (.ref (X.1 + b) :: As) poY) (hlen : ex = true → ∀ v sk' μ', poY.1 v sk' μ' → sk'.length = sk.length + mcY)
    (kk : ∀ v sk' μ', poY.1 v sk' μ' → KJ X md d ex po sk' cr sr (pc + 3) l (v.toList ++ st) μ') (kx : ∀ e sk' μ', ¬ poY.2 e sk' μ') {st1 : List Value} (hs1 : st1 = As.reverse ++ .ref (X.1 + b) :: st) : KJ X md d ex po sk (cr + mcY) (sr + msY) pc l st1 μ := by
  subst hs1
  intro p l0 e R s m args below meth c H locs cells slots mc ms ls C hc hs hl hH hS hz
  obtain ⟨y0, c0, n0, r0, t0⟩ := mdY
  dsimp only at hrt hnm
  subst hrt
  obtain ⟨m1, m2, m3, m4⟩ := M4
  have C' := C
  obtain ⟨c1, c2, c3, c4, c5, c6, c7, c8, c9, ⟨r1, r2, r3, r4⟩, c11, c12, c13⟩ := C'
  have hM := met_of_vx (hC l0 c11) (fun E st t h => by obtain ⟨e0, sk', μ', -, h2, -⟩ := h; exact kx e0 sk' μ' h2)
  have hr := va_runI (p := p) (e := e) (R := R) (below := below) (meth := meth) (H := H) (locs := locs) (cells := cells) (slots := slots) (g := F0 m pc ls (As.reverse ++ .ref (X.1 + b) :: st)) (As := As) (b := X.1 + b) (rest := st) (index := idx) (n := n) (own := md.1.cls) ⟨c1, c2, c3, c6, c8⟩ hM (cwI n c8 (fun w hw => by
    rcases List.mem_cons.mp hw with rfl | hw
    · exact ⟨m1, kG_good m1⟩
    · exact ⟨hw, kG_good hw⟩) rfl rfl rfl (c8 _ m2) (c8 _ hl0) (c8 _ M2) hnm m3 ⟨by show 8 + d' + 1 ≤ R.frames; omega, by show 8 + (n0 + 11) + (d' + 1) * 100 ≤ R.locals; dsimp only at m4; omega⟩) ⟨kPc_blind, k_pre C hH hS⟩ rfl hn hl.1 rfl (lv_room hst) hd ⟨by omega, by omega⟩
  have hr' : vx_Run p l0 e R s m args below meth c H locs cells slots mcY msY (F0 m pc ls (As.reverse ++ .ref (X.1 + b) :: st)) st (kQ X ex poY (Value.ref (X.1 + b) :: As).toArray) (kQx X poY) (kFree X) := fun T hT X0 => Or.inl (hr T hT X0)
  exact K_run hr' hS
    (fun v sk' μ' H' locs' hp hH' hS' => kk v sk' μ' hp p l0 e R s m args below meth c H' locs' (cells + mcY) (slots + msY) mc ms ls C (by omega) (by omega) hl hH' hS' (fun h => by have a1 := hH'.2 h; have a2 := hH.2 h; have a3 := hz h; have a4 := hlen h v sk' μ' hp; omega))
    (fun e0 ce q sk' μ' H' locs' hp hH' hS' h1 h2 h3 => absurd hp (kx e0 sk' μ'))
theorem K_callIN (hd : decode md.2.1 pc = .ok (.invokespecial idx, 3)) (M1 : (md.1.cls, idx, mdY.1, host) ∈ kNM) (M2 : Cond.instanceMethod mdY.1 ∈ kG) (M4 : kMf mdY n) (hnm : mdY.1.name = "<init>") (hrt : mdY.2.2.2.1 = none) (hn : As.length = n) (hst : (st.map fun v => v.category).sum ≤ 8) (hdd : d' + 1 ≤ d)
    (hC : Ct X mdY d' sk ex μ mcY msY (.ref (X.1 + b) :: As) poY) (hlen : ex = true → ∀ v sk' μ', poY.1 v sk' μ' → sk'.length = sk.length + mcY)
    (kk : ∀ v sk' μ', poY.1 v sk' μ' → KJ X md d ex po sk' cr sr (pc + 3) l (v.toList ++ st) μ') (kx : ∀ e sk' μ', ¬ poY.2 e sk' μ') {st1 : List Value} (hs1 : st1 = As.reverse ++ .ref (X.1 + b) :: st) : KJ X md d ex po sk (cr + mcY) (sr + msY) pc l st1 μ := by
  subst hs1
  intro p l0 e R s m args below meth c H locs cells slots mc ms ls C hc hs hl hH hS hz
  obtain ⟨y0, c0, n0, r0, t0⟩ := mdY
  dsimp only at hrt hnm
  subst hrt
  obtain ⟨m1, m2, m3, m4⟩ := M4
  have C' := C
  obtain ⟨c1, c2, c3, c4, c5, c6, c7, c8, c9, ⟨r1, r2, r3, r4⟩, c11, c12, c13⟩ := C'
  have hM := met_of_vx (hC l0 c11) (fun E st t h => by obtain ⟨e0, sk', μ', -, h2, -⟩ := h; exact kx e0 sk' μ' h2)
  have hr := va_runIN (p := p) (e := e) (R := R) (below := below) (meth := meth) (H := H) (locs := locs) (cells := cells) (slots := slots) (g := F0 m pc ls (As.reverse ++ .ref (X.1 + b) :: st)) (As := As) (b := X.1 + b) (rest := st) (index := idx) (n := n) (own := md.1.cls) (host := host) ⟨c1, c2, c3, c6, c8⟩ hM ⟨va_cnB n c8 (fun w hw => by
    rcases List.mem_cons.mp hw with rfl | hw
    · exact ⟨m1, kG_good m1⟩
    · exact ⟨hw, kG_good hw⟩) rfl rfl rfl (c9.2.1 _ M1) (c8 _ m2) m3 ⟨by show 8 + d' + 1 ≤ R.frames; omega, by show 8 + (n0 + 11) + (d' + 1) * 100 ≤ R.locals; dsimp only at m4; omega⟩, hnm, c8 _ M2⟩ ⟨kPc_blind, k_pre C hH hS⟩ rfl hn hl.1 rfl (lv_room hst) hd ⟨by omega, by omega⟩
  have hr' : vx_Run p l0 e R s m args below meth c H locs cells slots mcY msY (F0 m pc ls (As.reverse ++ .ref (X.1 + b) :: st)) st (kQ X ex poY (Value.ref (X.1 + b) :: As).toArray) (kQx X poY) (kFree X) := fun T hT X0 => Or.inl (hr T hT X0)
  exact K_run hr' hS
    (fun v sk' μ' H' locs' hp hH' hS' => kk v sk' μ' hp p l0 e R s m args below meth c H' locs' (cells + mcY) (slots + msY) mc ms ls C (by omega) (by omega) hl hH' hS' (fun h => by have a1 := hH'.2 h; have a2 := hH.2 h; have a3 := hz h; have a4 := hlen h v sk' μ' hp; omega))
    (fun e0 ce q sk' μ' H' locs' hp hH' hS' h1 h2 h3 => absurd hp (kx e0 sk' μ'))
theorem K_objInit (hd : decode md.2.1 pc = .ok (.invokespecial idx, 3)) (h1 : Cond.methodLink md.1.cls idx Lib.objectInit ∈ kG) (h2 : Cond.instanceMethod Lib.objectInit ∈ kG) (h3 : Cond.code Lib.objectInit ⟨#[0xb1]⟩ 1 none ∈ kG) (hst : (st.map fun v => v.category).sum ≤ 8) (kk : KJ X md d ex po sk cr sr (pc + 3) l st μ) : KJ X md d ex po sk cr sr pc l (.ref (X.1 + b) :: st) μ := by
  intro p l0 e R s m args below meth c H locs cells slots mc ms ls C hc hs hl hH hS hz
  have C' := C
  obtain ⟨c1, c2, c3, c4, c5, c6, c7, c8, c9, ⟨r1, r2, r3, r4⟩, c11, c12, c13⟩ := C'
  refine W.objInit c1 c2 c6 (c8 _ h1) (c8 _ h2) (c8 _ h3) rfl (by rw [c3]; exact hl.1) rfl hd (by omega) (by show 2 * 0 + _ + 12 ≤ _; omega) ?_
  exact kk p l0 e R s m args below meth c H locs cells slots mc ms ls C hc hs hl hH hS hz
/-- the library's functions -/
theorem K_mmax {r : Res} {k0 : Int → Option Res} (hd : decode md.2.1 pc = .ok (.invokestatic idx, 3)) (h1 : Cond.methodLink md.1.cls idx Lib.Math.max.name ∈ kG) (h2 : Cond.static Lib.Math.max.name ∈ kG) (h3 : Cond.initialized "java/lang/Math" ∈ kG) (h4 : Cond.code Lib.Math.max.name Lib.Math.max.code 2 (some .int) ∈ kG) (hst : (st.map fun v => v.category).sum ≤ 8)
    (h : i_max x y k0 = some r) (k : k0 (if x < y then y else x) = some r → KJ X md d ex po sk cr sr (pc + 3) l (.int (iI (if x < y then y else x)) :: st) μ) : KJ X md d ex po sk cr sr pc l (.int (iI y) :: .int (iI x) :: st) μ := by
  intro p l0 e R s m args below meth c H locs cells slots mc ms ls C hc hs hl hH hS hz
  have C' := C
  obtain ⟨c1, c2, c3, c4, c5, c6, c7, c8, c9, ⟨r1, r2, r3, r4⟩, c11, c12, c13⟩ := C'
  obtain ⟨⟨g1, g2⟩, h⟩ := og h
  refine va_mmax c1 c2 (by rw [c3]; exact hl.1.symm) c6 (c8 _ h1) (c8 _ h2) (c8 _ h3) (c8 _ h4) (by omega) (by omega) (by omega) (by omega) hd ?_
  rw [show (if iI x < iI y then iI y else iI x) = iI (if x < y then y else x) by
    by_cases q : x < y
    · rw [if_pos q, if_pos ((iI_lt g1 g2).mpr q)]
    · rw [if_neg q, if_neg (fun z => q ((iI_lt g1 g2).mp z))]]
  exact k h p l0 e R s m args below meth c H locs cells slots mc ms ls C hc hs hl hH hS hz
theorem K_mmin {r : Res} {k0 : Int → Option Res} (hd : decode md.2.1 pc = .ok (.invokestatic idx, 3)) (h1 : Cond.methodLink md.1.cls idx Lib.Math.min.name ∈ kG) (h2 : Cond.static Lib.Math.min.name ∈ kG) (h3 : Cond.initialized "java/lang/Math" ∈ kG) (h4 : Cond.code Lib.Math.min.name Lib.Math.min.code 2 (some .int) ∈ kG) (hst : (st.map fun v => v.category).sum ≤ 8)
    (h : i_min x y k0 = some r) (k : k0 (if y < x then y else x) = some r → KJ X md d ex po sk cr sr (pc + 3) l (.int (iI (if y < x then y else x)) :: st) μ) : KJ X md d ex po sk cr sr pc l (.int (iI y) :: .int (iI x) :: st) μ := by
  intro p l0 e R s m args below meth c H locs cells slots mc ms ls C hc hs hl hH hS hz
  have C' := C
  obtain ⟨c1, c2, c3, c4, c5, c6, c7, c8, c9, ⟨r1, r2, r3, r4⟩, c11, c12, c13⟩ := C'
  obtain ⟨⟨g1, g2⟩, h⟩ := og h
  refine va_mmin c1 c2 (by rw [c3]; exact hl.1.symm) c6 (c8 _ h1) (c8 _ h2) (c8 _ h3) (c8 _ h4) (by omega) (by omega) (by omega) (by omega) hd ?_
  rw [show (if iI y < iI x then iI y else iI x) = iI (if y < x then y else x) by
    by_cases q : y < x
    · rw [if_pos q, if_pos ((iI_lt g2 g1).mpr q)]
    · rw [if_neg q, if_neg (fun z => q ((iI_lt g2 g1).mp z))]]
  exact k h p l0 e R s m args below meth c H locs cells slots mc ms ls C hc hs hl hH hS hz
theorem K_mabs {r : Res} {k0 : Int → Option Res} (hd : decode md.2.1 pc = .ok (.invokestatic idx, 3)) (h1 : Cond.methodLink md.1.cls idx Lib.Math.abs.name ∈ kG) (h2 : Cond.static Lib.Math.abs.name ∈ kG) (h3 : Cond.initialized "java/lang/Math" ∈ kG) (h4 : Cond.code Lib.Math.abs.name Lib.Math.abs.code 1 (some .int) ∈ kG) (hst : (st.map fun v => v.category).sum ≤ 8)
    (h : i_abs x k0 = some r) (k : k0 (if 0 ≤ x then x else 0 - x) = some r → KJ X md d ex po sk cr sr (pc + 3) l (.int (iI (if 0 ≤ x then x else 0 - x)) :: st) μ) : KJ X md d ex po sk cr sr pc l (.int (iI x) :: st) μ := by
  intro p l0 e R s m args below meth c H locs cells slots mc ms ls C hc hs hl hH hS hz
  have C' := C
  obtain ⟨c1, c2, c3, c4, c5, c6, c7, c8, c9, ⟨r1, r2, r3, r4⟩, c11, c12, c13⟩ := C'
  obtain ⟨g1, h⟩ := og h
  refine va_mabs c1 c2 (by rw [c3]; exact hl.1.symm) c6 (c8 _ h1) (c8 _ h2) (c8 _ h3) (c8 _ h4) (by omega) (by omega) (by omega) (by omega) hd ?_
  rw [show (if 0 ≤ iI x then iI x else 0 - iI x) = iI (if 0 ≤ x then x else 0 - x) by
    rw [← iI_0]
    by_cases q : 0 ≤ x
    · rw [if_pos q, if_pos ((iI_le gI_0 g1).mpr q)]
    · rw [if_neg q, if_neg (fun z => q ((iI_le gI_0 g1).mp z)), iI_sub]]
  exact k h p l0 e R s m args below meth c H locs cells slots mc ms ls C hc hs hl hH hS hz
theorem K_tsw {dflt lo hi : Int} {offs : Array Int} {len dt : Nat} {r : Res} {Cs : List (Option Res)} {D : Option Res} (hd : decode md.2.1 pc = .ok (.tableswitch dflt lo hi offs, len)) (hdt : (pc : Int) + dflt = (dt : Int)) (hhi : hi = lo + Cs.length - 1)
    (h : i_sw x lo Cs D = some r) (kin : kSw (fun o A => A = some r → ∃ tgt : Nat, (pc : Int) + o = (tgt : Int) ∧ KJ X md d ex po sk cr sr tgt l st μ) offs.toList Cs) (kout : D = some r → KJ X md d ex po sk cr sr dt l st μ) : KJ X md d ex po sk cr sr pc l (.int (iI x) :: st) μ := by
  intro p l0 e R s m args below meth c H locs cells slots mc ms ls C hc hs hl hH hS hz
  obtain ⟨g1, h⟩ := og h
  have ex : (iI x).toInt = x := iI_toInt g1
  by_cases q : x < lo ∨ hi < x
  · refine lv_tableOut C.1 C.2.1 hd (by rw [ex]; exact q) hdt ?_
    refine kout ?_ p l0 e R s m args below meth c H locs cells slots mc ms ls C hc hs hl hH hS hz
    by_cases q2 : x < lo
    · rw [if_pos q2] at h; exact h
    · rw [if_neg q2, List.getD_eq_getElem?_getD, List.getElem?_eq_none (by omega)] at h; exact h
  · rw [if_neg (by omega)] at h
    have hj : (x - lo).toNat < Cs.length := by omega
    obtain ⟨o, h1, h2⟩ := kSw_at (D := D) offs.toList Cs _ kin hj
    obtain ⟨tgt, h3, h4⟩ := h2 h
    refine lv_tableIn (off := o) (tgt := tgt) C.1 C.2.1 hd (by rw [ex]; omega) (by rw [ex]; omega) (by rw [ex, ← Array.getElem?_toList]; exact h1) h3 ?_
    exact h4 p l0 e R s m args below meth c H locs cells slots mc ms ls C hc hs hl hH hS hz
end KR6
end
section
/-! rows: copies, static arrays, floating point, new objects -/
def clr (μ : Mu) (n : Nat) : Mu := fun a k => if a = n then 0 else μ a k
theorem kW_push {X : kX} {μ : Mu} {sk : List Kd} {kd : Kd} : kW X sk μ ++ [(X.1 + sk.length, kE X (fun _ => 0) kd)] = kW X (sk ++ [kd]) (clr μ sk.length) := by
  refine kW_ext fun j => ?_
  by_cases h : j < sk.length
  · rw [List.getElem?_append_left (by rw [kW_len]; exact h), List.getElem?_append_left h, kWf_get]
    have : clr μ sk.length j = μ j := by funext q; unfold clr; rw [if_neg (by omega)]
    simp [this]
  · by_cases e : j = sk.length
    · subst e
      rw [List.getElem?_append_right (by rw [kW_len]; exact Nat.le_refl _), List.getElem?_append_right (Nat.le_refl _), kW_len]
      have : clr μ sk.length sk.length = fun _ => 0 := by funext q; unfold clr; rw [if_pos rfl]
      simp [this]
    · rw [List.getElem?_eq_none (by rw [List.length_append, kW_len]; simp; omega), List.getElem?_eq_none (by simp; omega)]; rfl
/-- the address of a new cell -/
theorem k_newat {X : kX} {sk : List Kd} {μ : Mu} {e : va_E} {q : Nat} {D : va_G} {H1 : Heap} (hP : va_P D kCl (kW X sk μ ++ [(q, e)]) H1) (hD : va_D (kFree X) (kW X sk μ ++ [(q, e)])) (hz : H1.size ≤ X.1 + sk.length + 1) : q = X.1 + sk.length := by
  have h0 : (kW X sk μ ++ [(q, e)])[sk.length]? = some (q, e) := by
    rw [List.getElem?_append_right (by rw [kW_len]; exact Nat.le_refl _), kW_len]; simp
  have h1 : q < H1.size := (hP _ _ h0).lt
  have h2 : X.1 ≤ q := hD.2 _ _ h0
  refine Classical.byContradiction fun hne => ?_
  have h3 : q - X.1 < sk.length := by omega
  have h4 : (kW X sk μ ++ [(q, e)])[q - X.1]? = some (X.1 + (q - X.1), kE X (μ (q - X.1)) sk[q - X.1]) := by
    rw [List.getElem?_append_left (by rw [kW_len]; exact h3)]
    exact kW_get (List.getElem?_eq_getElem h3)
  have h5 := hD.1 _ _ _ _ h0 h4 (by show q = X.1 + (q - X.1); omega)
  omega
theorem kW_ch {X : kX} {μ μ' : Mu} {sk : List Kd} {a : Nat} {kd : Kd} (h : sk[a]? = some kd) (ho : ∀ j, j ≠ a → μ' j = μ j) : (kW X sk μ).set a (X.1 + a, kE X (μ' a) kd) = kW X sk μ' := by
  refine kW_ext fun j => ?_
  rw [List.getElem?_set]
  have hl : a < (kW X sk μ).length := by rw [kW_len]; exact (List.getElem?_eq_some_iff.mp h).1
  by_cases e : a = j
  · subst e
    rw [if_pos rfl, if_pos hl, h]; rfl
  · rw [if_neg e, kWf_get]
    simp [ho j (fun z => e z.symm)]
section KR7
variable {X : kX} {md : kM} {d : Nat} {ex : Bool} {po : kPo} {sk : List Kd} {cr sr pc : Nat} {l : List (Nat × Value)} {st : List Value} {μ : Mu} {res : Res} {x y : Int} {a n ci k idx b a0 n0 n1 : Nat} {rf rf0 : Nat → Option Nat}
theorem K_copy {r : Res} {k0 : Mu → Option Res} {w : Int} (hd : decode md.2.1 pc = .ok (.invokestatic idx, 3)) (h1 : Cond.methodLink md.1.cls idx arraycopyName ∈ kG) (h2 : Cond.native arraycopyName ∈ kG) (h3 : Cond.static arraycopyName ∈ kG) (h4 : Cond.initialized "java/lang/System" ∈ kG) (hsk0 : sk[a0]? = some (.inl (0, n0, rf0))) (hsk : sk[a]? = some (.inl (0, n1, rf))) (hst : (st.map fun v => v.category).sum ≤ 8) (h : cpyI μ a0 n0 x a n1 y w k0 = some r) (k : k0 (cpM μ a0 x.toNat a y.toNat w.toNat) = some r → KJ X md d ex po sk cr sr (pc + 3) l (st) (cpM μ a0 x.toNat a y.toNat w.toNat)) : KJ X md d ex po sk cr sr (pc) l (.int (iI w) :: .int (iI y) :: .ref (X.1 + a) :: .int (iI x) :: .ref (X.1 + a0) :: st) μ := by
  intro p l0 e R s m args below meth c H locs cells slots mc ms ls C hc hs hl hH hS hz
  have C' := C
  obtain ⟨c1, c2, c3, c4, c5, c6, c7, c8, c9, ⟨r1, r2, r3, r4⟩, c11, c12, c13⟩ := C'
  obtain ⟨⟨⟨g1, g1'⟩, ⟨g2, g2'⟩, ⟨g3, g3'⟩, g4, g5⟩, h⟩ := og h
  have e9 : ∀ v : Int, 0 ≤ v → v < 2147483648 → ¬ iI v < 0 ∧ (iI v).toNatClampNeg = v.toNat := by
    intro v h0 hv
    obtain ⟨j, rfl⟩ : ∃ j : Nat, v = j := ⟨v.toNat, by omega⟩
    exact ⟨nI_pos (by omega), by rw [show iI (j : Int) = nI j from rfl, nI_clamp (by omega)]; rfl⟩
  have ex9 := e9 x g1 g1'
  have ey := e9 y g2 g2'
  have ew := e9 w g3 g3'
  refine va_copyi c1 c2 (by rw [c3]; exact hl.1.symm) c6 (c8 _ h1) (c8 _ h2) (c8 _ h3) (c8 _ h4) c9.1 hH.1 kW_D (va_S_at hS) a0 a 0 0 (c0 := X.2.2 0) (c1 := X.2.2 0) (n0 := n0) (n1 := n1) (f := fun j => iI (μ a0 j)) (g := fun j => iI (μ a j)) (kW_get hsk0) (kW_get hsk) rfl rfl rfl ex9.1 ey.1 ew.1 (by rw [ex9.2, ew.2]; omega) (by rw [ey.2, ew.2]; omega) (fun i _ => rfl) (by omega) (by have hw : nativeFrameWords "java/lang/System" "arraycopy" 5 ≤ 40 := (by decide); omega) hd ?_
  intro H1 locs1 g1 g2 g3
  rw [ex9.2, ey.2, ew.2] at g1
  rw [show (Sum.inl (X.2.2 0, n1, .inl (va_cpy (fun j => iI (μ a0 j)) (fun j => iI (μ a j)) x.toNat y.toNat w.toNat)) : va_E) = kE X (cpM μ a0 x.toNat a y.toNat w.toNat a) (.inl (0, n1, rf)) by
    have e9 : va_cpy (fun j => iI (μ a0 j)) (fun j => iI (μ a j)) x.toNat y.toNat w.toNat = fun j => iI (cpM μ a0 x.toNat a y.toNat w.toNat a j) := by
      funext j
      unfold va_cpy cpM
      by_cases q : y.toNat ≤ j ∧ j < y.toNat + w.toNat
      · rw [if_pos q, if_pos ⟨rfl, q⟩]
      · rw [if_neg q, if_neg (fun z => q z.2)]
    rw [e9]; rfl] at g1
  rw [show (kW X sk μ).set a (X.1 + a, kE X (cpM μ a0 x.toNat a y.toNat w.toNat a) (.inl (0, n1, rf))) = kW X sk (cpM μ a0 x.toNat a y.toNat w.toNat) from kW_ch hsk (fun j hj => by funext q; unfold cpM; rw [if_neg (fun z => hj z.1)])] at g1
  refine W_sized (fun hz1 => ?_)
  exact k h p l0 e R s m args below meth c H1 locs1 cells slots mc ms ls C hc hs hl ⟨g1, fun q => by have a1 := hH.2 q; have a2 := hz q; have a3 := g3.1; omega⟩ (va_S_tr hS g3) (fun q => by have a2 := hz q; have a3 := g3.1; omega)
theorem K_least {r : Res} {k0 : Int → Option Res} {i : Fin 4} (j0 : Nat) (hd : decode md.2.1 pc = .ok (.getstatic idx, 3)) (hl0 : Cond.fieldLink md.1.cls idx "ExamMarker" "LEAST_SETTINGS" "[I" ∈ kG) (hd2 : decode md.2.1 (pc + 3) = .ok (.iload_n i, 1)) (hj : l[j0]? = some ((i : Nat), .int (iI x))) (hd3 : decode md.2.1 (pc + 3 + 1) = .ok (.iaload, 1)) (h : rdC 5 x (fun j => (if j = 1 then 1 else 0)) k0 = some r) (k : k0 ((fun j : Nat => ((if j = 1 then 1 else 0) : Int)) x.toNat) = some r → KJ X md d ex po sk cr sr (pc + 3 + 1 + 1) l (.int (iI ((fun j : Nat => ((if j = 1 then 1 else 0) : Int)) x.toNat)) :: st) μ) : KJ X md d ex po sk cr sr (pc) l (st) μ := by
  intro p l0 e R s m args below meth c H locs cells slots mc ms ls C hc hs hl hH hS hz
  have C' := C
  obtain ⟨c1, c2, c3, c4, c5, c6, c7, c8, c9, ⟨r1, r2, r3, r4⟩, c11, c12, c13⟩ := C'
  obtain ⟨⟨g1, g2⟩, h⟩ := og h
  obtain ⟨i1, i2⟩ := in_iI g1 g2 (by decide)
  obtain ⟨t, hZ, hT⟩ := c9.2.2.2.2.2.2.2.1
  refine va_gets c1 c2 hZ hS c6 (c8 _ hl0) (fun _ h => h) hd ?_
  refine lv_iload_n c1 c2 hd2 rfl (lv_at hl j0 hj) ?_
  refine va_ti c1 c2 hT hS i1 (v := .int (iI ((fun j : Nat => ((if j = 1 then 1 else 0) : Int)) x.toNat))) (by rw [i2]) hd3 ?_
  exact k h p l0 e R s m args below meth c H locs cells slots mc ms ls C hc hs hl hH hS hz
theorem K_great {r : Res} {k0 : Int → Option Res} {i : Fin 4} (j0 : Nat) (hd : decode md.2.1 pc = .ok (.getstatic idx, 3)) (hl0 : Cond.fieldLink md.1.cls idx "ExamMarker" "GREATEST_SETTINGS" "[I" ∈ kG) (hd2 : decode md.2.1 (pc + 3) = .ok (.iload_n i, 1)) (hj : l[j0]? = some ((i : Nat), .int (iI x))) (hd3 : decode md.2.1 (pc + 3 + 1) = .ok (.iaload, 1)) (h : rdC 5 x (fun j => (if j = 0 then 5 else if j = 1 then 40 else if j = 2 then 10 else if j = 3 then 5 else 99)) k0 = some r) (k : k0 ((fun j : Nat => ((if j = 0 then 5 else if j = 1 then 40 else if j = 2 then 10 else if j = 3 then 5 else 99) : Int)) x.toNat) = some r → KJ X md d ex po sk cr sr (pc + 3 + 1 + 1) l (.int (iI ((fun j : Nat => ((if j = 0 then 5 else if j = 1 then 40 else if j = 2 then 10 else if j = 3 then 5 else 99) : Int)) x.toNat)) :: st) μ) : KJ X md d ex po sk cr sr (pc) l (st) μ := by
  intro p l0 e R s m args below meth c H locs cells slots mc ms ls C hc hs hl hH hS hz
  have C' := C
  obtain ⟨c1, c2, c3, c4, c5, c6, c7, c8, c9, ⟨r1, r2, r3, r4⟩, c11, c12, c13⟩ := C'
  obtain ⟨⟨g1, g2⟩, h⟩ := og h
  obtain ⟨i1, i2⟩ := in_iI g1 g2 (by decide)
  obtain ⟨t, hZ, hT⟩ := c9.2.2.2.2.2.2.2.2.1
  refine va_gets c1 c2 hZ hS c6 (c8 _ hl0) (fun _ h => h) hd ?_
  refine lv_iload_n c1 c2 hd2 rfl (lv_at hl j0 hj) ?_
  refine va_ti c1 c2 hT hS i1 (v := .int (iI ((fun j : Nat => ((if j = 0 then 5 else if j = 1 then 40 else if j = 2 then 10 else if j = 3 then 5 else 99) : Int)) x.toNat))) (by rw [i2]) hd3 ?_
  exact k h p l0 e R s m args below meth c H locs cells slots mc ms ls C hc hs hl hH hS hz
theorem K_lcmp_lt {r : Res} {A B : Option Res} {off : Int} {tgt : Nat} (hd : decode md.2.1 pc = .ok (.lcmp, 1)) (hd2 : decode md.2.1 (pc + 1) = .ok (.ifCond .lt off, 3)) (ht : ((pc + 1 : Nat) : Int) + off = (tgt : Int)) (h : l_lt x y A B = some r) (kt : A = some r → KJ X md d ex po sk cr sr (tgt) l (st) μ) (kf : B = some r → KJ X md d ex po sk cr sr (pc + 1 + 3) l (st) μ) : KJ X md d ex po sk cr sr (pc) l (.long (iL y) :: .long (iL x) :: st) μ := by
  intro p l0 e R s m args below meth c H locs cells slots mc ms ls C hc hs hl hH hS hz
  obtain ⟨⟨g1, g2⟩, h⟩ := og h
  have e9 : lg_cmp (iL x) (iL y) = iI (if y < x then 1 else if x = y then 0 else -1) := by
    unfold lg_cmp
    by_cases q : y < x
    · rw [if_pos q, if_pos (show iL x > iL y from (iL_lt g2 g1).mpr q)]; rfl
    · rw [if_neg q, if_neg (fun z : iL x > iL y => q ((iL_lt g2 g1).mp z))]
      by_cases q2 : x = y
      · rw [if_pos q2, if_pos (by rw [q2])]; rfl
      · rw [if_neg q2, if_neg (fun z => q2 ((iL_eq g1 g2).mp z))]; rfl
  refine W.lcmp C.1 C.2.1 hd ?_
  rw [e9]
  have gz : gI (if y < x then 1 else if x = y then 0 else -1) := by unfold gI; (split <;> (try split)) <;> omega
  refine lv_if_lt C.1 C.2.1 hd2 ht (fun q => ?_) (fun q => ?_)
  · rw [← iI_0] at q; have q2 : (if y < x then 1 else if x = y then 0 else -1 : Int) < 0 := (iI_lt gz gI_0).mp q
    have q3 : x < y := by revert q2; (split <;> (try split)) <;> omega
    rw [if_pos (by omega)] at h
    exact kt h p l0 e R s m args below meth c H locs cells slots mc ms ls C hc hs hl hH hS hz
  · rw [← iI_0] at q; have q2 : ¬ ((if y < x then 1 else if x = y then 0 else -1 : Int) < 0) := fun z => q ((iI_lt gz gI_0).mpr z)
    have q3 : ¬ (x < y) := by revert q2; (split <;> (try split)) <;> omega
    rw [if_neg (by omega)] at h
    exact kf h p l0 e R s m args below meth c H locs cells slots mc ms ls C hc hs hl hH hS hz
theorem K_lcmp_ge {r : Res} {A B : Option Res} {off : Int} {tgt : Nat} (hd : decode md.2.1 pc = .ok (.lcmp, 1)) (hd2 : decode md.2.1 (pc + 1) = .ok (.ifCond .ge off, 3)) (ht : ((pc + 1 : Nat) : Int) + off = (tgt : Int)) (h : l_lt x y B A = some r) (kt : A = some r → KJ X md d ex po sk cr sr (tgt) l (st) μ) (kf : B = some r → KJ X md d ex po sk cr sr (pc + 1 + 3) l (st) μ) : KJ X md d ex po sk cr sr (pc) l (.long (iL y) :: .long (iL x) :: st) μ := by
  intro p l0 e R s m args below meth c H locs cells slots mc ms ls C hc hs hl hH hS hz
  obtain ⟨⟨g1, g2⟩, h⟩ := og h
  have e9 : lg_cmp (iL x) (iL y) = iI (if y < x then 1 else if x = y then 0 else -1) := by
    unfold lg_cmp
    by_cases q : y < x
    · rw [if_pos q, if_pos (show iL x > iL y from (iL_lt g2 g1).mpr q)]; rfl
    · rw [if_neg q, if_neg (fun z : iL x > iL y => q ((iL_lt g2 g1).mp z))]
      by_cases q2 : x = y
      · rw [if_pos q2, if_pos (by rw [q2])]; rfl
      · rw [if_neg q2, if_neg (fun z => q2 ((iL_eq g1 g2).mp z))]; rfl
  refine W.lcmp C.1 C.2.1 hd ?_
  rw [e9]
  have gz : gI (if y < x then 1 else if x = y then 0 else -1) := by unfold gI; (split <;> (try split)) <;> omega
  refine lv_if_ge C.1 C.2.1 hd2 ht (fun q => ?_) (fun q => ?_)
  · rw [← iI_0] at q; have q2 : 0 ≤ (if y < x then 1 else if x = y then 0 else -1 : Int) := (iI_le gI_0 gz).mp q
    have q3 : y ≤ x := by revert q2; (split <;> (try split)) <;> omega
    rw [if_neg (by omega)] at h
    exact kt h p l0 e R s m args below meth c H locs cells slots mc ms ls C hc hs hl hH hS hz
  · rw [← iI_0] at q; have q2 : ¬ (0 ≤ (if y < x then 1 else if x = y then 0 else -1 : Int)) := fun z => q ((iI_le gI_0 gz).mpr z)
    have q3 : ¬ (y ≤ x) := by revert q2; (split <;> (try split)) <;> omega
    rw [if_pos (by omega)] at h
    exact kf h p l0 e R s m args below meth c H locs cells slots mc ms ls C hc hs hl hH hS hz
theorem K_lcmp_gt {r : Res} {A B : Option Res} {off : Int} {tgt : Nat} (hd : decode md.2.1 pc = .ok (.lcmp, 1)) (hd2 : decode md.2.1 (pc + 1) = .ok (.ifCond .gt off, 3)) (ht : ((pc + 1 : Nat) : Int) + off = (tgt : Int)) (h : l_lt y x A B = some r) (kt : A = some r → KJ X md d ex po sk cr sr (tgt) l (st) μ) (kf : B = some r → KJ X md d ex po sk cr sr (pc + 1 + 3) l (st) μ) : KJ X md d ex po sk cr sr (pc) l (.long (iL y) :: .long (iL x) :: st) μ := by
  intro p l0 e R s m args below meth c H locs cells slots mc ms ls C hc hs hl hH hS hz
  obtain ⟨⟨g1, g2⟩, h⟩ := og h
  have e9 : lg_cmp (iL x) (iL y) = iI (if y < x then 1 else if x = y then 0 else -1) := by
    unfold lg_cmp
    by_cases q : y < x
    · rw [if_pos q, if_pos (show iL x > iL y from (iL_lt g1 g2).mpr q)]; rfl
    · rw [if_neg q, if_neg (fun z : iL x > iL y => q ((iL_lt g1 g2).mp z))]
      by_cases q2 : x = y
      · rw [if_pos q2, if_pos (by rw [q2])]; rfl
      · rw [if_neg q2, if_neg (fun z => q2 ((iL_eq g2 g1).mp z))]; rfl
  refine W.lcmp C.1 C.2.1 hd ?_
  rw [e9]
  have gz : gI (if y < x then 1 else if x = y then 0 else -1) := by unfold gI; (split <;> (try split)) <;> omega
  refine lv_if_gt C.1 C.2.1 hd2 ht (fun q => ?_) (fun q => ?_)
  · rw [← iI_0] at q; have q2 : 0 < (if y < x then 1 else if x = y then 0 else -1 : Int) := (iI_lt gI_0 gz).mp q
    have q3 : y < x := by revert q2; (split <;> (try split)) <;> omega
    rw [if_pos (by omega)] at h
    exact kt h p l0 e R s m args below meth c H locs cells slots mc ms ls C hc hs hl hH hS hz
  · rw [← iI_0] at q; have q2 : ¬ (0 < (if y < x then 1 else if x = y then 0 else -1 : Int)) := fun z => q ((iI_lt gI_0 gz).mpr z)
    have q3 : ¬ (y < x) := by revert q2; (split <;> (try split)) <;> omega
    rw [if_neg (by omega)] at h
    exact kf h p l0 e R s m args below meth c H locs cells slots mc ms ls C hc hs hl hH hS hz
theorem K_lcmp_le {r : Res} {A B : Option Res} {off : Int} {tgt : Nat} (hd : decode md.2.1 pc = .ok (.lcmp, 1)) (hd2 : decode md.2.1 (pc + 1) = .ok (.ifCond .le off, 3)) (ht : ((pc + 1 : Nat) : Int) + off = (tgt : Int)) (h : l_lt y x B A = some r) (kt : A = some r → KJ X md d ex po sk cr sr (tgt) l (st) μ) (kf : B = some r → KJ X md d ex po sk cr sr (pc + 1 + 3) l (st) μ) : KJ X md d ex po sk cr sr (pc) l (.long (iL y) :: .long (iL x) :: st) μ := by
  intro p l0 e R s m args below meth c H locs cells slots mc ms ls C hc hs hl hH hS hz
  obtain ⟨⟨g1, g2⟩, h⟩ := og h
  have e9 : lg_cmp (iL x) (iL y) = iI (if y < x then 1 else if x = y then 0 else -1) := by
    unfold lg_cmp
    by_cases q : y < x
    · rw [if_pos q, if_pos (show iL x > iL y from (iL_lt g1 g2).mpr q)]; rfl
    · rw [if_neg q, if_neg (fun z : iL x > iL y => q ((iL_lt g1 g2).mp z))]
      by_cases q2 : x = y
      · rw [if_pos q2, if_pos (by rw [q2])]; rfl
      · rw [if_neg q2, if_neg (fun z => q2 ((iL_eq g2 g1).mp z))]; rfl
  refine W.lcmp C.1 C.2.1 hd ?_
  rw [e9]
  have gz : gI (if y < x then 1 else if x = y then 0 else -1) := by unfold gI; (split <;> (try split)) <;> omega
  refine lv_if_le C.1 C.2.1 hd2 ht (fun q => ?_) (fun q => ?_)
  · rw [← iI_0] at q; have q2 : (if y < x then 1 else if x = y then 0 else -1 : Int) ≤ 0 := (iI_le gz gI_0).mp q
    have q3 : x ≤ y := by revert q2; (split <;> (try split)) <;> omega
    rw [if_neg (by omega)] at h
    exact kt h p l0 e R s m args below meth c H locs cells slots mc ms ls C hc hs hl hH hS hz
  · rw [← iI_0] at q; have q2 : ¬ ((if y < x then 1 else if x = y then 0 else -1 : Int) ≤ 0) := fun z => q ((iI_le gz gI_0).mpr z)
    have q3 : ¬ (x ≤ y) := by revert q2; (split <;> (try split)) <;> omega
    rw [if_pos (by omega)] at h
    exact kf h p l0 e R s m args below meth c H locs cells slots mc ms ls C hc hs hl hH hS hz
theorem K_lcmp_eq {r : Res} {A B : Option Res} {off : Int} {tgt : Nat} (hd : decode md.2.1 pc = .ok (.lcmp, 1)) (hd2 : decode md.2.1 (pc + 1) = .ok (.ifCond .eq off, 3)) (ht : ((pc + 1 : Nat) : Int) + off = (tgt : Int)) (h : l_eq x y A B = some r) (kt : A = some r → KJ X md d ex po sk cr sr (tgt) l (st) μ) (kf : B = some r → KJ X md d ex po sk cr sr (pc + 1 + 3) l (st) μ) : KJ X md d ex po sk cr sr (pc) l (.long (iL y) :: .long (iL x) :: st) μ := by
  intro p l0 e R s m args below meth c H locs cells slots mc ms ls C hc hs hl hH hS hz
  obtain ⟨⟨g1, g2⟩, h⟩ := og h
  have e9 : lg_cmp (iL x) (iL y) = iI (if y < x then 1 else if x = y then 0 else -1) := by
    unfold lg_cmp
    by_cases q : y < x
    · rw [if_pos q, if_pos (show iL x > iL y from (iL_lt g2 g1).mpr q)]; rfl
    · rw [if_neg q, if_neg (fun z : iL x > iL y => q ((iL_lt g2 g1).mp z))]
      by_cases q2 : x = y
      · rw [if_pos q2, if_pos (by rw [q2])]; rfl
      · rw [if_neg q2, if_neg (fun z => q2 ((iL_eq g1 g2).mp z))]; rfl
  refine W.lcmp C.1 C.2.1 hd ?_
  rw [e9]
  have gz : gI (if y < x then 1 else if x = y then 0 else -1) := by unfold gI; (split <;> (try split)) <;> omega
  refine lv_if_eq C.1 C.2.1 hd2 ht (fun q => ?_) (fun q => ?_)
  · rw [← iI_0] at q; have q2 : (if y < x then 1 else if x = y then 0 else -1 : Int) = 0 := (iI_eq gz gI_0).mp q
    have q3 : x = y := by revert q2; (split <;> (try split)) <;> omega
    rw [if_pos (by omega)] at h
    exact kt h p l0 e R s m args below meth c H locs cells slots mc ms ls C hc hs hl hH hS hz
  · rw [← iI_0] at q; have q2 : ¬ ((if y < x then 1 else if x = y then 0 else -1 : Int) = 0) := fun z => q ((iI_eq gz gI_0).mpr z)
    have q3 : ¬ (x = y) := by revert q2; (split <;> (try split)) <;> omega
    rw [if_neg (by omega)] at h
    exact kf h p l0 e R s m args below meth c H locs cells slots mc ms ls C hc hs hl hH hS hz
theorem K_lcmp_ne {r : Res} {A B : Option Res} {off : Int} {tgt : Nat} (hd : decode md.2.1 pc = .ok (.lcmp, 1)) (hd2 : decode md.2.1 (pc + 1) = .ok (.ifCond .ne off, 3)) (ht : ((pc + 1 : Nat) : Int) + off = (tgt : Int)) (h : l_eq x y B A = some r) (kt : A = some r → KJ X md d ex po sk cr sr (tgt) l (st) μ) (kf : B = some r → KJ X md d ex po sk cr sr (pc + 1 + 3) l (st) μ) : KJ X md d ex po sk cr sr (pc) l (.long (iL y) :: .long (iL x) :: st) μ := by
  intro p l0 e R s m args below meth c H locs cells slots mc ms ls C hc hs hl hH hS hz
  obtain ⟨⟨g1, g2⟩, h⟩ := og h
  have e9 : lg_cmp (iL x) (iL y) = iI (if y < x then 1 else if x = y then 0 else -1) := by
    unfold lg_cmp
    by_cases q : y < x
    · rw [if_pos q, if_pos (show iL x > iL y from (iL_lt g2 g1).mpr q)]; rfl
    · rw [if_neg q, if_neg (fun z : iL x > iL y => q ((iL_lt g2 g1).mp z))]
      by_cases q2 : x = y
      · rw [if_pos q2, if_pos (by rw [q2])]; rfl
      · rw [if_neg q2, if_neg (fun z => q2 ((iL_eq g1 g2).mp z))]; rfl
  refine W.lcmp C.1 C.2.1 hd ?_
  rw [e9]
  have gz : gI (if y < x then 1 else if x = y then 0 else -1) := by unfold gI; (split <;> (try split)) <;> omega
  refine lv_if_ne C.1 C.2.1 hd2 ht (fun q => ?_) (fun q => ?_)
  · rw [← iI_0] at q; have q2 : (if y < x then 1 else if x = y then 0 else -1 : Int) ≠ 0 := fun z => q ((iI_eq gz gI_0).mpr z)
    have q3 : x ≠ y := by revert q2; (split <;> (try split)) <;> omega
    rw [if_neg (by omega)] at h
    exact kt h p l0 e R s m args below meth c H locs cells slots mc ms ls C hc hs hl hH hS hz
  · rw [← iI_0] at q; have q2 : ¬ ((if y < x then 1 else if x = y then 0 else -1 : Int) ≠ 0) := fun z => z ((iI_eq gz gI_0).mp q)
    have q3 : ¬ (x ≠ y) := by revert q2; (split <;> (try split)) <;> omega
    rw [if_pos (by omega)] at h
    exact kf h p l0 e R s m args below meth c H locs cells slots mc ms ls C hc hs hl hH hS hz
theorem K_i2d (hd : decode md.2.1 pc = .ok (.i2d, 1)) (k : KJ X md d ex po sk cr sr (pc + 1) l (.double (FP.i2d (iI x)) :: st) μ) : KJ X md d ex po sk cr sr (pc) l (.int (iI x) :: st) μ := by
  intro p l0 e R s m args below meth c H locs cells slots mc ms ls C hc hs hl hH hS hz
  refine lv_i2d C.1 C.2.1 hd ?_
  exact k p l0 e R s m args below meth c H locs cells slots mc ms ls C hc hs hl hH hS hz
theorem K_i2f (hd : decode md.2.1 pc = .ok (.i2f, 1)) (k : KJ X md d ex po sk cr sr (pc + 1) l (.float (FP.i2f (iI x)) :: st) μ) : KJ X md d ex po sk cr sr (pc) l (.int (iI x) :: st) μ := by
  intro p l0 e R s m args below meth c H locs cells slots mc ms ls C hc hs hl hH hS hz
  refine lv_i2f C.1 C.2.1 hd ?_
  exact k p l0 e R s m args below meth c H locs cells slots mc ms ls C hc hs hl hH hS hz
theorem K_ddiv {u v : UInt64} {r : Res} {k0 : UInt64 → Option Res} (hd : decode md.2.1 pc = .ok (.ddiv, 1)) (h : d_ck (FP.ddiv u v) k0 = some r) (k : k0 (FP.ddiv u v) = some r → KJ X md d ex po sk cr sr (pc + 1) l (.double (FP.ddiv u v) :: st) μ) : KJ X md d ex po sk cr sr (pc) l (.double v :: .double u :: st) μ := by
  intro p l0 e R s m args below meth c H locs cells slots mc ms ls C hc hs hl hH hS hz
  obtain ⟨g, h⟩ := og h
  refine lv_ddiv C.1 C.2.1 hd g ?_
  exact k h p l0 e R s m args below meth c H locs cells slots mc ms ls C hc hs hl hH hS hz
theorem K_dmul {u v : UInt64} {r : Res} {k0 : UInt64 → Option Res} (hd : decode md.2.1 pc = .ok (.dmul, 1)) (h : d_ck (FP.dmul u v) k0 = some r) (k : k0 (FP.dmul u v) = some r → KJ X md d ex po sk cr sr (pc + 1) l (.double (FP.dmul u v) :: st) μ) : KJ X md d ex po sk cr sr (pc) l (.double v :: .double u :: st) μ := by
  intro p l0 e R s m args below meth c H locs cells slots mc ms ls C hc hs hl hH hS hz
  obtain ⟨g, h⟩ := og h
  refine lv_dmul C.1 C.2.1 hd g ?_
  exact k h p l0 e R s m args below meth c H locs cells slots mc ms ls C hc hs hl hH hS hz
theorem K_dsub {u v : UInt64} {r : Res} {k0 : UInt64 → Option Res} (hd : decode md.2.1 pc = .ok (.dsub, 1)) (h : d_ck (FP.dsub u v) k0 = some r) (k : k0 (FP.dsub u v) = some r → KJ X md d ex po sk cr sr (pc + 1) l (.double (FP.dsub u v) :: st) μ) : KJ X md d ex po sk cr sr (pc) l (.double v :: .double u :: st) μ := by
  intro p l0 e R s m args below meth c H locs cells slots mc ms ls C hc hs hl hH hS hz
  obtain ⟨g, h⟩ := og h
  refine lv_dsub C.1 C.2.1 hd g ?_
  exact k h p l0 e R s m args below meth c H locs cells slots mc ms ls C hc hs hl hH hS hz
theorem K_fdiv {u v : UInt32} {r : Res} {k0 : UInt32 → Option Res} (hd : decode md.2.1 pc = .ok (.fdiv, 1)) (h : f_ck (FP.fdiv u v) k0 = some r) (k : k0 (FP.fdiv u v) = some r → KJ X md d ex po sk cr sr (pc + 1) l (.float (FP.fdiv u v) :: st) μ) : KJ X md d ex po sk cr sr (pc) l (.float v :: .float u :: st) μ := by
  intro p l0 e R s m args below meth c H locs cells slots mc ms ls C hc hs hl hH hS hz
  obtain ⟨g, h⟩ := og h
  refine lv_fdiv C.1 C.2.1 hd g ?_
  exact k h p l0 e R s m args below meth c H locs cells slots mc ms ls C hc hs hl hH hS hz
theorem K_f2d {u : UInt32} {r : Res} {k0 : UInt64 → Option Res} (hd : decode md.2.1 pc = .ok (.f2d, 1)) (h : d_ck (FP.f2d u) k0 = some r) (k : k0 (FP.f2d u) = some r → KJ X md d ex po sk cr sr (pc + 1) l (.double (FP.f2d u) :: st) μ) : KJ X md d ex po sk cr sr (pc) l (.float u :: st) μ := by
  intro p l0 e R s m args below meth c H locs cells slots mc ms ls C hc hs hl hH hS hz
  obtain ⟨g, h⟩ := og h
  refine lv_f2d C.1 C.2.1 hd g ?_
  exact k h p l0 e R s m args below meth c H locs cells slots mc ms ls C hc hs hl hH hS hz
theorem K_dcmp {u v : UInt64} {op : CmpOp} (hd : decode md.2.1 pc = .ok (.dcmp op, 1)) (k : KJ X md d ex po sk cr sr (pc + 1) l (.int (iI (dcI op u v)) :: st) μ) : KJ X md d ex po sk cr sr (pc) l (.double v :: .double u :: st) μ := by
  intro p l0 e R s m args below meth c H locs cells slots mc ms ls C hc hs hl hH hS hz
  refine lv_dcmp C.1 C.2.1 hd ?_
  rw [show (_ : Int32) = iI (dcI op u v) from (iI_of _).symm]
  exact k p l0 e R s m args below meth c H locs cells slots mc ms ls C hc hs hl hH hS hz
theorem K_fcmp {u v : UInt32} {op : CmpOp} (hd : decode md.2.1 pc = .ok (.fcmp op, 1)) (k : KJ X md d ex po sk cr sr (pc + 1) l (.int (iI (fcI op u v)) :: st) μ) : KJ X md d ex po sk cr sr (pc) l (.float v :: .float u :: st) μ := by
  intro p l0 e R s m args below meth c H locs cells slots mc ms ls C hc hs hl hH hS hz
  refine lv_fcmp C.1 C.2.1 hd ?_
  rw [show (_ : Int32) = iI (fcI op u v) from (iI_of _).symm]
  exact k p l0 e R s m args below meth c H locs cells slots mc ms ls C hc hs hl hH hS hz
theorem K_d2l {u : UInt64} (hd : decode md.2.1 pc = .ok (.d2l, 1)) (k : KJ X md d ex po sk cr sr (pc + 1) l (.long (iL (FP.d2l u).toInt) :: st) μ) : KJ X md d ex po sk cr sr (pc) l (.double u :: st) μ := by
  intro p l0 e R s m args below meth c H locs cells slots mc ms ls C hc hs hl hH hS hz
  refine lv_d2l C.1 C.2.1 hd ?_
  rw [show (FP.d2l u : Int64) = iL (FP.d2l u).toInt from (iL_of _).symm]
  exact k p l0 e R s m args below meth c H locs cells slots mc ms ls C hc hs hl hH hS hz
theorem K_d2raw {u : UInt64} (hd : decode md.2.1 pc = .ok (.invokestatic idx, 3)) (h1 : Cond.methodLink md.1.cls idx ⟨"java/lang/Double", "doubleToRawLongBits", "(D)J"⟩ ∈ kG) (h2 : Cond.native ⟨"java/lang/Double", "doubleToRawLongBits", "(D)J"⟩ ∈ kG) (h3 : Cond.static ⟨"java/lang/Double", "doubleToRawLongBits", "(D)J"⟩ ∈ kG) (h4 : Cond.initialized "java/lang/Double" ∈ kG) (hst : (st.map fun v => v.category).sum ≤ 8) (k : KJ X md d ex po sk cr sr (pc + 3) l (.long (iL u.toInt64.toInt) :: st) μ) : KJ X md d ex po sk cr sr (pc) l (.double u :: st) μ := by
  intro p l0 e R s m args below meth c H locs cells slots mc ms ls C hc hs hl hH hS hz
  have C' := C
  obtain ⟨c1, c2, c3, c4, c5, c6, c7, c8, c9, ⟨r1, r2, r3, r4⟩, c11, c12, c13⟩ := C'
  refine vn_d2l c1 c2 (by rw [c3]; exact hl.1.symm) c6 (c8 _ h1) (c8 _ h2) (c8 _ h3) (c8 _ h4) (by omega) (by omega) hd ?_
  rw [show (u.toInt64 : Int64) = iL u.toInt64.toInt from (iL_of _).symm]
  exact k p l0 e R s m args below meth c H locs cells slots mc ms ls C hc hs hl hH hS hz
theorem K_f2raw {u : UInt32} (hd : decode md.2.1 pc = .ok (.invokestatic idx, 3)) (h1 : Cond.methodLink md.1.cls idx ⟨"java/lang/Float", "floatToRawIntBits", "(F)I"⟩ ∈ kG) (h2 : Cond.native ⟨"java/lang/Float", "floatToRawIntBits", "(F)I"⟩ ∈ kG) (h3 : Cond.static ⟨"java/lang/Float", "floatToRawIntBits", "(F)I"⟩ ∈ kG) (h4 : Cond.initialized "java/lang/Float" ∈ kG) (hst : (st.map fun v => v.category).sum ≤ 8) (k : KJ X md d ex po sk cr sr (pc + 3) l (.int (iI u.toInt32.toInt) :: st) μ) : KJ X md d ex po sk cr sr (pc) l (.float u :: st) μ := by
  intro p l0 e R s m args below meth c H locs cells slots mc ms ls C hc hs hl hH hS hz
  have C' := C
  obtain ⟨c1, c2, c3, c4, c5, c6, c7, c8, c9, ⟨r1, r2, r3, r4⟩, c11, c12, c13⟩ := C'
  refine vn_f2i c1 c2 (by rw [c3]; exact hl.1.symm) c6 (c8 _ h1) (c8 _ h2) (c8 _ h3) (c8 _ h4) (by omega) (by omega) hd ?_
  rw [show (u.toInt32 : Int32) = iI u.toInt32.toInt from (iI_of _).symm]
  exact k p l0 e R s m args below meth c H locs cells slots mc ms ls C hc hs hl hH hS hz
end KR7
end
section
/-! the layout of the system; rows over it, in the form that the printed programs use -/
def rfX0 (b : Nat) : Nat → Option Nat := fun k => match k with
  | 0 => some (b + 1)
  | 1 => some (b + 2)
  | 2 => some (b + 3)
  | _ => none
def ksX0 (b : Nat) : List Kd := [.inr (0, rfX0 b), .inl (0, 40, fun _ => none), .inl (0, 40, fun _ => none), .inl (0, 40, fun _ => none)]
def rfX7 (b : Nat) : Nat → Option Nat := fun k => match k with
  | 0 => some (b + 1)
  | 1 => some (b + 2)
  | 2 => some (b + 3)
  | _ => none
def ksX7 (b : Nat) : List Kd := [.inr (7, rfX7 b), .inl (0, 5, fun _ => none), .inl (0, 25, fun _ => none), .inl (0, 100, fun _ => none)]
def rfX3 (b : Nat) : Nat → Option Nat := fun k => match k with
  | 0 => some (b + 1)
  | 1 => some (b + 2)
  | 2 => some (b + 3)
  | 3 => some (b + 4)
  | _ => none
def ksX3 (b : Nat) : List Kd := [.inr (3, rfX3 b), .inl (0, 40, fun _ => none), .inl (0, 120, fun _ => none), .inl (0, 120, fun _ => none), .inl (0, 120, fun _ => none)]
def rfX2 (b : Nat) : Nat → Option Nat := fun k => match k with
  | 0 => some (b + 1)
  | 1 => some (b + 2)
  | _ => none
def ksX2 (b : Nat) : List Kd := [.inr (2, rfX2 b), .inl (0, 5, fun _ => none), .inl (0, 5, fun _ => none)]
def rfX1 (b : Nat) : Nat → Option Nat := fun k => match k with
  | 0 => some (b + 1)
  | 1 => some (b + 2)
  | 2 => some (b + 3)
  | 3 => some (b + 4)
  | 4 => some (b + 5)
  | 5 => some (b + 6)
  | 6 => some (b + 7)
  | 7 => some (b + 11)
  | 8 => some (b + 16)
  | 9 => some (b + 19)
  | 11 => some (b + 23)
  | _ => none
def ksX1 (b : Nat) : List Kd := [.inr (1, rfX1 b), .inl (0, 5, fun _ => none), .inl (0, 5, fun _ => none), .inl (0, 4, fun _ => none), .inl (0, 8, fun _ => none), .inl (0, 8, fun _ => none), .inl (0, 4, fun _ => none), .inr (7, rfX7 (b + 7)), .inl (0, 5, fun _ => none), .inl (0, 25, fun _ => none), .inl (0, 100, fun _ => none), .inr (3, rfX3 (b + 11)), .inl (0, 40, fun _ => none), .inl (0, 120, fun _ => none), .inl (0, 120, fun _ => none), .inl (0, 120, fun _ => none), .inr (2, rfX2 (b + 16)), .inl (0, 5, fun _ => none), .inl (0, 5, fun _ => none), .inr (0, rfX0 (b + 19)), .inl (0, 40, fun _ => none), .inl (0, 40, fun _ => none), .inl (0, 40, fun _ => none), .inl (0, 3, fun _ => none)]
def rfX5 (b : Nat) : Nat → Option Nat := fun k => match k with
  | 0 => some (b + 1)
  | _ => none
def ksX5 (b : Nat) : List Kd := [.inr (5, rfX5 b), .inl (0, 5, fun _ => none)]
def rfX4 : Nat → Option Nat := fun k => match k with
  | 0 => some 74
  | _ => none
def rfX6 : Nat → Option Nat := fun k => match k with
  | 0 => some 224
  | 1 => some 225
  | _ => none
def rfX8 : Nat → Option Nat := fun k => match k with
  | 0 => some 220
  | 7 => some 221
  | 8 => some 222
  | _ => none
def rfX9 : Nat → Option Nat := fun k => match k with
  | 0 => some 228
  | 1 => some 229
  | 2 => some 230
  | 3 => some 231
  | _ => none
def rfX10 : Nat → Option Nat := fun k => match k with
  | 0 => some 1
  | 1 => some 25
  | 2 => some 49
  | 4 => some 73
  | 5 => some 219
  | 6 => some 223
  | 7 => some 226
  | 8 => some 227
  | _ => none
def rfX11 : Nat → Option Nat := fun k => match k with
  | 1 => some 249
  | 2 => some 250
  | 3 => some 251
  | 4 => some 252
  | 7 => some 253
  | 10 => some 254
  | 12 => some 255
  | 14 => some 256
  | 25 => some 257
  | 26 => some 258
  | 27 => some 259
  | _ => none
def SK : List Kd := [.inr (10, rfX10),
  .inr (1, rfX1 1),
  .inl (0, 5, fun _ => none),
  .inl (0, 5, fun _ => none),
  .inl (0, 4, fun _ => none),
  .inl (0, 8, fun _ => none),
  .inl (0, 8, fun _ => none),
  .inl (0, 4, fun _ => none),
  .inr (7, rfX7 8),
  .inl (0, 5, fun _ => none),
  .inl (0, 25, fun _ => none),
  .inl (0, 100, fun _ => none),
  .inr (3, rfX3 12),
  .inl (0, 40, fun _ => none),
  .inl (0, 120, fun _ => none),
  .inl (0, 120, fun _ => none),
  .inl (0, 120, fun _ => none),
  .inr (2, rfX2 17),
  .inl (0, 5, fun _ => none),
  .inl (0, 5, fun _ => none),
  .inr (0, rfX0 20),
  .inl (0, 40, fun _ => none),
  .inl (0, 40, fun _ => none),
  .inl (0, 40, fun _ => none),
  .inl (0, 3, fun _ => none),
  .inr (1, rfX1 25),
  .inl (0, 5, fun _ => none),
  .inl (0, 5, fun _ => none),
  .inl (0, 4, fun _ => none),
  .inl (0, 8, fun _ => none),
  .inl (0, 8, fun _ => none),
  .inl (0, 4, fun _ => none),
  .inr (7, rfX7 32),
  .inl (0, 5, fun _ => none),
  .inl (0, 25, fun _ => none),
  .inl (0, 100, fun _ => none),
  .inr (3, rfX3 36),
  .inl (0, 40, fun _ => none),
  .inl (0, 120, fun _ => none),
  .inl (0, 120, fun _ => none),
  .inl (0, 120, fun _ => none),
  .inr (2, rfX2 41),
  .inl (0, 5, fun _ => none),
  .inl (0, 5, fun _ => none),
  .inr (0, rfX0 44),
  .inl (0, 40, fun _ => none),
  .inl (0, 40, fun _ => none),
  .inl (0, 40, fun _ => none),
  .inl (0, 3, fun _ => none),
  .inr (1, rfX1 49),
  .inl (0, 5, fun _ => none),
  .inl (0, 5, fun _ => none),
  .inl (0, 4, fun _ => none),
  .inl (0, 8, fun _ => none),
  .inl (0, 8, fun _ => none),
  .inl (0, 4, fun _ => none),
  .inr (7, rfX7 56),
  .inl (0, 5, fun _ => none),
  .inl (0, 25, fun _ => none),
  .inl (0, 100, fun _ => none),
  .inr (3, rfX3 60),
  .inl (0, 40, fun _ => none),
  .inl (0, 120, fun _ => none),
  .inl (0, 120, fun _ => none),
  .inl (0, 120, fun _ => none),
  .inr (2, rfX2 65),
  .inl (0, 5, fun _ => none),
  .inl (0, 5, fun _ => none),
  .inr (0, rfX0 68),
  .inl (0, 40, fun _ => none),
  .inl (0, 40, fun _ => none),
  .inl (0, 40, fun _ => none),
  .inl (0, 3, fun _ => none),
  .inr (4, rfX4),
  .inl (3, 6, fun j => some (75 + 24 * j)),
  .inr (1, rfX1 75),
  .inl (0, 5, fun _ => none),
  .inl (0, 5, fun _ => none),
  .inl (0, 4, fun _ => none),
  .inl (0, 8, fun _ => none),
  .inl (0, 8, fun _ => none),
  .inl (0, 4, fun _ => none),
  .inr (7, rfX7 82),
  .inl (0, 5, fun _ => none),
  .inl (0, 25, fun _ => none),
  .inl (0, 100, fun _ => none),
  .inr (3, rfX3 86),
  .inl (0, 40, fun _ => none),
  .inl (0, 120, fun _ => none),
  .inl (0, 120, fun _ => none),
  .inl (0, 120, fun _ => none),
  .inr (2, rfX2 91),
  .inl (0, 5, fun _ => none),
  .inl (0, 5, fun _ => none),
  .inr (0, rfX0 94),
  .inl (0, 40, fun _ => none),
  .inl (0, 40, fun _ => none),
  .inl (0, 40, fun _ => none),
  .inl (0, 3, fun _ => none),
  .inr (1, rfX1 99),
  .inl (0, 5, fun _ => none),
  .inl (0, 5, fun _ => none),
  .inl (0, 4, fun _ => none),
  .inl (0, 8, fun _ => none),
  .inl (0, 8, fun _ => none),
  .inl (0, 4, fun _ => none),
  .inr (7, rfX7 106),
  .inl (0, 5, fun _ => none),
  .inl (0, 25, fun _ => none),
  .inl (0, 100, fun _ => none),
  .inr (3, rfX3 110),
  .inl (0, 40, fun _ => none),
  .inl (0, 120, fun _ => none),
  .inl (0, 120, fun _ => none),
  .inl (0, 120, fun _ => none),
  .inr (2, rfX2 115),
  .inl (0, 5, fun _ => none),
  .inl (0, 5, fun _ => none),
  .inr (0, rfX0 118),
  .inl (0, 40, fun _ => none),
  .inl (0, 40, fun _ => none),
  .inl (0, 40, fun _ => none),
  .inl (0, 3, fun _ => none),
  .inr (1, rfX1 123),
  .inl (0, 5, fun _ => none),
  .inl (0, 5, fun _ => none),
  .inl (0, 4, fun _ => none),
  .inl (0, 8, fun _ => none),
  .inl (0, 8, fun _ => none),
  .inl (0, 4, fun _ => none),
  .inr (7, rfX7 130),
  .inl (0, 5, fun _ => none),
  .inl (0, 25, fun _ => none),
  .inl (0, 100, fun _ => none),
  .inr (3, rfX3 134),
  .inl (0, 40, fun _ => none),
  .inl (0, 120, fun _ => none),
  .inl (0, 120, fun _ => none),
  .inl (0, 120, fun _ => none),
  .inr (2, rfX2 139),
  .inl (0, 5, fun _ => none),
  .inl (0, 5, fun _ => none),
  .inr (0, rfX0 142),
  .inl (0, 40, fun _ => none),
  .inl (0, 40, fun _ => none),
  .inl (0, 40, fun _ => none),
  .inl (0, 3, fun _ => none),
  .inr (1, rfX1 147),
  .inl (0, 5, fun _ => none),
  .inl (0, 5, fun _ => none),
  .inl (0, 4, fun _ => none),
  .inl (0, 8, fun _ => none),
  .inl (0, 8, fun _ => none),
  .inl (0, 4, fun _ => none),
  .inr (7, rfX7 154),
  .inl (0, 5, fun _ => none),
  .inl (0, 25, fun _ => none),
  .inl (0, 100, fun _ => none),
  .inr (3, rfX3 158),
  .inl (0, 40, fun _ => none),
  .inl (0, 120, fun _ => none),
  .inl (0, 120, fun _ => none),
  .inl (0, 120, fun _ => none),
  .inr (2, rfX2 163),
  .inl (0, 5, fun _ => none),
  .inl (0, 5, fun _ => none),
  .inr (0, rfX0 166),
  .inl (0, 40, fun _ => none),
  .inl (0, 40, fun _ => none),
  .inl (0, 40, fun _ => none),
  .inl (0, 3, fun _ => none),
  .inr (1, rfX1 171),
  .inl (0, 5, fun _ => none),
  .inl (0, 5, fun _ => none),
  .inl (0, 4, fun _ => none),
  .inl (0, 8, fun _ => none),
  .inl (0, 8, fun _ => none),
  .inl (0, 4, fun _ => none),
  .inr (7, rfX7 178),
  .inl (0, 5, fun _ => none),
  .inl (0, 25, fun _ => none),
  .inl (0, 100, fun _ => none),
  .inr (3, rfX3 182),
  .inl (0, 40, fun _ => none),
  .inl (0, 120, fun _ => none),
  .inl (0, 120, fun _ => none),
  .inl (0, 120, fun _ => none),
  .inr (2, rfX2 187),
  .inl (0, 5, fun _ => none),
  .inl (0, 5, fun _ => none),
  .inr (0, rfX0 190),
  .inl (0, 40, fun _ => none),
  .inl (0, 40, fun _ => none),
  .inl (0, 40, fun _ => none),
  .inl (0, 3, fun _ => none),
  .inr (1, rfX1 195),
  .inl (0, 5, fun _ => none),
  .inl (0, 5, fun _ => none),
  .inl (0, 4, fun _ => none),
  .inl (0, 8, fun _ => none),
  .inl (0, 8, fun _ => none),
  .inl (0, 4, fun _ => none),
  .inr (7, rfX7 202),
  .inl (0, 5, fun _ => none),
  .inl (0, 25, fun _ => none),
  .inl (0, 100, fun _ => none),
  .inr (3, rfX3 206),
  .inl (0, 40, fun _ => none),
  .inl (0, 120, fun _ => none),
  .inl (0, 120, fun _ => none),
  .inl (0, 120, fun _ => none),
  .inr (2, rfX2 211),
  .inl (0, 5, fun _ => none),
  .inl (0, 5, fun _ => none),
  .inr (0, rfX0 214),
  .inl (0, 40, fun _ => none),
  .inl (0, 40, fun _ => none),
  .inl (0, 40, fun _ => none),
  .inl (0, 3, fun _ => none),
  .inr (8, rfX8),
  .inl (1, 60, fun _ => none),
  .inl (0, 20, fun _ => none),
  .inl (0, 20, fun _ => none),
  .inr (6, rfX6),
  .inl (0, 2, fun _ => none),
  .inl (0, 2, fun _ => none),
  .inl (4, 8, fun j => some (232 + 2 * j)),
  .inr (9, rfX9),
  .inl (0, 5, fun _ => none),
  .inl (0, 5, fun _ => none),
  .inl (0, 5, fun _ => none),
  .inl (0, 5, fun _ => none),
  .inr (5, rfX5 232),
  .inl (0, 5, fun _ => none),
  .inr (5, rfX5 234),
  .inl (0, 5, fun _ => none),
  .inr (5, rfX5 236),
  .inl (0, 5, fun _ => none),
  .inr (5, rfX5 238),
  .inl (0, 5, fun _ => none),
  .inr (5, rfX5 240),
  .inl (0, 5, fun _ => none),
  .inr (5, rfX5 242),
  .inl (0, 5, fun _ => none),
  .inr (5, rfX5 244),
  .inl (0, 5, fun _ => none),
  .inr (5, rfX5 246),
  .inl (0, 5, fun _ => none),
  .inr (11, rfX11),
  .inl (0, 779, fun _ => none),
  .inl (0, 779, fun _ => none),
  .inl (0, 779, fun _ => none),
  .inl (0, 4674, fun _ => none),
  .inl (0, 60, fun _ => none),
  .inl (0, 4, fun _ => none),
  .inl (0, 3, fun _ => none),
  .inl (0, 5, fun _ => none),
  .inl (0, 8, fun _ => none),
  .inl (2, 8, fun _ => none),
  .inl (2, 8, fun _ => none),
  .inl (2, 1, fun _ => none)]
set_option maxRecDepth 100000 in
theorem sk_0 : SK[0]? = some (.inr (10, rfX10)) := rfl
set_option maxRecDepth 100000 in
theorem sk_73 : SK[73]? = some (.inr (4, rfX4)) := rfl
set_option maxRecDepth 100000 in
theorem sk_74 : SK[74]? = some (.inl (3, 6, fun j => some (75 + 24 * j))) := rfl
set_option maxRecDepth 100000 in
theorem sk_219 : SK[219]? = some (.inr (8, rfX8)) := rfl
set_option maxRecDepth 100000 in
theorem sk_220 : SK[220]? = some (.inl (1, 60, fun _ => none)) := rfl
set_option maxRecDepth 100000 in
theorem sk_221 : SK[221]? = some (.inl (0, 20, fun _ => none)) := rfl
set_option maxRecDepth 100000 in
theorem sk_222 : SK[222]? = some (.inl (0, 20, fun _ => none)) := rfl
set_option maxRecDepth 100000 in
theorem sk_223 : SK[223]? = some (.inr (6, rfX6)) := rfl
set_option maxRecDepth 100000 in
theorem sk_224 : SK[224]? = some (.inl (0, 2, fun _ => none)) := rfl
set_option maxRecDepth 100000 in
theorem sk_225 : SK[225]? = some (.inl (0, 2, fun _ => none)) := rfl
set_option maxRecDepth 100000 in
theorem sk_226 : SK[226]? = some (.inl (4, 8, fun j => some (232 + 2 * j))) := rfl
set_option maxRecDepth 100000 in
theorem sk_227 : SK[227]? = some (.inr (9, rfX9)) := rfl
set_option maxRecDepth 100000 in
theorem sk_228 : SK[228]? = some (.inl (0, 5, fun _ => none)) := rfl
set_option maxRecDepth 100000 in
theorem sk_229 : SK[229]? = some (.inl (0, 5, fun _ => none)) := rfl
set_option maxRecDepth 100000 in
theorem sk_230 : SK[230]? = some (.inl (0, 5, fun _ => none)) := rfl
set_option maxRecDepth 100000 in
theorem sk_231 : SK[231]? = some (.inl (0, 5, fun _ => none)) := rfl
set_option maxRecDepth 100000 in
theorem sk_248 : SK[248]? = some (.inr (11, rfX11)) := rfl
set_option maxRecDepth 100000 in
theorem sk_249 : SK[249]? = some (.inl (0, 779, fun _ => none)) := rfl
set_option maxRecDepth 100000 in
theorem sk_250 : SK[250]? = some (.inl (0, 779, fun _ => none)) := rfl
set_option maxRecDepth 100000 in
theorem sk_251 : SK[251]? = some (.inl (0, 779, fun _ => none)) := rfl
set_option maxRecDepth 100000 in
theorem sk_252 : SK[252]? = some (.inl (0, 4674, fun _ => none)) := rfl
set_option maxRecDepth 100000 in
theorem sk_253 : SK[253]? = some (.inl (0, 60, fun _ => none)) := rfl
set_option maxRecDepth 100000 in
theorem sk_254 : SK[254]? = some (.inl (0, 4, fun _ => none)) := rfl
set_option maxRecDepth 100000 in
theorem sk_255 : SK[255]? = some (.inl (0, 3, fun _ => none)) := rfl
set_option maxRecDepth 100000 in
theorem sk_256 : SK[256]? = some (.inl (0, 5, fun _ => none)) := rfl
set_option maxRecDepth 100000 in
theorem sk_257 : SK[257]? = some (.inl (0, 8, fun _ => none)) := rfl
set_option maxRecDepth 100000 in
theorem sk_258 : SK[258]? = some (.inl (2, 8, fun _ => none)) := rfl
set_option maxRecDepth 100000 in
theorem sk_259 : SK[259]? = some (.inl (2, 8, fun _ => none)) := rfl
set_option maxRecDepth 100000 in
theorem sk_260 : SK[260]? = some (.inl (2, 1, fun _ => none)) := rfl
def Lay (b : Nat) (ks : List Kd) : Prop := ∀ (i : Nat) (kd : Kd), ks[i]? = some kd → SK[b + i]? = some kd
set_option maxRecDepth 100000 in
theorem lay_at {b : Nat} {ks : List Kd} (h : Lay b ks) (i : Nat) {kd : Kd} (hi : ks[i]? = some kd) : SK[b + i]? = some kd := h i kd hi
set_option maxRecDepth 100000 in
theorem lay_0 {b : Nat} {ks : List Kd} (h : Lay b ks) {kd : Kd} (hi : ks[0]? = some kd) : SK[b]? = some kd := h 0 kd hi
set_option maxRecDepth 100000 in
theorem lay_now : Lay 1 (ksX1 1) := fun i kd h => match i, h with
  | 0, h => h
  | 1, h => h
  | 2, h => h
  | 3, h => h
  | 4, h => h
  | 5, h => h
  | 6, h => h
  | 7, h => h
  | 8, h => h
  | 9, h => h
  | 10, h => h
  | 11, h => h
  | 12, h => h
  | 13, h => h
  | 14, h => h
  | 15, h => h
  | 16, h => h
  | 17, h => h
  | 18, h => h
  | 19, h => h
  | 20, h => h
  | 21, h => h
  | 22, h => h
  | 23, h => h
  | i + 24, h => nomatch h
set_option maxRecDepth 100000 in
theorem lay_draft : Lay 25 (ksX1 25) := fun i kd h => match i, h with
  | 0, h => h
  | 1, h => h
  | 2, h => h
  | 3, h => h
  | 4, h => h
  | 5, h => h
  | 6, h => h
  | 7, h => h
  | 8, h => h
  | 9, h => h
  | 10, h => h
  | 11, h => h
  | 12, h => h
  | 13, h => h
  | 14, h => h
  | 15, h => h
  | 16, h => h
  | 17, h => h
  | 18, h => h
  | 19, h => h
  | 20, h => h
  | 21, h => h
  | 22, h => h
  | 23, h => h
  | i + 24, h => nomatch h
set_option maxRecDepth 100000 in
theorem lay_saved : Lay 49 (ksX1 49) := fun i kd h => match i, h with
  | 0, h => h
  | 1, h => h
  | 2, h => h
  | 3, h => h
  | 4, h => h
  | 5, h => h
  | 6, h => h
  | 7, h => h
  | 8, h => h
  | 9, h => h
  | 10, h => h
  | 11, h => h
  | 12, h => h
  | 13, h => h
  | 14, h => h
  | 15, h => h
  | 16, h => h
  | 17, h => h
  | 18, h => h
  | 19, h => h
  | 20, h => h
  | 21, h => h
  | 22, h => h
  | 23, h => h
  | i + 24, h => nomatch h
set_option maxRecDepth 100000 in
theorem lay_past0 : Lay 75 (ksX1 75) := fun i kd h => match i, h with
  | 0, h => h
  | 1, h => h
  | 2, h => h
  | 3, h => h
  | 4, h => h
  | 5, h => h
  | 6, h => h
  | 7, h => h
  | 8, h => h
  | 9, h => h
  | 10, h => h
  | 11, h => h
  | 12, h => h
  | 13, h => h
  | 14, h => h
  | 15, h => h
  | 16, h => h
  | 17, h => h
  | 18, h => h
  | 19, h => h
  | 20, h => h
  | 21, h => h
  | 22, h => h
  | 23, h => h
  | i + 24, h => nomatch h
set_option maxRecDepth 100000 in
theorem lay_past1 : Lay 99 (ksX1 99) := fun i kd h => match i, h with
  | 0, h => h
  | 1, h => h
  | 2, h => h
  | 3, h => h
  | 4, h => h
  | 5, h => h
  | 6, h => h
  | 7, h => h
  | 8, h => h
  | 9, h => h
  | 10, h => h
  | 11, h => h
  | 12, h => h
  | 13, h => h
  | 14, h => h
  | 15, h => h
  | 16, h => h
  | 17, h => h
  | 18, h => h
  | 19, h => h
  | 20, h => h
  | 21, h => h
  | 22, h => h
  | 23, h => h
  | i + 24, h => nomatch h
set_option maxRecDepth 100000 in
theorem lay_past2 : Lay 123 (ksX1 123) := fun i kd h => match i, h with
  | 0, h => h
  | 1, h => h
  | 2, h => h
  | 3, h => h
  | 4, h => h
  | 5, h => h
  | 6, h => h
  | 7, h => h
  | 8, h => h
  | 9, h => h
  | 10, h => h
  | 11, h => h
  | 12, h => h
  | 13, h => h
  | 14, h => h
  | 15, h => h
  | 16, h => h
  | 17, h => h
  | 18, h => h
  | 19, h => h
  | 20, h => h
  | 21, h => h
  | 22, h => h
  | 23, h => h
  | i + 24, h => nomatch h
set_option maxRecDepth 100000 in
theorem lay_past3 : Lay 147 (ksX1 147) := fun i kd h => match i, h with
  | 0, h => h
  | 1, h => h
  | 2, h => h
  | 3, h => h
  | 4, h => h
  | 5, h => h
  | 6, h => h
  | 7, h => h
  | 8, h => h
  | 9, h => h
  | 10, h => h
  | 11, h => h
  | 12, h => h
  | 13, h => h
  | 14, h => h
  | 15, h => h
  | 16, h => h
  | 17, h => h
  | 18, h => h
  | 19, h => h
  | 20, h => h
  | 21, h => h
  | 22, h => h
  | 23, h => h
  | i + 24, h => nomatch h
set_option maxRecDepth 100000 in
theorem lay_past4 : Lay 171 (ksX1 171) := fun i kd h => match i, h with
  | 0, h => h
  | 1, h => h
  | 2, h => h
  | 3, h => h
  | 4, h => h
  | 5, h => h
  | 6, h => h
  | 7, h => h
  | 8, h => h
  | 9, h => h
  | 10, h => h
  | 11, h => h
  | 12, h => h
  | 13, h => h
  | 14, h => h
  | 15, h => h
  | 16, h => h
  | 17, h => h
  | 18, h => h
  | 19, h => h
  | 20, h => h
  | 21, h => h
  | 22, h => h
  | 23, h => h
  | i + 24, h => nomatch h
set_option maxRecDepth 100000 in
theorem lay_past5 : Lay 195 (ksX1 195) := fun i kd h => match i, h with
  | 0, h => h
  | 1, h => h
  | 2, h => h
  | 3, h => h
  | 4, h => h
  | 5, h => h
  | 6, h => h
  | 7, h => h
  | 8, h => h
  | 9, h => h
  | 10, h => h
  | 11, h => h
  | 12, h => h
  | 13, h => h
  | 14, h => h
  | 15, h => h
  | 16, h => h
  | 17, h => h
  | 18, h => h
  | 19, h => h
  | 20, h => h
  | 21, h => h
  | 22, h => h
  | 23, h => h
  | i + 24, h => nomatch h
set_option maxRecDepth 100000 in
theorem lay_past (j : Nat) (h : j < 6) : Lay (75 + 24 * j) (ksX1 (75 + 24 * j)) := match j, h with
  | 0, _ => lay_past0
  | 1, _ => lay_past1
  | 2, _ => lay_past2
  | 3, _ => lay_past3
  | 4, _ => lay_past4
  | 5, _ => lay_past5
set_option maxRecDepth 100000 in
theorem lay_outs (j : Nat) (h : j < 8) : Lay (232 + 2 * j) (ksX5 (232 + 2 * j)) := match j, h with
  | 0, _ => fun i kd h => match i, h with | 0, h => h | 1, h => h | i + 2, h => nomatch h
  | 1, _ => fun i kd h => match i, h with | 0, h => h | 1, h => h | i + 2, h => nomatch h
  | 2, _ => fun i kd h => match i, h with | 0, h => h | 1, h => h | i + 2, h => nomatch h
  | 3, _ => fun i kd h => match i, h with | 0, h => h | 1, h => h | i + 2, h => nomatch h
  | 4, _ => fun i kd h => match i, h with | 0, h => h | 1, h => h | i + 2, h => nomatch h
  | 5, _ => fun i kd h => match i, h with | 0, h => h | 1, h => h | i + 2, h => nomatch h
  | 6, _ => fun i kd h => match i, h with | 0, h => h | 1, h => h | i + 2, h => nomatch h
  | 7, _ => fun i kd h => match i, h with | 0, h => h | 1, h => h | i + 2, h => nomatch h
set_option maxRecDepth 100000 in
theorem lay_seeds {b : Nat} (L : Lay b (ksX1 b)) : Lay (b + 7) (ksX7 (b + 7)) := fun i kd h => match i, h with
  | 0, h => L 7 kd h
  | 1, h => L 8 kd h
  | 2, h => L 9 kd h
  | 3, h => L 10 kd h
  | i + 4, h => nomatch h
set_option maxRecDepth 100000 in
theorem lay_entries {b : Nat} (L : Lay b (ksX1 b)) : Lay (b + 11) (ksX3 (b + 11)) := fun i kd h => match i, h with
  | 0, h => L 11 kd h
  | 1, h => L 12 kd h
  | 2, h => L 13 kd h
  | 3, h => L 14 kd h
  | 4, h => L 15 kd h
  | i + 5, h => nomatch h
set_option maxRecDepth 100000 in
theorem lay_curve {b : Nat} (L : Lay b (ksX1 b)) : Lay (b + 16) (ksX2 (b + 16)) := fun i kd h => match i, h with
  | 0, h => L 16 kd h
  | 1, h => L 17 kd h
  | 2, h => L 18 kd h
  | i + 3, h => nomatch h
set_option maxRecDepth 100000 in
theorem lay_appeals {b : Nat} (L : Lay b (ksX1 b)) : Lay (b + 19) (ksX0 (b + 19)) := fun i kd h => match i, h with
  | 0, h => L 19 kd h
  | 1, h => L 20 kd h
  | 2, h => L 21 kd h
  | 3, h => L 22 kd h
  | i + 4, h => nomatch h
abbrev KK (X : kX) (md : kM) (d rk : Nat) (res : Res) (pc : Nat) (l : List (Nat × Value)) (st : List Value) (μ : Mu) : Prop := KJ X md d false (poR rk SK res) SK (cq res) (6 * cq res) pc l st μ
abbrev Cq (X : kX) (md : kM) (d rk : Nat) (μ : Mu) (args : List Value) (f : Option Res) : Prop := ∀ r : Res, f = some r → Ct X md d SK false μ (cq r) (6 * cq r) args (poR rk SK r)
def bnd {α : Type} (x : Int) (k : Int → Option α) : Option α := k x
def rdF {α : Type} (μ : Mu) (a i : Nat) (k : Int → Option α) : Option α := k (μ a i)
def wrF {α : Type} (μ : Mu) (a i : Nat) (x : Int) (k : Mu → Option α) : Option α := k (up2 μ a i x)
def wrZ {α : Type} (μ : Mu) (a i : Nat) (x : Int) (k : Mu → Option α) : Option α := if x = 0 ∨ x = 1 then k (up2 μ a i x) else none
def wrC {α : Type} (μ : Mu) (a n : Nat) (i x : Int) (k : Mu → Option α) : Option α := if 0 ≤ x ∧ x < 65536 then wrI μ a n i x k else none
def rb (r : Option Res) (k : Mu → Int → Option Res) : Option Res := match r with
  | none => none
  | some (μ, 0, x) => k μ x
  | some (μ, e + 1, _) => some (μ, e + 1, 0)
section KZ
variable {X : kX} {md mdY : kM} {d d' rk rkY : Nat} {res : Res} {pc : Nat} {l : List (Nat × Value)} {st As : List Value} {μ : Mu} {x y : Int} {a n ci k idx b t : Nat} {rf : Nat → Option Nat} {host : String} {fin : Bool}
theorem Z_bnd {k0 : Int → Option Res} (h : bnd x k0 = some res) (kk : ∀ v, k0 v = some res → KK X md d rk res pc l (.int (iI v) :: st) μ) : KK X md d rk res pc l (.int (iI x) :: st) μ := kk x h
theorem Z_bndL {k0 : Int → Option Res} (h : bnd x k0 = some res) (kk : ∀ v, k0 v = some res → KK X md d rk res pc l (.long (iL v) :: st) μ) : KK X md d rk res pc l (.long (iL x) :: st) μ := kk x h
theorem Z_getI {k0 : Int → Option Res} (hd : decode md.2.1 pc = .ok (.getfield idx, 3)) (F : kFL md.1.cls idx ci k fin) (hsk : SK[a]? = some (.inr (ci, rf))) (ht : kTyF ci k = .int ∨ kTyF ci k = .boolean) (h : rdF μ a k k0 = some res) (kk : ∀ v, k0 v = some res → KK X md d rk res (pc + 3) l (.int (iI v) :: st) μ) : KK X md d rk res pc l (.ref (X.1 + a) :: st) μ := K_getI hd F hsk ht (kk _ h)
theorem Z_getL {k0 : Int → Option Res} (hd : decode md.2.1 pc = .ok (.getfield idx, 3)) (F : kFL md.1.cls idx ci k fin) (hsk : SK[a]? = some (.inr (ci, rf))) (ht : kTyF ci k = .long) (h : rdF μ a k k0 = some res) (kk : ∀ v, k0 v = some res → KK X md d rk res (pc + 3) l (.long (iL v) :: st) μ) : KK X md d rk res pc l (.ref (X.1 + a) :: st) μ := K_getL hd F hsk ht (kk _ h)
theorem Z_putI {k0 : Mu → Option Res} (hd : decode md.2.1 pc = .ok (.putfield idx, 3)) (F : kFL md.1.cls idx ci k false) (hsk : SK[a]? = some (.inr (ci, rf))) (ht : kTyF ci k = .int) (h : wrF μ a k x k0 = some res) (kk : ∀ μ', k0 μ' = some res → KK X md d rk res (pc + 3) l st μ') : KK X md d rk res pc l (.int (iI x) :: .ref (X.1 + a) :: st) μ := K_putI hd F hsk ht (kk _ h)
theorem Z_putL {k0 : Mu → Option Res} (hd : decode md.2.1 pc = .ok (.putfield idx, 3)) (F : kFL md.1.cls idx ci k false) (hsk : SK[a]? = some (.inr (ci, rf))) (ht : kTyF ci k = .long) (h : wrF μ a k x k0 = some res) (kk : ∀ μ', k0 μ' = some res → KK X md d rk res (pc + 3) l st μ') : KK X md d rk res pc l (.long (iL x) :: .ref (X.1 + a) :: st) μ := K_putL hd F hsk ht (kk _ h)
theorem Z_putZ {k0 : Mu → Option Res} (hd : decode md.2.1 pc = .ok (.putfield idx, 3)) (F : kFL md.1.cls idx ci k false) (hsk : SK[a]? = some (.inr (ci, rf))) (ht : kTyF ci k = .boolean) (h : wrZ μ a k x k0 = some res) (kk : ∀ μ', k0 μ' = some res → KK X md d rk res (pc + 3) l st μ') : KK X md d rk res pc l (.int (iI x) :: .ref (X.1 + a) :: st) μ := by
  obtain ⟨g, h⟩ := og h
  exact K_putZ hd F hsk ht g (kk _ h)
theorem Z_iald {k0 : Int → Option Res} (hd : decode md.2.1 pc = .ok (.iaload, 1)) (hsk : SK[a]? = some (.inl (0, n, rf))) (hn : n < 2 ^ 31) (h : rdI μ a n x k0 = some res) (kk : ∀ v, k0 v = some res → KK X md d rk res (pc + 1) l (.int (iI v) :: st) μ) : KK X md d rk res pc l (.int (iI x) :: .ref (X.1 + a) :: st) μ := K_iald hd hsk hn h (kk _)
theorem Z_cald {k0 : Int → Option Res} (hd : decode md.2.1 pc = .ok (.caload, 1)) (hsk : SK[a]? = some (.inl (1, n, rf))) (hn : n < 2 ^ 31) (h : rdI μ a n x k0 = some res) (kk : ∀ v, k0 v = some res → KK X md d rk res (pc + 1) l (.int (iI v) :: st) μ) : KK X md d rk res pc l (.int (iI x) :: .ref (X.1 + a) :: st) μ := K_cald hd hsk hn h (kk _)
theorem Z_lald {k0 : Int → Option Res} (hd : decode md.2.1 pc = .ok (.laload, 1)) (hsk : SK[a]? = some (.inl (2, n, rf))) (hn : n < 2 ^ 31) (h : rdI μ a n x k0 = some res) (kk : ∀ v, k0 v = some res → KK X md d rk res (pc + 1) l (.long (iL v) :: st) μ) : KK X md d rk res pc l (.int (iI x) :: .ref (X.1 + a) :: st) μ := K_lald hd hsk hn h (kk _)
theorem Z_iast {k0 : Mu → Option Res} (hd : decode md.2.1 pc = .ok (.iastore, 1)) (hsk : SK[a]? = some (.inl (0, n, rf))) (hn : n < 2 ^ 31) (h : wrI μ a n x y k0 = some res) (kk : ∀ μ', k0 μ' = some res → KK X md d rk res (pc + 1) l st μ') : KK X md d rk res pc l (.int (iI y) :: .int (iI x) :: .ref (X.1 + a) :: st) μ := K_iast hd hsk hn h (kk _)
theorem Z_last {k0 : Mu → Option Res} (hd : decode md.2.1 pc = .ok (.lastore, 1)) (hsk : SK[a]? = some (.inl (2, n, rf))) (hn : n < 2 ^ 31) (h : wrI μ a n x y k0 = some res) (kk : ∀ μ', k0 μ' = some res → KK X md d rk res (pc + 1) l st μ') : KK X md d rk res pc l (.long (iL y) :: .int (iI x) :: .ref (X.1 + a) :: st) μ := K_last hd hsk hn h (kk _)
theorem Z_cast {k0 : Mu → Option Res} (hd : decode md.2.1 pc = .ok (.castore, 1)) (hsk : SK[a]? = some (.inl (1, n, rf))) (hn : n < 2 ^ 31) (h : wrC μ a n x y k0 = some res) (kk : ∀ μ', k0 μ' = some res → KK X md d rk res (pc + 1) l st μ') : KK X md d rk res pc l (.int (iI y) :: .int (iI x) :: .ref (X.1 + a) :: st) μ := by
  obtain ⟨g, h⟩ := og h
  exact K_cast hd hsk hn g h (kk _)
theorem Z_aald {k0 : Nat → Option Res} {f : Nat → Nat} (hd : decode md.2.1 pc = .ok (.aaload, 1)) (hsk : SK[a]? = some (.inl (t, n, fun j => some (f j)))) (ht : t = 3 ∨ t = 4) (hn : n < 2 ^ 31) (h : rdA n x f k0 = some res) (kk : x.toNat < n → k0 (f x.toNat) = some res → KK X md d rk res (pc + 1) l (.ref (X.1 + f x.toNat) :: st) μ) : KK X md d rk res pc l (.int (iI x) :: .ref (X.1 + a) :: st) μ := by
  have g := (og h).1
  exact K_aald hd hsk ht hn (fun _ _ => rfl) h (kk (by omega))
theorem Z_idiv {k0 : Int → Option Res} (hd : decode md.2.1 pc = .ok (.idiv, 1)) (h : i_div x y k0 = some res) (kk : ∀ v, k0 v = some res → KK X md d rk res (pc + 1) l (.int (iI v) :: st) μ) : KK X md d rk res pc l (.int (iI y) :: .int (iI x) :: st) μ := K_idiv hd h (kk _)
theorem Z_irem {k0 : Int → Option Res} (hd : decode md.2.1 pc = .ok (.irem, 1)) (h : i_rem x y k0 = some res) (kk : ∀ v, k0 v = some res → KK X md d rk res (pc + 1) l (.int (iI v) :: st) μ) : KK X md d rk res pc l (.int (iI y) :: .int (iI x) :: st) μ := K_irem hd h (kk _)
theorem Z_ldiv {k0 : Int → Option Res} (hd : decode md.2.1 pc = .ok (.ldiv, 1)) (h : l_div x y k0 = some res) (kk : ∀ v, k0 v = some res → KK X md d rk res (pc + 1) l (.long (iL v) :: st) μ) : KK X md d rk res pc l (.long (iL y) :: .long (iL x) :: st) μ := K_ldiv hd h (kk _)
theorem Z_lrem {k0 : Int → Option Res} (hd : decode md.2.1 pc = .ok (.lrem, 1)) (h : l_rem x y k0 = some res) (kk : ∀ v, k0 v = some res → KK X md d rk res (pc + 1) l (.long (iL v) :: st) μ) : KK X md d rk res pc l (.long (iL y) :: .long (iL x) :: st) μ := K_lrem hd h (kk _)
theorem Z_iret {ty : FieldType} (hd : decode md.2.1 pc = .ok (.ireturn, 1)) (hr : md.2.2.2.1 = some ty) (hty : ty = .int) (hrk : rk = 1) (h : some (μ, 0, x) = some res) : KK X md d rk res pc l [.int (iI x)] μ := by
  cases h; subst hty; subst hrk
  exact K_iret hd hr rfl ⟨rfl, rfl, rfl, rfl⟩
theorem Z_zret (hd : decode md.2.1 pc = .ok (.ireturn, 1)) (hr : md.2.2.2.1 = some .boolean) (hrk : rk = 1) (h : retZ μ x = some res) : KK X md d rk res pc l [.int (iI x)] μ := by
  obtain ⟨g, h⟩ := og h
  cases h; subst hrk
  exact K_iret hd hr (by rcases g with g | g <;> subst g <;> rfl) ⟨rfl, rfl, rfl, rfl⟩
theorem Z_lret (hd : decode md.2.1 pc = .ok (.lreturn, 1)) (hr : md.2.2.2.1 = some .long) (hrk : rk = 2) (h : some (μ, 0, x) = some res) : KK X md d rk res pc l [.long (iL x)] μ := by
  cases h; subst hrk
  exact K_lret hd hr ⟨rfl, rfl, rfl, rfl⟩
theorem Z_vret (hd : decode md.2.1 pc = .ok (.return_, 1)) (hr : md.2.2.2.1 = none) (hrk : rk = 0) (h : some (μ, 0, 0) = some res) : KK X md d rk res pc l [] μ := by
  cases h; subst hrk
  exact K_vret hd hr ⟨rfl, rfl, rfl, rfl⟩
theorem Z_th {ik is ic e0 : Nat} {text : String} (F : kTH md.1.cls ic e0) (hk : Cond.classLink md.1.cls ik (exName e0) ∈ kG) (hstr : (md.1.cls, is, text) ∈ kSR) (htab : md.2.2.2.2 = [])
    (d0 : decode md.2.1 pc = .ok (.new ik, 3)) (d3 : decode md.2.1 (pc + 3) = .ok (.dup, 1)) (d4 : decode md.2.1 (pc + 4) = .ok (.ldc is, 2)) (d6 : decode md.2.1 (pc + 6) = .ok (.invokespecial ic, 3)) (d9 : decode md.2.1 (pc + 9) = .ok (.athrow, 1)) (h : some (μ, e0 + 1, 0) = some res) : KK X md d rk res pc l [] μ := by
  cases h
  exact K_throwS (cr := 0) (sr := 0) F hk hstr htab d0 d3 d4 d6 d9 ⟨rfl, rfl, rfl⟩
theorem Z_thW {ik is ic e0 : Nat} {text : String} (F : kTH md.1.cls ic e0) (hk : Cond.classLink md.1.cls ik (exName e0) ∈ kG) (hstr : (md.1.cls, is, text) ∈ kSR) (htab : md.2.2.2.2 = [])
    (d0 : decode md.2.1 pc = .ok (.new ik, 3)) (d3 : decode md.2.1 (pc + 3) = .ok (.dup, 1)) (d4 : decode md.2.1 (pc + 4) = .ok (.ldc_w is, 3)) (d6 : decode md.2.1 (pc + 7) = .ok (.invokespecial ic, 3)) (d9 : decode md.2.1 (pc + 10) = .ok (.athrow, 1)) (h : some (μ, e0 + 1, 0) = some res) : KK X md d rk res pc l [] μ := by
  cases h
  exact K_throwSW (cr := 0) (sr := 0) F hk hstr htab d0 d3 d4 d6 d9 ⟨rfl, rfl, rfl⟩
theorem Z_callV {fY : Option Res} {k0 : Mu → Int → Option Res} {sv : Int → List Value} (hd : decode md.2.1 pc = .ok (.invokevirtual idx, 3)) (M : kMV md.1.cls idx mdY n ci) (hsk : SK[b]? = some (.inr (ci, rf))) (hn : As.length = n) (hst : (st.map fun v => v.category).sum ≤ 8) (hdd : d' + 1 ≤ d) (htab : md.2.2.2.2 = [])
    (hC : Cq X mdY d' rkY μ (.ref (X.1 + b) :: As) fY) (hsv : ∀ v, (rvO rkY v).toList ++ st = sv v) (h : rb fY k0 = some res) (kk : ∀ μ' v, k0 μ' v = some res → KK X md d rk res (pc + 3) l (sv v) μ') {st1 : List Value} (hs1 : st1 = As.reverse ++ .ref (X.1 + b) :: st) : KK X md d rk res pc l st1 μ := by
  cases fY with
  | none => cases h
  | some r =>
    obtain ⟨μ1, c1, x1⟩ := r
    cases c1 with
    | zero =>
      have hC0 := hC _ rfl
      rw [show cq (μ1, 0, x1) = 0 from rfl, Nat.mul_zero] at hC0
      refine K_callV (mcY := 0) (msY := 0) hd M hsk hn hst hdd htab hC0 (fun q => by cases q) (fun v sk' μ' hp => ?_) (fun e sk' μ' hp => ?_) hs1
      · obtain ⟨rfl, -, rfl, rfl⟩ := hp
        rw [hsv]; exact kk _ _ h
      · obtain ⟨-, q, -⟩ := hp; cases q
    | succ e =>
      cases h
      show KJ X md d false (poR rk SK (μ1, e + 1, 0)) SK (0 + 1) (0 + 6) pc l st1 μ
      have hC0 := hC _ rfl
      rw [show cq (μ1, e + 1, x1) = 1 from rfl, show 6 * 1 = 6 from rfl] at hC0
      refine K_callV (mcY := 1) (msY := 6) (cr := 0) (sr := 0) (po := poR rk SK (μ1, e + 1, 0)) hd M hsk hn hst hdd htab hC0 (fun q => by cases q) (fun v sk' μ' hp => ?_) (fun e sk' μ' hp => ⟨hp.1, hp.2.1, hp.2.2⟩) hs1
      obtain ⟨-, q, -⟩ := hp; cases q
theorem Z_callS {fY : Option Res} {k0 : Mu → Int → Option Res} {sv : Int → List Value} (hd : decode md.2.1 pc = .ok (.invokestatic idx, 3)) (M : kMS md.1.cls idx mdY n) (hn : As.length = n) (hst : (st.map fun v => v.category).sum ≤ 8) (hdd : d' + 1 ≤ d) (htab : md.2.2.2.2 = [])
    (hC : Cq X mdY d' rkY μ As fY) (hsv : ∀ v, (rvO rkY v).toList ++ st = sv v) (h : rb fY k0 = some res) (kk : ∀ μ' v, k0 μ' v = some res → KK X md d rk res (pc + 3) l (sv v) μ') {st1 : List Value} (hs1 : st1 = As.reverse ++ st) : KK X md d rk res pc l st1 μ := by
  cases fY with
  | none => cases h
  | some r =>
    obtain ⟨μ1, c1, x1⟩ := r
    cases c1 with
    | zero =>
      have hC0 := hC _ rfl
      rw [show cq (μ1, 0, x1) = 0 from rfl, Nat.mul_zero] at hC0
      refine K_callS (mcY := 0) (msY := 0) hd M hn hst hdd htab hC0 (fun q => by cases q) (fun v sk' μ' hp => ?_) (fun e sk' μ' hp => ?_) hs1
      · obtain ⟨rfl, -, rfl, rfl⟩ := hp
        rw [hsv]; exact kk _ _ h
      · obtain ⟨-, q, -⟩ := hp; cases q
    | succ e =>
      cases h
      show KJ X md d false (poR rk SK (μ1, e + 1, 0)) SK (0 + 1) (0 + 6) pc l st1 μ
      have hC0 := hC _ rfl
      rw [show cq (μ1, e + 1, x1) = 1 from rfl, show 6 * 1 = 6 from rfl] at hC0
      refine K_callS (mcY := 1) (msY := 6) (cr := 0) (sr := 0) (po := poR rk SK (μ1, e + 1, 0)) hd M hn hst hdd htab hC0 (fun q => by cases q) (fun v sk' μ' hp => ?_) (fun e sk' μ' hp => ⟨hp.1, hp.2.1, hp.2.2⟩) hs1
      obtain ⟨-, q, -⟩ := hp; cases q
/-- a function that never says that it has thrown -/
def nth (f : Option Res) : Prop := ∀ r : Res, f = some r → r.2.1 = 0
theorem Z_callSN {fY : Option Res} {k0 : Mu → Int → Option Res} {sv : Int → List Value} (hd : decode md.2.1 pc = .ok (.invokestatic idx, 3)) (M : kMSN md.1.cls idx mdY n host) (hn : As.length = n) (hst : (st.map fun v => v.category).sum ≤ 8) (hdd : d' + 1 ≤ d)
    (hC : Cq X mdY d' rkY μ As fY) (hno : nth fY) (hsv : ∀ v, (rvO rkY v).toList ++ st = sv v) (h : rb fY k0 = some res) (kk : ∀ μ' v, k0 μ' v = some res → KK X md d rk res (pc + 3) l (sv v) μ') {st1 : List Value} (hs1 : st1 = As.reverse ++ st) : KK X md d rk res pc l st1 μ := by
  cases fY with
  | none => cases h
  | some r =>
    obtain ⟨μ1, c1, x1⟩ := r
    have hc := hno _ rfl
    dsimp only at hc
    subst hc
    have hC0 := hC _ rfl
    rw [show cq (μ1, 0, x1) = 0 from rfl, Nat.mul_zero] at hC0
    refine K_callSN (mcY := 0) (msY := 0) hd M hn hst hdd hC0 (fun q => by cases q) (fun v sk' μ' hp => ?_) (fun e sk' μ' hp => ?_) hs1
    · obtain ⟨rfl, -, rfl, rfl⟩ := hp
      rw [hsv]; exact kk _ _ h
    · obtain ⟨-, q, -⟩ := hp; cases q
end KZ
end
section
/-! the links: fields, methods, throws -/
set_option maxRecDepth 100000 in
theorem cf_X0 : kCF 0 RX0 TX0 4 := by
  refine ⟨rfl, rfl, ?_, nmX0, ?_⟩
  · intro w hw
    obtain ⟨k, hk, rfl⟩ := List.mem_map.mp hw
    have hk := List.mem_range.mp hk
    match k, hk with
    | 0, _ => exact inT1 132 (by decide +kernel) rfl
    | 1, _ => exact inT1 134 (by decide +kernel) rfl
    | 2, _ => exact inT1 136 (by decide +kernel) rfl
    | 3, _ => exact inT1 138 (by decide +kernel) rfl
    | k + 4, hk => exact absurd hk (by omega)
  · intro k hk; exact tyX0_ok k hk
set_option maxRecDepth 100000 in
theorem cf_X1 : kCF 1 RX1 TX1 12 := by
  refine ⟨rfl, rfl, ?_, nmX1, ?_⟩
  · intro w hw
    obtain ⟨k, hk, rfl⟩ := List.mem_map.mp hw
    have hk := List.mem_range.mp hk
    match k, hk with
    | 0, _ => exact inT1 172 (by decide +kernel) rfl
    | 1, _ => exact inT1 174 (by decide +kernel) rfl
    | 2, _ => exact inT1 176 (by decide +kernel) rfl
    | 3, _ => exact inT1 178 (by decide +kernel) rfl
    | 4, _ => exact inT1 180 (by decide +kernel) rfl
    | 5, _ => exact inT1 182 (by decide +kernel) rfl
    | 6, _ => exact inT1 184 (by decide +kernel) rfl
    | 7, _ => exact inT1 186 (by decide +kernel) rfl
    | 8, _ => exact inT1 188 (by decide +kernel) rfl
    | 9, _ => exact inT1 190 (by decide +kernel) rfl
    | 10, _ => exact inT1 192 (by decide +kernel) rfl
    | 11, _ => exact inT1 194 (by decide +kernel) rfl
    | k + 12, hk => exact absurd hk (by omega)
  · intro k hk; exact tyX1_ok k hk
set_option maxRecDepth 100000 in
theorem cf_X2 : kCF 2 RX2 TX2 3 := by
  refine ⟨rfl, rfl, ?_, nmX2, ?_⟩
  · intro w hw
    obtain ⟨k, hk, rfl⟩ := List.mem_map.mp hw
    have hk := List.mem_range.mp hk
    match k, hk with
    | 0, _ => exact inT1 108 (by decide +kernel) rfl
    | 1, _ => exact inT1 110 (by decide +kernel) rfl
    | 2, _ => exact inT1 112 (by decide +kernel) rfl
    | k + 3, hk => exact absurd hk (by omega)
  · intro k hk; exact tyX2_ok k hk
set_option maxRecDepth 100000 in
theorem cf_X3 : kCF 3 RX3 TX3 5 := by
  refine ⟨rfl, rfl, ?_, nmX3, ?_⟩
  · intro w hw
    obtain ⟨k, hk, rfl⟩ := List.mem_map.mp hw
    have hk := List.mem_range.mp hk
    match k, hk with
    | 0, _ => exact inT1 87 (by decide +kernel) rfl
    | 1, _ => exact inT1 89 (by decide +kernel) rfl
    | 2, _ => exact inT1 91 (by decide +kernel) rfl
    | 3, _ => exact inT1 93 (by decide +kernel) rfl
    | 4, _ => exact inT1 95 (by decide +kernel) rfl
    | k + 5, hk => exact absurd hk (by omega)
  · intro k hk; exact tyX3_ok k hk
set_option maxRecDepth 100000 in
theorem cf_X4 : kCF 4 RX4 TX4 3 := by
  refine ⟨rfl, rfl, ?_, nmX4, ?_⟩
  · intro w hw
    obtain ⟨k, hk, rfl⟩ := List.mem_map.mp hw
    have hk := List.mem_range.mp hk
    match k, hk with
    | 0, _ => exact inT1 210 (by decide +kernel) rfl
    | 1, _ => exact inT1 212 (by decide +kernel) rfl
    | 2, _ => exact inT1 214 (by decide +kernel) rfl
    | k + 3, hk => exact absurd hk (by omega)
  · intro k hk; exact tyX4_ok k hk
set_option maxRecDepth 100000 in
theorem cf_X5 : kCF 5 RX5 TX5 6 := by
  refine ⟨rfl, rfl, ?_, nmX5, ?_⟩
  · intro w hw
    obtain ⟨k, hk, rfl⟩ := List.mem_map.mp hw
    have hk := List.mem_range.mp hk
    match k, hk with
    | 0, _ => exact inT2 75 (by decide +kernel) rfl
    | 1, _ => exact inT2 77 (by decide +kernel) rfl
    | 2, _ => exact inT2 79 (by decide +kernel) rfl
    | 3, _ => exact inT2 81 (by decide +kernel) rfl
    | 4, _ => exact inT2 83 (by decide +kernel) rfl
    | 5, _ => exact inT2 85 (by decide +kernel) rfl
    | k + 6, hk => exact absurd hk (by omega)
  · intro k hk; exact tyX5_ok k hk
set_option maxRecDepth 100000 in
theorem cf_X6 : kCF 6 RX6 TX6 3 := by
  refine ⟨rfl, rfl, ?_, nmX6, ?_⟩
  · intro w hw
    obtain ⟨k, hk, rfl⟩ := List.mem_map.mp hw
    have hk := List.mem_range.mp hk
    match k, hk with
    | 0, _ => exact inT2 31 (by decide +kernel) rfl
    | 1, _ => exact inT2 33 (by decide +kernel) rfl
    | 2, _ => exact inT2 35 (by decide +kernel) rfl
    | k + 3, hk => exact absurd hk (by omega)
  · intro k hk; exact tyX6_ok k hk
set_option maxRecDepth 100000 in
theorem cf_X7 : kCF 7 RX7 TX7 3 := by
  refine ⟨rfl, rfl, ?_, nmX7, ?_⟩
  · intro w hw
    obtain ⟨k, hk, rfl⟩ := List.mem_map.mp hw
    have hk := List.mem_range.mp hk
    match k, hk with
    | 0, _ => exact inT1 59 (by decide +kernel) rfl
    | 1, _ => exact inT1 61 (by decide +kernel) rfl
    | 2, _ => exact inT1 63 (by decide +kernel) rfl
    | k + 3, hk => exact absurd hk (by omega)
  · intro k hk; exact tyX7_ok k hk
set_option maxRecDepth 100000 in
theorem cf_X8 : kCF 8 RX8 TX8 9 := by
  refine ⟨rfl, rfl, ?_, nmX8, ?_⟩
  · intro w hw
    obtain ⟨k, hk, rfl⟩ := List.mem_map.mp hw
    have hk := List.mem_range.mp hk
    match k, hk with
    | 0, _ => exact inT1 239 (by decide +kernel) rfl
    | 1, _ => exact inT2 1 (by decide +kernel) rfl
    | 2, _ => exact inT2 3 (by decide +kernel) rfl
    | 3, _ => exact inT2 5 (by decide +kernel) rfl
    | 4, _ => exact inT2 7 (by decide +kernel) rfl
    | 5, _ => exact inT2 9 (by decide +kernel) rfl
    | 6, _ => exact inT2 11 (by decide +kernel) rfl
    | 7, _ => exact inT2 13 (by decide +kernel) rfl
    | 8, _ => exact inT2 15 (by decide +kernel) rfl
    | k + 9, hk => exact absurd hk (by omega)
  · intro k hk; exact tyX8_ok k hk
set_option maxRecDepth 100000 in
theorem cf_X9 : kCF 9 RX9 TX9 4 := by
  refine ⟨rfl, rfl, ?_, nmX9, ?_⟩
  · intro w hw
    obtain ⟨k, hk, rfl⟩ := List.mem_map.mp hw
    have hk := List.mem_range.mp hk
    match k, hk with
    | 0, _ => exact inT2 50 (by decide +kernel) rfl
    | 1, _ => exact inT2 52 (by decide +kernel) rfl
    | 2, _ => exact inT2 54 (by decide +kernel) rfl
    | 3, _ => exact inT2 56 (by decide +kernel) rfl
    | k + 4, hk => exact absurd hk (by omega)
  · intro k hk; exact tyX9_ok k hk
set_option maxRecDepth 100000 in
theorem cf_X10 : kCF 10 RX10 TX10 9 := by
  refine ⟨rfl, rfl, ?_, nmX10, ?_⟩
  · intro w hw
    obtain ⟨k, hk, rfl⟩ := List.mem_map.mp hw
    have hk := List.mem_range.mp hk
    match k, hk with
    | 0, _ => exact inT2 97 (by decide +kernel) rfl
    | 1, _ => exact inT2 99 (by decide +kernel) rfl
    | 2, _ => exact inT2 101 (by decide +kernel) rfl
    | 3, _ => exact inT2 103 (by decide +kernel) rfl
    | 4, _ => exact inT2 105 (by decide +kernel) rfl
    | 5, _ => exact inT2 107 (by decide +kernel) rfl
    | 6, _ => exact inT2 109 (by decide +kernel) rfl
    | 7, _ => exact inT2 111 (by decide +kernel) rfl
    | 8, _ => exact inT2 113 (by decide +kernel) rfl
    | k + 9, hk => exact absurd hk (by omega)
  · intro k hk; exact tyX10_ok k hk
set_option maxRecDepth 100000 in
theorem cf_X11 : kCF 11 RX11 TX11 28 := by
  refine ⟨rfl, rfl, ?_, nmX11, ?_⟩
  · intro w hw
    obtain ⟨k, hk, rfl⟩ := List.mem_map.mp hw
    have hk := List.mem_range.mp hk
    match k, hk with
    | 0, _ => exact inT6 49 (by decide +kernel) rfl
    | 1, _ => exact inT6 51 (by decide +kernel) rfl
    | 2, _ => exact inT6 53 (by decide +kernel) rfl
    | 3, _ => exact inT6 55 (by decide +kernel) rfl
    | 4, _ => exact inT6 57 (by decide +kernel) rfl
    | 5, _ => exact inT6 59 (by decide +kernel) rfl
    | 6, _ => exact inT6 61 (by decide +kernel) rfl
    | 7, _ => exact inT6 63 (by decide +kernel) rfl
    | 8, _ => exact inT6 65 (by decide +kernel) rfl
    | 9, _ => exact inT6 67 (by decide +kernel) rfl
    | 10, _ => exact inT6 69 (by decide +kernel) rfl
    | 11, _ => exact inT6 71 (by decide +kernel) rfl
    | 12, _ => exact inT6 73 (by decide +kernel) rfl
    | 13, _ => exact inT6 75 (by decide +kernel) rfl
    | 14, _ => exact inT6 77 (by decide +kernel) rfl
    | 15, _ => exact inT6 79 (by decide +kernel) rfl
    | 16, _ => exact inT6 81 (by decide +kernel) rfl
    | 17, _ => exact inT6 83 (by decide +kernel) rfl
    | 18, _ => exact inT6 85 (by decide +kernel) rfl
    | 19, _ => exact inT6 87 (by decide +kernel) rfl
    | 20, _ => exact inT6 89 (by decide +kernel) rfl
    | 21, _ => exact inT6 91 (by decide +kernel) rfl
    | 22, _ => exact inT6 93 (by decide +kernel) rfl
    | 23, _ => exact inT6 95 (by decide +kernel) rfl
    | 24, _ => exact inT6 97 (by decide +kernel) rfl
    | 25, _ => exact inT6 99 (by decide +kernel) rfl
    | 26, _ => exact inT6 101 (by decide +kernel) rfl
    | 27, _ => exact inT6 103 (by decide +kernel) rfl
    | k + 28, hk => exact absurd hk (by omega)
  · intro k hk; exact tyX11_ok k hk
set_option maxRecDepth 100000 in
theorem fl_X7_9 : kFL RX7 9 7 0 true := ⟨RX7, TX7, 3, cf_X7, by decide, inT1 55 (by decide +kernel) rfl, rfl, trivial⟩
set_option maxRecDepth 100000 in
theorem fl_X10_105 : kFL RX10 105 7 0 true := ⟨RX7, TX7, 3, cf_X7, by decide, inT1 56 (by decide +kernel) rfl, rfl, trivial⟩
set_option maxRecDepth 100000 in
theorem fl_X7_15 : kFL RX7 15 7 1 true := ⟨RX7, TX7, 3, cf_X7, by decide, inT1 57 (by decide +kernel) rfl, rfl, trivial⟩
set_option maxRecDepth 100000 in
theorem fl_X7_18 : kFL RX7 18 7 2 true := ⟨RX7, TX7, 3, cf_X7, by decide, inT1 58 (by decide +kernel) rfl, rfl, trivial⟩
set_option maxRecDepth 100000 in
theorem fl_X3_9 : kFL RX3 9 3 0 true := ⟨RX3, TX3, 5, cf_X3, by decide, inT1 73 (by decide +kernel) rfl, rfl, trivial⟩
set_option maxRecDepth 100000 in
theorem fl_X1_134 : kFL RX1 134 3 0 true := ⟨RX3, TX3, 5, cf_X3, by decide, inT1 74 (by decide +kernel) rfl, rfl, trivial⟩
set_option maxRecDepth 100000 in
theorem fl_X10_206 : kFL RX10 206 3 0 true := ⟨RX3, TX3, 5, cf_X3, by decide, inT1 75 (by decide +kernel) rfl, rfl, trivial⟩
set_option maxRecDepth 100000 in
theorem fl_X3_15 : kFL RX3 15 3 1 true := ⟨RX3, TX3, 5, cf_X3, by decide, inT1 76 (by decide +kernel) rfl, rfl, trivial⟩
set_option maxRecDepth 100000 in
theorem fl_X1_111 : kFL RX1 111 3 1 true := ⟨RX3, TX3, 5, cf_X3, by decide, inT1 77 (by decide +kernel) rfl, rfl, trivial⟩
set_option maxRecDepth 100000 in
theorem fl_X10_214 : kFL RX10 214 3 1 true := ⟨RX3, TX3, 5, cf_X3, by decide, inT1 78 (by decide +kernel) rfl, rfl, trivial⟩
set_option maxRecDepth 100000 in
theorem fl_X3_18 : kFL RX3 18 3 2 true := ⟨RX3, TX3, 5, cf_X3, by decide, inT1 79 (by decide +kernel) rfl, rfl, trivial⟩
set_option maxRecDepth 100000 in
theorem fl_X1_125 : kFL RX1 125 3 2 true := ⟨RX3, TX3, 5, cf_X3, by decide, inT1 80 (by decide +kernel) rfl, rfl, trivial⟩
set_option maxRecDepth 100000 in
theorem fl_X10_217 : kFL RX10 217 3 2 true := ⟨RX3, TX3, 5, cf_X3, by decide, inT1 81 (by decide +kernel) rfl, rfl, trivial⟩
set_option maxRecDepth 100000 in
theorem fl_X3_21 : kFL RX3 21 3 3 true := ⟨RX3, TX3, 5, cf_X3, by decide, inT1 82 (by decide +kernel) rfl, rfl, trivial⟩
set_option maxRecDepth 100000 in
theorem fl_X9_42 : kFL RX9 42 3 3 true := ⟨RX3, TX3, 5, cf_X3, by decide, inT1 83 (by decide +kernel) rfl, rfl, trivial⟩
set_option maxRecDepth 100000 in
theorem fl_X9_36 : kFL RX9 36 3 4 false := ⟨RX3, TX3, 5, cf_X3, by decide, inT1 84 (by decide +kernel) rfl, rfl, trivial⟩
set_option maxRecDepth 100000 in
theorem fl_X3_28 : kFL RX3 28 3 4 false := ⟨RX3, TX3, 5, cf_X3, by decide, inT1 85 (by decide +kernel) rfl, rfl, trivial⟩
set_option maxRecDepth 100000 in
theorem fl_X10_437 : kFL RX10 437 3 4 false := ⟨RX3, TX3, 5, cf_X3, by decide, inT1 86 (by decide +kernel) rfl, rfl, trivial⟩
set_option maxRecDepth 100000 in
theorem fl_X2_9 : kFL RX2 9 2 0 true := ⟨RX2, TX2, 3, cf_X2, by decide, inT1 104 (by decide +kernel) rfl, rfl, trivial⟩
set_option maxRecDepth 100000 in
theorem fl_X2_15 : kFL RX2 15 2 1 true := ⟨RX2, TX2, 3, cf_X2, by decide, inT1 105 (by decide +kernel) rfl, rfl, trivial⟩
set_option maxRecDepth 100000 in
theorem fl_X2_22 : kFL RX2 22 2 2 false := ⟨RX2, TX2, 3, cf_X2, by decide, inT1 106 (by decide +kernel) rfl, rfl, trivial⟩
set_option maxRecDepth 100000 in
theorem fl_X10_267 : kFL RX10 267 2 2 false := ⟨RX2, TX2, 3, cf_X2, by decide, inT1 107 (by decide +kernel) rfl, rfl, trivial⟩
set_option maxRecDepth 100000 in
theorem fl_X0_9 : kFL RX0 9 0 0 true := ⟨RX0, TX0, 4, cf_X0, by decide, inT1 121 (by decide +kernel) rfl, rfl, trivial⟩
set_option maxRecDepth 100000 in
theorem fl_X9_72 : kFL RX9 72 0 0 true := ⟨RX0, TX0, 4, cf_X0, by decide, inT1 122 (by decide +kernel) rfl, rfl, trivial⟩
set_option maxRecDepth 100000 in
theorem fl_X1_153 : kFL RX1 153 0 0 true := ⟨RX0, TX0, 4, cf_X0, by decide, inT1 123 (by decide +kernel) rfl, rfl, trivial⟩
set_option maxRecDepth 100000 in
theorem fl_X10_238 : kFL RX10 238 0 0 true := ⟨RX0, TX0, 4, cf_X0, by decide, inT1 124 (by decide +kernel) rfl, rfl, trivial⟩
set_option maxRecDepth 100000 in
theorem fl_X0_15 : kFL RX0 15 0 1 true := ⟨RX0, TX0, 4, cf_X0, by decide, inT1 125 (by decide +kernel) rfl, rfl, trivial⟩
set_option maxRecDepth 100000 in
theorem fl_X10_419 : kFL RX10 419 0 1 true := ⟨RX0, TX0, 4, cf_X0, by decide, inT1 126 (by decide +kernel) rfl, rfl, trivial⟩
set_option maxRecDepth 100000 in
theorem fl_X0_18 : kFL RX0 18 0 2 true := ⟨RX0, TX0, 4, cf_X0, by decide, inT1 127 (by decide +kernel) rfl, rfl, trivial⟩
set_option maxRecDepth 100000 in
theorem fl_X9_77 : kFL RX9 77 0 2 true := ⟨RX0, TX0, 4, cf_X0, by decide, inT1 128 (by decide +kernel) rfl, rfl, trivial⟩
set_option maxRecDepth 100000 in
theorem fl_X1_156 : kFL RX1 156 0 2 true := ⟨RX0, TX0, 4, cf_X0, by decide, inT1 129 (by decide +kernel) rfl, rfl, trivial⟩
set_option maxRecDepth 100000 in
theorem fl_X0_25 : kFL RX0 25 0 3 false := ⟨RX0, TX0, 4, cf_X0, by decide, inT1 130 (by decide +kernel) rfl, rfl, trivial⟩
set_option maxRecDepth 100000 in
theorem fl_X10_422 : kFL RX10 422 0 3 false := ⟨RX0, TX0, 4, cf_X0, by decide, inT1 131 (by decide +kernel) rfl, rfl, trivial⟩
set_option maxRecDepth 100000 in
theorem fl_X1_9 : kFL RX1 9 1 0 true := ⟨RX1, TX1, 12, cf_X1, by decide, inT1 142 (by decide +kernel) rfl, rfl, trivial⟩
set_option maxRecDepth 100000 in
theorem fl_X10_79 : kFL RX10 79 1 0 true := ⟨RX1, TX1, 12, cf_X1, by decide, inT1 143 (by decide +kernel) rfl, rfl, trivial⟩
set_option maxRecDepth 100000 in
theorem fl_X5_77 : kFL RX5 77 1 0 true := ⟨RX1, TX1, 12, cf_X1, by decide, inT1 144 (by decide +kernel) rfl, rfl, trivial⟩
set_option maxRecDepth 100000 in
theorem fl_X1_15 : kFL RX1 15 1 1 true := ⟨RX1, TX1, 12, cf_X1, by decide, inT1 145 (by decide +kernel) rfl, rfl, trivial⟩
set_option maxRecDepth 100000 in
theorem fl_X10_98 : kFL RX10 98 1 1 true := ⟨RX1, TX1, 12, cf_X1, by decide, inT1 146 (by decide +kernel) rfl, rfl, trivial⟩
set_option maxRecDepth 100000 in
theorem fl_X5_92 : kFL RX5 92 1 1 true := ⟨RX1, TX1, 12, cf_X1, by decide, inT1 147 (by decide +kernel) rfl, rfl, trivial⟩
set_option maxRecDepth 100000 in
theorem fl_X1_18 : kFL RX1 18 1 2 true := ⟨RX1, TX1, 12, cf_X1, by decide, inT1 148 (by decide +kernel) rfl, rfl, trivial⟩
set_option maxRecDepth 100000 in
theorem fl_X5_89 : kFL RX5 89 1 2 true := ⟨RX1, TX1, 12, cf_X1, by decide, inT1 149 (by decide +kernel) rfl, rfl, trivial⟩
set_option maxRecDepth 100000 in
theorem fl_X10_300 : kFL RX10 300 1 2 true := ⟨RX1, TX1, 12, cf_X1, by decide, inT1 150 (by decide +kernel) rfl, rfl, trivial⟩
set_option maxRecDepth 100000 in
theorem fl_X1_21 : kFL RX1 21 1 3 true := ⟨RX1, TX1, 12, cf_X1, by decide, inT1 151 (by decide +kernel) rfl, rfl, trivial⟩
set_option maxRecDepth 100000 in
theorem fl_X10_247 : kFL RX10 247 1 3 true := ⟨RX1, TX1, 12, cf_X1, by decide, inT1 152 (by decide +kernel) rfl, rfl, trivial⟩
set_option maxRecDepth 100000 in
theorem fl_X1_24 : kFL RX1 24 1 4 true := ⟨RX1, TX1, 12, cf_X1, by decide, inT1 153 (by decide +kernel) rfl, rfl, trivial⟩
set_option maxRecDepth 100000 in
theorem fl_X5_80 : kFL RX5 80 1 4 true := ⟨RX1, TX1, 12, cf_X1, by decide, inT1 154 (by decide +kernel) rfl, rfl, trivial⟩
set_option maxRecDepth 100000 in
theorem fl_X10_260 : kFL RX10 260 1 4 true := ⟨RX1, TX1, 12, cf_X1, by decide, inT1 155 (by decide +kernel) rfl, rfl, trivial⟩
set_option maxRecDepth 100000 in
theorem fl_X1_27 : kFL RX1 27 1 5 true := ⟨RX1, TX1, 12, cf_X1, by decide, inT1 156 (by decide +kernel) rfl, rfl, trivial⟩
set_option maxRecDepth 100000 in
theorem fl_X10_413 : kFL RX10 413 1 5 true := ⟨RX1, TX1, 12, cf_X1, by decide, inT1 157 (by decide +kernel) rfl, rfl, trivial⟩
set_option maxRecDepth 100000 in
theorem fl_X1_33 : kFL RX1 33 1 6 true := ⟨RX1, TX1, 12, cf_X1, by decide, inT1 158 (by decide +kernel) rfl, rfl, trivial⟩
set_option maxRecDepth 100000 in
theorem fl_X10_101 : kFL RX10 101 1 6 true := ⟨RX1, TX1, 12, cf_X1, by decide, inT1 159 (by decide +kernel) rfl, rfl, trivial⟩
set_option maxRecDepth 100000 in
theorem fl_X1_40 : kFL RX1 40 1 7 true := ⟨RX1, TX1, 12, cf_X1, by decide, inT1 160 (by decide +kernel) rfl, rfl, trivial⟩
set_option maxRecDepth 100000 in
theorem fl_X9_30 : kFL RX9 30 1 7 true := ⟨RX1, TX1, 12, cf_X1, by decide, inT1 161 (by decide +kernel) rfl, rfl, trivial⟩
set_option maxRecDepth 100000 in
theorem fl_X10_203 : kFL RX10 203 1 7 true := ⟨RX1, TX1, 12, cf_X1, by decide, inT1 162 (by decide +kernel) rfl, rfl, trivial⟩
set_option maxRecDepth 100000 in
theorem fl_X1_47 : kFL RX1 47 1 8 true := ⟨RX1, TX1, 12, cf_X1, by decide, inT1 163 (by decide +kernel) rfl, rfl, trivial⟩
set_option maxRecDepth 100000 in
theorem fl_X5_41 : kFL RX5 41 1 8 true := ⟨RX1, TX1, 12, cf_X1, by decide, inT1 164 (by decide +kernel) rfl, rfl, trivial⟩
set_option maxRecDepth 100000 in
theorem fl_X10_263 : kFL RX10 263 1 8 true := ⟨RX1, TX1, 12, cf_X1, by decide, inT1 165 (by decide +kernel) rfl, rfl, trivial⟩
set_option maxRecDepth 100000 in
theorem fl_X1_54 : kFL RX1 54 1 9 true := ⟨RX1, TX1, 12, cf_X1, by decide, inT1 166 (by decide +kernel) rfl, rfl, trivial⟩
set_option maxRecDepth 100000 in
theorem fl_X9_68 : kFL RX9 68 1 9 true := ⟨RX1, TX1, 12, cf_X1, by decide, inT1 167 (by decide +kernel) rfl, rfl, trivial⟩
set_option maxRecDepth 100000 in
theorem fl_X10_234 : kFL RX10 234 1 9 true := ⟨RX1, TX1, 12, cf_X1, by decide, inT1 168 (by decide +kernel) rfl, rfl, trivial⟩
set_option maxRecDepth 100000 in
theorem fl_X1_84 : kFL RX1 84 1 10 false := ⟨RX1, TX1, 12, cf_X1, by decide, inT1 169 (by decide +kernel) rfl, rfl, trivial⟩
set_option maxRecDepth 100000 in
theorem fl_X10_367 : kFL RX10 367 1 10 false := ⟨RX1, TX1, 12, cf_X1, by decide, inT1 170 (by decide +kernel) rfl, rfl, trivial⟩
set_option maxRecDepth 100000 in
theorem fl_X1_58 : kFL RX1 58 1 11 true := ⟨RX1, TX1, 12, cf_X1, by decide, inT1 171 (by decide +kernel) rfl, rfl, trivial⟩
set_option maxRecDepth 100000 in
theorem fl_X4_11 : kFL RX4 11 4 0 true := ⟨RX4, TX4, 3, cf_X4, by decide, inT1 206 (by decide +kernel) rfl, rfl, trivial⟩
set_option maxRecDepth 100000 in
theorem fl_X4_18 : kFL RX4 18 4 1 false := ⟨RX4, TX4, 3, cf_X4, by decide, inT1 207 (by decide +kernel) rfl, rfl, trivial⟩
set_option maxRecDepth 100000 in
theorem fl_X4_22 : kFL RX4 22 4 2 false := ⟨RX4, TX4, 3, cf_X4, by decide, inT1 208 (by decide +kernel) rfl, rfl, trivial⟩
set_option maxRecDepth 100000 in
theorem fl_X10_443 : kFL RX10 443 4 2 false := ⟨RX4, TX4, 3, cf_X4, by decide, inT1 209 (by decide +kernel) rfl, rfl, trivial⟩
set_option maxRecDepth 100000 in
theorem fl_X8_11 : kFL RX8 11 8 0 true := ⟨RX8, TX8, 9, cf_X8, by decide, inT1 223 (by decide +kernel) rfl, rfl, trivial⟩
set_option maxRecDepth 100000 in
theorem fl_X8_29 : kFL RX8 29 8 1 false := ⟨RX8, TX8, 9, cf_X8, by decide, inT1 224 (by decide +kernel) rfl, rfl, trivial⟩
set_option maxRecDepth 100000 in
theorem fl_X8_26 : kFL RX8 26 8 2 false := ⟨RX8, TX8, 9, cf_X8, by decide, inT1 225 (by decide +kernel) rfl, rfl, trivial⟩
set_option maxRecDepth 100000 in
theorem fl_X10_163 : kFL RX10 163 8 2 false := ⟨RX8, TX8, 9, cf_X8, by decide, inT1 226 (by decide +kernel) rfl, rfl, trivial⟩
set_option maxRecDepth 100000 in
theorem fl_X8_15 : kFL RX8 15 8 3 false := ⟨RX8, TX8, 9, cf_X8, by decide, inT1 227 (by decide +kernel) rfl, rfl, trivial⟩
set_option maxRecDepth 100000 in
theorem fl_X10_175 : kFL RX10 175 8 3 false := ⟨RX8, TX8, 9, cf_X8, by decide, inT1 228 (by decide +kernel) rfl, rfl, trivial⟩
set_option maxRecDepth 100000 in
theorem fl_X8_43 : kFL RX8 43 8 4 false := ⟨RX8, TX8, 9, cf_X8, by decide, inT1 229 (by decide +kernel) rfl, rfl, trivial⟩
set_option maxRecDepth 100000 in
theorem fl_X10_195 : kFL RX10 195 8 4 false := ⟨RX8, TX8, 9, cf_X8, by decide, inT1 230 (by decide +kernel) rfl, rfl, trivial⟩
set_option maxRecDepth 100000 in
theorem fl_X8_54 : kFL RX8 54 8 5 false := ⟨RX8, TX8, 9, cf_X8, by decide, inT1 231 (by decide +kernel) rfl, rfl, trivial⟩
set_option maxRecDepth 100000 in
theorem fl_X10_192 : kFL RX10 192 8 5 false := ⟨RX8, TX8, 9, cf_X8, by decide, inT1 232 (by decide +kernel) rfl, rfl, trivial⟩
set_option maxRecDepth 100000 in
theorem fl_X8_32 : kFL RX8 32 8 6 false := ⟨RX8, TX8, 9, cf_X8, by decide, inT1 233 (by decide +kernel) rfl, rfl, trivial⟩
set_option maxRecDepth 100000 in
theorem fl_X10_186 : kFL RX10 186 8 6 false := ⟨RX8, TX8, 9, cf_X8, by decide, inT1 234 (by decide +kernel) rfl, rfl, trivial⟩
set_option maxRecDepth 100000 in
theorem fl_X8_19 : kFL RX8 19 8 7 true := ⟨RX8, TX8, 9, cf_X8, by decide, inT1 235 (by decide +kernel) rfl, rfl, trivial⟩
set_option maxRecDepth 100000 in
theorem fl_X10_189 : kFL RX10 189 8 7 true := ⟨RX8, TX8, 9, cf_X8, by decide, inT1 236 (by decide +kernel) rfl, rfl, trivial⟩
set_option maxRecDepth 100000 in
theorem fl_X8_23 : kFL RX8 23 8 8 true := ⟨RX8, TX8, 9, cf_X8, by decide, inT1 237 (by decide +kernel) rfl, rfl, trivial⟩
set_option maxRecDepth 100000 in
theorem fl_X10_198 : kFL RX10 198 8 8 true := ⟨RX8, TX8, 9, cf_X8, by decide, inT1 238 (by decide +kernel) rfl, rfl, trivial⟩
set_option maxRecDepth 100000 in
theorem fl_X6_9 : kFL RX6 9 6 0 true := ⟨RX6, TX6, 3, cf_X6, by decide, inT2 25 (by decide +kernel) rfl, rfl, trivial⟩
set_option maxRecDepth 100000 in
theorem fl_X10_431 : kFL RX10 431 6 0 true := ⟨RX6, TX6, 3, cf_X6, by decide, inT2 26 (by decide +kernel) rfl, rfl, trivial⟩
set_option maxRecDepth 100000 in
theorem fl_X6_13 : kFL RX6 13 6 1 true := ⟨RX6, TX6, 3, cf_X6, by decide, inT2 27 (by decide +kernel) rfl, rfl, trivial⟩
set_option maxRecDepth 100000 in
theorem fl_X10_434 : kFL RX10 434 6 1 true := ⟨RX6, TX6, 3, cf_X6, by decide, inT2 28 (by decide +kernel) rfl, rfl, trivial⟩
set_option maxRecDepth 100000 in
theorem fl_X6_16 : kFL RX6 16 6 2 false := ⟨RX6, TX6, 3, cf_X6, by decide, inT2 29 (by decide +kernel) rfl, rfl, trivial⟩
set_option maxRecDepth 100000 in
theorem fl_X10_428 : kFL RX10 428 6 2 false := ⟨RX6, TX6, 3, cf_X6, by decide, inT2 30 (by decide +kernel) rfl, rfl, trivial⟩
set_option maxRecDepth 100000 in
theorem fl_X9_9 : kFL RX9 9 9 0 true := ⟨RX9, TX9, 4, cf_X9, by decide, inT2 46 (by decide +kernel) rfl, rfl, trivial⟩
set_option maxRecDepth 100000 in
theorem fl_X9_15 : kFL RX9 15 9 1 true := ⟨RX9, TX9, 4, cf_X9, by decide, inT2 47 (by decide +kernel) rfl, rfl, trivial⟩
set_option maxRecDepth 100000 in
theorem fl_X9_18 : kFL RX9 18 9 2 true := ⟨RX9, TX9, 4, cf_X9, by decide, inT2 48 (by decide +kernel) rfl, rfl, trivial⟩
set_option maxRecDepth 100000 in
theorem fl_X9_21 : kFL RX9 21 9 3 true := ⟨RX9, TX9, 4, cf_X9, by decide, inT2 49 (by decide +kernel) rfl, rfl, trivial⟩
set_option maxRecDepth 100000 in
theorem fl_X5_9 : kFL RX5 9 5 0 true := ⟨RX5, TX5, 6, cf_X5, by decide, inT2 64 (by decide +kernel) rfl, rfl, trivial⟩
set_option maxRecDepth 100000 in
theorem fl_X5_45 : kFL RX5 45 5 1 false := ⟨RX5, TX5, 6, cf_X5, by decide, inT2 65 (by decide +kernel) rfl, rfl, trivial⟩
set_option maxRecDepth 100000 in
theorem fl_X10_310 : kFL RX10 310 5 1 false := ⟨RX5, TX5, 6, cf_X5, by decide, inT2 66 (by decide +kernel) rfl, rfl, trivial⟩
set_option maxRecDepth 100000 in
theorem fl_X5_15 : kFL RX5 15 5 2 false := ⟨RX5, TX5, 6, cf_X5, by decide, inT2 67 (by decide +kernel) rfl, rfl, trivial⟩
set_option maxRecDepth 100000 in
theorem fl_X10_314 : kFL RX10 314 5 2 false := ⟨RX5, TX5, 6, cf_X5, by decide, inT2 68 (by decide +kernel) rfl, rfl, trivial⟩
set_option maxRecDepth 100000 in
theorem fl_X5_56 : kFL RX5 56 5 3 false := ⟨RX5, TX5, 6, cf_X5, by decide, inT2 69 (by decide +kernel) rfl, rfl, trivial⟩
set_option maxRecDepth 100000 in
theorem fl_X10_317 : kFL RX10 317 5 3 false := ⟨RX5, TX5, 6, cf_X5, by decide, inT2 70 (by decide +kernel) rfl, rfl, trivial⟩
set_option maxRecDepth 100000 in
theorem fl_X5_63 : kFL RX5 63 5 4 false := ⟨RX5, TX5, 6, cf_X5, by decide, inT2 71 (by decide +kernel) rfl, rfl, trivial⟩
set_option maxRecDepth 100000 in
theorem fl_X10_320 : kFL RX10 320 5 4 false := ⟨RX5, TX5, 6, cf_X5, by decide, inT2 72 (by decide +kernel) rfl, rfl, trivial⟩
set_option maxRecDepth 100000 in
theorem fl_X5_70 : kFL RX5 70 5 5 false := ⟨RX5, TX5, 6, cf_X5, by decide, inT2 73 (by decide +kernel) rfl, rfl, trivial⟩
set_option maxRecDepth 100000 in
theorem fl_X10_323 : kFL RX10 323 5 5 false := ⟨RX5, TX5, 6, cf_X5, by decide, inT2 74 (by decide +kernel) rfl, rfl, trivial⟩
set_option maxRecDepth 100000 in
theorem fl_X10_12 : kFL RX10 12 10 0 true := ⟨RX10, TX10, 9, cf_X10, by decide, inT2 88 (by decide +kernel) rfl, rfl, trivial⟩
set_option maxRecDepth 100000 in
theorem fl_X10_16 : kFL RX10 16 10 1 true := ⟨RX10, TX10, 9, cf_X10, by decide, inT2 89 (by decide +kernel) rfl, rfl, trivial⟩
set_option maxRecDepth 100000 in
theorem fl_X10_19 : kFL RX10 19 10 2 true := ⟨RX10, TX10, 9, cf_X10, by decide, inT2 90 (by decide +kernel) rfl, rfl, trivial⟩
set_option maxRecDepth 100000 in
theorem fl_X10_452 : kFL RX10 452 10 3 false := ⟨RX10, TX10, 9, cf_X10, by decide, inT2 91 (by decide +kernel) rfl, rfl, trivial⟩
set_option maxRecDepth 100000 in
theorem fl_X10_25 : kFL RX10 25 10 4 true := ⟨RX10, TX10, 9, cf_X10, by decide, inT2 92 (by decide +kernel) rfl, rfl, trivial⟩
set_option maxRecDepth 100000 in
theorem fl_X10_32 : kFL RX10 32 10 5 true := ⟨RX10, TX10, 9, cf_X10, by decide, inT2 93 (by decide +kernel) rfl, rfl, trivial⟩
set_option maxRecDepth 100000 in
theorem fl_X10_39 : kFL RX10 39 10 6 true := ⟨RX10, TX10, 9, cf_X10, by decide, inT2 94 (by decide +kernel) rfl, rfl, trivial⟩
set_option maxRecDepth 100000 in
theorem fl_X10_45 : kFL RX10 45 10 7 true := ⟨RX10, TX10, 9, cf_X10, by decide, inT2 95 (by decide +kernel) rfl, rfl, trivial⟩
set_option maxRecDepth 100000 in
theorem fl_X10_52 : kFL RX10 52 10 8 true := ⟨RX10, TX10, 9, cf_X10, by decide, inT2 96 (by decide +kernel) rfl, rfl, trivial⟩
set_option maxRecDepth 100000 in
theorem fl_X11_48 : kFL RX11 48 11 0 false := ⟨RX11, TX11, 28, cf_X11, by decide, inT6 21 (by decide +kernel) rfl, rfl, trivial⟩
set_option maxRecDepth 100000 in
theorem fl_X11_7 : kFL RX11 7 11 1 true := ⟨RX11, TX11, 28, cf_X11, by decide, inT6 22 (by decide +kernel) rfl, rfl, trivial⟩
set_option maxRecDepth 100000 in
theorem fl_X11_13 : kFL RX11 13 11 2 true := ⟨RX11, TX11, 28, cf_X11, by decide, inT6 23 (by decide +kernel) rfl, rfl, trivial⟩
set_option maxRecDepth 100000 in
theorem fl_X11_16 : kFL RX11 16 11 3 true := ⟨RX11, TX11, 28, cf_X11, by decide, inT6 24 (by decide +kernel) rfl, rfl, trivial⟩
set_option maxRecDepth 100000 in
theorem fl_X11_19 : kFL RX11 19 11 4 true := ⟨RX11, TX11, 28, cf_X11, by decide, inT6 25 (by decide +kernel) rfl, rfl, trivial⟩
set_option maxRecDepth 100000 in
theorem fl_X11_55 : kFL RX11 55 11 5 false := ⟨RX11, TX11, 28, cf_X11, by decide, inT6 26 (by decide +kernel) rfl, rfl, trivial⟩
set_option maxRecDepth 100000 in
theorem fl_X11_316 : kFL RX11 316 11 6 false := ⟨RX11, TX11, 28, cf_X11, by decide, inT6 27 (by decide +kernel) rfl, rfl, trivial⟩
set_option maxRecDepth 100000 in
theorem fl_X11_22 : kFL RX11 22 11 7 true := ⟨RX11, TX11, 28, cf_X11, by decide, inT6 28 (by decide +kernel) rfl, rfl, trivial⟩
set_option maxRecDepth 100000 in
theorem fl_X11_228 : kFL RX11 228 11 8 false := ⟨RX11, TX11, 28, cf_X11, by decide, inT6 29 (by decide +kernel) rfl, rfl, trivial⟩
set_option maxRecDepth 100000 in
theorem fl_X11_25 : kFL RX11 25 11 9 false := ⟨RX11, TX11, 28, cf_X11, by decide, inT6 30 (by decide +kernel) rfl, rfl, trivial⟩
set_option maxRecDepth 100000 in
theorem fl_X11_29 : kFL RX11 29 11 10 true := ⟨RX11, TX11, 28, cf_X11, by decide, inT6 31 (by decide +kernel) rfl, rfl, trivial⟩
set_option maxRecDepth 100000 in
theorem fl_X11_174 : kFL RX11 174 11 11 false := ⟨RX11, TX11, 28, cf_X11, by decide, inT6 32 (by decide +kernel) rfl, rfl, trivial⟩
set_option maxRecDepth 100000 in
theorem fl_X11_32 : kFL RX11 32 11 12 true := ⟨RX11, TX11, 28, cf_X11, by decide, inT6 33 (by decide +kernel) rfl, rfl, trivial⟩
set_option maxRecDepth 100000 in
theorem fl_X11_95 : kFL RX11 95 11 13 false := ⟨RX11, TX11, 28, cf_X11, by decide, inT6 34 (by decide +kernel) rfl, rfl, trivial⟩
set_option maxRecDepth 100000 in
theorem fl_X11_35 : kFL RX11 35 11 14 true := ⟨RX11, TX11, 28, cf_X11, by decide, inT6 35 (by decide +kernel) rfl, rfl, trivial⟩
set_option maxRecDepth 100000 in
theorem fl_X11_136 : kFL RX11 136 11 15 false := ⟨RX11, TX11, 28, cf_X11, by decide, inT6 36 (by decide +kernel) rfl, rfl, trivial⟩
set_option maxRecDepth 100000 in
theorem fl_X11_140 : kFL RX11 140 11 16 false := ⟨RX11, TX11, 28, cf_X11, by decide, inT6 37 (by decide +kernel) rfl, rfl, trivial⟩
set_option maxRecDepth 100000 in
theorem fl_X11_156 : kFL RX11 156 11 17 false := ⟨RX11, TX11, 28, cf_X11, by decide, inT6 38 (by decide +kernel) rfl, rfl, trivial⟩
set_option maxRecDepth 100000 in
theorem fl_X11_159 : kFL RX11 159 11 18 false := ⟨RX11, TX11, 28, cf_X11, by decide, inT6 39 (by decide +kernel) rfl, rfl, trivial⟩
set_option maxRecDepth 100000 in
theorem fl_X11_165 : kFL RX11 165 11 19 false := ⟨RX11, TX11, 28, cf_X11, by decide, inT6 40 (by decide +kernel) rfl, rfl, trivial⟩
set_option maxRecDepth 100000 in
theorem fl_X11_205 : kFL RX11 205 11 20 false := ⟨RX11, TX11, 28, cf_X11, by decide, inT6 41 (by decide +kernel) rfl, rfl, trivial⟩
set_option maxRecDepth 100000 in
theorem fl_X11_231 : kFL RX11 231 11 21 false := ⟨RX11, TX11, 28, cf_X11, by decide, inT6 42 (by decide +kernel) rfl, rfl, trivial⟩
set_option maxRecDepth 100000 in
theorem fl_X11_234 : kFL RX11 234 11 22 false := ⟨RX11, TX11, 28, cf_X11, by decide, inT6 43 (by decide +kernel) rfl, rfl, trivial⟩
set_option maxRecDepth 100000 in
theorem fl_X11_245 : kFL RX11 245 11 23 false := ⟨RX11, TX11, 28, cf_X11, by decide, inT6 44 (by decide +kernel) rfl, rfl, trivial⟩
set_option maxRecDepth 100000 in
theorem fl_X11_251 : kFL RX11 251 11 24 false := ⟨RX11, TX11, 28, cf_X11, by decide, inT6 45 (by decide +kernel) rfl, rfl, trivial⟩
set_option maxRecDepth 100000 in
theorem fl_X11_38 : kFL RX11 38 11 25 true := ⟨RX11, TX11, 28, cf_X11, by decide, inT6 46 (by decide +kernel) rfl, rfl, trivial⟩
set_option maxRecDepth 100000 in
theorem fl_X11_41 : kFL RX11 41 11 26 true := ⟨RX11, TX11, 28, cf_X11, by decide, inT6 47 (by decide +kernel) rfl, rfl, trivial⟩
set_option maxRecDepth 100000 in
theorem fl_X11_45 : kFL RX11 45 11 27 true := ⟨RX11, TX11, 28, cf_X11, by decide, inT6 48 (by decide +kernel) rfl, rfl, trivial⟩
set_option maxRecDepth 100000 in
theorem mf_J7_fill_53178 : kMf mJ7_fill_53178 2 := ⟨inT1 54 (by decide +kernel) rfl, inT1 4 (by decide +kernel) rfl, by decide +kernel, by decide +kernel⟩
set_option maxRecDepth 100000 in
theorem ms_X7_21 : kMS RX7 21 mJ7_fill_53178 2 := ⟨inT1 52 (by decide +kernel) rfl, inT1 53 (by decide +kernel) rfl, mf_J7_fill_53178⟩
set_option maxRecDepth 100000 in
theorem ms_X1_61 : kMS RX1 61 mJ7_fill_53178 2 := ⟨inT1 141 (by decide +kernel) rfl, inT1 53 (by decide +kernel) rfl, mf_J7_fill_53178⟩
set_option maxRecDepth 100000 in
theorem mf_X10_errorPosition : kMf mX10_errorPosition 0 := ⟨inT2 119 (by decide +kernel) rfl, inT1 1 (by decide +kernel) rfl, by decide +kernel, by decide +kernel⟩
set_option maxRecDepth 100000 in
theorem mv_L_172 : kMV RL 172 mX10_errorPosition 0 10 := ⟨inT2 116 (by decide +kernel) rfl, inT2 117 (by decide +kernel) rfl, inT2 118 (by decide +kernel) rfl, mf_X10_errorPosition, TX10, 9, rfl⟩
set_option maxRecDepth 100000 in
theorem mf_X10_levels : kMf mX10_levels 0 := ⟨inT2 123 (by decide +kernel) rfl, inT1 1 (by decide +kernel) rfl, by decide +kernel, by decide +kernel⟩
set_option maxRecDepth 100000 in
theorem mv_L_241 : kMV RL 241 mX10_levels 0 10 := ⟨inT2 120 (by decide +kernel) rfl, inT2 121 (by decide +kernel) rfl, inT2 122 (by decide +kernel) rfl, mf_X10_levels, TX10, 9, rfl⟩
set_option maxRecDepth 100000 in
theorem mf_X10_save : kMf mX10_save 0 := ⟨inT2 127 (by decide +kernel) rfl, inT1 1 (by decide +kernel) rfl, by decide +kernel, by decide +kernel⟩
set_option maxRecDepth 100000 in
theorem mv_L_254 : kMV RL 254 mX10_save 0 10 := ⟨inT2 124 (by decide +kernel) rfl, inT2 125 (by decide +kernel) rfl, inT2 126 (by decide +kernel) rfl, mf_X10_save, TX10, 9, rfl⟩
set_option maxRecDepth 100000 in
theorem mf_X1_copyFrom : kMf mX1_copyFrom 1 := ⟨inT2 131 (by decide +kernel) rfl, inT1 2 (by decide +kernel) rfl, by decide +kernel, by decide +kernel⟩
set_option maxRecDepth 100000 in
theorem mv_X10_183 : kMV RX10 183 mX1_copyFrom 1 1 := ⟨inT2 128 (by decide +kernel) rfl, inT2 129 (by decide +kernel) rfl, inT2 130 (by decide +kernel) rfl, mf_X1_copyFrom, TX1, 12, rfl⟩
set_option maxRecDepth 100000 in
theorem mf_X10_copyRow : kMf mX10_copyRow 2 := ⟨inT2 134 (by decide +kernel) rfl, inT1 1 (by decide +kernel) rfl, by decide +kernel, by decide +kernel⟩
set_option maxRecDepth 100000 in
theorem mn_X1_67 : kMSN RX1 67 mX10_copyRow 2 "ExamMarker" := ⟨by decide +kernel, inT2 133 (by decide +kernel) rfl, mf_X10_copyRow⟩
set_option maxRecDepth 100000 in
theorem mf_X7_copyFrom : kMf mX7_copyFrom 1 := ⟨inT2 144 (by decide +kernel) rfl, inT1 3 (by decide +kernel) rfl, by decide +kernel, by decide +kernel⟩
set_option maxRecDepth 100000 in
theorem mv_X1_71 : kMV RX1 71 mX7_copyFrom 1 7 := ⟨inT2 141 (by decide +kernel) rfl, inT2 142 (by decide +kernel) rfl, inT2 143 (by decide +kernel) rfl, mf_X7_copyFrom, TX7, 3, rfl⟩
set_option maxRecDepth 100000 in
theorem mn_X7_27 : kMSN RX7 27 mX10_copyRow 2 "ExamMarker" := ⟨by decide +kernel, inT2 133 (by decide +kernel) rfl, mf_X10_copyRow⟩
set_option maxRecDepth 100000 in
theorem mf_X3_copyFrom : kMf mX3_copyFrom 1 := ⟨inT2 149 (by decide +kernel) rfl, inT1 5 (by decide +kernel) rfl, by decide +kernel, by decide +kernel⟩
set_option maxRecDepth 100000 in
theorem mv_X1_75 : kMV RX1 75 mX3_copyFrom 1 3 := ⟨inT2 146 (by decide +kernel) rfl, inT2 147 (by decide +kernel) rfl, inT2 148 (by decide +kernel) rfl, mf_X3_copyFrom, TX3, 5, rfl⟩
set_option maxRecDepth 100000 in
theorem mn_X3_24 : kMSN RX3 24 mX10_copyRow 2 "ExamMarker" := ⟨by decide +kernel, inT2 133 (by decide +kernel) rfl, mf_X10_copyRow⟩
set_option maxRecDepth 100000 in
theorem mf_X2_copyFrom : kMf mX2_copyFrom 1 := ⟨inT2 154 (by decide +kernel) rfl, inT1 6 (by decide +kernel) rfl, by decide +kernel, by decide +kernel⟩
set_option maxRecDepth 100000 in
theorem mv_X1_78 : kMV RX1 78 mX2_copyFrom 1 2 := ⟨inT2 151 (by decide +kernel) rfl, inT2 152 (by decide +kernel) rfl, inT2 153 (by decide +kernel) rfl, mf_X2_copyFrom, TX2, 3, rfl⟩
set_option maxRecDepth 100000 in
theorem mn_X2_18 : kMSN RX2 18 mX10_copyRow 2 "ExamMarker" := ⟨by decide +kernel, inT2 133 (by decide +kernel) rfl, mf_X10_copyRow⟩
set_option maxRecDepth 100000 in
theorem mf_X0_copyFrom : kMf mX0_copyFrom 1 := ⟨inT2 159 (by decide +kernel) rfl, inT1 7 (by decide +kernel) rfl, by decide +kernel, by decide +kernel⟩
set_option maxRecDepth 100000 in
theorem mv_X1_81 : kMV RX1 81 mX0_copyFrom 1 0 := ⟨inT2 156 (by decide +kernel) rfl, inT2 157 (by decide +kernel) rfl, inT2 158 (by decide +kernel) rfl, mf_X0_copyFrom, TX0, 4, rfl⟩
set_option maxRecDepth 100000 in
theorem mn_X0_21 : kMSN RX0 21 mX10_copyRow 2 "ExamMarker" := ⟨by decide +kernel, inT2 133 (by decide +kernel) rfl, mf_X10_copyRow⟩
set_option maxRecDepth 100000 in
theorem mf_X10_setMaximum : kMf mX10_setMaximum 2 := ⟨inT3 10 (by decide +kernel) rfl, inT1 1 (by decide +kernel) rfl, by decide +kernel, by decide +kernel⟩
set_option maxRecDepth 100000 in
theorem mv_L_7 : kMV RL 7 mX10_setMaximum 2 10 := ⟨inT3 7 (by decide +kernel) rfl, inT3 8 (by decide +kernel) rfl, inT3 9 (by decide +kernel) rfl, mf_X10_setMaximum, TX10, 9, rfl⟩
set_option maxRecDepth 100000 in
theorem mf_X10_requireQuestion : kMf mX10_requireQuestion 1 := ⟨inT3 13 (by decide +kernel) rfl, inT1 1 (by decide +kernel) rfl, by decide +kernel, by decide +kernel⟩
set_option maxRecDepth 100000 in
theorem ms_X10_57 : kMS RX10 57 mX10_requireQuestion 1 := ⟨inT3 11 (by decide +kernel) rfl, inT3 12 (by decide +kernel) rfl, mf_X10_requireQuestion⟩
set_option maxRecDepth 100000 in
theorem mf_X10_isBelow : kMf mX10_isBelow 2 := ⟨inT3 16 (by decide +kernel) rfl, inT1 1 (by decide +kernel) rfl, by decide +kernel, by decide +kernel⟩
set_option maxRecDepth 100000 in
theorem ms_X10_457 : kMS RX10 457 mX10_isBelow 2 := ⟨inT3 14 (by decide +kernel) rfl, inT3 15 (by decide +kernel) rfl, mf_X10_isBelow⟩
set_option maxRecDepth 100000 in
theorem mf_X10_requireRange : kMf mX10_requireRange 3 := ⟨inT3 32 (by decide +kernel) rfl, inT1 1 (by decide +kernel) rfl, by decide +kernel, by decide +kernel⟩
set_option maxRecDepth 100000 in
theorem ms_X10_61 : kMS RX10 61 mX10_requireRange 3 := ⟨inT3 30 (by decide +kernel) rfl, inT3 31 (by decide +kernel) rfl, mf_X10_requireRange⟩
set_option maxRecDepth 100000 in
theorem mf_X10_requireUnpublished : kMf mX10_requireUnpublished 0 := ⟨inT3 52 (by decide +kernel) rfl, inT1 1 (by decide +kernel) rfl, by decide +kernel, by decide +kernel⟩
set_option maxRecDepth 100000 in
theorem mv_X10_65 : kMV RX10 65 mX10_requireUnpublished 0 10 := ⟨inT3 49 (by decide +kernel) rfl, inT3 51 (by decide +kernel) rfl, inG 1 (by decide +kernel) rfl, mf_X10_requireUnpublished, TX10, 9, rfl⟩
set_option maxRecDepth 100000 in
theorem mf_X1_greatestMark : kMf mX1_greatestMark 1 := ⟨inT3 72 (by decide +kernel) rfl, inT1 2 (by decide +kernel) rfl, by decide +kernel, by decide +kernel⟩
set_option maxRecDepth 100000 in
theorem mv_X10_68 : kMV RX10 68 mX1_greatestMark 1 1 := ⟨inT3 69 (by decide +kernel) rfl, inT3 70 (by decide +kernel) rfl, inT3 71 (by decide +kernel) rfl, mf_X1_greatestMark, TX1, 12, rfl⟩
set_option maxRecDepth 100000 in
theorem mf_X3_greatestMark : kMf mX3_greatestMark 1 := ⟨inT3 76 (by decide +kernel) rfl, inT1 5 (by decide +kernel) rfl, by decide +kernel, by decide +kernel⟩
set_option maxRecDepth 100000 in
theorem mv_X1_92 : kMV RX1 92 mX3_greatestMark 1 3 := ⟨inT3 73 (by decide +kernel) rfl, inT3 74 (by decide +kernel) rfl, inT3 75 (by decide +kernel) rfl, mf_X3_greatestMark, TX3, 5, rfl⟩
set_option maxRecDepth 100000 in
theorem mf_X10_questionOf : kMf mX10_questionOf 1 := ⟨inT3 79 (by decide +kernel) rfl, inT1 1 (by decide +kernel) rfl, by decide +kernel, by decide +kernel⟩
set_option maxRecDepth 100000 in
theorem mn_X3_36 : kMSN RX3 36 mX10_questionOf 1 "ExamMarker" := ⟨by decide +kernel, inT3 78 (by decide +kernel) rfl, mf_X10_questionOf⟩
set_option maxRecDepth 100000 in
theorem mf_X7_greatestMark : kMf mX7_greatestMark 1 := ⟨inT3 86 (by decide +kernel) rfl, inT1 3 (by decide +kernel) rfl, by decide +kernel, by decide +kernel⟩
set_option maxRecDepth 100000 in
theorem mv_X1_96 : kMV RX1 96 mX7_greatestMark 1 7 := ⟨inT3 83 (by decide +kernel) rfl, inT3 84 (by decide +kernel) rfl, inT3 85 (by decide +kernel) rfl, mf_X7_greatestMark, TX7, 3, rfl⟩
set_option maxRecDepth 100000 in
theorem mf_X7_placeOf : kMf mX7_placeOf 3 := ⟨inT3 91 (by decide +kernel) rfl, inT1 3 (by decide +kernel) rfl, by decide +kernel, by decide +kernel⟩
set_option maxRecDepth 100000 in
theorem mv_X7_31 : kMV RX7 31 mX7_placeOf 3 7 := ⟨inT3 88 (by decide +kernel) rfl, inT3 90 (by decide +kernel) rfl, inG 2 (by decide +kernel) rfl, mf_X7_placeOf, TX7, 3, rfl⟩
set_option maxRecDepth 100000 in
theorem mf_X4_keep : kMf mX4_keep 1 := ⟨inT3 112 (by decide +kernel) rfl, inT1 8 (by decide +kernel) rfl, by decide +kernel, by decide +kernel⟩
set_option maxRecDepth 100000 in
theorem mv_X10_83 : kMV RX10 83 mX4_keep 1 4 := ⟨inT3 109 (by decide +kernel) rfl, inT3 110 (by decide +kernel) rfl, inT3 111 (by decide +kernel) rfl, mf_X4_keep, TX4, 3, rfl⟩
set_option maxRecDepth 100000 in
theorem mv_X4_25 : kMV RX4 25 mX1_copyFrom 1 1 := ⟨inT3 113 (by decide +kernel) rfl, inT2 129 (by decide +kernel) rfl, inT2 130 (by decide +kernel) rfl, mf_X1_copyFrom, TX1, 12, rfl⟩
set_option maxRecDepth 100000 in
theorem mf_X10_set : kMf mX10_set 2 := ⟨inT3 120 (by decide +kernel) rfl, inT1 1 (by decide +kernel) rfl, by decide +kernel, by decide +kernel⟩
set_option maxRecDepth 100000 in
theorem mv_L_21 : kMV RL 21 mX10_set 2 10 := ⟨inT3 117 (by decide +kernel) rfl, inT3 118 (by decide +kernel) rfl, inT3 119 (by decide +kernel) rfl, mf_X10_set, TX10, 9, rfl⟩
set_option maxRecDepth 100000 in
theorem mf_X10_addSeed : kMf mX10_addSeed 2 := ⟨inT3 132 (by decide +kernel) rfl, inT1 1 (by decide +kernel) rfl, by decide +kernel, by decide +kernel⟩
set_option maxRecDepth 100000 in
theorem mv_L_24 : kMV RL 24 mX10_addSeed 2 10 := ⟨inT3 129 (by decide +kernel) rfl, inT3 130 (by decide +kernel) rfl, inT3 131 (by decide +kernel) rfl, mf_X10_addSeed, TX10, 9, rfl⟩
set_option maxRecDepth 100000 in
theorem mf_X7_define : kMf mX7_define 2 := ⟨inT3 137 (by decide +kernel) rfl, inT1 3 (by decide +kernel) rfl, by decide +kernel, by decide +kernel⟩
set_option maxRecDepth 100000 in
theorem mv_X10_112 : kMV RX10 112 mX7_define 2 7 := ⟨inT3 134 (by decide +kernel) rfl, inT3 135 (by decide +kernel) rfl, inT3 136 (by decide +kernel) rfl, mf_X7_define, TX7, 3, rfl⟩
set_option maxRecDepth 100000 in
theorem mf_X10_markSeed : kMf mX10_markSeed 4 := ⟨inT3 144 (by decide +kernel) rfl, inT1 1 (by decide +kernel) rfl, by decide +kernel, by decide +kernel⟩
set_option maxRecDepth 100000 in
theorem mv_L_27 : kMV RL 27 mX10_markSeed 4 10 := ⟨inT3 141 (by decide +kernel) rfl, inT3 142 (by decide +kernel) rfl, inT3 143 (by decide +kernel) rfl, mf_X10_markSeed, TX10, 9, rfl⟩
set_option maxRecDepth 100000 in
theorem mf_X10_requireMarker : kMf mX10_requireMarker 1 := ⟨inT3 147 (by decide +kernel) rfl, inT1 1 (by decide +kernel) rfl, by decide +kernel, by decide +kernel⟩
set_option maxRecDepth 100000 in
theorem ms_X10_116 : kMS RX10 116 mX10_requireMarker 1 := ⟨inT3 145 (by decide +kernel) rfl, inT3 146 (by decide +kernel) rfl, mf_X10_requireMarker⟩
set_option maxRecDepth 100000 in
theorem mf_X7_isMarked : kMf mX7_isMarked 3 := ⟨inT3 153 (by decide +kernel) rfl, inT1 3 (by decide +kernel) rfl, by decide +kernel, by decide +kernel⟩
set_option maxRecDepth 100000 in
theorem mv_X10_121 : kMV RX10 121 mX7_isMarked 3 7 := ⟨inT3 150 (by decide +kernel) rfl, inT3 151 (by decide +kernel) rfl, inT3 152 (by decide +kernel) rfl, mf_X7_isMarked, TX7, 3, rfl⟩
set_option maxRecDepth 100000 in
theorem mf_X1_earn : kMf mX1_earn 2 := ⟨inT3 158 (by decide +kernel) rfl, inT1 2 (by decide +kernel) rfl, by decide +kernel, by decide +kernel⟩
set_option maxRecDepth 100000 in
theorem mv_X10_127 : kMV RX10 127 mX1_earn 2 1 := ⟨inT3 155 (by decide +kernel) rfl, inT3 156 (by decide +kernel) rfl, inT3 157 (by decide +kernel) rfl, mf_X1_earn, TX1, 12, rfl⟩
set_option maxRecDepth 100000 in
theorem mf_X7_give : kMf mX7_give 4 := ⟨inT3 162 (by decide +kernel) rfl, inT1 3 (by decide +kernel) rfl, by decide +kernel, by decide +kernel⟩
set_option maxRecDepth 100000 in
theorem mv_X10_131 : kMV RX10 131 mX7_give 4 7 := ⟨inT3 159 (by decide +kernel) rfl, inT3 160 (by decide +kernel) rfl, inT3 161 (by decide +kernel) rfl, mf_X7_give, TX7, 3, rfl⟩
set_option maxRecDepth 100000 in
theorem mf_X10_correction : kMf mX10_correction 2 := ⟨inT3 169 (by decide +kernel) rfl, inT1 1 (by decide +kernel) rfl, by decide +kernel, by decide +kernel⟩
set_option maxRecDepth 100000 in
theorem mv_L_31 : kMV RL 31 mX10_correction 2 10 := ⟨inT3 166 (by decide +kernel) rfl, inT3 167 (by decide +kernel) rfl, inT3 168 (by decide +kernel) rfl, mf_X10_correction, TX10, 9, rfl⟩
set_option maxRecDepth 100000 in
theorem mf_X7_correctionOf : kMf mX7_correctionOf 3 := ⟨inT3 173 (by decide +kernel) rfl, inT1 3 (by decide +kernel) rfl, by decide +kernel, by decide +kernel⟩
set_option maxRecDepth 100000 in
theorem mv_X10_135 : kMV RX10 135 mX7_correctionOf 3 7 := ⟨inT3 170 (by decide +kernel) rfl, inT3 171 (by decide +kernel) rfl, inT3 172 (by decide +kernel) rfl, mf_X7_correctionOf, TX7, 3, rfl⟩
set_option maxRecDepth 100000 in
theorem mf_X10_isSuspended : kMf mX10_isSuspended 2 := ⟨inT3 183 (by decide +kernel) rfl, inT1 1 (by decide +kernel) rfl, by decide +kernel, by decide +kernel⟩
set_option maxRecDepth 100000 in
theorem mv_L_34 : kMV RL 34 mX10_isSuspended 2 10 := ⟨inT3 180 (by decide +kernel) rfl, inT3 181 (by decide +kernel) rfl, inT3 182 (by decide +kernel) rfl, mf_X10_isSuspended, TX10, 9, rfl⟩
set_option maxRecDepth 100000 in
theorem mf_X7_strays : kMf mX7_strays 3 := ⟨inT3 187 (by decide +kernel) rfl, inT1 3 (by decide +kernel) rfl, by decide +kernel, by decide +kernel⟩
set_option maxRecDepth 100000 in
theorem mv_X10_139 : kMV RX10 139 mX7_strays 3 7 := ⟨inT3 184 (by decide +kernel) rfl, inT3 185 (by decide +kernel) rfl, inT3 186 (by decide +kernel) rfl, mf_X7_strays, TX7, 3, rfl⟩
set_option maxRecDepth 100000 in
theorem mf_X10_distanceOf : kMf mX10_distanceOf 2 := ⟨inT3 190 (by decide +kernel) rfl, inT1 1 (by decide +kernel) rfl, by decide +kernel, by decide +kernel⟩
set_option maxRecDepth 100000 in
theorem mn_X7_45 : kMSN RX7 45 mX10_distanceOf 2 "ExamMarker" := ⟨by decide +kernel, inT3 189 (by decide +kernel) rfl, mf_X10_distanceOf⟩
set_option maxRecDepth 100000 in
theorem mf_X10_enter : kMf mX10_enter 4 := ⟨inT3 197 (by decide +kernel) rfl, inT1 1 (by decide +kernel) rfl, by decide +kernel, by decide +kernel⟩
set_option maxRecDepth 100000 in
theorem mv_L_38 : kMV RL 38 mX10_enter 4 10 := ⟨inT3 194 (by decide +kernel) rfl, inT3 195 (by decide +kernel) rfl, inT3 196 (by decide +kernel) rfl, mf_X10_enter, TX10, 9, rfl⟩
set_option maxRecDepth 100000 in
theorem mf_X10_requireScript : kMf mX10_requireScript 2 := ⟨inT3 200 (by decide +kernel) rfl, inT1 1 (by decide +kernel) rfl, by decide +kernel, by decide +kernel⟩
set_option maxRecDepth 100000 in
theorem ms_X10_142 : kMS RX10 142 mX10_requireScript 2 := ⟨inT3 198 (by decide +kernel) rfl, inT3 199 (by decide +kernel) rfl, mf_X10_requireScript⟩
set_option maxRecDepth 100000 in
theorem mf_X10_requireCandidate : kMf mX10_requireCandidate 1 := ⟨inT3 203 (by decide +kernel) rfl, inT1 1 (by decide +kernel) rfl, by decide +kernel, by decide +kernel⟩
set_option maxRecDepth 100000 in
theorem ms_X10_257 : kMS RX10 257 mX10_requireCandidate 1 := ⟨inT3 201 (by decide +kernel) rfl, inT3 202 (by decide +kernel) rfl, mf_X10_requireCandidate⟩
set_option maxRecDepth 100000 in
theorem mf_X10_requireNotNegative : kMf mX10_requireNotNegative 1 := ⟨inT3 207 (by decide +kernel) rfl, inT1 1 (by decide +kernel) rfl, by decide +kernel, by decide +kernel⟩
set_option maxRecDepth 100000 in
theorem ms_X10_145 : kMS RX10 145 mX10_requireNotNegative 1 := ⟨inT3 205 (by decide +kernel) rfl, inT3 206 (by decide +kernel) rfl, mf_X10_requireNotNegative⟩
set_option maxRecDepth 100000 in
theorem mf_X10_scriptOf : kMf mX10_scriptOf 2 := ⟨inT3 211 (by decide +kernel) rfl, inT1 1 (by decide +kernel) rfl, by decide +kernel, by decide +kernel⟩
set_option maxRecDepth 100000 in
theorem ms_X10_148 : kMS RX10 148 mX10_scriptOf 2 := ⟨inT3 209 (by decide +kernel) rfl, inT3 210 (by decide +kernel) rfl, mf_X10_scriptOf⟩
set_option maxRecDepth 100000 in
theorem mf_X10_refusesEntry : kMf mX10_refusesEntry 5 := ⟨inT3 215 (by decide +kernel) rfl, inT1 1 (by decide +kernel) rfl, by decide +kernel, by decide +kernel⟩
set_option maxRecDepth 100000 in
theorem mv_X10_151 : kMV RX10 151 mX10_refusesEntry 5 10 := ⟨inT3 212 (by decide +kernel) rfl, inT3 214 (by decide +kernel) rfl, inG 3 (by decide +kernel) rfl, mf_X10_refusesEntry, TX10, 9, rfl⟩
set_option maxRecDepth 100000 in
theorem mf_X6_tell : kMf mX6_tell 4 := ⟨inT3 219 (by decide +kernel) rfl, inT1 10 (by decide +kernel) rfl, by decide +kernel, by decide +kernel⟩
set_option maxRecDepth 100000 in
theorem mv_X10_474 : kMV RX10 474 mX6_tell 4 6 := ⟨inT3 216 (by decide +kernel) rfl, inT3 217 (by decide +kernel) rfl, inT3 218 (by decide +kernel) rfl, mf_X6_tell, TX6, 3, rfl⟩
set_option maxRecDepth 100000 in
theorem mf_X3_hasEntryBy : kMf mX3_hasEntryBy 2 := ⟨inT3 223 (by decide +kernel) rfl, inT1 5 (by decide +kernel) rfl, by decide +kernel, by decide +kernel⟩
set_option maxRecDepth 100000 in
theorem mv_X10_477 : kMV RX10 477 mX3_hasEntryBy 2 3 := ⟨inT3 220 (by decide +kernel) rfl, inT3 221 (by decide +kernel) rfl, inT3 222 (by decide +kernel) rfl, mf_X3_hasEntryBy, TX3, 5, rfl⟩
set_option maxRecDepth 100000 in
theorem mf_X3_isBy : kMf mX3_isBy 2 := ⟨inT3 227 (by decide +kernel) rfl, inT1 5 (by decide +kernel) rfl, by decide +kernel, by decide +kernel⟩
set_option maxRecDepth 100000 in
theorem mv_X3_32 : kMV RX3 32 mX3_isBy 2 3 := ⟨inT3 224 (by decide +kernel) rfl, inT3 225 (by decide +kernel) rfl, inT3 226 (by decide +kernel) rfl, mf_X3_isBy, TX3, 5, rfl⟩
set_option maxRecDepth 100000 in
theorem mf_X1_hasAgreement : kMf mX1_hasAgreement 1 := ⟨inT3 231 (by decide +kernel) rfl, inT1 2 (by decide +kernel) rfl, by decide +kernel, by decide +kernel⟩
set_option maxRecDepth 100000 in
theorem mv_X10_480 : kMV RX10 480 mX1_hasAgreement 1 1 := ⟨inT3 228 (by decide +kernel) rfl, inT3 229 (by decide +kernel) rfl, inT3 230 (by decide +kernel) rfl, mf_X1_hasAgreement, TX1, 12, rfl⟩
set_option maxRecDepth 100000 in
theorem mf_X1_readValidValues : kMf mX1_readValidValues 1 := ⟨inT3 235 (by decide +kernel) rfl, inT1 2 (by decide +kernel) rfl, by decide +kernel, by decide +kernel⟩
set_option maxRecDepth 100000 in
theorem mv_X1_147 : kMV RX1 147 mX1_readValidValues 1 1 := ⟨inT3 232 (by decide +kernel) rfl, inT3 233 (by decide +kernel) rfl, inT3 234 (by decide +kernel) rfl, mf_X1_readValidValues, TX1, 12, rfl⟩
set_option maxRecDepth 100000 in
theorem mf_X1_isValid : kMf mX1_isValid 1 := ⟨inT3 239 (by decide +kernel) rfl, inT1 2 (by decide +kernel) rfl, by decide +kernel, by decide +kernel⟩
set_option maxRecDepth 100000 in
theorem mv_X1_137 : kMV RX1 137 mX1_isValid 1 1 := ⟨inT3 236 (by decide +kernel) rfl, inT3 237 (by decide +kernel) rfl, inT3 238 (by decide +kernel) rfl, mf_X1_isValid, TX1, 12, rfl⟩
set_option maxRecDepth 100000 in
theorem mn_X1_114 : kMSN RX1 114 mX10_isBelow 2 "ExamMarker" := ⟨by decide +kernel, inT3 15 (by decide +kernel) rfl, mf_X10_isBelow⟩
set_option maxRecDepth 100000 in
theorem mn_X1_118 : kMSN RX1 118 mX10_questionOf 1 "ExamMarker" := ⟨by decide +kernel, inT3 78 (by decide +kernel) rfl, mf_X10_questionOf⟩
set_option maxRecDepth 100000 in
theorem mv_X1_121 : kMV RX1 121 mX7_strays 3 7 := ⟨inT4 2 (by decide +kernel) rfl, inT3 185 (by decide +kernel) rfl, inT3 186 (by decide +kernel) rfl, mf_X7_strays, TX7, 3, rfl⟩
set_option maxRecDepth 100000 in
theorem mf_X1_valueOf : kMf mX1_valueOf 1 := ⟨inT4 6 (by decide +kernel) rfl, inT1 2 (by decide +kernel) rfl, by decide +kernel, by decide +kernel⟩
set_option maxRecDepth 100000 in
theorem mv_X1_141 : kMV RX1 141 mX1_valueOf 1 1 := ⟨inT4 3 (by decide +kernel) rfl, inT4 4 (by decide +kernel) rfl, inT4 5 (by decide +kernel) rfl, mf_X1_valueOf, TX1, 12, rfl⟩
set_option maxRecDepth 100000 in
theorem mv_X1_128 : kMV RX1 128 mX7_correctionOf 3 7 := ⟨inT4 7 (by decide +kernel) rfl, inT3 171 (by decide +kernel) rfl, inT3 172 (by decide +kernel) rfl, mf_X7_correctionOf, TX7, 3, rfl⟩
set_option maxRecDepth 100000 in
theorem mf_X1_agree : kMf mX1_agree 2 := ⟨inT4 12 (by decide +kernel) rfl, inT1 2 (by decide +kernel) rfl, by decide +kernel, by decide +kernel⟩
set_option maxRecDepth 100000 in
theorem mv_X1_150 : kMV RX1 150 mX1_agree 2 1 := ⟨inT4 9 (by decide +kernel) rfl, inT4 10 (by decide +kernel) rfl, inT4 11 (by decide +kernel) rfl, mf_X1_agree, TX1, 12, rfl⟩
set_option maxRecDepth 100000 in
theorem mn_X1_144 : kMSN RX1 144 mX10_distanceOf 2 "ExamMarker" := ⟨by decide +kernel, inT3 189 (by decide +kernel) rfl, mf_X10_distanceOf⟩
set_option maxRecDepth 100000 in
theorem mf_X1_makeEntry : kMf mX1_makeEntry 3 := ⟨inT4 18 (by decide +kernel) rfl, inT1 2 (by decide +kernel) rfl, by decide +kernel, by decide +kernel⟩
set_option maxRecDepth 100000 in
theorem mv_X10_160 : kMV RX10 160 mX1_makeEntry 3 1 := ⟨inT4 15 (by decide +kernel) rfl, inT4 16 (by decide +kernel) rfl, inT4 17 (by decide +kernel) rfl, mf_X1_makeEntry, TX1, 12, rfl⟩
set_option maxRecDepth 100000 in
theorem mv_X1_103 : kMV RX1 103 mX1_earn 2 1 := ⟨inT4 19 (by decide +kernel) rfl, inT3 156 (by decide +kernel) rfl, inT3 157 (by decide +kernel) rfl, mf_X1_earn, TX1, 12, rfl⟩
set_option maxRecDepth 100000 in
theorem mf_X3_put : kMf mX3_put 3 := ⟨inT4 23 (by decide +kernel) rfl, inT1 5 (by decide +kernel) rfl, by decide +kernel, by decide +kernel⟩
set_option maxRecDepth 100000 in
theorem mv_X1_107 : kMV RX1 107 mX3_put 3 3 := ⟨inT4 20 (by decide +kernel) rfl, inT4 21 (by decide +kernel) rfl, inT4 22 (by decide +kernel) rfl, mf_X3_put, TX3, 5, rfl⟩
set_option maxRecDepth 100000 in
theorem mf_X10_append : kMf mX10_append 1 := ⟨inT4 30 (by decide +kernel) rfl, inT1 1 (by decide +kernel) rfl, by decide +kernel, by decide +kernel⟩
set_option maxRecDepth 100000 in
theorem mv_L_41 : kMV RL 41 mX10_append 1 10 := ⟨inT4 27 (by decide +kernel) rfl, inT4 28 (by decide +kernel) rfl, inT4 29 (by decide +kernel) rfl, mf_X10_append, TX10, 9, rfl⟩
set_option maxRecDepth 100000 in
theorem mf_X8_store : kMf mX8_store 1 := ⟨inT4 35 (by decide +kernel) rfl, inT1 9 (by decide +kernel) rfl, by decide +kernel, by decide +kernel⟩
set_option maxRecDepth 100000 in
theorem mv_X10_169 : kMV RX10 169 mX8_store 1 8 := ⟨inT4 32 (by decide +kernel) rfl, inT4 33 (by decide +kernel) rfl, inT4 34 (by decide +kernel) rfl, mf_X8_store, TX8, 9, rfl⟩
set_option maxRecDepth 100000 in
theorem mf_X10_sheet : kMf mX10_sheet 0 := ⟨inT4 42 (by decide +kernel) rfl, inT1 1 (by decide +kernel) rfl, by decide +kernel, by decide +kernel⟩
set_option maxRecDepth 100000 in
theorem mv_L_45 : kMV RL 45 mX10_sheet 0 10 := ⟨inT4 39 (by decide +kernel) rfl, inT4 40 (by decide +kernel) rfl, inT4 41 (by decide +kernel) rfl, mf_X10_sheet, TX10, 9, rfl⟩
set_option maxRecDepth 100000 in
theorem mf_X8_readAndClear : kMf mX8_readAndClear 0 := ⟨inT4 46 (by decide +kernel) rfl, inT1 9 (by decide +kernel) rfl, by decide +kernel, by decide +kernel⟩
set_option maxRecDepth 100000 in
theorem mv_X10_172 : kMV RX10 172 mX8_readAndClear 0 8 := ⟨inT4 43 (by decide +kernel) rfl, inT4 44 (by decide +kernel) rfl, inT4 45 (by decide +kernel) rfl, mf_X8_readAndClear, TX8, 9, rfl⟩
set_option maxRecDepth 100000 in
theorem mf_X8_positionOfError : kMf mX8_positionOfError 0 := ⟨inT4 50 (by decide +kernel) rfl, inT1 9 (by decide +kernel) rfl, by decide +kernel, by decide +kernel⟩
set_option maxRecDepth 100000 in
theorem mv_X8_35 : kMV RX8 35 mX8_positionOfError 0 8 := ⟨inT4 47 (by decide +kernel) rfl, inT4 49 (by decide +kernel) rfl, inG 4 (by decide +kernel) rfl, mf_X8_positionOfError, TX8, 9, rfl⟩
set_option maxRecDepth 100000 in
theorem mf_X8_accepts : kMf mX8_accepts 1 := ⟨inT4 54 (by decide +kernel) rfl, inT1 9 (by decide +kernel) rfl, by decide +kernel, by decide +kernel⟩
set_option maxRecDepth 100000 in
theorem mv_X8_39 : kMV RX8 39 mX8_accepts 1 8 := ⟨inT4 51 (by decide +kernel) rfl, inT4 53 (by decide +kernel) rfl, inG 5 (by decide +kernel) rfl, mf_X8_accepts, TX8, 9, rfl⟩
set_option maxRecDepth 100000 in
theorem mn_X8_46 : kMSN RX8 46 mX10_isBelow 2 "ExamMarker" := ⟨by decide +kernel, inT3 15 (by decide +kernel) rfl, mf_X10_isBelow⟩
set_option maxRecDepth 100000 in
theorem mf_X8_goesOn : kMf mX8_goesOn 2 := ⟨inT4 59 (by decide +kernel) rfl, inT1 9 (by decide +kernel) rfl, by decide +kernel, by decide +kernel⟩
set_option maxRecDepth 100000 in
theorem mv_X8_50 : kMV RX8 50 mX8_goesOn 2 8 := ⟨inT4 56 (by decide +kernel) rfl, inT4 58 (by decide +kernel) rfl, inG 6 (by decide +kernel) rfl, mf_X8_goesOn, TX8, 9, rfl⟩
set_option maxRecDepth 100000 in
theorem mf_X8_startsEntry : kMf mX8_startsEntry 1 := ⟨inT4 63 (by decide +kernel) rfl, inT1 9 (by decide +kernel) rfl, by decide +kernel, by decide +kernel⟩
set_option maxRecDepth 100000 in
theorem mv_X8_57 : kMV RX8 57 mX8_startsEntry 1 8 := ⟨inT4 60 (by decide +kernel) rfl, inT4 62 (by decide +kernel) rfl, inG 7 (by decide +kernel) rfl, mf_X8_startsEntry, TX8, 9, rfl⟩
set_option maxRecDepth 100000 in
theorem mf_X8_takesDigit : kMf mX8_takesDigit 2 := ⟨inT4 67 (by decide +kernel) rfl, inT1 9 (by decide +kernel) rfl, by decide +kernel, by decide +kernel⟩
set_option maxRecDepth 100000 in
theorem mv_X8_61 : kMV RX8 61 mX8_takesDigit 2 8 := ⟨inT4 64 (by decide +kernel) rfl, inT4 66 (by decide +kernel) rfl, inG 8 (by decide +kernel) rfl, mf_X8_takesDigit, TX8, 9, rfl⟩
set_option maxRecDepth 100000 in
theorem mf_X10_entry : kMf mX10_entry 4 := ⟨inT4 77 (by decide +kernel) rfl, inT1 1 (by decide +kernel) rfl, by decide +kernel, by decide +kernel⟩
set_option maxRecDepth 100000 in
theorem mv_L_49 : kMV RL 49 mX10_entry 4 10 := ⟨inT4 74 (by decide +kernel) rfl, inT4 75 (by decide +kernel) rfl, inT4 76 (by decide +kernel) rfl, mf_X10_entry, TX10, 9, rfl⟩
set_option maxRecDepth 100000 in
theorem mv_X10_218 : kMV RX10 218 mX1_valueOf 1 1 := ⟨inT4 94 (by decide +kernel) rfl, inT4 4 (by decide +kernel) rfl, inT4 5 (by decide +kernel) rfl, mf_X1_valueOf, TX1, 12, rfl⟩
set_option maxRecDepth 100000 in
theorem mv_X10_221 : kMV RX10 221 mX1_isValid 1 1 := ⟨inT4 95 (by decide +kernel) rfl, inT3 237 (by decide +kernel) rfl, inT3 238 (by decide +kernel) rfl, mf_X1_isValid, TX1, 12, rfl⟩
set_option maxRecDepth 100000 in
theorem mf_X10_script : kMf mX10_script 3 := ⟨inT4 102 (by decide +kernel) rfl, inT1 1 (by decide +kernel) rfl, by decide +kernel, by decide +kernel⟩
set_option maxRecDepth 100000 in
theorem mv_L_54 : kMV RL 54 mX10_script 3 10 := ⟨inT4 99 (by decide +kernel) rfl, inT4 100 (by decide +kernel) rfl, inT4 101 (by decide +kernel) rfl, mf_X10_script, TX10, 9, rfl⟩
set_option maxRecDepth 100000 in
theorem mf_X1_settledOf : kMf mX1_settledOf 1 := ⟨inT4 106 (by decide +kernel) rfl, inT1 2 (by decide +kernel) rfl, by decide +kernel, by decide +kernel⟩
set_option maxRecDepth 100000 in
theorem mv_X10_225 : kMV RX10 225 mX1_settledOf 1 1 := ⟨inT4 103 (by decide +kernel) rfl, inT4 104 (by decide +kernel) rfl, inT4 105 (by decide +kernel) rfl, mf_X1_settledOf, TX1, 12, rfl⟩
set_option maxRecDepth 100000 in
theorem mf_X10_halfWithNearer : kMf mX10_halfWithNearer 3 := ⟨inT4 109 (by decide +kernel) rfl, inT1 1 (by decide +kernel) rfl, by decide +kernel, by decide +kernel⟩
set_option maxRecDepth 100000 in
theorem mn_X1_157 : kMSN RX1 157 mX10_halfWithNearer 3 "ExamMarker" := ⟨by decide +kernel, inT4 108 (by decide +kernel) rfl, mf_X10_halfWithNearer⟩
set_option maxRecDepth 100000 in
theorem ms_X10_493 : kMS RX10 493 mX10_distanceOf 2 := ⟨inT4 110 (by decide +kernel) rfl, inT3 189 (by decide +kernel) rfl, mf_X10_distanceOf⟩
set_option maxRecDepth 100000 in
theorem mv_X10_228 : kMV RX10 228 mX1_readValidValues 1 1 := ⟨inT4 112 (by decide +kernel) rfl, inT3 233 (by decide +kernel) rfl, inT3 234 (by decide +kernel) rfl, mf_X1_readValidValues, TX1, 12, rfl⟩
set_option maxRecDepth 100000 in
theorem mf_X1_standingOf : kMf mX1_standingOf 1 := ⟨inT4 116 (by decide +kernel) rfl, inT1 2 (by decide +kernel) rfl, by decide +kernel, by decide +kernel⟩
set_option maxRecDepth 100000 in
theorem mv_X10_231 : kMV RX10 231 mX1_standingOf 1 1 := ⟨inT4 113 (by decide +kernel) rfl, inT4 114 (by decide +kernel) rfl, inT4 115 (by decide +kernel) rfl, mf_X1_standingOf, TX1, 12, rfl⟩
set_option maxRecDepth 100000 in
theorem mf_X10_excuse : kMf mX10_excuse 3 := ⟨inT4 123 (by decide +kernel) rfl, inT1 1 (by decide +kernel) rfl, by decide +kernel, by decide +kernel⟩
set_option maxRecDepth 100000 in
theorem mv_L_58 : kMV RL 58 mX10_excuse 3 10 := ⟨inT4 120 (by decide +kernel) rfl, inT4 121 (by decide +kernel) rfl, inT4 122 (by decide +kernel) rfl, mf_X10_excuse, TX10, 9, rfl⟩
set_option maxRecDepth 100000 in
theorem mf_X1_isExcused : kMf mX1_isExcused 2 := ⟨inT4 127 (by decide +kernel) rfl, inT1 2 (by decide +kernel) rfl, by decide +kernel, by decide +kernel⟩
set_option maxRecDepth 100000 in
theorem mv_X10_243 : kMV RX10 243 mX1_isExcused 2 1 := ⟨inT4 124 (by decide +kernel) rfl, inT4 125 (by decide +kernel) rfl, inT4 126 (by decide +kernel) rfl, mf_X1_isExcused, TX1, 12, rfl⟩
set_option maxRecDepth 100000 in
theorem mf_J6_bitCount_0f7a4 : kMf mJ6_bitCount_0f7a4 1 := ⟨inT4 130 (by decide +kernel) rfl, inT1 27 (by decide +kernel) rfl, by decide +kernel, by decide +kernel⟩
set_option maxRecDepth 100000 in
theorem ms_X10_250 : kMS RX10 250 mJ6_bitCount_0f7a4 1 := ⟨inT4 128 (by decide +kernel) rfl, inT4 129 (by decide +kernel) rfl, mf_J6_bitCount_0f7a4⟩
set_option maxRecDepth 100000 in
theorem mf_X10_raise : kMf mX10_raise 2 := ⟨inT4 141 (by decide +kernel) rfl, inT1 1 (by decide +kernel) rfl, by decide +kernel, by decide +kernel⟩
set_option maxRecDepth 100000 in
theorem mv_L_62 : kMV RL 62 mX10_raise 2 10 := ⟨inT4 138 (by decide +kernel) rfl, inT4 139 (by decide +kernel) rfl, inT4 140 (by decide +kernel) rfl, mf_X10_raise, TX10, 9, rfl⟩
set_option maxRecDepth 100000 in
theorem mf_X10_setPoint : kMf mX10_setPoint 2 := ⟨inT4 148 (by decide +kernel) rfl, inT1 1 (by decide +kernel) rfl, by decide +kernel, by decide +kernel⟩
set_option maxRecDepth 100000 in
theorem mv_L_65 : kMV RL 65 mX10_setPoint 2 10 := ⟨inT4 145 (by decide +kernel) rfl, inT4 146 (by decide +kernel) rfl, inT4 147 (by decide +kernel) rfl, mf_X10_setPoint, TX10, 9, rfl⟩
set_option maxRecDepth 100000 in
theorem mf_X2_indexOf : kMf mX2_indexOf 1 := ⟨inT4 152 (by decide +kernel) rfl, inT1 6 (by decide +kernel) rfl, by decide +kernel, by decide +kernel⟩
set_option maxRecDepth 100000 in
theorem mv_X10_272 : kMV RX10 272 mX2_indexOf 1 2 := ⟨inT4 149 (by decide +kernel) rfl, inT4 150 (by decide +kernel) rfl, inT4 151 (by decide +kernel) rfl, mf_X2_indexOf, TX2, 3, rfl⟩
set_option maxRecDepth 100000 in
theorem mf_X2_put : kMf mX2_put 2 := ⟨inT4 157 (by decide +kernel) rfl, inT1 6 (by decide +kernel) rfl, by decide +kernel, by decide +kernel⟩
set_option maxRecDepth 100000 in
theorem mv_X10_277 : kMV RX10 277 mX2_put 2 2 := ⟨inT4 154 (by decide +kernel) rfl, inT4 155 (by decide +kernel) rfl, inT4 156 (by decide +kernel) rfl, mf_X2_put, TX2, 3, rfl⟩
set_option maxRecDepth 100000 in
theorem mv_X2_26 : kMV RX2 26 mX2_indexOf 1 2 := ⟨inT4 158 (by decide +kernel) rfl, inT4 150 (by decide +kernel) rfl, inT4 151 (by decide +kernel) rfl, mf_X2_indexOf, TX2, 3, rfl⟩
set_option maxRecDepth 100000 in
theorem mf_X10_removePoint : kMf mX10_removePoint 1 := ⟨inT4 165 (by decide +kernel) rfl, inT1 1 (by decide +kernel) rfl, by decide +kernel, by decide +kernel⟩
set_option maxRecDepth 100000 in
theorem mv_L_68 : kMV RL 68 mX10_removePoint 1 10 := ⟨inT4 162 (by decide +kernel) rfl, inT4 163 (by decide +kernel) rfl, inT4 164 (by decide +kernel) rfl, mf_X10_removePoint, TX10, 9, rfl⟩
set_option maxRecDepth 100000 in
theorem mf_X2_takeAway : kMf mX2_takeAway 1 := ⟨inT4 170 (by decide +kernel) rfl, inT1 6 (by decide +kernel) rfl, by decide +kernel, by decide +kernel⟩
set_option maxRecDepth 100000 in
theorem mv_X10_282 : kMV RX10 282 mX2_takeAway 1 2 := ⟨inT4 167 (by decide +kernel) rfl, inT4 168 (by decide +kernel) rfl, inT4 169 (by decide +kernel) rfl, mf_X2_takeAway, TX2, 3, rfl⟩
set_option maxRecDepth 100000 in
theorem mf_X10_curve : kMf mX10_curve 1 := ⟨inT4 177 (by decide +kernel) rfl, inT1 1 (by decide +kernel) rfl, by decide +kernel, by decide +kernel⟩
set_option maxRecDepth 100000 in
theorem mv_L_71 : kMV RL 71 mX10_curve 1 10 := ⟨inT4 174 (by decide +kernel) rfl, inT4 175 (by decide +kernel) rfl, inT4 176 (by decide +kernel) rfl, mf_X10_curve, TX10, 9, rfl⟩
set_option maxRecDepth 100000 in
theorem mf_X1_fullMaximum : kMf mX1_fullMaximum 0 := ⟨inT4 181 (by decide +kernel) rfl, inT1 2 (by decide +kernel) rfl, by decide +kernel, by decide +kernel⟩
set_option maxRecDepth 100000 in
theorem mv_X10_285 : kMV RX10 285 mX1_fullMaximum 0 1 := ⟨inT4 178 (by decide +kernel) rfl, inT4 179 (by decide +kernel) rfl, inT4 180 (by decide +kernel) rfl, mf_X1_fullMaximum, TX1, 12, rfl⟩
set_option maxRecDepth 100000 in
theorem mf_X10_sumOf : kMf mX10_sumOf 1 := ⟨inT4 184 (by decide +kernel) rfl, inT1 1 (by decide +kernel) rfl, by decide +kernel, by decide +kernel⟩
set_option maxRecDepth 100000 in
theorem mn_X1_88 : kMSN RX1 88 mX10_sumOf 1 "ExamMarker" := ⟨by decide +kernel, inT4 183 (by decide +kernel) rfl, mf_X10_sumOf⟩
set_option maxRecDepth 100000 in
theorem mf_X2_scale : kMf mX2_scale 3 := ⟨inT4 188 (by decide +kernel) rfl, inT1 6 (by decide +kernel) rfl, by decide +kernel, by decide +kernel⟩
set_option maxRecDepth 100000 in
theorem mv_X10_294 : kMV RX10 294 mX2_scale 3 2 := ⟨inT4 185 (by decide +kernel) rfl, inT4 186 (by decide +kernel) rfl, inT4 187 (by decide +kernel) rfl, mf_X2_scale, TX2, 3, rfl⟩
set_option maxRecDepth 100000 in
theorem mf_X2_round : kMf mX2_round 2 := ⟨inT4 192 (by decide +kernel) rfl, inT1 6 (by decide +kernel) rfl, by decide +kernel, by decide +kernel⟩
set_option maxRecDepth 100000 in
theorem ms_X2_32 : kMS RX2 32 mX2_round 2 := ⟨inT4 190 (by decide +kernel) rfl, inT4 191 (by decide +kernel) rfl, mf_X2_round⟩
set_option maxRecDepth 100000 in
theorem mf_J9_floorDiv_f86c9 : kMf mJ9_floorDiv_f86c9 2 := ⟨inT4 196 (by decide +kernel) rfl, inT1 22 (by decide +kernel) rfl, by decide +kernel, by decide +kernel⟩
set_option maxRecDepth 100000 in
theorem ms_X2_38 : kMS RX2 38 mJ9_floorDiv_f86c9 2 := ⟨inT4 194 (by decide +kernel) rfl, inT4 195 (by decide +kernel) rfl, mf_J9_floorDiv_f86c9⟩
set_option maxRecDepth 100000 in
theorem mf_X10_setBoundary : kMf mX10_setBoundary 2 := ⟨inT4 203 (by decide +kernel) rfl, inT1 1 (by decide +kernel) rfl, by decide +kernel, by decide +kernel⟩
set_option maxRecDepth 100000 in
theorem mv_L_74 : kMV RL 74 mX10_setBoundary 2 10 := ⟨inT4 200 (by decide +kernel) rfl, inT4 201 (by decide +kernel) rfl, inT4 202 (by decide +kernel) rfl, mf_X10_setBoundary, TX10, 9, rfl⟩
set_option maxRecDepth 100000 in
theorem mf_X10_result : kMf mX10_result 2 := ⟨inT4 211 (by decide +kernel) rfl, inT1 1 (by decide +kernel) rfl, by decide +kernel, by decide +kernel⟩
set_option maxRecDepth 100000 in
theorem mv_L_77 : kMV RL 77 mX10_result 2 10 := ⟨inT4 208 (by decide +kernel) rfl, inT4 209 (by decide +kernel) rfl, inT4 210 (by decide +kernel) rfl, mf_X10_result, TX10, 9, rfl⟩
set_option maxRecDepth 100000 in
theorem mf_X10_requireGrade : kMf mX10_requireGrade 1 := ⟨inT4 215 (by decide +kernel) rfl, inT1 1 (by decide +kernel) rfl, by decide +kernel, by decide +kernel⟩
set_option maxRecDepth 100000 in
theorem mv_X10_303 : kMV RX10 303 mX10_requireGrade 1 10 := ⟨inT4 212 (by decide +kernel) rfl, inT4 214 (by decide +kernel) rfl, inG 9 (by decide +kernel) rfl, mf_X10_requireGrade, TX10, 9, rfl⟩
set_option maxRecDepth 100000 in
theorem mf_X1_hasGrade : kMf mX1_hasGrade 1 := ⟨inT4 219 (by decide +kernel) rfl, inT1 2 (by decide +kernel) rfl, by decide +kernel, by decide +kernel⟩
set_option maxRecDepth 100000 in
theorem mv_X10_330 : kMV RX10 330 mX1_hasGrade 1 1 := ⟨inT4 216 (by decide +kernel) rfl, inT4 217 (by decide +kernel) rfl, inT4 218 (by decide +kernel) rfl, mf_X1_hasGrade, TX1, 12, rfl⟩
set_option maxRecDepth 100000 in
theorem mn_X1_160 : kMSN RX1 160 mX10_scriptOf 2 "ExamMarker" := ⟨by decide +kernel, inT3 210 (by decide +kernel) rfl, mf_X10_scriptOf⟩
set_option maxRecDepth 100000 in
theorem mf_X5_find : kMf mX5_find 2 := ⟨inT4 225 (by decide +kernel) rfl, inT1 12 (by decide +kernel) rfl, by decide +kernel, by decide +kernel⟩
set_option maxRecDepth 100000 in
theorem mv_X10_306 : kMV RX10 306 mX5_find 2 5 := ⟨inT4 222 (by decide +kernel) rfl, inT4 223 (by decide +kernel) rfl, inT4 224 (by decide +kernel) rfl, mf_X5_find, TX5, 6, rfl⟩
set_option maxRecDepth 100000 in
theorem mn_X5_19 : kMSN RX5 19 mX10_scriptOf 2 "ExamMarker" := ⟨by decide +kernel, inT3 210 (by decide +kernel) rfl, mf_X10_scriptOf⟩
set_option maxRecDepth 100000 in
theorem mv_X5_23 : kMV RX5 23 mX1_settledOf 1 1 := ⟨inT4 227 (by decide +kernel) rfl, inT4 104 (by decide +kernel) rfl, inT4 105 (by decide +kernel) rfl, mf_X1_settledOf, TX1, 12, rfl⟩
set_option maxRecDepth 100000 in
theorem mf_X5_assess : kMf mX5_assess 2 := ⟨inT4 231 (by decide +kernel) rfl, inT1 12 (by decide +kernel) rfl, by decide +kernel, by decide +kernel⟩
set_option maxRecDepth 100000 in
theorem mv_X5_29 : kMV RX5 29 mX5_assess 2 5 := ⟨inT4 228 (by decide +kernel) rfl, inT4 230 (by decide +kernel) rfl, inG 10 (by decide +kernel) rfl, mf_X5_assess, TX5, 6, rfl⟩
set_option maxRecDepth 100000 in
theorem mv_X5_33 : kMV RX5 33 mX1_fullMaximum 0 1 := ⟨inT4 232 (by decide +kernel) rfl, inT4 179 (by decide +kernel) rfl, inT4 180 (by decide +kernel) rfl, mf_X1_fullMaximum, TX1, 12, rfl⟩
set_option maxRecDepth 100000 in
theorem mf_X5_findRawResult : kMf mX5_findRawResult 3 := ⟨inT4 236 (by decide +kernel) rfl, inT1 12 (by decide +kernel) rfl, by decide +kernel, by decide +kernel⟩
set_option maxRecDepth 100000 in
theorem mv_X5_37 : kMV RX5 37 mX5_findRawResult 3 5 := ⟨inT4 233 (by decide +kernel) rfl, inT4 235 (by decide +kernel) rfl, inG 11 (by decide +kernel) rfl, mf_X5_findRawResult, TX5, 6, rfl⟩
set_option maxRecDepth 100000 in
theorem mv_X5_73 : kMV RX5 73 mX1_isExcused 2 1 := ⟨inT4 237 (by decide +kernel) rfl, inT4 125 (by decide +kernel) rfl, inT4 126 (by decide +kernel) rfl, mf_X1_isExcused, TX1, 12, rfl⟩
set_option maxRecDepth 100000 in
theorem mf_X10_greatestCommonDivisor : kMf mX10_greatestCommonDivisor 2 := ⟨inT5 2 (by decide +kernel) rfl, inT1 1 (by decide +kernel) rfl, by decide +kernel, by decide +kernel⟩
set_option maxRecDepth 100000 in
theorem mn_X5_85 : kMSN RX5 85 mX10_greatestCommonDivisor 2 "ExamMarker" := ⟨by decide +kernel, inT5 1 (by decide +kernel) rfl, mf_X10_greatestCommonDivisor⟩
set_option maxRecDepth 100000 in
theorem mv_X5_50 : kMV RX5 50 mX2_scale 3 2 := ⟨inT5 3 (by decide +kernel) rfl, inT4 186 (by decide +kernel) rfl, inT4 187 (by decide +kernel) rfl, mf_X2_scale, TX2, 3, rfl⟩
set_option maxRecDepth 100000 in
theorem mf_X1_plainGradeOf : kMf mX1_plainGradeOf 1 := ⟨inT5 7 (by decide +kernel) rfl, inT1 2 (by decide +kernel) rfl, by decide +kernel, by decide +kernel⟩
set_option maxRecDepth 100000 in
theorem mv_X5_60 : kMV RX5 60 mX1_plainGradeOf 1 1 := ⟨inT5 4 (by decide +kernel) rfl, inT5 5 (by decide +kernel) rfl, inT5 6 (by decide +kernel) rfl, mf_X1_plainGradeOf, TX1, 12, rfl⟩
set_option maxRecDepth 100000 in
theorem mf_X5_isLifted : kMf mX5_isLifted 2 := ⟨inT5 11 (by decide +kernel) rfl, inT1 12 (by decide +kernel) rfl, by decide +kernel, by decide +kernel⟩
set_option maxRecDepth 100000 in
theorem mv_X5_66 : kMV RX5 66 mX5_isLifted 2 5 := ⟨inT5 8 (by decide +kernel) rfl, inT5 10 (by decide +kernel) rfl, inG 12 (by decide +kernel) rfl, mf_X5_isLifted, TX5, 6, rfl⟩
set_option maxRecDepth 100000 in
theorem mf_X10_recount : kMf mX10_recount 1 := ⟨inT5 18 (by decide +kernel) rfl, inT1 1 (by decide +kernel) rfl, by decide +kernel, by decide +kernel⟩
set_option maxRecDepth 100000 in
theorem mv_L_81 : kMV RL 81 mX10_recount 1 10 := ⟨inT5 15 (by decide +kernel) rfl, inT5 16 (by decide +kernel) rfl, inT5 17 (by decide +kernel) rfl, mf_X10_recount, TX10, 9, rfl⟩
set_option maxRecDepth 100000 in
theorem mf_X9_sumOf : kMf mX9_sumOf 2 := ⟨inT5 22 (by decide +kernel) rfl, inT1 11 (by decide +kernel) rfl, by decide +kernel, by decide +kernel⟩
set_option maxRecDepth 100000 in
theorem mv_X10_326 : kMV RX10 326 mX9_sumOf 2 9 := ⟨inT5 19 (by decide +kernel) rfl, inT5 20 (by decide +kernel) rfl, inT5 21 (by decide +kernel) rfl, mf_X9_sumOf, TX9, 4, rfl⟩
set_option maxRecDepth 100000 in
theorem ms_X9_24 : kMS RX9 24 mJ7_fill_53178 2 := ⟨inT5 23 (by decide +kernel) rfl, inT1 53 (by decide +kernel) rfl, mf_J7_fill_53178⟩
set_option maxRecDepth 100000 in
theorem mn_X9_45 : kMSN RX9 45 mX10_questionOf 1 "ExamMarker" := ⟨by decide +kernel, inT3 78 (by decide +kernel) rfl, mf_X10_questionOf⟩
set_option maxRecDepth 100000 in
theorem mv_X9_49 : kMV RX9 49 mX1_isExcused 2 1 := ⟨inT5 25 (by decide +kernel) rfl, inT4 125 (by decide +kernel) rfl, inT4 126 (by decide +kernel) rfl, mf_X1_isExcused, TX1, 12, rfl⟩
set_option maxRecDepth 100000 in
theorem mv_X9_53 : kMV RX9 53 mX1_isValid 1 1 := ⟨inT5 26 (by decide +kernel) rfl, inT3 237 (by decide +kernel) rfl, inT3 238 (by decide +kernel) rfl, mf_X1_isValid, TX1, 12, rfl⟩
set_option maxRecDepth 100000 in
theorem mv_X9_57 : kMV RX9 57 mX1_valueOf 1 1 := ⟨inT5 27 (by decide +kernel) rfl, inT4 4 (by decide +kernel) rfl, inT4 5 (by decide +kernel) rfl, mf_X1_valueOf, TX1, 12, rfl⟩
set_option maxRecDepth 100000 in
theorem mf_X9_correct : kMf mX9_correct 3 := ⟨inT5 31 (by decide +kernel) rfl, inT1 11 (by decide +kernel) rfl, by decide +kernel, by decide +kernel⟩
set_option maxRecDepth 100000 in
theorem mv_X9_60 : kMV RX9 60 mX9_correct 3 9 := ⟨inT5 28 (by decide +kernel) rfl, inT5 30 (by decide +kernel) rfl, inG 13 (by decide +kernel) rfl, mf_X9_correct, TX9, 4, rfl⟩
set_option maxRecDepth 100000 in
theorem mv_X9_80 : kMV RX9 80 mX1_agree 2 1 := ⟨inT5 32 (by decide +kernel) rfl, inT4 10 (by decide +kernel) rfl, inT4 11 (by decide +kernel) rfl, mf_X1_agree, TX1, 12, rfl⟩
set_option maxRecDepth 100000 in
theorem mn_X9_88 : kMSN RX9 88 mX10_halfWithNearer 3 "ExamMarker" := ⟨by decide +kernel, inT4 108 (by decide +kernel) rfl, mf_X10_halfWithNearer⟩
set_option maxRecDepth 100000 in
theorem mn_X9_64 : kMSN RX9 64 mX10_scriptOf 2 "ExamMarker" := ⟨by decide +kernel, inT3 210 (by decide +kernel) rfl, mf_X10_scriptOf⟩
set_option maxRecDepth 100000 in
theorem mf_X10_ranked : kMf mX10_ranked 1 := ⟨inT5 42 (by decide +kernel) rfl, inT1 1 (by decide +kernel) rfl, by decide +kernel, by decide +kernel⟩
set_option maxRecDepth 100000 in
theorem mv_L_84 : kMV RL 84 mX10_ranked 1 10 := ⟨inT5 39 (by decide +kernel) rfl, inT5 40 (by decide +kernel) rfl, inT5 41 (by decide +kernel) rfl, mf_X10_ranked, TX10, 9, rfl⟩
set_option maxRecDepth 100000 in
theorem mf_X10_rankOf : kMf mX10_rankOf 1 := ⟨inT5 46 (by decide +kernel) rfl, inT1 1 (by decide +kernel) rfl, by decide +kernel, by decide +kernel⟩
set_option maxRecDepth 100000 in
theorem mv_X10_333 : kMV RX10 333 mX10_rankOf 1 10 := ⟨inT5 43 (by decide +kernel) rfl, inT5 45 (by decide +kernel) rfl, inG 14 (by decide +kernel) rfl, mf_X10_rankOf, TX10, 9, rfl⟩
set_option maxRecDepth 100000 in
theorem mf_X5_compareWith : kMf mX5_compareWith 1 := ⟨inT5 50 (by decide +kernel) rfl, inT1 12 (by decide +kernel) rfl, by decide +kernel, by decide +kernel⟩
set_option maxRecDepth 100000 in
theorem mv_X10_483 : kMV RX10 483 mX5_compareWith 1 5 := ⟨inT5 47 (by decide +kernel) rfl, inT5 48 (by decide +kernel) rfl, inT5 49 (by decide +kernel) rfl, mf_X5_compareWith, TX5, 6, rfl⟩
set_option maxRecDepth 100000 in
theorem mf_J13_compare_74951 : kMf mJ13_compare_74951 2 := ⟨inT5 53 (by decide +kernel) rfl, inT1 28 (by decide +kernel) rfl, by decide +kernel, by decide +kernel⟩
set_option maxRecDepth 100000 in
theorem ms_X5_95 : kMS RX5 95 mJ13_compare_74951 2 := ⟨inT5 51 (by decide +kernel) rfl, inT5 52 (by decide +kernel) rfl, mf_J13_compare_74951⟩
set_option maxRecDepth 100000 in
theorem mf_X10_graded : kMf mX10_graded 1 := ⟨inT5 61 (by decide +kernel) rfl, inT1 1 (by decide +kernel) rfl, by decide +kernel, by decide +kernel⟩
set_option maxRecDepth 100000 in
theorem mv_L_87 : kMV RL 87 mX10_graded 1 10 := ⟨inT5 58 (by decide +kernel) rfl, inT5 59 (by decide +kernel) rfl, inT5 60 (by decide +kernel) rfl, mf_X10_graded, TX10, 9, rfl⟩
set_option maxRecDepth 100000 in
theorem mf_X10_requireGradeNumber : kMf mX10_requireGradeNumber 1 := ⟨inT5 64 (by decide +kernel) rfl, inT1 1 (by decide +kernel) rfl, by decide +kernel, by decide +kernel⟩
set_option maxRecDepth 100000 in
theorem ms_X10_338 : kMS RX10 338 mX10_requireGradeNumber 1 := ⟨inT5 62 (by decide +kernel) rfl, inT5 63 (by decide +kernel) rfl, mf_X10_requireGradeNumber⟩
set_option maxRecDepth 100000 in
theorem mf_X10_gradeIf : kMf mX10_gradeIf 3 := ⟨inT5 72 (by decide +kernel) rfl, inT1 1 (by decide +kernel) rfl, by decide +kernel, by decide +kernel⟩
set_option maxRecDepth 100000 in
theorem mv_L_90 : kMV RL 90 mX10_gradeIf 3 10 := ⟨inT5 69 (by decide +kernel) rfl, inT5 70 (by decide +kernel) rfl, inT5 71 (by decide +kernel) rfl, mf_X10_gradeIf, TX10, 9, rfl⟩
set_option maxRecDepth 100000 in
theorem mf_X5_suppose : kMf mX5_suppose 4 := ⟨inT5 76 (by decide +kernel) rfl, inT1 12 (by decide +kernel) rfl, by decide +kernel, by decide +kernel⟩
set_option maxRecDepth 100000 in
theorem mv_X10_341 : kMV RX10 341 mX5_suppose 4 5 := ⟨inT5 73 (by decide +kernel) rfl, inT5 74 (by decide +kernel) rfl, inT5 75 (by decide +kernel) rfl, mf_X5_suppose, TX5, 6, rfl⟩
set_option maxRecDepth 100000 in
theorem mf_X10_needed : kMf mX10_needed 3 := ⟨inT5 83 (by decide +kernel) rfl, inT1 1 (by decide +kernel) rfl, by decide +kernel, by decide +kernel⟩
set_option maxRecDepth 100000 in
theorem mv_L_93 : kMV RL 93 mX10_needed 3 10 := ⟨inT5 80 (by decide +kernel) rfl, inT5 81 (by decide +kernel) rfl, inT5 82 (by decide +kernel) rfl, mf_X10_needed, TX10, 9, rfl⟩
set_option maxRecDepth 100000 in
theorem mf_X10_meanBits : kMf mX10_meanBits 1 := ⟨inT5 105 (by decide +kernel) rfl, inT1 1 (by decide +kernel) rfl, by decide +kernel, by decide +kernel⟩
set_option maxRecDepth 100000 in
theorem mv_L_96 : kMV RL 96 mX10_meanBits 1 10 := ⟨inT5 102 (by decide +kernel) rfl, inT5 103 (by decide +kernel) rfl, inT5 104 (by decide +kernel) rfl, mf_X10_meanBits, TX10, 9, rfl⟩
set_option maxRecDepth 100000 in
theorem mf_X10_doubleBits : kMf mX10_doubleBits 1 := ⟨inT5 112 (by decide +kernel) rfl, inT1 1 (by decide +kernel) rfl, by decide +kernel, by decide +kernel⟩
set_option maxRecDepth 100000 in
theorem ms_X10_354 : kMS RX10 354 mX10_doubleBits 1 := ⟨inT5 110 (by decide +kernel) rfl, inT5 111 (by decide +kernel) rfl, mf_X10_doubleBits⟩
set_option maxRecDepth 100000 in
theorem mf_X10_validBits : kMf mX10_validBits 1 := ⟨inT5 122 (by decide +kernel) rfl, inT1 1 (by decide +kernel) rfl, by decide +kernel, by decide +kernel⟩
set_option maxRecDepth 100000 in
theorem mv_L_102 : kMV RL 102 mX10_validBits 1 10 := ⟨inT5 119 (by decide +kernel) rfl, inT5 120 (by decide +kernel) rfl, inT5 121 (by decide +kernel) rfl, mf_X10_validBits, TX10, 9, rfl⟩
set_option maxRecDepth 100000 in
theorem mv_X10_358 : kMV RX10 358 mX3_isBy 2 3 := ⟨inT5 123 (by decide +kernel) rfl, inT3 225 (by decide +kernel) rfl, inT3 226 (by decide +kernel) rfl, mf_X3_isBy, TX3, 5, rfl⟩
set_option maxRecDepth 100000 in
theorem mf_X10_floatBits : kMf mX10_floatBits 1 := ⟨inT5 127 (by decide +kernel) rfl, inT1 1 (by decide +kernel) rfl, by decide +kernel, by decide +kernel⟩
set_option maxRecDepth 100000 in
theorem ms_X10_363 : kMS RX10 363 mX10_floatBits 1 := ⟨inT5 125 (by decide +kernel) rfl, inT5 126 (by decide +kernel) rfl, mf_X10_floatBits⟩
set_option maxRecDepth 100000 in
theorem mf_X10_publish : kMf mX10_publish 0 := ⟨inT5 135 (by decide +kernel) rfl, inT1 1 (by decide +kernel) rfl, by decide +kernel, by decide +kernel⟩
set_option maxRecDepth 100000 in
theorem mv_L_105 : kMV RL 105 mX10_publish 0 10 := ⟨inT5 132 (by decide +kernel) rfl, inT5 133 (by decide +kernel) rfl, inT5 134 (by decide +kernel) rfl, mf_X10_publish, TX10, 9, rfl⟩
set_option maxRecDepth 100000 in
theorem mf_X10_refusesPublication : kMf mX10_refusesPublication 0 := ⟨inT5 139 (by decide +kernel) rfl, inT1 1 (by decide +kernel) rfl, by decide +kernel, by decide +kernel⟩
set_option maxRecDepth 100000 in
theorem mv_X10_373 : kMV RX10 373 mX10_refusesPublication 0 10 := ⟨inT5 136 (by decide +kernel) rfl, inT5 138 (by decide +kernel) rfl, inG 15 (by decide +kernel) rfl, mf_X10_refusesPublication, TX10, 9, rfl⟩
set_option maxRecDepth 100000 in
theorem mf_X1_gradedCandidates : kMf mX1_gradedCandidates 0 := ⟨inT5 144 (by decide +kernel) rfl, inT1 2 (by decide +kernel) rfl, by decide +kernel, by decide +kernel⟩
set_option maxRecDepth 100000 in
theorem mv_X10_379 : kMV RX10 379 mX1_gradedCandidates 0 1 := ⟨inT5 141 (by decide +kernel) rfl, inT5 142 (by decide +kernel) rfl, inT5 143 (by decide +kernel) rfl, mf_X1_gradedCandidates, TX1, 12, rfl⟩
set_option maxRecDepth 100000 in
theorem mv_X1_163 : kMV RX1 163 mX1_hasGrade 1 1 := ⟨inT5 145 (by decide +kernel) rfl, inT4 217 (by decide +kernel) rfl, inT4 218 (by decide +kernel) rfl, mf_X1_hasGrade, TX1, 12, rfl⟩
set_option maxRecDepth 100000 in
theorem mf_X10_withdraw : kMf mX10_withdraw 0 := ⟨inT5 152 (by decide +kernel) rfl, inT1 1 (by decide +kernel) rfl, by decide +kernel, by decide +kernel⟩
set_option maxRecDepth 100000 in
theorem mv_L_108 : kMV RL 108 mX10_withdraw 0 10 := ⟨inT5 149 (by decide +kernel) rfl, inT5 150 (by decide +kernel) rfl, inT5 151 (by decide +kernel) rfl, mf_X10_withdraw, TX10, 9, rfl⟩
set_option maxRecDepth 100000 in
theorem mf_X0_made : kMf mX0_made 0 := ⟨inT5 157 (by decide +kernel) rfl, inT1 7 (by decide +kernel) rfl, by decide +kernel, by decide +kernel⟩
set_option maxRecDepth 100000 in
theorem mv_X10_384 : kMV RX10 384 mX0_made 0 0 := ⟨inT5 154 (by decide +kernel) rfl, inT5 155 (by decide +kernel) rfl, inT5 156 (by decide +kernel) rfl, mf_X0_made, TX0, 4, rfl⟩
set_option maxRecDepth 100000 in
theorem mf_X0_inState : kMf mX0_inState 3 := ⟨inT5 161 (by decide +kernel) rfl, inT1 7 (by decide +kernel) rfl, by decide +kernel, by decide +kernel⟩
set_option maxRecDepth 100000 in
theorem mv_X0_35 : kMV RX0 35 mX0_inState 3 0 := ⟨inT5 158 (by decide +kernel) rfl, inT5 159 (by decide +kernel) rfl, inT5 160 (by decide +kernel) rfl, mf_X0_inState, TX0, 4, rfl⟩
set_option maxRecDepth 100000 in
theorem mf_X10_appeal : kMf mX10_appeal 2 := ⟨inT5 170 (by decide +kernel) rfl, inT1 1 (by decide +kernel) rfl, by decide +kernel, by decide +kernel⟩
set_option maxRecDepth 100000 in
theorem mv_L_111 : kMV RL 111 mX10_appeal 2 10 := ⟨inT5 167 (by decide +kernel) rfl, inT5 168 (by decide +kernel) rfl, inT5 169 (by decide +kernel) rfl, mf_X10_appeal, TX10, 9, rfl⟩
set_option maxRecDepth 100000 in
theorem mf_X10_refusesAppeal : kMf mX10_refusesAppeal 2 := ⟨inT5 174 (by decide +kernel) rfl, inT1 1 (by decide +kernel) rfl, by decide +kernel, by decide +kernel⟩
set_option maxRecDepth 100000 in
theorem mv_X10_389 : kMV RX10 389 mX10_refusesAppeal 2 10 := ⟨inT5 171 (by decide +kernel) rfl, inT5 173 (by decide +kernel) rfl, inG 16 (by decide +kernel) rfl, mf_X10_refusesAppeal, TX10, 9, rfl⟩
set_option maxRecDepth 100000 in
theorem mv_X10_425 : kMV RX10 425 mX0_inState 3 0 := ⟨inT5 175 (by decide +kernel) rfl, inT5 159 (by decide +kernel) rfl, inT5 160 (by decide +kernel) rfl, mf_X0_inState, TX0, 4, rfl⟩
set_option maxRecDepth 100000 in
theorem mf_X0_open : kMf mX0_open 2 := ⟨inT5 180 (by decide +kernel) rfl, inT1 7 (by decide +kernel) rfl, by decide +kernel, by decide +kernel⟩
set_option maxRecDepth 100000 in
theorem mv_X10_394 : kMV RX10 394 mX0_open 2 0 := ⟨inT5 177 (by decide +kernel) rfl, inT5 178 (by decide +kernel) rfl, inT5 179 (by decide +kernel) rfl, mf_X0_open, TX0, 4, rfl⟩
set_option maxRecDepth 100000 in
theorem mf_X10_remark : kMf mX10_remark 4 := ⟨inT5 187 (by decide +kernel) rfl, inT1 1 (by decide +kernel) rfl, by decide +kernel, by decide +kernel⟩
set_option maxRecDepth 100000 in
theorem mv_L_114 : kMV RL 114 mX10_remark 4 10 := ⟨inT5 184 (by decide +kernel) rfl, inT5 185 (by decide +kernel) rfl, inT5 186 (by decide +kernel) rfl, mf_X10_remark, TX10, 9, rfl⟩
set_option maxRecDepth 100000 in
theorem mf_X10_refusesRemark : kMf mX10_refusesRemark 4 := ⟨inT5 191 (by decide +kernel) rfl, inT1 1 (by decide +kernel) rfl, by decide +kernel, by decide +kernel⟩
set_option maxRecDepth 100000 in
theorem mv_X10_397 : kMV RX10 397 mX10_refusesRemark 4 10 := ⟨inT5 188 (by decide +kernel) rfl, inT5 190 (by decide +kernel) rfl, inG 17 (by decide +kernel) rfl, mf_X10_refusesRemark, TX10, 9, rfl⟩
set_option maxRecDepth 100000 in
theorem mv_X10_403 : kMV RX10 403 mX1_agree 2 1 := ⟨inT5 193 (by decide +kernel) rfl, inT4 10 (by decide +kernel) rfl, inT4 11 (by decide +kernel) rfl, mf_X1_agree, TX1, 12, rfl⟩
set_option maxRecDepth 100000 in
theorem mf_X0_close : kMf mX0_close 3 := ⟨inT5 197 (by decide +kernel) rfl, inT1 7 (by decide +kernel) rfl, by decide +kernel, by decide +kernel⟩
set_option maxRecDepth 100000 in
theorem mv_X10_406 : kMV RX10 406 mX0_close 3 0 := ⟨inT5 194 (by decide +kernel) rfl, inT5 195 (by decide +kernel) rfl, inT5 196 (by decide +kernel) rfl, mf_X0_close, TX0, 4, rfl⟩
set_option maxRecDepth 100000 in
theorem mf_X0_refund : kMf mX0_refund 1 := ⟨inT5 201 (by decide +kernel) rfl, inT1 7 (by decide +kernel) rfl, by decide +kernel, by decide +kernel⟩
set_option maxRecDepth 100000 in
theorem mv_X10_410 : kMV RX10 410 mX0_refund 1 0 := ⟨inT5 198 (by decide +kernel) rfl, inT5 199 (by decide +kernel) rfl, inT5 200 (by decide +kernel) rfl, mf_X0_refund, TX0, 4, rfl⟩
set_option maxRecDepth 100000 in
theorem mf_X10_account : kMf mX10_account 1 := ⟨inT5 208 (by decide +kernel) rfl, inT1 1 (by decide +kernel) rfl, by decide +kernel, by decide +kernel⟩
set_option maxRecDepth 100000 in
theorem mv_L_117 : kMV RL 117 mX10_account 1 10 := ⟨inT5 205 (by decide +kernel) rfl, inT5 206 (by decide +kernel) rfl, inT5 207 (by decide +kernel) rfl, mf_X10_account, TX10, 9, rfl⟩
set_option maxRecDepth 100000 in
theorem ms_X10_416 : kMS RX10 416 mX10_sumOf 1 := ⟨inT5 209 (by decide +kernel) rfl, inT4 183 (by decide +kernel) rfl, mf_X10_sumOf⟩
set_option maxRecDepth 100000 in
theorem mf_X10_report : kMf mX10_report 2 := ⟨inT5 216 (by decide +kernel) rfl, inT1 1 (by decide +kernel) rfl, by decide +kernel, by decide +kernel⟩
set_option maxRecDepth 100000 in
theorem mv_L_120 : kMV RL 120 mX10_report 2 10 := ⟨inT5 213 (by decide +kernel) rfl, inT5 214 (by decide +kernel) rfl, inT5 215 (by decide +kernel) rfl, mf_X10_report, TX10, 9, rfl⟩
set_option maxRecDepth 100000 in
theorem mf_X10_count : kMf mX10_count 1 := ⟨inT5 224 (by decide +kernel) rfl, inT1 1 (by decide +kernel) rfl, by decide +kernel, by decide +kernel⟩
set_option maxRecDepth 100000 in
theorem mv_L_123 : kMV RL 123 mX10_count 1 10 := ⟨inT5 221 (by decide +kernel) rfl, inT5 222 (by decide +kernel) rfl, inT5 223 (by decide +kernel) rfl, mf_X10_count, TX10, 9, rfl⟩
set_option maxRecDepth 100000 in
theorem mf_X7_markedSeeds : kMf mX7_markedSeeds 0 := ⟨inT5 228 (by decide +kernel) rfl, inT1 3 (by decide +kernel) rfl, by decide +kernel, by decide +kernel⟩
set_option maxRecDepth 100000 in
theorem mv_X10_440 : kMV RX10 440 mX7_markedSeeds 0 7 := ⟨inT5 225 (by decide +kernel) rfl, inT5 226 (by decide +kernel) rfl, inT5 227 (by decide +kernel) rfl, mf_X7_markedSeeds, TX7, 3, rfl⟩
set_option maxRecDepth 100000 in
theorem mf_X1_disputedScripts : kMf mX1_disputedScripts 0 := ⟨inT5 232 (by decide +kernel) rfl, inT1 2 (by decide +kernel) rfl, by decide +kernel, by decide +kernel⟩
set_option maxRecDepth 100000 in
theorem mv_X10_444 : kMV RX10 444 mX1_disputedScripts 0 1 := ⟨inT5 229 (by decide +kernel) rfl, inT5 230 (by decide +kernel) rfl, inT5 231 (by decide +kernel) rfl, mf_X1_disputedScripts, TX1, 12, rfl⟩
set_option maxRecDepth 100000 in
theorem mv_X1_166 : kMV RX1 166 mX1_standingOf 1 1 := ⟨inT5 233 (by decide +kernel) rfl, inT4 114 (by decide +kernel) rfl, inT4 115 (by decide +kernel) rfl, mf_X1_standingOf, TX1, 12, rfl⟩
set_option maxRecDepth 100000 in
theorem mv_X1_169 : kMV RX1 169 mX1_isExcused 2 1 := ⟨inT5 234 (by decide +kernel) rfl, inT4 125 (by decide +kernel) rfl, inT4 126 (by decide +kernel) rfl, mf_X1_isExcused, TX1, 12, rfl⟩
set_option maxRecDepth 100000 in
theorem mf_X10_undo : kMf mX10_undo 0 := ⟨inT6 1 (by decide +kernel) rfl, inT1 1 (by decide +kernel) rfl, by decide +kernel, by decide +kernel⟩
set_option maxRecDepth 100000 in
theorem mv_L_126 : kMV RL 126 mX10_undo 0 10 := ⟨inT5 238 (by decide +kernel) rfl, inT5 239 (by decide +kernel) rfl, inT6 0 (by decide +kernel) rfl, mf_X10_undo, TX10, 9, rfl⟩
set_option maxRecDepth 100000 in
theorem mf_X4_takeBack : kMf mX4_takeBack 1 := ⟨inT6 6 (by decide +kernel) rfl, inT1 8 (by decide +kernel) rfl, by decide +kernel, by decide +kernel⟩
set_option maxRecDepth 100000 in
theorem mv_X10_449 : kMV RX10 449 mX4_takeBack 1 4 := ⟨inT6 3 (by decide +kernel) rfl, inT6 4 (by decide +kernel) rfl, inT6 5 (by decide +kernel) rfl, mf_X4_takeBack, TX4, 3, rfl⟩
set_option maxRecDepth 100000 in
theorem mf_X10_restore : kMf mX10_restore 0 := ⟨inT6 13 (by decide +kernel) rfl, inT1 1 (by decide +kernel) rfl, by decide +kernel, by decide +kernel⟩
set_option maxRecDepth 100000 in
theorem mv_L_129 : kMV RL 129 mX10_restore 0 10 := ⟨inT6 10 (by decide +kernel) rfl, inT6 11 (by decide +kernel) rfl, inT6 12 (by decide +kernel) rfl, mf_X10_restore, TX10, 9, rfl⟩
set_option maxRecDepth 100000 in
theorem mf_X11_thrown : kMf mX11_thrown 0 := ⟨inT6 110 (by decide +kernel) rfl, inT1 13 (by decide +kernel) rfl, by decide +kernel, by decide +kernel⟩
set_option maxRecDepth 100000 in
theorem mv_L_142 : kMV RL 142 mX11_thrown 0 11 := ⟨inT6 107 (by decide +kernel) rfl, inT6 108 (by decide +kernel) rfl, inT6 109 (by decide +kernel) rfl, mf_X11_thrown, TX11, 28, rfl⟩
set_option maxRecDepth 100000 in
theorem mf_X11_setMaximum : kMf mX11_setMaximum 2 := ⟨inT6 114 (by decide +kernel) rfl, inT1 13 (by decide +kernel) rfl, by decide +kernel, by decide +kernel⟩
set_option maxRecDepth 100000 in
theorem mv_L_141 : kMV RL 141 mX11_setMaximum 2 11 := ⟨inT6 111 (by decide +kernel) rfl, inT6 112 (by decide +kernel) rfl, inT6 113 (by decide +kernel) rfl, mf_X11_setMaximum, TX11, 28, rfl⟩
set_option maxRecDepth 100000 in
theorem mf_X11_isQuestion : kMf mX11_isQuestion 1 := ⟨inT6 117 (by decide +kernel) rfl, inT1 13 (by decide +kernel) rfl, by decide +kernel, by decide +kernel⟩
set_option maxRecDepth 100000 in
theorem ms_X11_180 : kMS RX11 180 mX11_isQuestion 1 := ⟨inT6 115 (by decide +kernel) rfl, inT6 116 (by decide +kernel) rfl, mf_X11_isQuestion⟩
set_option maxRecDepth 100000 in
theorem mf_X11_in : kMf mX11_in 3 := ⟨inT6 120 (by decide +kernel) rfl, inT1 13 (by decide +kernel) rfl, by decide +kernel, by decide +kernel⟩
set_option maxRecDepth 100000 in
theorem ms_X11_51 : kMS RX11 51 mX11_in 3 := ⟨inT6 118 (by decide +kernel) rfl, inT6 119 (by decide +kernel) rfl, mf_X11_in⟩
set_option maxRecDepth 100000 in
theorem mf_X11_fails : kMf mX11_fails 1 := ⟨inT6 124 (by decide +kernel) rfl, inT1 13 (by decide +kernel) rfl, by decide +kernel, by decide +kernel⟩
set_option maxRecDepth 100000 in
theorem mv_X11_177 : kMV RX11 177 mX11_fails 1 11 := ⟨inT6 121 (by decide +kernel) rfl, inT6 123 (by decide +kernel) rfl, inG 18 (by decide +kernel) rfl, mf_X11_fails, TX11, 28, rfl⟩
set_option maxRecDepth 100000 in
theorem mf_X11_isPublished : kMf mX11_isPublished 0 := ⟨inT6 128 (by decide +kernel) rfl, inT1 13 (by decide +kernel) rfl, by decide +kernel, by decide +kernel⟩
set_option maxRecDepth 100000 in
theorem mv_X11_183 : kMV RX11 183 mX11_isPublished 0 11 := ⟨inT6 125 (by decide +kernel) rfl, inT6 127 (by decide +kernel) rfl, inG 19 (by decide +kernel) rfl, mf_X11_isPublished, TX11, 28, rfl⟩
set_option maxRecDepth 100000 in
theorem mf_X11_isAbove : kMf mX11_isAbove 2 := ⟨inT6 132 (by decide +kernel) rfl, inT1 13 (by decide +kernel) rfl, by decide +kernel, by decide +kernel⟩
set_option maxRecDepth 100000 in
theorem mv_X11_187 : kMV RX11 187 mX11_isAbove 2 11 := ⟨inT6 129 (by decide +kernel) rfl, inT6 131 (by decide +kernel) rfl, inG 20 (by decide +kernel) rfl, mf_X11_isAbove, TX11, 28, rfl⟩
set_option maxRecDepth 100000 in
theorem mf_X11_part : kMf mX11_part 2 := ⟨inT6 136 (by decide +kernel) rfl, inT1 13 (by decide +kernel) rfl, by decide +kernel, by decide +kernel⟩
set_option maxRecDepth 100000 in
theorem mv_X11_81 : kMV RX11 81 mX11_part 2 11 := ⟨inT6 133 (by decide +kernel) rfl, inT6 135 (by decide +kernel) rfl, inG 21 (by decide +kernel) rfl, mf_X11_part, TX11, 28, rfl⟩
set_option maxRecDepth 100000 in
theorem mf_X11_markedAt : kMf mX11_markedAt 3 := ⟨inT6 139 (by decide +kernel) rfl, inT1 13 (by decide +kernel) rfl, by decide +kernel, by decide +kernel⟩
set_option maxRecDepth 100000 in
theorem ms_X11_64 : kMS RX11 64 mX11_markedAt 3 := ⟨inT6 137 (by decide +kernel) rfl, inT6 138 (by decide +kernel) rfl, mf_X11_markedAt⟩
set_option maxRecDepth 100000 in
theorem mf_X11_changes : kMf mX11_changes 0 := ⟨inT6 143 (by decide +kernel) rfl, inT1 13 (by decide +kernel) rfl, by decide +kernel, by decide +kernel⟩
set_option maxRecDepth 100000 in
theorem mv_X11_190 : kMV RX11 190 mX11_changes 0 11 := ⟨inT6 140 (by decide +kernel) rfl, inT6 142 (by decide +kernel) rfl, inG 22 (by decide +kernel) rfl, mf_X11_changes, TX11, 28, rfl⟩
set_option maxRecDepth 100000 in
theorem mf_X11_frames : kMf mX11_frames 0 := ⟨inT6 147 (by decide +kernel) rfl, inT1 13 (by decide +kernel) rfl, by decide +kernel, by decide +kernel⟩
set_option maxRecDepth 100000 in
theorem mv_X11_58 : kMV RX11 58 mX11_frames 0 11 := ⟨inT6 144 (by decide +kernel) rfl, inT6 146 (by decide +kernel) rfl, inG 23 (by decide +kernel) rfl, mf_X11_frames, TX11, 28, rfl⟩
set_option maxRecDepth 100000 in
theorem mf_X11_keeps : kMf mX11_keeps 0 := ⟨inT6 151 (by decide +kernel) rfl, inT1 13 (by decide +kernel) rfl, by decide +kernel, by decide +kernel⟩
set_option maxRecDepth 100000 in
theorem mv_X11_61 : kMV RX11 61 mX11_keeps 0 11 := ⟨inT6 148 (by decide +kernel) rfl, inT6 150 (by decide +kernel) rfl, inG 24 (by decide +kernel) rfl, mf_X11_keeps, TX11, 28, rfl⟩
set_option maxRecDepth 100000 in
theorem mf_X11_set : kMf mX11_set 2 := ⟨inT6 155 (by decide +kernel) rfl, inT1 13 (by decide +kernel) rfl, by decide +kernel, by decide +kernel⟩
set_option maxRecDepth 100000 in
theorem mv_L_147 : kMV RL 147 mX11_set 2 11 := ⟨inT6 152 (by decide +kernel) rfl, inT6 153 (by decide +kernel) rfl, inT6 154 (by decide +kernel) rfl, mf_X11_set, TX11, 28, rfl⟩
set_option maxRecDepth 100000 in
theorem mf_X11_isValue : kMf mX11_isValue 2 := ⟨inT6 158 (by decide +kernel) rfl, inT1 13 (by decide +kernel) rfl, by decide +kernel, by decide +kernel⟩
set_option maxRecDepth 100000 in
theorem ms_X11_193 : kMS RX11 193 mX11_isValue 2 := ⟨inT6 156 (by decide +kernel) rfl, inT6 157 (by decide +kernel) rfl, mf_X11_isValue⟩
set_option maxRecDepth 100000 in
theorem mf_X11_addSeed : kMf mX11_addSeed 2 := ⟨inT6 162 (by decide +kernel) rfl, inT1 13 (by decide +kernel) rfl, by decide +kernel, by decide +kernel⟩
set_option maxRecDepth 100000 in
theorem mv_L_150 : kMV RL 150 mX11_addSeed 2 11 := ⟨inT6 159 (by decide +kernel) rfl, inT6 160 (by decide +kernel) rfl, inT6 161 (by decide +kernel) rfl, mf_X11_addSeed, TX11, 28, rfl⟩
set_option maxRecDepth 100000 in
theorem mf_X11_markSeed : kMf mX11_markSeed 4 := ⟨inT6 166 (by decide +kernel) rfl, inT1 13 (by decide +kernel) rfl, by decide +kernel, by decide +kernel⟩
set_option maxRecDepth 100000 in
theorem mv_L_154 : kMV RL 154 mX11_markSeed 4 11 := ⟨inT6 163 (by decide +kernel) rfl, inT6 164 (by decide +kernel) rfl, inT6 165 (by decide +kernel) rfl, mf_X11_markSeed, TX11, 28, rfl⟩
set_option maxRecDepth 100000 in
theorem mf_X11_isMarker : kMf mX11_isMarker 1 := ⟨inT6 169 (by decide +kernel) rfl, inT1 13 (by decide +kernel) rfl, by decide +kernel, by decide +kernel⟩
set_option maxRecDepth 100000 in
theorem ms_X11_196 : kMS RX11 196 mX11_isMarker 1 := ⟨inT6 167 (by decide +kernel) rfl, inT6 168 (by decide +kernel) rfl, mf_X11_isMarker⟩
set_option maxRecDepth 100000 in
theorem mf_X11_hasMarked : kMf mX11_hasMarked 3 := ⟨inT6 173 (by decide +kernel) rfl, inT1 13 (by decide +kernel) rfl, by decide +kernel, by decide +kernel⟩
set_option maxRecDepth 100000 in
theorem mv_X11_68 : kMV RX11 68 mX11_hasMarked 3 11 := ⟨inT6 170 (by decide +kernel) rfl, inT6 172 (by decide +kernel) rfl, inG 25 (by decide +kernel) rfl, mf_X11_hasMarked, TX11, 28, rfl⟩
set_option maxRecDepth 100000 in
theorem mf_X11_pays : kMf mX11_pays 2 := ⟨inT6 177 (by decide +kernel) rfl, inT1 13 (by decide +kernel) rfl, by decide +kernel, by decide +kernel⟩
set_option maxRecDepth 100000 in
theorem mv_X11_199 : kMV RX11 199 mX11_pays 2 11 := ⟨inT6 174 (by decide +kernel) rfl, inT6 176 (by decide +kernel) rfl, inG 26 (by decide +kernel) rfl, mf_X11_pays, TX11, 28, rfl⟩
set_option maxRecDepth 100000 in
theorem mf_X11_deviation : kMf mX11_deviation 3 := ⟨inT6 181 (by decide +kernel) rfl, inT1 13 (by decide +kernel) rfl, by decide +kernel, by decide +kernel⟩
set_option maxRecDepth 100000 in
theorem mv_X11_71 : kMV RX11 71 mX11_deviation 3 11 := ⟨inT6 178 (by decide +kernel) rfl, inT6 180 (by decide +kernel) rfl, inG 27 (by decide +kernel) rfl, mf_X11_deviation, TX11, 28, rfl⟩
set_option maxRecDepth 100000 in
theorem mf_X11_correction : kMf mX11_correction 2 := ⟨inT6 185 (by decide +kernel) rfl, inT1 13 (by decide +kernel) rfl, by decide +kernel, by decide +kernel⟩
set_option maxRecDepth 100000 in
theorem mv_L_157 : kMV RL 157 mX11_correction 2 11 := ⟨inT6 182 (by decide +kernel) rfl, inT6 183 (by decide +kernel) rfl, inT6 184 (by decide +kernel) rfl, mf_X11_correction, TX11, 28, rfl⟩
set_option maxRecDepth 100000 in
theorem mf_X11_markerRefusal : kMf mX11_markerRefusal 2 := ⟨inT6 189 (by decide +kernel) rfl, inT1 13 (by decide +kernel) rfl, by decide +kernel, by decide +kernel⟩
set_option maxRecDepth 100000 in
theorem mv_X11_202 : kMV RX11 202 mX11_markerRefusal 2 11 := ⟨inT6 186 (by decide +kernel) rfl, inT6 188 (by decide +kernel) rfl, inG 28 (by decide +kernel) rfl, mf_X11_markerRefusal, TX11, 28, rfl⟩
set_option maxRecDepth 100000 in
theorem mf_X11_corrects : kMf mX11_corrects 2 := ⟨inT6 193 (by decide +kernel) rfl, inT1 13 (by decide +kernel) rfl, by decide +kernel, by decide +kernel⟩
set_option maxRecDepth 100000 in
theorem mv_X11_92 : kMV RX11 92 mX11_corrects 2 11 := ⟨inT6 190 (by decide +kernel) rfl, inT6 192 (by decide +kernel) rfl, inG 29 (by decide +kernel) rfl, mf_X11_corrects, TX11, 28, rfl⟩
set_option maxRecDepth 100000 in
theorem mf_X11_amount : kMf mX11_amount 1 := ⟨inT6 196 (by decide +kernel) rfl, inT1 13 (by decide +kernel) rfl, by decide +kernel, by decide +kernel⟩
set_option maxRecDepth 100000 in
theorem ms_X11_74 : kMS RX11 74 mX11_amount 1 := ⟨inT6 194 (by decide +kernel) rfl, inT6 195 (by decide +kernel) rfl, mf_X11_amount⟩
set_option maxRecDepth 100000 in
theorem mf_X11_setting : kMf mX11_setting 1 := ⟨inT6 200 (by decide +kernel) rfl, inT1 13 (by decide +kernel) rfl, by decide +kernel, by decide +kernel⟩
set_option maxRecDepth 100000 in
theorem mv_X11_78 : kMV RX11 78 mX11_setting 1 11 := ⟨inT6 197 (by decide +kernel) rfl, inT6 199 (by decide +kernel) rfl, inG 30 (by decide +kernel) rfl, mf_X11_setting, TX11, 28, rfl⟩
set_option maxRecDepth 100000 in
theorem mf_X11_isSuspended : kMf mX11_isSuspended 2 := ⟨inT6 204 (by decide +kernel) rfl, inT1 13 (by decide +kernel) rfl, by decide +kernel, by decide +kernel⟩
set_option maxRecDepth 100000 in
theorem mv_L_160 : kMV RL 160 mX11_isSuspended 2 11 := ⟨inT6 201 (by decide +kernel) rfl, inT6 202 (by decide +kernel) rfl, inT6 203 (by decide +kernel) rfl, mf_X11_isSuspended, TX11, 28, rfl⟩
set_option maxRecDepth 100000 in
theorem mf_X11_suspended : kMf mX11_suspended 2 := ⟨inT6 208 (by decide +kernel) rfl, inT1 13 (by decide +kernel) rfl, by decide +kernel, by decide +kernel⟩
set_option maxRecDepth 100000 in
theorem mv_X11_88 : kMV RX11 88 mX11_suspended 2 11 := ⟨inT6 205 (by decide +kernel) rfl, inT6 207 (by decide +kernel) rfl, inG 31 (by decide +kernel) rfl, mf_X11_suspended, TX11, 28, rfl⟩
set_option maxRecDepth 100000 in
theorem mf_X11_enter : kMf mX11_enter 4 := ⟨inT6 212 (by decide +kernel) rfl, inT1 13 (by decide +kernel) rfl, by decide +kernel, by decide +kernel⟩
set_option maxRecDepth 100000 in
theorem mv_L_163 : kMV RL 163 mX11_enter 4 11 := ⟨inT6 209 (by decide +kernel) rfl, inT6 210 (by decide +kernel) rfl, inT6 211 (by decide +kernel) rfl, mf_X11_enter, TX11, 28, rfl⟩
set_option maxRecDepth 100000 in
theorem mf_X11_isCandidate : kMf mX11_isCandidate 1 := ⟨inT6 215 (by decide +kernel) rfl, inT1 13 (by decide +kernel) rfl, by decide +kernel, by decide +kernel⟩
set_option maxRecDepth 100000 in
theorem ms_X11_214 : kMS RX11 214 mX11_isCandidate 1 := ⟨inT6 213 (by decide +kernel) rfl, inT6 214 (by decide +kernel) rfl, mf_X11_isCandidate⟩
set_option maxRecDepth 100000 in
theorem mf_X11_refusal : kMf mX11_refusal 4 := ⟨inT6 219 (by decide +kernel) rfl, inT1 13 (by decide +kernel) rfl, by decide +kernel, by decide +kernel⟩
set_option maxRecDepth 100000 in
theorem mv_X11_217 : kMV RX11 217 mX11_refusal 4 11 := ⟨inT6 216 (by decide +kernel) rfl, inT6 218 (by decide +kernel) rfl, inG 32 (by decide +kernel) rfl, mf_X11_refusal, TX11, 28, rfl⟩
set_option maxRecDepth 100000 in
theorem mf_X11_hasEntered : kMf mX11_hasEntered 3 := ⟨inT6 223 (by decide +kernel) rfl, inT1 13 (by decide +kernel) rfl, by decide +kernel, by decide +kernel⟩
set_option maxRecDepth 100000 in
theorem mv_X11_208 : kMV RX11 208 mX11_hasEntered 3 11 := ⟨inT6 220 (by decide +kernel) rfl, inT6 222 (by decide +kernel) rfl, inG 33 (by decide +kernel) rfl, mf_X11_hasEntered, TX11, 28, rfl⟩
set_option maxRecDepth 100000 in
theorem mf_X11_isOf : kMf mX11_isOf 3 := ⟨inT6 227 (by decide +kernel) rfl, inT1 13 (by decide +kernel) rfl, by decide +kernel, by decide +kernel⟩
set_option maxRecDepth 100000 in
theorem mv_X11_85 : kMV RX11 85 mX11_isOf 3 11 := ⟨inT6 224 (by decide +kernel) rfl, inT6 226 (by decide +kernel) rfl, inG 34 (by decide +kernel) rfl, mf_X11_isOf, TX11, 28, rfl⟩
set_option maxRecDepth 100000 in
theorem mf_X11_entries : kMf mX11_entries 2 := ⟨inT6 231 (by decide +kernel) rfl, inT1 13 (by decide +kernel) rfl, by decide +kernel, by decide +kernel⟩
set_option maxRecDepth 100000 in
theorem mv_X11_211 : kMV RX11 211 mX11_entries 2 11 := ⟨inT6 228 (by decide +kernel) rfl, inT6 230 (by decide +kernel) rfl, inG 35 (by decide +kernel) rfl, mf_X11_entries, TX11, 28, rfl⟩
set_option maxRecDepth 100000 in
theorem mf_X11_finds : kMf mX11_finds 2 := ⟨inT6 235 (by decide +kernel) rfl, inT1 13 (by decide +kernel) rfl, by decide +kernel, by decide +kernel⟩
set_option maxRecDepth 100000 in
theorem mv_X11_108 : kMV RX11 108 mX11_finds 2 11 := ⟨inT6 232 (by decide +kernel) rfl, inT6 234 (by decide +kernel) rfl, inG 36 (by decide +kernel) rfl, mf_X11_finds, TX11, 28, rfl⟩
set_option maxRecDepth 100000 in
theorem mf_X11_isValid : kMf mX11_isValid 1 := ⟨inT6 239 (by decide +kernel) rfl, inT1 13 (by decide +kernel) rfl, by decide +kernel, by decide +kernel⟩
set_option maxRecDepth 100000 in
theorem mv_X11_98 : kMV RX11 98 mX11_isValid 1 11 := ⟨inT6 236 (by decide +kernel) rfl, inT6 238 (by decide +kernel) rfl, inG 37 (by decide +kernel) rfl, mf_X11_isValid, TX11, 28, rfl⟩
set_option maxRecDepth 100000 in
theorem mf_X11_value : kMf mX11_value 1 := ⟨inT7 3 (by decide +kernel) rfl, inT1 13 (by decide +kernel) rfl, by decide +kernel, by decide +kernel⟩
set_option maxRecDepth 100000 in
theorem mv_X11_102 : kMV RX11 102 mX11_value 1 11 := ⟨inT7 0 (by decide +kernel) rfl, inT7 2 (by decide +kernel) rfl, inG 38 (by decide +kernel) rfl, mf_X11_value, TX11, 28, rfl⟩
set_option maxRecDepth 100000 in
theorem mf_X11_agree : kMf mX11_agree 2 := ⟨inT7 7 (by decide +kernel) rfl, inT1 13 (by decide +kernel) rfl, by decide +kernel, by decide +kernel⟩
set_option maxRecDepth 100000 in
theorem mv_X11_112 : kMV RX11 112 mX11_agree 2 11 := ⟨inT7 4 (by decide +kernel) rfl, inT7 6 (by decide +kernel) rfl, inG 39 (by decide +kernel) rfl, mf_X11_agree, TX11, 28, rfl⟩
set_option maxRecDepth 100000 in
theorem mf_X11_reports : kMf mX11_reports 5 := ⟨inT7 11 (by decide +kernel) rfl, inT1 13 (by decide +kernel) rfl, by decide +kernel, by decide +kernel⟩
set_option maxRecDepth 100000 in
theorem mv_X11_221 : kMV RX11 221 mX11_reports 5 11 := ⟨inT7 8 (by decide +kernel) rfl, inT7 10 (by decide +kernel) rfl, inG 40 (by decide +kernel) rfl, mf_X11_reports, TX11, 28, rfl⟩
set_option maxRecDepth 100000 in
theorem mf_X11_enters : kMf mX11_enters 4 := ⟨inT7 15 (by decide +kernel) rfl, inT1 13 (by decide +kernel) rfl, by decide +kernel, by decide +kernel⟩
set_option maxRecDepth 100000 in
theorem mv_X11_224 : kMV RX11 224 mX11_enters 4 11 := ⟨inT7 12 (by decide +kernel) rfl, inT7 14 (by decide +kernel) rfl, inG 41 (by decide +kernel) rfl, mf_X11_enters, TX11, 28, rfl⟩
set_option maxRecDepth 100000 in
theorem mf_X11_append : kMf mX11_append 1 := ⟨inT7 19 (by decide +kernel) rfl, inT1 13 (by decide +kernel) rfl, by decide +kernel, by decide +kernel⟩
set_option maxRecDepth 100000 in
theorem mv_L_167 : kMV RL 167 mX11_append 1 11 := ⟨inT7 16 (by decide +kernel) rfl, inT7 17 (by decide +kernel) rfl, inT7 18 (by decide +kernel) rfl, mf_X11_append, TX11, 28, rfl⟩
set_option maxRecDepth 100000 in
theorem mf_X11_sheet : kMf mX11_sheet 0 := ⟨inT7 23 (by decide +kernel) rfl, inT1 13 (by decide +kernel) rfl, by decide +kernel, by decide +kernel⟩
set_option maxRecDepth 100000 in
theorem mv_L_171 : kMV RL 171 mX11_sheet 0 11 := ⟨inT7 20 (by decide +kernel) rfl, inT7 21 (by decide +kernel) rfl, inT7 22 (by decide +kernel) rfl, mf_X11_sheet, TX11, 28, rfl⟩
set_option maxRecDepth 100000 in
theorem mf_X11_isSheet : kMf mX11_isSheet 0 := ⟨inT7 27 (by decide +kernel) rfl, inT1 13 (by decide +kernel) rfl, by decide +kernel, by decide +kernel⟩
set_option maxRecDepth 100000 in
theorem mv_X11_257 : kMV RX11 257 mX11_isSheet 0 11 := ⟨inT7 24 (by decide +kernel) rfl, inT7 26 (by decide +kernel) rfl, inG 42 (by decide +kernel) rfl, mf_X11_isSheet, TX11, 28, rfl⟩
set_option maxRecDepth 100000 in
theorem mf_X11_digit : kMf mX11_digit 1 := ⟨inT7 31 (by decide +kernel) rfl, inT1 13 (by decide +kernel) rfl, by decide +kernel, by decide +kernel⟩
set_option maxRecDepth 100000 in
theorem mv_X11_241 : kMV RX11 241 mX11_digit 1 11 := ⟨inT7 28 (by decide +kernel) rfl, inT7 30 (by decide +kernel) rfl, inG 43 (by decide +kernel) rfl, mf_X11_digit, TX11, 28, rfl⟩
set_option maxRecDepth 100000 in
theorem mf_X11_here : kMf mX11_here 0 := ⟨inT7 35 (by decide +kernel) rfl, inT1 13 (by decide +kernel) rfl, by decide +kernel, by decide +kernel⟩
set_option maxRecDepth 100000 in
theorem mv_X11_238 : kMV RX11 238 mX11_here 0 11 := ⟨inT7 32 (by decide +kernel) rfl, inT7 34 (by decide +kernel) rfl, inG 44 (by decide +kernel) rfl, mf_X11_here, TX11, 28, rfl⟩
set_option maxRecDepth 100000 in
theorem mf_X11_must : kMf mX11_must 1 := ⟨inT7 39 (by decide +kernel) rfl, inT1 13 (by decide +kernel) rfl, by decide +kernel, by decide +kernel⟩
set_option maxRecDepth 100000 in
theorem mv_X11_248 : kMV RX11 248 mX11_must 1 11 := ⟨inT7 36 (by decide +kernel) rfl, inT7 38 (by decide +kernel) rfl, inG 45 (by decide +kernel) rfl, mf_X11_must, TX11, 28, rfl⟩
set_option maxRecDepth 100000 in
theorem mf_X11_readsEntry : kMf mX11_readsEntry 0 := ⟨inT7 43 (by decide +kernel) rfl, inT1 13 (by decide +kernel) rfl, by decide +kernel, by decide +kernel⟩
set_option maxRecDepth 100000 in
theorem mv_X11_254 : kMV RX11 254 mX11_readsEntry 0 11 := ⟨inT7 40 (by decide +kernel) rfl, inT7 42 (by decide +kernel) rfl, inG 46 (by decide +kernel) rfl, mf_X11_readsEntry, TX11, 28, rfl⟩
set_option maxRecDepth 100000 in
theorem mf_X11_errorPosition : kMf mX11_errorPosition 0 := ⟨inT7 47 (by decide +kernel) rfl, inT1 13 (by decide +kernel) rfl, by decide +kernel, by decide +kernel⟩
set_option maxRecDepth 100000 in
theorem mv_L_175 : kMV RL 175 mX11_errorPosition 0 11 := ⟨inT7 44 (by decide +kernel) rfl, inT7 45 (by decide +kernel) rfl, inT7 46 (by decide +kernel) rfl, mf_X11_errorPosition, TX11, 28, rfl⟩
set_option maxRecDepth 100000 in
theorem mf_X11_entry : kMf mX11_entry 4 := ⟨inT7 51 (by decide +kernel) rfl, inT1 13 (by decide +kernel) rfl, by decide +kernel, by decide +kernel⟩
set_option maxRecDepth 100000 in
theorem mv_L_178 : kMV RL 178 mX11_entry 4 11 := ⟨inT7 48 (by decide +kernel) rfl, inT7 49 (by decide +kernel) rfl, inT7 50 (by decide +kernel) rfl, mf_X11_entry, TX11, 28, rfl⟩
set_option maxRecDepth 100000 in
theorem mf_X11_scriptRefusal : kMf mX11_scriptRefusal 2 := ⟨inT7 55 (by decide +kernel) rfl, inT1 13 (by decide +kernel) rfl, by decide +kernel, by decide +kernel⟩
set_option maxRecDepth 100000 in
theorem mv_X11_260 : kMV RX11 260 mX11_scriptRefusal 2 11 := ⟨inT7 52 (by decide +kernel) rfl, inT7 54 (by decide +kernel) rfl, inG 47 (by decide +kernel) rfl, mf_X11_scriptRefusal, TX11, 28, rfl⟩
set_option maxRecDepth 100000 in
theorem mf_X11_entryOf : kMf mX11_entryOf 3 := ⟨inT7 59 (by decide +kernel) rfl, inT1 13 (by decide +kernel) rfl, by decide +kernel, by decide +kernel⟩
set_option maxRecDepth 100000 in
theorem mv_X11_263 : kMV RX11 263 mX11_entryOf 3 11 := ⟨inT7 56 (by decide +kernel) rfl, inT7 58 (by decide +kernel) rfl, inG 48 (by decide +kernel) rfl, mf_X11_entryOf, TX11, 28, rfl⟩
set_option maxRecDepth 100000 in
theorem mf_X11_script : kMf mX11_script 3 := ⟨inT7 63 (by decide +kernel) rfl, inT1 13 (by decide +kernel) rfl, by decide +kernel, by decide +kernel⟩
set_option maxRecDepth 100000 in
theorem mv_L_182 : kMV RL 182 mX11_script 3 11 := ⟨inT7 60 (by decide +kernel) rfl, inT7 61 (by decide +kernel) rfl, inT7 62 (by decide +kernel) rfl, mf_X11_script, TX11, 28, rfl⟩
set_option maxRecDepth 100000 in
theorem mf_X11_settled : kMf mX11_settled 2 := ⟨inT7 67 (by decide +kernel) rfl, inT1 13 (by decide +kernel) rfl, by decide +kernel, by decide +kernel⟩
set_option maxRecDepth 100000 in
theorem mv_X11_118 : kMV RX11 118 mX11_settled 2 11 := ⟨inT7 64 (by decide +kernel) rfl, inT7 66 (by decide +kernel) rfl, inG 49 (by decide +kernel) rfl, mf_X11_settled, TX11, 28, rfl⟩
set_option maxRecDepth 100000 in
theorem mf_X11_appealPart : kMf mX11_appealPart 3 := ⟨inT7 71 (by decide +kernel) rfl, inT1 13 (by decide +kernel) rfl, by decide +kernel, by decide +kernel⟩
set_option maxRecDepth 100000 in
theorem mv_X11_105 : kMV RX11 105 mX11_appealPart 3 11 := ⟨inT7 68 (by decide +kernel) rfl, inT7 70 (by decide +kernel) rfl, inG 50 (by decide +kernel) rfl, mf_X11_appealPart, TX11, 28, rfl⟩
set_option maxRecDepth 100000 in
theorem mf_X11_state : kMf mX11_state 2 := ⟨inT7 75 (by decide +kernel) rfl, inT1 13 (by decide +kernel) rfl, by decide +kernel, by decide +kernel⟩
set_option maxRecDepth 100000 in
theorem mv_X11_266 : kMV RX11 266 mX11_state 2 11 := ⟨inT7 72 (by decide +kernel) rfl, inT7 74 (by decide +kernel) rfl, inG 51 (by decide +kernel) rfl, mf_X11_state, TX11, 28, rfl⟩
set_option maxRecDepth 100000 in
theorem mf_X11_excuse : kMf mX11_excuse 3 := ⟨inT7 79 (by decide +kernel) rfl, inT1 13 (by decide +kernel) rfl, by decide +kernel, by decide +kernel⟩
set_option maxRecDepth 100000 in
theorem mv_L_186 : kMV RL 186 mX11_excuse 3 11 := ⟨inT7 76 (by decide +kernel) rfl, inT7 77 (by decide +kernel) rfl, inT7 78 (by decide +kernel) rfl, mf_X11_excuse, TX11, 28, rfl⟩
set_option maxRecDepth 100000 in
theorem mf_X11_isExcused : kMf mX11_isExcused 2 := ⟨inT7 83 (by decide +kernel) rfl, inT1 13 (by decide +kernel) rfl, by decide +kernel, by decide +kernel⟩
set_option maxRecDepth 100000 in
theorem mv_X11_121 : kMV RX11 121 mX11_isExcused 2 11 := ⟨inT7 80 (by decide +kernel) rfl, inT7 82 (by decide +kernel) rfl, inG 52 (by decide +kernel) rfl, mf_X11_isExcused, TX11, 28, rfl⟩
set_option maxRecDepth 100000 in
theorem mf_X11_bits : kMf mX11_bits 1 := ⟨inT7 86 (by decide +kernel) rfl, inT1 13 (by decide +kernel) rfl, by decide +kernel, by decide +kernel⟩
set_option maxRecDepth 100000 in
theorem ms_X11_269 : kMS RX11 269 mX11_bits 1 := ⟨inT7 84 (by decide +kernel) rfl, inT7 85 (by decide +kernel) rfl, mf_X11_bits⟩
set_option maxRecDepth 100000 in
theorem mf_X11_raise : kMf mX11_raise 2 := ⟨inT7 90 (by decide +kernel) rfl, inT1 13 (by decide +kernel) rfl, by decide +kernel, by decide +kernel⟩
set_option maxRecDepth 100000 in
theorem mv_L_189 : kMV RL 189 mX11_raise 2 11 := ⟨inT7 87 (by decide +kernel) rfl, inT7 88 (by decide +kernel) rfl, inT7 89 (by decide +kernel) rfl, mf_X11_raise, TX11, 28, rfl⟩
set_option maxRecDepth 100000 in
theorem mf_X11_setPoint : kMf mX11_setPoint 2 := ⟨inT7 94 (by decide +kernel) rfl, inT1 13 (by decide +kernel) rfl, by decide +kernel, by decide +kernel⟩
set_option maxRecDepth 100000 in
theorem mv_L_192 : kMV RL 192 mX11_setPoint 2 11 := ⟨inT7 91 (by decide +kernel) rfl, inT7 92 (by decide +kernel) rfl, inT7 93 (by decide +kernel) rfl, mf_X11_setPoint, TX11, 28, rfl⟩
set_option maxRecDepth 100000 in
theorem mf_X11_pointAt : kMf mX11_pointAt 1 := ⟨inT7 98 (by decide +kernel) rfl, inT1 13 (by decide +kernel) rfl, by decide +kernel, by decide +kernel⟩
set_option maxRecDepth 100000 in
theorem mv_X11_272 : kMV RX11 272 mX11_pointAt 1 11 := ⟨inT7 95 (by decide +kernel) rfl, inT7 97 (by decide +kernel) rfl, inG 53 (by decide +kernel) rfl, mf_X11_pointAt, TX11, 28, rfl⟩
set_option maxRecDepth 100000 in
theorem mf_X11_removePoint : kMf mX11_removePoint 1 := ⟨inT7 102 (by decide +kernel) rfl, inT1 13 (by decide +kernel) rfl, by decide +kernel, by decide +kernel⟩
set_option maxRecDepth 100000 in
theorem mv_L_195 : kMV RL 195 mX11_removePoint 1 11 := ⟨inT7 99 (by decide +kernel) rfl, inT7 100 (by decide +kernel) rfl, inT7 101 (by decide +kernel) rfl, mf_X11_removePoint, TX11, 28, rfl⟩
set_option maxRecDepth 100000 in
theorem mf_X11_curve : kMf mX11_curve 1 := ⟨inT7 106 (by decide +kernel) rfl, inT1 13 (by decide +kernel) rfl, by decide +kernel, by decide +kernel⟩
set_option maxRecDepth 100000 in
theorem mv_L_198 : kMV RL 198 mX11_curve 1 11 := ⟨inT7 103 (by decide +kernel) rfl, inT7 104 (by decide +kernel) rfl, inT7 105 (by decide +kernel) rfl, mf_X11_curve, TX11, 28, rfl⟩
set_option maxRecDepth 100000 in
theorem mf_X11_full : kMf mX11_full 0 := ⟨inT7 110 (by decide +kernel) rfl, inT1 13 (by decide +kernel) rfl, by decide +kernel, by decide +kernel⟩
set_option maxRecDepth 100000 in
theorem mv_X11_124 : kMV RX11 124 mX11_full 0 11 := ⟨inT7 107 (by decide +kernel) rfl, inT7 109 (by decide +kernel) rfl, inG 54 (by decide +kernel) rfl, mf_X11_full, TX11, 28, rfl⟩
set_option maxRecDepth 100000 in
theorem mf_X11_scaled : kMf mX11_scaled 2 := ⟨inT7 114 (by decide +kernel) rfl, inT1 13 (by decide +kernel) rfl, by decide +kernel, by decide +kernel⟩
set_option maxRecDepth 100000 in
theorem mv_X11_153 : kMV RX11 153 mX11_scaled 2 11 := ⟨inT7 111 (by decide +kernel) rfl, inT7 113 (by decide +kernel) rfl, inG 55 (by decide +kernel) rfl, mf_X11_scaled, TX11, 28, rfl⟩
set_option maxRecDepth 100000 in
theorem mf_X11_rounded : kMf mX11_rounded 2 := ⟨inT7 118 (by decide +kernel) rfl, inT1 13 (by decide +kernel) rfl, by decide +kernel, by decide +kernel⟩
set_option maxRecDepth 100000 in
theorem ms_X11_145 : kMS RX11 145 mX11_rounded 2 := ⟨inT7 116 (by decide +kernel) rfl, inT7 117 (by decide +kernel) rfl, mf_X11_rounded⟩
set_option maxRecDepth 100000 in
theorem mf_X11_setBoundary : kMf mX11_setBoundary 2 := ⟨inT7 123 (by decide +kernel) rfl, inT1 13 (by decide +kernel) rfl, by decide +kernel, by decide +kernel⟩
set_option maxRecDepth 100000 in
theorem mv_L_201 : kMV RL 201 mX11_setBoundary 2 11 := ⟨inT7 120 (by decide +kernel) rfl, inT7 121 (by decide +kernel) rfl, inT7 122 (by decide +kernel) rfl, mf_X11_setBoundary, TX11, 28, rfl⟩
set_option maxRecDepth 100000 in
theorem mf_X11_result : kMf mX11_result 2 := ⟨inT7 127 (by decide +kernel) rfl, inT1 13 (by decide +kernel) rfl, by decide +kernel, by decide +kernel⟩
set_option maxRecDepth 100000 in
theorem mv_L_204 : kMV RL 204 mX11_result 2 11 := ⟨inT7 124 (by decide +kernel) rfl, inT7 125 (by decide +kernel) rfl, inT7 126 (by decide +kernel) rfl, mf_X11_result, TX11, 28, rfl⟩
set_option maxRecDepth 100000 in
theorem mf_X11_hasGrade : kMf mX11_hasGrade 1 := ⟨inT7 131 (by decide +kernel) rfl, inT1 13 (by decide +kernel) rfl, by decide +kernel, by decide +kernel⟩
set_option maxRecDepth 100000 in
theorem mv_X11_115 : kMV RX11 115 mX11_hasGrade 1 11 := ⟨inT7 128 (by decide +kernel) rfl, inT7 130 (by decide +kernel) rfl, inG 56 (by decide +kernel) rfl, mf_X11_hasGrade, TX11, 28, rfl⟩
set_option maxRecDepth 100000 in
theorem mf_X11_marksOf : kMf mX11_marksOf 1 := ⟨inT7 135 (by decide +kernel) rfl, inT1 13 (by decide +kernel) rfl, by decide +kernel, by decide +kernel⟩
set_option maxRecDepth 100000 in
theorem mv_X11_168 : kMV RX11 168 mX11_marksOf 1 11 := ⟨inT7 132 (by decide +kernel) rfl, inT7 134 (by decide +kernel) rfl, inG 57 (by decide +kernel) rfl, mf_X11_marksOf, TX11, 28, rfl⟩
set_option maxRecDepth 100000 in
theorem mf_X11_grades : kMf mX11_grades 1 := ⟨inT7 139 (by decide +kernel) rfl, inT1 13 (by decide +kernel) rfl, by decide +kernel, by decide +kernel⟩
set_option maxRecDepth 100000 in
theorem mv_X11_171 : kMV RX11 171 mX11_grades 1 11 := ⟨inT7 136 (by decide +kernel) rfl, inT7 138 (by decide +kernel) rfl, inG 58 (by decide +kernel) rfl, mf_X11_grades, TX11, 28, rfl⟩
set_option maxRecDepth 100000 in
theorem mf_X11_raws : kMf mX11_raws 1 := ⟨inT7 143 (by decide +kernel) rfl, inT1 13 (by decide +kernel) rfl, by decide +kernel, by decide +kernel⟩
set_option maxRecDepth 100000 in
theorem mv_X11_149 : kMV RX11 149 mX11_raws 1 11 := ⟨inT7 140 (by decide +kernel) rfl, inT7 142 (by decide +kernel) rfl, inG 59 (by decide +kernel) rfl, mf_X11_raws, TX11, 28, rfl⟩
set_option maxRecDepth 100000 in
theorem mf_X11_divisor : kMf mX11_divisor 2 := ⟨inT7 147 (by decide +kernel) rfl, inT1 13 (by decide +kernel) rfl, by decide +kernel, by decide +kernel⟩
set_option maxRecDepth 100000 in
theorem ms_X11_132 : kMS RX11 132 mX11_divisor 2 := ⟨inT7 145 (by decide +kernel) rfl, inT7 146 (by decide +kernel) rfl, mf_X11_divisor⟩
set_option maxRecDepth 100000 in
theorem mf_X11_isLifted : kMf mX11_isLifted 1 := ⟨inT7 151 (by decide +kernel) rfl, inT1 13 (by decide +kernel) rfl, by decide +kernel, by decide +kernel⟩
set_option maxRecDepth 100000 in
theorem mv_X11_162 : kMV RX11 162 mX11_isLifted 1 11 := ⟨inT7 148 (by decide +kernel) rfl, inT7 150 (by decide +kernel) rfl, inG 60 (by decide +kernel) rfl, mf_X11_isLifted, TX11, 28, rfl⟩
set_option maxRecDepth 100000 in
theorem mf_X11_recount : kMf mX11_recount 1 := ⟨inT7 155 (by decide +kernel) rfl, inT1 13 (by decide +kernel) rfl, by decide +kernel, by decide +kernel⟩
set_option maxRecDepth 100000 in
theorem mv_L_207 : kMV RL 207 mX11_recount 1 11 := ⟨inT7 152 (by decide +kernel) rfl, inT7 153 (by decide +kernel) rfl, inT7 154 (by decide +kernel) rfl, mf_X11_recount, TX11, 28, rfl⟩
set_option maxRecDepth 100000 in
theorem mf_X11_ranked : kMf mX11_ranked 1 := ⟨inT7 159 (by decide +kernel) rfl, inT1 13 (by decide +kernel) rfl, by decide +kernel, by decide +kernel⟩
set_option maxRecDepth 100000 in
theorem mv_L_210 : kMV RL 210 mX11_ranked 1 11 := ⟨inT7 156 (by decide +kernel) rfl, inT7 157 (by decide +kernel) rfl, inT7 158 (by decide +kernel) rfl, mf_X11_ranked, TX11, 28, rfl⟩
set_option maxRecDepth 100000 in
theorem mf_X11_isAhead : kMf mX11_isAhead 2 := ⟨inT7 163 (by decide +kernel) rfl, inT1 13 (by decide +kernel) rfl, by decide +kernel, by decide +kernel⟩
set_option maxRecDepth 100000 in
theorem mv_X11_275 : kMV RX11 275 mX11_isAhead 2 11 := ⟨inT7 160 (by decide +kernel) rfl, inT7 162 (by decide +kernel) rfl, inG 61 (by decide +kernel) rfl, mf_X11_isAhead, TX11, 28, rfl⟩
set_option maxRecDepth 100000 in
theorem mf_X11_graded : kMf mX11_graded 1 := ⟨inT7 167 (by decide +kernel) rfl, inT1 13 (by decide +kernel) rfl, by decide +kernel, by decide +kernel⟩
set_option maxRecDepth 100000 in
theorem mv_L_213 : kMV RL 213 mX11_graded 1 11 := ⟨inT7 164 (by decide +kernel) rfl, inT7 165 (by decide +kernel) rfl, inT7 166 (by decide +kernel) rfl, mf_X11_graded, TX11, 28, rfl⟩
set_option maxRecDepth 100000 in
theorem mf_X11_gradeOf : kMf mX11_gradeOf 1 := ⟨inT7 171 (by decide +kernel) rfl, inT1 13 (by decide +kernel) rfl, by decide +kernel, by decide +kernel⟩
set_option maxRecDepth 100000 in
theorem mv_X11_278 : kMV RX11 278 mX11_gradeOf 1 11 := ⟨inT7 168 (by decide +kernel) rfl, inT7 170 (by decide +kernel) rfl, inG 62 (by decide +kernel) rfl, mf_X11_gradeOf, TX11, 28, rfl⟩
set_option maxRecDepth 100000 in
theorem mf_X11_gradeIf : kMf mX11_gradeIf 3 := ⟨inT7 175 (by decide +kernel) rfl, inT1 13 (by decide +kernel) rfl, by decide +kernel, by decide +kernel⟩
set_option maxRecDepth 100000 in
theorem mv_L_216 : kMV RL 216 mX11_gradeIf 3 11 := ⟨inT7 172 (by decide +kernel) rfl, inT7 173 (by decide +kernel) rfl, inT7 174 (by decide +kernel) rfl, mf_X11_gradeIf, TX11, 28, rfl⟩
set_option maxRecDepth 100000 in
theorem mf_X11_gradeWith : kMf mX11_gradeWith 3 := ⟨inT7 179 (by decide +kernel) rfl, inT1 13 (by decide +kernel) rfl, by decide +kernel, by decide +kernel⟩
set_option maxRecDepth 100000 in
theorem mv_X11_281 : kMV RX11 281 mX11_gradeWith 3 11 := ⟨inT7 176 (by decide +kernel) rfl, inT7 178 (by decide +kernel) rfl, inG 63 (by decide +kernel) rfl, mf_X11_gradeWith, TX11, 28, rfl⟩
set_option maxRecDepth 100000 in
theorem mf_X11_needed : kMf mX11_needed 3 := ⟨inT7 183 (by decide +kernel) rfl, inT1 13 (by decide +kernel) rfl, by decide +kernel, by decide +kernel⟩
set_option maxRecDepth 100000 in
theorem mv_L_219 : kMV RL 219 mX11_needed 3 11 := ⟨inT7 180 (by decide +kernel) rfl, inT7 181 (by decide +kernel) rfl, inT7 182 (by decide +kernel) rfl, mf_X11_needed, TX11, 28, rfl⟩
set_option maxRecDepth 100000 in
theorem mf_X11_meanBits : kMf mX11_meanBits 1 := ⟨inT7 187 (by decide +kernel) rfl, inT1 13 (by decide +kernel) rfl, by decide +kernel, by decide +kernel⟩
set_option maxRecDepth 100000 in
theorem mv_L_222 : kMV RL 222 mX11_meanBits 1 11 := ⟨inT7 184 (by decide +kernel) rfl, inT7 185 (by decide +kernel) rfl, inT7 186 (by decide +kernel) rfl, mf_X11_meanBits, TX11, 28, rfl⟩
set_option maxRecDepth 100000 in
theorem mf_Jxe99ae_doubleToLongBits_ccdee : kMf mJxe99ae_doubleToLongBits_ccdee 1 := ⟨inT7 191 (by decide +kernel) rfl, inT1 30 (by decide +kernel) rfl, by decide +kernel, by decide +kernel⟩
set_option maxRecDepth 100000 in
theorem ms_X11_286 : kMS RX11 286 mJxe99ae_doubleToLongBits_ccdee 1 := ⟨inT7 189 (by decide +kernel) rfl, inT7 190 (by decide +kernel) rfl, mf_Jxe99ae_doubleToLongBits_ccdee⟩
set_option maxRecDepth 100000 in
theorem mf_Jxe99ae_isNaN_b9ae7 : kMf mJxe99ae_isNaN_b9ae7 1 := ⟨inT7 194 (by decide +kernel) rfl, inT1 30 (by decide +kernel) rfl, by decide +kernel, by decide +kernel⟩
set_option maxRecDepth 100000 in
theorem ms_Jxe99ae_122 : kMS RJxe99ae 122 mJxe99ae_isNaN_b9ae7 1 := ⟨inT7 192 (by decide +kernel) rfl, inT7 193 (by decide +kernel) rfl, mf_Jxe99ae_isNaN_b9ae7⟩
set_option maxRecDepth 100000 in
theorem mf_X11_validBits : kMf mX11_validBits 1 := ⟨inT7 202 (by decide +kernel) rfl, inT1 13 (by decide +kernel) rfl, by decide +kernel, by decide +kernel⟩
set_option maxRecDepth 100000 in
theorem mv_L_225 : kMV RL 225 mX11_validBits 1 11 := ⟨inT7 199 (by decide +kernel) rfl, inT7 200 (by decide +kernel) rfl, inT7 201 (by decide +kernel) rfl, mf_X11_validBits, TX11, 28, rfl⟩
set_option maxRecDepth 100000 in
theorem mf_Jxf58ca_floatToIntBits_5c35a : kMf mJxf58ca_floatToIntBits_5c35a 1 := ⟨inT7 205 (by decide +kernel) rfl, inT1 31 (by decide +kernel) rfl, by decide +kernel, by decide +kernel⟩
set_option maxRecDepth 100000 in
theorem ms_X11_292 : kMS RX11 292 mJxf58ca_floatToIntBits_5c35a 1 := ⟨inT7 203 (by decide +kernel) rfl, inT7 204 (by decide +kernel) rfl, mf_Jxf58ca_floatToIntBits_5c35a⟩
set_option maxRecDepth 100000 in
theorem mf_Jxf58ca_isNaN_12338 : kMf mJxf58ca_isNaN_12338 1 := ⟨inT7 208 (by decide +kernel) rfl, inT1 31 (by decide +kernel) rfl, by decide +kernel, by decide +kernel⟩
set_option maxRecDepth 100000 in
theorem ms_Jxf58ca_59 : kMS RJxf58ca 59 mJxf58ca_isNaN_12338 1 := ⟨inT7 206 (by decide +kernel) rfl, inT7 207 (by decide +kernel) rfl, mf_Jxf58ca_isNaN_12338⟩
set_option maxRecDepth 100000 in
theorem mf_X11_publish : kMf mX11_publish 0 := ⟨inT7 216 (by decide +kernel) rfl, inT1 13 (by decide +kernel) rfl, by decide +kernel, by decide +kernel⟩
set_option maxRecDepth 100000 in
theorem mv_L_228 : kMV RL 228 mX11_publish 0 11 := ⟨inT7 213 (by decide +kernel) rfl, inT7 214 (by decide +kernel) rfl, inT7 215 (by decide +kernel) rfl, mf_X11_publish, TX11, 28, rfl⟩
set_option maxRecDepth 100000 in
theorem mf_X11_withGrades : kMf mX11_withGrades 0 := ⟨inT7 220 (by decide +kernel) rfl, inT1 13 (by decide +kernel) rfl, by decide +kernel, by decide +kernel⟩
set_option maxRecDepth 100000 in
theorem mv_X11_298 : kMV RX11 298 mX11_withGrades 0 11 := ⟨inT7 217 (by decide +kernel) rfl, inT7 219 (by decide +kernel) rfl, inG 64 (by decide +kernel) rfl, mf_X11_withGrades, TX11, 28, rfl⟩
set_option maxRecDepth 100000 in
theorem mf_X11_withdraw : kMf mX11_withdraw 0 := ⟨inT7 224 (by decide +kernel) rfl, inT1 13 (by decide +kernel) rfl, by decide +kernel, by decide +kernel⟩
set_option maxRecDepth 100000 in
theorem mv_L_231 : kMV RL 231 mX11_withdraw 0 11 := ⟨inT7 221 (by decide +kernel) rfl, inT7 222 (by decide +kernel) rfl, inT7 223 (by decide +kernel) rfl, mf_X11_withdraw, TX11, 28, rfl⟩
set_option maxRecDepth 100000 in
theorem mf_X11_allAppeals : kMf mX11_allAppeals 2 := ⟨inT7 228 (by decide +kernel) rfl, inT1 13 (by decide +kernel) rfl, by decide +kernel, by decide +kernel⟩
set_option maxRecDepth 100000 in
theorem mv_X11_304 : kMV RX11 304 mX11_allAppeals 2 11 := ⟨inT7 225 (by decide +kernel) rfl, inT7 227 (by decide +kernel) rfl, inG 65 (by decide +kernel) rfl, mf_X11_allAppeals, TX11, 28, rfl⟩
set_option maxRecDepth 100000 in
theorem mf_X11_appeals : kMf mX11_appeals 3 := ⟨inT7 232 (by decide +kernel) rfl, inT1 13 (by decide +kernel) rfl, by decide +kernel, by decide +kernel⟩
set_option maxRecDepth 100000 in
theorem mv_X11_301 : kMV RX11 301 mX11_appeals 3 11 := ⟨inT7 229 (by decide +kernel) rfl, inT7 231 (by decide +kernel) rfl, inG 66 (by decide +kernel) rfl, mf_X11_appeals, TX11, 28, rfl⟩
set_option maxRecDepth 100000 in
theorem mf_X11_appeal : kMf mX11_appeal 2 := ⟨inT7 236 (by decide +kernel) rfl, inT1 13 (by decide +kernel) rfl, by decide +kernel, by decide +kernel⟩
set_option maxRecDepth 100000 in
theorem mv_L_234 : kMV RL 234 mX11_appeal 2 11 := ⟨inT7 233 (by decide +kernel) rfl, inT7 234 (by decide +kernel) rfl, inT7 235 (by decide +kernel) rfl, mf_X11_appeal, TX11, 28, rfl⟩
set_option maxRecDepth 100000 in
theorem mf_X11_remark : kMf mX11_remark 4 := ⟨inT8 0 (by decide +kernel) rfl, inT1 13 (by decide +kernel) rfl, by decide +kernel, by decide +kernel⟩
set_option maxRecDepth 100000 in
theorem mv_L_237 : kMV RL 237 mX11_remark 4 11 := ⟨inT7 237 (by decide +kernel) rfl, inT7 238 (by decide +kernel) rfl, inT7 239 (by decide +kernel) rfl, mf_X11_remark, TX11, 28, rfl⟩
set_option maxRecDepth 100000 in
theorem mf_X11_account : kMf mX11_account 1 := ⟨inT8 4 (by decide +kernel) rfl, inT1 13 (by decide +kernel) rfl, by decide +kernel, by decide +kernel⟩
set_option maxRecDepth 100000 in
theorem mv_L_240 : kMV RL 240 mX11_account 1 11 := ⟨inT8 1 (by decide +kernel) rfl, inT8 2 (by decide +kernel) rfl, inT8 3 (by decide +kernel) rfl, mf_X11_account, TX11, 28, rfl⟩
set_option maxRecDepth 100000 in
theorem mf_X11_levels : kMf mX11_levels 0 := ⟨inT8 8 (by decide +kernel) rfl, inT1 13 (by decide +kernel) rfl, by decide +kernel, by decide +kernel⟩
set_option maxRecDepth 100000 in
theorem mv_L_244 : kMV RL 244 mX11_levels 0 11 := ⟨inT8 5 (by decide +kernel) rfl, inT8 6 (by decide +kernel) rfl, inT8 7 (by decide +kernel) rfl, mf_X11_levels, TX11, 28, rfl⟩
set_option maxRecDepth 100000 in
theorem mf_X11_report : kMf mX11_report 2 := ⟨inT8 12 (by decide +kernel) rfl, inT1 13 (by decide +kernel) rfl, by decide +kernel, by decide +kernel⟩
set_option maxRecDepth 100000 in
theorem mv_L_247 : kMV RL 247 mX11_report 2 11 := ⟨inT8 9 (by decide +kernel) rfl, inT8 10 (by decide +kernel) rfl, inT8 11 (by decide +kernel) rfl, mf_X11_report, TX11, 28, rfl⟩
set_option maxRecDepth 100000 in
theorem mf_X11_count : kMf mX11_count 1 := ⟨inT8 16 (by decide +kernel) rfl, inT1 13 (by decide +kernel) rfl, by decide +kernel, by decide +kernel⟩
set_option maxRecDepth 100000 in
theorem mv_L_250 : kMV RL 250 mX11_count 1 11 := ⟨inT8 13 (by decide +kernel) rfl, inT8 14 (by decide +kernel) rfl, inT8 15 (by decide +kernel) rfl, mf_X11_count, TX11, 28, rfl⟩
set_option maxRecDepth 100000 in
theorem mf_X11_seeds : kMf mX11_seeds 0 := ⟨inT8 20 (by decide +kernel) rfl, inT1 13 (by decide +kernel) rfl, by decide +kernel, by decide +kernel⟩
set_option maxRecDepth 100000 in
theorem mv_X11_307 : kMV RX11 307 mX11_seeds 0 11 := ⟨inT8 17 (by decide +kernel) rfl, inT8 19 (by decide +kernel) rfl, inG 67 (by decide +kernel) rfl, mf_X11_seeds, TX11, 28, rfl⟩
set_option maxRecDepth 100000 in
theorem mf_X11_seedMarks : kMf mX11_seedMarks 0 := ⟨inT8 24 (by decide +kernel) rfl, inT1 13 (by decide +kernel) rfl, by decide +kernel, by decide +kernel⟩
set_option maxRecDepth 100000 in
theorem mv_X11_310 : kMV RX11 310 mX11_seedMarks 0 11 := ⟨inT8 21 (by decide +kernel) rfl, inT8 23 (by decide +kernel) rfl, inG 68 (by decide +kernel) rfl, mf_X11_seedMarks, TX11, 28, rfl⟩
set_option maxRecDepth 100000 in
theorem mf_X11_disputed : kMf mX11_disputed 0 := ⟨inT8 28 (by decide +kernel) rfl, inT1 13 (by decide +kernel) rfl, by decide +kernel, by decide +kernel⟩
set_option maxRecDepth 100000 in
theorem mv_X11_313 : kMV RX11 313 mX11_disputed 0 11 := ⟨inT8 25 (by decide +kernel) rfl, inT8 27 (by decide +kernel) rfl, inG 69 (by decide +kernel) rfl, mf_X11_disputed, TX11, 28, rfl⟩
set_option maxRecDepth 100000 in
theorem mf_X11_undo : kMf mX11_undo 0 := ⟨inT8 32 (by decide +kernel) rfl, inT1 13 (by decide +kernel) rfl, by decide +kernel, by decide +kernel⟩
set_option maxRecDepth 100000 in
theorem mv_L_253 : kMV RL 253 mX11_undo 0 11 := ⟨inT8 29 (by decide +kernel) rfl, inT8 30 (by decide +kernel) rfl, inT8 31 (by decide +kernel) rfl, mf_X11_undo, TX11, 28, rfl⟩
set_option maxRecDepth 100000 in
theorem mf_X11_save : kMf mX11_save 0 := ⟨inT8 36 (by decide +kernel) rfl, inT1 13 (by decide +kernel) rfl, by decide +kernel, by decide +kernel⟩
set_option maxRecDepth 100000 in
theorem mv_L_257 : kMV RL 257 mX11_save 0 11 := ⟨inT8 33 (by decide +kernel) rfl, inT8 34 (by decide +kernel) rfl, inT8 35 (by decide +kernel) rfl, mf_X11_save, TX11, 28, rfl⟩
set_option maxRecDepth 100000 in
theorem mf_X11_restore : kMf mX11_restore 0 := ⟨inT8 40 (by decide +kernel) rfl, inT1 13 (by decide +kernel) rfl, by decide +kernel, by decide +kernel⟩
set_option maxRecDepth 100000 in
theorem mv_L_260 : kMV RL 260 mX11_restore 0 11 := ⟨inT8 37 (by decide +kernel) rfl, inT8 38 (by decide +kernel) rfl, inT8 39 (by decide +kernel) rfl, mf_X11_restore, TX11, 28, rfl⟩
def kATb (w : Cond) : Bool := (goodWord w && decide (w ∈ lw_tbl)) || (match w with | .castable a b => decide ((a, b) ∈ kNC) | .declares y => decide (y ∈ kND) | _ => false)
theorem kAT_of {ws : List Cond} (h : ws.all kATb = true) : ∀ w ∈ ws, w ∈ kG ∨ (∃ q ∈ kNC, w = .castable q.1 q.2) ∨ (∃ q ∈ kND, w = .declares q) := by
  intro w hw
  have h1 := List.all_eq_true.mp h w hw
  unfold kATb at h1
  rw [Bool.or_eq_true, Bool.and_eq_true] at h1
  rcases h1 with ⟨g1, g2⟩ | g
  · exact Or.inl (List.mem_filter.mpr ⟨of_decide_eq_true g2, g1⟩)
  · cases w <;> first | (cases g; done) | exact Or.inr (Or.inl ⟨_, of_decide_eq_true g, rfl⟩) | exact Or.inr (Or.inr ⟨_, of_decide_eq_true g, rfl⟩)
set_option maxRecDepth 100000 in
theorem th_0 : kTH RX10 76 0 := ⟨by decide +kernel, inT1 23 (by decide +kernel) rfl, kAT_of (by decide +kernel), by decide +kernel⟩
set_option maxRecDepth 100000 in
theorem th_1 : kTH RX10 182 1 := ⟨by decide +kernel, inT1 20 (by decide +kernel) rfl, kAT_of (by decide +kernel), by decide +kernel⟩
set_option maxRecDepth 100000 in
theorem th_2 : kTH RX10 91 2 := ⟨by decide +kernel, inT1 17 (by decide +kernel) rfl, kAT_of (by decide +kernel), by decide +kernel⟩
set_option maxRecDepth 100000 in
theorem th_3 : kTH RX10 351 3 := ⟨by decide +kernel, inT1 29 (by decide +kernel) rfl, kAT_of (by decide +kernel), by decide +kernel⟩
set_option maxRecDepth 100000 in
theorem th_4 : kTH RX10 159 4 := ⟨by decide +kernel, inT1 21 (by decide +kernel) rfl, kAT_of (by decide +kernel), by decide +kernel⟩
set_option maxRecDepth 100000 in
theorem ck_0 : Cond.classLink RX10 72 (exName 0) ∈ kG := inT3 93 (by decide +kernel) rfl
set_option maxRecDepth 100000 in
theorem ck_1 : Cond.classLink RX10 178 (exName 1) ∈ kG := inT3 33 (by decide +kernel) rfl
set_option maxRecDepth 100000 in
theorem ck_2 : Cond.classLink RX10 87 (exName 2) ∈ kG := inT3 17 (by decide +kernel) rfl
set_option maxRecDepth 100000 in
theorem ck_3 : Cond.classLink RX10 347 (exName 3) ∈ kG := inT5 106 (by decide +kernel) rfl
set_option maxRecDepth 100000 in
theorem ck_4 : Cond.classLink RX10 155 (exName 4) ∈ kG := inT3 53 (by decide +kernel) rfl
set_option maxRecDepth 100000 in
theorem ck_5 : Cond.classLink RX10 209 (exName 5) ∈ kG := inT4 78 (by decide +kernel) rfl
end
section
def tX0_init : List (Nat × Instr × Nat) := [(0, (.aload_n 0), 1), (1, (.invokespecial 3), 3), (4, (.aload_n 0), 1), (5, (.bipush 40), 2), (7, (.newarray .int), 2), (9, (.putfield 9), 3), (12, (.aload_n 0), 1), (13, (.bipush 40), 2), (15, (.newarray .int), 2), (17, (.putfield 15), 3), (20, (.aload_n 0), 1), (21, (.bipush 40), 2), (23, (.newarray .int), 2), (25, (.putfield 18), 3), (28, .return_, 1)]
set_option maxRecDepth 100000 in
theorem tX0_init_ok : kTab cX0_init tX0_init := kTab_of (by decide +kernel)
def tX0_copyFrom : List (Nat × Instr × Nat) := [(0, (.aload_n 1), 1), (1, (.getfield 9), 3), (4, (.aload_n 0), 1), (5, (.getfield 9), 3), (8, (.invokestatic 21), 3), (11, (.aload_n 1), 1), (12, (.getfield 15), 3), (15, (.aload_n 0), 1), (16, (.getfield 15), 3), (19, (.invokestatic 21), 3), (22, (.aload_n 1), 1), (23, (.getfield 18), 3), (26, (.aload_n 0), 1), (27, (.getfield 18), 3), (30, (.invokestatic 21), 3), (33, (.aload_n 0), 1), (34, (.aload_n 1), 1), (35, (.getfield 25), 3), (38, (.putfield 25), 3), (41, .return_, 1)]
set_option maxRecDepth 100000 in
theorem tX0_copyFrom_ok : kTab cX0_copyFrom tX0_copyFrom := kTab_of (by decide +kernel)
def tX0_inState : List (Nat × Instr × Nat) := [(0, (.iconst 0), 1), (1, (.istore 4), 2), (3, (.iconst 0), 1), (4, (.iload_n 2), 1), (5, (.invokestatic 29), 3), (8, (.istore 5), 2), (10, (.iload 5), 2), (12, (.iload_n 3), 1), (13, (.if_icmp .ge 37), 3), (16, (.iload 5), 2), (18, (.bipush 40), 2), (20, (.if_icmp .ge 30), 3), (23, (.iload 4), 2), (25, (.aload_n 0), 1), (26, (.getfield 9), 3), (29, (.iload 5), 2), (31, .iaload, 1), (32, (.iload_n 1), 1), (33, (.if_icmp .ne 7), 3), (36, (.iconst 1), 1), (37, (.goto 4), 3), (40, (.iconst 0), 1), (41, .iadd, 1), (42, (.istore 4), 2), (44, (.iinc 5 1), 3), (47, (.goto (-37)), 3), (50, (.iload 4), 2), (52, .ireturn, 1)]
set_option maxRecDepth 100000 in
theorem tX0_inState_ok : kTab cX0_inState tX0_inState := kTab_of (by decide +kernel)
def tX0_made : List (Nat × Instr × Nat) := [(0, (.bipush 40), 2), (2, (.aload_n 0), 1), (3, (.iconst 0), 1), (4, (.iconst 0), 1), (5, (.bipush 40), 2), (7, (.invokevirtual 35), 3), (10, .isub, 1), (11, .ireturn, 1)]
set_option maxRecDepth 100000 in
theorem tX0_made_ok : kTab cX0_made tX0_made := kTab_of (by decide +kernel)
def tX0_open : List (Nat × Instr × Nat) := [(0, (.aload_n 0), 1), (1, (.getfield 9), 3), (4, (.iload_n 1), 1), (5, (.iconst 1), 1), (6, .iastore, 1), (7, (.aload_n 0), 1), (8, (.getfield 15), 3), (11, (.iload_n 1), 1), (12, (.iload_n 2), 1), (13, .iastore, 1), (14, .return_, 1)]
set_option maxRecDepth 100000 in
theorem tX0_open_ok : kTab cX0_open tX0_open := kTab_of (by decide +kernel)
def tX0_close : List (Nat × Instr × Nat) := [(0, (.aload_n 0), 1), (1, (.getfield 9), 3), (4, (.iload_n 1), 1), (5, (.iload_n 3), 1), (6, (.ifCond .eq 7), 3), (9, (.iconst 3), 1), (10, (.goto 4), 3), (13, (.iconst 2), 1), (14, .iastore, 1), (15, (.aload_n 0), 1), (16, (.getfield 18), 3), (19, (.iload_n 1), 1), (20, (.iload_n 2), 1), (21, .iastore, 1), (22, .return_, 1)]
set_option maxRecDepth 100000 in
theorem tX0_close_ok : kTab cX0_close tX0_close := kTab_of (by decide +kernel)
def tX0_refund : List (Nat × Instr × Nat) := [(0, (.aload_n 0), 1), (1, .dup, 1), (2, (.getfield 25), 3), (5, (.aload_n 0), 1), (6, (.getfield 15), 3), (9, (.iload_n 1), 1), (10, .iaload, 1), (11, .iadd, 1), (12, (.putfield 25), 3), (15, (.aload_n 0), 1), (16, (.getfield 15), 3), (19, (.iload_n 1), 1), (20, .iaload, 1), (21, .ireturn, 1)]
set_option maxRecDepth 100000 in
theorem tX0_refund_ok : kTab cX0_refund tX0_refund := kTab_of (by decide +kernel)
def tX1_init : List (Nat × Instr × Nat) := [(0, (.aload_n 0), 1), (1, (.invokespecial 3), 3), (4, (.aload_n 0), 1), (5, (.iconst 5), 1), (6, (.newarray .int), 2), (8, (.putfield 9), 3), (11, (.aload_n 0), 1), (12, (.iconst 5), 1), (13, (.newarray .int), 2), (15, .dup, 1), (16, (.iconst 0), 1), (17, (.iconst 1), 1), (18, .iastore, 1), (19, .dup, 1), (20, (.iconst 1), 1), (21, (.bipush 6), 2), (23, .iastore, 1), (24, .dup, 1), (25, (.iconst 2), 1), (26, (.iconst 3), 1), (27, .iastore, 1), (28, .dup, 1), (29, (.iconst 3), 1), (30, (.iconst 2), 1), (31, .iastore, 1), (32, .dup, 1), (33, (.iconst 4), 1), (34, (.bipush 30), 2), (36, .iastore, 1), (37, (.putfield 15), 3), (40, (.aload_n 0), 1), (41, (.iconst 4), 1), (42, (.newarray .int), 2), (44, .dup, 1), (45, (.iconst 0), 1), (46, (.bipush 70), 2), (48, .iastore, 1), (49, .dup, 1), (50, (.iconst 1), 1), (51, (.bipush 60), 2), (53, .iastore, 1), (54, .dup, 1), (55, (.iconst 2), 1), (56, (.bipush 50), 2), (58, .iastore, 1), (59, .dup, 1), (60, (.iconst 3), 1), (61, (.bipush 40), 2), (63, .iastore, 1), (64, (.putfield 18), 3), (67, (.aload_n 0), 1), (68, (.bipush 8), 2), (70, (.newarray .int), 2), (72, (.putfield 21), 3), (75, (.aload_n 0), 1), (76, (.bipush 8), 2), (78, (.newarray .int), 2), (80, (.putfield 24), 3), (83, (.aload_n 0), 1), (84, (.iconst 4), 1), (85, (.newarray .int), 2), (87, (.putfield 27), 3), (90, (.aload_n 0), 1), (91, (.new 30), 3), (94, .dup, 1), (95, (.invokespecial 32), 3), (98, (.putfield 33), 3), (101, (.aload_n 0), 1), (102, (.new 37), 3), (105, .dup, 1), (106, (.invokespecial 39), 3), (109, (.putfield 40), 3), (112, (.aload_n 0), 1), (113, (.new 44), 3), (116, .dup, 1), (117, (.invokespecial 46), 3), (120, (.putfield 47), 3), (123, (.aload_n 0), 1), (124, (.new 51), 3), (127, .dup, 1), (128, (.invokespecial 53), 3), (131, (.putfield 54), 3), (134, (.aload_n 0), 1), (135, (.iconst 3), 1), (136, (.newarray .int), 2), (138, (.putfield 58), 3), (141, (.aload_n 0), 1), (142, (.getfield 9), 3), (145, (.bipush 20), 2), (147, (.invokestatic 61), 3), (150, .return_, 1)]
set_option maxRecDepth 100000 in
theorem tX1_init_ok : kTab cX1_init tX1_init := kTab_of (by decide +kernel)
def tX1_copyFrom : List (Nat × Instr × Nat) := [(0, (.aload_n 1), 1), (1, (.getfield 9), 3), (4, (.aload_n 0), 1), (5, (.getfield 9), 3), (8, (.invokestatic 67), 3), (11, (.aload_n 1), 1), (12, (.getfield 15), 3), (15, (.aload_n 0), 1), (16, (.getfield 15), 3), (19, (.invokestatic 67), 3), (22, (.aload_n 1), 1), (23, (.getfield 18), 3), (26, (.aload_n 0), 1), (27, (.getfield 18), 3), (30, (.invokestatic 67), 3), (33, (.aload_n 1), 1), (34, (.getfield 21), 3), (37, (.aload_n 0), 1), (38, (.getfield 21), 3), (41, (.invokestatic 67), 3), (44, (.aload_n 1), 1), (45, (.getfield 24), 3), (48, (.aload_n 0), 1), (49, (.getfield 24), 3), (52, (.invokestatic 67), 3), (55, (.aload_n 1), 1), (56, (.getfield 27), 3), (59, (.aload_n 0), 1), (60, (.getfield 27), 3), (63, (.invokestatic 67), 3), (66, (.aload_n 0), 1), (67, (.getfield 33), 3), (70, (.aload_n 1), 1), (71, (.getfield 33), 3), (74, (.invokevirtual 71), 3), (77, (.aload_n 0), 1), (78, (.getfield 40), 3), (81, (.aload_n 1), 1), (82, (.getfield 40), 3), (85, (.invokevirtual 75), 3), (88, (.aload_n 0), 1), (89, (.getfield 47), 3), (92, (.aload_n 1), 1), (93, (.getfield 47), 3), (96, (.invokevirtual 78), 3), (99, (.aload_n 0), 1), (100, (.getfield 54), 3), (103, (.aload_n 1), 1), (104, (.getfield 54), 3), (107, (.invokevirtual 81), 3), (110, (.aload_n 0), 1), (111, (.aload_n 1), 1), (112, (.getfield 84), 3), (115, (.putfield 84), 3), (118, .return_, 1)]
set_option maxRecDepth 100000 in
theorem tX1_copyFrom_ok : kTab cX1_copyFrom tX1_copyFrom := kTab_of (by decide +kernel)
def tX1_fullMaximum : List (Nat × Instr × Nat) := [(0, (.aload_n 0), 1), (1, (.getfield 9), 3), (4, (.invokestatic 88), 3), (7, .ireturn, 1)]
set_option maxRecDepth 100000 in
theorem tX1_fullMaximum_ok : kTab cX1_fullMaximum tX1_fullMaximum := kTab_of (by decide +kernel)
def tX1_greatestMark : List (Nat × Instr × Nat) := [(0, (.aload_n 0), 1), (1, (.getfield 40), 3), (4, (.iload_n 1), 1), (5, (.invokevirtual 92), 3), (8, (.aload_n 0), 1), (9, (.getfield 33), 3), (12, (.iload_n 1), 1), (13, (.invokevirtual 96), 3), (16, (.invokestatic 97), 3), (19, .ireturn, 1)]
set_option maxRecDepth 100000 in
theorem tX1_greatestMark_ok : kTab cX1_greatestMark tX1_greatestMark := kTab_of (by decide +kernel)
def tX1_earn : List (Nat × Instr × Nat) := [(0, (.aload_n 0), 1), (1, (.getfield 27), 3), (4, (.iload_n 1), 1), (5, .dup2, 1), (6, .iaload, 1), (7, (.bipush 10), 2), (9, (.aload_n 0), 1), (10, (.getfield 9), 3), (13, (.iload_n 2), 1), (14, .iaload, 1), (15, .iadd, 1), (16, .iadd, 1), (17, .iastore, 1), (18, .return_, 1)]
set_option maxRecDepth 100000 in
theorem tX1_earn_ok : kTab cX1_earn tX1_earn := kTab_of (by decide +kernel)
def tX1_makeEntry : List (Nat × Instr × Nat) := [(0, (.aload_n 0), 1), (1, (.iload_n 1), 1), (2, (.iload_n 2), 1), (3, (.iconst 5), 1), (4, .irem, 1), (5, (.invokevirtual 103), 3), (8, (.aload_n 0), 1), (9, (.getfield 40), 3), (12, (.iload_n 1), 1), (13, (.iload_n 2), 1), (14, (.iload_n 3), 1), (15, (.invokevirtual 107), 3), (18, .ireturn, 1)]
set_option maxRecDepth 100000 in
theorem tX1_makeEntry_ok : kTab cX1_makeEntry tX1_makeEntry := kTab_of (by decide +kernel)
def tX1_isValid : List (Nat × Instr × Nat) := [(0, (.aload_n 0), 1), (1, (.getfield 40), 3), (4, (.getfield 111), 3), (7, (.iload_n 1), 1), (8, .iaload, 1), (9, (.istore_n 2), 1), (10, (.iload_n 2), 1), (11, (.iconst 4), 1), (12, (.invokestatic 114), 3), (15, (.ifCond .eq 28), 3), (18, (.aload_n 0), 1), (19, (.getfield 33), 3), (22, (.iload_n 2), 1), (23, (.iload_n 1), 1), (24, (.invokestatic 118), 3), (27, (.aload_n 0), 1), (28, (.getfield 15), 3), (31, (.iconst 1), 1), (32, .iaload, 1), (33, (.invokevirtual 121), 3), (36, (.ifCond .ne 7), 3), (39, (.iconst 1), 1), (40, (.goto 4), 3), (43, (.iconst 0), 1), (44, .ireturn, 1)]
set_option maxRecDepth 100000 in
theorem tX1_isValid_ok : kTab cX1_isValid tX1_isValid := kTab_of (by decide +kernel)
def tX1_valueOf : List (Nat × Instr × Nat) := [(0, (.iload_n 1), 1), (1, (.invokestatic 118), 3), (4, (.istore_n 2), 1), (5, (.aload_n 0), 1), (6, (.getfield 40), 3), (9, (.getfield 111), 3), (12, (.iload_n 1), 1), (13, .iaload, 1), (14, (.istore_n 3), 1), (15, (.aload_n 0), 1), (16, (.getfield 40), 3), (19, (.getfield 125), 3), (22, (.iload_n 1), 1), (23, .iaload, 1), (24, (.bipush 120), 2), (26, .imul, 1), (27, (.istore 4), 2), (29, (.iload_n 3), 1), (30, (.iconst 4), 1), (31, (.invokestatic 114), 3), (34, (.ifCond .eq 23), 3), (37, (.iload 4), 2), (39, (.aload_n 0), 1), (40, (.getfield 33), 3), (43, (.iload_n 3), 1), (44, (.iload_n 2), 1), (45, (.aload_n 0), 1), (46, (.getfield 15), 3), (49, (.iconst 0), 1), (50, .iaload, 1), (51, (.invokevirtual 128), 3), (54, .iadd, 1), (55, (.istore 4), 2), (57, (.iconst 0), 1), (58, (.aload_n 0), 1), (59, (.getfield 9), 3), (62, (.iload_n 2), 1), (63, .iaload, 1), (64, (.bipush 120), 2), (66, .imul, 1), (67, (.iload 4), 2), (69, (.invokestatic 131), 3), (72, (.invokestatic 97), 3), (75, .ireturn, 1)]
set_option maxRecDepth 100000 in
theorem tX1_valueOf_ok : kTab cX1_valueOf tX1_valueOf := kTab_of (by decide +kernel)
def tX1_readValidValues : List (Nat × Instr × Nat) := [(0, (.iconst 0), 1), (1, (.istore_n 2), 1), (2, (.iconst 0), 1), (3, (.istore_n 3), 1), (4, (.iload_n 3), 1), (5, (.aload_n 0), 1), (6, (.getfield 40), 3), (9, (.getfield 134), 3), (12, (.iload_n 1), 1), (13, .iaload, 1), (14, (.if_icmp .ge 45), 3), (17, (.iload_n 3), 1), (18, (.iconst 3), 1), (19, (.if_icmp .ge 40), 3), (22, (.iload_n 1), 1), (23, (.iconst 3), 1), (24, .imul, 1), (25, (.iload_n 3), 1), (26, .iadd, 1), (27, (.istore 4), 2), (29, (.aload_n 0), 1), (30, (.iload 4), 2), (32, (.invokevirtual 137), 3), (35, (.ifCond .eq 18), 3), (38, (.aload_n 0), 1), (39, (.getfield 58), 3), (42, (.iload_n 2), 1), (43, (.aload_n 0), 1), (44, (.iload 4), 2), (46, (.invokevirtual 141), 3), (49, .iastore, 1), (50, (.iinc 2 1), 3), (53, (.iinc 3 1), 3), (56, (.goto (-52)), 3), (59, (.iload_n 2), 1), (60, .ireturn, 1)]
set_option maxRecDepth 100000 in
theorem tX1_readValidValues_ok : kTab cX1_readValidValues tX1_readValidValues := kTab_of (by decide +kernel)
def tX1_agree : List (Nat × Instr × Nat) := [(0, (.iload_n 1), 1), (1, (.iload_n 2), 1), (2, (.invokestatic 144), 3), (5, (.aload_n 0), 1), (6, (.getfield 15), 3), (9, (.iconst 2), 1), (10, .iaload, 1), (11, (.bipush 120), 2), (13, .imul, 1), (14, (.if_icmp .gt 7), 3), (17, (.iconst 1), 1), (18, (.goto 4), 3), (21, (.iconst 0), 1), (22, .ireturn, 1)]
set_option maxRecDepth 100000 in
theorem tX1_agree_ok : kTab cX1_agree tX1_agree := kTab_of (by decide +kernel)
def tX1_hasAgreement : List (Nat × Instr × Nat) := [(0, (.aload_n 0), 1), (1, (.iload_n 1), 1), (2, (.invokevirtual 147), 3), (5, (.iconst 2), 1), (6, (.if_icmp .ne 26), 3), (9, (.aload_n 0), 1), (10, (.aload_n 0), 1), (11, (.getfield 58), 3), (14, (.iconst 0), 1), (15, .iaload, 1), (16, (.aload_n 0), 1), (17, (.getfield 58), 3), (20, (.iconst 1), 1), (21, .iaload, 1), (22, (.invokevirtual 150), 3), (25, (.ifCond .eq 7), 3), (28, (.iconst 1), 1), (29, (.goto 4), 3), (32, (.iconst 0), 1), (33, .ireturn, 1)]
set_option maxRecDepth 100000 in
theorem tX1_hasAgreement_ok : kTab cX1_hasAgreement tX1_hasAgreement := kTab_of (by decide +kernel)
def tX1_settledOf : List (Nat × Instr × Nat) := [(0, (.aload_n 0), 1), (1, (.getfield 54), 3), (4, (.getfield 153), 3), (7, (.iload_n 1), 1), (8, .iaload, 1), (9, (.iconst 3), 1), (10, (.if_icmp .ne 16), 3), (13, (.aload_n 0), 1), (14, (.getfield 54), 3), (17, (.getfield 156), 3), (20, (.iload_n 1), 1), (21, .iaload, 1), (22, (.bipush 120), 2), (24, .imul, 1), (25, .ireturn, 1), (26, (.aload_n 0), 1), (27, (.iload_n 1), 1), (28, (.invokevirtual 147), 3), (31, (.istore_n 2), 1), (32, (.iload_n 2), 1), (33, (.ifCond .ne 5), 3), (36, (.iconst 0), 1), (37, .ireturn, 1), (38, (.iload_n 2), 1), (39, (.iconst 1), 1), (40, (.if_icmp .ne 10), 3), (43, (.aload_n 0), 1), (44, (.getfield 58), 3), (47, (.iconst 0), 1), (48, .iaload, 1), (49, .ireturn, 1), (50, (.aload_n 0), 1), (51, (.aload_n 0), 1), (52, (.getfield 58), 3), (55, (.iconst 0), 1), (56, .iaload, 1), (57, (.aload_n 0), 1), (58, (.getfield 58), 3), (61, (.iconst 1), 1), (62, .iaload, 1), (63, (.invokevirtual 150), 3), (66, (.ifCond .eq 19), 3), (69, (.aload_n 0), 1), (70, (.getfield 58), 3), (73, (.iconst 0), 1), (74, .iaload, 1), (75, (.aload_n 0), 1), (76, (.getfield 58), 3), (79, (.iconst 1), 1), (80, .iaload, 1), (81, .iadd, 1), (82, (.iconst 2), 1), (83, .idiv, 1), (84, .ireturn, 1), (85, (.iload_n 2), 1), (86, (.iconst 2), 1), (87, (.if_icmp .ne 19), 3), (90, (.aload_n 0), 1), (91, (.getfield 58), 3), (94, (.iconst 0), 1), (95, .iaload, 1), (96, (.aload_n 0), 1), (97, (.getfield 58), 3), (100, (.iconst 1), 1), (101, .iaload, 1), (102, (.invokestatic 131), 3), (105, .ireturn, 1), (106, (.aload_n 0), 1), (107, (.getfield 58), 3), (110, (.iconst 2), 1), (111, .iaload, 1), (112, (.aload_n 0), 1), (113, (.getfield 58), 3), (116, (.iconst 0), 1), (117, .iaload, 1), (118, (.aload_n 0), 1), (119, (.getfield 58), 3), (122, (.iconst 1), 1), (123, .iaload, 1), (124, (.invokestatic 157), 3), (127, .ireturn, 1)]
set_option maxRecDepth 100000 in
theorem tX1_settledOf_ok : kTab cX1_settledOf tX1_settledOf := kTab_of (by decide +kernel)
def tX1_standingOf : List (Nat × Instr × Nat) := [(0, (.aload_n 0), 1), (1, (.getfield 54), 3), (4, (.getfield 153), 3), (7, (.iload_n 1), 1), (8, .iaload, 1), (9, (.iconst 3), 1), (10, (.if_icmp .ne 5), 3), (13, (.iconst 0), 1), (14, .ireturn, 1), (15, (.aload_n 0), 1), (16, (.iload_n 1), 1), (17, (.invokevirtual 147), 3), (20, (.istore_n 2), 1), (21, (.iload_n 2), 1), (22, (.ifCond .ne 5), 3), (25, (.iconst 1), 1), (26, .ireturn, 1), (27, (.iload_n 2), 1), (28, (.iconst 2), 1), (29, (.if_icmp .ne 26), 3), (32, (.aload_n 0), 1), (33, (.aload_n 0), 1), (34, (.getfield 58), 3), (37, (.iconst 0), 1), (38, .iaload, 1), (39, (.aload_n 0), 1), (40, (.getfield 58), 3), (43, (.iconst 1), 1), (44, .iaload, 1), (45, (.invokevirtual 150), 3), (48, (.ifCond .ne 7), 3), (51, (.iconst 2), 1), (52, (.goto 4), 3), (55, (.iconst 0), 1), (56, .ireturn, 1)]
set_option maxRecDepth 100000 in
theorem tX1_standingOf_ok : kTab cX1_standingOf tX1_standingOf := kTab_of (by decide +kernel)
def tX1_isExcused : List (Nat × Instr × Nat) := [(0, (.aload_n 0), 1), (1, (.getfield 21), 3), (4, (.iload_n 1), 1), (5, .iaload, 1), (6, (.iload_n 2), 1), (7, .ishr, 1), (8, (.iconst 1), 1), (9, .iand, 1), (10, (.ifCond .eq 7), 3), (13, (.iconst 1), 1), (14, (.goto 4), 3), (17, (.iconst 0), 1), (18, .ireturn, 1)]
set_option maxRecDepth 100000 in
theorem tX1_isExcused_ok : kTab cX1_isExcused tX1_isExcused := kTab_of (by decide +kernel)
def tX1_hasGrade : List (Nat × Instr × Nat) := [(0, (.iconst 0), 1), (1, (.istore_n 2), 1), (2, (.iload_n 2), 1), (3, (.iconst 5), 1), (4, (.if_icmp .ge 27), 3), (7, (.aload_n 0), 1), (8, (.getfield 40), 3), (11, (.getfield 134), 3), (14, (.iload_n 1), 1), (15, (.iload_n 2), 1), (16, (.invokestatic 160), 3), (19, .iaload, 1), (20, (.ifCond .le 5), 3), (23, (.iconst 1), 1), (24, .ireturn, 1), (25, (.iinc 2 1), 3), (28, (.goto (-26)), 3), (31, (.iconst 0), 1), (32, .ireturn, 1)]
set_option maxRecDepth 100000 in
theorem tX1_hasGrade_ok : kTab cX1_hasGrade tX1_hasGrade := kTab_of (by decide +kernel)
def tX1_gradedCandidates : List (Nat × Instr × Nat) := [(0, (.iconst 0), 1), (1, (.istore_n 1), 1), (2, (.iconst 0), 1), (3, (.istore_n 2), 1), (4, (.iload_n 2), 1), (5, (.bipush 8), 2), (7, (.if_icmp .ge 25), 3), (10, (.iload_n 1), 1), (11, (.aload_n 0), 1), (12, (.iload_n 2), 1), (13, (.invokevirtual 163), 3), (16, (.ifCond .eq 7), 3), (19, (.iconst 1), 1), (20, (.goto 4), 3), (23, (.iconst 0), 1), (24, .iadd, 1), (25, (.istore_n 1), 1), (26, (.iinc 2 1), 3), (29, (.goto (-25)), 3), (32, (.iload_n 1), 1), (33, .ireturn, 1)]
set_option maxRecDepth 100000 in
theorem tX1_gradedCandidates_ok : kTab cX1_gradedCandidates tX1_gradedCandidates := kTab_of (by decide +kernel)
def tX1_disputedScripts : List (Nat × Instr × Nat) := [(0, (.iconst 0), 1), (1, (.istore_n 1), 1), (2, (.iconst 0), 1), (3, (.istore_n 2), 1), (4, (.iload_n 2), 1), (5, (.bipush 40), 2), (7, (.if_icmp .ge 34), 3), (10, (.aload_n 0), 1), (11, (.iload_n 2), 1), (12, (.invokevirtual 166), 3), (15, (.iconst 2), 1), (16, (.if_icmp .ne 19), 3), (19, (.aload_n 0), 1), (20, (.iload_n 2), 1), (21, (.iconst 5), 1), (22, .idiv, 1), (23, (.iload_n 2), 1), (24, (.iconst 5), 1), (25, .irem, 1), (26, (.invokevirtual 169), 3), (29, (.ifCond .ne 6), 3), (32, (.iinc 1 1), 3), (35, (.iinc 2 1), 3), (38, (.goto (-34)), 3), (41, (.iload_n 1), 1), (42, .ireturn, 1)]
set_option maxRecDepth 100000 in
theorem tX1_disputedScripts_ok : kTab cX1_disputedScripts tX1_disputedScripts := kTab_of (by decide +kernel)
def tX1_plainGradeOf : List (Nat × Instr × Nat) := [(0, (.iconst 0), 1), (1, (.istore_n 2), 1), (2, (.iload_n 2), 1), (3, (.iconst 4), 1), (4, (.if_icmp .ge 21), 3), (7, (.aload_n 0), 1), (8, (.getfield 18), 3), (11, (.iload_n 2), 1), (12, .iaload, 1), (13, (.iload_n 1), 1), (14, (.if_icmp .gt 5), 3), (17, (.iload_n 2), 1), (18, .ireturn, 1), (19, (.iinc 2 1), 3), (22, (.goto (-20)), 3), (25, (.iconst 4), 1), (26, .ireturn, 1)]
set_option maxRecDepth 100000 in
theorem tX1_plainGradeOf_ok : kTab cX1_plainGradeOf tX1_plainGradeOf := kTab_of (by decide +kernel)
def tX2_init : List (Nat × Instr × Nat) := [(0, (.aload_n 0), 1), (1, (.invokespecial 3), 3), (4, (.aload_n 0), 1), (5, (.iconst 5), 1), (6, (.newarray .int), 2), (8, (.putfield 9), 3), (11, (.aload_n 0), 1), (12, (.iconst 5), 1), (13, (.newarray .int), 2), (15, (.putfield 15), 3), (18, .return_, 1)]
set_option maxRecDepth 100000 in
theorem tX2_init_ok : kTab cX2_init tX2_init := kTab_of (by decide +kernel)
def tX2_copyFrom : List (Nat × Instr × Nat) := [(0, (.aload_n 1), 1), (1, (.getfield 9), 3), (4, (.aload_n 0), 1), (5, (.getfield 9), 3), (8, (.invokestatic 18), 3), (11, (.aload_n 1), 1), (12, (.getfield 15), 3), (15, (.aload_n 0), 1), (16, (.getfield 15), 3), (19, (.invokestatic 18), 3), (22, (.aload_n 0), 1), (23, (.aload_n 1), 1), (24, (.getfield 22), 3), (27, (.putfield 22), 3), (30, .return_, 1)]
set_option maxRecDepth 100000 in
theorem tX2_copyFrom_ok : kTab cX2_copyFrom tX2_copyFrom := kTab_of (by decide +kernel)
def tX2_indexOf : List (Nat × Instr × Nat) := [(0, (.iconst 0), 1), (1, (.istore_n 2), 1), (2, (.iload_n 2), 1), (3, (.aload_n 0), 1), (4, (.getfield 22), 3), (7, (.if_icmp .ge 26), 3), (10, (.iload_n 2), 1), (11, (.iconst 5), 1), (12, (.if_icmp .ge 21), 3), (15, (.aload_n 0), 1), (16, (.getfield 9), 3), (19, (.iload_n 2), 1), (20, .iaload, 1), (21, (.iload_n 1), 1), (22, (.if_icmp .ne 5), 3), (25, (.iload_n 2), 1), (26, .ireturn, 1), (27, (.iinc 2 1), 3), (30, (.goto (-28)), 3), (33, (.iconst (-1)), 1), (34, .ireturn, 1)]
set_option maxRecDepth 100000 in
theorem tX2_indexOf_ok : kTab cX2_indexOf tX2_indexOf := kTab_of (by decide +kernel)
def tX2_put : List (Nat × Instr × Nat) := [(0, (.aload_n 0), 1), (1, (.iload_n 1), 1), (2, (.invokevirtual 26), 3), (5, (.istore_n 3), 1), (6, (.iload_n 3), 1), (7, (.ifCond .ge 76), 3), (10, (.aload_n 0), 1), (11, (.getfield 22), 3), (14, (.iconst 5), 1), (15, (.if_icmp .ge 68), 3), (18, (.aload_n 0), 1), (19, (.getfield 22), 3), (22, (.istore_n 3), 1), (23, (.iload_n 3), 1), (24, (.ifCond .le 49), 3), (27, (.aload_n 0), 1), (28, (.getfield 9), 3), (31, (.iload_n 3), 1), (32, (.iconst 1), 1), (33, .isub, 1), (34, .iaload, 1), (35, (.iload_n 1), 1), (36, (.if_icmp .le 37), 3), (39, (.aload_n 0), 1), (40, (.getfield 9), 3), (43, (.iload_n 3), 1), (44, (.aload_n 0), 1), (45, (.getfield 9), 3), (48, (.iload_n 3), 1), (49, (.iconst 1), 1), (50, .isub, 1), (51, .iaload, 1), (52, .iastore, 1), (53, (.aload_n 0), 1), (54, (.getfield 15), 3), (57, (.iload_n 3), 1), (58, (.aload_n 0), 1), (59, (.getfield 15), 3), (62, (.iload_n 3), 1), (63, (.iconst 1), 1), (64, .isub, 1), (65, .iaload, 1), (66, .iastore, 1), (67, (.iinc 3 (-1)), 3), (70, (.goto (-47)), 3), (73, (.aload_n 0), 1), (74, .dup, 1), (75, (.getfield 22), 3), (78, (.iconst 1), 1), (79, .iadd, 1), (80, (.putfield 22), 3), (83, (.iload_n 3), 1), (84, (.ifCond .lt 17), 3), (87, (.aload_n 0), 1), (88, (.getfield 9), 3), (91, (.iload_n 3), 1), (92, (.iload_n 1), 1), (93, .iastore, 1), (94, (.aload_n 0), 1), (95, (.getfield 15), 3), (98, (.iload_n 3), 1), (99, (.iload_n 2), 1), (100, .iastore, 1), (101, (.aload_n 0), 1), (102, (.getfield 22), 3), (105, .ireturn, 1)]
set_option maxRecDepth 100000 in
theorem tX2_put_ok : kTab cX2_put tX2_put := kTab_of (by decide +kernel)
def tX2_takeAway : List (Nat × Instr × Nat) := [(0, (.aload_n 0), 1), (1, (.getfield 15), 3), (4, (.iload_n 1), 1), (5, .iaload, 1), (6, (.istore_n 2), 1), (7, (.iload_n 1), 1), (8, (.istore_n 3), 1), (9, (.iload_n 3), 1), (10, (.iconst 1), 1), (11, .iadd, 1), (12, (.aload_n 0), 1), (13, (.getfield 22), 3), (16, (.if_icmp .ge 44), 3), (19, (.iload_n 3), 1), (20, (.iconst 1), 1), (21, .iadd, 1), (22, (.iconst 5), 1), (23, (.if_icmp .ge 37), 3), (26, (.aload_n 0), 1), (27, (.getfield 9), 3), (30, (.iload_n 3), 1), (31, (.aload_n 0), 1), (32, (.getfield 9), 3), (35, (.iload_n 3), 1), (36, (.iconst 1), 1), (37, .iadd, 1), (38, .iaload, 1), (39, .iastore, 1), (40, (.aload_n 0), 1), (41, (.getfield 15), 3), (44, (.iload_n 3), 1), (45, (.aload_n 0), 1), (46, (.getfield 15), 3), (49, (.iload_n 3), 1), (50, (.iconst 1), 1), (51, .iadd, 1), (52, .iaload, 1), (53, .iastore, 1), (54, (.iinc 3 1), 3), (57, (.goto (-48)), 3), (60, (.aload_n 0), 1), (61, .dup, 1), (62, (.getfield 22), 3), (65, (.iconst 1), 1), (66, .isub, 1), (67, (.putfield 22), 3), (70, (.iload_n 2), 1), (71, .ireturn, 1)]
set_option maxRecDepth 100000 in
theorem tX2_takeAway_ok : kTab cX2_takeAway tX2_takeAway := kTab_of (by decide +kernel)
def tX2_scale : List (Nat × Instr × Nat) := [(0, (.aload_n 0), 1), (1, (.getfield 22), 3), (4, (.iconst 2), 1), (5, (.if_icmp .lt 11), 3), (8, (.aload_n 0), 1), (9, (.getfield 22), 3), (12, (.iconst 5), 1), (13, (.if_icmp .le 17), 3), (16, (.ldc2_w 30), 3), (19, (.lload_n 1), 1), (20, .lmul, 1), (21, (.lload_n 3), 1), (22, (.iload 5), 2), (24, .i2l, 1), (25, .lmul, 1), (26, (.invokestatic 32), 3), (29, .ireturn, 1), (30, (.lload_n 1), 1), (31, (.aload_n 0), 1), (32, (.getfield 9), 3), (35, (.iconst 0), 1), (36, .iaload, 1), (37, .i2l, 1), (38, (.lload_n 3), 1), (39, .lmul, 1), (40, .lcmp, 1), (41, (.ifCond .gt 10), 3), (44, (.aload_n 0), 1), (45, (.getfield 15), 3), (48, (.iconst 0), 1), (49, .iaload, 1), (50, .ireturn, 1), (51, (.iconst 1), 1), (52, (.istore 6), 2), (54, (.iload 6), 2), (56, (.aload_n 0), 1), (57, (.getfield 22), 3), (60, (.if_icmp .ge 109), 3), (63, (.lload_n 1), 1), (64, (.aload_n 0), 1), (65, (.getfield 9), 3), (68, (.iload 6), 2), (70, .iaload, 1), (71, .i2l, 1), (72, (.lload_n 3), 1), (73, .lmul, 1), (74, .lcmp, 1), (75, (.ifCond .ge 88), 3), (78, (.aload_n 0), 1), (79, (.getfield 9), 3), (82, (.iload 6), 2), (84, .iaload, 1), (85, (.aload_n 0), 1), (86, (.getfield 9), 3), (89, (.iload 6), 2), (91, (.iconst 1), 1), (92, .isub, 1), (93, .iaload, 1), (94, .isub, 1), (95, .i2l, 1), (96, (.lstore 7), 2), (98, (.aload_n 0), 1), (99, (.getfield 15), 3), (102, (.iload 6), 2), (104, (.iconst 1), 1), (105, .isub, 1), (106, .iaload, 1), (107, .i2l, 1), (108, (.lload 7), 2), (110, .lmul, 1), (111, (.lload_n 3), 1), (112, .lmul, 1), (113, (.lstore 9), 2), (115, (.lload_n 1), 1), (116, (.aload_n 0), 1), (117, (.getfield 9), 3), (120, (.iload 6), 2), (122, (.iconst 1), 1), (123, .isub, 1), (124, .iaload, 1), (125, .i2l, 1), (126, (.lload_n 3), 1), (127, .lmul, 1), (128, .lsub, 1), (129, (.lstore 11), 2), (131, (.lload 9), 2), (133, (.aload_n 0), 1), (134, (.getfield 15), 3), (137, (.iload 6), 2), (139, .iaload, 1), (140, (.aload_n 0), 1), (141, (.getfield 15), 3), (144, (.iload 6), 2), (146, (.iconst 1), 1), (147, .isub, 1), (148, .iaload, 1), (149, .isub, 1), (150, .i2l, 1), (151, (.lload 11), 2), (153, .lmul, 1), (154, .ladd, 1), (155, (.lload 7), 2), (157, (.lload_n 3), 1), (158, .lmul, 1), (159, (.invokestatic 32), 3), (162, .ireturn, 1), (163, (.iinc 6 1), 3), (166, (.goto (-112)), 3), (169, (.aload_n 0), 1), (170, (.getfield 15), 3), (173, (.aload_n 0), 1), (174, (.getfield 22), 3), (177, (.iconst 1), 1), (178, .isub, 1), (179, .iaload, 1), (180, .ireturn, 1)]
set_option maxRecDepth 100000 in
theorem tX2_scale_ok : kTab cX2_scale tX2_scale := kTab_of (by decide +kernel)
def tX2_round : List (Nat × Instr × Nat) := [(0, (.lload_n 2), 1), (1, (.lconst 0), 1), (2, .lcmp, 1), (3, (.ifCond .gt 7), 3), (6, (.iconst 0), 1), (7, (.goto 19), 3), (10, (.ldc2_w 36), 3), (13, (.lload_n 0), 1), (14, .lmul, 1), (15, (.lload_n 2), 1), (16, .ladd, 1), (17, (.ldc2_w 36), 3), (20, (.lload_n 2), 1), (21, .lmul, 1), (22, (.invokestatic 38), 3), (25, .l2i, 1), (26, .ireturn, 1)]
set_option maxRecDepth 100000 in
theorem tX2_round_ok : kTab cX2_round tX2_round := kTab_of (by decide +kernel)
def tX3_init : List (Nat × Instr × Nat) := [(0, (.aload_n 0), 1), (1, (.invokespecial 3), 3), (4, (.aload_n 0), 1), (5, (.bipush 40), 2), (7, (.newarray .int), 2), (9, (.putfield 9), 3), (12, (.aload_n 0), 1), (13, (.bipush 120), 2), (15, (.newarray .int), 2), (17, (.putfield 15), 3), (20, (.aload_n 0), 1), (21, (.bipush 120), 2), (23, (.newarray .int), 2), (25, (.putfield 18), 3), (28, (.aload_n 0), 1), (29, (.bipush 120), 2), (31, (.newarray .int), 2), (33, (.putfield 21), 3), (36, .return_, 1)]
set_option maxRecDepth 100000 in
theorem tX3_init_ok : kTab cX3_init tX3_init := kTab_of (by decide +kernel)
def tX3_copyFrom : List (Nat × Instr × Nat) := [(0, (.aload_n 1), 1), (1, (.getfield 9), 3), (4, (.aload_n 0), 1), (5, (.getfield 9), 3), (8, (.invokestatic 24), 3), (11, (.aload_n 1), 1), (12, (.getfield 15), 3), (15, (.aload_n 0), 1), (16, (.getfield 15), 3), (19, (.invokestatic 24), 3), (22, (.aload_n 1), 1), (23, (.getfield 18), 3), (26, (.aload_n 0), 1), (27, (.getfield 18), 3), (30, (.invokestatic 24), 3), (33, (.aload_n 1), 1), (34, (.getfield 21), 3), (37, (.aload_n 0), 1), (38, (.getfield 21), 3), (41, (.invokestatic 24), 3), (44, (.aload_n 0), 1), (45, (.aload_n 1), 1), (46, (.getfield 28), 3), (49, (.putfield 28), 3), (52, .return_, 1)]
set_option maxRecDepth 100000 in
theorem tX3_copyFrom_ok : kTab cX3_copyFrom tX3_copyFrom := kTab_of (by decide +kernel)
def tX3_put : List (Nat × Instr × Nat) := [(0, (.aload_n 0), 1), (1, (.getfield 9), 3), (4, (.iload_n 2), 1), (5, .iaload, 1), (6, (.istore 4), 2), (8, (.iload 4), 2), (10, (.iconst 3), 1), (11, (.if_icmp .ge 67), 3), (14, (.aload_n 0), 1), (15, (.getfield 28), 3), (18, (.bipush 120), 2), (20, (.if_icmp .ge 58), 3), (23, (.iload_n 2), 1), (24, (.iconst 3), 1), (25, .imul, 1), (26, (.iload 4), 2), (28, .iadd, 1), (29, (.istore 5), 2), (31, (.aload_n 0), 1), (32, (.getfield 15), 3), (35, (.iload 5), 2), (37, (.iload_n 1), 1), (38, .iastore, 1), (39, (.aload_n 0), 1), (40, (.getfield 18), 3), (43, (.iload 5), 2), (45, (.iload_n 3), 1), (46, .iastore, 1), (47, (.aload_n 0), 1), (48, (.getfield 21), 3), (51, (.aload_n 0), 1), (52, (.getfield 28), 3), (55, (.iload 5), 2), (57, .iastore, 1), (58, (.aload_n 0), 1), (59, .dup, 1), (60, (.getfield 28), 3), (63, (.iconst 1), 1), (64, .iadd, 1), (65, (.putfield 28), 3), (68, (.aload_n 0), 1), (69, (.getfield 9), 3), (72, (.iload_n 2), 1), (73, (.iload 4), 2), (75, (.iconst 1), 1), (76, .iadd, 1), (77, .iastore, 1), (78, (.aload_n 0), 1), (79, (.getfield 9), 3), (82, (.iload_n 2), 1), (83, .iaload, 1), (84, .ireturn, 1)]
set_option maxRecDepth 100000 in
theorem tX3_put_ok : kTab cX3_put tX3_put := kTab_of (by decide +kernel)
def tX3_isBy : List (Nat × Instr × Nat) := [(0, (.iload_n 2), 1), (1, (.iconst 3), 1), (2, .irem, 1), (3, (.aload_n 0), 1), (4, (.getfield 9), 3), (7, (.iload_n 2), 1), (8, (.iconst 3), 1), (9, .idiv, 1), (10, .iaload, 1), (11, (.if_icmp .ge 17), 3), (14, (.aload_n 0), 1), (15, (.getfield 15), 3), (18, (.iload_n 2), 1), (19, .iaload, 1), (20, (.iload_n 1), 1), (21, (.if_icmp .ne 7), 3), (24, (.iconst 1), 1), (25, (.goto 4), 3), (28, (.iconst 0), 1), (29, .ireturn, 1)]
set_option maxRecDepth 100000 in
theorem tX3_isBy_ok : kTab cX3_isBy tX3_isBy := kTab_of (by decide +kernel)
def tX3_hasEntryBy : List (Nat × Instr × Nat) := [(0, (.iconst 0), 1), (1, (.istore_n 3), 1), (2, (.iload_n 3), 1), (3, (.iconst 3), 1), (4, (.if_icmp .ge 24), 3), (7, (.aload_n 0), 1), (8, (.iload_n 1), 1), (9, (.iload_n 2), 1), (10, (.iconst 3), 1), (11, .imul, 1), (12, (.iload_n 3), 1), (13, .iadd, 1), (14, (.invokevirtual 32), 3), (17, (.ifCond .eq 5), 3), (20, (.iconst 1), 1), (21, .ireturn, 1), (22, (.iinc 3 1), 3), (25, (.goto (-23)), 3), (28, (.iconst 0), 1), (29, .ireturn, 1)]
set_option maxRecDepth 100000 in
theorem tX3_hasEntryBy_ok : kTab cX3_hasEntryBy tX3_hasEntryBy := kTab_of (by decide +kernel)
def tX3_greatestMark : List (Nat × Instr × Nat) := [(0, (.iconst 0), 1), (1, (.istore_n 2), 1), (2, (.iconst 0), 1), (3, (.istore_n 3), 1), (4, (.iload_n 3), 1), (5, (.bipush 120), 2), (7, (.if_icmp .ge 42), 3), (10, (.iload_n 3), 1), (11, (.invokestatic 36), 3), (14, (.iload_n 1), 1), (15, (.if_icmp .ne 28), 3), (18, (.iload_n 3), 1), (19, (.iconst 3), 1), (20, .irem, 1), (21, (.aload_n 0), 1), (22, (.getfield 9), 3), (25, (.iload_n 3), 1), (26, (.iconst 3), 1), (27, .idiv, 1), (28, .iaload, 1), (29, (.if_icmp .ge 14), 3), (32, (.iload_n 2), 1), (33, (.aload_n 0), 1), (34, (.getfield 18), 3), (37, (.iload_n 3), 1), (38, .iaload, 1), (39, (.invokestatic 40), 3), (42, (.istore_n 2), 1), (43, (.iinc 3 1), 3), (46, (.goto (-42)), 3), (49, (.iload_n 2), 1), (50, .ireturn, 1)]
set_option maxRecDepth 100000 in
theorem tX3_greatestMark_ok : kTab cX3_greatestMark tX3_greatestMark := kTab_of (by decide +kernel)
def tX4_init : List (Nat × Instr × Nat) := [(0, (.aload_n 0), 1), (1, (.invokespecial 3), 3), (4, (.aload_n 0), 1), (5, (.bipush 6), 2), (7, (.anewarray 9), 3), (10, (.putfield 11), 3), (13, (.iconst 0), 1), (14, (.istore_n 1), 1), (15, (.iload_n 1), 1), (16, (.bipush 6), 2), (18, (.if_icmp .ge 22), 3), (21, (.aload_n 0), 1), (22, (.getfield 11), 3), (25, (.iload_n 1), 1), (26, (.new 9), 3), (29, .dup, 1), (30, (.invokespecial 17), 3), (33, .aastore, 1), (34, (.iinc 1 1), 3), (37, (.goto (-22)), 3), (40, .return_, 1)]
set_option maxRecDepth 100000 in
theorem tX4_init_ok : kTab cX4_init tX4_init := kTab_of (by decide +kernel)
def tX4_keep : List (Nat × Instr × Nat) := [(0, (.aload_n 0), 1), (1, (.getfield 11), 3), (4, (.aload_n 0), 1), (5, (.getfield 18), 3), (8, (.aload_n 0), 1), (9, (.getfield 22), 3), (12, .iadd, 1), (13, (.bipush 6), 2), (15, .irem, 1), (16, .aaload, 1), (17, (.aload_n 1), 1), (18, (.invokevirtual 25), 3), (21, (.aload_n 0), 1), (22, (.getfield 22), 3), (25, (.bipush 6), 2), (27, (.if_icmp .ge 16), 3), (30, (.aload_n 0), 1), (31, .dup, 1), (32, (.getfield 22), 3), (35, (.iconst 1), 1), (36, .iadd, 1), (37, (.putfield 22), 3), (40, (.goto 16), 3), (43, (.aload_n 0), 1), (44, (.aload_n 0), 1), (45, (.getfield 18), 3), (48, (.iconst 1), 1), (49, .iadd, 1), (50, (.bipush 6), 2), (52, .irem, 1), (53, (.putfield 18), 3), (56, .return_, 1)]
set_option maxRecDepth 100000 in
theorem tX4_keep_ok : kTab cX4_keep tX4_keep := kTab_of (by decide +kernel)
def tX4_takeBack : List (Nat × Instr × Nat) := [(0, (.aload_n 0), 1), (1, (.getfield 22), 3), (4, (.ifCond .le 34), 3), (7, (.aload_n 0), 1), (8, .dup, 1), (9, (.getfield 22), 3), (12, (.iconst 1), 1), (13, .isub, 1), (14, (.putfield 22), 3), (17, (.aload_n 1), 1), (18, (.aload_n 0), 1), (19, (.getfield 11), 3), (22, (.aload_n 0), 1), (23, (.getfield 18), 3), (26, (.aload_n 0), 1), (27, (.getfield 22), 3), (30, .iadd, 1), (31, (.bipush 6), 2), (33, .irem, 1), (34, .aaload, 1), (35, (.invokevirtual 25), 3), (38, .return_, 1)]
set_option maxRecDepth 100000 in
theorem tX4_takeBack_ok : kTab cX4_takeBack tX4_takeBack := kTab_of (by decide +kernel)
def tX5_init : List (Nat × Instr × Nat) := [(0, (.aload_n 0), 1), (1, (.invokespecial 3), 3), (4, (.aload_n 0), 1), (5, (.iconst 5), 1), (6, (.newarray .int), 2), (8, (.putfield 9), 3), (11, (.aload_n 0), 1), (12, (.lconst 1), 1), (13, (.putfield 15), 3), (16, .return_, 1)]
set_option maxRecDepth 100000 in
theorem tX5_init_ok : kTab cX5_init tX5_init := kTab_of (by decide +kernel)
def tX5_find : List (Nat × Instr × Nat) := [(0, (.iconst 0), 1), (1, (.istore_n 3), 1), (2, (.iload_n 3), 1), (3, (.iconst 5), 1), (4, (.if_icmp .ge 24), 3), (7, (.aload_n 0), 1), (8, (.getfield 9), 3), (11, (.iload_n 3), 1), (12, (.aload_n 1), 1), (13, (.iload_n 2), 1), (14, (.iload_n 3), 1), (15, (.invokestatic 19), 3), (18, (.invokevirtual 23), 3), (21, .iastore, 1), (22, (.iinc 3 1), 3), (25, (.goto (-23)), 3), (28, (.aload_n 0), 1), (29, (.aload_n 1), 1), (30, (.iload_n 2), 1), (31, (.invokevirtual 29), 3), (34, .return_, 1)]
set_option maxRecDepth 100000 in
theorem tX5_find_ok : kTab cX5_find tX5_find := kTab_of (by decide +kernel)
def tX5_suppose : List (Nat × Instr × Nat) := [(0, (.aload_n 0), 1), (1, (.getfield 9), 3), (4, (.iload_n 3), 1), (5, (.iload 4), 2), (7, (.bipush 120), 2), (9, .imul, 1), (10, .iastore, 1), (11, (.aload_n 0), 1), (12, (.aload_n 1), 1), (13, (.iload_n 2), 1), (14, (.invokevirtual 29), 3), (17, .return_, 1)]
set_option maxRecDepth 100000 in
theorem tX5_suppose_ok : kTab cX5_suppose tX5_suppose := kTab_of (by decide +kernel)
def tX5_assess : List (Nat × Instr × Nat) := [(0, (.aload_n 1), 1), (1, (.invokevirtual 33), 3), (4, (.istore_n 3), 1), (5, (.aload_n 0), 1), (6, (.aload_n 1), 1), (7, (.iload_n 2), 1), (8, (.iload_n 3), 1), (9, (.invokevirtual 37), 3), (12, (.aload_n 0), 1), (13, (.aload_n 1), 1), (14, (.getfield 41), 3), (17, (.aload_n 0), 1), (18, (.getfield 45), 3), (21, (.aload_n 0), 1), (22, (.getfield 15), 3), (25, (.ldc2_w 48), 3), (28, .lmul, 1), (29, (.iload_n 3), 1), (30, (.invokevirtual 50), 3), (33, (.putfield 56), 3), (36, (.aload_n 0), 1), (37, (.aload_n 1), 1), (38, (.aload_n 0), 1), (39, (.getfield 56), 3), (42, (.invokevirtual 60), 3), (45, (.putfield 63), 3), (48, (.aload_n 0), 1), (49, (.aload_n 0), 1), (50, (.aload_n 1), 1), (51, (.iload_n 2), 1), (52, (.invokevirtual 66), 3), (55, (.ifCond .eq 12), 3), (58, (.aload_n 0), 1), (59, (.getfield 63), 3), (62, (.iconst 1), 1), (63, .isub, 1), (64, (.goto 7), 3), (67, (.aload_n 0), 1), (68, (.getfield 63), 3), (71, (.putfield 70), 3), (74, .return_, 1)]
set_option maxRecDepth 100000 in
theorem tX5_assess_ok : kTab cX5_assess tX5_assess := kTab_of (by decide +kernel)
def tX5_findRawResult : List (Nat × Instr × Nat) := [(0, (.lconst 0), 1), (1, (.lstore 4), 2), (3, (.lconst 0), 1), (4, (.lstore 6), 2), (6, (.iconst 0), 1), (7, (.istore 8), 2), (9, (.iload 8), 2), (11, (.iconst 5), 1), (12, (.if_icmp .ge 45), 3), (15, (.aload_n 1), 1), (16, (.iload_n 2), 1), (17, (.iload 8), 2), (19, (.invokevirtual 73), 3), (22, (.ifCond .ne 29), 3), (25, (.lload 4), 2), (27, (.aload_n 0), 1), (28, (.getfield 9), 3), (31, (.iload 8), 2), (33, .iaload, 1), (34, .i2l, 1), (35, .ladd, 1), (36, (.lstore 4), 2), (38, (.lload 6), 2), (40, (.aload_n 1), 1), (41, (.getfield 77), 3), (44, (.iload 8), 2), (46, .iaload, 1), (47, .i2l, 1), (48, .ladd, 1), (49, (.lstore 6), 2), (51, (.iinc 8 1), 3), (54, (.goto (-45)), 3), (57, (.lload 4), 2), (59, (.iload_n 3), 1), (60, .i2l, 1), (61, .lmul, 1), (62, (.bipush 100), 2), (64, (.aload_n 1), 1), (65, (.getfield 80), 3), (68, (.iload_n 2), 1), (69, .iaload, 1), (70, .iadd, 1), (71, .i2l, 1), (72, .lmul, 1), (73, (.lstore 8), 2), (75, (.lload 6), 2), (77, (.ldc2_w 83), 3), (80, .lmul, 1), (81, (.lstore 10), 2), (83, (.lload 8), 2), (85, (.iload_n 3), 1), (86, .i2l, 1), (87, (.ldc2_w 48), 3), (90, .lmul, 1), (91, (.lload 10), 2), (93, .lmul, 1), (94, .lcmp, 1), (95, (.ifCond .le 14), 3), (98, (.iload_n 3), 1), (99, .i2l, 1), (100, (.ldc2_w 48), 3), (103, .lmul, 1), (104, (.lstore 8), 2), (106, (.lconst 1), 1), (107, (.lstore 10), 2), (109, (.lload 8), 2), (111, (.lload 10), 2), (113, (.invokestatic 85), 3), (116, (.lstore 12), 2), (118, (.lload 12), 2), (120, (.lconst 0), 1), (121, .lcmp, 1), (122, (.ifCond .le 21), 3), (125, (.aload_n 0), 1), (126, (.lload 8), 2), (128, (.lload 12), 2), (130, .ldiv, 1), (131, (.putfield 45), 3), (134, (.aload_n 0), 1), (135, (.lload 10), 2), (137, (.lload 12), 2), (139, .ldiv, 1), (140, (.putfield 15), 3), (143, .return_, 1)]
set_option maxRecDepth 100000 in
theorem tX5_findRawResult_ok : kTab cX5_findRawResult tX5_findRawResult := kTab_of (by decide +kernel)
def tX5_isLifted : List (Nat × Instr × Nat) := [(0, (.aload_n 0), 1), (1, (.getfield 63), 3), (4, (.ifCond .le 11), 3), (7, (.aload_n 0), 1), (8, (.getfield 63), 3), (11, (.iconst 5), 1), (12, (.if_icmp .lt 5), 3), (15, (.iconst 0), 1), (16, .ireturn, 1), (17, (.aload_n 1), 1), (18, (.getfield 89), 3), (21, (.aload_n 0), 1), (22, (.getfield 63), 3), (25, (.iconst 1), 1), (26, .isub, 1), (27, .iaload, 1), (28, (.istore_n 3), 1), (29, (.iconst 0), 1), (30, (.istore 4), 2), (32, (.iconst 0), 1), (33, (.istore 5), 2), (35, (.iconst 0), 1), (36, (.istore 6), 2), (38, (.iload 6), 2), (40, (.iconst 5), 1), (41, (.if_icmp .ge 57), 3), (44, (.aload_n 1), 1), (45, (.iload_n 2), 1), (46, (.iload 6), 2), (48, (.invokevirtual 73), 3), (51, (.ifCond .ne 41), 3), (54, (.iinc 4 1), 3), (57, (.iload 5), 2), (59, (.aload_n 0), 1), (60, (.getfield 9), 3), (63, (.iload 6), 2), (65, .iaload, 1), (66, (.bipush 100), 2), (68, .imul, 1), (69, (.iload_n 3), 1), (70, (.aload_n 1), 1), (71, (.getfield 77), 3), (74, (.iload 6), 2), (76, .iaload, 1), (77, .imul, 1), (78, (.bipush 120), 2), (80, .imul, 1), (81, (.if_icmp .lt 7), 3), (84, (.iconst 1), 1), (85, (.goto 4), 3), (88, (.iconst 0), 1), (89, .iadd, 1), (90, (.istore 5), 2), (92, (.iinc 6 1), 3), (95, (.goto (-57)), 3), (98, (.iload_n 3), 1), (99, (.aload_n 0), 1), (100, (.getfield 56), 3), (103, .isub, 1), (104, (.aload_n 1), 1), (105, (.getfield 92), 3), (108, (.iconst 3), 1), (109, .iaload, 1), (110, (.if_icmp .gt 16), 3), (113, (.iconst 2), 1), (114, (.iload 5), 2), (116, .imul, 1), (117, (.iload 4), 2), (119, (.if_icmp .lt 7), 3), (122, (.iconst 1), 1), (123, (.goto 4), 3), (126, (.iconst 0), 1), (127, .ireturn, 1)]
set_option maxRecDepth 100000 in
theorem tX5_isLifted_ok : kTab cX5_isLifted tX5_isLifted := kTab_of (by decide +kernel)
def tX5_compareWith : List (Nat × Instr × Nat) := [(0, (.aload_n 0), 1), (1, (.getfield 56), 3), (4, (.aload_n 1), 1), (5, (.getfield 56), 3), (8, (.if_icmp .eq 20), 3), (11, (.aload_n 0), 1), (12, (.getfield 56), 3), (15, (.aload_n 1), 1), (16, (.getfield 56), 3), (19, (.if_icmp .le 7), 3), (22, (.iconst 1), 1), (23, (.goto 4), 3), (26, (.iconst (-1)), 1), (27, .ireturn, 1), (28, (.aload_n 0), 1), (29, (.getfield 45), 3), (32, (.aload_n 1), 1), (33, (.getfield 15), 3), (36, .lmul, 1), (37, (.aload_n 1), 1), (38, (.getfield 45), 3), (41, (.aload_n 0), 1), (42, (.getfield 15), 3), (45, .lmul, 1), (46, (.invokestatic 95), 3), (49, .ireturn, 1)]
set_option maxRecDepth 100000 in
theorem tX5_compareWith_ok : kTab cX5_compareWith tX5_compareWith := kTab_of (by decide +kernel)
def tX6_init : List (Nat × Instr × Nat) := [(0, (.aload_n 0), 1), (1, (.invokespecial 1), 3), (4, (.aload_n 0), 1), (5, (.iconst 2), 1), (6, (.newarray .int), 2), (8, (.putfield 9), 3), (11, (.aload_n 0), 1), (12, (.iconst 2), 1), (13, (.newarray .int), 2), (15, (.putfield 13), 3), (18, .return_, 1)]
set_option maxRecDepth 100000 in
theorem tX6_init_ok : kTab cX6_init tX6_init := kTab_of (by decide +kernel)
def tX6_tell : List (Nat × Instr × Nat) := [(0, (.aload_n 0), 1), (1, (.getfield 9), 3), (4, (.iconst 0), 1), (5, (.iload_n 1), 1), (6, .iastore, 1), (7, (.aload_n 0), 1), (8, (.getfield 13), 3), (11, (.iconst 0), 1), (12, (.iload_n 2), 1), (13, .iastore, 1), (14, (.aload_n 0), 1), (15, (.getfield 9), 3), (18, (.iconst 1), 1), (19, (.iload_n 3), 1), (20, .iastore, 1), (21, (.aload_n 0), 1), (22, (.getfield 13), 3), (25, (.iconst 1), 1), (26, (.iload 4), 2), (28, .iastore, 1), (29, (.aload_n 0), 1), (30, (.iconst 2), 1), (31, (.putfield 16), 3), (34, (.iconst 1), 1), (35, .ireturn, 1)]
set_option maxRecDepth 100000 in
theorem tX6_tell_ok : kTab cX6_tell tX6_tell := kTab_of (by decide +kernel)
def tX7_init : List (Nat × Instr × Nat) := [(0, (.aload_n 0), 1), (1, (.invokespecial 3), 3), (4, (.aload_n 0), 1), (5, (.iconst 5), 1), (6, (.newarray .int), 2), (8, (.putfield 9), 3), (11, (.aload_n 0), 1), (12, (.bipush 25), 2), (14, (.newarray .int), 2), (16, (.putfield 15), 3), (19, (.aload_n 0), 1), (20, (.bipush 100), 2), (22, (.newarray .int), 2), (24, (.putfield 18), 3), (27, (.aload_n 0), 1), (28, (.getfield 18), 3), (31, (.iconst (-1)), 1), (32, (.invokestatic 21), 3), (35, .return_, 1)]
set_option maxRecDepth 100000 in
theorem tX7_init_ok : kTab cX7_init tX7_init := kTab_of (by decide +kernel)
def tX7_copyFrom : List (Nat × Instr × Nat) := [(0, (.aload_n 1), 1), (1, (.getfield 9), 3), (4, (.aload_n 0), 1), (5, (.getfield 9), 3), (8, (.invokestatic 27), 3), (11, (.aload_n 1), 1), (12, (.getfield 15), 3), (15, (.aload_n 0), 1), (16, (.getfield 15), 3), (19, (.invokestatic 27), 3), (22, (.aload_n 1), 1), (23, (.getfield 18), 3), (26, (.aload_n 0), 1), (27, (.getfield 18), 3), (30, (.invokestatic 27), 3), (33, .return_, 1)]
set_option maxRecDepth 100000 in
theorem tX7_copyFrom_ok : kTab cX7_copyFrom tX7_copyFrom := kTab_of (by decide +kernel)
def tX7_define : List (Nat × Instr × Nat) := [(0, (.aload_n 0), 1), (1, (.getfield 9), 3), (4, (.iload_n 1), 1), (5, .iaload, 1), (6, (.istore_n 3), 1), (7, (.iload_n 3), 1), (8, (.iconst 5), 1), (9, (.if_icmp .ge 23), 3), (12, (.aload_n 0), 1), (13, (.getfield 15), 3), (16, (.iload_n 1), 1), (17, (.iconst 5), 1), (18, .imul, 1), (19, (.iload_n 3), 1), (20, .iadd, 1), (21, (.iload_n 2), 1), (22, .iastore, 1), (23, (.aload_n 0), 1), (24, (.getfield 9), 3), (27, (.iload_n 1), 1), (28, (.iload_n 3), 1), (29, (.iconst 1), 1), (30, .iadd, 1), (31, .iastore, 1), (32, (.iload_n 3), 1), (33, .ireturn, 1)]
set_option maxRecDepth 100000 in
theorem tX7_define_ok : kTab cX7_define tX7_define := kTab_of (by decide +kernel)
def tX7_give : List (Nat × Instr × Nat) := [(0, (.aload_n 0), 1), (1, (.getfield 18), 3), (4, (.aload_n 0), 1), (5, (.iload_n 1), 1), (6, (.iload_n 2), 1), (7, (.iload_n 3), 1), (8, (.invokevirtual 31), 3), (11, (.iload 4), 2), (13, .iastore, 1), (14, (.iload 4), 2), (16, (.aload_n 0), 1), (17, (.getfield 15), 3), (20, (.iload_n 2), 1), (21, (.iconst 5), 1), (22, .imul, 1), (23, (.iload_n 3), 1), (24, .iadd, 1), (25, .iaload, 1), (26, .isub, 1), (27, .ireturn, 1)]
set_option maxRecDepth 100000 in
theorem tX7_give_ok : kTab cX7_give tX7_give := kTab_of (by decide +kernel)
def tX7_isMarked : List (Nat × Instr × Nat) := [(0, (.aload_n 0), 1), (1, (.getfield 18), 3), (4, (.aload_n 0), 1), (5, (.iload_n 1), 1), (6, (.iload_n 2), 1), (7, (.iload_n 3), 1), (8, (.invokevirtual 31), 3), (11, .iaload, 1), (12, (.iconst (-1)), 1), (13, (.if_icmp .eq 7), 3), (16, (.iconst 1), 1), (17, (.goto 4), 3), (20, (.iconst 0), 1), (21, .ireturn, 1)]
set_option maxRecDepth 100000 in
theorem tX7_isMarked_ok : kTab cX7_isMarked tX7_isMarked := kTab_of (by decide +kernel)
def tX7_placeOf : List (Nat × Instr × Nat) := [(0, (.iload_n 1), 1), (1, (.iconst 5), 1), (2, .imul, 1), (3, (.iload_n 2), 1), (4, .iadd, 1), (5, (.iconst 5), 1), (6, .imul, 1), (7, (.iload_n 3), 1), (8, .iadd, 1), (9, .ireturn, 1)]
set_option maxRecDepth 100000 in
theorem tX7_placeOf_ok : kTab cX7_placeOf tX7_placeOf := kTab_of (by decide +kernel)
def tX7_markedSeeds : List (Nat × Instr × Nat) := [(0, (.iconst 0), 1), (1, (.istore_n 1), 1), (2, (.iconst 0), 1), (3, (.istore_n 2), 1), (4, (.iload_n 2), 1), (5, (.aload_n 0), 1), (6, (.getfield 18), 3), (9, .arraylength, 1), (10, (.if_icmp .ge 27), 3), (13, (.iload_n 1), 1), (14, (.aload_n 0), 1), (15, (.getfield 18), 3), (18, (.iload_n 2), 1), (19, .iaload, 1), (20, (.iconst (-1)), 1), (21, (.if_icmp .eq 7), 3), (24, (.iconst 1), 1), (25, (.goto 4), 3), (28, (.iconst 0), 1), (29, .iadd, 1), (30, (.istore_n 1), 1), (31, (.iinc 2 1), 3), (34, (.goto (-30)), 3), (37, (.iload_n 1), 1), (38, .ireturn, 1)]
set_option maxRecDepth 100000 in
theorem tX7_markedSeeds_ok : kTab cX7_markedSeeds tX7_markedSeeds := kTab_of (by decide +kernel)
def tX7_greatestMark : List (Nat × Instr × Nat) := [(0, (.iconst 0), 1), (1, (.istore_n 2), 1), (2, (.iconst 0), 1), (3, (.istore_n 3), 1), (4, (.iload_n 3), 1), (5, (.aload_n 0), 1), (6, (.getfield 9), 3), (9, (.iload_n 1), 1), (10, .iaload, 1), (11, (.if_icmp .ge 62), 3), (14, (.iload_n 3), 1), (15, (.iconst 5), 1), (16, (.if_icmp .ge 57), 3), (19, (.iload_n 2), 1), (20, (.aload_n 0), 1), (21, (.getfield 15), 3), (24, (.iload_n 1), 1), (25, (.iconst 5), 1), (26, .imul, 1), (27, (.iload_n 3), 1), (28, .iadd, 1), (29, .iaload, 1), (30, (.invokestatic 35), 3), (33, (.istore_n 2), 1), (34, (.iconst 0), 1), (35, (.istore 4), 2), (37, (.iload 4), 2), (39, (.iconst 4), 1), (40, (.if_icmp .ge 27), 3), (43, (.iload_n 2), 1), (44, (.aload_n 0), 1), (45, (.getfield 18), 3), (48, (.aload_n 0), 1), (49, (.iload 4), 2), (51, (.iload_n 1), 1), (52, (.iload_n 3), 1), (53, (.invokevirtual 31), 3), (56, .iaload, 1), (57, (.invokestatic 35), 3), (60, (.istore_n 2), 1), (61, (.iinc 4 1), 3), (64, (.goto (-27)), 3), (67, (.iinc 3 1), 3), (70, (.goto (-66)), 3), (73, (.iload_n 2), 1), (74, .ireturn, 1)]
set_option maxRecDepth 100000 in
theorem tX7_greatestMark_ok : kTab cX7_greatestMark tX7_greatestMark := kTab_of (by decide +kernel)
def tX7_correctionOf : List (Nat × Instr × Nat) := [(0, (.iconst 0), 1), (1, (.istore 4), 2), (3, (.iconst 0), 1), (4, (.istore 5), 2), (6, (.iconst 0), 1), (7, (.istore 6), 2), (9, (.iload 6), 2), (11, (.iconst 5), 1), (12, (.if_icmp .ge 52), 3), (15, (.aload_n 0), 1), (16, (.getfield 18), 3), (19, (.aload_n 0), 1), (20, (.iload_n 1), 1), (21, (.iload_n 2), 1), (22, (.iload 6), 2), (24, (.invokevirtual 31), 3), (27, .iaload, 1), (28, (.istore 7), 2), (30, (.iload 7), 2), (32, (.iconst (-1)), 1), (33, (.if_icmp .eq 25), 3), (36, (.iinc 4 1), 3), (39, (.iload 5), 2), (41, (.iload 7), 2), (43, (.aload_n 0), 1), (44, (.getfield 15), 3), (47, (.iload_n 2), 1), (48, (.iconst 5), 1), (49, .imul, 1), (50, (.iload 6), 2), (52, .iadd, 1), (53, .iaload, 1), (54, .isub, 1), (55, .iadd, 1), (56, (.istore 5), 2), (58, (.iinc 6 1), 3), (61, (.goto (-52)), 3), (64, (.iload 4), 2), (66, (.ifCond .eq 15), 3), (69, (.iload 5), 2), (71, (.invokestatic 41), 3), (74, (.iload 4), 2), (76, (.iload_n 3), 1), (77, .imul, 1), (78, (.if_icmp .gt 5), 3), (81, (.iconst 0), 1), (82, .ireturn, 1), (83, (.iload 5), 2), (85, .ineg, 1), (86, (.bipush 120), 2), (88, (.iload 4), 2), (90, .idiv, 1), (91, .imul, 1), (92, .ireturn, 1)]
set_option maxRecDepth 100000 in
theorem tX7_correctionOf_ok : kTab cX7_correctionOf tX7_correctionOf := kTab_of (by decide +kernel)
def tX7_strays : List (Nat × Instr × Nat) := [(0, (.iconst 0), 1), (1, (.istore 4), 2), (3, (.iload 4), 2), (5, (.iconst 5), 1), (6, (.if_icmp .ge 52), 3), (9, (.aload_n 0), 1), (10, (.getfield 18), 3), (13, (.aload_n 0), 1), (14, (.iload_n 1), 1), (15, (.iload_n 2), 1), (16, (.iload 4), 2), (18, (.invokevirtual 31), 3), (21, .iaload, 1), (22, (.istore 5), 2), (24, (.iload 5), 2), (26, (.iconst (-1)), 1), (27, (.if_icmp .eq 25), 3), (30, (.iload 5), 2), (32, (.aload_n 0), 1), (33, (.getfield 15), 3), (36, (.iload_n 2), 1), (37, (.iconst 5), 1), (38, .imul, 1), (39, (.iload 4), 2), (41, .iadd, 1), (42, .iaload, 1), (43, (.invokestatic 45), 3), (46, (.iload_n 3), 1), (47, (.if_icmp .le 5), 3), (50, (.iconst 1), 1), (51, .ireturn, 1), (52, (.iinc 4 1), 3), (55, (.goto (-52)), 3), (58, (.iconst 0), 1), (59, .ireturn, 1)]
set_option maxRecDepth 100000 in
theorem tX7_strays_ok : kTab cX7_strays tX7_strays := kTab_of (by decide +kernel)
def tX8_init : List (Nat × Instr × Nat) := [(0, (.aload_n 0), 1), (1, (.invokespecial 5), 3), (4, (.aload_n 0), 1), (5, (.bipush 60), 2), (7, (.newarray .char), 2), (9, (.putfield 11), 3), (12, (.aload_n 0), 1), (13, (.iconst (-1)), 1), (14, (.putfield 15), 3), (17, (.aload_n 0), 1), (18, (.bipush 20), 2), (20, (.newarray .int), 2), (22, (.putfield 19), 3), (25, (.aload_n 0), 1), (26, (.bipush 20), 2), (28, (.newarray .int), 2), (30, (.putfield 23), 3), (33, .return_, 1)]
set_option maxRecDepth 100000 in
theorem tX8_init_ok : kTab cX8_init tX8_init := kTab_of (by decide +kernel)
def tX8_store : List (Nat × Instr × Nat) := [(0, (.iload_n 1), 1), (1, (.ifCond .eq 33), 3), (4, (.aload_n 0), 1), (5, (.getfield 26), 3), (8, (.bipush 60), 2), (10, (.if_icmp .ge 24), 3), (13, (.aload_n 0), 1), (14, (.getfield 11), 3), (17, (.aload_n 0), 1), (18, (.getfield 26), 3), (21, (.iload_n 1), 1), (22, .i2c, 1), (23, .castore, 1), (24, (.aload_n 0), 1), (25, .dup, 1), (26, (.getfield 26), 3), (29, (.iconst 1), 1), (30, .iadd, 1), (31, (.putfield 26), 3), (34, .return_, 1)]
set_option maxRecDepth 100000 in
theorem tX8_store_ok : kTab cX8_store tX8_store := kTab_of (by decide +kernel)
def tX8_readAndClear : List (Nat × Instr × Nat) := [(0, (.aload_n 0), 1), (1, (.iconst 0), 1), (2, (.putfield 29), 3), (5, (.aload_n 0), 1), (6, (.iconst 0), 1), (7, (.putfield 32), 3), (10, (.aload_n 0), 1), (11, (.aload_n 0), 1), (12, (.invokevirtual 35), 3), (15, (.putfield 15), 3), (18, (.aload_n 0), 1), (19, (.iconst 0), 1), (20, (.putfield 26), 3), (23, .return_, 1)]
set_option maxRecDepth 100000 in
theorem tX8_readAndClear_ok : kTab cX8_readAndClear tX8_readAndClear := kTab_of (by decide +kernel)
def tX8_positionOfError : List (Nat × Instr × Nat) := [(0, (.iconst 0), 1), (1, (.istore_n 1), 1), (2, (.iload_n 1), 1), (3, (.aload_n 0), 1), (4, (.getfield 26), 3), (7, (.if_icmp .ge 30), 3), (10, (.iload_n 1), 1), (11, (.bipush 60), 2), (13, (.if_icmp .ge 24), 3), (16, (.aload_n 0), 1), (17, (.aload_n 0), 1), (18, (.getfield 11), 3), (21, (.iload_n 1), 1), (22, .caload, 1), (23, (.invokevirtual 39), 3), (26, (.ifCond .ne 5), 3), (29, (.iload_n 1), 1), (30, .ireturn, 1), (31, (.iinc 1 1), 3), (34, (.goto (-32)), 3), (37, (.aload_n 0), 1), (38, (.getfield 29), 3), (41, (.bipush 7), 2), (43, (.if_icmp .eq 12), 3), (46, (.aload_n 0), 1), (47, (.getfield 29), 3), (50, (.bipush 8), 2), (52, (.if_icmp .ne 7), 3), (55, (.iconst (-1)), 1), (56, (.goto 7), 3), (59, (.aload_n 0), 1), (60, (.getfield 26), 3), (63, .ireturn, 1)]
set_option maxRecDepth 100000 in
theorem tX8_positionOfError_ok : kTab cX8_positionOfError tX8_positionOfError := kTab_of (by decide +kernel)
def tX8_accepts : List (Nat × Instr × Nat) := [(0, (.iload_n 1), 1), (1, (.bipush 48), 2), (3, (.if_icmp .lt 16), 3), (6, (.iload_n 1), 1), (7, (.bipush 57), 2), (9, (.if_icmp .gt 10), 3), (12, (.iload_n 1), 1), (13, (.bipush 48), 2), (15, .isub, 1), (16, (.goto 4), 3), (19, (.iconst (-1)), 1), (20, (.istore_n 2), 1), (21, (.aload_n 0), 1), (22, (.getfield 29), 3), (25, (.tableswitch 214 0 7 #[47, 63, 80, 96, 113, 136, 154, 183]), 47), (72, (.aload_n 0), 1), (73, (.iload_n 2), 1), (74, (.putfield 43), 3), (77, (.aload_n 0), 1), (78, (.iload_n 2), 1), (79, (.iconst 4), 1), (80, (.invokestatic 46), 3), (83, (.iconst 1), 1), (84, (.invokevirtual 50), 3), (87, .ireturn, 1), (88, (.aload_n 0), 1), (89, (.iload_n 1), 1), (90, (.bipush 47), 2), (92, (.if_icmp .ne 7), 3), (95, (.iconst 1), 1), (96, (.goto 4), 3), (99, (.iconst 0), 1), (100, (.iconst 2), 1), (101, (.invokevirtual 50), 3), (104, .ireturn, 1), (105, (.aload_n 0), 1), (106, (.iload_n 2), 1), (107, (.putfield 54), 3), (110, (.aload_n 0), 1), (111, (.iload_n 2), 1), (112, (.iconst 5), 1), (113, (.invokestatic 46), 3), (116, (.iconst 3), 1), (117, (.invokevirtual 50), 3), (120, .ireturn, 1), (121, (.aload_n 0), 1), (122, (.iload_n 1), 1), (123, (.bipush 58), 2), (125, (.if_icmp .ne 7), 3), (128, (.iconst 1), 1), (129, (.goto 4), 3), (132, (.iconst 0), 1), (133, (.iconst 4), 1), (134, (.invokevirtual 50), 3), (137, .ireturn, 1), (138, (.iload_n 2), 1), (139, (.bipush 8), 2), (141, (.invokestatic 46), 3), (144, (.ifCond .eq 15), 3), (147, (.aload_n 0), 1), (148, (.iload_n 2), 1), (149, (.invokevirtual 57), 3), (152, (.ifCond .eq 7), 3), (155, (.iconst 1), 1), (156, (.goto 4), 3), (159, (.iconst 0), 1), (160, .ireturn, 1), (161, (.aload_n 0), 1), (162, (.iload_n 1), 1), (163, (.bipush 61), 2), (165, (.if_icmp .ne 7), 3), (168, (.iconst 1), 1), (169, (.goto 4), 3), (172, (.iconst 0), 1), (173, (.bipush 6), 2), (175, (.invokevirtual 50), 3), (178, .ireturn, 1), (179, (.iload_n 2), 1), (180, (.ifCond .lt 26), 3), (183, (.aload_n 0), 1), (184, (.iload_n 2), 1), (185, (.iload_n 2), 1), (186, (.ifCond .ne 8), 3), (189, (.bipush 8), 2), (191, (.goto 5), 3), (194, (.bipush 7), 2), (196, (.invokevirtual 61), 3), (199, (.ifCond .eq 7), 3), (202, (.iconst 1), 1), (203, (.goto 4), 3), (206, (.iconst 0), 1), (207, .ireturn, 1), (208, (.iload_n 2), 1), (209, (.ifCond .lt 13), 3), (212, (.aload_n 0), 1), (213, (.iload_n 2), 1), (214, (.bipush 8), 2), (216, (.invokevirtual 61), 3), (219, (.goto 19), 3), (222, (.aload_n 0), 1), (223, (.iload_n 1), 1), (224, (.bipush 44), 2), (226, (.if_icmp .ne 7), 3), (229, (.iconst 1), 1), (230, (.goto 4), 3), (233, (.iconst 0), 1), (234, (.iconst 4), 1), (235, (.invokevirtual 50), 3), (238, .ireturn, 1), (239, (.aload_n 0), 1), (240, (.iload_n 1), 1), (241, (.bipush 44), 2), (243, (.if_icmp .ne 7), 3), (246, (.iconst 1), 1), (247, (.goto 4), 3), (250, (.iconst 0), 1), (251, (.iconst 4), 1), (252, (.invokevirtual 50), 3), (255, .ireturn, 1)]
set_option maxRecDepth 100000 in
theorem tX8_accepts_ok : kTab cX8_accepts tX8_accepts := kTab_of (by decide +kernel)
def tX8_goesOn : List (Nat × Instr × Nat) := [(0, (.aload_n 0), 1), (1, (.iload_n 2), 1), (2, (.putfield 29), 3), (5, (.iload_n 1), 1), (6, .ireturn, 1)]
set_option maxRecDepth 100000 in
theorem tX8_goesOn_ok : kTab cX8_goesOn tX8_goesOn := kTab_of (by decide +kernel)
def tX8_startsEntry : List (Nat × Instr × Nat) := [(0, (.aload_n 0), 1), (1, (.getfield 32), 3), (4, (.bipush 20), 2), (6, (.if_icmp .lt 5), 3), (9, (.iconst 0), 1), (10, .ireturn, 1), (11, (.aload_n 0), 1), (12, (.getfield 19), 3), (15, (.aload_n 0), 1), (16, (.getfield 32), 3), (19, (.iload_n 1), 1), (20, .iastore, 1), (21, (.aload_n 0), 1), (22, (.getfield 23), 3), (25, (.aload_n 0), 1), (26, (.getfield 32), 3), (29, (.iconst 0), 1), (30, .iastore, 1), (31, (.aload_n 0), 1), (32, .dup, 1), (33, (.getfield 32), 3), (36, (.iconst 1), 1), (37, .iadd, 1), (38, (.putfield 32), 3), (41, (.aload_n 0), 1), (42, (.iconst 1), 1), (43, (.iconst 5), 1), (44, (.invokevirtual 50), 3), (47, .ireturn, 1)]
set_option maxRecDepth 100000 in
theorem tX8_startsEntry_ok : kTab cX8_startsEntry tX8_startsEntry := kTab_of (by decide +kernel)
def tX8_takesDigit : List (Nat × Instr × Nat) := [(0, (.aload_n 0), 1), (1, (.getfield 32), 3), (4, (.ifCond .gt 5), 3), (7, (.iconst 0), 1), (8, .ireturn, 1), (9, (.aload_n 0), 1), (10, (.getfield 23), 3), (13, (.aload_n 0), 1), (14, (.getfield 32), 3), (17, (.iconst 1), 1), (18, .isub, 1), (19, (.aload_n 0), 1), (20, (.getfield 23), 3), (23, (.aload_n 0), 1), (24, (.getfield 32), 3), (27, (.iconst 1), 1), (28, .isub, 1), (29, .iaload, 1), (30, (.bipush 10), 2), (32, .imul, 1), (33, (.iload_n 1), 1), (34, .iadd, 1), (35, .iastore, 1), (36, (.aload_n 0), 1), (37, (.iconst 1), 1), (38, (.iload_n 2), 1), (39, (.invokevirtual 50), 3), (42, .ireturn, 1)]
set_option maxRecDepth 100000 in
theorem tX8_takesDigit_ok : kTab cX8_takesDigit tX8_takesDigit := kTab_of (by decide +kernel)
def tX9_init : List (Nat × Instr × Nat) := [(0, (.aload_n 0), 1), (1, (.invokespecial 3), 3), (4, (.aload_n 0), 1), (5, (.iconst 5), 1), (6, (.newarray .int), 2), (8, (.putfield 9), 3), (11, (.aload_n 0), 1), (12, (.iconst 5), 1), (13, (.newarray .int), 2), (15, (.putfield 15), 3), (18, (.aload_n 0), 1), (19, (.iconst 5), 1), (20, (.newarray .int), 2), (22, (.putfield 18), 3), (25, (.aload_n 0), 1), (26, (.iconst 5), 1), (27, (.newarray .int), 2), (29, (.putfield 21), 3), (32, .return_, 1)]
set_option maxRecDepth 100000 in
theorem tX9_init_ok : kTab cX9_init tX9_init := kTab_of (by decide +kernel)
def tX9_sumOf : List (Nat × Instr × Nat) := [(0, (.aload_n 0), 1), (1, (.getfield 9), 3), (4, (.iconst 0), 1), (5, (.invokestatic 24), 3), (8, (.aload_n 0), 1), (9, (.getfield 21), 3), (12, (.iconst 0), 1), (13, (.invokestatic 24), 3), (16, (.iconst 0), 1), (17, (.istore_n 3), 1), (18, (.iconst 0), 1), (19, (.istore 4), 2), (21, (.iload 4), 2), (23, (.aload_n 1), 1), (24, (.getfield 30), 3), (27, (.getfield 36), 3), (30, (.if_icmp .ge 96), 3), (33, (.iload 4), 2), (35, (.bipush 120), 2), (37, (.if_icmp .ge 89), 3), (40, (.aload_n 1), 1), (41, (.getfield 30), 3), (44, (.getfield 42), 3), (47, (.iload 4), 2), (49, .iaload, 1), (50, (.istore 5), 2), (52, (.iload 5), 2), (54, (.ifCond .lt 17), 3), (57, (.iload 5), 2), (59, (.iconst 3), 1), (60, .idiv, 1), (61, (.iconst 5), 1), (62, .idiv, 1), (63, (.iload_n 2), 1), (64, (.if_icmp .ne 7), 3), (67, (.iconst 1), 1), (68, (.goto 4), 3), (71, (.iconst 0), 1), (72, (.istore 6), 2), (74, (.iload 6), 2), (76, (.ifCond .eq 44), 3), (79, (.aload_n 1), 1), (80, (.iload_n 2), 1), (81, (.iload 5), 2), (83, (.invokestatic 45), 3), (86, (.invokevirtual 49), 3), (89, (.ifCond .ne 31), 3), (92, (.aload_n 1), 1), (93, (.iload 5), 2), (95, (.invokevirtual 53), 3), (98, (.ifCond .eq 22), 3), (101, (.iload_n 3), 1), (102, (.aload_n 0), 1), (103, (.aload_n 1), 1), (104, (.iload 5), 2), (106, (.invokestatic 45), 3), (109, (.aload_n 1), 1), (110, (.iload 5), 2), (112, (.invokevirtual 57), 3), (115, (.invokevirtual 60), 3), (118, .iadd, 1), (119, (.istore_n 3), 1), (120, (.iinc 4 1), 3), (123, (.goto (-102)), 3), (126, (.iconst 0), 1), (127, (.istore 4), 2), (129, (.iload 4), 2), (131, (.iconst 5), 1), (132, (.if_icmp .ge 65), 3), (135, (.iload_n 2), 1), (136, (.iload 4), 2), (138, (.invokestatic 64), 3), (141, (.istore 5), 2), (143, (.aload_n 1), 1), (144, (.getfield 68), 3), (147, (.getfield 72), 3), (150, (.iload 5), 2), (152, .iaload, 1), (153, (.iconst 3), 1), (154, (.if_icmp .ne 37), 3), (157, (.aload_n 1), 1), (158, (.iload_n 2), 1), (159, (.iload 4), 2), (161, (.invokevirtual 49), 3), (164, (.ifCond .ne 27), 3), (167, (.iload_n 3), 1), (168, (.aload_n 1), 1), (169, (.getfield 68), 3), (172, (.getfield 77), 3), (175, (.iload 5), 2), (177, .iaload, 1), (178, (.bipush 120), 2), (180, .imul, 1), (181, (.aload_n 0), 1), (182, (.getfield 21), 3), (185, (.iload 4), 2), (187, .iaload, 1), (188, .isub, 1), (189, .iadd, 1), (190, (.istore_n 3), 1), (191, (.iinc 4 1), 3), (194, (.goto (-65)), 3), (197, (.iload_n 3), 1), (198, .ireturn, 1)]
set_option maxRecDepth 100000 in
theorem tX9_sumOf_ok : kTab cX9_sumOf tX9_sumOf := kTab_of (by decide +kernel)
def tX9_correct : List (Nat × Instr × Nat) := [(0, (.aload_n 0), 1), (1, (.getfield 21), 3), (4, (.iload_n 2), 1), (5, .iaload, 1), (6, (.istore 4), 2), (8, (.aload_n 0), 1), (9, (.getfield 9), 3), (12, (.iload_n 2), 1), (13, .iaload, 1), (14, (.ifCond .ne 20), 3), (17, (.aload_n 0), 1), (18, (.getfield 15), 3), (21, (.iload_n 2), 1), (22, (.iload_n 3), 1), (23, .iastore, 1), (24, (.aload_n 0), 1), (25, (.getfield 21), 3), (28, (.iload_n 2), 1), (29, (.iload_n 3), 1), (30, .iastore, 1), (31, (.goto 111), 3), (34, (.aload_n 0), 1), (35, (.getfield 9), 3), (38, (.iload_n 2), 1), (39, .iaload, 1), (40, (.iconst 1), 1), (41, (.if_icmp .ne 60), 3), (44, (.aload_n 0), 1), (45, (.getfield 18), 3), (48, (.iload_n 2), 1), (49, (.iload_n 3), 1), (50, .iastore, 1), (51, (.aload_n 1), 1), (52, (.aload_n 0), 1), (53, (.getfield 15), 3), (56, (.iload_n 2), 1), (57, .iaload, 1), (58, (.iload_n 3), 1), (59, (.invokevirtual 80), 3), (62, (.istore 5), 2), (64, (.aload_n 0), 1), (65, (.getfield 21), 3), (68, (.iload_n 2), 1), (69, (.iload 5), 2), (71, (.ifCond .eq 16), 3), (74, (.aload_n 0), 1), (75, (.getfield 15), 3), (78, (.iload_n 2), 1), (79, .iaload, 1), (80, (.iload_n 3), 1), (81, .iadd, 1), (82, (.iconst 2), 1), (83, .idiv, 1), (84, (.goto 13), 3), (87, (.aload_n 0), 1), (88, (.getfield 15), 3), (91, (.iload_n 2), 1), (92, .iaload, 1), (93, (.iload_n 3), 1), (94, (.invokestatic 83), 3), (97, .iastore, 1), (98, (.goto 44), 3), (101, (.aload_n 1), 1), (102, (.aload_n 0), 1), (103, (.getfield 15), 3), (106, (.iload_n 2), 1), (107, .iaload, 1), (108, (.aload_n 0), 1), (109, (.getfield 18), 3), (112, (.iload_n 2), 1), (113, .iaload, 1), (114, (.invokevirtual 80), 3), (117, (.ifCond .ne 25), 3), (120, (.aload_n 0), 1), (121, (.getfield 21), 3), (124, (.iload_n 2), 1), (125, (.iload_n 3), 1), (126, (.aload_n 0), 1), (127, (.getfield 15), 3), (130, (.iload_n 2), 1), (131, .iaload, 1), (132, (.aload_n 0), 1), (133, (.getfield 18), 3), (136, (.iload_n 2), 1), (137, .iaload, 1), (138, (.invokestatic 88), 3), (141, .iastore, 1), (142, (.aload_n 0), 1), (143, (.getfield 9), 3), (146, (.iload_n 2), 1), (147, .dup2, 1), (148, .iaload, 1), (149, (.iconst 1), 1), (150, .iadd, 1), (151, .iastore, 1), (152, (.aload_n 0), 1), (153, (.getfield 21), 3), (156, (.iload_n 2), 1), (157, .iaload, 1), (158, (.iload 4), 2), (160, .isub, 1), (161, .ireturn, 1)]
set_option maxRecDepth 100000 in
theorem tX9_correct_ok : kTab cX9_correct tX9_correct := kTab_of (by decide +kernel)
def tX10_init : List (Nat × Instr × Nat) := [(0, (.aload_n 0), 1), (1, (.invokespecial 3), 3), (4, (.aload_n 0), 1), (5, (.new 9), 3), (8, .dup, 1), (9, (.invokespecial 11), 3), (12, (.putfield 12), 3), (15, (.aload_n 0), 1), (16, (.new 9), 3), (19, .dup, 1), (20, (.invokespecial 11), 3), (23, (.putfield 16), 3), (26, (.aload_n 0), 1), (27, (.new 9), 3), (30, .dup, 1), (31, (.invokespecial 11), 3), (34, (.putfield 19), 3), (37, (.aload_n 0), 1), (38, (.new 22), 3), (41, .dup, 1), (42, (.invokespecial 24), 3), (45, (.putfield 25), 3), (48, (.aload_n 0), 1), (49, (.new 29), 3), (52, .dup, 1), (53, (.invokespecial 31), 3), (56, (.putfield 32), 3), (59, (.aload_n 0), 1), (60, (.new 36), 3), (63, .dup, 1), (64, (.invokespecial 38), 3), (67, (.putfield 39), 3), (70, (.aload_n 0), 1), (71, (.bipush 8), 2), (73, (.anewarray 43), 3), (76, (.putfield 45), 3), (79, (.aload_n 0), 1), (80, (.new 49), 3), (83, .dup, 1), (84, (.invokespecial 51), 3), (87, (.putfield 52), 3), (90, (.iconst 0), 1), (91, (.istore_n 1), 1), (92, (.iload_n 1), 1), (93, (.bipush 8), 2), (95, (.if_icmp .ge 22), 3), (98, (.aload_n 0), 1), (99, (.getfield 45), 3), (102, (.iload_n 1), 1), (103, (.new 43), 3), (106, .dup, 1), (107, (.invokespecial 56), 3), (110, .aastore, 1), (111, (.iinc 1 1), 3), (114, (.goto (-22)), 3), (117, .return_, 1)]
set_option maxRecDepth 100000 in
theorem tX10_init_ok : kTab cX10_init tX10_init := kTab_of (by decide +kernel)
def tX10_setMaximum : List (Nat × Instr × Nat) := [(0, (.iload_n 1), 1), (1, (.invokestatic 57), 3), (4, (.iload_n 2), 1), (5, (.iconst 1), 1), (6, (.bipush 40), 2), (8, (.invokestatic 61), 3), (11, (.aload_n 0), 1), (12, (.invokevirtual 65), 3), (15, (.aload_n 0), 1), (16, (.getfield 12), 3), (19, (.iload_n 1), 1), (20, (.invokevirtual 68), 3), (23, (.iload_n 2), 1), (24, (.if_icmp .le 13), 3), (27, (.new 72), 3), (30, .dup, 1), (31, (.ldc 74), 2), (33, (.invokespecial 76), 3), (36, .athrow, 1), (37, (.aload_n 0), 1), (38, (.getfield 12), 3), (41, (.getfield 79), 3), (44, (.iload_n 1), 1), (45, .iaload, 1), (46, (.istore_n 3), 1), (47, (.aload_n 0), 1), (48, (.getfield 25), 3), (51, (.aload_n 0), 1), (52, (.getfield 12), 3), (55, (.invokevirtual 83), 3), (58, (.aload_n 0), 1), (59, (.getfield 12), 3), (62, (.getfield 79), 3), (65, (.iload_n 1), 1), (66, (.iload_n 2), 1), (67, .iastore, 1), (68, (.iload_n 3), 1), (69, .ireturn, 1)]
set_option maxRecDepth 100000 in
theorem tX10_setMaximum_ok : kTab cX10_setMaximum tX10_setMaximum := kTab_of (by decide +kernel)
def tX10_set : List (Nat × Instr × Nat) := [(0, (.iload_n 1), 1), (1, (.ifCond .lt 8), 3), (4, (.iload_n 1), 1), (5, (.iconst 5), 1), (6, (.if_icmp .lt 13), 3), (9, (.new 87), 3), (12, .dup, 1), (13, (.ldc 89), 2), (15, (.invokespecial 91), 3), (18, .athrow, 1), (19, (.iload_n 2), 1), (20, (.getstatic 92), 3), (23, (.iload_n 1), 1), (24, .iaload, 1), (25, (.getstatic 95), 3), (28, (.iload_n 1), 1), (29, .iaload, 1), (30, (.invokestatic 61), 3), (33, (.iload_n 1), 1), (34, (.iconst 4), 1), (35, (.if_icmp .eq 7), 3), (38, (.aload_n 0), 1), (39, (.invokevirtual 65), 3), (42, (.aload_n 0), 1), (43, (.getfield 12), 3), (46, (.getfield 98), 3), (49, (.iload_n 1), 1), (50, .iaload, 1), (51, (.istore_n 3), 1), (52, (.aload_n 0), 1), (53, (.getfield 25), 3), (56, (.aload_n 0), 1), (57, (.getfield 12), 3), (60, (.invokevirtual 83), 3), (63, (.aload_n 0), 1), (64, (.getfield 12), 3), (67, (.getfield 98), 3), (70, (.iload_n 1), 1), (71, (.iload_n 2), 1), (72, .iastore, 1), (73, (.iload_n 3), 1), (74, .ireturn, 1)]
set_option maxRecDepth 100000 in
theorem tX10_set_ok : kTab cX10_set tX10_set := kTab_of (by decide +kernel)
def tX10_addSeed : List (Nat × Instr × Nat) := [(0, (.iload_n 1), 1), (1, (.invokestatic 57), 3), (4, (.iload_n 2), 1), (5, (.iconst 0), 1), (6, (.aload_n 0), 1), (7, (.getfield 12), 3), (10, (.getfield 79), 3), (13, (.iload_n 1), 1), (14, .iaload, 1), (15, (.invokestatic 61), 3), (18, (.aload_n 0), 1), (19, (.invokevirtual 65), 3), (22, (.aload_n 0), 1), (23, (.getfield 12), 3), (26, (.getfield 101), 3), (29, (.getfield 105), 3), (32, (.iload_n 1), 1), (33, .iaload, 1), (34, (.iconst 5), 1), (35, (.if_icmp .lt 13), 3), (38, (.new 72), 3), (41, .dup, 1), (42, (.ldc 110), 2), (44, (.invokespecial 76), 3), (47, .athrow, 1), (48, (.aload_n 0), 1), (49, (.getfield 25), 3), (52, (.aload_n 0), 1), (53, (.getfield 12), 3), (56, (.invokevirtual 83), 3), (59, (.aload_n 0), 1), (60, (.getfield 12), 3), (63, (.getfield 101), 3), (66, (.iload_n 1), 1), (67, (.iload_n 2), 1), (68, (.invokevirtual 112), 3), (71, .ireturn, 1)]
set_option maxRecDepth 100000 in
theorem tX10_addSeed_ok : kTab cX10_addSeed tX10_addSeed := kTab_of (by decide +kernel)
def tX10_markSeed : List (Nat × Instr × Nat) := [(0, (.iload_n 1), 1), (1, (.invokestatic 116), 3), (4, (.iload_n 2), 1), (5, (.invokestatic 57), 3), (8, (.iload_n 3), 1), (9, (.ifCond .lt 19), 3), (12, (.iload_n 3), 1), (13, (.aload_n 0), 1), (14, (.getfield 12), 3), (17, (.getfield 101), 3), (20, (.getfield 105), 3), (23, (.iload_n 2), 1), (24, .iaload, 1), (25, (.if_icmp .lt 13), 3), (28, (.new 87), 3), (31, .dup, 1), (32, (.ldc 119), 2), (34, (.invokespecial 91), 3), (37, .athrow, 1), (38, (.iload 4), 2), (40, (.iconst 0), 1), (41, (.aload_n 0), 1), (42, (.getfield 12), 3), (45, (.getfield 79), 3), (48, (.iload_n 2), 1), (49, .iaload, 1), (50, (.invokestatic 61), 3), (53, (.aload_n 0), 1), (54, (.invokevirtual 65), 3), (57, (.aload_n 0), 1), (58, (.getfield 12), 3), (61, (.getfield 101), 3), (64, (.iload_n 1), 1), (65, (.iload_n 2), 1), (66, (.iload_n 3), 1), (67, (.invokevirtual 121), 3), (70, (.ifCond .eq 13), 3), (73, (.new 72), 3), (76, .dup, 1), (77, (.ldc 125), 2), (79, (.invokespecial 76), 3), (82, .athrow, 1), (83, (.aload_n 0), 1), (84, (.getfield 25), 3), (87, (.aload_n 0), 1), (88, (.getfield 12), 3), (91, (.invokevirtual 83), 3), (94, (.aload_n 0), 1), (95, (.getfield 12), 3), (98, (.iload_n 1), 1), (99, (.iload_n 2), 1), (100, (.invokevirtual 127), 3), (103, (.aload_n 0), 1), (104, (.getfield 12), 3), (107, (.getfield 101), 3), (110, (.iload_n 1), 1), (111, (.iload_n 2), 1), (112, (.iload_n 3), 1), (113, (.iload 4), 2), (115, (.invokevirtual 131), 3), (118, .ireturn, 1)]
set_option maxRecDepth 100000 in
theorem tX10_markSeed_ok : kTab cX10_markSeed tX10_markSeed := kTab_of (by decide +kernel)
def tX10_correction : List (Nat × Instr × Nat) := [(0, (.iload_n 1), 1), (1, (.invokestatic 116), 3), (4, (.iload_n 2), 1), (5, (.invokestatic 57), 3), (8, (.aload_n 0), 1), (9, (.getfield 12), 3), (12, (.getfield 101), 3), (15, (.iload_n 1), 1), (16, (.iload_n 2), 1), (17, (.aload_n 0), 1), (18, (.getfield 12), 3), (21, (.getfield 98), 3), (24, (.iconst 0), 1), (25, .iaload, 1), (26, (.invokevirtual 135), 3), (29, .ireturn, 1)]
set_option maxRecDepth 100000 in
theorem tX10_correction_ok : kTab cX10_correction tX10_correction := kTab_of (by decide +kernel)
def tX10_isSuspended : List (Nat × Instr × Nat) := [(0, (.iload_n 1), 1), (1, (.invokestatic 116), 3), (4, (.iload_n 2), 1), (5, (.invokestatic 57), 3), (8, (.aload_n 0), 1), (9, (.getfield 12), 3), (12, (.getfield 101), 3), (15, (.iload_n 1), 1), (16, (.iload_n 2), 1), (17, (.aload_n 0), 1), (18, (.getfield 12), 3), (21, (.getfield 98), 3), (24, (.iconst 1), 1), (25, .iaload, 1), (26, (.invokevirtual 139), 3), (29, .ireturn, 1)]
set_option maxRecDepth 100000 in
theorem tX10_isSuspended_ok : kTab cX10_isSuspended tX10_isSuspended := kTab_of (by decide +kernel)
def tX10_enter : List (Nat × Instr × Nat) := [(0, (.iload_n 1), 1), (1, (.invokestatic 116), 3), (4, (.iload_n 2), 1), (5, (.iload_n 3), 1), (6, (.invokestatic 142), 3), (9, (.iload 4), 2), (11, (.invokestatic 145), 3), (14, (.iload_n 2), 1), (15, (.iload_n 3), 1), (16, (.invokestatic 148), 3), (19, (.istore 5), 2), (21, (.aload_n 0), 1), (22, (.aload_n 0), 1), (23, (.getfield 12), 3), (26, (.iconst 0), 1), (27, (.iload_n 1), 1), (28, (.iload 5), 2), (30, (.iload 4), 2), (32, (.invokevirtual 151), 3), (35, (.ifCond .eq 13), 3), (38, (.new 155), 3), (41, .dup, 1), (42, (.ldc 157), 2), (44, (.invokespecial 159), 3), (47, .athrow, 1), (48, (.aload_n 0), 1), (49, (.getfield 25), 3), (52, (.aload_n 0), 1), (53, (.getfield 12), 3), (56, (.invokevirtual 83), 3), (59, (.aload_n 0), 1), (60, (.getfield 12), 3), (63, (.iload_n 1), 1), (64, (.iload 5), 2), (66, (.iload 4), 2), (68, (.invokevirtual 160), 3), (71, .ireturn, 1)]
set_option maxRecDepth 100000 in
theorem tX10_enter_ok : kTab cX10_enter tX10_enter := kTab_of (by decide +kernel)
def tX10_append : List (Nat × Instr × Nat) := [(0, (.iconst 0), 1), (1, (.istore_n 2), 1), (2, (.bipush 24), 2), (4, (.istore_n 3), 1), (5, (.iload_n 3), 1), (6, (.ifCond .lt 35), 3), (9, (.iload_n 1), 1), (10, (.iload_n 3), 1), (11, .iushr, 1), (12, (.sipush 255), 3), (15, .iand, 1), (16, (.istore 4), 2), (18, (.iload 4), 2), (20, (.ifCond .eq 15), 3), (23, (.iload 4), 2), (25, (.bipush 33), 2), (27, (.bipush 126), 2), (29, (.invokestatic 61), 3), (32, (.iinc 2 1), 3), (35, (.iinc 3 (-8)), 3), (38, (.goto (-33)), 3), (41, (.aload_n 0), 1), (42, (.getfield 32), 3), (45, (.getfield 163), 3), (48, (.iload_n 2), 1), (49, .iadd, 1), (50, (.bipush 60), 2), (52, (.if_icmp .le 13), 3), (55, (.new 72), 3), (58, .dup, 1), (59, (.ldc 167), 2), (61, (.invokespecial 76), 3), (64, .athrow, 1), (65, (.bipush 24), 2), (67, (.istore_n 3), 1), (68, (.iload_n 3), 1), (69, (.ifCond .lt 23), 3), (72, (.aload_n 0), 1), (73, (.getfield 32), 3), (76, (.iload_n 1), 1), (77, (.iload_n 3), 1), (78, .iushr, 1), (79, (.sipush 255), 3), (82, .iand, 1), (83, (.invokevirtual 169), 3), (86, (.iinc 3 (-8)), 3), (89, (.goto (-21)), 3), (92, (.aload_n 0), 1), (93, (.getfield 32), 3), (96, (.getfield 163), 3), (99, .ireturn, 1)]
set_option maxRecDepth 100000 in
theorem tX10_append_ok : kTab cX10_append tX10_append := kTab_of (by decide +kernel)
def tX10_sheet : List (Nat × Instr × Nat) := [(0, (.aload_n 0), 1), (1, (.getfield 32), 3), (4, (.invokevirtual 172), 3), (7, (.aload_n 0), 1), (8, (.getfield 32), 3), (11, (.getfield 175), 3), (14, (.ifCond .lt 13), 3), (17, (.new 178), 3), (20, .dup, 1), (21, (.ldc 180), 2), (23, (.invokespecial 182), 3), (26, .athrow, 1), (27, (.aload_n 0), 1), (28, (.getfield 16), 3), (31, (.aload_n 0), 1), (32, (.getfield 12), 3), (35, (.invokevirtual 183), 3), (38, (.iconst 0), 1), (39, (.istore_n 1), 1), (40, (.iload_n 1), 1), (41, (.aload_n 0), 1), (42, (.getfield 32), 3), (45, (.getfield 186), 3), (48, (.if_icmp .ge 99), 3), (51, (.iload_n 1), 1), (52, (.bipush 20), 2), (54, (.if_icmp .ge 93), 3), (57, (.aload_n 0), 1), (58, (.getfield 32), 3), (61, (.getfield 189), 3), (64, (.iload_n 1), 1), (65, .iaload, 1), (66, (.aload_n 0), 1), (67, (.getfield 32), 3), (70, (.getfield 192), 3), (73, (.invokestatic 148), 3), (76, (.istore_n 2), 1), (77, (.aload_n 0), 1), (78, (.aload_n 0), 1), (79, (.getfield 16), 3), (82, (.iload_n 1), 1), (83, (.aload_n 0), 1), (84, (.getfield 32), 3), (87, (.getfield 195), 3), (90, (.iload_n 2), 1), (91, (.aload_n 0), 1), (92, (.getfield 32), 3), (95, (.getfield 198), 3), (98, (.iload_n 1), 1), (99, .iaload, 1), (100, (.invokevirtual 151), 3), (103, (.ifCond .eq 13), 3), (106, (.new 155), 3), (109, .dup, 1), (110, (.ldc 201), 2), (112, (.invokespecial 159), 3), (115, .athrow, 1), (116, (.aload_n 0), 1), (117, (.getfield 16), 3), (120, (.aload_n 0), 1), (121, (.getfield 32), 3), (124, (.getfield 195), 3), (127, (.iload_n 2), 1), (128, (.aload_n 0), 1), (129, (.getfield 32), 3), (132, (.getfield 198), 3), (135, (.iload_n 1), 1), (136, .iaload, 1), (137, (.invokevirtual 160), 3), (140, .pop, 1), (141, (.iinc 1 1), 3), (144, (.goto (-104)), 3), (147, (.aload_n 0), 1), (148, (.getfield 25), 3), (151, (.aload_n 0), 1), (152, (.getfield 12), 3), (155, (.invokevirtual 83), 3), (158, (.aload_n 0), 1), (159, (.getfield 12), 3), (162, (.aload_n 0), 1), (163, (.getfield 16), 3), (166, (.invokevirtual 183), 3), (169, (.aload_n 0), 1), (170, (.getfield 32), 3), (173, (.getfield 186), 3), (176, .ireturn, 1)]
set_option maxRecDepth 100000 in
theorem tX10_sheet_ok : kTab cX10_sheet tX10_sheet := kTab_of (by decide +kernel)
def tX10_errorPosition : List (Nat × Instr × Nat) := [(0, (.aload_n 0), 1), (1, (.getfield 32), 3), (4, (.getfield 175), 3), (7, .ireturn, 1)]
set_option maxRecDepth 100000 in
theorem tX10_errorPosition_ok : kTab cX10_errorPosition tX10_errorPosition := kTab_of (by decide +kernel)
def tX10_entry : List (Nat × Instr × Nat) := [(0, (.iload_n 1), 1), (1, (.iload_n 2), 1), (2, (.invokestatic 142), 3), (5, (.iload_n 1), 1), (6, (.iload_n 2), 1), (7, (.invokestatic 148), 3), (10, (.istore 5), 2), (12, (.iload_n 3), 1), (13, (.ifCond .lt 25), 3), (16, (.iload_n 3), 1), (17, (.aload_n 0), 1), (18, (.getfield 12), 3), (21, (.getfield 203), 3), (24, (.getfield 206), 3), (27, (.iload 5), 2), (29, .iaload, 1), (30, (.if_icmp .ge 8), 3), (33, (.iload_n 3), 1), (34, (.iconst 3), 1), (35, (.if_icmp .lt 13), 3), (38, (.new 209), 3), (41, .dup, 1), (42, (.ldc 211), 2), (44, (.invokespecial 213), 3), (47, .athrow, 1), (48, (.iload 4), 2), (50, (.iconst 0), 1), (51, (.iconst 3), 1), (52, (.invokestatic 61), 3), (55, (.iload 5), 2), (57, (.iconst 3), 1), (58, .imul, 1), (59, (.iload_n 3), 1), (60, .iadd, 1), (61, (.istore 6), 2), (63, (.iload 4), 2), (65, (.tableswitch 65 0 2 #[27, 41, 55]), 27), (92, (.aload_n 0), 1), (93, (.getfield 12), 3), (96, (.getfield 203), 3), (99, (.getfield 214), 3), (102, (.iload 6), 2), (104, .iaload, 1), (105, .ireturn, 1), (106, (.aload_n 0), 1), (107, (.getfield 12), 3), (110, (.getfield 203), 3), (113, (.getfield 217), 3), (116, (.iload 6), 2), (118, .iaload, 1), (119, .ireturn, 1), (120, (.aload_n 0), 1), (121, (.getfield 12), 3), (124, (.iload 6), 2), (126, (.invokevirtual 218), 3), (129, .ireturn, 1), (130, (.aload_n 0), 1), (131, (.getfield 12), 3), (134, (.iload 6), 2), (136, (.invokevirtual 221), 3), (139, (.ifCond .eq 7), 3), (142, (.iconst 1), 1), (143, (.goto 4), 3), (146, (.iconst 0), 1), (147, .ireturn, 1)]
set_option maxRecDepth 100000 in
theorem tX10_entry_ok : kTab cX10_entry tX10_entry := kTab_of (by decide +kernel)
def tX10_script : List (Nat × Instr × Nat) := [(0, (.iload_n 1), 1), (1, (.iload_n 2), 1), (2, (.invokestatic 142), 3), (5, (.iload_n 3), 1), (6, (.iconst 0), 1), (7, (.iconst 4), 1), (8, (.invokestatic 61), 3), (11, (.iload_n 1), 1), (12, (.iload_n 2), 1), (13, (.invokestatic 148), 3), (16, (.istore 4), 2), (18, (.iload_n 3), 1), (19, (.tableswitch 73 0 3 #[29, 39, 53, 63]), 29), (48, (.aload_n 0), 1), (49, (.getfield 12), 3), (52, (.iload 4), 2), (54, (.invokevirtual 225), 3), (57, .ireturn, 1), (58, (.aload_n 0), 1), (59, (.getfield 12), 3), (62, (.getfield 203), 3), (65, (.getfield 206), 3), (68, (.iload 4), 2), (70, .iaload, 1), (71, .ireturn, 1), (72, (.aload_n 0), 1), (73, (.getfield 12), 3), (76, (.iload 4), 2), (78, (.invokevirtual 228), 3), (81, .ireturn, 1), (82, (.aload_n 0), 1), (83, (.getfield 12), 3), (86, (.iload 4), 2), (88, (.invokevirtual 231), 3), (91, .ireturn, 1), (92, (.aload_n 0), 1), (93, (.getfield 12), 3), (96, (.getfield 234), 3), (99, (.getfield 238), 3), (102, (.iload 4), 2), (104, .iaload, 1), (105, .ireturn, 1)]
set_option maxRecDepth 100000 in
theorem tX10_script_ok : kTab cX10_script tX10_script := kTab_of (by decide +kernel)
def tX10_excuse : List (Nat × Instr × Nat) := [(0, (.iload_n 1), 1), (1, (.iload_n 2), 1), (2, (.invokestatic 142), 3), (5, (.aload_n 0), 1), (6, (.invokevirtual 65), 3), (9, (.aload_n 0), 1), (10, (.getfield 12), 3), (13, (.iload_n 1), 1), (14, (.iload_n 2), 1), (15, (.invokevirtual 243), 3), (18, (.istore 4), 2), (20, (.iload_n 3), 1), (21, (.ifCond .eq 34), 3), (24, (.iload 4), 2), (26, (.ifCond .ne 29), 3), (29, (.aload_n 0), 1), (30, (.getfield 12), 3), (33, (.getfield 247), 3), (36, (.iload_n 1), 1), (37, .iaload, 1), (38, (.invokestatic 250), 3), (41, (.iconst 2), 1), (42, (.if_icmp .lt 13), 3), (45, (.new 72), 3), (48, .dup, 1), (49, (.ldc 255), 2), (51, (.invokespecial 76), 3), (54, .athrow, 1), (55, (.aload_n 0), 1), (56, (.getfield 25), 3), (59, (.aload_n 0), 1), (60, (.getfield 12), 3), (63, (.invokevirtual 83), 3), (66, (.iconst 1), 1), (67, (.iload_n 2), 1), (68, .ishl, 1), (69, (.istore 5), 2), (71, (.aload_n 0), 1), (72, (.getfield 12), 3), (75, (.getfield 247), 3), (78, (.iload_n 1), 1), (79, (.iload_n 3), 1), (80, (.ifCond .eq 18), 3), (83, (.aload_n 0), 1), (84, (.getfield 12), 3), (87, (.getfield 247), 3), (90, (.iload_n 1), 1), (91, .iaload, 1), (92, (.iload 5), 2), (94, .ior, 1), (95, (.goto 17), 3), (98, (.aload_n 0), 1), (99, (.getfield 12), 3), (102, (.getfield 247), 3), (105, (.iload_n 1), 1), (106, .iaload, 1), (107, (.iload 5), 2), (109, (.iconst (-1)), 1), (110, .ixor, 1), (111, .iand, 1), (112, .iastore, 1), (113, (.iload 4), 2), (115, .ireturn, 1)]
set_option maxRecDepth 100000 in
theorem tX10_excuse_ok : kTab cX10_excuse tX10_excuse := kTab_of (by decide +kernel)
def tX10_raise : List (Nat × Instr × Nat) := [(0, (.iload_n 1), 1), (1, (.invokestatic 257), 3), (4, (.iload_n 2), 1), (5, (.iconst 0), 1), (6, (.bipush 10), 2), (8, (.invokestatic 61), 3), (11, (.aload_n 0), 1), (12, (.invokevirtual 65), 3), (15, (.aload_n 0), 1), (16, (.getfield 12), 3), (19, (.getfield 260), 3), (22, (.iload_n 1), 1), (23, .iaload, 1), (24, (.istore_n 3), 1), (25, (.aload_n 0), 1), (26, (.getfield 25), 3), (29, (.aload_n 0), 1), (30, (.getfield 12), 3), (33, (.invokevirtual 83), 3), (36, (.aload_n 0), 1), (37, (.getfield 12), 3), (40, (.getfield 260), 3), (43, (.iload_n 1), 1), (44, (.iload_n 2), 1), (45, .iastore, 1), (46, (.iload_n 3), 1), (47, .ireturn, 1)]
set_option maxRecDepth 100000 in
theorem tX10_raise_ok : kTab cX10_raise tX10_raise := kTab_of (by decide +kernel)
def tX10_setPoint : List (Nat × Instr × Nat) := [(0, (.iload_n 1), 1), (1, (.iconst 0), 1), (2, (.sipush 200), 3), (5, (.invokestatic 61), 3), (8, (.iload_n 2), 1), (9, (.iconst 0), 1), (10, (.bipush 100), 2), (12, (.invokestatic 61), 3), (15, (.aload_n 0), 1), (16, (.invokevirtual 65), 3), (19, (.aload_n 0), 1), (20, (.getfield 12), 3), (23, (.getfield 263), 3), (26, (.getfield 267), 3), (29, (.iconst 5), 1), (30, (.if_icmp .lt 28), 3), (33, (.aload_n 0), 1), (34, (.getfield 12), 3), (37, (.getfield 263), 3), (40, (.iload_n 1), 1), (41, (.invokevirtual 272), 3), (44, (.ifCond .ge 14), 3), (47, (.new 72), 3), (50, .dup, 1), (51, (.ldc_w 275), 3), (54, (.invokespecial 76), 3), (57, .athrow, 1), (58, (.aload_n 0), 1), (59, (.getfield 25), 3), (62, (.aload_n 0), 1), (63, (.getfield 12), 3), (66, (.invokevirtual 83), 3), (69, (.aload_n 0), 1), (70, (.getfield 12), 3), (73, (.getfield 263), 3), (76, (.iload_n 1), 1), (77, (.iload_n 2), 1), (78, (.invokevirtual 277), 3), (81, .ireturn, 1)]
set_option maxRecDepth 100000 in
theorem tX10_setPoint_ok : kTab cX10_setPoint tX10_setPoint := kTab_of (by decide +kernel)
def tX10_removePoint : List (Nat × Instr × Nat) := [(0, (.aload_n 0), 1), (1, (.invokevirtual 65), 3), (4, (.aload_n 0), 1), (5, (.getfield 12), 3), (8, (.getfield 263), 3), (11, (.iload_n 1), 1), (12, (.invokevirtual 272), 3), (15, (.istore_n 2), 1), (16, (.iload_n 2), 1), (17, (.ifCond .ge 14), 3), (20, (.new 209), 3), (23, .dup, 1), (24, (.ldc_w 280), 3), (27, (.invokespecial 213), 3), (30, .athrow, 1), (31, (.aload_n 0), 1), (32, (.getfield 25), 3), (35, (.aload_n 0), 1), (36, (.getfield 12), 3), (39, (.invokevirtual 83), 3), (42, (.aload_n 0), 1), (43, (.getfield 12), 3), (46, (.getfield 263), 3), (49, (.iload_n 2), 1), (50, (.invokevirtual 282), 3), (53, .ireturn, 1)]
set_option maxRecDepth 100000 in
theorem tX10_removePoint_ok : kTab cX10_removePoint tX10_removePoint := kTab_of (by decide +kernel)
def tX10_curve : List (Nat × Instr × Nat) := [(0, (.aload_n 0), 1), (1, (.getfield 12), 3), (4, (.invokevirtual 285), 3), (7, (.istore_n 2), 1), (8, (.iload_n 1), 1), (9, (.iconst 0), 1), (10, (.sipush 200), 3), (13, (.iload_n 2), 1), (14, (.invokestatic 289), 3), (17, (.invokestatic 61), 3), (20, (.aload_n 0), 1), (21, (.getfield 12), 3), (24, (.getfield 263), 3), (27, (.iload_n 1), 1), (28, .i2l, 1), (29, (.lconst 1), 1), (30, (.iload_n 2), 1), (31, (.invokevirtual 294), 3), (34, .ireturn, 1)]
set_option maxRecDepth 100000 in
theorem tX10_curve_ok : kTab cX10_curve tX10_curve := kTab_of (by decide +kernel)
def tX10_setBoundary : List (Nat × Instr × Nat) := [(0, (.iload_n 1), 1), (1, (.ifCond .lt 8), 3), (4, (.iload_n 1), 1), (5, (.iconst 4), 1), (6, (.if_icmp .lt 14), 3), (9, (.new 87), 3), (12, .dup, 1), (13, (.ldc_w 298), 3), (16, (.invokespecial 91), 3), (19, .athrow, 1), (20, (.iload_n 1), 1), (21, (.iconst 1), 1), (22, .iadd, 1), (23, (.iconst 4), 1), (24, (.if_icmp .ge 19), 3), (27, (.aload_n 0), 1), (28, (.getfield 12), 3), (31, (.getfield 300), 3), (34, (.iload_n 1), 1), (35, (.iconst 1), 1), (36, .iadd, 1), (37, .iaload, 1), (38, (.iconst 1), 1), (39, .iadd, 1), (40, (.goto 4), 3), (43, (.iconst 1), 1), (44, (.istore_n 3), 1), (45, (.iload_n 1), 1), (46, (.ifCond .le 19), 3), (49, (.aload_n 0), 1), (50, (.getfield 12), 3), (53, (.getfield 300), 3), (56, (.iload_n 1), 1), (57, (.iconst 1), 1), (58, .isub, 1), (59, .iaload, 1), (60, (.iconst 1), 1), (61, .isub, 1), (62, (.goto 5), 3), (65, (.bipush 100), 2), (67, (.istore 4), 2), (69, (.iload_n 2), 1), (70, (.iload_n 3), 1), (71, (.iload 4), 2), (73, (.invokestatic 61), 3), (76, (.aload_n 0), 1), (77, (.invokevirtual 65), 3), (80, (.aload_n 0), 1), (81, (.getfield 12), 3), (84, (.getfield 300), 3), (87, (.iload_n 1), 1), (88, .iaload, 1), (89, (.istore 5), 2), (91, (.aload_n 0), 1), (92, (.getfield 25), 3), (95, (.aload_n 0), 1), (96, (.getfield 12), 3), (99, (.invokevirtual 83), 3), (102, (.aload_n 0), 1), (103, (.getfield 12), 3), (106, (.getfield 300), 3), (109, (.iload_n 1), 1), (110, (.iload_n 2), 1), (111, .iastore, 1), (112, (.iload 5), 2), (114, .ireturn, 1)]
set_option maxRecDepth 100000 in
theorem tX10_setBoundary_ok : kTab cX10_setBoundary tX10_setBoundary := kTab_of (by decide +kernel)
def tX10_result : List (Nat × Instr × Nat) := [(0, (.iload_n 1), 1), (1, (.invokestatic 257), 3), (4, (.iload_n 2), 1), (5, (.iconst 0), 1), (6, (.iconst 5), 1), (7, (.invokestatic 61), 3), (10, (.aload_n 0), 1), (11, (.iload_n 1), 1), (12, (.invokevirtual 303), 3), (15, (.aload_n 0), 1), (16, (.getfield 45), 3), (19, (.iload_n 1), 1), (20, .aaload, 1), (21, (.astore_n 3), 1), (22, (.aload_n 3), 1), (23, (.aload_n 0), 1), (24, (.getfield 12), 3), (27, (.iload_n 1), 1), (28, (.invokevirtual 306), 3), (31, (.iload_n 2), 1), (32, (.tableswitch 64 0 4 #[36, 41, 46, 52, 58]), 36), (68, (.aload_n 3), 1), (69, (.getfield 310), 3), (72, .lreturn, 1), (73, (.aload_n 3), 1), (74, (.getfield 314), 3), (77, .lreturn, 1), (78, (.aload_n 3), 1), (79, (.getfield 317), 3), (82, .i2l, 1), (83, .lreturn, 1), (84, (.aload_n 3), 1), (85, (.getfield 320), 3), (88, .i2l, 1), (89, .lreturn, 1), (90, (.aload_n 3), 1), (91, (.getfield 323), 3), (94, .i2l, 1), (95, .lreturn, 1), (96, (.aload_n 3), 1), (97, (.getfield 323), 3), (100, (.aload_n 3), 1), (101, (.getfield 320), 3), (104, (.if_icmp .ge 7), 3), (107, (.lconst 1), 1), (108, (.goto 4), 3), (111, (.lconst 0), 1), (112, .lreturn, 1)]
set_option maxRecDepth 100000 in
theorem tX10_result_ok : kTab cX10_result tX10_result := kTab_of (by decide +kernel)
def tX10_recount : List (Nat × Instr × Nat) := [(0, (.iload_n 1), 1), (1, (.invokestatic 257), 3), (4, (.aload_n 0), 1), (5, (.getfield 52), 3), (8, (.aload_n 0), 1), (9, (.getfield 12), 3), (12, (.iload_n 1), 1), (13, (.invokevirtual 326), 3), (16, .ireturn, 1)]
set_option maxRecDepth 100000 in
theorem tX10_recount_ok : kTab cX10_recount tX10_recount := kTab_of (by decide +kernel)
def tX10_ranked : List (Nat × Instr × Nat) := [(0, (.iconst 0), 1), (1, (.istore_n 2), 1), (2, (.iload_n 2), 1), (3, (.bipush 8), 2), (5, (.if_icmp .ge 23), 3), (8, (.aload_n 0), 1), (9, (.getfield 45), 3), (12, (.iload_n 2), 1), (13, .aaload, 1), (14, (.aload_n 0), 1), (15, (.getfield 12), 3), (18, (.iload_n 2), 1), (19, (.invokevirtual 306), 3), (22, (.iinc 2 1), 3), (25, (.goto (-23)), 3), (28, (.iconst 0), 1), (29, (.istore_n 2), 1), (30, (.iload_n 2), 1), (31, (.bipush 8), 2), (33, (.if_icmp .ge 31), 3), (36, (.aload_n 0), 1), (37, (.getfield 12), 3), (40, (.iload_n 2), 1), (41, (.invokevirtual 330), 3), (44, (.ifCond .eq 14), 3), (47, (.aload_n 0), 1), (48, (.iload_n 2), 1), (49, (.invokevirtual 333), 3), (52, (.iload_n 1), 1), (53, (.if_icmp .ne 5), 3), (56, (.iload_n 2), 1), (57, .ireturn, 1), (58, (.iinc 2 1), 3), (61, (.goto (-31)), 3), (64, (.new 209), 3), (67, .dup, 1), (68, (.ldc_w 336), 3), (71, (.invokespecial 213), 3), (74, .athrow, 1)]
set_option maxRecDepth 100000 in
theorem tX10_ranked_ok : kTab cX10_ranked tX10_ranked := kTab_of (by decide +kernel)
def tX10_graded : List (Nat × Instr × Nat) := [(0, (.iload_n 1), 1), (1, (.invokestatic 338), 3), (4, (.iconst 0), 1), (5, (.istore_n 2), 1), (6, (.iconst 0), 1), (7, (.istore_n 3), 1), (8, (.iload_n 3), 1), (9, (.bipush 8), 2), (11, (.if_icmp .ge 50), 3), (14, (.aload_n 0), 1), (15, (.getfield 45), 3), (18, (.iload_n 3), 1), (19, .aaload, 1), (20, (.aload_n 0), 1), (21, (.getfield 12), 3), (24, (.iload_n 3), 1), (25, (.invokevirtual 306), 3), (28, (.aload_n 0), 1), (29, (.getfield 12), 3), (32, (.iload_n 3), 1), (33, (.invokevirtual 330), 3), (36, (.ifCond .eq 19), 3), (39, (.aload_n 0), 1), (40, (.getfield 45), 3), (43, (.iload_n 3), 1), (44, .aaload, 1), (45, (.getfield 323), 3), (48, (.iload_n 1), 1), (49, (.if_icmp .ne 6), 3), (52, (.iinc 2 1), 3), (55, (.iinc 3 1), 3), (58, (.goto (-50)), 3), (61, (.iload_n 2), 1), (62, .ireturn, 1)]
set_option maxRecDepth 100000 in
theorem tX10_graded_ok : kTab cX10_graded tX10_graded := kTab_of (by decide +kernel)
def tX10_gradeIf : List (Nat × Instr × Nat) := [(0, (.iload_n 1), 1), (1, (.iload_n 2), 1), (2, (.invokestatic 142), 3), (5, (.iload_n 3), 1), (6, (.iconst 0), 1), (7, (.aload_n 0), 1), (8, (.getfield 12), 3), (11, (.getfield 79), 3), (14, (.iload_n 2), 1), (15, .iaload, 1), (16, (.invokestatic 61), 3), (19, (.aload_n 0), 1), (20, (.iload_n 1), 1), (21, (.invokevirtual 303), 3), (24, (.aload_n 0), 1), (25, (.getfield 45), 3), (28, (.iload_n 1), 1), (29, .aaload, 1), (30, (.astore 4), 2), (32, (.aload 4), 2), (34, (.aload_n 0), 1), (35, (.getfield 12), 3), (38, (.iload_n 1), 1), (39, (.invokevirtual 306), 3), (42, (.aload 4), 2), (44, (.aload_n 0), 1), (45, (.getfield 12), 3), (48, (.iload_n 1), 1), (49, (.iload_n 2), 1), (50, (.iload_n 3), 1), (51, (.invokevirtual 341), 3), (54, (.aload 4), 2), (56, (.getfield 323), 3), (59, .ireturn, 1)]
set_option maxRecDepth 100000 in
theorem tX10_gradeIf_ok : kTab cX10_gradeIf tX10_gradeIf := kTab_of (by decide +kernel)
def tX10_needed : List (Nat × Instr × Nat) := [(0, (.iload_n 1), 1), (1, (.iload_n 2), 1), (2, (.invokestatic 142), 3), (5, (.iload_n 3), 1), (6, (.invokestatic 338), 3), (9, (.aload_n 0), 1), (10, (.iload_n 1), 1), (11, (.invokevirtual 303), 3), (14, (.aload_n 0), 1), (15, (.getfield 45), 3), (18, (.iload_n 1), 1), (19, .aaload, 1), (20, (.astore 4), 2), (22, (.aload 4), 2), (24, (.aload_n 0), 1), (25, (.getfield 12), 3), (28, (.iload_n 1), 1), (29, (.invokevirtual 306), 3), (32, (.iconst 0), 1), (33, (.istore 5), 2), (35, (.iload 5), 2), (37, (.aload_n 0), 1), (38, (.getfield 12), 3), (41, (.getfield 79), 3), (44, (.iload_n 2), 1), (45, .iaload, 1), (46, (.if_icmp .gt 34), 3), (49, (.aload 4), 2), (51, (.aload_n 0), 1), (52, (.getfield 12), 3), (55, (.iload_n 1), 1), (56, (.iload_n 2), 1), (57, (.iload 5), 2), (59, (.invokevirtual 341), 3), (62, (.aload 4), 2), (64, (.getfield 323), 3), (67, (.iload_n 3), 1), (68, (.if_icmp .gt 6), 3), (71, (.iload 5), 2), (73, .ireturn, 1), (74, (.iinc 5 1), 3), (77, (.goto (-42)), 3), (80, (.new 209), 3), (83, .dup, 1), (84, (.ldc_w 345), 3), (87, (.invokespecial 213), 3), (90, .athrow, 1)]
set_option maxRecDepth 100000 in
theorem tX10_needed_ok : kTab cX10_needed tX10_needed := kTab_of (by decide +kernel)
def tX10_meanBits : List (Nat × Instr × Nat) := [(0, (.iload_n 1), 1), (1, (.invokestatic 57), 3), (4, (.iconst 0), 1), (5, (.istore_n 2), 1), (6, (.iconst 0), 1), (7, (.istore_n 3), 1), (8, (.iconst 0), 1), (9, (.istore 4), 2), (11, (.iload 4), 2), (13, (.bipush 8), 2), (15, (.if_icmp .ge 53), 3), (18, (.aload_n 0), 1), (19, (.getfield 12), 3), (22, (.iload 4), 2), (24, (.invokevirtual 330), 3), (27, (.ifCond .eq 35), 3), (30, (.aload_n 0), 1), (31, (.getfield 12), 3), (34, (.iload 4), 2), (36, (.iload_n 1), 1), (37, (.invokevirtual 243), 3), (40, (.ifCond .ne 22), 3), (43, (.iload_n 2), 1), (44, (.aload_n 0), 1), (45, (.getfield 12), 3), (48, (.iload 4), 2), (50, (.iload_n 1), 1), (51, (.invokestatic 148), 3), (54, (.invokevirtual 225), 3), (57, .iadd, 1), (58, (.istore_n 2), 1), (59, (.iinc 3 1), 3), (62, (.iinc 4 1), 3), (65, (.goto (-54)), 3), (68, (.iload_n 3), 1), (69, (.ifCond .ne 14), 3), (72, (.new 347), 3), (75, .dup, 1), (76, (.ldc_w 349), 3), (79, (.invokespecial 351), 3), (82, .athrow, 1), (83, (.iload_n 2), 1), (84, .i2d, 1), (85, (.ldc2_w 352), 3), (88, .ddiv, 1), (89, (.iload_n 3), 1), (90, .i2d, 1), (91, .ddiv, 1), (92, (.invokestatic 354), 3), (95, .lreturn, 1)]
set_option maxRecDepth 100000 in
theorem tX10_meanBits_ok : kTab cX10_meanBits tX10_meanBits := kTab_of (by decide +kernel)
def tX10_validBits : List (Nat × Instr × Nat) := [(0, (.iload_n 1), 1), (1, (.invokestatic 116), 3), (4, (.iconst 0), 1), (5, (.istore_n 2), 1), (6, (.iconst 0), 1), (7, (.istore_n 3), 1), (8, (.iconst 0), 1), (9, (.istore 4), 2), (11, (.iload 4), 2), (13, (.bipush 120), 2), (15, (.if_icmp .ge 48), 3), (18, (.aload_n 0), 1), (19, (.getfield 12), 3), (22, (.getfield 203), 3), (25, (.iload_n 1), 1), (26, (.iload 4), 2), (28, (.invokevirtual 358), 3), (31, (.ifCond .eq 26), 3), (34, (.iinc 3 1), 3), (37, (.iload_n 2), 1), (38, (.aload_n 0), 1), (39, (.getfield 12), 3), (42, (.iload 4), 2), (44, (.invokevirtual 221), 3), (47, (.ifCond .eq 7), 3), (50, (.iconst 1), 1), (51, (.goto 4), 3), (54, (.iconst 0), 1), (55, .iadd, 1), (56, (.istore_n 2), 1), (57, (.iinc 4 1), 3), (60, (.goto (-49)), 3), (63, (.iload_n 3), 1), (64, (.ifCond .ne 14), 3), (67, (.new 347), 3), (70, .dup, 1), (71, (.ldc_w 361), 3), (74, (.invokespecial 351), 3), (77, .athrow, 1), (78, (.iload_n 2), 1), (79, .i2f, 1), (80, (.iload_n 3), 1), (81, .i2f, 1), (82, .fdiv, 1), (83, (.invokestatic 363), 3), (86, .ireturn, 1)]
set_option maxRecDepth 100000 in
theorem tX10_validBits_ok : kTab cX10_validBits tX10_validBits := kTab_of (by decide +kernel)
def tX10_publish : List (Nat × Instr × Nat) := [(0, (.aload_n 0), 1), (1, (.getfield 12), 3), (4, (.getfield 367), 3), (7, (.ifCond .eq 14), 3), (10, (.new 72), 3), (13, .dup, 1), (14, (.ldc_w 371), 3), (17, (.invokespecial 76), 3), (20, .athrow, 1), (21, (.aload_n 0), 1), (22, (.invokevirtual 373), 3), (25, (.ifCond .eq 14), 3), (28, (.new 155), 3), (31, .dup, 1), (32, (.ldc_w 377), 3), (35, (.invokespecial 159), 3), (38, .athrow, 1), (39, (.aload_n 0), 1), (40, (.getfield 25), 3), (43, (.aload_n 0), 1), (44, (.getfield 12), 3), (47, (.invokevirtual 83), 3), (50, (.aload_n 0), 1), (51, (.getfield 12), 3), (54, (.iconst 1), 1), (55, (.putfield 367), 3), (58, (.aload_n 0), 1), (59, (.getfield 12), 3), (62, (.invokevirtual 379), 3), (65, .ireturn, 1)]
set_option maxRecDepth 100000 in
theorem tX10_publish_ok : kTab cX10_publish tX10_publish := kTab_of (by decide +kernel)
def tX10_withdraw : List (Nat × Instr × Nat) := [(0, (.aload_n 0), 1), (1, (.getfield 12), 3), (4, (.getfield 367), 3), (7, (.ifCond .ne 14), 3), (10, (.new 72), 3), (13, .dup, 1), (14, (.ldc_w 382), 3), (17, (.invokespecial 76), 3), (20, .athrow, 1), (21, (.aload_n 0), 1), (22, (.getfield 12), 3), (25, (.getfield 234), 3), (28, (.invokevirtual 384), 3), (31, (.ifCond .le 14), 3), (34, (.new 155), 3), (37, .dup, 1), (38, (.ldc_w 387), 3), (41, (.invokespecial 159), 3), (44, .athrow, 1), (45, (.aload_n 0), 1), (46, (.getfield 25), 3), (49, (.aload_n 0), 1), (50, (.getfield 12), 3), (53, (.invokevirtual 83), 3), (56, (.aload_n 0), 1), (57, (.getfield 12), 3), (60, (.iconst 0), 1), (61, (.putfield 367), 3), (64, (.aload_n 0), 1), (65, (.getfield 12), 3), (68, (.invokevirtual 379), 3), (71, .ireturn, 1)]
set_option maxRecDepth 100000 in
theorem tX10_withdraw_ok : kTab cX10_withdraw tX10_withdraw := kTab_of (by decide +kernel)
def tX10_appeal : List (Nat × Instr × Nat) := [(0, (.iload_n 1), 1), (1, (.iload_n 2), 1), (2, (.invokestatic 142), 3), (5, (.aload_n 0), 1), (6, (.iload_n 1), 1), (7, (.iload_n 2), 1), (8, (.invokevirtual 389), 3), (11, (.ifCond .eq 14), 3), (14, (.new 155), 3), (17, .dup, 1), (18, (.ldc_w 392), 3), (21, (.invokespecial 159), 3), (24, .athrow, 1), (25, (.aload_n 0), 1), (26, (.getfield 25), 3), (29, (.aload_n 0), 1), (30, (.getfield 12), 3), (33, (.invokevirtual 83), 3), (36, (.aload_n 0), 1), (37, (.getfield 12), 3), (40, (.getfield 98), 3), (43, (.iconst 4), 1), (44, .iaload, 1), (45, (.istore_n 3), 1), (46, (.aload_n 0), 1), (47, (.getfield 12), 3), (50, (.getfield 234), 3), (53, (.iload_n 1), 1), (54, (.iload_n 2), 1), (55, (.invokestatic 148), 3), (58, (.iload_n 3), 1), (59, (.invokevirtual 394), 3), (62, (.iload_n 3), 1), (63, .ireturn, 1)]
set_option maxRecDepth 100000 in
theorem tX10_appeal_ok : kTab cX10_appeal tX10_appeal := kTab_of (by decide +kernel)
def tX10_remark : List (Nat × Instr × Nat) := [(0, (.iload_n 1), 1), (1, (.invokestatic 116), 3), (4, (.iload_n 2), 1), (5, (.iload_n 3), 1), (6, (.invokestatic 142), 3), (9, (.iload 4), 2), (11, (.invokestatic 145), 3), (14, (.aload_n 0), 1), (15, (.iload_n 1), 1), (16, (.iload_n 2), 1), (17, (.iload_n 3), 1), (18, (.iload 4), 2), (20, (.invokevirtual 397), 3), (23, (.ifCond .eq 14), 3), (26, (.new 155), 3), (29, .dup, 1), (30, (.ldc_w 401), 3), (33, (.invokespecial 159), 3), (36, .athrow, 1), (37, (.aload_n 0), 1), (38, (.getfield 25), 3), (41, (.aload_n 0), 1), (42, (.getfield 12), 3), (45, (.invokevirtual 83), 3), (48, (.aload_n 0), 1), (49, (.getfield 12), 3), (52, (.iload_n 1), 1), (53, (.iload_n 3), 1), (54, (.invokevirtual 127), 3), (57, (.iload_n 2), 1), (58, (.iload_n 3), 1), (59, (.invokestatic 148), 3), (62, (.istore 5), 2), (64, (.aload_n 0), 1), (65, (.getfield 45), 3), (68, (.iload_n 2), 1), (69, .aaload, 1), (70, (.astore 6), 2), (72, (.aload 6), 2), (74, (.aload_n 0), 1), (75, (.getfield 12), 3), (78, (.iload_n 2), 1), (79, (.invokevirtual 306), 3), (82, (.aload 6), 2), (84, (.getfield 323), 3), (87, (.istore 7), 2), (89, (.aload_n 0), 1), (90, (.getfield 12), 3), (93, (.iload 4), 2), (95, (.bipush 120), 2), (97, .imul, 1), (98, (.aload_n 0), 1), (99, (.getfield 12), 3), (102, (.iload 5), 2), (104, (.invokevirtual 225), 3), (107, (.invokevirtual 403), 3), (110, (.ifCond .ne 7), 3), (113, (.iconst 1), 1), (114, (.goto 4), 3), (117, (.iconst 0), 1), (118, (.istore 8), 2), (120, (.aload_n 0), 1), (121, (.getfield 12), 3), (124, (.getfield 234), 3), (127, (.iload 5), 2), (129, (.iload 4), 2), (131, (.iload 8), 2), (133, (.invokevirtual 406), 3), (136, (.aload 6), 2), (138, (.aload_n 0), 1), (139, (.getfield 12), 3), (142, (.iload_n 2), 1), (143, (.invokevirtual 306), 3), (146, (.aload 6), 2), (148, (.getfield 323), 3), (151, (.iload 7), 2), (153, (.if_icmp .ge 18), 3), (156, (.aload_n 0), 1), (157, (.getfield 12), 3), (160, (.getfield 234), 3), (163, (.iload 5), 2), (165, (.invokevirtual 410), 3), (168, (.goto 4), 3), (171, (.iconst 0), 1), (172, .ireturn, 1)]
set_option maxRecDepth 100000 in
theorem tX10_remark_ok : kTab cX10_remark tX10_remark := kTab_of (by decide +kernel)
def tX10_account : List (Nat × Instr × Nat) := [(0, (.iload_n 1), 1), (1, (.iconst 0), 1), (2, (.bipush 8), 2), (4, (.invokestatic 61), 3), (7, (.iload_n 1), 1), (8, (.iconst 4), 1), (9, (.if_icmp .ge 13), 3), (12, (.aload_n 0), 1), (13, (.getfield 12), 3), (16, (.getfield 413), 3), (19, (.iload_n 1), 1), (20, .iaload, 1), (21, .ireturn, 1), (22, (.iload_n 1), 1), (23, (.tableswitch 76 4 7 #[29, 40, 54, 65]), 29), (52, (.aload_n 0), 1), (53, (.getfield 12), 3), (56, (.getfield 413), 3), (59, (.invokestatic 416), 3), (62, .ireturn, 1), (63, (.aload_n 0), 1), (64, (.getfield 12), 3), (67, (.getfield 234), 3), (70, (.getfield 419), 3), (73, (.invokestatic 416), 3), (76, .ireturn, 1), (77, (.aload_n 0), 1), (78, (.getfield 12), 3), (81, (.getfield 234), 3), (84, (.getfield 422), 3), (87, .ireturn, 1), (88, (.aload_n 0), 1), (89, (.getfield 12), 3), (92, (.getfield 234), 3), (95, (.invokevirtual 384), 3), (98, .ireturn, 1), (99, (.aload_n 0), 1), (100, (.getfield 12), 3), (103, (.getfield 234), 3), (106, (.iconst 1), 1), (107, (.iconst 0), 1), (108, (.bipush 40), 2), (110, (.invokevirtual 425), 3), (113, .ireturn, 1)]
set_option maxRecDepth 100000 in
theorem tX10_account_ok : kTab cX10_account tX10_account := kTab_of (by decide +kernel)
def tX10_levels : List (Nat × Instr × Nat) := [(0, (.aload_n 0), 1), (1, (.getfield 39), 3), (4, (.getfield 428), 3), (7, .ireturn, 1)]
set_option maxRecDepth 100000 in
theorem tX10_levels_ok : kTab cX10_levels tX10_levels := kTab_of (by decide +kernel)
def tX10_report : List (Nat × Instr × Nat) := [(0, (.iload_n 1), 1), (1, (.ifCond .lt 19), 3), (4, (.iload_n 1), 1), (5, (.aload_n 0), 1), (6, (.getfield 39), 3), (9, (.getfield 428), 3), (12, (.if_icmp .ge 8), 3), (15, (.iload_n 1), 1), (16, (.iconst 2), 1), (17, (.if_icmp .lt 14), 3), (20, (.new 209), 3), (23, .dup, 1), (24, (.ldc_w 429), 3), (27, (.invokespecial 213), 3), (30, .athrow, 1), (31, (.iload_n 2), 1), (32, (.iconst 0), 1), (33, (.iconst 1), 1), (34, (.invokestatic 61), 3), (37, (.iload_n 2), 1), (38, (.ifCond .ne 15), 3), (41, (.aload_n 0), 1), (42, (.getfield 39), 3), (45, (.getfield 431), 3), (48, (.iload_n 1), 1), (49, .iaload, 1), (50, (.goto 12), 3), (53, (.aload_n 0), 1), (54, (.getfield 39), 3), (57, (.getfield 434), 3), (60, (.iload_n 1), 1), (61, .iaload, 1), (62, .ireturn, 1)]
set_option maxRecDepth 100000 in
theorem tX10_report_ok : kTab cX10_report tX10_report := kTab_of (by decide +kernel)
def tX10_count : List (Nat × Instr × Nat) := [(0, (.iload_n 1), 1), (1, (.iconst 0), 1), (2, (.bipush 9), 2), (4, (.invokestatic 61), 3), (7, (.iload_n 1), 1), (8, (.tableswitch 147 0 8 #[52, 63, 71, 85, 96, 107, 123, 131, 139]), 52), (60, (.aload_n 0), 1), (61, (.getfield 12), 3), (64, (.getfield 203), 3), (67, (.getfield 437), 3), (70, .ireturn, 1), (71, (.aload_n 0), 1), (72, (.getfield 12), 3), (75, (.invokevirtual 379), 3), (78, .ireturn, 1), (79, (.aload_n 0), 1), (80, (.getfield 12), 3), (83, (.getfield 101), 3), (86, (.getfield 105), 3), (89, (.invokestatic 416), 3), (92, .ireturn, 1), (93, (.aload_n 0), 1), (94, (.getfield 12), 3), (97, (.getfield 101), 3), (100, (.invokevirtual 440), 3), (103, .ireturn, 1), (104, (.aload_n 0), 1), (105, (.getfield 12), 3), (108, (.getfield 263), 3), (111, (.getfield 267), 3), (114, .ireturn, 1), (115, (.aload_n 0), 1), (116, (.getfield 12), 3), (119, (.getfield 367), 3), (122, (.ifCond .eq 7), 3), (125, (.iconst 1), 1), (126, (.goto 4), 3), (129, (.iconst 0), 1), (130, .ireturn, 1), (131, (.aload_n 0), 1), (132, (.getfield 12), 3), (135, (.invokevirtual 285), 3), (138, .ireturn, 1), (139, (.aload_n 0), 1), (140, (.getfield 32), 3), (143, (.getfield 163), 3), (146, .ireturn, 1), (147, (.aload_n 0), 1), (148, (.getfield 25), 3), (151, (.getfield 443), 3), (154, .ireturn, 1), (155, (.aload_n 0), 1), (156, (.getfield 12), 3), (159, (.invokevirtual 444), 3), (162, .ireturn, 1)]
set_option maxRecDepth 100000 in
theorem tX10_count_ok : kTab cX10_count tX10_count := kTab_of (by decide +kernel)
def tX10_undo : List (Nat × Instr × Nat) := [(0, (.aload_n 0), 1), (1, (.getfield 25), 3), (4, (.getfield 443), 3), (7, (.ifCond .gt 14), 3), (10, (.new 72), 3), (13, .dup, 1), (14, (.ldc_w 447), 3), (17, (.invokespecial 76), 3), (20, .athrow, 1), (21, (.aload_n 0), 1), (22, (.getfield 25), 3), (25, (.aload_n 0), 1), (26, (.getfield 12), 3), (29, (.invokevirtual 449), 3), (32, (.aload_n 0), 1), (33, (.getfield 25), 3), (36, (.getfield 443), 3), (39, .ireturn, 1)]
set_option maxRecDepth 100000 in
theorem tX10_undo_ok : kTab cX10_undo tX10_undo := kTab_of (by decide +kernel)
def tX10_save : List (Nat × Instr × Nat) := [(0, (.aload_n 0), 1), (1, (.getfield 19), 3), (4, (.aload_n 0), 1), (5, (.getfield 12), 3), (8, (.invokevirtual 183), 3), (11, (.aload_n 0), 1), (12, (.iconst 1), 1), (13, (.putfield 452), 3), (16, (.aload_n 0), 1), (17, (.getfield 12), 3), (20, (.getfield 203), 3), (23, (.getfield 437), 3), (26, .ireturn, 1)]
set_option maxRecDepth 100000 in
theorem tX10_save_ok : kTab cX10_save tX10_save := kTab_of (by decide +kernel)
def tX10_restore : List (Nat × Instr × Nat) := [(0, (.aload_n 0), 1), (1, (.getfield 452), 3), (4, (.ifCond .ne 14), 3), (7, (.new 72), 3), (10, .dup, 1), (11, (.ldc_w 455), 3), (14, (.invokespecial 76), 3), (17, .athrow, 1), (18, (.aload_n 0), 1), (19, (.getfield 25), 3), (22, (.aload_n 0), 1), (23, (.getfield 12), 3), (26, (.invokevirtual 83), 3), (29, (.aload_n 0), 1), (30, (.getfield 12), 3), (33, (.aload_n 0), 1), (34, (.getfield 19), 3), (37, (.invokevirtual 183), 3), (40, (.aload_n 0), 1), (41, (.getfield 12), 3), (44, (.getfield 203), 3), (47, (.getfield 437), 3), (50, .ireturn, 1)]
set_option maxRecDepth 100000 in
theorem tX10_restore_ok : kTab cX10_restore tX10_restore := kTab_of (by decide +kernel)
def tX10_requireCandidate : List (Nat × Instr × Nat) := [(0, (.iload_n 0), 1), (1, (.bipush 8), 2), (3, (.invokestatic 457), 3), (6, (.ifCond .ne 14), 3), (9, (.new 87), 3), (12, .dup, 1), (13, (.ldc_w 460), 3), (16, (.invokespecial 91), 3), (19, .athrow, 1), (20, .return_, 1)]
set_option maxRecDepth 100000 in
theorem tX10_requireCandidate_ok : kTab cX10_requireCandidate tX10_requireCandidate := kTab_of (by decide +kernel)
def tX10_requireQuestion : List (Nat × Instr × Nat) := [(0, (.iload_n 0), 1), (1, (.iconst 5), 1), (2, (.invokestatic 457), 3), (5, (.ifCond .ne 14), 3), (8, (.new 87), 3), (11, .dup, 1), (12, (.ldc_w 462), 3), (15, (.invokespecial 91), 3), (18, .athrow, 1), (19, .return_, 1)]
set_option maxRecDepth 100000 in
theorem tX10_requireQuestion_ok : kTab cX10_requireQuestion tX10_requireQuestion := kTab_of (by decide +kernel)
def tX10_requireMarker : List (Nat × Instr × Nat) := [(0, (.iload_n 0), 1), (1, (.iconst 4), 1), (2, (.invokestatic 457), 3), (5, (.ifCond .ne 14), 3), (8, (.new 87), 3), (11, .dup, 1), (12, (.ldc_w 464), 3), (15, (.invokespecial 91), 3), (18, .athrow, 1), (19, .return_, 1)]
set_option maxRecDepth 100000 in
theorem tX10_requireMarker_ok : kTab cX10_requireMarker tX10_requireMarker := kTab_of (by decide +kernel)
def tX10_requireGradeNumber : List (Nat × Instr × Nat) := [(0, (.iload_n 0), 1), (1, (.iconst 5), 1), (2, (.invokestatic 457), 3), (5, (.ifCond .ne 14), 3), (8, (.new 87), 3), (11, .dup, 1), (12, (.ldc_w 466), 3), (15, (.invokespecial 91), 3), (18, .athrow, 1), (19, .return_, 1)]
set_option maxRecDepth 100000 in
theorem tX10_requireGradeNumber_ok : kTab cX10_requireGradeNumber tX10_requireGradeNumber := kTab_of (by decide +kernel)
def tX10_requireScript : List (Nat × Instr × Nat) := [(0, (.iload_n 0), 1), (1, (.invokestatic 257), 3), (4, (.iload_n 1), 1), (5, (.invokestatic 57), 3), (8, .return_, 1)]
set_option maxRecDepth 100000 in
theorem tX10_requireScript_ok : kTab cX10_requireScript tX10_requireScript := kTab_of (by decide +kernel)
def tX10_requireNotNegative : List (Nat × Instr × Nat) := [(0, (.iload_n 0), 1), (1, (.ifCond .ge 14), 3), (4, (.new 178), 3), (7, .dup, 1), (8, (.ldc_w 468), 3), (11, (.invokespecial 182), 3), (14, .athrow, 1), (15, .return_, 1)]
set_option maxRecDepth 100000 in
theorem tX10_requireNotNegative_ok : kTab cX10_requireNotNegative tX10_requireNotNegative := kTab_of (by decide +kernel)
def tX10_requireRange : List (Nat × Instr × Nat) := [(0, (.iload_n 0), 1), (1, (.iload_n 1), 1), (2, (.if_icmp .lt 8), 3), (5, (.iload_n 0), 1), (6, (.iload_n 2), 1), (7, (.if_icmp .le 14), 3), (10, (.new 178), 3), (13, .dup, 1), (14, (.ldc_w 470), 3), (17, (.invokespecial 182), 3), (20, .athrow, 1), (21, .return_, 1)]
set_option maxRecDepth 100000 in
theorem tX10_requireRange_ok : kTab cX10_requireRange tX10_requireRange := kTab_of (by decide +kernel)
def tX10_requireUnpublished : List (Nat × Instr × Nat) := [(0, (.aload_n 0), 1), (1, (.getfield 12), 3), (4, (.getfield 367), 3), (7, (.ifCond .eq 14), 3), (10, (.new 155), 3), (13, .dup, 1), (14, (.ldc_w 371), 3), (17, (.invokespecial 159), 3), (20, .athrow, 1), (21, .return_, 1)]
set_option maxRecDepth 100000 in
theorem tX10_requireUnpublished_ok : kTab cX10_requireUnpublished tX10_requireUnpublished := kTab_of (by decide +kernel)
def tX10_requireGrade : List (Nat × Instr × Nat) := [(0, (.aload_n 0), 1), (1, (.getfield 12), 3), (4, (.iload_n 1), 1), (5, (.invokevirtual 330), 3), (8, (.ifCond .ne 14), 3), (11, (.new 209), 3), (14, .dup, 1), (15, (.ldc_w 472), 3), (18, (.invokespecial 213), 3), (21, .athrow, 1), (22, .return_, 1)]
set_option maxRecDepth 100000 in
theorem tX10_requireGrade_ok : kTab cX10_requireGrade tX10_requireGrade := kTab_of (by decide +kernel)
def tX10_refusesEntry : List (Nat × Instr × Nat) := [(0, (.iload 4), 2), (2, (.iconst 5), 1), (3, .irem, 1), (4, (.istore 6), 2), (6, (.aload_n 1), 1), (7, (.getfield 367), 3), (10, (.ifCond .eq 16), 3), (13, (.aload_n 0), 1), (14, (.getfield 39), 3), (17, (.iconst 1), 1), (18, (.iload_n 2), 1), (19, (.bipush 11), 2), (21, (.iconst 0), 1), (22, (.invokevirtual 474), 3), (25, .ireturn, 1), (26, (.iload 5), 2), (28, (.aload_n 1), 1), (29, (.getfield 79), 3), (32, (.iload 6), 2), (34, .iaload, 1), (35, (.if_icmp .le 22), 3), (38, (.aload_n 0), 1), (39, (.getfield 39), 3), (42, (.iconst 1), 1), (43, (.iload_n 2), 1), (44, (.bipush 12), 2), (46, (.aload_n 1), 1), (47, (.getfield 79), 3), (50, (.iload 6), 2), (52, .iaload, 1), (53, (.invokevirtual 474), 3), (56, .ireturn, 1), (57, (.aload_n 1), 1), (58, (.getfield 203), 3), (61, (.iload_n 3), 1), (62, (.iload 4), 2), (64, (.invokevirtual 477), 3), (67, (.ifCond .eq 16), 3), (70, (.aload_n 0), 1), (71, (.getfield 39), 3), (74, (.iconst 1), 1), (75, (.iload_n 2), 1), (76, (.bipush 13), 2), (78, (.iload_n 3), 1), (79, (.invokevirtual 474), 3), (82, .ireturn, 1), (83, (.aload_n 1), 1), (84, (.getfield 203), 3), (87, (.getfield 206), 3), (90, (.iload 4), 2), (92, .iaload, 1), (93, (.iconst 3), 1), (94, (.if_icmp .lt 16), 3), (97, (.aload_n 0), 1), (98, (.getfield 39), 3), (101, (.iconst 1), 1), (102, (.iload_n 2), 1), (103, (.bipush 14), 2), (105, (.iconst 3), 1), (106, (.invokevirtual 474), 3), (109, .ireturn, 1), (110, (.aload_n 1), 1), (111, (.iload 4), 2), (113, (.invokevirtual 480), 3), (116, (.ifCond .eq 17), 3), (119, (.aload_n 0), 1), (120, (.getfield 39), 3), (123, (.iconst 1), 1), (124, (.iload_n 2), 1), (125, (.bipush 15), 2), (127, (.iload 6), 2), (129, (.invokevirtual 474), 3), (132, .ireturn, 1), (133, (.iconst 0), 1), (134, .ireturn, 1)]
set_option maxRecDepth 100000 in
theorem tX10_refusesEntry_ok : kTab cX10_refusesEntry tX10_refusesEntry := kTab_of (by decide +kernel)
def tX10_refusesPublication : List (Nat × Instr × Nat) := [(0, (.iconst 0), 1), (1, (.istore_n 1), 1), (2, (.iload_n 1), 1), (3, (.bipush 8), 2), (5, (.if_icmp .ge 85), 3), (8, (.iconst 0), 1), (9, (.istore_n 2), 1), (10, (.iload_n 2), 1), (11, (.iconst 5), 1), (12, (.if_icmp .ge 72), 3), (15, (.aload_n 0), 1), (16, (.getfield 12), 3), (19, (.iload_n 1), 1), (20, (.invokevirtual 330), 3), (23, (.ifCond .eq 61), 3), (26, (.aload_n 0), 1), (27, (.getfield 12), 3), (30, (.iload_n 1), 1), (31, (.iload_n 2), 1), (32, (.invokestatic 148), 3), (35, (.invokevirtual 231), 3), (38, (.istore_n 3), 1), (39, (.iload_n 3), 1), (40, (.ifCond .eq 38), 3), (43, (.aload_n 0), 1), (44, (.getfield 12), 3), (47, (.iload_n 1), 1), (48, (.iload_n 2), 1), (49, (.invokevirtual 243), 3), (52, (.ifCond .ne 26), 3), (55, (.aload_n 0), 1), (56, (.getfield 39), 3), (59, (.iconst 2), 1), (60, (.iload_n 1), 1), (61, (.iload_n 3), 1), (62, (.iconst 1), 1), (63, (.if_icmp .ne 8), 3), (66, (.bipush 21), 2), (68, (.goto 5), 3), (71, (.bipush 22), 2), (73, (.iload_n 2), 1), (74, (.invokevirtual 474), 3), (77, .ireturn, 1), (78, (.iinc 2 1), 3), (81, (.goto (-71)), 3), (84, (.iinc 1 1), 3), (87, (.goto (-85)), 3), (90, (.iconst 0), 1), (91, .ireturn, 1)]
set_option maxRecDepth 100000 in
theorem tX10_refusesPublication_ok : kTab cX10_refusesPublication tX10_refusesPublication := kTab_of (by decide +kernel)
def tX10_refusesAppeal : List (Nat × Instr × Nat) := [(0, (.iload_n 1), 1), (1, (.iconst 0), 1), (2, (.invokestatic 148), 3), (5, (.istore_n 3), 1), (6, (.aload_n 0), 1), (7, (.getfield 12), 3), (10, (.getfield 367), 3), (13, (.ifCond .ne 16), 3), (16, (.aload_n 0), 1), (17, (.getfield 39), 3), (20, (.iconst 3), 1), (21, (.iload_n 1), 1), (22, (.bipush 31), 2), (24, (.iconst 0), 1), (25, (.invokevirtual 474), 3), (28, .ireturn, 1), (29, (.aload_n 0), 1), (30, (.getfield 12), 3), (33, (.iload_n 1), 1), (34, (.invokevirtual 330), 3), (37, (.ifCond .ne 16), 3), (40, (.aload_n 0), 1), (41, (.getfield 39), 3), (44, (.iconst 3), 1), (45, (.iload_n 1), 1), (46, (.bipush 32), 2), (48, (.iload_n 1), 1), (49, (.invokevirtual 474), 3), (52, .ireturn, 1), (53, (.aload_n 0), 1), (54, (.getfield 12), 3), (57, (.getfield 234), 3), (60, (.getfield 238), 3), (63, (.iload_n 3), 1), (64, (.iload_n 2), 1), (65, .iadd, 1), (66, .iaload, 1), (67, (.ifCond .eq 16), 3), (70, (.aload_n 0), 1), (71, (.getfield 39), 3), (74, (.iconst 3), 1), (75, (.iload_n 1), 1), (76, (.bipush 33), 2), (78, (.iload_n 2), 1), (79, (.invokevirtual 474), 3), (82, .ireturn, 1), (83, (.iconst 5), 1), (84, (.aload_n 0), 1), (85, (.getfield 12), 3), (88, (.getfield 234), 3), (91, (.iconst 0), 1), (92, (.iload_n 3), 1), (93, (.iload_n 3), 1), (94, (.iconst 5), 1), (95, .iadd, 1), (96, (.invokevirtual 425), 3), (99, .isub, 1), (100, (.iconst 3), 1), (101, (.if_icmp .lt 16), 3), (104, (.aload_n 0), 1), (105, (.getfield 39), 3), (108, (.iconst 3), 1), (109, (.iload_n 1), 1), (110, (.bipush 34), 2), (112, (.iconst 3), 1), (113, (.invokevirtual 474), 3), (116, .ireturn, 1), (117, (.iconst 0), 1), (118, .ireturn, 1)]
set_option maxRecDepth 100000 in
theorem tX10_refusesAppeal_ok : kTab cX10_refusesAppeal tX10_refusesAppeal := kTab_of (by decide +kernel)
def tX10_refusesRemark : List (Nat × Instr × Nat) := [(0, (.iload_n 2), 1), (1, (.iload_n 3), 1), (2, (.invokestatic 148), 3), (5, (.istore 5), 2), (7, (.aload_n 0), 1), (8, (.getfield 12), 3), (11, (.getfield 234), 3), (14, (.getfield 238), 3), (17, (.iload 5), 2), (19, .iaload, 1), (20, (.iconst 1), 1), (21, (.if_icmp .eq 16), 3), (24, (.aload_n 0), 1), (25, (.getfield 39), 3), (28, (.iconst 4), 1), (29, (.iload_n 2), 1), (30, (.bipush 41), 2), (32, (.iload_n 3), 1), (33, (.invokevirtual 474), 3), (36, .ireturn, 1), (37, (.iload 4), 2), (39, (.aload_n 0), 1), (40, (.getfield 12), 3), (43, (.getfield 79), 3), (46, (.iload_n 3), 1), (47, .iaload, 1), (48, (.if_icmp .le 24), 3), (51, (.aload_n 0), 1), (52, (.getfield 39), 3), (55, (.iconst 4), 1), (56, (.iload_n 2), 1), (57, (.bipush 42), 2), (59, (.aload_n 0), 1), (60, (.getfield 12), 3), (63, (.getfield 79), 3), (66, (.iload_n 3), 1), (67, .iaload, 1), (68, (.invokevirtual 474), 3), (71, .ireturn, 1), (72, (.aload_n 0), 1), (73, (.getfield 12), 3), (76, (.getfield 203), 3), (79, (.iload_n 1), 1), (80, (.iload 5), 2), (82, (.invokevirtual 477), 3), (85, (.ifCond .eq 16), 3), (88, (.aload_n 0), 1), (89, (.getfield 39), 3), (92, (.iconst 4), 1), (93, (.iload_n 2), 1), (94, (.bipush 43), 2), (96, (.iload_n 1), 1), (97, (.invokevirtual 474), 3), (100, .ireturn, 1), (101, (.iconst 0), 1), (102, .ireturn, 1)]
set_option maxRecDepth 100000 in
theorem tX10_refusesRemark_ok : kTab cX10_refusesRemark tX10_refusesRemark := kTab_of (by decide +kernel)
def tX10_rankOf : List (Nat × Instr × Nat) := [(0, (.iconst 0), 1), (1, (.istore_n 2), 1), (2, (.iconst 0), 1), (3, (.istore_n 3), 1), (4, (.iload_n 3), 1), (5, (.bipush 8), 2), (7, (.if_icmp .ge 60), 3), (10, (.iload_n 3), 1), (11, (.iload_n 1), 1), (12, (.if_icmp .eq 49), 3), (15, (.aload_n 0), 1), (16, (.getfield 12), 3), (19, (.iload_n 3), 1), (20, (.invokevirtual 330), 3), (23, (.ifCond .eq 38), 3), (26, (.aload_n 0), 1), (27, (.getfield 45), 3), (30, (.iload_n 3), 1), (31, .aaload, 1), (32, (.aload_n 0), 1), (33, (.getfield 45), 3), (36, (.iload_n 1), 1), (37, .aaload, 1), (38, (.invokevirtual 483), 3), (41, (.istore 4), 2), (43, (.iload 4), 2), (45, (.ifCond .gt 13), 3), (48, (.iload 4), 2), (50, (.ifCond .ne 11), 3), (53, (.iload_n 3), 1), (54, (.iload_n 1), 1), (55, (.if_icmp .ge 6), 3), (58, (.iinc 2 1), 3), (61, (.iinc 3 1), 3), (64, (.goto (-60)), 3), (67, (.iload_n 2), 1), (68, .ireturn, 1)]
set_option maxRecDepth 100000 in
theorem tX10_rankOf_ok : kTab cX10_rankOf tX10_rankOf := kTab_of (by decide +kernel)
def tX10_isBelow : List (Nat × Instr × Nat) := [(0, (.iload_n 0), 1), (1, (.ifCond .lt 12), 3), (4, (.iload_n 0), 1), (5, (.iload_n 1), 1), (6, (.if_icmp .ge 7), 3), (9, (.iconst 1), 1), (10, (.goto 4), 3), (13, (.iconst 0), 1), (14, .ireturn, 1)]
set_option maxRecDepth 100000 in
theorem tX10_isBelow_ok : kTab cX10_isBelow tX10_isBelow := kTab_of (by decide +kernel)
def tX10_scriptOf : List (Nat × Instr × Nat) := [(0, (.iload_n 0), 1), (1, (.iconst 5), 1), (2, .imul, 1), (3, (.iload_n 1), 1), (4, .iadd, 1), (5, .ireturn, 1)]
set_option maxRecDepth 100000 in
theorem tX10_scriptOf_ok : kTab cX10_scriptOf tX10_scriptOf := kTab_of (by decide +kernel)
def tX10_questionOf : List (Nat × Instr × Nat) := [(0, (.iload_n 0), 1), (1, (.iconst 3), 1), (2, .idiv, 1), (3, (.iconst 5), 1), (4, .irem, 1), (5, .ireturn, 1)]
set_option maxRecDepth 100000 in
theorem tX10_questionOf_ok : kTab cX10_questionOf tX10_questionOf := kTab_of (by decide +kernel)
def tX10_sumOf : List (Nat × Instr × Nat) := [(0, (.iconst 0), 1), (1, (.istore_n 1), 1), (2, (.iconst 0), 1), (3, (.istore_n 2), 1), (4, (.iload_n 2), 1), (5, (.aload_n 0), 1), (6, .arraylength, 1), (7, (.if_icmp .ge 15), 3), (10, (.iload_n 1), 1), (11, (.aload_n 0), 1), (12, (.iload_n 2), 1), (13, .iaload, 1), (14, .iadd, 1), (15, (.istore_n 1), 1), (16, (.iinc 2 1), 3), (19, (.goto (-15)), 3), (22, (.iload_n 1), 1), (23, .ireturn, 1)]
set_option maxRecDepth 100000 in
theorem tX10_sumOf_ok : kTab cX10_sumOf tX10_sumOf := kTab_of (by decide +kernel)
def tX10_copyRow : List (Nat × Instr × Nat) := [(0, (.aload_n 0), 1), (1, (.iconst 0), 1), (2, (.aload_n 1), 1), (3, (.iconst 0), 1), (4, (.aload_n 0), 1), (5, .arraylength, 1), (6, (.aload_n 1), 1), (7, .arraylength, 1), (8, (.invokestatic 289), 3), (11, (.invokestatic 487), 3), (14, .return_, 1)]
set_option maxRecDepth 100000 in
theorem tX10_copyRow_ok : kTab cX10_copyRow tX10_copyRow := kTab_of (by decide +kernel)
def tX10_distanceOf : List (Nat × Instr × Nat) := [(0, (.iload_n 0), 1), (1, (.iload_n 1), 1), (2, (.if_icmp .le 9), 3), (5, (.iload_n 0), 1), (6, (.iload_n 1), 1), (7, .isub, 1), (8, (.goto 6), 3), (11, (.iload_n 1), 1), (12, (.iload_n 0), 1), (13, .isub, 1), (14, .ireturn, 1)]
set_option maxRecDepth 100000 in
theorem tX10_distanceOf_ok : kTab cX10_distanceOf tX10_distanceOf := kTab_of (by decide +kernel)
def tX10_greatestCommonDivisor : List (Nat × Instr × Nat) := [(0, (.lload_n 0), 1), (1, (.lstore 4), 2), (3, (.lload_n 2), 1), (4, (.lstore 6), 2), (6, (.iconst 0), 1), (7, (.istore 8), 2), (9, (.iload 8), 2), (11, (.sipush 200), 3), (14, (.if_icmp .ge 31), 3), (17, (.lload 6), 2), (19, (.lconst 0), 1), (20, .lcmp, 1), (21, (.ifCond .eq 24), 3), (24, (.lload 4), 2), (26, (.lload 6), 2), (28, .lrem, 1), (29, (.lstore 9), 2), (31, (.lload 6), 2), (33, (.lstore 4), 2), (35, (.lload 9), 2), (37, (.lstore 6), 2), (39, (.iinc 8 1), 3), (42, (.goto (-33)), 3), (45, (.lload 4), 2), (47, .lreturn, 1)]
set_option maxRecDepth 100000 in
theorem tX10_greatestCommonDivisor_ok : kTab cX10_greatestCommonDivisor tX10_greatestCommonDivisor := kTab_of (by decide +kernel)
def tX10_halfWithNearer : List (Nat × Instr × Nat) := [(0, (.iload_n 0), 1), (1, (.iload_n 1), 1), (2, (.invokestatic 493), 3), (5, (.istore_n 3), 1), (6, (.iload_n 0), 1), (7, (.iload_n 2), 1), (8, (.invokestatic 493), 3), (11, (.istore 4), 2), (13, (.iload_n 3), 1), (14, (.iload 4), 2), (16, (.if_icmp .ge 7), 3), (19, (.iload_n 1), 1), (20, (.goto 4), 3), (23, (.iload_n 2), 1), (24, (.istore 5), 2), (26, (.iload_n 3), 1), (27, (.iload 4), 2), (29, (.if_icmp .ne 10), 3), (32, (.iload_n 1), 1), (33, (.iload_n 2), 1), (34, (.invokestatic 496), 3), (37, (.istore 5), 2), (39, (.iload_n 0), 1), (40, (.iload 5), 2), (42, .iadd, 1), (43, (.iconst 2), 1), (44, .idiv, 1), (45, .ireturn, 1)]
set_option maxRecDepth 100000 in
theorem tX10_halfWithNearer_ok : kTab cX10_halfWithNearer tX10_halfWithNearer := kTab_of (by decide +kernel)
def tX10_doubleBits : List (Nat × Instr × Nat) := [(0, (.dload_n 0), 1), (1, (.dconst 0), 1), (2, (.dcmp .l), 1), (3, (.ifCond .gt 5), 3), (6, (.lconst 0), 1), (7, .lreturn, 1), (8, (.dload_n 0), 1), (9, (.dstore_n 2), 1), (10, (.ldc2_w 499), 3), (13, (.lstore 4), 2), (15, (.iconst 0), 1), (16, (.istore 6), 2), (18, (.iload 6), 2), (20, (.sipush 1023), 3), (23, (.if_icmp .ge 29), 3), (26, (.dload_n 2), 1), (27, (.ldc2_w 501), 3), (30, (.dcmp .l), 1), (31, (.ifCond .lt 21), 3), (34, (.dload_n 2), 1), (35, (.ldc2_w 501), 3), (38, .ddiv, 1), (39, (.dstore_n 2), 1), (40, (.lload 4), 2), (42, (.lconst 1), 1), (43, .ladd, 1), (44, (.lstore 4), 2), (46, (.iinc 6 1), 3), (49, (.goto (-31)), 3), (52, (.iconst 0), 1), (53, (.istore 6), 2), (55, (.iload 6), 2), (57, (.sipush 1022), 3), (60, (.if_icmp .ge 27), 3), (63, (.dload_n 2), 1), (64, (.dconst 1), 1), (65, (.dcmp .g), 1), (66, (.ifCond .ge 21), 3), (69, (.dload_n 2), 1), (70, (.ldc2_w 501), 3), (73, .dmul, 1), (74, (.dstore_n 2), 1), (75, (.lload 4), 2), (77, (.lconst 1), 1), (78, .lsub, 1), (79, (.lstore 4), 2), (81, (.iinc 6 1), 3), (84, (.goto (-29)), 3), (87, (.lload 4), 2), (89, (.bipush 52), 2), (91, .lshl, 1), (92, (.dload_n 2), 1), (93, (.dconst 1), 1), (94, .dsub, 1), (95, (.ldc2_w 503), 3), (98, .dmul, 1), (99, .d2l, 1), (100, .lor, 1), (101, .lreturn, 1)]
set_option maxRecDepth 100000 in
theorem tX10_doubleBits_ok : kTab cX10_doubleBits tX10_doubleBits := kTab_of (by decide +kernel)
def tX10_floatBits : List (Nat × Instr × Nat) := [(0, (.fload_n 0), 1), (1, .f2d, 1), (2, (.invokestatic 354), 3), (5, (.lstore_n 1), 1), (6, (.lload_n 1), 1), (7, (.lconst 0), 1), (8, .lcmp, 1), (9, (.ifCond .ne 7), 3), (12, (.iconst 0), 1), (13, (.goto 12), 3), (16, (.lload_n 1), 1), (17, (.bipush 29), 2), (19, .lushr, 1), (20, (.ldc2_w 505), 3), (23, .lsub, 1), (24, .l2i, 1), (25, .ireturn, 1)]
set_option maxRecDepth 100000 in
theorem tX10_floatBits_ok : kTab cX10_floatBits tX10_floatBits := kTab_of (by decide +kernel)
def tX11_init : List (Nat × Instr × Nat) := [(0, (.aload_n 0), 1), (1, (.invokespecial 1), 3), (4, (.aload_n 0), 1), (5, (.sipush 779), 3), (8, (.newarray .int), 2), (10, (.putfield 7), 3), (13, (.aload_n 0), 1), (14, (.sipush 779), 3), (17, (.newarray .int), 2), (19, (.putfield 13), 3), (22, (.aload_n 0), 1), (23, (.sipush 779), 3), (26, (.newarray .int), 2), (28, (.putfield 16), 3), (31, (.aload_n 0), 1), (32, (.sipush 4674), 3), (35, (.newarray .int), 2), (37, (.putfield 19), 3), (40, (.aload_n 0), 1), (41, (.bipush 60), 2), (43, (.newarray .int), 2), (45, (.putfield 22), 3), (48, (.aload_n 0), 1), (49, (.iconst (-1)), 1), (50, (.putfield 25), 3), (53, (.aload_n 0), 1), (54, (.iconst 4), 1), (55, (.newarray .int), 2), (57, (.putfield 29), 3), (60, (.aload_n 0), 1), (61, (.iconst 3), 1), (62, (.newarray .int), 2), (64, (.putfield 32), 3), (67, (.aload_n 0), 1), (68, (.iconst 5), 1), (69, (.newarray .int), 2), (71, (.putfield 35), 3), (74, (.aload_n 0), 1), (75, (.bipush 8), 2), (77, (.newarray .int), 2), (79, (.putfield 38), 3), (82, (.aload_n 0), 1), (83, (.bipush 8), 2), (85, (.newarray .long), 2), (87, (.putfield 41), 3), (90, (.aload_n 0), 1), (91, (.bipush 8), 2), (93, (.newarray .long), 2), (95, (.putfield 45), 3), (98, (.iconst 0), 1), (99, (.istore_n 1), 1), (100, (.iload_n 1), 1), (101, (.iconst 5), 1), (102, (.if_icmp .ge 19), 3), (105, (.aload_n 0), 1), (106, (.getfield 7), 3), (109, (.iconst 0), 1), (110, (.iload_n 1), 1), (111, .iadd, 1), (112, (.bipush 20), 2), (114, .iastore, 1), (115, (.iinc 1 1), 3), (118, (.goto (-18)), 3), (121, (.aload_n 0), 1), (122, (.getfield 7), 3), (125, (.iconst 5), 1), (126, (.iconst 1), 1), (127, .iastore, 1), (128, (.aload_n 0), 1), (129, (.getfield 7), 3), (132, (.bipush 6), 2), (134, (.bipush 6), 2), (136, .iastore, 1), (137, (.aload_n 0), 1), (138, (.getfield 7), 3), (141, (.bipush 7), 2), (143, (.iconst 3), 1), (144, .iastore, 1), (145, (.aload_n 0), 1), (146, (.getfield 7), 3), (149, (.bipush 8), 2), (151, (.iconst 2), 1), (152, .iastore, 1), (153, (.aload_n 0), 1), (154, (.getfield 7), 3), (157, (.bipush 9), 2), (159, (.bipush 30), 2), (161, .iastore, 1), (162, (.iconst 0), 1), (163, (.istore_n 1), 1), (164, (.iload_n 1), 1), (165, (.iconst 4), 1), (166, (.if_icmp .ge 25), 3), (169, (.aload_n 0), 1), (170, (.getfield 7), 3), (173, (.bipush 10), 2), (175, (.iload_n 1), 1), (176, .iadd, 1), (177, (.bipush 70), 2), (179, (.bipush 10), 2), (181, (.iload_n 1), 1), (182, .imul, 1), (183, .isub, 1), (184, .iastore, 1), (185, (.iinc 1 1), 3), (188, (.goto (-24)), 3), (191, .return_, 1)]
set_option maxRecDepth 100000 in
theorem tX11_init_ok : kTab cX11_init tX11_init := kTab_of (by decide +kernel)
def tX11_thrown : List (Nat × Instr × Nat) := [(0, (.aload_n 0), 1), (1, (.getfield 48), 3), (4, .ireturn, 1)]
set_option maxRecDepth 100000 in
theorem tX11_thrown_ok : kTab cX11_thrown tX11_thrown := kTab_of (by decide +kernel)
def tX11_fails : List (Nat × Instr × Nat) := [(0, (.aload_n 0), 1), (1, (.iload_n 1), 1), (2, (.putfield 48), 3), (5, (.iconst 0), 1), (6, .ireturn, 1)]
set_option maxRecDepth 100000 in
theorem tX11_fails_ok : kTab cX11_fails tX11_fails := kTab_of (by decide +kernel)
def tX11_in : List (Nat × Instr × Nat) := [(0, (.iload_n 0), 1), (1, (.iload_n 1), 1), (2, (.if_icmp .lt 12), 3), (5, (.iload_n 0), 1), (6, (.iload_n 2), 1), (7, (.if_icmp .gt 7), 3), (10, (.iconst 1), 1), (11, (.goto 4), 3), (14, (.iconst 0), 1), (15, .ireturn, 1)]
set_option maxRecDepth 100000 in
theorem tX11_in_ok : kTab cX11_in tX11_in := kTab_of (by decide +kernel)
def tX11_isCandidate : List (Nat × Instr × Nat) := [(0, (.iload_n 0), 1), (1, (.iconst 0), 1), (2, (.bipush 7), 2), (4, (.invokestatic 51), 3), (7, .ireturn, 1)]
set_option maxRecDepth 100000 in
theorem tX11_isCandidate_ok : kTab cX11_isCandidate tX11_isCandidate := kTab_of (by decide +kernel)
def tX11_isQuestion : List (Nat × Instr × Nat) := [(0, (.iload_n 0), 1), (1, (.iconst 0), 1), (2, (.iconst 4), 1), (3, (.invokestatic 51), 3), (6, .ireturn, 1)]
set_option maxRecDepth 100000 in
theorem tX11_isQuestion_ok : kTab cX11_isQuestion tX11_isQuestion := kTab_of (by decide +kernel)
def tX11_isMarker : List (Nat × Instr × Nat) := [(0, (.iload_n 0), 1), (1, (.iconst 0), 1), (2, (.iconst 3), 1), (3, (.invokestatic 51), 3), (6, .ireturn, 1)]
set_option maxRecDepth 100000 in
theorem tX11_isMarker_ok : kTab cX11_isMarker tX11_isMarker := kTab_of (by decide +kernel)
def tX11_amount : List (Nat × Instr × Nat) := [(0, (.iload_n 0), 1), (1, (.ifCond .ge 8), 3), (4, (.iload_n 0), 1), (5, .ineg, 1), (6, (.goto 4), 3), (9, (.iload_n 0), 1), (10, .ireturn, 1)]
set_option maxRecDepth 100000 in
theorem tX11_amount_ok : kTab cX11_amount tX11_amount := kTab_of (by decide +kernel)
def tX11_setting : List (Nat × Instr × Nat) := [(0, (.aload_n 0), 1), (1, (.getfield 7), 3), (4, (.iconst 5), 1), (5, (.iload_n 1), 1), (6, .iadd, 1), (7, .iaload, 1), (8, .ireturn, 1)]
set_option maxRecDepth 100000 in
theorem tX11_setting_ok : kTab cX11_setting tX11_setting := kTab_of (by decide +kernel)
def tX11_isPublished : List (Nat × Instr × Nat) := [(0, (.aload_n 0), 1), (1, (.getfield 7), 3), (4, (.sipush 652), 3), (7, .iaload, 1), (8, (.iconst 1), 1), (9, (.if_icmp .ne 7), 3), (12, (.iconst 1), 1), (13, (.goto 4), 3), (16, (.iconst 0), 1), (17, .ireturn, 1)]
set_option maxRecDepth 100000 in
theorem tX11_isPublished_ok : kTab cX11_isPublished tX11_isPublished := kTab_of (by decide +kernel)
def tX11_full : List (Nat × Instr × Nat) := [(0, (.iconst 0), 1), (1, (.istore_n 1), 1), (2, (.iconst 0), 1), (3, (.istore_n 2), 1), (4, (.iload_n 2), 1), (5, (.iconst 5), 1), (6, (.if_icmp .ge 20), 3), (9, (.iload_n 1), 1), (10, (.aload_n 0), 1), (11, (.getfield 7), 3), (14, (.iconst 0), 1), (15, (.iload_n 2), 1), (16, .iadd, 1), (17, .iaload, 1), (18, .iadd, 1), (19, (.istore_n 1), 1), (20, (.iinc 2 1), 3), (23, (.goto (-19)), 3), (26, (.iload_n 1), 1), (27, .ireturn, 1)]
set_option maxRecDepth 100000 in
theorem tX11_full_ok : kTab cX11_full tX11_full := kTab_of (by decide +kernel)
def tX11_frames : List (Nat × Instr × Nat) := [(0, (.iconst 0), 1), (1, (.istore_n 1), 1), (2, (.iload_n 1), 1), (3, (.sipush 779), 3), (6, (.if_icmp .ge 21), 3), (9, (.aload_n 0), 1), (10, (.getfield 16), 3), (13, (.iload_n 1), 1), (14, (.aload_n 0), 1), (15, (.getfield 7), 3), (18, (.iload_n 1), 1), (19, .iaload, 1), (20, .iastore, 1), (21, (.iinc 1 1), 3), (24, (.goto (-22)), 3), (27, .return_, 1)]
set_option maxRecDepth 100000 in
theorem tX11_frames_ok : kTab cX11_frames tX11_frames := kTab_of (by decide +kernel)
def tX11_keeps : List (Nat × Instr × Nat) := [(0, (.aload_n 0), 1), (1, (.getfield 55), 3), (4, (.bipush 6), 2), (6, (.if_icmp .ne 37), 3), (9, (.iconst 0), 1), (10, (.istore_n 1), 1), (11, (.iload_n 1), 1), (12, (.sipush 3895), 3), (15, (.if_icmp .ge 25), 3), (18, (.aload_n 0), 1), (19, (.getfield 19), 3), (22, (.iload_n 1), 1), (23, (.aload_n 0), 1), (24, (.getfield 19), 3), (27, (.iload_n 1), 1), (28, (.sipush 779), 3), (31, .iadd, 1), (32, .iaload, 1), (33, .iastore, 1), (34, (.iinc 1 1), 3), (37, (.goto (-26)), 3), (40, (.goto 13), 3), (43, (.aload_n 0), 1), (44, .dup, 1), (45, (.getfield 55), 3), (48, (.iconst 1), 1), (49, .iadd, 1), (50, (.putfield 55), 3), (53, (.iconst 0), 1), (54, (.istore_n 1), 1), (55, (.iload_n 1), 1), (56, (.sipush 779), 3), (59, (.if_icmp .ge 32), 3), (62, (.aload_n 0), 1), (63, (.getfield 19), 3), (66, (.sipush 779), 3), (69, (.aload_n 0), 1), (70, (.getfield 55), 3), (73, (.iconst 1), 1), (74, .isub, 1), (75, .imul, 1), (76, (.iload_n 1), 1), (77, .iadd, 1), (78, (.aload_n 0), 1), (79, (.getfield 16), 3), (82, (.iload_n 1), 1), (83, .iaload, 1), (84, .iastore, 1), (85, (.iinc 1 1), 3), (88, (.goto (-33)), 3), (91, .return_, 1)]
set_option maxRecDepth 100000 in
theorem tX11_keeps_ok : kTab cX11_keeps tX11_keeps := kTab_of (by decide +kernel)
def tX11_changes : List (Nat × Instr × Nat) := [(0, (.aload_n 0), 1), (1, (.invokevirtual 58), 3), (4, (.aload_n 0), 1), (5, (.invokevirtual 61), 3), (8, .return_, 1)]
set_option maxRecDepth 100000 in
theorem tX11_changes_ok : kTab cX11_changes tX11_changes := kTab_of (by decide +kernel)
def tX11_markedAt : List (Nat × Instr × Nat) := [(0, (.bipush 44), 2), (2, (.bipush 25), 2), (4, (.iload_n 0), 1), (5, .imul, 1), (6, .iadd, 1), (7, (.iconst 5), 1), (8, (.iload_n 1), 1), (9, .imul, 1), (10, .iadd, 1), (11, (.iload_n 2), 1), (12, .iadd, 1), (13, .ireturn, 1)]
set_option maxRecDepth 100000 in
theorem tX11_markedAt_ok : kTab cX11_markedAt tX11_markedAt := kTab_of (by decide +kernel)
def tX11_deviation : List (Nat × Instr × Nat) := [(0, (.aload_n 0), 1), (1, (.getfield 7), 3), (4, (.iload_n 1), 1), (5, (.iload_n 2), 1), (6, (.iload_n 3), 1), (7, (.invokestatic 64), 3), (10, .iaload, 1), (11, (.iconst 1), 1), (12, .isub, 1), (13, (.aload_n 0), 1), (14, (.getfield 7), 3), (17, (.bipush 19), 2), (19, (.iconst 5), 1), (20, (.iload_n 2), 1), (21, .imul, 1), (22, .iadd, 1), (23, (.iload_n 3), 1), (24, .iadd, 1), (25, .iaload, 1), (26, .isub, 1), (27, .ireturn, 1)]
set_option maxRecDepth 100000 in
theorem tX11_deviation_ok : kTab cX11_deviation tX11_deviation := kTab_of (by decide +kernel)
def tX11_hasMarked : List (Nat × Instr × Nat) := [(0, (.aload_n 0), 1), (1, (.getfield 7), 3), (4, (.iload_n 1), 1), (5, (.iload_n 2), 1), (6, (.iload_n 3), 1), (7, (.invokestatic 64), 3), (10, .iaload, 1), (11, (.ifCond .le 7), 3), (14, (.iconst 1), 1), (15, (.goto 4), 3), (18, (.iconst 0), 1), (19, .ireturn, 1)]
set_option maxRecDepth 100000 in
theorem tX11_hasMarked_ok : kTab cX11_hasMarked tX11_hasMarked := kTab_of (by decide +kernel)
def tX11_suspended : List (Nat × Instr × Nat) := [(0, (.iconst 0), 1), (1, (.istore_n 3), 1), (2, (.iconst 0), 1), (3, (.istore 4), 2), (5, (.iload 4), 2), (7, (.aload_n 0), 1), (8, (.getfield 7), 3), (11, (.bipush 14), 2), (13, (.iload_n 2), 1), (14, .iadd, 1), (15, .iaload, 1), (16, (.if_icmp .ge 49), 3), (19, (.iload_n 3), 1), (20, (.ifCond .ne 33), 3), (23, (.aload_n 0), 1), (24, (.iload_n 1), 1), (25, (.iload_n 2), 1), (26, (.iload 4), 2), (28, (.invokevirtual 68), 3), (31, (.ifCond .eq 26), 3), (34, (.aload_n 0), 1), (35, (.iload_n 1), 1), (36, (.iload_n 2), 1), (37, (.iload 4), 2), (39, (.invokevirtual 71), 3), (42, (.invokestatic 74), 3), (45, (.aload_n 0), 1), (46, (.iconst 1), 1), (47, (.invokevirtual 78), 3), (50, (.if_icmp .le 7), 3), (53, (.iconst 1), 1), (54, (.goto 4), 3), (57, (.iconst 0), 1), (58, (.istore_n 3), 1), (59, (.iinc 4 1), 3), (62, (.goto (-57)), 3), (65, (.iload_n 3), 1), (66, .ireturn, 1)]
set_option maxRecDepth 100000 in
theorem tX11_suspended_ok : kTab cX11_suspended tX11_suspended := kTab_of (by decide +kernel)
def tX11_corrects : List (Nat × Instr × Nat) := [(0, (.iconst 0), 1), (1, (.istore_n 3), 1), (2, (.iconst 0), 1), (3, (.istore 4), 2), (5, (.iconst 0), 1), (6, (.istore 5), 2), (8, (.iload 5), 2), (10, (.aload_n 0), 1), (11, (.getfield 7), 3), (14, (.bipush 14), 2), (16, (.iload_n 2), 1), (17, .iadd, 1), (18, .iaload, 1), (19, (.if_icmp .ge 56), 3), (22, (.iload_n 3), 1), (23, (.aload_n 0), 1), (24, (.iload_n 1), 1), (25, (.iload_n 2), 1), (26, (.iload 5), 2), (28, (.invokevirtual 68), 3), (31, (.ifCond .eq 7), 3), (34, (.iconst 1), 1), (35, (.goto 4), 3), (38, (.iconst 0), 1), (39, .iadd, 1), (40, (.istore_n 3), 1), (41, (.iload 4), 2), (43, (.aload_n 0), 1), (44, (.iload_n 1), 1), (45, (.iload_n 2), 1), (46, (.iload 5), 2), (48, (.invokevirtual 68), 3), (51, (.ifCond .eq 14), 3), (54, (.aload_n 0), 1), (55, (.iload_n 1), 1), (56, (.iload_n 2), 1), (57, (.iload 5), 2), (59, (.invokevirtual 71), 3), (62, (.goto 4), 3), (65, (.iconst 0), 1), (66, .iadd, 1), (67, (.istore 4), 2), (69, (.iinc 5 1), 3), (72, (.goto (-64)), 3), (75, (.iload_n 3), 1), (76, (.ifCond .eq 18), 3), (79, (.iload 4), 2), (81, (.invokestatic 74), 3), (84, (.iload_n 3), 1), (85, (.aload_n 0), 1), (86, (.iconst 0), 1), (87, (.invokevirtual 78), 3), (90, .imul, 1), (91, (.if_icmp .gt 7), 3), (94, (.iconst 0), 1), (95, (.goto 11), 3), (98, (.iload 4), 2), (100, .ineg, 1), (101, (.bipush 120), 2), (103, (.iload_n 3), 1), (104, .idiv, 1), (105, .imul, 1), (106, .ireturn, 1)]
set_option maxRecDepth 100000 in
theorem tX11_corrects_ok : kTab cX11_corrects tX11_corrects := kTab_of (by decide +kernel)
def tX11_part : List (Nat × Instr × Nat) := [(0, (.aload_n 0), 1), (1, (.getfield 7), 3), (4, (.sipush 145), 3), (7, (.iconst 4), 1), (8, (.iload_n 1), 1), (9, .imul, 1), (10, .iadd, 1), (11, (.iload_n 2), 1), (12, .iadd, 1), (13, .iaload, 1), (14, .ireturn, 1)]
set_option maxRecDepth 100000 in
theorem tX11_part_ok : kTab cX11_part tX11_part := kTab_of (by decide +kernel)
def tX11_isOf : List (Nat × Instr × Nat) := [(0, (.aload_n 0), 1), (1, (.iload_n 1), 1), (2, (.iconst 1), 1), (3, (.invokevirtual 81), 3), (6, (.iload_n 2), 1), (7, (.if_icmp .ne 17), 3), (10, (.aload_n 0), 1), (11, (.iload_n 1), 1), (12, (.iconst 2), 1), (13, (.invokevirtual 81), 3), (16, (.iload_n 3), 1), (17, (.if_icmp .ne 7), 3), (20, (.iconst 1), 1), (21, (.goto 4), 3), (24, (.iconst 0), 1), (25, .ireturn, 1)]
set_option maxRecDepth 100000 in
theorem tX11_isOf_ok : kTab cX11_isOf tX11_isOf := kTab_of (by decide +kernel)
def tX11_entries : List (Nat × Instr × Nat) := [(0, (.iconst 0), 1), (1, (.istore_n 3), 1), (2, (.iconst 0), 1), (3, (.istore 4), 2), (5, (.iload 4), 2), (7, (.aload_n 0), 1), (8, (.getfield 7), 3), (11, (.sipush 144), 3), (14, .iaload, 1), (15, (.if_icmp .ge 28), 3), (18, (.iload_n 3), 1), (19, (.aload_n 0), 1), (20, (.iload 4), 2), (22, (.iload_n 1), 1), (23, (.iload_n 2), 1), (24, (.invokevirtual 85), 3), (27, (.ifCond .eq 7), 3), (30, (.iconst 1), 1), (31, (.goto 4), 3), (34, (.iconst 0), 1), (35, .iadd, 1), (36, (.istore_n 3), 1), (37, (.iinc 4 1), 3), (40, (.goto (-35)), 3), (43, (.iload_n 3), 1), (44, .ireturn, 1)]
set_option maxRecDepth 100000 in
theorem tX11_entries_ok : kTab cX11_entries tX11_entries := kTab_of (by decide +kernel)
def tX11_entryOf : List (Nat × Instr × Nat) := [(0, (.iload_n 3), 1), (1, (.istore 4), 2), (3, (.iconst 0), 1), (4, (.istore 5), 2), (6, (.iload 5), 2), (8, (.aload_n 0), 1), (9, (.getfield 7), 3), (12, (.sipush 144), 3), (15, .iaload, 1), (16, (.if_icmp .ge 31), 3), (19, (.aload_n 0), 1), (20, (.iload 5), 2), (22, (.iload_n 1), 1), (23, (.iload_n 2), 1), (24, (.invokevirtual 85), 3), (27, (.ifCond .eq 14), 3), (30, (.iload 4), 2), (32, (.ifCond .ne 6), 3), (35, (.iload 5), 2), (37, .ireturn, 1), (38, (.iinc 4 (-1)), 3), (41, (.iinc 5 1), 3), (44, (.goto (-38)), 3), (47, (.iconst (-1)), 1), (48, .ireturn, 1)]
set_option maxRecDepth 100000 in
theorem tX11_entryOf_ok : kTab cX11_entryOf tX11_entryOf := kTab_of (by decide +kernel)
def tX11_isValid : List (Nat × Instr × Nat) := [(0, (.aload_n 0), 1), (1, (.aload_n 0), 1), (2, (.iload_n 1), 1), (3, (.iconst 0), 1), (4, (.invokevirtual 81), 3), (7, (.aload_n 0), 1), (8, (.iload_n 1), 1), (9, (.iconst 2), 1), (10, (.invokevirtual 81), 3), (13, (.invokevirtual 88), 3), (16, (.ifCond .ne 7), 3), (19, (.iconst 1), 1), (20, (.goto 4), 3), (23, (.iconst 0), 1), (24, .ireturn, 1)]
set_option maxRecDepth 100000 in
theorem tX11_isValid_ok : kTab cX11_isValid tX11_isValid := kTab_of (by decide +kernel)
def tX11_value : List (Nat × Instr × Nat) := [(0, (.aload_n 0), 1), (1, (.iload_n 1), 1), (2, (.iconst 2), 1), (3, (.invokevirtual 81), 3), (6, (.istore_n 2), 1), (7, (.aload_n 0), 1), (8, (.iload_n 1), 1), (9, (.iconst 3), 1), (10, (.invokevirtual 81), 3), (13, (.bipush 120), 2), (15, .imul, 1), (16, (.aload_n 0), 1), (17, (.aload_n 0), 1), (18, (.iload_n 1), 1), (19, (.iconst 0), 1), (20, (.invokevirtual 81), 3), (23, (.iload_n 2), 1), (24, (.invokevirtual 92), 3), (27, .iadd, 1), (28, (.istore_n 3), 1), (29, (.iload_n 3), 1), (30, (.ifCond .ge 7), 3), (33, (.iconst 0), 1), (34, (.goto 33), 3), (37, (.iload_n 3), 1), (38, (.aload_n 0), 1), (39, (.getfield 7), 3), (42, (.iconst 0), 1), (43, (.iload_n 2), 1), (44, .iadd, 1), (45, .iaload, 1), (46, (.bipush 120), 2), (48, .imul, 1), (49, (.if_icmp .le 17), 3), (52, (.aload_n 0), 1), (53, (.getfield 7), 3), (56, (.iconst 0), 1), (57, (.iload_n 2), 1), (58, .iadd, 1), (59, .iaload, 1), (60, (.bipush 120), 2), (62, .imul, 1), (63, (.goto 4), 3), (66, (.iload_n 3), 1), (67, .ireturn, 1)]
set_option maxRecDepth 100000 in
theorem tX11_value_ok : kTab cX11_value tX11_value := kTab_of (by decide +kernel)
def tX11_agree : List (Nat × Instr × Nat) := [(0, (.iload_n 1), 1), (1, (.iload_n 2), 1), (2, .isub, 1), (3, (.invokestatic 74), 3), (6, (.aload_n 0), 1), (7, (.iconst 2), 1), (8, (.invokevirtual 78), 3), (11, (.bipush 120), 2), (13, .imul, 1), (14, (.if_icmp .gt 7), 3), (17, (.iconst 1), 1), (18, (.goto 4), 3), (21, (.iconst 0), 1), (22, .ireturn, 1)]
set_option maxRecDepth 100000 in
theorem tX11_agree_ok : kTab cX11_agree tX11_agree := kTab_of (by decide +kernel)
def tX11_finds : List (Nat × Instr × Nat) := [(0, (.aload_n 0), 1), (1, (.iconst 0), 1), (2, (.putfield 95), 3), (5, (.iconst 0), 1), (6, (.istore_n 3), 1), (7, (.iload_n 3), 1), (8, (.aload_n 0), 1), (9, (.getfield 7), 3), (12, (.sipush 144), 3), (15, .iaload, 1), (16, (.if_icmp .ge 51), 3), (19, (.aload_n 0), 1), (20, (.iload_n 3), 1), (21, (.iload_n 1), 1), (22, (.iload_n 2), 1), (23, (.invokevirtual 85), 3), (26, (.ifCond .eq 35), 3), (29, (.aload_n 0), 1), (30, (.iload_n 3), 1), (31, (.invokevirtual 98), 3), (34, (.ifCond .eq 27), 3), (37, (.aload_n 0), 1), (38, (.getfield 32), 3), (41, (.aload_n 0), 1), (42, (.getfield 95), 3), (45, (.aload_n 0), 1), (46, (.iload_n 3), 1), (47, (.invokevirtual 102), 3), (50, .iastore, 1), (51, (.aload_n 0), 1), (52, .dup, 1), (53, (.getfield 95), 3), (56, (.iconst 1), 1), (57, .iadd, 1), (58, (.putfield 95), 3), (61, (.iinc 3 1), 3), (64, (.goto (-57)), 3), (67, .return_, 1)]
set_option maxRecDepth 100000 in
theorem tX11_finds_ok : kTab cX11_finds tX11_finds := kTab_of (by decide +kernel)
def tX11_appealPart : List (Nat × Instr × Nat) := [(0, (.aload_n 0), 1), (1, (.getfield 7), 3), (4, (.sipush 653), 3), (7, (.bipush 15), 2), (9, (.iload_n 1), 1), (10, .imul, 1), (11, .iadd, 1), (12, (.iconst 3), 1), (13, (.iload_n 2), 1), (14, .imul, 1), (15, .iadd, 1), (16, (.iload_n 3), 1), (17, .iadd, 1), (18, .iaload, 1), (19, .ireturn, 1)]
set_option maxRecDepth 100000 in
theorem tX11_appealPart_ok : kTab cX11_appealPart tX11_appealPart := kTab_of (by decide +kernel)
def tX11_state : List (Nat × Instr × Nat) := [(0, (.aload_n 0), 1), (1, (.iload_n 1), 1), (2, (.iload_n 2), 1), (3, (.iconst 0), 1), (4, (.invokevirtual 105), 3), (7, (.iconst 3), 1), (8, (.if_icmp .ne 5), 3), (11, (.iconst 0), 1), (12, .ireturn, 1), (13, (.aload_n 0), 1), (14, (.iload_n 1), 1), (15, (.iload_n 2), 1), (16, (.invokevirtual 108), 3), (19, (.aload_n 0), 1), (20, (.getfield 95), 3), (23, (.ifCond .ne 7), 3), (26, (.iconst 1), 1), (27, (.goto 35), 3), (30, (.aload_n 0), 1), (31, (.getfield 95), 3), (34, (.iconst 2), 1), (35, (.if_icmp .ne 26), 3), (38, (.aload_n 0), 1), (39, (.aload_n 0), 1), (40, (.getfield 32), 3), (43, (.iconst 0), 1), (44, .iaload, 1), (45, (.aload_n 0), 1), (46, (.getfield 32), 3), (49, (.iconst 1), 1), (50, .iaload, 1), (51, (.invokevirtual 112), 3), (54, (.ifCond .ne 7), 3), (57, (.iconst 2), 1), (58, (.goto 4), 3), (61, (.iconst 0), 1), (62, .ireturn, 1)]
set_option maxRecDepth 100000 in
theorem tX11_state_ok : kTab cX11_state tX11_state := kTab_of (by decide +kernel)
def tX11_settled : List (Nat × Instr × Nat) := [(0, (.aload_n 0), 1), (1, (.iload_n 1), 1), (2, (.iload_n 2), 1), (3, (.iconst 0), 1), (4, (.invokevirtual 105), 3), (7, (.iconst 3), 1), (8, (.if_icmp .ne 14), 3), (11, (.aload_n 0), 1), (12, (.iload_n 1), 1), (13, (.iload_n 2), 1), (14, (.iconst 2), 1), (15, (.invokevirtual 105), 3), (18, (.bipush 120), 2), (20, .imul, 1), (21, .ireturn, 1), (22, (.aload_n 0), 1), (23, (.iload_n 1), 1), (24, (.iload_n 2), 1), (25, (.invokevirtual 108), 3), (28, (.aload_n 0), 1), (29, (.getfield 95), 3), (32, (.ifCond .ne 5), 3), (35, (.iconst 0), 1), (36, .ireturn, 1), (37, (.aload_n 0), 1), (38, (.getfield 95), 3), (41, (.iconst 1), 1), (42, (.if_icmp .ne 10), 3), (45, (.aload_n 0), 1), (46, (.getfield 32), 3), (49, (.iconst 0), 1), (50, .iaload, 1), (51, .ireturn, 1), (52, (.aload_n 0), 1), (53, (.aload_n 0), 1), (54, (.getfield 32), 3), (57, (.iconst 0), 1), (58, .iaload, 1), (59, (.aload_n 0), 1), (60, (.getfield 32), 3), (63, (.iconst 1), 1), (64, .iaload, 1), (65, (.invokevirtual 112), 3), (68, (.ifCond .eq 19), 3), (71, (.aload_n 0), 1), (72, (.getfield 32), 3), (75, (.iconst 0), 1), (76, .iaload, 1), (77, (.aload_n 0), 1), (78, (.getfield 32), 3), (81, (.iconst 1), 1), (82, .iaload, 1), (83, .iadd, 1), (84, (.iconst 2), 1), (85, .idiv, 1), (86, .ireturn, 1), (87, (.aload_n 0), 1), (88, (.getfield 32), 3), (91, (.iconst 0), 1), (92, .iaload, 1), (93, (.aload_n 0), 1), (94, (.getfield 32), 3), (97, (.iconst 1), 1), (98, .iaload, 1), (99, (.if_icmp .ge 12), 3), (102, (.aload_n 0), 1), (103, (.getfield 32), 3), (106, (.iconst 0), 1), (107, .iaload, 1), (108, (.goto 9), 3), (111, (.aload_n 0), 1), (112, (.getfield 32), 3), (115, (.iconst 1), 1), (116, .iaload, 1), (117, (.istore_n 3), 1), (118, (.aload_n 0), 1), (119, (.getfield 32), 3), (122, (.iconst 0), 1), (123, .iaload, 1), (124, (.aload_n 0), 1), (125, (.getfield 32), 3), (128, (.iconst 1), 1), (129, .iaload, 1), (130, .iadd, 1), (131, (.iload_n 3), 1), (132, .isub, 1), (133, (.istore 4), 2), (135, (.aload_n 0), 1), (136, (.getfield 95), 3), (139, (.iconst 2), 1), (140, (.if_icmp .ne 5), 3), (143, (.iload_n 3), 1), (144, .ireturn, 1), (145, (.aload_n 0), 1), (146, (.getfield 32), 3), (149, (.iconst 2), 1), (150, .iaload, 1), (151, (.aload_n 0), 1), (152, (.getfield 32), 3), (155, (.iconst 2), 1), (156, .iaload, 1), (157, (.iload 4), 2), (159, .isub, 1), (160, (.invokestatic 74), 3), (163, (.aload_n 0), 1), (164, (.getfield 32), 3), (167, (.iconst 2), 1), (168, .iaload, 1), (169, (.iload_n 3), 1), (170, .isub, 1), (171, (.invokestatic 74), 3), (174, (.if_icmp .gt 8), 3), (177, (.iload 4), 2), (179, (.goto 4), 3), (182, (.iload_n 3), 1), (183, .iadd, 1), (184, (.iconst 2), 1), (185, .idiv, 1), (186, .ireturn, 1)]
set_option maxRecDepth 100000 in
theorem tX11_settled_ok : kTab cX11_settled tX11_settled := kTab_of (by decide +kernel)
def tX11_hasGrade : List (Nat × Instr × Nat) := [(0, (.iconst 0), 1), (1, (.istore_n 2), 1), (2, (.iconst 0), 1), (3, (.istore_n 3), 1), (4, (.iload_n 3), 1), (5, (.aload_n 0), 1), (6, (.getfield 7), 3), (9, (.sipush 144), 3), (12, .iaload, 1), (13, (.if_icmp .ge 29), 3), (16, (.iload_n 2), 1), (17, (.ifCond .ne 13), 3), (20, (.aload_n 0), 1), (21, (.iload_n 3), 1), (22, (.iconst 1), 1), (23, (.invokevirtual 81), 3), (26, (.iload_n 1), 1), (27, (.if_icmp .ne 7), 3), (30, (.iconst 1), 1), (31, (.goto 4), 3), (34, (.iconst 0), 1), (35, (.istore_n 2), 1), (36, (.iinc 3 1), 3), (39, (.goto (-35)), 3), (42, (.iload_n 2), 1), (43, .ireturn, 1)]
set_option maxRecDepth 100000 in
theorem tX11_hasGrade_ok : kTab cX11_hasGrade tX11_hasGrade := kTab_of (by decide +kernel)
def tX11_withGrades : List (Nat × Instr × Nat) := [(0, (.iconst 0), 1), (1, (.istore_n 1), 1), (2, (.iconst 0), 1), (3, (.istore_n 2), 1), (4, (.iload_n 2), 1), (5, (.bipush 8), 2), (7, (.if_icmp .ge 25), 3), (10, (.iload_n 1), 1), (11, (.aload_n 0), 1), (12, (.iload_n 2), 1), (13, (.invokevirtual 115), 3), (16, (.ifCond .eq 7), 3), (19, (.iconst 1), 1), (20, (.goto 4), 3), (23, (.iconst 0), 1), (24, .iadd, 1), (25, (.istore_n 1), 1), (26, (.iinc 2 1), 3), (29, (.goto (-25)), 3), (32, (.iload_n 1), 1), (33, .ireturn, 1)]
set_option maxRecDepth 100000 in
theorem tX11_withGrades_ok : kTab cX11_withGrades tX11_withGrades := kTab_of (by decide +kernel)
def tX11_isExcused : List (Nat × Instr × Nat) := [(0, (.aload_n 0), 1), (1, (.getfield 7), 3), (4, (.sipush 625), 3), (7, (.iload_n 1), 1), (8, .iadd, 1), (9, .iaload, 1), (10, (.iload_n 2), 1), (11, .ishr, 1), (12, (.iconst 1), 1), (13, .iand, 1), (14, (.iconst 1), 1), (15, (.if_icmp .ne 7), 3), (18, (.iconst 1), 1), (19, (.goto 4), 3), (22, (.iconst 0), 1), (23, .ireturn, 1)]
set_option maxRecDepth 100000 in
theorem tX11_isExcused_ok : kTab cX11_isExcused tX11_isExcused := kTab_of (by decide +kernel)
def tX11_marksOf : List (Nat × Instr × Nat) := [(0, (.iconst 0), 1), (1, (.istore_n 2), 1), (2, (.iload_n 2), 1), (3, (.iconst 5), 1), (4, (.if_icmp .ge 21), 3), (7, (.aload_n 0), 1), (8, (.getfield 35), 3), (11, (.iload_n 2), 1), (12, (.aload_n 0), 1), (13, (.iload_n 1), 1), (14, (.iload_n 2), 1), (15, (.invokevirtual 118), 3), (18, .iastore, 1), (19, (.iinc 2 1), 3), (22, (.goto (-20)), 3), (25, .return_, 1)]
set_option maxRecDepth 100000 in
theorem tX11_marksOf_ok : kTab cX11_marksOf tX11_marksOf := kTab_of (by decide +kernel)
def tX11_divisor : List (Nat × Instr × Nat) := [(0, (.lload_n 0), 1), (1, (.lstore 4), 2), (3, (.lload_n 2), 1), (4, (.lstore 6), 2), (6, (.lload 6), 2), (8, (.lconst 0), 1), (9, .lcmp, 1), (10, (.ifCond .eq 21), 3), (13, (.lload 4), 2), (15, (.lload 6), 2), (17, .lrem, 1), (18, (.lstore 8), 2), (20, (.lload 6), 2), (22, (.lstore 4), 2), (24, (.lload 8), 2), (26, (.lstore 6), 2), (28, (.goto (-22)), 3), (31, (.lload 4), 2), (33, .lreturn, 1)]
set_option maxRecDepth 100000 in
theorem tX11_divisor_ok : kTab cX11_divisor tX11_divisor := kTab_of (by decide +kernel)
def tX11_raws : List (Nat × Instr × Nat) := [(0, (.lconst 0), 1), (1, (.lstore_n 2), 1), (2, (.lconst 0), 1), (3, (.lstore 4), 2), (5, (.iconst 0), 1), (6, (.istore 6), 2), (8, (.iload 6), 2), (10, (.iconst 5), 1), (11, (.if_icmp .ge 63), 3), (14, (.lload_n 2), 1), (15, (.aload_n 0), 1), (16, (.iload_n 1), 1), (17, (.iload 6), 2), (19, (.invokevirtual 121), 3), (22, (.ifCond .eq 7), 3), (25, (.lconst 0), 1), (26, (.goto 11), 3), (29, (.aload_n 0), 1), (30, (.getfield 35), 3), (33, (.iload 6), 2), (35, .iaload, 1), (36, .i2l, 1), (37, .ladd, 1), (38, (.lstore_n 2), 1), (39, (.lload 4), 2), (41, (.aload_n 0), 1), (42, (.iload_n 1), 1), (43, (.iload 6), 2), (45, (.invokevirtual 121), 3), (48, (.ifCond .eq 7), 3), (51, (.lconst 0), 1), (52, (.goto 13), 3), (55, (.aload_n 0), 1), (56, (.getfield 7), 3), (59, (.iconst 0), 1), (60, (.iload 6), 2), (62, .iadd, 1), (63, .iaload, 1), (64, .i2l, 1), (65, .ladd, 1), (66, (.lstore 4), 2), (68, (.iinc 6 1), 3), (71, (.goto (-63)), 3), (74, (.lload_n 2), 1), (75, (.aload_n 0), 1), (76, (.invokevirtual 124), 3), (79, .i2l, 1), (80, .lmul, 1), (81, (.ldc2_w 128), 3), (84, (.aload_n 0), 1), (85, (.getfield 7), 3), (88, (.sipush 633), 3), (91, (.iload_n 1), 1), (92, .iadd, 1), (93, .iaload, 1), (94, .i2l, 1), (95, .ladd, 1), (96, .lmul, 1), (97, (.lstore 6), 2), (99, (.lload 4), 2), (101, (.ldc2_w 128), 3), (104, .lmul, 1), (105, (.lstore 8), 2), (107, (.aload_n 0), 1), (108, (.invokevirtual 124), 3), (111, .i2l, 1), (112, (.ldc2_w 130), 3), (115, .lmul, 1), (116, (.lstore 10), 2), (118, (.lload 6), 2), (120, (.lload 10), 2), (122, (.lload 8), 2), (124, .lmul, 1), (125, .lcmp, 1), (126, (.ifCond .le 10), 3), (129, (.lload 10), 2), (131, (.lstore 6), 2), (133, (.lconst 1), 1), (134, (.lstore 8), 2), (136, (.lload 6), 2), (138, (.lload 8), 2), (140, (.invokestatic 132), 3), (143, (.lstore 12), 2), (145, (.aload_n 0), 1), (146, (.lload 6), 2), (148, (.lload 12), 2), (150, .ldiv, 1), (151, (.putfield 136), 3), (154, (.aload_n 0), 1), (155, (.lload 8), 2), (157, (.lload 12), 2), (159, .ldiv, 1), (160, (.putfield 140), 3), (163, .return_, 1)]
set_option maxRecDepth 100000 in
theorem tX11_raws_ok : kTab cX11_raws tX11_raws := kTab_of (by decide +kernel)
def tX11_rounded : List (Nat × Instr × Nat) := [(0, (.ldc2_w 143), 3), (3, (.lload_n 0), 1), (4, .lmul, 1), (5, (.lload_n 2), 1), (6, .ladd, 1), (7, (.ldc2_w 143), 3), (10, (.lload_n 2), 1), (11, .lmul, 1), (12, .ldiv, 1), (13, .l2i, 1), (14, .ireturn, 1)]
set_option maxRecDepth 100000 in
theorem tX11_rounded_ok : kTab cX11_rounded tX11_rounded := kTab_of (by decide +kernel)
def tX11_scaled : List (Nat × Instr × Nat) := [(0, (.aload_n 0), 1), (1, (.getfield 7), 3), (4, (.sipush 641), 3), (7, .iaload, 1), (8, (.istore 5), 2), (10, (.iload 5), 2), (12, (.iconst 2), 1), (13, (.if_icmp .ge 19), 3), (16, (.ldc2_w 128), 3), (19, (.lload_n 1), 1), (20, .lmul, 1), (21, (.lload_n 3), 1), (22, (.aload_n 0), 1), (23, (.invokevirtual 124), 3), (26, .i2l, 1), (27, .lmul, 1), (28, (.invokestatic 145), 3), (31, .ireturn, 1), (32, (.lload_n 1), 1), (33, (.aload_n 0), 1), (34, (.getfield 7), 3), (37, (.sipush 642), 3), (40, .iaload, 1), (41, .i2l, 1), (42, (.lload_n 3), 1), (43, .lmul, 1), (44, .lcmp, 1), (45, (.ifCond .gt 12), 3), (48, (.aload_n 0), 1), (49, (.getfield 7), 3), (52, (.sipush 643), 3), (55, .iaload, 1), (56, .ireturn, 1), (57, (.lload_n 1), 1), (58, (.aload_n 0), 1), (59, (.getfield 7), 3), (62, (.sipush 642), 3), (65, (.iconst 2), 1), (66, (.iload 5), 2), (68, .imul, 1), (69, .iadd, 1), (70, (.iconst 2), 1), (71, .isub, 1), (72, .iaload, 1), (73, .i2l, 1), (74, (.lload_n 3), 1), (75, .lmul, 1), (76, .lcmp, 1), (77, (.ifCond .lt 19), 3), (80, (.aload_n 0), 1), (81, (.getfield 7), 3), (84, (.sipush 642), 3), (87, (.iconst 2), 1), (88, (.iload 5), 2), (90, .imul, 1), (91, .iadd, 1), (92, (.iconst 1), 1), (93, .isub, 1), (94, .iaload, 1), (95, .ireturn, 1), (96, (.iconst 0), 1), (97, (.istore 6), 2), (99, (.lload_n 1), 1), (100, (.aload_n 0), 1), (101, (.getfield 7), 3), (104, (.sipush 642), 3), (107, (.iconst 2), 1), (108, (.iload 6), 2), (110, .imul, 1), (111, .iadd, 1), (112, (.iconst 2), 1), (113, .iadd, 1), (114, .iaload, 1), (115, .i2l, 1), (116, (.lload_n 3), 1), (117, .lmul, 1), (118, .lcmp, 1), (119, (.ifCond .lt 9), 3), (122, (.iinc 6 1), 3), (125, (.goto (-26)), 3), (128, (.aload_n 0), 1), (129, (.getfield 7), 3), (132, (.sipush 642), 3), (135, (.iconst 2), 1), (136, (.iload 6), 2), (138, .imul, 1), (139, .iadd, 1), (140, .iaload, 1), (141, .i2l, 1), (142, (.lstore 7), 2), (144, (.aload_n 0), 1), (145, (.getfield 7), 3), (148, (.sipush 642), 3), (151, (.iconst 2), 1), (152, (.iload 6), 2), (154, .imul, 1), (155, .iadd, 1), (156, (.iconst 1), 1), (157, .iadd, 1), (158, .iaload, 1), (159, .i2l, 1), (160, (.lstore 9), 2), (162, (.aload_n 0), 1), (163, (.getfield 7), 3), (166, (.sipush 642), 3), (169, (.iconst 2), 1), (170, (.iload 6), 2), (172, .imul, 1), (173, .iadd, 1), (174, (.iconst 2), 1), (175, .iadd, 1), (176, .iaload, 1), (177, .i2l, 1), (178, (.lstore 11), 2), (180, (.aload_n 0), 1), (181, (.getfield 7), 3), (184, (.sipush 642), 3), (187, (.iconst 2), 1), (188, (.iload 6), 2), (190, .imul, 1), (191, .iadd, 1), (192, (.iconst 3), 1), (193, .iadd, 1), (194, .iaload, 1), (195, .i2l, 1), (196, (.lstore 13), 2), (198, (.lload 9), 2), (200, (.lload 11), 2), (202, (.lload 7), 2), (204, .lsub, 1), (205, .lmul, 1), (206, (.lload_n 3), 1), (207, .lmul, 1), (208, (.lload 13), 2), (210, (.lload 9), 2), (212, .lsub, 1), (213, (.lload_n 1), 1), (214, (.lload 7), 2), (216, (.lload_n 3), 1), (217, .lmul, 1), (218, .lsub, 1), (219, .lmul, 1), (220, .ladd, 1), (221, (.lload 11), 2), (223, (.lload 7), 2), (225, .lsub, 1), (226, (.lload_n 3), 1), (227, .lmul, 1), (228, (.invokestatic 145), 3), (231, .ireturn, 1)]
set_option maxRecDepth 100000 in
theorem tX11_scaled_ok : kTab cX11_scaled tX11_scaled := kTab_of (by decide +kernel)
def tX11_grades : List (Nat × Instr × Nat) := [(0, (.aload_n 0), 1), (1, (.iload_n 1), 1), (2, (.invokevirtual 149), 3), (5, (.aload_n 0), 1), (6, (.aload_n 0), 1), (7, (.aload_n 0), 1), (8, (.getfield 136), 3), (11, (.aload_n 0), 1), (12, (.getfield 140), 3), (15, (.ldc2_w 130), 3), (18, .lmul, 1), (19, (.invokevirtual 153), 3), (22, (.putfield 156), 3), (25, (.aload_n 0), 1), (26, (.iconst 0), 1), (27, (.putfield 159), 3), (30, (.aload_n 0), 1), (31, (.getfield 159), 3), (34, (.iconst 4), 1), (35, (.if_icmp .ge 35), 3), (38, (.aload_n 0), 1), (39, (.getfield 7), 3), (42, (.bipush 10), 2), (44, (.aload_n 0), 1), (45, (.getfield 159), 3), (48, .iadd, 1), (49, .iaload, 1), (50, (.aload_n 0), 1), (51, (.getfield 156), 3), (54, (.if_icmp .le 16), 3), (57, (.aload_n 0), 1), (58, .dup, 1), (59, (.getfield 159), 3), (62, (.iconst 1), 1), (63, .iadd, 1), (64, (.putfield 159), 3), (67, (.goto (-37)), 3), (70, (.aload_n 0), 1), (71, (.aload_n 0), 1), (72, (.getfield 159), 3), (75, (.ifCond .le 20), 3), (78, (.aload_n 0), 1), (79, (.iload_n 1), 1), (80, (.invokevirtual 162), 3), (83, (.ifCond .eq 12), 3), (86, (.aload_n 0), 1), (87, (.getfield 159), 3), (90, (.iconst 1), 1), (91, .isub, 1), (92, (.goto 7), 3), (95, (.aload_n 0), 1), (96, (.getfield 159), 3), (99, (.putfield 165), 3), (102, .return_, 1)]
set_option maxRecDepth 100000 in
theorem tX11_grades_ok : kTab cX11_grades tX11_grades := kTab_of (by decide +kernel)
def tX11_isLifted : List (Nat × Instr × Nat) := [(0, (.aload_n 0), 1), (1, (.getfield 7), 3), (4, (.bipush 10), 2), (6, (.aload_n 0), 1), (7, (.getfield 159), 3), (10, .iadd, 1), (11, (.iconst 1), 1), (12, .isub, 1), (13, .iaload, 1), (14, (.istore_n 2), 1), (15, (.iconst 0), 1), (16, (.istore_n 3), 1), (17, (.iconst 0), 1), (18, (.istore 4), 2), (20, (.iconst 0), 1), (21, (.istore 5), 2), (23, (.iload 5), 2), (25, (.iconst 5), 1), (26, (.if_icmp .ge 74), 3), (29, (.iload_n 3), 1), (30, (.aload_n 0), 1), (31, (.iload_n 1), 1), (32, (.iload 5), 2), (34, (.invokevirtual 121), 3), (37, (.ifCond .eq 7), 3), (40, (.iconst 0), 1), (41, (.goto 4), 3), (44, (.iconst 1), 1), (45, .iadd, 1), (46, (.istore_n 3), 1), (47, (.iload 4), 2), (49, (.aload_n 0), 1), (50, (.iload_n 1), 1), (51, (.iload 5), 2), (53, (.invokevirtual 121), 3), (56, (.ifCond .ne 34), 3), (59, (.aload_n 0), 1), (60, (.getfield 35), 3), (63, (.iload 5), 2), (65, .iaload, 1), (66, (.bipush 100), 2), (68, .imul, 1), (69, (.iload_n 2), 1), (70, (.aload_n 0), 1), (71, (.getfield 7), 3), (74, (.iconst 0), 1), (75, (.iload 5), 2), (77, .iadd, 1), (78, .iaload, 1), (79, .imul, 1), (80, (.bipush 120), 2), (82, .imul, 1), (83, (.if_icmp .lt 7), 3), (86, (.iconst 1), 1), (87, (.goto 4), 3), (90, (.iconst 0), 1), (91, .iadd, 1), (92, (.istore 4), 2), (94, (.iinc 5 1), 3), (97, (.goto (-74)), 3), (100, (.iload_n 2), 1), (101, (.aload_n 0), 1), (102, (.getfield 156), 3), (105, .isub, 1), (106, (.aload_n 0), 1), (107, (.iconst 3), 1), (108, (.invokevirtual 78), 3), (111, (.if_icmp .gt 15), 3), (114, (.iconst 2), 1), (115, (.iload 4), 2), (117, .imul, 1), (118, (.iload_n 3), 1), (119, (.if_icmp .lt 7), 3), (122, (.iconst 1), 1), (123, (.goto 4), 3), (126, (.iconst 0), 1), (127, .ireturn, 1)]
set_option maxRecDepth 100000 in
theorem tX11_isLifted_ok : kTab cX11_isLifted tX11_isLifted := kTab_of (by decide +kernel)
def tX11_gradeOf : List (Nat × Instr × Nat) := [(0, (.aload_n 0), 1), (1, (.iload_n 1), 1), (2, (.invokevirtual 168), 3), (5, (.aload_n 0), 1), (6, (.iload_n 1), 1), (7, (.invokevirtual 171), 3), (10, (.aload_n 0), 1), (11, (.getfield 165), 3), (14, .ireturn, 1)]
set_option maxRecDepth 100000 in
theorem tX11_gradeOf_ok : kTab cX11_gradeOf tX11_gradeOf := kTab_of (by decide +kernel)
def tX11_reports : List (Nat × Instr × Nat) := [(0, (.aload_n 0), 1), (1, (.getfield 29), 3), (4, (.iconst 0), 1), (5, (.iload_n 1), 1), (6, .iastore, 1), (7, (.aload_n 0), 1), (8, (.getfield 29), 3), (11, (.iconst 1), 1), (12, (.iload_n 2), 1), (13, .iastore, 1), (14, (.aload_n 0), 1), (15, (.getfield 29), 3), (18, (.iconst 2), 1), (19, (.iload_n 3), 1), (20, .iastore, 1), (21, (.aload_n 0), 1), (22, (.getfield 29), 3), (25, (.iconst 3), 1), (26, (.iload 4), 2), (28, .iastore, 1), (29, (.aload_n 0), 1), (30, (.iconst 2), 1), (31, (.putfield 174), 3), (34, (.aload_n 0), 1), (35, (.iload 5), 2), (37, (.invokevirtual 177), 3), (40, .ireturn, 1)]
set_option maxRecDepth 100000 in
theorem tX11_reports_ok : kTab cX11_reports tX11_reports := kTab_of (by decide +kernel)
def tX11_isAbove : List (Nat × Instr × Nat) := [(0, (.iconst 0), 1), (1, (.istore_n 3), 1), (2, (.iconst 0), 1), (3, (.istore 4), 2), (5, (.iload 4), 2), (7, (.aload_n 0), 1), (8, (.getfield 7), 3), (11, (.sipush 144), 3), (14, .iaload, 1), (15, (.if_icmp .ge 41), 3), (18, (.iload_n 3), 1), (19, (.ifCond .ne 25), 3), (22, (.aload_n 0), 1), (23, (.iload 4), 2), (25, (.iconst 2), 1), (26, (.invokevirtual 81), 3), (29, (.iload_n 1), 1), (30, (.if_icmp .ne 18), 3), (33, (.aload_n 0), 1), (34, (.iload 4), 2), (36, (.iconst 3), 1), (37, (.invokevirtual 81), 3), (40, (.iload_n 2), 1), (41, (.if_icmp .le 7), 3), (44, (.iconst 1), 1), (45, (.goto 4), 3), (48, (.iconst 0), 1), (49, (.istore_n 3), 1), (50, (.iinc 4 1), 3), (53, (.goto (-48)), 3), (56, (.iconst 0), 1), (57, (.istore 4), 2), (59, (.iload 4), 2), (61, (.aload_n 0), 1), (62, (.getfield 7), 3), (65, (.bipush 14), 2), (67, (.iload_n 1), 1), (68, .iadd, 1), (69, .iaload, 1), (70, (.if_icmp .ge 81), 3), (73, (.iload_n 3), 1), (74, (.ifCond .ne 21), 3), (77, (.aload_n 0), 1), (78, (.getfield 7), 3), (81, (.bipush 19), 2), (83, (.iconst 5), 1), (84, (.iload_n 1), 1), (85, .imul, 1), (86, .iadd, 1), (87, (.iload 4), 2), (89, .iadd, 1), (90, .iaload, 1), (91, (.iload_n 2), 1), (92, (.if_icmp .le 7), 3), (95, (.iconst 1), 1), (96, (.goto 4), 3), (99, (.iconst 0), 1), (100, (.istore_n 3), 1), (101, (.iconst 0), 1), (102, (.istore 5), 2), (104, (.iload 5), 2), (106, (.iconst 4), 1), (107, (.if_icmp .ge 38), 3), (110, (.iload_n 3), 1), (111, (.ifCond .ne 22), 3), (114, (.aload_n 0), 1), (115, (.getfield 7), 3), (118, (.iload 5), 2), (120, (.iload_n 1), 1), (121, (.iload 4), 2), (123, (.invokestatic 64), 3), (126, .iaload, 1), (127, (.iconst 1), 1), (128, .isub, 1), (129, (.iload_n 2), 1), (130, (.if_icmp .le 7), 3), (133, (.iconst 1), 1), (134, (.goto 4), 3), (137, (.iconst 0), 1), (138, (.istore_n 3), 1), (139, (.iinc 5 1), 3), (142, (.goto (-38)), 3), (145, (.iinc 4 1), 3), (148, (.goto (-89)), 3), (151, (.iload_n 3), 1), (152, .ireturn, 1)]
set_option maxRecDepth 100000 in
theorem tX11_isAbove_ok : kTab cX11_isAbove tX11_isAbove := kTab_of (by decide +kernel)
def tX11_setMaximum : List (Nat × Instr × Nat) := [(0, (.aload_n 0), 1), (1, (.iconst 0), 1), (2, (.putfield 48), 3), (5, (.iload_n 1), 1), (6, (.invokestatic 180), 3), (9, (.ifCond .ne 9), 3), (12, (.aload_n 0), 1), (13, (.iconst 1), 1), (14, (.invokevirtual 177), 3), (17, .ireturn, 1), (18, (.iload_n 2), 1), (19, (.iconst 1), 1), (20, (.bipush 40), 2), (22, (.invokestatic 51), 3), (25, (.ifCond .ne 9), 3), (28, (.aload_n 0), 1), (29, (.iconst 2), 1), (30, (.invokevirtual 177), 3), (33, .ireturn, 1), (34, (.aload_n 0), 1), (35, (.invokevirtual 183), 3), (38, (.ifCond .eq 9), 3), (41, (.aload_n 0), 1), (42, (.iconst 3), 1), (43, (.invokevirtual 177), 3), (46, .ireturn, 1), (47, (.aload_n 0), 1), (48, (.iload_n 1), 1), (49, (.iload_n 2), 1), (50, (.invokevirtual 187), 3), (53, (.ifCond .eq 9), 3), (56, (.aload_n 0), 1), (57, (.iconst 4), 1), (58, (.invokevirtual 177), 3), (61, .ireturn, 1), (62, (.aload_n 0), 1), (63, (.invokevirtual 190), 3), (66, (.aload_n 0), 1), (67, (.getfield 7), 3), (70, (.iconst 0), 1), (71, (.iload_n 1), 1), (72, .iadd, 1), (73, .iaload, 1), (74, (.istore_n 3), 1), (75, (.aload_n 0), 1), (76, (.getfield 7), 3), (79, (.iconst 0), 1), (80, (.iload_n 1), 1), (81, .iadd, 1), (82, (.iload_n 2), 1), (83, .iastore, 1), (84, (.iload_n 3), 1), (85, .ireturn, 1)]
set_option maxRecDepth 100000 in
theorem tX11_setMaximum_ok : kTab cX11_setMaximum tX11_setMaximum := kTab_of (by decide +kernel)
def tX11_isValue : List (Nat × Instr × Nat) := [(0, (.iload_n 0), 1), (1, (.tableswitch 54 0 3 #[31, 38, 46, 31]), 31), (32, (.iload_n 1), 1), (33, (.iconst 0), 1), (34, (.iconst 5), 1), (35, (.invokestatic 51), 3), (38, .ireturn, 1), (39, (.iload_n 1), 1), (40, (.iconst 1), 1), (41, (.bipush 40), 2), (43, (.invokestatic 51), 3), (46, .ireturn, 1), (47, (.iload_n 1), 1), (48, (.iconst 0), 1), (49, (.bipush 10), 2), (51, (.invokestatic 51), 3), (54, .ireturn, 1), (55, (.iload_n 1), 1), (56, (.iconst 0), 1), (57, (.bipush 99), 2), (59, (.invokestatic 51), 3), (62, .ireturn, 1)]
set_option maxRecDepth 100000 in
theorem tX11_isValue_ok : kTab cX11_isValue tX11_isValue := kTab_of (by decide +kernel)
def tX11_set : List (Nat × Instr × Nat) := [(0, (.aload_n 0), 1), (1, (.iconst 0), 1), (2, (.putfield 48), 3), (5, (.iload_n 1), 1), (6, (.iconst 0), 1), (7, (.iconst 4), 1), (8, (.invokestatic 51), 3), (11, (.ifCond .ne 9), 3), (14, (.aload_n 0), 1), (15, (.iconst 1), 1), (16, (.invokevirtual 177), 3), (19, .ireturn, 1), (20, (.iload_n 1), 1), (21, (.iload_n 2), 1), (22, (.invokestatic 193), 3), (25, (.ifCond .ne 9), 3), (28, (.aload_n 0), 1), (29, (.iconst 2), 1), (30, (.invokevirtual 177), 3), (33, .ireturn, 1), (34, (.aload_n 0), 1), (35, (.invokevirtual 183), 3), (38, (.ifCond .eq 14), 3), (41, (.iload_n 1), 1), (42, (.iconst 4), 1), (43, (.if_icmp .eq 9), 3), (46, (.aload_n 0), 1), (47, (.iconst 3), 1), (48, (.invokevirtual 177), 3), (51, .ireturn, 1), (52, (.aload_n 0), 1), (53, (.invokevirtual 190), 3), (56, (.aload_n 0), 1), (57, (.getfield 7), 3), (60, (.iconst 5), 1), (61, (.iload_n 1), 1), (62, .iadd, 1), (63, .iaload, 1), (64, (.istore_n 3), 1), (65, (.aload_n 0), 1), (66, (.getfield 7), 3), (69, (.iconst 5), 1), (70, (.iload_n 1), 1), (71, .iadd, 1), (72, (.iload_n 2), 1), (73, .iastore, 1), (74, (.iload_n 3), 1), (75, .ireturn, 1)]
set_option maxRecDepth 100000 in
theorem tX11_set_ok : kTab cX11_set tX11_set := kTab_of (by decide +kernel)
def tX11_addSeed : List (Nat × Instr × Nat) := [(0, (.aload_n 0), 1), (1, (.iconst 0), 1), (2, (.putfield 48), 3), (5, (.iload_n 1), 1), (6, (.invokestatic 180), 3), (9, (.ifCond .ne 9), 3), (12, (.aload_n 0), 1), (13, (.iconst 1), 1), (14, (.invokevirtual 177), 3), (17, .ireturn, 1), (18, (.iload_n 2), 1), (19, (.iconst 0), 1), (20, (.aload_n 0), 1), (21, (.getfield 7), 3), (24, (.iconst 0), 1), (25, (.iload_n 1), 1), (26, .iadd, 1), (27, .iaload, 1), (28, (.invokestatic 51), 3), (31, (.ifCond .ne 9), 3), (34, (.aload_n 0), 1), (35, (.iconst 2), 1), (36, (.invokevirtual 177), 3), (39, .ireturn, 1), (40, (.aload_n 0), 1), (41, (.invokevirtual 183), 3), (44, (.ifCond .eq 9), 3), (47, (.aload_n 0), 1), (48, (.iconst 3), 1), (49, (.invokevirtual 177), 3), (52, .ireturn, 1), (53, (.aload_n 0), 1), (54, (.getfield 7), 3), (57, (.bipush 14), 2), (59, (.iload_n 1), 1), (60, .iadd, 1), (61, .iaload, 1), (62, (.iconst 5), 1), (63, (.if_icmp .ne 9), 3), (66, (.aload_n 0), 1), (67, (.iconst 4), 1), (68, (.invokevirtual 177), 3), (71, .ireturn, 1), (72, (.aload_n 0), 1), (73, (.invokevirtual 190), 3), (76, (.aload_n 0), 1), (77, (.getfield 7), 3), (80, (.bipush 14), 2), (82, (.iload_n 1), 1), (83, .iadd, 1), (84, .iaload, 1), (85, (.istore_n 3), 1), (86, (.aload_n 0), 1), (87, (.getfield 7), 3), (90, (.bipush 19), 2), (92, (.iconst 5), 1), (93, (.iload_n 1), 1), (94, .imul, 1), (95, .iadd, 1), (96, (.iload_n 3), 1), (97, .iadd, 1), (98, (.iload_n 2), 1), (99, .iastore, 1), (100, (.aload_n 0), 1), (101, (.getfield 7), 3), (104, (.bipush 14), 2), (106, (.iload_n 1), 1), (107, .iadd, 1), (108, .dup2, 1), (109, .iaload, 1), (110, (.iconst 1), 1), (111, .iadd, 1), (112, .iastore, 1), (113, (.iload_n 3), 1), (114, .ireturn, 1)]
set_option maxRecDepth 100000 in
theorem tX11_addSeed_ok : kTab cX11_addSeed tX11_addSeed := kTab_of (by decide +kernel)
def tX11_pays : List (Nat × Instr × Nat) := [(0, (.aload_n 0), 1), (1, (.getfield 7), 3), (4, (.sipush 775), 3), (7, (.iload_n 1), 1), (8, .iadd, 1), (9, .dup2, 1), (10, .iaload, 1), (11, (.bipush 10), 2), (13, (.aload_n 0), 1), (14, (.getfield 7), 3), (17, (.iconst 0), 1), (18, (.iload_n 2), 1), (19, .iadd, 1), (20, .iaload, 1), (21, .iadd, 1), (22, .iadd, 1), (23, .iastore, 1), (24, .return_, 1)]
set_option maxRecDepth 100000 in
theorem tX11_pays_ok : kTab cX11_pays tX11_pays := kTab_of (by decide +kernel)
def tX11_markSeed : List (Nat × Instr × Nat) := [(0, (.aload_n 0), 1), (1, (.iconst 0), 1), (2, (.putfield 48), 3), (5, (.iload_n 1), 1), (6, (.invokestatic 196), 3), (9, (.ifCond .eq 29), 3), (12, (.iload_n 2), 1), (13, (.invokestatic 180), 3), (16, (.ifCond .eq 22), 3), (19, (.iload_n 3), 1), (20, (.iconst 0), 1), (21, (.aload_n 0), 1), (22, (.getfield 7), 3), (25, (.bipush 14), 2), (27, (.iload_n 2), 1), (28, .iadd, 1), (29, .iaload, 1), (30, (.iconst 1), 1), (31, .isub, 1), (32, (.invokestatic 51), 3), (35, (.ifCond .ne 9), 3), (38, (.aload_n 0), 1), (39, (.iconst 1), 1), (40, (.invokevirtual 177), 3), (43, .ireturn, 1), (44, (.iload 4), 2), (46, (.iconst 0), 1), (47, (.aload_n 0), 1), (48, (.getfield 7), 3), (51, (.iconst 0), 1), (52, (.iload_n 2), 1), (53, .iadd, 1), (54, .iaload, 1), (55, (.invokestatic 51), 3), (58, (.ifCond .ne 9), 3), (61, (.aload_n 0), 1), (62, (.iconst 2), 1), (63, (.invokevirtual 177), 3), (66, .ireturn, 1), (67, (.aload_n 0), 1), (68, (.invokevirtual 183), 3), (71, (.ifCond .eq 9), 3), (74, (.aload_n 0), 1), (75, (.iconst 3), 1), (76, (.invokevirtual 177), 3), (79, .ireturn, 1), (80, (.aload_n 0), 1), (81, (.iload_n 1), 1), (82, (.iload_n 2), 1), (83, (.iload_n 3), 1), (84, (.invokevirtual 68), 3), (87, (.ifCond .eq 9), 3), (90, (.aload_n 0), 1), (91, (.iconst 4), 1), (92, (.invokevirtual 177), 3), (95, .ireturn, 1), (96, (.aload_n 0), 1), (97, (.invokevirtual 190), 3), (100, (.aload_n 0), 1), (101, (.getfield 7), 3), (104, (.iload_n 1), 1), (105, (.iload_n 2), 1), (106, (.iload_n 3), 1), (107, (.invokestatic 64), 3), (110, (.iload 4), 2), (112, (.iconst 1), 1), (113, .iadd, 1), (114, .iastore, 1), (115, (.aload_n 0), 1), (116, (.iload_n 1), 1), (117, (.iload_n 2), 1), (118, (.invokevirtual 199), 3), (121, (.aload_n 0), 1), (122, (.iload_n 1), 1), (123, (.iload_n 2), 1), (124, (.iload_n 3), 1), (125, (.invokevirtual 71), 3), (128, .ireturn, 1)]
set_option maxRecDepth 100000 in
theorem tX11_markSeed_ok : kTab cX11_markSeed tX11_markSeed := kTab_of (by decide +kernel)
def tX11_markerRefusal : List (Nat × Instr × Nat) := [(0, (.aload_n 0), 1), (1, (.iload_n 1), 1), (2, (.invokestatic 196), 3), (5, (.ifCond .eq 14), 3), (8, (.iload_n 2), 1), (9, (.invokestatic 180), 3), (12, (.ifCond .eq 7), 3), (15, (.iconst 0), 1), (16, (.goto 4), 3), (19, (.iconst 1), 1), (20, (.putfield 48), 3), (23, (.aload_n 0), 1), (24, (.getfield 48), 3), (27, .ireturn, 1)]
set_option maxRecDepth 100000 in
theorem tX11_markerRefusal_ok : kTab cX11_markerRefusal tX11_markerRefusal := kTab_of (by decide +kernel)
def tX11_correction : List (Nat × Instr × Nat) := [(0, (.aload_n 0), 1), (1, (.iload_n 1), 1), (2, (.iload_n 2), 1), (3, (.invokevirtual 202), 3), (6, (.ifCond .le 7), 3), (9, (.iconst 0), 1), (10, (.goto 9), 3), (13, (.aload_n 0), 1), (14, (.iload_n 1), 1), (15, (.iload_n 2), 1), (16, (.invokevirtual 92), 3), (19, .ireturn, 1)]
set_option maxRecDepth 100000 in
theorem tX11_correction_ok : kTab cX11_correction tX11_correction := kTab_of (by decide +kernel)
def tX11_isSuspended : List (Nat × Instr × Nat) := [(0, (.aload_n 0), 1), (1, (.iload_n 1), 1), (2, (.iload_n 2), 1), (3, (.invokevirtual 202), 3), (6, (.ifCond .ne 16), 3), (9, (.aload_n 0), 1), (10, (.iload_n 1), 1), (11, (.iload_n 2), 1), (12, (.invokevirtual 88), 3), (15, (.ifCond .eq 7), 3), (18, (.iconst 1), 1), (19, (.goto 4), 3), (22, (.iconst 0), 1), (23, .ireturn, 1)]
set_option maxRecDepth 100000 in
theorem tX11_isSuspended_ok : kTab cX11_isSuspended tX11_isSuspended := kTab_of (by decide +kernel)
def tX11_hasEntered : List (Nat × Instr × Nat) := [(0, (.iconst 0), 1), (1, (.istore 4), 2), (3, (.iconst 0), 1), (4, (.istore 5), 2), (6, (.iload 5), 2), (8, (.aload_n 0), 1), (9, (.getfield 7), 3), (12, (.sipush 144), 3), (15, .iaload, 1), (16, (.if_icmp .ge 43), 3), (19, (.iload 4), 2), (21, (.ifCond .ne 25), 3), (24, (.aload_n 0), 1), (25, (.iload 5), 2), (27, (.iload_n 2), 1), (28, (.iload_n 3), 1), (29, (.invokevirtual 85), 3), (32, (.ifCond .eq 18), 3), (35, (.aload_n 0), 1), (36, (.iload 5), 2), (38, (.iconst 0), 1), (39, (.invokevirtual 81), 3), (42, (.iload_n 1), 1), (43, (.if_icmp .ne 7), 3), (46, (.iconst 1), 1), (47, (.goto 4), 3), (50, (.iconst 0), 1), (51, (.istore 4), 2), (53, (.iinc 5 1), 3), (56, (.goto (-50)), 3), (59, (.iload 4), 2), (61, .ireturn, 1)]
set_option maxRecDepth 100000 in
theorem tX11_hasEntered_ok : kTab cX11_hasEntered tX11_hasEntered := kTab_of (by decide +kernel)
def tX11_refusal : List (Nat × Instr × Nat) := [(0, (.aload_n 0), 1), (1, (.iconst 0), 1), (2, (.putfield 205), 3), (5, (.aload_n 0), 1), (6, (.invokevirtual 183), 3), (9, (.ifCond .eq 6), 3), (12, (.bipush 11), 2), (14, .ireturn, 1), (15, (.aload_n 0), 1), (16, (.aload_n 0), 1), (17, (.getfield 7), 3), (20, (.iconst 0), 1), (21, (.iload_n 3), 1), (22, .iadd, 1), (23, .iaload, 1), (24, (.putfield 205), 3), (27, (.iload 4), 2), (29, (.aload_n 0), 1), (30, (.getfield 7), 3), (33, (.iconst 0), 1), (34, (.iload_n 3), 1), (35, .iadd, 1), (36, .iaload, 1), (37, (.if_icmp .le 6), 3), (40, (.bipush 12), 2), (42, .ireturn, 1), (43, (.aload_n 0), 1), (44, (.iload_n 1), 1), (45, (.putfield 205), 3), (48, (.aload_n 0), 1), (49, (.iload_n 1), 1), (50, (.iload_n 2), 1), (51, (.iload_n 3), 1), (52, (.invokevirtual 208), 3), (55, (.ifCond .eq 6), 3), (58, (.bipush 13), 2), (60, .ireturn, 1), (61, (.aload_n 0), 1), (62, (.iconst 3), 1), (63, (.putfield 205), 3), (66, (.aload_n 0), 1), (67, (.iload_n 2), 1), (68, (.iload_n 3), 1), (69, (.invokevirtual 211), 3), (72, (.iconst 3), 1), (73, (.if_icmp .ne 6), 3), (76, (.bipush 14), 2), (78, .ireturn, 1), (79, (.aload_n 0), 1), (80, (.iload_n 3), 1), (81, (.putfield 205), 3), (84, (.aload_n 0), 1), (85, (.iload_n 2), 1), (86, (.iload_n 3), 1), (87, (.invokevirtual 108), 3), (90, (.aload_n 0), 1), (91, (.getfield 95), 3), (94, (.iconst 2), 1), (95, (.if_icmp .ne 27), 3), (98, (.aload_n 0), 1), (99, (.aload_n 0), 1), (100, (.getfield 32), 3), (103, (.iconst 0), 1), (104, .iaload, 1), (105, (.aload_n 0), 1), (106, (.getfield 32), 3), (109, (.iconst 1), 1), (110, .iaload, 1), (111, (.invokevirtual 112), 3), (114, (.ifCond .eq 8), 3), (117, (.bipush 15), 2), (119, (.goto 4), 3), (122, (.iconst 0), 1), (123, .ireturn, 1)]
set_option maxRecDepth 100000 in
theorem tX11_refusal_ok : kTab cX11_refusal tX11_refusal := kTab_of (by decide +kernel)
def tX11_enters : List (Nat × Instr × Nat) := [(0, (.aload_n 0), 1), (1, (.getfield 7), 3), (4, (.sipush 144), 3), (7, .iaload, 1), (8, (.istore 5), 2), (10, (.aload_n 0), 1), (11, (.getfield 7), 3), (14, (.sipush 145), 3), (17, (.iconst 4), 1), (18, (.iload 5), 2), (20, .imul, 1), (21, .iadd, 1), (22, (.iload_n 1), 1), (23, .iastore, 1), (24, (.aload_n 0), 1), (25, (.getfield 7), 3), (28, (.sipush 145), 3), (31, (.iconst 4), 1), (32, (.iload 5), 2), (34, .imul, 1), (35, .iadd, 1), (36, (.iconst 1), 1), (37, .iadd, 1), (38, (.iload_n 2), 1), (39, .iastore, 1), (40, (.aload_n 0), 1), (41, (.getfield 7), 3), (44, (.sipush 145), 3), (47, (.iconst 4), 1), (48, (.iload 5), 2), (50, .imul, 1), (51, .iadd, 1), (52, (.iconst 2), 1), (53, .iadd, 1), (54, (.iload_n 3), 1), (55, .iastore, 1), (56, (.aload_n 0), 1), (57, (.getfield 7), 3), (60, (.sipush 145), 3), (63, (.iconst 4), 1), (64, (.iload 5), 2), (66, .imul, 1), (67, .iadd, 1), (68, (.iconst 3), 1), (69, .iadd, 1), (70, (.iload 4), 2), (72, .iastore, 1), (73, (.aload_n 0), 1), (74, (.getfield 7), 3), (77, (.sipush 144), 3), (80, .dup2, 1), (81, .iaload, 1), (82, (.iconst 1), 1), (83, .iadd, 1), (84, .iastore, 1), (85, (.aload_n 0), 1), (86, (.iload_n 1), 1), (87, (.iload_n 3), 1), (88, (.invokevirtual 199), 3), (91, .return_, 1)]
set_option maxRecDepth 100000 in
theorem tX11_enters_ok : kTab cX11_enters tX11_enters := kTab_of (by decide +kernel)
def tX11_enter : List (Nat × Instr × Nat) := [(0, (.aload_n 0), 1), (1, (.iconst 0), 1), (2, (.putfield 48), 3), (5, (.iload_n 1), 1), (6, (.invokestatic 196), 3), (9, (.ifCond .eq 17), 3), (12, (.iload_n 2), 1), (13, (.invokestatic 214), 3), (16, (.ifCond .eq 10), 3), (19, (.iload_n 3), 1), (20, (.invokestatic 180), 3), (23, (.ifCond .ne 9), 3), (26, (.aload_n 0), 1), (27, (.iconst 1), 1), (28, (.invokevirtual 177), 3), (31, .ireturn, 1), (32, (.iload 4), 2), (34, (.ifCond .ge 9), 3), (37, (.aload_n 0), 1), (38, (.iconst 2), 1), (39, (.invokevirtual 177), 3), (42, .ireturn, 1), (43, (.aload_n 0), 1), (44, (.iload_n 1), 1), (45, (.iload_n 2), 1), (46, (.iload_n 3), 1), (47, (.iload 4), 2), (49, (.invokevirtual 217), 3), (52, (.istore 5), 2), (54, (.iload 5), 2), (56, (.ifCond .le 17), 3), (59, (.aload_n 0), 1), (60, (.iconst 1), 1), (61, (.iconst 0), 1), (62, (.iload 5), 2), (64, (.aload_n 0), 1), (65, (.getfield 205), 3), (68, (.iconst 3), 1), (69, (.invokevirtual 221), 3), (72, .ireturn, 1), (73, (.aload_n 0), 1), (74, (.invokevirtual 190), 3), (77, (.aload_n 0), 1), (78, (.iload_n 1), 1), (79, (.iload_n 2), 1), (80, (.iload_n 3), 1), (81, (.iload 4), 2), (83, (.invokevirtual 224), 3), (86, (.aload_n 0), 1), (87, (.iload_n 2), 1), (88, (.iload_n 3), 1), (89, (.invokevirtual 211), 3), (92, .ireturn, 1)]
set_option maxRecDepth 100000 in
theorem tX11_enter_ok : kTab cX11_enter tX11_enter := kTab_of (by decide +kernel)
def tX11_append : List (Nat × Instr × Nat) := [(0, (.aload_n 0), 1), (1, (.iconst 0), 1), (2, (.putfield 48), 3), (5, (.iconst 0), 1), (6, (.istore_n 2), 1), (7, (.bipush 24), 2), (9, (.istore_n 3), 1), (10, (.iload_n 3), 1), (11, (.ifCond .lt 54), 3), (14, (.iload_n 1), 1), (15, (.iload_n 3), 1), (16, .iushr, 1), (17, (.sipush 255), 3), (20, .iand, 1), (21, (.istore 4), 2), (23, (.iload 4), 2), (25, (.ifCond .eq 21), 3), (28, (.iload 4), 2), (30, (.bipush 33), 2), (32, (.bipush 126), 2), (34, (.invokestatic 51), 3), (37, (.ifCond .ne 9), 3), (40, (.aload_n 0), 1), (41, (.iconst 1), 1), (42, (.invokevirtual 177), 3), (45, .ireturn, 1), (46, (.iload_n 2), 1), (47, (.iload 4), 2), (49, (.ifCond .eq 7), 3), (52, (.iconst 1), 1), (53, (.goto 4), 3), (56, (.iconst 0), 1), (57, .iadd, 1), (58, (.istore_n 2), 1), (59, (.iinc 3 (-8)), 3), (62, (.goto (-52)), 3), (65, (.aload_n 0), 1), (66, (.getfield 228), 3), (69, (.iload_n 2), 1), (70, .iadd, 1), (71, (.bipush 60), 2), (73, (.if_icmp .le 9), 3), (76, (.aload_n 0), 1), (77, (.iconst 2), 1), (78, (.invokevirtual 177), 3), (81, .ireturn, 1), (82, (.bipush 24), 2), (84, (.istore_n 3), 1), (85, (.iload_n 3), 1), (86, (.ifCond .lt 44), 3), (89, (.iload_n 1), 1), (90, (.iload_n 3), 1), (91, .iushr, 1), (92, (.sipush 255), 3), (95, .iand, 1), (96, (.istore 4), 2), (98, (.iload 4), 2), (100, (.ifCond .eq 24), 3), (103, (.aload_n 0), 1), (104, (.getfield 22), 3), (107, (.aload_n 0), 1), (108, (.getfield 228), 3), (111, (.iload 4), 2), (113, .iastore, 1), (114, (.aload_n 0), 1), (115, .dup, 1), (116, (.getfield 228), 3), (119, (.iconst 1), 1), (120, .iadd, 1), (121, (.putfield 228), 3), (124, (.iinc 3 (-8)), 3), (127, (.goto (-42)), 3), (130, (.aload_n 0), 1), (131, (.getfield 228), 3), (134, .ireturn, 1)]
set_option maxRecDepth 100000 in
theorem tX11_append_ok : kTab cX11_append tX11_append := kTab_of (by decide +kernel)
def tX11_here : List (Nat × Instr × Nat) := [(0, (.aload_n 0), 1), (1, (.getfield 231), 3), (4, (.aload_n 0), 1), (5, (.getfield 228), 3), (8, (.if_icmp .ge 15), 3), (11, (.aload_n 0), 1), (12, (.getfield 22), 3), (15, (.aload_n 0), 1), (16, (.getfield 231), 3), (19, .iaload, 1), (20, (.goto 4), 3), (23, (.iconst (-1)), 1), (24, .ireturn, 1)]
set_option maxRecDepth 100000 in
theorem tX11_here_ok : kTab cX11_here tX11_here := kTab_of (by decide +kernel)
def tX11_must : List (Nat × Instr × Nat) := [(0, (.aload_n 0), 1), (1, (.aload_n 0), 1), (2, (.getfield 234), 3), (5, (.ifCond .eq 15), 3), (8, (.aload_n 0), 1), (9, (.invokevirtual 238), 3), (12, (.iload_n 1), 1), (13, (.if_icmp .ne 7), 3), (16, (.iconst 1), 1), (17, (.goto 4), 3), (20, (.iconst 0), 1), (21, (.putfield 234), 3), (24, (.aload_n 0), 1), (25, .dup, 1), (26, (.getfield 231), 3), (29, (.aload_n 0), 1), (30, (.getfield 234), 3), (33, (.ifCond .eq 7), 3), (36, (.iconst 1), 1), (37, (.goto 4), 3), (40, (.iconst 0), 1), (41, .iadd, 1), (42, (.putfield 231), 3), (45, .return_, 1)]
set_option maxRecDepth 100000 in
theorem tX11_must_ok : kTab cX11_must tX11_must := kTab_of (by decide +kernel)
def tX11_digit : List (Nat × Instr × Nat) := [(0, (.aload_n 0), 1), (1, (.aload_n 0), 1), (2, (.getfield 234), 3), (5, (.ifCond .eq 20), 3), (8, (.aload_n 0), 1), (9, (.invokevirtual 238), 3), (12, (.bipush 48), 2), (14, (.iload_n 1), 1), (15, (.invokestatic 51), 3), (18, (.ifCond .eq 7), 3), (21, (.iconst 1), 1), (22, (.goto 4), 3), (25, (.iconst 0), 1), (26, (.putfield 234), 3), (29, (.aload_n 0), 1), (30, (.getfield 234), 3), (33, (.ifCond .ne 5), 3), (36, (.iconst 0), 1), (37, .ireturn, 1), (38, (.aload_n 0), 1), (39, .dup, 1), (40, (.getfield 231), 3), (43, (.iconst 1), 1), (44, .iadd, 1), (45, (.putfield 231), 3), (48, (.aload_n 0), 1), (49, (.getfield 22), 3), (52, (.aload_n 0), 1), (53, (.getfield 231), 3), (56, (.iconst 1), 1), (57, .isub, 1), (58, .iaload, 1), (59, (.bipush 48), 2), (61, .isub, 1), (62, .ireturn, 1)]
set_option maxRecDepth 100000 in
theorem tX11_digit_ok : kTab cX11_digit tX11_digit := kTab_of (by decide +kernel)
def tX11_readsEntry : List (Nat × Instr × Nat) := [(0, (.aload_n 0), 1), (1, (.aload_n 0), 1), (2, (.bipush 55), 2), (4, (.invokevirtual 241), 3), (7, (.putfield 245), 3), (10, (.aload_n 0), 1), (11, (.bipush 61), 2), (13, (.invokevirtual 248), 3), (16, (.aload_n 0), 1), (17, (.aload_n 0), 1), (18, (.bipush 57), 2), (20, (.invokevirtual 241), 3), (23, (.putfield 251), 3), (26, (.aload_n 0), 1), (27, (.getfield 234), 3), (30, (.ifCond .eq 42), 3), (33, (.aload_n 0), 1), (34, (.getfield 251), 3), (37, (.ifCond .le 35), 3), (40, (.aload_n 0), 1), (41, (.invokevirtual 238), 3), (44, (.bipush 48), 2), (46, (.bipush 57), 2), (48, (.invokestatic 51), 3), (51, (.ifCond .eq 21), 3), (54, (.aload_n 0), 1), (55, (.bipush 10), 2), (57, (.aload_n 0), 1), (58, (.getfield 251), 3), (61, .imul, 1), (62, (.aload_n 0), 1), (63, (.bipush 57), 2), (65, (.invokevirtual 241), 3), (68, .iadd, 1), (69, (.putfield 251), 3), (72, .return_, 1)]
set_option maxRecDepth 100000 in
theorem tX11_readsEntry_ok : kTab cX11_readsEntry tX11_readsEntry := kTab_of (by decide +kernel)
def tX11_isSheet : List (Nat × Instr × Nat) := [(0, (.aload_n 0), 1), (1, (.iconst 0), 1), (2, (.putfield 231), 3), (5, (.aload_n 0), 1), (6, (.iconst 1), 1), (7, (.putfield 234), 3), (10, (.aload_n 0), 1), (11, (.bipush 51), 2), (13, (.invokevirtual 241), 3), (16, .pop, 1), (17, (.aload_n 0), 1), (18, (.bipush 47), 2), (20, (.invokevirtual 248), 3), (23, (.aload_n 0), 1), (24, (.bipush 52), 2), (26, (.invokevirtual 241), 3), (29, .pop, 1), (30, (.aload_n 0), 1), (31, (.bipush 58), 2), (33, (.invokevirtual 248), 3), (36, (.aload_n 0), 1), (37, (.invokevirtual 254), 3), (40, (.aload_n 0), 1), (41, (.getfield 234), 3), (44, (.ifCond .eq 29), 3), (47, (.aload_n 0), 1), (48, (.invokevirtual 238), 3), (51, (.bipush 44), 2), (53, (.if_icmp .ne 20), 3), (56, (.aload_n 0), 1), (57, .dup, 1), (58, (.getfield 231), 3), (61, (.iconst 1), 1), (62, .iadd, 1), (63, (.putfield 231), 3), (66, (.aload_n 0), 1), (67, (.invokevirtual 254), 3), (70, (.goto (-30)), 3), (73, (.aload_n 0), 1), (74, (.aload_n 0), 1), (75, (.getfield 234), 3), (78, (.ifCond .eq 18), 3), (81, (.aload_n 0), 1), (82, (.getfield 231), 3), (85, (.aload_n 0), 1), (86, (.getfield 228), 3), (89, (.if_icmp .ne 7), 3), (92, (.iconst 1), 1), (93, (.goto 4), 3), (96, (.iconst 0), 1), (97, (.putfield 234), 3), (100, (.aload_n 0), 1), (101, (.getfield 234), 3), (104, .ireturn, 1)]
set_option maxRecDepth 100000 in
theorem tX11_isSheet_ok : kTab cX11_isSheet tX11_isSheet := kTab_of (by decide +kernel)
def tX11_sheet : List (Nat × Instr × Nat) := [(0, (.aload_n 0), 1), (1, (.iconst 0), 1), (2, (.putfield 48), 3), (5, (.aload_n 0), 1), (6, (.invokevirtual 257), 3), (9, (.istore_n 1), 1), (10, (.aload_n 0), 1), (11, (.iload_n 1), 1), (12, (.ifCond .eq 7), 3), (15, (.iconst (-1)), 1), (16, (.goto 7), 3), (19, (.aload_n 0), 1), (20, (.getfield 231), 3), (23, (.putfield 25), 3), (26, (.aload_n 0), 1), (27, (.getfield 228), 3), (30, (.istore_n 2), 1), (31, (.aload_n 0), 1), (32, (.iconst 0), 1), (33, (.putfield 228), 3), (36, (.iload_n 1), 1), (37, (.ifCond .ne 9), 3), (40, (.aload_n 0), 1), (41, (.iconst 1), 1), (42, (.invokevirtual 177), 3), (45, .ireturn, 1), (46, (.aload_n 0), 1), (47, (.invokevirtual 58), 3), (50, (.aload_n 0), 1), (51, (.iload_n 2), 1), (52, (.putfield 228), 3), (55, (.aload_n 0), 1), (56, (.iconst 0), 1), (57, (.putfield 231), 3), (60, (.aload_n 0), 1), (61, (.bipush 51), 2), (63, (.invokevirtual 241), 3), (66, (.istore_n 3), 1), (67, (.aload_n 0), 1), (68, .dup, 1), (69, (.getfield 231), 3), (72, (.iconst 1), 1), (73, .iadd, 1), (74, (.putfield 231), 3), (77, (.aload_n 0), 1), (78, (.bipush 52), 2), (80, (.invokevirtual 241), 3), (83, (.istore 4), 2), (85, (.iconst 0), 1), (86, (.istore 5), 2), (88, (.iconst 0), 1), (89, (.istore 6), 2), (91, (.iload 6), 2), (93, (.ifCond .ne 83), 3), (96, (.aload_n 0), 1), (97, (.getfield 231), 3), (100, (.aload_n 0), 1), (101, (.getfield 228), 3), (104, (.if_icmp .ge 72), 3), (107, (.aload_n 0), 1), (108, .dup, 1), (109, (.getfield 231), 3), (112, (.iconst 1), 1), (113, .iadd, 1), (114, (.putfield 231), 3), (117, (.aload_n 0), 1), (118, (.invokevirtual 254), 3), (121, (.aload_n 0), 1), (122, (.iload_n 3), 1), (123, (.aload_n 0), 1), (124, (.getfield 245), 3), (127, (.iload 4), 2), (129, (.aload_n 0), 1), (130, (.getfield 251), 3), (133, (.invokevirtual 217), 3), (136, (.istore 6), 2), (138, (.iload 6), 2), (140, (.ifCond .ne 18), 3), (143, (.aload_n 0), 1), (144, (.iload_n 3), 1), (145, (.aload_n 0), 1), (146, (.getfield 245), 3), (149, (.iload 4), 2), (151, (.aload_n 0), 1), (152, (.getfield 251), 3), (155, (.invokevirtual 224), 3), (158, (.iload 5), 2), (160, (.iload 6), 2), (162, (.ifCond .ne 7), 3), (165, (.iconst 1), 1), (166, (.goto 4), 3), (169, (.iconst 0), 1), (170, .iadd, 1), (171, (.istore 5), 2), (173, (.goto (-82)), 3), (176, (.aload_n 0), 1), (177, (.iconst 0), 1), (178, (.putfield 228), 3), (181, (.iload 6), 2), (183, (.ifCond .ne 10), 3), (186, (.aload_n 0), 1), (187, (.invokevirtual 61), 3), (190, (.iload 5), 2), (192, .ireturn, 1), (193, (.iconst 0), 1), (194, (.istore 7), 2), (196, (.iload 7), 2), (198, (.sipush 779), 3), (201, (.if_icmp .ge 23), 3), (204, (.aload_n 0), 1), (205, (.getfield 7), 3), (208, (.iload 7), 2), (210, (.aload_n 0), 1), (211, (.getfield 16), 3), (214, (.iload 7), 2), (216, .iaload, 1), (217, .iastore, 1), (218, (.iinc 7 1), 3), (221, (.goto (-25)), 3), (224, (.aload_n 0), 1), (225, (.iconst 1), 1), (226, (.iload 5), 2), (228, (.iload 6), 2), (230, (.aload_n 0), 1), (231, (.getfield 205), 3), (234, (.iconst 2), 1), (235, (.invokevirtual 221), 3), (238, .ireturn, 1)]
set_option maxRecDepth 100000 in
theorem tX11_sheet_ok : kTab cX11_sheet tX11_sheet := kTab_of (by decide +kernel)
def tX11_errorPosition : List (Nat × Instr × Nat) := [(0, (.aload_n 0), 1), (1, (.iconst 0), 1), (2, (.putfield 48), 3), (5, (.aload_n 0), 1), (6, (.getfield 25), 3), (9, .ireturn, 1)]
set_option maxRecDepth 100000 in
theorem tX11_errorPosition_ok : kTab cX11_errorPosition tX11_errorPosition := kTab_of (by decide +kernel)
def tX11_scriptRefusal : List (Nat × Instr × Nat) := [(0, (.aload_n 0), 1), (1, (.iload_n 1), 1), (2, (.invokestatic 214), 3), (5, (.ifCond .eq 14), 3), (8, (.iload_n 2), 1), (9, (.invokestatic 180), 3), (12, (.ifCond .eq 7), 3), (15, (.iconst 0), 1), (16, (.goto 4), 3), (19, (.iconst 1), 1), (20, (.putfield 48), 3), (23, (.aload_n 0), 1), (24, (.getfield 48), 3), (27, .ireturn, 1)]
set_option maxRecDepth 100000 in
theorem tX11_scriptRefusal_ok : kTab cX11_scriptRefusal tX11_scriptRefusal := kTab_of (by decide +kernel)
def tX11_entry : List (Nat × Instr × Nat) := [(0, (.aload_n 0), 1), (1, (.iload_n 1), 1), (2, (.iload_n 2), 1), (3, (.invokevirtual 260), 3), (6, (.ifCond .le 5), 3), (9, (.iconst 0), 1), (10, .ireturn, 1), (11, (.iload_n 3), 1), (12, (.ifCond .ge 7), 3), (15, (.iconst (-1)), 1), (16, (.goto 10), 3), (19, (.aload_n 0), 1), (20, (.iload_n 1), 1), (21, (.iload_n 2), 1), (22, (.iload_n 3), 1), (23, (.invokevirtual 263), 3), (26, (.istore 5), 2), (28, (.iload 5), 2), (30, (.iconst (-1)), 1), (31, (.if_icmp .ne 9), 3), (34, (.aload_n 0), 1), (35, (.iconst 2), 1), (36, (.invokevirtual 177), 3), (39, .ireturn, 1), (40, (.iload 4), 2), (42, (.tableswitch 68 0 3 #[30, 38, 46, 53]), 30), (72, (.aload_n 0), 1), (73, (.iload 5), 2), (75, (.iconst 0), 1), (76, (.invokevirtual 81), 3), (79, .ireturn, 1), (80, (.aload_n 0), 1), (81, (.iload 5), 2), (83, (.iconst 3), 1), (84, (.invokevirtual 81), 3), (87, .ireturn, 1), (88, (.aload_n 0), 1), (89, (.iload 5), 2), (91, (.invokevirtual 102), 3), (94, .ireturn, 1), (95, (.aload_n 0), 1), (96, (.iload 5), 2), (98, (.invokevirtual 98), 3), (101, (.ifCond .eq 7), 3), (104, (.iconst 1), 1), (105, (.goto 4), 3), (108, (.iconst 0), 1), (109, .ireturn, 1), (110, (.aload_n 0), 1), (111, (.iconst 3), 1), (112, (.invokevirtual 177), 3), (115, .ireturn, 1)]
set_option maxRecDepth 100000 in
theorem tX11_entry_ok : kTab cX11_entry tX11_entry := kTab_of (by decide +kernel)
def tX11_script : List (Nat × Instr × Nat) := [(0, (.aload_n 0), 1), (1, (.iload_n 1), 1), (2, (.iload_n 2), 1), (3, (.invokevirtual 260), 3), (6, (.ifCond .le 5), 3), (9, (.iconst 0), 1), (10, .ireturn, 1), (11, (.aload_n 0), 1), (12, (.iload_n 1), 1), (13, (.iload_n 2), 1), (14, (.invokevirtual 108), 3), (17, (.iload_n 3), 1), (18, (.tableswitch 68 0 4 #[34, 41, 48, 53, 60]), 34), (52, (.aload_n 0), 1), (53, (.iload_n 1), 1), (54, (.iload_n 2), 1), (55, (.invokevirtual 118), 3), (58, .ireturn, 1), (59, (.aload_n 0), 1), (60, (.iload_n 1), 1), (61, (.iload_n 2), 1), (62, (.invokevirtual 211), 3), (65, .ireturn, 1), (66, (.aload_n 0), 1), (67, (.getfield 95), 3), (70, .ireturn, 1), (71, (.aload_n 0), 1), (72, (.iload_n 1), 1), (73, (.iload_n 2), 1), (74, (.invokevirtual 266), 3), (77, .ireturn, 1), (78, (.aload_n 0), 1), (79, (.iload_n 1), 1), (80, (.iload_n 2), 1), (81, (.iconst 0), 1), (82, (.invokevirtual 105), 3), (85, .ireturn, 1), (86, (.aload_n 0), 1), (87, (.iconst 2), 1), (88, (.invokevirtual 177), 3), (91, .ireturn, 1)]
set_option maxRecDepth 100000 in
theorem tX11_script_ok : kTab cX11_script tX11_script := kTab_of (by decide +kernel)
def tX11_bits : List (Nat × Instr × Nat) := [(0, (.iconst 0), 1), (1, (.istore_n 1), 1), (2, (.iconst 0), 1), (3, (.istore_n 2), 1), (4, (.iload_n 2), 1), (5, (.iconst 5), 1), (6, (.if_icmp .ge 17), 3), (9, (.iload_n 1), 1), (10, (.iload_n 0), 1), (11, (.iload_n 2), 1), (12, .ishr, 1), (13, (.iconst 1), 1), (14, .iand, 1), (15, .iadd, 1), (16, (.istore_n 1), 1), (17, (.iinc 2 1), 3), (20, (.goto (-16)), 3), (23, (.iload_n 1), 1), (24, .ireturn, 1)]
set_option maxRecDepth 100000 in
theorem tX11_bits_ok : kTab cX11_bits tX11_bits := kTab_of (by decide +kernel)
def tX11_excuse : List (Nat × Instr × Nat) := [(0, (.aload_n 0), 1), (1, (.iload_n 1), 1), (2, (.iload_n 2), 1), (3, (.invokevirtual 260), 3), (6, (.ifCond .le 5), 3), (9, (.iconst 0), 1), (10, .ireturn, 1), (11, (.aload_n 0), 1), (12, (.iload_n 1), 1), (13, (.iload_n 2), 1), (14, (.invokevirtual 121), 3), (17, (.istore 4), 2), (19, (.aload_n 0), 1), (20, (.aload_n 0), 1), (21, (.invokevirtual 183), 3), (24, (.ifCond .eq 7), 3), (27, (.iconst 2), 1), (28, (.goto 34), 3), (31, (.iload_n 3), 1), (32, (.ifCond .eq 29), 3), (35, (.iload 4), 2), (37, (.ifCond .ne 24), 3), (40, (.aload_n 0), 1), (41, (.getfield 7), 3), (44, (.sipush 625), 3), (47, (.iload_n 1), 1), (48, .iadd, 1), (49, .iaload, 1), (50, (.invokestatic 269), 3), (53, (.iconst 2), 1), (54, (.if_icmp .ne 7), 3), (57, (.iconst 3), 1), (58, (.goto 4), 3), (61, (.iconst 0), 1), (62, (.putfield 48), 3), (65, (.aload_n 0), 1), (66, (.getfield 48), 3), (69, (.ifCond .le 5), 3), (72, (.iconst 0), 1), (73, .ireturn, 1), (74, (.aload_n 0), 1), (75, (.invokevirtual 190), 3), (78, (.aload_n 0), 1), (79, (.getfield 7), 3), (82, (.sipush 625), 3), (85, (.iload_n 1), 1), (86, .iadd, 1), (87, (.aload_n 0), 1), (88, (.getfield 7), 3), (91, (.sipush 625), 3), (94, (.iload_n 1), 1), (95, .iadd, 1), (96, .iaload, 1), (97, (.iconst 1), 1), (98, (.iload_n 2), 1), (99, .ishl, 1), (100, (.iconst (-1)), 1), (101, .ixor, 1), (102, .iand, 1), (103, (.iload_n 3), 1), (104, (.ifCond .eq 9), 3), (107, (.iconst 1), 1), (108, (.iload_n 2), 1), (109, .ishl, 1), (110, (.goto 4), 3), (113, (.iconst 0), 1), (114, .ior, 1), (115, .iastore, 1), (116, (.iload 4), 2), (118, .ireturn, 1)]
set_option maxRecDepth 100000 in
theorem tX11_excuse_ok : kTab cX11_excuse tX11_excuse := kTab_of (by decide +kernel)
def tX11_raise : List (Nat × Instr × Nat) := [(0, (.aload_n 0), 1), (1, (.iconst 0), 1), (2, (.putfield 48), 3), (5, (.iload_n 1), 1), (6, (.invokestatic 214), 3), (9, (.ifCond .ne 9), 3), (12, (.aload_n 0), 1), (13, (.iconst 1), 1), (14, (.invokevirtual 177), 3), (17, .ireturn, 1), (18, (.iload_n 2), 1), (19, (.iconst 0), 1), (20, (.bipush 10), 2), (22, (.invokestatic 51), 3), (25, (.ifCond .ne 9), 3), (28, (.aload_n 0), 1), (29, (.iconst 2), 1), (30, (.invokevirtual 177), 3), (33, .ireturn, 1), (34, (.aload_n 0), 1), (35, (.invokevirtual 183), 3), (38, (.ifCond .eq 9), 3), (41, (.aload_n 0), 1), (42, (.iconst 3), 1), (43, (.invokevirtual 177), 3), (46, .ireturn, 1), (47, (.aload_n 0), 1), (48, (.invokevirtual 190), 3), (51, (.aload_n 0), 1), (52, (.getfield 7), 3), (55, (.sipush 633), 3), (58, (.iload_n 1), 1), (59, .iadd, 1), (60, .iaload, 1), (61, (.istore_n 3), 1), (62, (.aload_n 0), 1), (63, (.getfield 7), 3), (66, (.sipush 633), 3), (69, (.iload_n 1), 1), (70, .iadd, 1), (71, (.iload_n 2), 1), (72, .iastore, 1), (73, (.iload_n 3), 1), (74, .ireturn, 1)]
set_option maxRecDepth 100000 in
theorem tX11_raise_ok : kTab cX11_raise tX11_raise := kTab_of (by decide +kernel)
def tX11_pointAt : List (Nat × Instr × Nat) := [(0, (.iconst 0), 1), (1, (.istore_n 2), 1), (2, (.iload_n 2), 1), (3, (.aload_n 0), 1), (4, (.getfield 7), 3), (7, (.sipush 641), 3), (10, .iaload, 1), (11, (.if_icmp .ge 27), 3), (14, (.aload_n 0), 1), (15, (.getfield 7), 3), (18, (.sipush 642), 3), (21, (.iconst 2), 1), (22, (.iload_n 2), 1), (23, .imul, 1), (24, .iadd, 1), (25, .iaload, 1), (26, (.iload_n 1), 1), (27, (.if_icmp .ne 5), 3), (30, (.iload_n 2), 1), (31, .ireturn, 1), (32, (.iinc 2 1), 3), (35, (.goto (-33)), 3), (38, (.iconst (-1)), 1), (39, .ireturn, 1)]
set_option maxRecDepth 100000 in
theorem tX11_pointAt_ok : kTab cX11_pointAt tX11_pointAt := kTab_of (by decide +kernel)
def tX11_setPoint : List (Nat × Instr × Nat) := [(0, (.aload_n 0), 1), (1, (.iconst 0), 1), (2, (.putfield 48), 3), (5, (.iload_n 1), 1), (6, (.iconst 0), 1), (7, (.sipush 200), 3), (10, (.invokestatic 51), 3), (13, (.ifCond .eq 13), 3), (16, (.iload_n 2), 1), (17, (.iconst 0), 1), (18, (.bipush 100), 2), (20, (.invokestatic 51), 3), (23, (.ifCond .ne 9), 3), (26, (.aload_n 0), 1), (27, (.iconst 1), 1), (28, (.invokevirtual 177), 3), (31, .ireturn, 1), (32, (.aload_n 0), 1), (33, (.invokevirtual 183), 3), (36, (.ifCond .eq 9), 3), (39, (.aload_n 0), 1), (40, (.iconst 2), 1), (41, (.invokevirtual 177), 3), (44, .ireturn, 1), (45, (.aload_n 0), 1), (46, (.iload_n 1), 1), (47, (.invokevirtual 272), 3), (50, (.istore_n 3), 1), (51, (.iload_n 3), 1), (52, (.iconst (-1)), 1), (53, (.if_icmp .ne 21), 3), (56, (.aload_n 0), 1), (57, (.getfield 7), 3), (60, (.sipush 641), 3), (63, .iaload, 1), (64, (.iconst 5), 1), (65, (.if_icmp .ne 9), 3), (68, (.aload_n 0), 1), (69, (.iconst 3), 1), (70, (.invokevirtual 177), 3), (73, .ireturn, 1), (74, (.aload_n 0), 1), (75, (.invokevirtual 190), 3), (78, (.iload_n 3), 1), (79, (.iconst (-1)), 1), (80, (.if_icmp .ne 106), 3), (83, (.aload_n 0), 1), (84, (.getfield 7), 3), (87, (.sipush 641), 3), (90, .iaload, 1), (91, (.istore_n 3), 1), (92, (.aload_n 0), 1), (93, (.getfield 7), 3), (96, (.sipush 641), 3), (99, .dup2, 1), (100, .iaload, 1), (101, (.iconst 1), 1), (102, .iadd, 1), (103, .iastore, 1), (104, (.iload_n 3), 1), (105, (.ifCond .le 81), 3), (108, (.aload_n 0), 1), (109, (.getfield 7), 3), (112, (.sipush 642), 3), (115, (.iconst 2), 1), (116, (.iload_n 3), 1), (117, .imul, 1), (118, .iadd, 1), (119, (.iconst 2), 1), (120, .isub, 1), (121, .iaload, 1), (122, (.iload_n 1), 1), (123, (.if_icmp .le 63), 3), (126, (.aload_n 0), 1), (127, (.getfield 7), 3), (130, (.sipush 642), 3), (133, (.iconst 2), 1), (134, (.iload_n 3), 1), (135, .imul, 1), (136, .iadd, 1), (137, (.aload_n 0), 1), (138, (.getfield 7), 3), (141, (.sipush 642), 3), (144, (.iconst 2), 1), (145, (.iload_n 3), 1), (146, .imul, 1), (147, .iadd, 1), (148, (.iconst 2), 1), (149, .isub, 1), (150, .iaload, 1), (151, .iastore, 1), (152, (.aload_n 0), 1), (153, (.getfield 7), 3), (156, (.sipush 642), 3), (159, (.iconst 2), 1), (160, (.iload_n 3), 1), (161, .imul, 1), (162, .iadd, 1), (163, (.iconst 1), 1), (164, .iadd, 1), (165, (.aload_n 0), 1), (166, (.getfield 7), 3), (169, (.sipush 642), 3), (172, (.iconst 2), 1), (173, (.iload_n 3), 1), (174, .imul, 1), (175, .iadd, 1), (176, (.iconst 1), 1), (177, .isub, 1), (178, .iaload, 1), (179, .iastore, 1), (180, (.iinc 3 (-1)), 3), (183, (.goto (-79)), 3), (186, (.aload_n 0), 1), (187, (.getfield 7), 3), (190, (.sipush 642), 3), (193, (.iconst 2), 1), (194, (.iload_n 3), 1), (195, .imul, 1), (196, .iadd, 1), (197, (.iload_n 1), 1), (198, .iastore, 1), (199, (.aload_n 0), 1), (200, (.getfield 7), 3), (203, (.sipush 642), 3), (206, (.iconst 2), 1), (207, (.iload_n 3), 1), (208, .imul, 1), (209, .iadd, 1), (210, (.iconst 1), 1), (211, .iadd, 1), (212, (.iload_n 2), 1), (213, .iastore, 1), (214, (.aload_n 0), 1), (215, (.getfield 7), 3), (218, (.sipush 641), 3), (221, .iaload, 1), (222, .ireturn, 1)]
set_option maxRecDepth 100000 in
theorem tX11_setPoint_ok : kTab cX11_setPoint tX11_setPoint := kTab_of (by decide +kernel)
def tX11_removePoint : List (Nat × Instr × Nat) := [(0, (.aload_n 0), 1), (1, (.iconst 0), 1), (2, (.putfield 48), 3), (5, (.aload_n 0), 1), (6, (.invokevirtual 183), 3), (9, (.ifCond .eq 9), 3), (12, (.aload_n 0), 1), (13, (.iconst 1), 1), (14, (.invokevirtual 177), 3), (17, .ireturn, 1), (18, (.aload_n 0), 1), (19, (.iload_n 1), 1), (20, (.invokevirtual 272), 3), (23, (.istore_n 2), 1), (24, (.iload_n 2), 1), (25, (.iconst (-1)), 1), (26, (.if_icmp .ne 9), 3), (29, (.aload_n 0), 1), (30, (.iconst 2), 1), (31, (.invokevirtual 177), 3), (34, .ireturn, 1), (35, (.aload_n 0), 1), (36, (.invokevirtual 190), 3), (39, (.aload_n 0), 1), (40, (.getfield 7), 3), (43, (.sipush 642), 3), (46, (.iconst 2), 1), (47, (.iload_n 2), 1), (48, .imul, 1), (49, .iadd, 1), (50, (.iconst 1), 1), (51, .iadd, 1), (52, .iaload, 1), (53, (.istore_n 3), 1), (54, (.aload_n 0), 1), (55, (.getfield 7), 3), (58, (.sipush 641), 3), (61, .dup2, 1), (62, .iaload, 1), (63, (.iconst 1), 1), (64, .isub, 1), (65, .iastore, 1), (66, (.iconst 2), 1), (67, (.iload_n 2), 1), (68, .imul, 1), (69, (.istore 4), 2), (71, (.iload 4), 2), (73, (.iconst 2), 1), (74, (.aload_n 0), 1), (75, (.getfield 7), 3), (78, (.sipush 641), 3), (81, .iaload, 1), (82, .imul, 1), (83, (.if_icmp .ge 33), 3), (86, (.aload_n 0), 1), (87, (.getfield 7), 3), (90, (.sipush 642), 3), (93, (.iload 4), 2), (95, .iadd, 1), (96, (.aload_n 0), 1), (97, (.getfield 7), 3), (100, (.sipush 642), 3), (103, (.iload 4), 2), (105, .iadd, 1), (106, (.iconst 2), 1), (107, .iadd, 1), (108, .iaload, 1), (109, .iastore, 1), (110, (.iinc 4 1), 3), (113, (.goto (-42)), 3), (116, (.iload_n 3), 1), (117, .ireturn, 1)]
set_option maxRecDepth 100000 in
theorem tX11_removePoint_ok : kTab cX11_removePoint tX11_removePoint := kTab_of (by decide +kernel)
def tX11_curve : List (Nat × Instr × Nat) := [(0, (.aload_n 0), 1), (1, (.iconst 0), 1), (2, (.putfield 48), 3), (5, (.iload_n 1), 1), (6, (.iconst 0), 1), (7, (.aload_n 0), 1), (8, (.invokevirtual 124), 3), (11, (.invokestatic 51), 3), (14, (.ifCond .eq 13), 3), (17, (.aload_n 0), 1), (18, (.iload_n 1), 1), (19, .i2l, 1), (20, (.lconst 1), 1), (21, (.invokevirtual 153), 3), (24, (.goto 8), 3), (27, (.aload_n 0), 1), (28, (.iconst 1), 1), (29, (.invokevirtual 177), 3), (32, .ireturn, 1)]
set_option maxRecDepth 100000 in
theorem tX11_curve_ok : kTab cX11_curve tX11_curve := kTab_of (by decide +kernel)
def tX11_setBoundary : List (Nat × Instr × Nat) := [(0, (.aload_n 0), 1), (1, (.iconst 0), 1), (2, (.putfield 48), 3), (5, (.iload_n 1), 1), (6, (.iconst 0), 1), (7, (.iconst 3), 1), (8, (.invokestatic 51), 3), (11, (.ifCond .ne 9), 3), (14, (.aload_n 0), 1), (15, (.iconst 1), 1), (16, (.invokevirtual 177), 3), (19, .ireturn, 1), (20, (.iload_n 1), 1), (21, (.ifCond .eq 18), 3), (24, (.iload_n 2), 1), (25, (.aload_n 0), 1), (26, (.getfield 7), 3), (29, (.bipush 10), 2), (31, (.iload_n 1), 1), (32, .iadd, 1), (33, (.iconst 1), 1), (34, .isub, 1), (35, .iaload, 1), (36, (.if_icmp .ge 7), 3), (39, (.iconst 1), 1), (40, (.goto 4), 3), (43, (.iconst 0), 1), (44, (.istore_n 3), 1), (45, (.iload_n 1), 1), (46, (.iconst 3), 1), (47, (.if_icmp .eq 18), 3), (50, (.iload_n 2), 1), (51, (.aload_n 0), 1), (52, (.getfield 7), 3), (55, (.bipush 10), 2), (57, (.iload_n 1), 1), (58, .iadd, 1), (59, (.iconst 1), 1), (60, .iadd, 1), (61, .iaload, 1), (62, (.if_icmp .le 7), 3), (65, (.iconst 1), 1), (66, (.goto 4), 3), (69, (.iconst 0), 1), (70, (.istore 4), 2), (72, (.iload_n 2), 1), (73, (.iconst 1), 1), (74, (.bipush 100), 2), (76, (.invokestatic 51), 3), (79, (.ifCond .eq 12), 3), (82, (.iload_n 3), 1), (83, (.ifCond .eq 8), 3), (86, (.iload 4), 2), (88, (.ifCond .ne 9), 3), (91, (.aload_n 0), 1), (92, (.iconst 2), 1), (93, (.invokevirtual 177), 3), (96, .ireturn, 1), (97, (.aload_n 0), 1), (98, (.invokevirtual 183), 3), (101, (.ifCond .eq 9), 3), (104, (.aload_n 0), 1), (105, (.iconst 3), 1), (106, (.invokevirtual 177), 3), (109, .ireturn, 1), (110, (.aload_n 0), 1), (111, (.invokevirtual 190), 3), (114, (.aload_n 0), 1), (115, (.getfield 7), 3), (118, (.bipush 10), 2), (120, (.iload_n 1), 1), (121, .iadd, 1), (122, .iaload, 1), (123, (.istore 5), 2), (125, (.aload_n 0), 1), (126, (.getfield 7), 3), (129, (.bipush 10), 2), (131, (.iload_n 1), 1), (132, .iadd, 1), (133, (.iload_n 2), 1), (134, .iastore, 1), (135, (.iload 5), 2), (137, .ireturn, 1)]
set_option maxRecDepth 100000 in
theorem tX11_setBoundary_ok : kTab cX11_setBoundary tX11_setBoundary := kTab_of (by decide +kernel)
def tX11_result : List (Nat × Instr × Nat) := [(0, (.aload_n 0), 1), (1, (.iload_n 1), 1), (2, (.invokestatic 214), 3), (5, (.ifCond .ne 7), 3), (8, (.iconst 1), 1), (9, (.goto 29), 3), (12, (.iload_n 2), 1), (13, (.iconst 0), 1), (14, (.iconst 5), 1), (15, (.invokestatic 51), 3), (18, (.ifCond .ne 7), 3), (21, (.iconst 2), 1), (22, (.goto 16), 3), (25, (.aload_n 0), 1), (26, (.iload_n 1), 1), (27, (.invokevirtual 115), 3), (30, (.ifCond .ne 7), 3), (33, (.iconst 3), 1), (34, (.goto 4), 3), (37, (.iconst 0), 1), (38, (.putfield 48), 3), (41, (.aload_n 0), 1), (42, (.getfield 48), 3), (45, (.ifCond .le 5), 3), (48, (.lconst 0), 1), (49, .lreturn, 1), (50, (.aload_n 0), 1), (51, (.iload_n 1), 1), (52, (.invokevirtual 168), 3), (55, (.aload_n 0), 1), (56, (.iload_n 1), 1), (57, (.invokevirtual 171), 3), (60, (.iload_n 2), 1), (61, (.tableswitch 63 0 4 #[35, 40, 45, 51, 57]), 35), (96, (.aload_n 0), 1), (97, (.getfield 136), 3), (100, .lreturn, 1), (101, (.aload_n 0), 1), (102, (.getfield 140), 3), (105, .lreturn, 1), (106, (.aload_n 0), 1), (107, (.getfield 156), 3), (110, .i2l, 1), (111, .lreturn, 1), (112, (.aload_n 0), 1), (113, (.getfield 159), 3), (116, .i2l, 1), (117, .lreturn, 1), (118, (.aload_n 0), 1), (119, (.getfield 165), 3), (122, .i2l, 1), (123, .lreturn, 1), (124, (.aload_n 0), 1), (125, (.getfield 165), 3), (128, (.aload_n 0), 1), (129, (.getfield 159), 3), (132, (.if_icmp .ge 7), 3), (135, (.lconst 1), 1), (136, (.goto 4), 3), (139, (.lconst 0), 1), (140, .lreturn, 1)]
set_option maxRecDepth 100000 in
theorem tX11_result_ok : kTab cX11_result tX11_result := kTab_of (by decide +kernel)
def tX11_recount : List (Nat × Instr × Nat) := [(0, (.aload_n 0), 1), (1, (.iconst 0), 1), (2, (.putfield 48), 3), (5, (.iload_n 1), 1), (6, (.invokestatic 214), 3), (9, (.ifCond .ne 9), 3), (12, (.aload_n 0), 1), (13, (.iconst 1), 1), (14, (.invokevirtual 177), 3), (17, .ireturn, 1), (18, (.iconst 0), 1), (19, (.istore_n 2), 1), (20, (.iconst 0), 1), (21, (.istore_n 3), 1), (22, (.iload_n 3), 1), (23, (.iconst 5), 1), (24, (.if_icmp .ge 31), 3), (27, (.iload_n 2), 1), (28, (.aload_n 0), 1), (29, (.iload_n 1), 1), (30, (.iload_n 3), 1), (31, (.invokevirtual 121), 3), (34, (.ifCond .eq 7), 3), (37, (.iconst 0), 1), (38, (.goto 9), 3), (41, (.aload_n 0), 1), (42, (.iload_n 1), 1), (43, (.iload_n 3), 1), (44, (.invokevirtual 118), 3), (47, .iadd, 1), (48, (.istore_n 2), 1), (49, (.iinc 3 1), 3), (52, (.goto (-30)), 3), (55, (.iload_n 2), 1), (56, .ireturn, 1)]
set_option maxRecDepth 100000 in
theorem tX11_recount_ok : kTab cX11_recount tX11_recount := kTab_of (by decide +kernel)
def tX11_isAhead : List (Nat × Instr × Nat) := [(0, (.aload_n 0), 1), (1, (.getfield 38), 3), (4, (.iload_n 1), 1), (5, .iaload, 1), (6, (.aload_n 0), 1), (7, (.getfield 38), 3), (10, (.iload_n 2), 1), (11, .iaload, 1), (12, (.if_icmp .eq 24), 3), (15, (.aload_n 0), 1), (16, (.getfield 38), 3), (19, (.iload_n 1), 1), (20, .iaload, 1), (21, (.aload_n 0), 1), (22, (.getfield 38), 3), (25, (.iload_n 2), 1), (26, .iaload, 1), (27, (.if_icmp .le 7), 3), (30, (.iconst 1), 1), (31, (.goto 4), 3), (34, (.iconst 0), 1), (35, .ireturn, 1), (36, (.aload_n 0), 1), (37, (.getfield 41), 3), (40, (.iload_n 1), 1), (41, .laload, 1), (42, (.aload_n 0), 1), (43, (.getfield 45), 3), (46, (.iload_n 2), 1), (47, .laload, 1), (48, .lmul, 1), (49, (.lstore_n 3), 1), (50, (.aload_n 0), 1), (51, (.getfield 41), 3), (54, (.iload_n 2), 1), (55, .laload, 1), (56, (.aload_n 0), 1), (57, (.getfield 45), 3), (60, (.iload_n 1), 1), (61, .laload, 1), (62, .lmul, 1), (63, (.lstore 5), 2), (65, (.lload_n 3), 1), (66, (.lload 5), 2), (68, .lcmp, 1), (69, (.ifCond .eq 18), 3), (72, (.lload_n 3), 1), (73, (.lload 5), 2), (75, .lcmp, 1), (76, (.ifCond .le 7), 3), (79, (.iconst 1), 1), (80, (.goto 17), 3), (83, (.iconst 0), 1), (84, (.goto 13), 3), (87, (.iload_n 1), 1), (88, (.iload_n 2), 1), (89, (.if_icmp .ge 7), 3), (92, (.iconst 1), 1), (93, (.goto 4), 3), (96, (.iconst 0), 1), (97, .ireturn, 1)]
set_option maxRecDepth 100000 in
theorem tX11_isAhead_ok : kTab cX11_isAhead tX11_isAhead := kTab_of (by decide +kernel)
def tX11_ranked : List (Nat × Instr × Nat) := [(0, (.aload_n 0), 1), (1, (.iconst 0), 1), (2, (.putfield 48), 3), (5, (.iconst 0), 1), (6, (.istore_n 2), 1), (7, (.iload_n 2), 1), (8, (.bipush 8), 2), (10, (.if_icmp .ge 49), 3), (13, (.aload_n 0), 1), (14, (.iload_n 2), 1), (15, (.invokevirtual 168), 3), (18, (.aload_n 0), 1), (19, (.iload_n 2), 1), (20, (.invokevirtual 171), 3), (23, (.aload_n 0), 1), (24, (.getfield 38), 3), (27, (.iload_n 2), 1), (28, (.aload_n 0), 1), (29, (.getfield 156), 3), (32, .iastore, 1), (33, (.aload_n 0), 1), (34, (.getfield 41), 3), (37, (.iload_n 2), 1), (38, (.aload_n 0), 1), (39, (.getfield 136), 3), (42, .lastore, 1), (43, (.aload_n 0), 1), (44, (.getfield 45), 3), (47, (.iload_n 2), 1), (48, (.aload_n 0), 1), (49, (.getfield 140), 3), (52, .lastore, 1), (53, (.iinc 2 1), 3), (56, (.goto (-49)), 3), (59, (.iconst 0), 1), (60, (.istore_n 2), 1), (61, (.iload_n 2), 1), (62, (.bipush 8), 2), (64, (.if_icmp .ge 75), 3), (67, (.iconst 0), 1), (68, (.istore_n 3), 1), (69, (.iconst 0), 1), (70, (.istore 4), 2), (72, (.iload 4), 2), (74, (.bipush 8), 2), (76, (.if_icmp .ge 42), 3), (79, (.iload_n 3), 1), (80, (.iload 4), 2), (82, (.iload_n 2), 1), (83, (.if_icmp .eq 26), 3), (86, (.aload_n 0), 1), (87, (.iload 4), 2), (89, (.invokevirtual 115), 3), (92, (.ifCond .eq 17), 3), (95, (.aload_n 0), 1), (96, (.iload 4), 2), (98, (.iload_n 2), 1), (99, (.invokevirtual 275), 3), (102, (.ifCond .eq 7), 3), (105, (.iconst 1), 1), (106, (.goto 4), 3), (109, (.iconst 0), 1), (110, .iadd, 1), (111, (.istore_n 3), 1), (112, (.iinc 4 1), 3), (115, (.goto (-43)), 3), (118, (.aload_n 0), 1), (119, (.iload_n 2), 1), (120, (.invokevirtual 115), 3), (123, (.ifCond .eq 10), 3), (126, (.iload_n 3), 1), (127, (.iload_n 1), 1), (128, (.if_icmp .ne 5), 3), (131, (.iload_n 2), 1), (132, .ireturn, 1), (133, (.iinc 2 1), 3), (136, (.goto (-75)), 3), (139, (.aload_n 0), 1), (140, (.iconst 1), 1), (141, (.invokevirtual 177), 3), (144, .ireturn, 1)]
set_option maxRecDepth 100000 in
theorem tX11_ranked_ok : kTab cX11_ranked tX11_ranked := kTab_of (by decide +kernel)
def tX11_graded : List (Nat × Instr × Nat) := [(0, (.aload_n 0), 1), (1, (.iconst 0), 1), (2, (.putfield 48), 3), (5, (.iload_n 1), 1), (6, (.iconst 0), 1), (7, (.iconst 4), 1), (8, (.invokestatic 51), 3), (11, (.ifCond .ne 9), 3), (14, (.aload_n 0), 1), (15, (.iconst 1), 1), (16, (.invokevirtual 177), 3), (19, .ireturn, 1), (20, (.iconst 0), 1), (21, (.istore_n 2), 1), (22, (.iconst 0), 1), (23, (.istore_n 3), 1), (24, (.iload_n 3), 1), (25, (.bipush 8), 2), (27, (.if_icmp .ge 34), 3), (30, (.iload_n 2), 1), (31, (.aload_n 0), 1), (32, (.iload_n 3), 1), (33, (.invokevirtual 115), 3), (36, (.ifCond .eq 16), 3), (39, (.aload_n 0), 1), (40, (.iload_n 3), 1), (41, (.invokevirtual 278), 3), (44, (.iload_n 1), 1), (45, (.if_icmp .ne 7), 3), (48, (.iconst 1), 1), (49, (.goto 4), 3), (52, (.iconst 0), 1), (53, .iadd, 1), (54, (.istore_n 2), 1), (55, (.iinc 3 1), 3), (58, (.goto (-34)), 3), (61, (.iload_n 2), 1), (62, .ireturn, 1)]
set_option maxRecDepth 100000 in
theorem tX11_graded_ok : kTab cX11_graded tX11_graded := kTab_of (by decide +kernel)
def tX11_gradeWith : List (Nat × Instr × Nat) := [(0, (.aload_n 0), 1), (1, (.iload_n 1), 1), (2, (.invokevirtual 168), 3), (5, (.aload_n 0), 1), (6, (.getfield 35), 3), (9, (.iload_n 2), 1), (10, (.iload_n 3), 1), (11, (.bipush 120), 2), (13, .imul, 1), (14, .iastore, 1), (15, (.aload_n 0), 1), (16, (.iload_n 1), 1), (17, (.invokevirtual 171), 3), (20, (.aload_n 0), 1), (21, (.getfield 165), 3), (24, .ireturn, 1)]
set_option maxRecDepth 100000 in
theorem tX11_gradeWith_ok : kTab cX11_gradeWith tX11_gradeWith := kTab_of (by decide +kernel)
def tX11_gradeIf : List (Nat × Instr × Nat) := [(0, (.aload_n 0), 1), (1, (.iload_n 1), 1), (2, (.iload_n 2), 1), (3, (.invokevirtual 260), 3), (6, (.ifCond .le 5), 3), (9, (.iconst 0), 1), (10, .ireturn, 1), (11, (.iload_n 3), 1), (12, (.iconst 0), 1), (13, (.aload_n 0), 1), (14, (.getfield 7), 3), (17, (.iconst 0), 1), (18, (.iload_n 2), 1), (19, .iadd, 1), (20, .iaload, 1), (21, (.invokestatic 51), 3), (24, (.ifCond .ne 9), 3), (27, (.aload_n 0), 1), (28, (.iconst 2), 1), (29, (.invokevirtual 177), 3), (32, .ireturn, 1), (33, (.aload_n 0), 1), (34, (.iload_n 1), 1), (35, (.invokevirtual 115), 3), (38, (.ifCond .eq 13), 3), (41, (.aload_n 0), 1), (42, (.iload_n 1), 1), (43, (.iload_n 2), 1), (44, (.iload_n 3), 1), (45, (.invokevirtual 281), 3), (48, (.goto 8), 3), (51, (.aload_n 0), 1), (52, (.iconst 3), 1), (53, (.invokevirtual 177), 3), (56, .ireturn, 1)]
set_option maxRecDepth 100000 in
theorem tX11_gradeIf_ok : kTab cX11_gradeIf tX11_gradeIf := kTab_of (by decide +kernel)
def tX11_needed : List (Nat × Instr × Nat) := [(0, (.aload_n 0), 1), (1, (.iconst 0), 1), (2, (.putfield 48), 3), (5, (.iload_n 1), 1), (6, (.invokestatic 214), 3), (9, (.ifCond .eq 19), 3), (12, (.iload_n 2), 1), (13, (.invokestatic 180), 3), (16, (.ifCond .eq 12), 3), (19, (.iload_n 3), 1), (20, (.iconst 0), 1), (21, (.iconst 4), 1), (22, (.invokestatic 51), 3), (25, (.ifCond .ne 9), 3), (28, (.aload_n 0), 1), (29, (.iconst 1), 1), (30, (.invokevirtual 177), 3), (33, .ireturn, 1), (34, (.aload_n 0), 1), (35, (.iload_n 1), 1), (36, (.invokevirtual 115), 3), (39, (.ifCond .ne 9), 3), (42, (.aload_n 0), 1), (43, (.iconst 2), 1), (44, (.invokevirtual 177), 3), (47, .ireturn, 1), (48, (.iconst 0), 1), (49, (.istore 4), 2), (51, (.iload 4), 2), (53, (.aload_n 0), 1), (54, (.getfield 7), 3), (57, (.iconst 0), 1), (58, (.iload_n 2), 1), (59, .iadd, 1), (60, .iaload, 1), (61, (.if_icmp .gt 24), 3), (64, (.aload_n 0), 1), (65, (.iload_n 1), 1), (66, (.iload_n 2), 1), (67, (.iload 4), 2), (69, (.invokevirtual 281), 3), (72, (.iload_n 3), 1), (73, (.if_icmp .gt 6), 3), (76, (.iload 4), 2), (78, .ireturn, 1), (79, (.iinc 4 1), 3), (82, (.goto (-31)), 3), (85, (.aload_n 0), 1), (86, (.iconst 2), 1), (87, (.invokevirtual 177), 3), (90, .ireturn, 1)]
set_option maxRecDepth 100000 in
theorem tX11_needed_ok : kTab cX11_needed tX11_needed := kTab_of (by decide +kernel)
def tX11_meanBits : List (Nat × Instr × Nat) := [(0, (.aload_n 0), 1), (1, (.iload_n 1), 1), (2, (.invokestatic 180), 3), (5, (.ifCond .eq 7), 3), (8, (.iconst 0), 1), (9, (.goto 4), 3), (12, (.iconst 1), 1), (13, (.putfield 48), 3), (16, (.iconst 0), 1), (17, (.istore_n 2), 1), (18, (.iconst 0), 1), (19, (.istore_n 3), 1), (20, (.iconst 0), 1), (21, (.istore 4), 2), (23, (.iload 4), 2), (25, (.bipush 8), 2), (27, (.if_icmp .ge 48), 3), (30, (.aload_n 0), 1), (31, (.getfield 48), 3), (34, (.ifCond .ne 41), 3), (37, (.aload_n 0), 1), (38, (.iload 4), 2), (40, (.invokevirtual 115), 3), (43, (.ifCond .eq 26), 3), (46, (.aload_n 0), 1), (47, (.iload 4), 2), (49, (.iload_n 1), 1), (50, (.invokevirtual 121), 3), (53, (.ifCond .ne 16), 3), (56, (.iload_n 2), 1), (57, (.aload_n 0), 1), (58, (.iload 4), 2), (60, (.iload_n 1), 1), (61, (.invokevirtual 118), 3), (64, .iadd, 1), (65, (.istore_n 2), 1), (66, (.iinc 3 1), 3), (69, (.iinc 4 1), 3), (72, (.goto (-49)), 3), (75, (.aload_n 0), 1), (76, (.getfield 48), 3), (79, (.ifCond .ne 12), 3), (82, (.iload_n 3), 1), (83, (.ifCond .ne 8), 3), (86, (.aload_n 0), 1), (87, (.iconst 2), 1), (88, (.putfield 48), 3), (91, (.aload_n 0), 1), (92, (.getfield 48), 3), (95, (.ifCond .le 7), 3), (98, (.lconst 0), 1), (99, (.goto 15), 3), (102, (.iload_n 2), 1), (103, .i2d, 1), (104, (.ldc2_w 284), 3), (107, .ddiv, 1), (108, (.iload_n 3), 1), (109, .i2d, 1), (110, .ddiv, 1), (111, (.invokestatic 286), 3), (114, .lreturn, 1)]
set_option maxRecDepth 100000 in
theorem tX11_meanBits_ok : kTab cX11_meanBits tX11_meanBits := kTab_of (by decide +kernel)
def tX11_validBits : List (Nat × Instr × Nat) := [(0, (.aload_n 0), 1), (1, (.iconst 0), 1), (2, (.putfield 48), 3), (5, (.iload_n 1), 1), (6, (.invokestatic 196), 3), (9, (.ifCond .ne 9), 3), (12, (.aload_n 0), 1), (13, (.iconst 1), 1), (14, (.invokevirtual 177), 3), (17, .ireturn, 1), (18, (.iconst 0), 1), (19, (.istore_n 2), 1), (20, (.iconst 0), 1), (21, (.istore_n 3), 1), (22, (.iconst 0), 1), (23, (.istore 4), 2), (25, (.iload 4), 2), (27, (.aload_n 0), 1), (28, (.getfield 7), 3), (31, (.sipush 144), 3), (34, .iaload, 1), (35, (.if_icmp .ge 56), 3), (38, (.iload_n 2), 1), (39, (.aload_n 0), 1), (40, (.iload 4), 2), (42, (.iconst 0), 1), (43, (.invokevirtual 81), 3), (46, (.iload_n 1), 1), (47, (.if_icmp .ne 7), 3), (50, (.iconst 1), 1), (51, (.goto 4), 3), (54, (.iconst 0), 1), (55, .iadd, 1), (56, (.istore_n 2), 1), (57, (.iload_n 3), 1), (58, (.aload_n 0), 1), (59, (.iload 4), 2), (61, (.iconst 0), 1), (62, (.invokevirtual 81), 3), (65, (.iload_n 1), 1), (66, (.if_icmp .ne 16), 3), (69, (.aload_n 0), 1), (70, (.iload 4), 2), (72, (.invokevirtual 98), 3), (75, (.ifCond .eq 7), 3), (78, (.iconst 1), 1), (79, (.goto 4), 3), (82, (.iconst 0), 1), (83, .iadd, 1), (84, (.istore_n 3), 1), (85, (.iinc 4 1), 3), (88, (.goto (-63)), 3), (91, (.iload_n 2), 1), (92, (.ifCond .ne 11), 3), (95, (.aload_n 0), 1), (96, (.iconst 2), 1), (97, (.invokevirtual 177), 3), (100, (.goto 11), 3), (103, (.iload_n 3), 1), (104, .i2f, 1), (105, (.iload_n 2), 1), (106, .i2f, 1), (107, .fdiv, 1), (108, (.invokestatic 292), 3), (111, .ireturn, 1)]
set_option maxRecDepth 100000 in
theorem tX11_validBits_ok : kTab cX11_validBits tX11_validBits := kTab_of (by decide +kernel)
def tX11_publish : List (Nat × Instr × Nat) := [(0, (.aload_n 0), 1), (1, (.iconst 0), 1), (2, (.putfield 48), 3), (5, (.aload_n 0), 1), (6, (.invokevirtual 183), 3), (9, (.ifCond .eq 9), 3), (12, (.aload_n 0), 1), (13, (.iconst 1), 1), (14, (.invokevirtual 177), 3), (17, .ireturn, 1), (18, (.iconst 0), 1), (19, (.istore_n 1), 1), (20, (.iload_n 1), 1), (21, (.bipush 8), 2), (23, (.if_icmp .ge 66), 3), (26, (.iconst 0), 1), (27, (.istore_n 2), 1), (28, (.iload_n 2), 1), (29, (.iconst 5), 1), (30, (.if_icmp .ge 53), 3), (33, (.aload_n 0), 1), (34, (.iload_n 1), 1), (35, (.invokevirtual 115), 3), (38, (.ifCond .eq 39), 3), (41, (.aload_n 0), 1), (42, (.iload_n 1), 1), (43, (.iload_n 2), 1), (44, (.invokevirtual 121), 3), (47, (.ifCond .ne 30), 3), (50, (.aload_n 0), 1), (51, (.iload_n 1), 1), (52, (.iload_n 2), 1), (53, (.invokevirtual 266), 3), (56, (.ifCond .le 21), 3), (59, (.aload_n 0), 1), (60, (.iconst 2), 1), (61, (.iload_n 1), 1), (62, (.bipush 20), 2), (64, (.aload_n 0), 1), (65, (.iload_n 1), 1), (66, (.iload_n 2), 1), (67, (.invokevirtual 266), 3), (70, .iadd, 1), (71, (.iload_n 2), 1), (72, (.iconst 2), 1), (73, (.invokevirtual 221), 3), (76, .ireturn, 1), (77, (.iinc 2 1), 3), (80, (.goto (-52)), 3), (83, (.iinc 1 1), 3), (86, (.goto (-66)), 3), (89, (.aload_n 0), 1), (90, (.invokevirtual 190), 3), (93, (.aload_n 0), 1), (94, (.getfield 7), 3), (97, (.sipush 652), 3), (100, (.iconst 1), 1), (101, .iastore, 1), (102, (.aload_n 0), 1), (103, (.invokevirtual 298), 3), (106, .ireturn, 1)]
set_option maxRecDepth 100000 in
theorem tX11_publish_ok : kTab cX11_publish tX11_publish := kTab_of (by decide +kernel)
def tX11_appeals : List (Nat × Instr × Nat) := [(0, (.iconst 0), 1), (1, (.istore 4), 2), (3, (.iconst 0), 1), (4, (.istore 5), 2), (6, (.iload 5), 2), (8, (.iconst 5), 1), (9, (.if_icmp .ge 35), 3), (12, (.iload 4), 2), (14, (.aload_n 0), 1), (15, (.iload_n 1), 1), (16, (.iload 5), 2), (18, (.iconst 0), 1), (19, (.invokevirtual 105), 3), (22, (.iload_n 2), 1), (23, (.iload_n 3), 1), (24, (.invokestatic 51), 3), (27, (.ifCond .eq 7), 3), (30, (.iconst 1), 1), (31, (.goto 4), 3), (34, (.iconst 0), 1), (35, .iadd, 1), (36, (.istore 4), 2), (38, (.iinc 5 1), 3), (41, (.goto (-35)), 3), (44, (.iload 4), 2), (46, .ireturn, 1)]
set_option maxRecDepth 100000 in
theorem tX11_appeals_ok : kTab cX11_appeals tX11_appeals := kTab_of (by decide +kernel)
def tX11_allAppeals : List (Nat × Instr × Nat) := [(0, (.iconst 0), 1), (1, (.istore_n 3), 1), (2, (.iconst 0), 1), (3, (.istore 4), 2), (5, (.iload 4), 2), (7, (.bipush 8), 2), (9, (.if_icmp .ge 20), 3), (12, (.iload_n 3), 1), (13, (.aload_n 0), 1), (14, (.iload 4), 2), (16, (.iload_n 1), 1), (17, (.iload_n 2), 1), (18, (.invokevirtual 301), 3), (21, .iadd, 1), (22, (.istore_n 3), 1), (23, (.iinc 4 1), 3), (26, (.goto (-21)), 3), (29, (.iload_n 3), 1), (30, .ireturn, 1)]
set_option maxRecDepth 100000 in
theorem tX11_allAppeals_ok : kTab cX11_allAppeals tX11_allAppeals := kTab_of (by decide +kernel)
def tX11_withdraw : List (Nat × Instr × Nat) := [(0, (.aload_n 0), 1), (1, (.iconst 0), 1), (2, (.putfield 48), 3), (5, (.aload_n 0), 1), (6, (.invokevirtual 183), 3), (9, (.ifCond .ne 9), 3), (12, (.aload_n 0), 1), (13, (.iconst 1), 1), (14, (.invokevirtual 177), 3), (17, .ireturn, 1), (18, (.aload_n 0), 1), (19, (.iconst 1), 1), (20, (.iconst 3), 1), (21, (.invokevirtual 304), 3), (24, (.ifCond .le 9), 3), (27, (.aload_n 0), 1), (28, (.iconst 2), 1), (29, (.invokevirtual 177), 3), (32, .ireturn, 1), (33, (.aload_n 0), 1), (34, (.invokevirtual 190), 3), (37, (.aload_n 0), 1), (38, (.getfield 7), 3), (41, (.sipush 652), 3), (44, (.iconst 0), 1), (45, .iastore, 1), (46, (.aload_n 0), 1), (47, (.invokevirtual 298), 3), (50, .ireturn, 1)]
set_option maxRecDepth 100000 in
theorem tX11_withdraw_ok : kTab cX11_withdraw tX11_withdraw := kTab_of (by decide +kernel)
def tX11_appeal : List (Nat × Instr × Nat) := [(0, (.aload_n 0), 1), (1, (.iload_n 1), 1), (2, (.iload_n 2), 1), (3, (.invokevirtual 260), 3), (6, (.ifCond .le 5), 3), (9, (.iconst 0), 1), (10, .ireturn, 1), (11, (.aload_n 0), 1), (12, (.invokevirtual 183), 3), (15, (.ifCond .ne 14), 3), (18, (.aload_n 0), 1), (19, (.iconst 3), 1), (20, (.iload_n 1), 1), (21, (.bipush 31), 2), (23, (.iconst 0), 1), (24, (.iconst 2), 1), (25, (.invokevirtual 221), 3), (28, .ireturn, 1), (29, (.aload_n 0), 1), (30, (.iload_n 1), 1), (31, (.invokevirtual 115), 3), (34, (.ifCond .ne 14), 3), (37, (.aload_n 0), 1), (38, (.iconst 3), 1), (39, (.iload_n 1), 1), (40, (.bipush 32), 2), (42, (.iload_n 1), 1), (43, (.iconst 2), 1), (44, (.invokevirtual 221), 3), (47, .ireturn, 1), (48, (.aload_n 0), 1), (49, (.iload_n 1), 1), (50, (.iload_n 2), 1), (51, (.iconst 0), 1), (52, (.invokevirtual 105), 3), (55, (.ifCond .le 14), 3), (58, (.aload_n 0), 1), (59, (.iconst 3), 1), (60, (.iload_n 1), 1), (61, (.bipush 33), 2), (63, (.iload_n 2), 1), (64, (.iconst 2), 1), (65, (.invokevirtual 221), 3), (68, .ireturn, 1), (69, (.aload_n 0), 1), (70, (.iload_n 1), 1), (71, (.iconst 1), 1), (72, (.iconst 3), 1), (73, (.invokevirtual 301), 3), (76, (.iconst 3), 1), (77, (.if_icmp .ne 14), 3), (80, (.aload_n 0), 1), (81, (.iconst 3), 1), (82, (.iload_n 1), 1), (83, (.bipush 34), 2), (85, (.iconst 3), 1), (86, (.iconst 2), 1), (87, (.invokevirtual 221), 3), (90, .ireturn, 1), (91, (.aload_n 0), 1), (92, (.invokevirtual 190), 3), (95, (.sipush 653), 3), (98, (.bipush 15), 2), (100, (.iload_n 1), 1), (101, .imul, 1), (102, .iadd, 1), (103, (.iconst 3), 1), (104, (.iload_n 2), 1), (105, .imul, 1), (106, .iadd, 1), (107, (.istore_n 3), 1), (108, (.aload_n 0), 1), (109, (.getfield 7), 3), (112, (.iload_n 3), 1), (113, (.iconst 1), 1), (114, .iastore, 1), (115, (.aload_n 0), 1), (116, (.getfield 7), 3), (119, (.iload_n 3), 1), (120, (.iconst 1), 1), (121, .iadd, 1), (122, (.aload_n 0), 1), (123, (.iconst 4), 1), (124, (.invokevirtual 78), 3), (127, .iastore, 1), (128, (.aload_n 0), 1), (129, (.getfield 7), 3), (132, (.sipush 773), 3), (135, .dup2, 1), (136, .iaload, 1), (137, (.aload_n 0), 1), (138, (.iconst 4), 1), (139, (.invokevirtual 78), 3), (142, .iadd, 1), (143, .iastore, 1), (144, (.aload_n 0), 1), (145, (.iconst 4), 1), (146, (.invokevirtual 78), 3), (149, .ireturn, 1)]
set_option maxRecDepth 100000 in
theorem tX11_appeal_ok : kTab cX11_appeal tX11_appeal := kTab_of (by decide +kernel)
def tX11_remark : List (Nat × Instr × Nat) := [(0, (.aload_n 0), 1), (1, (.iconst 0), 1), (2, (.putfield 48), 3), (5, (.iload_n 1), 1), (6, (.invokestatic 196), 3), (9, (.ifCond .eq 17), 3), (12, (.iload_n 2), 1), (13, (.invokestatic 214), 3), (16, (.ifCond .eq 10), 3), (19, (.iload_n 3), 1), (20, (.invokestatic 180), 3), (23, (.ifCond .ne 9), 3), (26, (.aload_n 0), 1), (27, (.iconst 1), 1), (28, (.invokevirtual 177), 3), (31, .ireturn, 1), (32, (.iload 4), 2), (34, (.ifCond .ge 9), 3), (37, (.aload_n 0), 1), (38, (.iconst 2), 1), (39, (.invokevirtual 177), 3), (42, .ireturn, 1), (43, (.aload_n 0), 1), (44, (.iload_n 2), 1), (45, (.iload_n 3), 1), (46, (.iconst 0), 1), (47, (.invokevirtual 105), 3), (50, (.iconst 1), 1), (51, (.if_icmp .eq 14), 3), (54, (.aload_n 0), 1), (55, (.iconst 4), 1), (56, (.iload_n 2), 1), (57, (.bipush 41), 2), (59, (.iload_n 3), 1), (60, (.iconst 3), 1), (61, (.invokevirtual 221), 3), (64, .ireturn, 1), (65, (.iload 4), 2), (67, (.aload_n 0), 1), (68, (.getfield 7), 3), (71, (.iconst 0), 1), (72, (.iload_n 3), 1), (73, .iadd, 1), (74, .iaload, 1), (75, (.if_icmp .le 21), 3), (78, (.aload_n 0), 1), (79, (.iconst 4), 1), (80, (.iload_n 2), 1), (81, (.bipush 42), 2), (83, (.aload_n 0), 1), (84, (.getfield 7), 3), (87, (.iconst 0), 1), (88, (.iload_n 3), 1), (89, .iadd, 1), (90, .iaload, 1), (91, (.iconst 3), 1), (92, (.invokevirtual 221), 3), (95, .ireturn, 1), (96, (.aload_n 0), 1), (97, (.iload_n 1), 1), (98, (.iload_n 2), 1), (99, (.iload_n 3), 1), (100, (.invokevirtual 208), 3), (103, (.ifCond .eq 14), 3), (106, (.aload_n 0), 1), (107, (.iconst 4), 1), (108, (.iload_n 2), 1), (109, (.bipush 43), 2), (111, (.iload_n 1), 1), (112, (.iconst 3), 1), (113, (.invokevirtual 221), 3), (116, .ireturn, 1), (117, (.aload_n 0), 1), (118, (.invokevirtual 190), 3), (121, (.aload_n 0), 1), (122, (.iload_n 2), 1), (123, (.invokevirtual 278), 3), (126, (.istore 5), 2), (128, (.sipush 653), 3), (131, (.bipush 15), 2), (133, (.iload_n 2), 1), (134, .imul, 1), (135, .iadd, 1), (136, (.iconst 3), 1), (137, (.iload_n 3), 1), (138, .imul, 1), (139, .iadd, 1), (140, (.istore 6), 2), (142, (.aload_n 0), 1), (143, (.getfield 7), 3), (146, (.iload 6), 2), (148, (.iconst 2), 1), (149, .iadd, 1), (150, (.iload 4), 2), (152, .iastore, 1), (153, (.aload_n 0), 1), (154, (.getfield 7), 3), (157, (.iload 6), 2), (159, (.aload_n 0), 1), (160, (.iload 4), 2), (162, (.bipush 120), 2), (164, .imul, 1), (165, (.aload_n 0), 1), (166, (.iload_n 2), 1), (167, (.iload_n 3), 1), (168, (.invokevirtual 118), 3), (171, (.invokevirtual 112), 3), (174, (.ifCond .eq 7), 3), (177, (.iconst 2), 1), (178, (.goto 4), 3), (181, (.iconst 3), 1), (182, .iastore, 1), (183, (.aload_n 0), 1), (184, (.iload_n 1), 1), (185, (.iload_n 3), 1), (186, (.invokevirtual 199), 3), (189, (.aload_n 0), 1), (190, (.iload_n 2), 1), (191, (.invokevirtual 278), 3), (194, (.iload 5), 2), (196, (.if_icmp .lt 5), 3), (199, (.iconst 0), 1), (200, .ireturn, 1), (201, (.aload_n 0), 1), (202, (.getfield 7), 3), (205, (.sipush 774), 3), (208, .dup2, 1), (209, .iaload, 1), (210, (.aload_n 0), 1), (211, (.getfield 7), 3), (214, (.iload 6), 2), (216, (.iconst 1), 1), (217, .iadd, 1), (218, .iaload, 1), (219, .iadd, 1), (220, .iastore, 1), (221, (.aload_n 0), 1), (222, (.getfield 7), 3), (225, (.iload 6), 2), (227, (.iconst 1), 1), (228, .iadd, 1), (229, .iaload, 1), (230, .ireturn, 1)]
set_option maxRecDepth 100000 in
theorem tX11_remark_ok : kTab cX11_remark tX11_remark := kTab_of (by decide +kernel)
def tX11_account : List (Nat × Instr × Nat) := [(0, (.aload_n 0), 1), (1, (.iconst 0), 1), (2, (.putfield 48), 3), (5, (.iload_n 1), 1), (6, (.tableswitch 129 0 8 #[50, 50, 50, 50, 61, 97, 106, 115, 122]), 50), (56, (.aload_n 0), 1), (57, (.getfield 7), 3), (60, (.sipush 775), 3), (63, (.iload_n 1), 1), (64, .iadd, 1), (65, .iaload, 1), (66, .ireturn, 1), (67, (.aload_n 0), 1), (68, (.getfield 7), 3), (71, (.sipush 775), 3), (74, .iaload, 1), (75, (.aload_n 0), 1), (76, (.getfield 7), 3), (79, (.sipush 776), 3), (82, .iaload, 1), (83, .iadd, 1), (84, (.aload_n 0), 1), (85, (.getfield 7), 3), (88, (.sipush 777), 3), (91, .iaload, 1), (92, .iadd, 1), (93, (.aload_n 0), 1), (94, (.getfield 7), 3), (97, (.sipush 778), 3), (100, .iaload, 1), (101, .iadd, 1), (102, .ireturn, 1), (103, (.aload_n 0), 1), (104, (.getfield 7), 3), (107, (.sipush 773), 3), (110, .iaload, 1), (111, .ireturn, 1), (112, (.aload_n 0), 1), (113, (.getfield 7), 3), (116, (.sipush 774), 3), (119, .iaload, 1), (120, .ireturn, 1), (121, (.aload_n 0), 1), (122, (.iconst 1), 1), (123, (.iconst 3), 1), (124, (.invokevirtual 304), 3), (127, .ireturn, 1), (128, (.aload_n 0), 1), (129, (.iconst 1), 1), (130, (.iconst 1), 1), (131, (.invokevirtual 304), 3), (134, .ireturn, 1), (135, (.aload_n 0), 1), (136, (.iconst 1), 1), (137, (.invokevirtual 177), 3), (140, .ireturn, 1)]
set_option maxRecDepth 100000 in
theorem tX11_account_ok : kTab cX11_account tX11_account := kTab_of (by decide +kernel)
def tX11_levels : List (Nat × Instr × Nat) := [(0, (.aload_n 0), 1), (1, (.iconst 0), 1), (2, (.putfield 48), 3), (5, (.aload_n 0), 1), (6, (.getfield 174), 3), (9, .ireturn, 1)]
set_option maxRecDepth 100000 in
theorem tX11_levels_ok : kTab cX11_levels tX11_levels := kTab_of (by decide +kernel)
def tX11_report : List (Nat × Instr × Nat) := [(0, (.aload_n 0), 1), (1, (.iconst 0), 1), (2, (.putfield 48), 3), (5, (.iload_n 1), 1), (6, (.iconst 0), 1), (7, (.aload_n 0), 1), (8, (.getfield 174), 3), (11, (.iconst 1), 1), (12, .isub, 1), (13, (.invokestatic 51), 3), (16, (.ifCond .ne 9), 3), (19, (.aload_n 0), 1), (20, (.iconst 1), 1), (21, (.invokevirtual 177), 3), (24, .ireturn, 1), (25, (.iload_n 2), 1), (26, (.iconst 0), 1), (27, (.iconst 1), 1), (28, (.invokestatic 51), 3), (31, (.ifCond .eq 16), 3), (34, (.aload_n 0), 1), (35, (.getfield 29), 3), (38, (.iconst 2), 1), (39, (.iload_n 1), 1), (40, .imul, 1), (41, (.iload_n 2), 1), (42, .iadd, 1), (43, .iaload, 1), (44, (.goto 8), 3), (47, (.aload_n 0), 1), (48, (.iconst 2), 1), (49, (.invokevirtual 177), 3), (52, .ireturn, 1)]
set_option maxRecDepth 100000 in
theorem tX11_report_ok : kTab cX11_report tX11_report := kTab_of (by decide +kernel)
def tX11_seeds : List (Nat × Instr × Nat) := [(0, (.iconst 0), 1), (1, (.istore_n 1), 1), (2, (.iconst 0), 1), (3, (.istore_n 2), 1), (4, (.iload_n 2), 1), (5, (.iconst 5), 1), (6, (.if_icmp .ge 21), 3), (9, (.iload_n 1), 1), (10, (.aload_n 0), 1), (11, (.getfield 7), 3), (14, (.bipush 14), 2), (16, (.iload_n 2), 1), (17, .iadd, 1), (18, .iaload, 1), (19, .iadd, 1), (20, (.istore_n 1), 1), (21, (.iinc 2 1), 3), (24, (.goto (-20)), 3), (27, (.iload_n 1), 1), (28, .ireturn, 1)]
set_option maxRecDepth 100000 in
theorem tX11_seeds_ok : kTab cX11_seeds tX11_seeds := kTab_of (by decide +kernel)
def tX11_seedMarks : List (Nat × Instr × Nat) := [(0, (.iconst 0), 1), (1, (.istore_n 1), 1), (2, (.bipush 44), 2), (4, (.istore_n 2), 1), (5, (.iload_n 2), 1), (6, (.sipush 144), 3), (9, (.if_icmp .ge 26), 3), (12, (.iload_n 1), 1), (13, (.aload_n 0), 1), (14, (.getfield 7), 3), (17, (.iload_n 2), 1), (18, .iaload, 1), (19, (.ifCond .le 7), 3), (22, (.iconst 1), 1), (23, (.goto 4), 3), (26, (.iconst 0), 1), (27, .iadd, 1), (28, (.istore_n 1), 1), (29, (.iinc 2 1), 3), (32, (.goto (-27)), 3), (35, (.iload_n 1), 1), (36, .ireturn, 1)]
set_option maxRecDepth 100000 in
theorem tX11_seedMarks_ok : kTab cX11_seedMarks tX11_seedMarks := kTab_of (by decide +kernel)
def tX11_disputed : List (Nat × Instr × Nat) := [(0, (.iconst 0), 1), (1, (.istore_n 1), 1), (2, (.iconst 0), 1), (3, (.istore_n 2), 1), (4, (.iload_n 2), 1), (5, (.bipush 8), 2), (7, (.if_icmp .ge 49), 3), (10, (.iconst 0), 1), (11, (.istore_n 3), 1), (12, (.iload_n 3), 1), (13, (.iconst 5), 1), (14, (.if_icmp .ge 36), 3), (17, (.iload_n 1), 1), (18, (.aload_n 0), 1), (19, (.iload_n 2), 1), (20, (.iload_n 3), 1), (21, (.invokevirtual 121), 3), (24, (.ifCond .ne 17), 3), (27, (.aload_n 0), 1), (28, (.iload_n 2), 1), (29, (.iload_n 3), 1), (30, (.invokevirtual 266), 3), (33, (.iconst 2), 1), (34, (.if_icmp .ne 7), 3), (37, (.iconst 1), 1), (38, (.goto 4), 3), (41, (.iconst 0), 1), (42, .iadd, 1), (43, (.istore_n 1), 1), (44, (.iinc 3 1), 3), (47, (.goto (-35)), 3), (50, (.iinc 2 1), 3), (53, (.goto (-49)), 3), (56, (.iload_n 1), 1), (57, .ireturn, 1)]
set_option maxRecDepth 100000 in
theorem tX11_disputed_ok : kTab cX11_disputed tX11_disputed := kTab_of (by decide +kernel)
def tX11_count : List (Nat × Instr × Nat) := [(0, (.aload_n 0), 1), (1, (.iconst 0), 1), (2, (.putfield 48), 3), (5, (.iload_n 1), 1), (6, (.tableswitch 116 0 9 #[54, 63, 68, 73, 78, 87, 96, 101, 106, 111]), 54), (60, (.aload_n 0), 1), (61, (.getfield 7), 3), (64, (.sipush 144), 3), (67, .iaload, 1), (68, .ireturn, 1), (69, (.aload_n 0), 1), (70, (.invokevirtual 298), 3), (73, .ireturn, 1), (74, (.aload_n 0), 1), (75, (.invokevirtual 307), 3), (78, .ireturn, 1), (79, (.aload_n 0), 1), (80, (.invokevirtual 310), 3), (83, .ireturn, 1), (84, (.aload_n 0), 1), (85, (.getfield 7), 3), (88, (.sipush 641), 3), (91, .iaload, 1), (92, .ireturn, 1), (93, (.aload_n 0), 1), (94, (.getfield 7), 3), (97, (.sipush 652), 3), (100, .iaload, 1), (101, .ireturn, 1), (102, (.aload_n 0), 1), (103, (.invokevirtual 124), 3), (106, .ireturn, 1), (107, (.aload_n 0), 1), (108, (.getfield 228), 3), (111, .ireturn, 1), (112, (.aload_n 0), 1), (113, (.getfield 55), 3), (116, .ireturn, 1), (117, (.aload_n 0), 1), (118, (.invokevirtual 313), 3), (121, .ireturn, 1), (122, (.aload_n 0), 1), (123, (.iconst 1), 1), (124, (.invokevirtual 177), 3), (127, .ireturn, 1)]
set_option maxRecDepth 100000 in
theorem tX11_count_ok : kTab cX11_count tX11_count := kTab_of (by decide +kernel)
def tX11_undo : List (Nat × Instr × Nat) := [(0, (.aload_n 0), 1), (1, (.iconst 0), 1), (2, (.putfield 48), 3), (5, (.aload_n 0), 1), (6, (.getfield 55), 3), (9, (.ifCond .ne 9), 3), (12, (.aload_n 0), 1), (13, (.iconst 1), 1), (14, (.invokevirtual 177), 3), (17, .ireturn, 1), (18, (.aload_n 0), 1), (19, .dup, 1), (20, (.getfield 55), 3), (23, (.iconst 1), 1), (24, .isub, 1), (25, (.putfield 55), 3), (28, (.iconst 0), 1), (29, (.istore_n 1), 1), (30, (.iload_n 1), 1), (31, (.sipush 779), 3), (34, (.if_icmp .ge 30), 3), (37, (.aload_n 0), 1), (38, (.getfield 7), 3), (41, (.iload_n 1), 1), (42, (.aload_n 0), 1), (43, (.getfield 19), 3), (46, (.sipush 779), 3), (49, (.aload_n 0), 1), (50, (.getfield 55), 3), (53, .imul, 1), (54, (.iload_n 1), 1), (55, .iadd, 1), (56, .iaload, 1), (57, .iastore, 1), (58, (.iinc 1 1), 3), (61, (.goto (-31)), 3), (64, (.aload_n 0), 1), (65, (.getfield 55), 3), (68, .ireturn, 1)]
set_option maxRecDepth 100000 in
theorem tX11_undo_ok : kTab cX11_undo tX11_undo := kTab_of (by decide +kernel)
def tX11_save : List (Nat × Instr × Nat) := [(0, (.aload_n 0), 1), (1, (.iconst 0), 1), (2, (.putfield 48), 3), (5, (.iconst 0), 1), (6, (.istore_n 1), 1), (7, (.iload_n 1), 1), (8, (.sipush 779), 3), (11, (.if_icmp .ge 21), 3), (14, (.aload_n 0), 1), (15, (.getfield 13), 3), (18, (.iload_n 1), 1), (19, (.aload_n 0), 1), (20, (.getfield 7), 3), (23, (.iload_n 1), 1), (24, .iaload, 1), (25, .iastore, 1), (26, (.iinc 1 1), 3), (29, (.goto (-22)), 3), (32, (.aload_n 0), 1), (33, (.iconst 1), 1), (34, (.putfield 316), 3), (37, (.aload_n 0), 1), (38, (.getfield 7), 3), (41, (.sipush 144), 3), (44, .iaload, 1), (45, .ireturn, 1)]
set_option maxRecDepth 100000 in
theorem tX11_save_ok : kTab cX11_save tX11_save := kTab_of (by decide +kernel)
def tX11_restore : List (Nat × Instr × Nat) := [(0, (.aload_n 0), 1), (1, (.iconst 0), 1), (2, (.putfield 48), 3), (5, (.aload_n 0), 1), (6, (.getfield 316), 3), (9, (.ifCond .ne 9), 3), (12, (.aload_n 0), 1), (13, (.iconst 1), 1), (14, (.invokevirtual 177), 3), (17, .ireturn, 1), (18, (.aload_n 0), 1), (19, (.invokevirtual 190), 3), (22, (.iconst 0), 1), (23, (.istore_n 1), 1), (24, (.iload_n 1), 1), (25, (.sipush 779), 3), (28, (.if_icmp .ge 21), 3), (31, (.aload_n 0), 1), (32, (.getfield 7), 3), (35, (.iload_n 1), 1), (36, (.aload_n 0), 1), (37, (.getfield 13), 3), (40, (.iload_n 1), 1), (41, .iaload, 1), (42, .iastore, 1), (43, (.iinc 1 1), 3), (46, (.goto (-22)), 3), (49, (.aload_n 0), 1), (50, (.getfield 7), 3), (53, (.sipush 144), 3), (56, .iaload, 1), (57, .ireturn, 1)]
set_option maxRecDepth 100000 in
theorem tX11_restore_ok : kTab cX11_restore tX11_restore := kTab_of (by decide +kernel)
def tJxe99ae_isNaN_b9ae7 : List (Nat × Instr × Nat) := [(0, (.dload_n 0), 1), (1, (.dload_n 0), 1), (2, (.dcmp .l), 1), (3, (.ifCond .eq 7), 3), (6, (.iconst 1), 1), (7, (.goto 4), 3), (10, (.iconst 0), 1), (11, .ireturn, 1)]
set_option maxRecDepth 100000 in
theorem tJxe99ae_isNaN_b9ae7_ok : kTab cJxe99ae_isNaN_b9ae7 tJxe99ae_isNaN_b9ae7 := kTab_of (by decide +kernel)
def tJxe99ae_doubleToLongBits_ccdee : List (Nat × Instr × Nat) := [(0, (.dload_n 0), 1), (1, (.invokestatic 122), 3), (4, (.ifCond .ne 8), 3), (7, (.dload_n 0), 1), (8, (.invokestatic 134), 3), (11, .lreturn, 1), (12, (.ldc2_w 137), 3), (15, .lreturn, 1)]
set_option maxRecDepth 100000 in
theorem tJxe99ae_doubleToLongBits_ccdee_ok : kTab cJxe99ae_doubleToLongBits_ccdee tJxe99ae_doubleToLongBits_ccdee := kTab_of (by decide +kernel)
def tJxf58ca_isNaN_12338 : List (Nat × Instr × Nat) := [(0, (.fload_n 0), 1), (1, (.fload_n 0), 1), (2, (.fcmp .l), 1), (3, (.ifCond .eq 7), 3), (6, (.iconst 1), 1), (7, (.goto 4), 3), (10, (.iconst 0), 1), (11, .ireturn, 1)]
set_option maxRecDepth 100000 in
theorem tJxf58ca_isNaN_12338_ok : kTab cJxf58ca_isNaN_12338 tJxf58ca_isNaN_12338 := kTab_of (by decide +kernel)
def tJxf58ca_floatToIntBits_5c35a : List (Nat × Instr × Nat) := [(0, (.fload_n 0), 1), (1, (.invokestatic 59), 3), (4, (.ifCond .ne 8), 3), (7, (.fload_n 0), 1), (8, (.invokestatic 74), 3), (11, .ireturn, 1), (12, (.ldc 77), 2), (14, .ireturn, 1)]
set_option maxRecDepth 100000 in
theorem tJxf58ca_floatToIntBits_5c35a_ok : kTab cJxf58ca_floatToIntBits_5c35a tJxf58ca_floatToIntBits_5c35a := kTab_of (by decide +kernel)
def tJ6_bitCount_0f7a4 : List (Nat × Instr × Nat) := [(0, (.iload_n 0), 1), (1, (.iload_n 0), 1), (2, (.iconst 1), 1), (3, .iushr, 1), (4, (.ldc_w 265), 3), (7, .iand, 1), (8, .isub, 1), (9, (.istore_n 0), 1), (10, (.iload_n 0), 1), (11, (.ldc_w 266), 3), (14, .iand, 1), (15, (.iload_n 0), 1), (16, (.iconst 2), 1), (17, .iushr, 1), (18, (.ldc_w 266), 3), (21, .iand, 1), (22, .iadd, 1), (23, (.istore_n 0), 1), (24, (.iload_n 0), 1), (25, (.iload_n 0), 1), (26, (.iconst 4), 1), (27, .iushr, 1), (28, .iadd, 1), (29, (.ldc_w 267), 3), (32, .iand, 1), (33, (.istore_n 0), 1), (34, (.iload_n 0), 1), (35, (.iload_n 0), 1), (36, (.bipush 8), 2), (38, .iushr, 1), (39, .iadd, 1), (40, (.istore_n 0), 1), (41, (.iload_n 0), 1), (42, (.iload_n 0), 1), (43, (.bipush 16), 2), (45, .iushr, 1), (46, .iadd, 1), (47, (.istore_n 0), 1), (48, (.iload_n 0), 1), (49, (.bipush 63), 2), (51, .iand, 1), (52, .ireturn, 1)]
set_option maxRecDepth 100000 in
theorem tJ6_bitCount_0f7a4_ok : kTab cJ6_bitCount_0f7a4 tJ6_bitCount_0f7a4 := kTab_of (by decide +kernel)
def tJ13_compare_74951 : List (Nat × Instr × Nat) := [(0, (.lload_n 0), 1), (1, (.lload_n 2), 1), (2, .lcmp, 1), (3, (.ifCond .ge 7), 3), (6, (.iconst (-1)), 1), (7, (.goto 14), 3), (10, (.lload_n 0), 1), (11, (.lload_n 2), 1), (12, .lcmp, 1), (13, (.ifCond .ne 7), 3), (16, (.iconst 0), 1), (17, (.goto 4), 3), (20, (.iconst 1), 1), (21, .ireturn, 1)]
set_option maxRecDepth 100000 in
theorem tJ13_compare_74951_ok : kTab cJ13_compare_74951 tJ13_compare_74951 := kTab_of (by decide +kernel)
def tJ9_floorDiv_f86c9 : List (Nat × Instr × Nat) := [(0, (.lload_n 0), 1), (1, (.lload_n 2), 1), (2, .ldiv, 1), (3, (.lstore 4), 2), (5, (.lload_n 0), 1), (6, (.lload_n 2), 1), (7, .lxor, 1), (8, (.lconst 0), 1), (9, .lcmp, 1), (10, (.ifCond .ge 17), 3), (13, (.lload 4), 2), (15, (.lload_n 2), 1), (16, .lmul, 1), (17, (.lload_n 0), 1), (18, .lcmp, 1), (19, (.ifCond .eq 8), 3), (22, (.lload 4), 2), (24, (.lconst 1), 1), (25, .lsub, 1), (26, .lreturn, 1), (27, (.lload 4), 2), (29, .lreturn, 1)]
set_option maxRecDepth 100000 in
theorem tJ9_floorDiv_f86c9_ok : kTab cJ9_floorDiv_f86c9 tJ9_floorDiv_f86c9 := kTab_of (by decide +kernel)
def tJ7_fill_53178 : List (Nat × Instr × Nat) := [(0, (.iconst 0), 1), (1, (.istore_n 2), 1), (2, (.aload_n 0), 1), (3, .arraylength, 1), (4, (.istore_n 3), 1), (5, (.iload_n 2), 1), (6, (.iload_n 3), 1), (7, (.if_icmp .ge 13), 3), (10, (.aload_n 0), 1), (11, (.iload_n 2), 1), (12, (.iload_n 1), 1), (13, .iastore, 1), (14, (.iinc 2 1), 3), (17, (.goto (-12)), 3), (20, .return_, 1)]
set_option maxRecDepth 100000 in
theorem tJ7_fill_53178_ok : kTab cJ7_fill_53178 tJ7_fill_53178 := kTab_of (by decide +kernel)
def tL_setMaximum : List (Nat × Instr × Nat) := [(0, (.aload_n 3), 1), (1, (.iconst 0), 1), (2, (.aload_n 0), 1), (3, (.iload_n 1), 1), (4, (.iload_n 2), 1), (5, (.invokevirtual 7), 3), (8, .i2l, 1), (9, .lastore, 1), (10, (.goto 19), 3), (13, (.astore 4), 2), (15, (.iconst 1), 1), (16, .ireturn, 1), (17, (.astore 4), 2), (19, (.iconst 2), 1), (20, .ireturn, 1), (21, (.astore 4), 2), (23, (.iconst 3), 1), (24, .ireturn, 1), (25, (.astore 4), 2), (27, (.iconst 4), 1), (28, .ireturn, 1), (29, (.iconst 0), 1), (30, .ireturn, 1)]
set_option maxRecDepth 100000 in
theorem tL_setMaximum_ok : kTab cL_setMaximum tL_setMaximum := kTab_of (by decide +kernel)
def tL_set : List (Nat × Instr × Nat) := [(0, (.aload_n 3), 1), (1, (.iconst 0), 1), (2, (.aload_n 0), 1), (3, (.iload_n 1), 1), (4, (.iload_n 2), 1), (5, (.invokevirtual 21), 3), (8, .i2l, 1), (9, .lastore, 1), (10, (.goto 15), 3), (13, (.astore 4), 2), (15, (.iconst 1), 1), (16, .ireturn, 1), (17, (.astore 4), 2), (19, (.iconst 2), 1), (20, .ireturn, 1), (21, (.astore 4), 2), (23, (.iconst 3), 1), (24, .ireturn, 1), (25, (.iconst 0), 1), (26, .ireturn, 1)]
set_option maxRecDepth 100000 in
theorem tL_set_ok : kTab cL_set tL_set := kTab_of (by decide +kernel)
def tL_addSeed : List (Nat × Instr × Nat) := [(0, (.aload_n 3), 1), (1, (.iconst 0), 1), (2, (.aload_n 0), 1), (3, (.iload_n 1), 1), (4, (.iload_n 2), 1), (5, (.invokevirtual 24), 3), (8, .i2l, 1), (9, .lastore, 1), (10, (.goto 19), 3), (13, (.astore 4), 2), (15, (.iconst 1), 1), (16, .ireturn, 1), (17, (.astore 4), 2), (19, (.iconst 2), 1), (20, .ireturn, 1), (21, (.astore 4), 2), (23, (.iconst 3), 1), (24, .ireturn, 1), (25, (.astore 4), 2), (27, (.iconst 4), 1), (28, .ireturn, 1), (29, (.iconst 0), 1), (30, .ireturn, 1)]
set_option maxRecDepth 100000 in
theorem tL_addSeed_ok : kTab cL_addSeed tL_addSeed := kTab_of (by decide +kernel)
def tL_markSeed : List (Nat × Instr × Nat) := [(0, (.aload 5), 2), (2, (.iconst 0), 1), (3, (.aload_n 0), 1), (4, (.iload_n 1), 1), (5, (.iload_n 2), 1), (6, (.iload_n 3), 1), (7, (.iload 4), 2), (9, (.invokevirtual 27), 3), (12, .i2l, 1), (13, .lastore, 1), (14, (.goto 19), 3), (17, (.astore 6), 2), (19, (.iconst 1), 1), (20, .ireturn, 1), (21, (.astore 6), 2), (23, (.iconst 2), 1), (24, .ireturn, 1), (25, (.astore 6), 2), (27, (.iconst 3), 1), (28, .ireturn, 1), (29, (.astore 6), 2), (31, (.iconst 4), 1), (32, .ireturn, 1), (33, (.iconst 0), 1), (34, .ireturn, 1)]
set_option maxRecDepth 100000 in
theorem tL_markSeed_ok : kTab cL_markSeed tL_markSeed := kTab_of (by decide +kernel)
def tL_correction : List (Nat × Instr × Nat) := [(0, (.aload_n 3), 1), (1, (.iconst 0), 1), (2, (.aload_n 0), 1), (3, (.iload_n 1), 1), (4, (.iload_n 2), 1), (5, (.invokevirtual 31), 3), (8, .i2l, 1), (9, .lastore, 1), (10, (.goto 7), 3), (13, (.astore 4), 2), (15, (.iconst 1), 1), (16, .ireturn, 1), (17, (.iconst 0), 1), (18, .ireturn, 1)]
set_option maxRecDepth 100000 in
theorem tL_correction_ok : kTab cL_correction tL_correction := kTab_of (by decide +kernel)
def tL_isSuspended : List (Nat × Instr × Nat) := [(0, (.aload_n 3), 1), (1, (.iconst 0), 1), (2, (.aload_n 0), 1), (3, (.iload_n 1), 1), (4, (.iload_n 2), 1), (5, (.invokevirtual 34), 3), (8, (.ifCond .eq 7), 3), (11, (.lconst 1), 1), (12, (.goto 4), 3), (15, (.lconst 0), 1), (16, .lastore, 1), (17, (.goto 7), 3), (20, (.astore 4), 2), (22, (.iconst 1), 1), (23, .ireturn, 1), (24, (.iconst 0), 1), (25, .ireturn, 1)]
set_option maxRecDepth 100000 in
theorem tL_isSuspended_ok : kTab cL_isSuspended tL_isSuspended := kTab_of (by decide +kernel)
def tL_enter : List (Nat × Instr × Nat) := [(0, (.aload 5), 2), (2, (.iconst 0), 1), (3, (.aload_n 0), 1), (4, (.iload_n 1), 1), (5, (.iload_n 2), 1), (6, (.iload_n 3), 1), (7, (.iload 4), 2), (9, (.invokevirtual 38), 3), (12, .i2l, 1), (13, .lastore, 1), (14, (.goto 15), 3), (17, (.astore 6), 2), (19, (.iconst 1), 1), (20, .ireturn, 1), (21, (.astore 6), 2), (23, (.iconst 2), 1), (24, .ireturn, 1), (25, (.astore 6), 2), (27, (.iconst 3), 1), (28, .ireturn, 1), (29, (.iconst 0), 1), (30, .ireturn, 1)]
set_option maxRecDepth 100000 in
theorem tL_enter_ok : kTab cL_enter tL_enter := kTab_of (by decide +kernel)
def tL_append : List (Nat × Instr × Nat) := [(0, (.aload_n 2), 1), (1, (.iconst 0), 1), (2, (.aload_n 0), 1), (3, (.iload_n 1), 1), (4, (.invokevirtual 41), 3), (7, .i2l, 1), (8, .lastore, 1), (9, (.goto 9), 3), (12, (.astore_n 3), 1), (13, (.iconst 1), 1), (14, .ireturn, 1), (15, (.astore_n 3), 1), (16, (.iconst 2), 1), (17, .ireturn, 1), (18, (.iconst 0), 1), (19, .ireturn, 1)]
set_option maxRecDepth 100000 in
theorem tL_append_ok : kTab cL_append tL_append := kTab_of (by decide +kernel)
def tL_sheet : List (Nat × Instr × Nat) := [(0, (.aload_n 1), 1), (1, (.iconst 0), 1), (2, (.aload_n 0), 1), (3, (.invokevirtual 45), 3), (6, .i2l, 1), (7, .lastore, 1), (8, (.goto 9), 3), (11, (.astore_n 2), 1), (12, (.iconst 1), 1), (13, .ireturn, 1), (14, (.astore_n 2), 1), (15, (.iconst 2), 1), (16, .ireturn, 1), (17, (.iconst 0), 1), (18, .ireturn, 1)]
set_option maxRecDepth 100000 in
theorem tL_sheet_ok : kTab cL_sheet tL_sheet := kTab_of (by decide +kernel)
def tL_entry : List (Nat × Instr × Nat) := [(0, (.aload 5), 2), (2, (.iconst 0), 1), (3, (.aload_n 0), 1), (4, (.iload_n 1), 1), (5, (.iload_n 2), 1), (6, (.iload_n 3), 1), (7, (.iload 4), 2), (9, (.invokevirtual 49), 3), (12, .i2l, 1), (13, .lastore, 1), (14, (.goto 15), 3), (17, (.astore 6), 2), (19, (.iconst 1), 1), (20, .ireturn, 1), (21, (.astore 6), 2), (23, (.iconst 2), 1), (24, .ireturn, 1), (25, (.astore 6), 2), (27, (.iconst 3), 1), (28, .ireturn, 1), (29, (.iconst 0), 1), (30, .ireturn, 1)]
set_option maxRecDepth 100000 in
theorem tL_entry_ok : kTab cL_entry tL_entry := kTab_of (by decide +kernel)
def tL_script : List (Nat × Instr × Nat) := [(0, (.aload 4), 2), (2, (.iconst 0), 1), (3, (.aload_n 0), 1), (4, (.iload_n 1), 1), (5, (.iload_n 2), 1), (6, (.iload_n 3), 1), (7, (.invokevirtual 54), 3), (10, .i2l, 1), (11, .lastore, 1), (12, (.goto 11), 3), (15, (.astore 5), 2), (17, (.iconst 1), 1), (18, .ireturn, 1), (19, (.astore 5), 2), (21, (.iconst 2), 1), (22, .ireturn, 1), (23, (.iconst 0), 1), (24, .ireturn, 1)]
set_option maxRecDepth 100000 in
theorem tL_script_ok : kTab cL_script tL_script := kTab_of (by decide +kernel)
def tL_excuse : List (Nat × Instr × Nat) := [(0, (.aload 4), 2), (2, (.iconst 0), 1), (3, (.aload_n 0), 1), (4, (.iload_n 1), 1), (5, (.iload_n 2), 1), (6, (.iload_n 3), 1), (7, (.invokevirtual 58), 3), (10, (.ifCond .eq 7), 3), (13, (.lconst 1), 1), (14, (.goto 4), 3), (17, (.lconst 0), 1), (18, .lastore, 1), (19, (.goto 15), 3), (22, (.astore 5), 2), (24, (.iconst 1), 1), (25, .ireturn, 1), (26, (.astore 5), 2), (28, (.iconst 2), 1), (29, .ireturn, 1), (30, (.astore 5), 2), (32, (.iconst 3), 1), (33, .ireturn, 1), (34, (.iconst 0), 1), (35, .ireturn, 1)]
set_option maxRecDepth 100000 in
theorem tL_excuse_ok : kTab cL_excuse tL_excuse := kTab_of (by decide +kernel)
def tL_raise : List (Nat × Instr × Nat) := [(0, (.aload_n 3), 1), (1, (.iconst 0), 1), (2, (.aload_n 0), 1), (3, (.iload_n 1), 1), (4, (.iload_n 2), 1), (5, (.invokevirtual 62), 3), (8, .i2l, 1), (9, .lastore, 1), (10, (.goto 15), 3), (13, (.astore 4), 2), (15, (.iconst 1), 1), (16, .ireturn, 1), (17, (.astore 4), 2), (19, (.iconst 2), 1), (20, .ireturn, 1), (21, (.astore 4), 2), (23, (.iconst 3), 1), (24, .ireturn, 1), (25, (.iconst 0), 1), (26, .ireturn, 1)]
set_option maxRecDepth 100000 in
theorem tL_raise_ok : kTab cL_raise tL_raise := kTab_of (by decide +kernel)
def tL_setPoint : List (Nat × Instr × Nat) := [(0, (.aload_n 3), 1), (1, (.iconst 0), 1), (2, (.aload_n 0), 1), (3, (.iload_n 1), 1), (4, (.iload_n 2), 1), (5, (.invokevirtual 65), 3), (8, .i2l, 1), (9, .lastore, 1), (10, (.goto 15), 3), (13, (.astore 4), 2), (15, (.iconst 1), 1), (16, .ireturn, 1), (17, (.astore 4), 2), (19, (.iconst 2), 1), (20, .ireturn, 1), (21, (.astore 4), 2), (23, (.iconst 3), 1), (24, .ireturn, 1), (25, (.iconst 0), 1), (26, .ireturn, 1)]
set_option maxRecDepth 100000 in
theorem tL_setPoint_ok : kTab cL_setPoint tL_setPoint := kTab_of (by decide +kernel)
def tL_removePoint : List (Nat × Instr × Nat) := [(0, (.aload_n 2), 1), (1, (.iconst 0), 1), (2, (.aload_n 0), 1), (3, (.iload_n 1), 1), (4, (.invokevirtual 68), 3), (7, .i2l, 1), (8, .lastore, 1), (9, (.goto 9), 3), (12, (.astore_n 3), 1), (13, (.iconst 1), 1), (14, .ireturn, 1), (15, (.astore_n 3), 1), (16, (.iconst 2), 1), (17, .ireturn, 1), (18, (.iconst 0), 1), (19, .ireturn, 1)]
set_option maxRecDepth 100000 in
theorem tL_removePoint_ok : kTab cL_removePoint tL_removePoint := kTab_of (by decide +kernel)
def tL_curve : List (Nat × Instr × Nat) := [(0, (.aload_n 2), 1), (1, (.iconst 0), 1), (2, (.aload_n 0), 1), (3, (.iload_n 1), 1), (4, (.invokevirtual 71), 3), (7, .i2l, 1), (8, .lastore, 1), (9, (.goto 6), 3), (12, (.astore_n 3), 1), (13, (.iconst 1), 1), (14, .ireturn, 1), (15, (.iconst 0), 1), (16, .ireturn, 1)]
set_option maxRecDepth 100000 in
theorem tL_curve_ok : kTab cL_curve tL_curve := kTab_of (by decide +kernel)
def tL_setBoundary : List (Nat × Instr × Nat) := [(0, (.aload_n 3), 1), (1, (.iconst 0), 1), (2, (.aload_n 0), 1), (3, (.iload_n 1), 1), (4, (.iload_n 2), 1), (5, (.invokevirtual 74), 3), (8, .i2l, 1), (9, .lastore, 1), (10, (.goto 15), 3), (13, (.astore 4), 2), (15, (.iconst 1), 1), (16, .ireturn, 1), (17, (.astore 4), 2), (19, (.iconst 2), 1), (20, .ireturn, 1), (21, (.astore 4), 2), (23, (.iconst 3), 1), (24, .ireturn, 1), (25, (.iconst 0), 1), (26, .ireturn, 1)]
set_option maxRecDepth 100000 in
theorem tL_setBoundary_ok : kTab cL_setBoundary tL_setBoundary := kTab_of (by decide +kernel)
def tL_result : List (Nat × Instr × Nat) := [(0, (.aload_n 3), 1), (1, (.iconst 0), 1), (2, (.aload_n 0), 1), (3, (.iload_n 1), 1), (4, (.iload_n 2), 1), (5, (.invokevirtual 77), 3), (8, .lastore, 1), (9, (.goto 15), 3), (12, (.astore 4), 2), (14, (.iconst 1), 1), (15, .ireturn, 1), (16, (.astore 4), 2), (18, (.iconst 2), 1), (19, .ireturn, 1), (20, (.astore 4), 2), (22, (.iconst 3), 1), (23, .ireturn, 1), (24, (.iconst 0), 1), (25, .ireturn, 1)]
set_option maxRecDepth 100000 in
theorem tL_result_ok : kTab cL_result tL_result := kTab_of (by decide +kernel)
def tL_recount : List (Nat × Instr × Nat) := [(0, (.aload_n 2), 1), (1, (.iconst 0), 1), (2, (.aload_n 0), 1), (3, (.iload_n 1), 1), (4, (.invokevirtual 81), 3), (7, .i2l, 1), (8, .lastore, 1), (9, (.goto 6), 3), (12, (.astore_n 3), 1), (13, (.iconst 1), 1), (14, .ireturn, 1), (15, (.iconst 0), 1), (16, .ireturn, 1)]
set_option maxRecDepth 100000 in
theorem tL_recount_ok : kTab cL_recount tL_recount := kTab_of (by decide +kernel)
def tL_ranked : List (Nat × Instr × Nat) := [(0, (.aload_n 2), 1), (1, (.iconst 0), 1), (2, (.aload_n 0), 1), (3, (.iload_n 1), 1), (4, (.invokevirtual 84), 3), (7, .i2l, 1), (8, .lastore, 1), (9, (.goto 6), 3), (12, (.astore_n 3), 1), (13, (.iconst 1), 1), (14, .ireturn, 1), (15, (.iconst 0), 1), (16, .ireturn, 1)]
set_option maxRecDepth 100000 in
theorem tL_ranked_ok : kTab cL_ranked tL_ranked := kTab_of (by decide +kernel)
def tL_graded : List (Nat × Instr × Nat) := [(0, (.aload_n 2), 1), (1, (.iconst 0), 1), (2, (.aload_n 0), 1), (3, (.iload_n 1), 1), (4, (.invokevirtual 87), 3), (7, .i2l, 1), (8, .lastore, 1), (9, (.goto 6), 3), (12, (.astore_n 3), 1), (13, (.iconst 1), 1), (14, .ireturn, 1), (15, (.iconst 0), 1), (16, .ireturn, 1)]
set_option maxRecDepth 100000 in
theorem tL_graded_ok : kTab cL_graded tL_graded := kTab_of (by decide +kernel)
def tL_gradeIf : List (Nat × Instr × Nat) := [(0, (.aload 4), 2), (2, (.iconst 0), 1), (3, (.aload_n 0), 1), (4, (.iload_n 1), 1), (5, (.iload_n 2), 1), (6, (.iload_n 3), 1), (7, (.invokevirtual 90), 3), (10, .i2l, 1), (11, .lastore, 1), (12, (.goto 15), 3), (15, (.astore 5), 2), (17, (.iconst 1), 1), (18, .ireturn, 1), (19, (.astore 5), 2), (21, (.iconst 2), 1), (22, .ireturn, 1), (23, (.astore 5), 2), (25, (.iconst 3), 1), (26, .ireturn, 1), (27, (.iconst 0), 1), (28, .ireturn, 1)]
set_option maxRecDepth 100000 in
theorem tL_gradeIf_ok : kTab cL_gradeIf tL_gradeIf := kTab_of (by decide +kernel)
def tL_needed : List (Nat × Instr × Nat) := [(0, (.aload 4), 2), (2, (.iconst 0), 1), (3, (.aload_n 0), 1), (4, (.iload_n 1), 1), (5, (.iload_n 2), 1), (6, (.iload_n 3), 1), (7, (.invokevirtual 93), 3), (10, .i2l, 1), (11, .lastore, 1), (12, (.goto 11), 3), (15, (.astore 5), 2), (17, (.iconst 1), 1), (18, .ireturn, 1), (19, (.astore 5), 2), (21, (.iconst 2), 1), (22, .ireturn, 1), (23, (.iconst 0), 1), (24, .ireturn, 1)]
set_option maxRecDepth 100000 in
theorem tL_needed_ok : kTab cL_needed tL_needed := kTab_of (by decide +kernel)
def tL_meanBits : List (Nat × Instr × Nat) := [(0, (.aload_n 2), 1), (1, (.iconst 0), 1), (2, (.aload_n 0), 1), (3, (.iload_n 1), 1), (4, (.invokevirtual 96), 3), (7, .lastore, 1), (8, (.goto 9), 3), (11, (.astore_n 3), 1), (12, (.iconst 1), 1), (13, .ireturn, 1), (14, (.astore_n 3), 1), (15, (.iconst 2), 1), (16, .ireturn, 1), (17, (.iconst 0), 1), (18, .ireturn, 1)]
set_option maxRecDepth 100000 in
theorem tL_meanBits_ok : kTab cL_meanBits tL_meanBits := kTab_of (by decide +kernel)
def tL_validBits : List (Nat × Instr × Nat) := [(0, (.aload_n 2), 1), (1, (.iconst 0), 1), (2, (.aload_n 0), 1), (3, (.iload_n 1), 1), (4, (.invokevirtual 102), 3), (7, .i2l, 1), (8, .lastore, 1), (9, (.goto 9), 3), (12, (.astore_n 3), 1), (13, (.iconst 1), 1), (14, .ireturn, 1), (15, (.astore_n 3), 1), (16, (.iconst 2), 1), (17, .ireturn, 1), (18, (.iconst 0), 1), (19, .ireturn, 1)]
set_option maxRecDepth 100000 in
theorem tL_validBits_ok : kTab cL_validBits tL_validBits := kTab_of (by decide +kernel)
def tL_publish : List (Nat × Instr × Nat) := [(0, (.aload_n 1), 1), (1, (.iconst 0), 1), (2, (.aload_n 0), 1), (3, (.invokevirtual 105), 3), (6, .i2l, 1), (7, .lastore, 1), (8, (.goto 9), 3), (11, (.astore_n 2), 1), (12, (.iconst 1), 1), (13, .ireturn, 1), (14, (.astore_n 2), 1), (15, (.iconst 2), 1), (16, .ireturn, 1), (17, (.iconst 0), 1), (18, .ireturn, 1)]
set_option maxRecDepth 100000 in
theorem tL_publish_ok : kTab cL_publish tL_publish := kTab_of (by decide +kernel)
def tL_withdraw : List (Nat × Instr × Nat) := [(0, (.aload_n 1), 1), (1, (.iconst 0), 1), (2, (.aload_n 0), 1), (3, (.invokevirtual 108), 3), (6, .i2l, 1), (7, .lastore, 1), (8, (.goto 9), 3), (11, (.astore_n 2), 1), (12, (.iconst 1), 1), (13, .ireturn, 1), (14, (.astore_n 2), 1), (15, (.iconst 2), 1), (16, .ireturn, 1), (17, (.iconst 0), 1), (18, .ireturn, 1)]
set_option maxRecDepth 100000 in
theorem tL_withdraw_ok : kTab cL_withdraw tL_withdraw := kTab_of (by decide +kernel)
def tL_appeal : List (Nat × Instr × Nat) := [(0, (.aload_n 3), 1), (1, (.iconst 0), 1), (2, (.aload_n 0), 1), (3, (.iload_n 1), 1), (4, (.iload_n 2), 1), (5, (.invokevirtual 111), 3), (8, .i2l, 1), (9, .lastore, 1), (10, (.goto 11), 3), (13, (.astore 4), 2), (15, (.iconst 1), 1), (16, .ireturn, 1), (17, (.astore 4), 2), (19, (.iconst 2), 1), (20, .ireturn, 1), (21, (.iconst 0), 1), (22, .ireturn, 1)]
set_option maxRecDepth 100000 in
theorem tL_appeal_ok : kTab cL_appeal tL_appeal := kTab_of (by decide +kernel)
def tL_remark : List (Nat × Instr × Nat) := [(0, (.aload 5), 2), (2, (.iconst 0), 1), (3, (.aload_n 0), 1), (4, (.iload_n 1), 1), (5, (.iload_n 2), 1), (6, (.iload_n 3), 1), (7, (.iload 4), 2), (9, (.invokevirtual 114), 3), (12, .i2l, 1), (13, .lastore, 1), (14, (.goto 15), 3), (17, (.astore 6), 2), (19, (.iconst 1), 1), (20, .ireturn, 1), (21, (.astore 6), 2), (23, (.iconst 2), 1), (24, .ireturn, 1), (25, (.astore 6), 2), (27, (.iconst 3), 1), (28, .ireturn, 1), (29, (.iconst 0), 1), (30, .ireturn, 1)]
set_option maxRecDepth 100000 in
theorem tL_remark_ok : kTab cL_remark tL_remark := kTab_of (by decide +kernel)
def tL_account : List (Nat × Instr × Nat) := [(0, (.aload_n 2), 1), (1, (.iconst 0), 1), (2, (.aload_n 0), 1), (3, (.iload_n 1), 1), (4, (.invokevirtual 117), 3), (7, .i2l, 1), (8, .lastore, 1), (9, (.goto 6), 3), (12, (.astore_n 3), 1), (13, (.iconst 1), 1), (14, .ireturn, 1), (15, (.iconst 0), 1), (16, .ireturn, 1)]
set_option maxRecDepth 100000 in
theorem tL_account_ok : kTab cL_account tL_account := kTab_of (by decide +kernel)
def tL_report : List (Nat × Instr × Nat) := [(0, (.aload_n 3), 1), (1, (.iconst 0), 1), (2, (.aload_n 0), 1), (3, (.iload_n 1), 1), (4, (.iload_n 2), 1), (5, (.invokevirtual 120), 3), (8, .i2l, 1), (9, .lastore, 1), (10, (.goto 11), 3), (13, (.astore 4), 2), (15, (.iconst 1), 1), (16, .ireturn, 1), (17, (.astore 4), 2), (19, (.iconst 2), 1), (20, .ireturn, 1), (21, (.iconst 0), 1), (22, .ireturn, 1)]
set_option maxRecDepth 100000 in
theorem tL_report_ok : kTab cL_report tL_report := kTab_of (by decide +kernel)
def tL_count : List (Nat × Instr × Nat) := [(0, (.aload_n 2), 1), (1, (.iconst 0), 1), (2, (.aload_n 0), 1), (3, (.iload_n 1), 1), (4, (.invokevirtual 123), 3), (7, .i2l, 1), (8, .lastore, 1), (9, (.goto 6), 3), (12, (.astore_n 3), 1), (13, (.iconst 1), 1), (14, .ireturn, 1), (15, (.iconst 0), 1), (16, .ireturn, 1)]
set_option maxRecDepth 100000 in
theorem tL_count_ok : kTab cL_count tL_count := kTab_of (by decide +kernel)
def tL_undo : List (Nat × Instr × Nat) := [(0, (.aload_n 1), 1), (1, (.iconst 0), 1), (2, (.aload_n 0), 1), (3, (.invokevirtual 126), 3), (6, .i2l, 1), (7, .lastore, 1), (8, (.goto 6), 3), (11, (.astore_n 2), 1), (12, (.iconst 1), 1), (13, .ireturn, 1), (14, (.iconst 0), 1), (15, .ireturn, 1)]
set_option maxRecDepth 100000 in
theorem tL_undo_ok : kTab cL_undo tL_undo := kTab_of (by decide +kernel)
def tL_restore : List (Nat × Instr × Nat) := [(0, (.aload_n 1), 1), (1, (.iconst 0), 1), (2, (.aload_n 0), 1), (3, (.invokevirtual 129), 3), (6, .i2l, 1), (7, .lastore, 1), (8, (.goto 6), 3), (11, (.astore_n 2), 1), (12, (.iconst 1), 1), (13, .ireturn, 1), (14, (.iconst 0), 1), (15, .ireturn, 1)]
set_option maxRecDepth 100000 in
theorem tL_restore_ok : kTab cL_restore tL_restore := kTab_of (by decide +kernel)
end
section
/-! a throw whose constructor names the next class's by another entry of its pool: the first link of the chain is given apart (after the library's Stand.ctorThrowS; of the cell it tells the class alone) -/
def nA (own : String) (ic : Nat) (C : String) : List Cond :=
  Bundle.throwableAtoms ++ Bundle.throwableSAtoms ++
  [.methodLink own ic (Bundle.initS C), .instantiable C 6, .castable C C, .selects C Bundle.tFill0 Bundle.tFill0, .selects C Bundle.tFill Bundle.tFill,
   .lays C Bundle.tN "cause" "Ljava/lang/Throwable;", .lays C Bundle.tN "stackTrace" Bundle.steD, .lays C Bundle.tN "suppressedExceptions" Bundle.listD, .lays C Bundle.tN "detailMessage" "Ljava/lang/String;",
   .isRef (.static Bundle.tN "UNASSIGNED_STACK" Bundle.steD), .isRef (.static Bundle.tN "SUPPRESSED_SENTINEL" Bundle.listD),
   .fieldLink Bundle.tN 198 Bundle.tN "backtrace" "Ljava/lang/Object;", .lays Bundle.tN Bundle.tN "backtrace" "Ljava/lang/Object;", .lays C Bundle.tN "backtrace" "Ljava/lang/Object;"]
set_option maxHeartbeats 2000000 in
theorem ctorThrowN {p : Program} {l : Launch} {e : Env} {R : Room} {s : State} {m₀ : MethodId} {args : Array Value} {below : List Frame} {meth : Method} {c : Code} {W0 : State} {locs : List Loc} {cells slots : Nat}
    (X : Stand p l e R s m₀ args below meth c W0 locs cells slots) (hexec : p.tables.exec = Jvm.exec) (htr : e.platform.stackTraces = false) {own cls Y0 : String} {names : List String} {ic ix : Nat} {bytes : ByteArray}
    (hown : s.vm.findClass own = some m₀.cls) (hcls : Bundle.fit cls = true) (hY0 : Bundle.fit Y0 = true) (hnames : ∀ n ∈ names, Bundle.fit n = true)
    (b0 : decode bytes 0 = .ok (.aload_n 0, 1)) (b1 : decode bytes 1 = .ok (.aload_n 1, 1)) (b2 : decode bytes 2 = .ok (.invokespecial ix, 3)) (b5 : decode bytes 5 = .ok (.return_, 1))
    (h : ∀ a ∈ nA own ic cls, a.before args s = true) (hp : ∀ a ∈ Bundle.passSAtoms cls Y0 ix bytes, a.before args s = true) (hch : ∀ a ∈ Bundle.chainSAtoms Y0 names, a.before args s = true)
    (hlocs : ∀ x ∈ locs, ∀ cell, s.heap[x.base]? = some cell → cell.vm.isStatics = false)
    {a : Addr} {cX : ClassId} {kX : Class} (hfoundX : s.vm.findClass cls = some cX) (hkX : s.vm.classes[cX]? = some kX) (hcell : W0.heap[a]? = some (freshCell cX kX)) (hnew : s.heap.size ≤ a)
    {msg : Value} (hmsg : msg.isRef = true)
    {g : JFrame} (hg : g.method = m₀) (hsize : g.locals.size = c.maxLocals) (hlocked : g.locked = none) (hentered : g.entered = []) {rest : List Value} (hstack : g.stack = msg :: .ref a :: .ref a :: rest)
    (hd6 : decode c.code g.pc = .ok (.invokespecial ic, 3)) (hd9 : decode c.code (g.pc + 3) = .ok (.athrow, 1)) (hout : ∀ x ∈ c.exceptionTable.toList, covers x (g.pc + 3) = false)
    (hRframes : names.length + 4 < R.frames) (hRlocals : 2 * g.monitorRoom + ((Value.ref a :: rest).map fun v => v.category).sum + (13 * (names.length + 2) + 42) ≤ R.locals) (hlocks : meth.locks = false) :
    ∃ U : State, Steps p.tables e below (W0.setTop g) U ∧ U.status = .running ∧ Ended U below (.threw a) ∧ s.WarmedH U.vm ∧ s.sameButNew ({ U with vm := s.vm } : State) locs cells slots ∧
      ∃ ce, U.heap[a]? = some ce ∧ s.vm.findClass cls = some ce.cls ∧ ce.vm = .none := by
  have howns : e.platform.frameOwnsMonitors = true := by rw [X.admits.platform]
  have hfin : e.platform.finalization = false := by rw [X.admits.platform]
  have hpl : e.platform.magicAccessors = ({} : Platform).magicAccessors := by rw [X.admits.platform]
  have a' : ∀ x, x ∈ nA own ic cls → x.holds args s none s [] = true := fun x hx => h x hx
  obtain ⟨T, Z0, L, -, Y⟩ := ThrowableC.of_atoms (args := args) howns hfin hpl (fun x hx => h x (by simp [nA, hx]))
  obtain ⟨Z, M, LZ, LM, hnZ⟩ := Init0T.ofS_atoms (args := args) hpl L Y (fun x hx => h x (by simp [nA, hx]))
  obtain ⟨P2, Ps, hlen, L2, hL, hP2m, hlink2, hlink⟩ := Bundle.chainS (args := args) hpl hnZ names Y0 hY0 hnames hch
  obtain ⟨P1, L1, hP1m, hP1s⟩ := PassC.ofS_atoms (args := args) (s := s) hpl (X := cls) (Y := Y0) (Bundle.fit_spec hcls).1 (Bundle.fit_spec hY0).2 b0 b1 b2 b5 hp
  have hlink1 : P1.sup = P2.m := Option.some.inj (hP1s.symm.trans hP2m)
  have hfound : s.vm.findClass cls = some P1.m.cls := findClass_of_methodNamed hP1m
  cases Option.some.inj (hfoundX.symm.trans hfound)
  obtain ⟨c1, kX', hc1, hk, hord, -, -, hn6⟩ := Cond.instantiable_spec (a' (.instantiable cls 6) (by simp [nA]))
  cases Option.some.inj (hc1.symm.trans hfound)
  cases Option.some.inj (hkX.symm.trans hk)
  have hsel0 : selectMethod e.platform s.vm P1.m.cls T.fill0 = .method T.fill0 := by
    obtain ⟨c2, r2, m2, q1, q2, q3, q4, -⟩ := Cond.selects_spec (a' (.selects cls Bundle.tFill0 Bundle.tFill0) (by simp [nA]))
    cases Option.some.inj (q1.symm.trans hfound)
    cases Option.some.inj (q2.symm.trans (State.methodFound?_of_named Y.fill0 (by decide)))
    cases Option.some.inj (q3.symm.trans Y.fill0)
    rw [Launch.admits_selectMethod X.admits]; exact q4
  have hselF : selectMethod e.platform s.vm P1.m.cls T.fill = .method T.fill := by
    obtain ⟨c2, r2, m2, q1, q2, q3, q4, -⟩ := Cond.selects_spec (a' (.selects cls Bundle.tFill Bundle.tFill) (by simp [nA]))
    cases Option.some.inj (q1.symm.trans hfound)
    cases Option.some.inj (q2.symm.trans (State.methodFound?_of_named Y.fill (by decide)))
    cases Option.some.inj (q3.symm.trans Y.fill)
    rw [Launch.admits_selectMethod X.admits]; exact q4
  obtain ⟨cellS0, hcS0, hiss⟩ := Y.statics
  obtain ⟨u0, hu0⟩ := Cond.staticRefV Y.unassigned L.unassignedStatic L.statics hcS0 hiss (a' (.isRef (.static Bundle.tN "UNASSIGNED_STACK" Bundle.steD)) (by simp [nA]))
  obtain ⟨sen, hsen⟩ := Cond.staticRefV Y.sentinel L.sentinelStatic L.statics hcS0 hiss (a' (.isRef (.static Bundle.tN "SUPPRESSED_SENTINEL" Bundle.listD)) (by simp [nA]))
  obtain ⟨ci198, i198, fB, hk198, hg198, ha198, hsB, -, hnB, htB, hffB⟩ := Cond.ownField (t := .object "java/lang/Object") Y.found L.cls (by decide +kernel) (a' (.fieldLink Bundle.tN 198 Bundle.tN "backtrace" "Ljava/lang/Object;") (by simp [nA])) (a' (.lays Bundle.tN Bundle.tN "backtrace" "Ljava/lang/Object;") (by simp [nA])) e.platform hpl
  obtain ⟨cellS, hcS', heS, -, hkeep⟩ := X.same.2.2.2.2.2 T.aS cellS0 hcS0
  have hcellS : W0.heap[T.aS]? = some cellS := hcS'
  have hout' : ∀ i, (⟨T.aS, i⟩ : Loc) ∉ locs := fun i hmem => by
    have := hlocs _ hmem cellS0 hcS0
    rw [hiss] at this; cases this
  have hknownS : cellS.vm ≠ .unknown := by
    rw [heS]; intro hu
    rw [show cellS0.vm = .unknown from hu] at hiss
    cases hiss
  have hneS : T.aS ≠ a := Nat.ne_of_lt (Nat.lt_of_lt_of_le (Array.getElem?_eq_some_iff.mp hcS0).1 hnew)
  obtain ⟨iM, hffM⟩ := Y.msg
  obtain ⟨tyC, dC, hdC, hdnC⟩ := Cond.laysAt hfound hk Y.cause (a' (.lays cls Bundle.tN "cause" "Ljava/lang/Throwable;") (by simp [nA]))
  obtain ⟨tyS, dS, hdS, hdnS⟩ := Cond.laysAt hfound hk Y.stack (a' (.lays cls Bundle.tN "stackTrace" Bundle.steD) (by simp [nA]))
  obtain ⟨tyP, dP, hdP, hdnP⟩ := Cond.laysAt hfound hk Y.supp (a' (.lays cls Bundle.tN "suppressedExceptions" Bundle.listD) (by simp [nA]))
  obtain ⟨tyM, dM, hdM, hdnM⟩ := Cond.laysAt hfound hk hffM (a' (.lays cls Bundle.tN "detailMessage" "Ljava/lang/String;") (by simp [nA]))
  obtain ⟨tyB, dB, hdB, hdnB⟩ := Cond.laysAt hfound hk hffB (a' (.lays cls Bundle.tN "backtrace" "Ljava/lang/Object;") (by simp [nA]))
  have bC := Cond.laysApart hdB hdC hdnB hdnC (by rw [hnB, Y.causeName]; decide)
  have bS := Cond.laysApart hdB hdS hdnB hdnS (by rw [hnB, Y.stackName]; decide)
  have bP := Cond.laysApart hdB hdP hdnB hdnP (by rw [hnB, Y.suppName]; decide)
  have hskip : SkipFacts T e.platform s (fun u => u) u0 ((preparedCellV T.toThrowableT (freshCell P1.m.cls kX) a u0 sen).withEntry W0.cur) :=
    ⟨{ ci198 := ci198, i198 := i198, fBack := fB }, ⟨hk198, hg198, ha198, hsB⟩, by
      have := fresh_default (c := P1.m.cls) tyB
      rw [htB] at this
      simpa [preparedCellV, Cell.setSlot, Cell.withEntry, Array.getElem?_setIfInBounds, bC, bS, bP, bC.symm, bS.symm, bP.symm, defaultValue] using this, fun _ _ => rfl⟩
  obtain ⟨tm, methC, cdC, kC, vm₁, hnC, -, -, -, -, -, -, -, hW₁, st1⟩ := Steps.initColdS (tb := p.tables) (e := e) (below := below) (s := s) (U := W0) X.here hexec X.warmed hpl hown (t := Bundle.initS cls) rfl rfl (Bundle.fit_spec hcls).2
    (a' (.methodLink own ic (Bundle.initS cls)) (by simp [nA])) (hp (.instanceMethod (Bundle.initS cls)) (by simp [Bundle.passSAtoms])) (bytes := bytes) (maxL := 2) (hp (.code (Bundle.initS cls) bytes 2 none) (by simp [Bundle.passSAtoms]))
    (f := g) hg (a := a) (msg := msg) (rest := .ref a :: rest) hstack hd6
  cases Option.some.inj (hnC.symm.trans hP1m)
  have X₁ := X.noted hW₁
  obtain ⟨vm₂, X₂, st2⟩ := X₁.ctorMessageOffV hexec (g := { g with stack := .ref a :: rest }) hg hsize T L Z LZ M LM (P1 :: P2 :: Ps)
    (fun P hP => by
      rcases List.mem_cons.mp hP with rfl | hP
      · exact L1
      · rcases List.mem_cons.mp hP with rfl | hP
        · exact L2
        · exact hL P hP) ⟨hlink1, hlink2, hlink⟩ (u0 := u0) (sen := sen) (self := a) hmsg (cell := freshCell P1.m.cls kX) (cellS := cellS)
    hcell (fun _ => by simp) (by simp) rfl rfl hsel0 hselF hcellS hneS hknownS (by rw [hkeep _ (hout' _)]; exact hu0) (by rw [hkeep _ (hout' _)]; exact hsen)
    (Takes.of_laid hk hord tyC (by rw [Y.causeType]; rfl)) (Takes.of_laid hk hord tyS (by rw [Y.stackType]; exact fits_refV_array _ u0)) (Takes.of_laid hk hord tyP (by rw [Y.suppType]; exact fits_refV_object _ sen))
    (Takes.of_laid hk hord tyM (by rw [Y.msgType]; exact fits_refV_object _ ⟨msg, hmsg⟩)) Y.objLocals hskip htr [] hd6
    (by simp only [List.length_cons, hlen]; omega) (by simp only [List.length_cons, hlen]; exact hRlocals)
  obtain ⟨hwalk, hrun, hended, hWU, hsame⟩ := X₂.athrowLeaves hexec (g := { g with stack := .ref a :: rest, pc := g.pc + 3 }) hg hlocked hentered hout (a := a) (rest := rest) rfl hd9
  have hlt : a < ((W0.setVm vm₁).setVm vm₂).heap.size := (Array.getElem?_eq_some_iff.mp hcell).1
  have hU := heapAt_setCell_self (s := (W0.setVm vm₁).setVm vm₂) (plainBareV T.toThrowableT (freshCell P1.m.cls kX) a u0 sen msg) hlt
  refine ⟨_, st1 _ (fun acts => ?_), hrun, hended, hWU, hsame.weaken (fun y hy hlt' => ?_) (Nat.le_refl _) (Nat.le_refl _), _, hU, hfound, rfl⟩
  · rw [doInvoke_state]
    exact st2 _ hwalk
  · rcases List.mem_append.mp hy with h1 | h1
    · exact h1
    · exfalso
      have hb : y.base = a := by
        simp only [List.mem_cons, List.not_mem_nil, or_false] at h1
        rcases h1 with rfl | rfl | rfl | rfl | rfl <;> rfl
      rw [hb] at hlt'
      exact Nat.not_lt.mpr hnew hlt'
end
section
def nsBytes : ByteArray := ⟨#[0x2a, 0x2b, 0xb7, 0x00, 0x0d, 0xb1]⟩
def kTN (own : String) (ic : Nat) : Prop := Bundle.fit (exName 5) = true ∧ Cond.initialized (exName 5) ∈ kG ∧
  (∀ w ∈ (nA own ic (exName 5)).filter vx_no, w ∈ kG ∨ (∃ q ∈ kNC, w = .castable q.1 q.2) ∨ (∃ q ∈ kND, w = .declares q)) ∧ (∀ w ∈ (nA own ic (exName 5)).filter vx_no, vx_ot w = true) ∧
  (∀ w ∈ Bundle.passSAtoms (exName 5) "java/lang/RuntimeException" 13 nsBytes, w ∈ kG ∨ (∃ q ∈ kNC, w = .castable q.1 q.2) ∨ (∃ q ∈ kND, w = .declares q)) ∧ (∀ w ∈ Bundle.passSAtoms (exName 5) "java/lang/RuntimeException" 13 nsBytes, vx_ot w = true) ∧
  (∀ w ∈ Bundle.chainSAtoms "java/lang/RuntimeException" ["java/lang/Exception"], w ∈ kG ∨ (∃ q ∈ kNC, w = .castable q.1 q.2) ∨ (∃ q ∈ kND, w = .declares q)) ∧ (∀ w ∈ Bundle.chainSAtoms "java/lang/RuntimeException" ["java/lang/Exception"], vx_ot w = true)
set_option maxRecDepth 100000 in
theorem tn_0 : kTN RX10 213 := ⟨by decide +kernel, inT1 25 (by decide +kernel) rfl, kAT_of (by decide +kernel), by decide +kernel, kAT_of (by decide +kernel), by decide +kernel, kAT_of (by decide +kernel), by decide +kernel⟩
theorem K_throwN {X : kX} {md : kM} {d : Nat} {ex : Bool} {po : kPo} {sk : List Kd} {cr sr pc : Nat} {l : List (Nat × Value)} {μ : Mu} {ik is ic : Nat} {text : String} (F : kTN md.1.cls ic) (hk : Cond.classLink md.1.cls ik (exName 5) ∈ kG) (hstr : (md.1.cls, is, text) ∈ kSR) (htab : md.2.2.2.2 = [])
    (d0 : decode md.2.1 pc = .ok (.new ik, 3)) (d3 : decode md.2.1 (pc + 3) = .ok (.dup, 1)) (d4 : decode md.2.1 (pc + 4) = .ok (.ldc is, 2)) (d6 : decode md.2.1 (pc + 6) = .ok (.invokespecial ic, 3)) (d9 : decode md.2.1 (pc + 9) = .ok (.athrow, 1))
    (hp : po.2 5 sk μ) : KJ X md d ex po sk (cr + 1) (sr + 6) pc l [] μ := by
  intro p l0 e R s m args below meth c H locs cells slots mc ms ls C hc hs hl hH hS hz
  obtain ⟨c1, c2, c3, c4, c5, c6, c7, c8, c9, ⟨r1, r2, r3, r4⟩, c11, c12, c13⟩ := C
  obtain ⟨sa, hsa⟩ := c9.2.2.2.2.1 _ hstr
  obtain ⟨F1, F2, F3, F4, F5, F6, F7, F8⟩ := F
  have use : ∀ w : Cond, (w ∈ kG ∨ (∃ q ∈ kNC, w = .castable q.1 q.2) ∨ (∃ q ∈ kND, w = .declares q)) → w.before args s = true := by
    intro w h
    rcases h with h | ⟨q, hq, rfl⟩ | ⟨q, hq, rfl⟩
    · exact c8 w h
    · exact va_Nw.use rfl (c9.2.2.1 q hq)
    · exact va_Nw.use rfl (c9.2.2.2.1 q hq)
  intro T hT X0
  have htr : e.platform.stackTraces = false := (show e.platform.stackTraces = l0.stackTraces by rw [X0.admits.platform]).trans c11
  have Y := vx_rebase X0 (R' := { frames := R.frames, locals := R.locals, cells := 1, slots := 6 }) (Nat.le_refl _) (Nat.le_refl _) (show cells + 1 ≤ R.cells by omega) (show slots + 6 ≤ R.slots by omega)
  obtain ⟨s', hA⟩ : ∃ z, z = (T.setVm s.vm).setFrames (.invoking m args :: below) := ⟨_, rfl⟩
  rw [← hA] at Y
  have hvm : s'.vm = s.vm := by rw [hA]; rfl
  have hhp : s'.heap = H := by rw [hA]; exact hT
  have hW0 : s.WarmedH s'.vm := by rw [hvm]; exact State.WarmedH.refl s
  have ot : ∀ w : Cond, vx_ot w = true → (w ∈ kG ∨ (∃ q ∈ kNC, w = .castable q.1 q.2) ∨ (∃ q ∈ kND, w = .declares q)) → w.before args s' = true := fun w h1 h2 => vx_ot_at hW0 hvm.symm h1 (use w h2)
  have hU' : vx_Zq Bundle.tN "UNASSIGNED_STACK" Bundle.steD (kFree X) s' s'.heap := by rw [hhp]; exact vx_Zq.moved hW0.alike (c9.2.2.2.2.2.1.kept hS.2.1)
  have hN' : vx_Zq Bundle.tN "SUPPRESSED_SENTINEL" Bundle.listD (kFree X) s' s'.heap := by rw [hhp]; exact vx_Zq.moved hW0.alike (c9.2.2.2.2.2.2.1.kept hS.2.1)
  have h : ∀ w ∈ nA md.1.cls ic (exName 5), w.before args s' = true := vx_own (fun w hw => ot w (F4 w hw) (F3 w hw)) (vx_isRefq hU'.1) (vx_isRefq hN'.1) hU'.2.word hN'.2.word
  have hown' : s'.vm.findClass md.1.cls = some m.cls := by rw [hvm]; exact c6
  have hins : (Cond.instantiable (exName 5) 6).before args s' = true := h _ (by simp [nA])
  obtain ⟨vm₁, cX, kX0, hfX, hkX, -, -, X₁, st1⟩ := Y.newCold c1 (own := md.1.cls) (C := exName 5) (index := ik) (n := 6) hown' (ot _ rfl (Or.inl hk)) hins (ot _ rfl (Or.inl F2))
    (g := F0 m pc ls []) rfl (by rw [c2]; exact d0) (Nat.le_refl _) (Nat.le_refl _)
  generalize hT1 : (T.setVm vm₁).pushCell { cls := cX, slots := kX0.instanceTypes.map defaultValue, vm := .none } = T1 at X₁ st1
  have hcat : (Value.ref T.heap.size).category = 1 := rfl
  have hcellA : T1.heap[T.heap.size]? = some (freshCell cX kX0) := by rw [← hT1]; exact State.heap_pushCell_size _ _
  have d3' : decode c.code (pc + 3) = .ok (.dup, 1) := by rw [c2]; exact d3
  have d4' : decode c.code (pc + 4) = .ok (.ldc is, 2) := by rw [c2]; exact d4
  have hstr' : vk_R md.1.cls is text sa s' := vk_R.warm hW0 hsa
  obtain ⟨U, hsteps, hrun, hend, hW, hsame, ce, hce, hcl0, hvm0⟩ := ctorThrowN X₁ c1 htr (own := md.1.cls) (cls := exName 5) (Y0 := "java/lang/RuntimeException") (names := ["java/lang/Exception"]) (ic := ic) (ix := 13) (bytes := nsBytes) hown' F1 (by decide +kernel) (by decide +kernel) (by decide +kernel) (by decide +kernel) (by decide +kernel) (by decide +kernel) h (fun w hw => ot w (F6 w hw) (F5 w hw)) (fun w hw => ot w (F8 w hw) (F7 w hw)) (fun x hx => nomatch hx) hfX hkX hcellA (by rw [hhp, hT]; exact Nat.le_refl _) (msg := .ref sa) rfl
    (g := { method := m, pc := pc + 6, locals := ls, stack := .ref sa :: .ref T.heap.size :: .ref T.heap.size :: [], locked := none }) rfl (by rw [c3]; exact hl.1) rfl rfl (rest := []) rfl
    (by rw [c2]; exact d6) (by rw [c2]; exact d9) (by rw [c12, htab]; exact fun x h => nomatch h) (by simp only [List.length_cons, List.length_nil]; omega) (by simp only [List.map_cons, List.sum_cons, List.map_nil, List.sum_nil, hcat, List.length_cons, List.length_nil, JFrame.monitorRoom]; show 2 * 0 + _ + _ ≤ R.locals; omega) c5
  obtain ⟨f1, f2⟩ := vx_frame hsame
  rw [hhp] at f1 f2
  have hWs : s.WarmedH U.vm := State.WarmedH.trans hW0 hW
  have hcl : s.vm.findClass (exName 5) = some ce.cls := by rw [hvm] at hcl0; exact hcl0
  have hall : s.sameButNew ({ U with vm := s.vm } : State) locs mc ms := by
    subst hA
    obtain ⟨e1, e2⟩ := hsame
    rw [State.setFrames_setFrames] at e1
    have h2 : (T.setVm s.vm).sameButNew ({ U with vm := s.vm } : State) [] (0 + 1) (0 + 6) := ⟨e1, e2⟩
    have h3 := X0.same.trans h2
    rw [List.append_nil] at h3
    exact h3.mono (by omega) (by omega)
  have hk1 : ∀ q : Nat, q < H.size → U.heap[q]? = H[q]? := fun q hq => f2 q hq (fun z hz => nomatch hz)
  refine ⟨U, ?_, .threw T.heap.size, hrun, hend, Or.inr ⟨T.heap.size, rfl, exName 5, ce, locs, ?_, hce, hvm0, hcl, hWs, hall, hS.2.2⟩⟩
  · refine st1 _ ?_
    show Steps p.tables e below (T1.setTop { method := m, pc := pc + 3, locals := ls, stack := .ref T.heap.size :: [], locked := none }) _
    jvm_step X₁.here [X₁.here.top, c1, d3', Value.category]
    exact X₁.ldcString c1 (own := md.1.cls) (text := text) (index := is) (a := sa) hown' hstr'.1 hstr'.2
      (g := { method := m, pc := pc + 4, locals := ls, stack := .ref T.heap.size :: .ref T.heap.size :: [], locked := none }) rfl d4' _ hsteps
  · exact ⟨5, sk, μ, rfl, hp, ⟨hH.1.kept (fun k q hq => hk1 _ ((hH.1 k q hq).lt)), fun h => by cases h⟩, ⟨Nat.le_trans hS.1 f1, fun q h1 h2 => (hk1 q (Nat.lt_of_lt_of_le h1 hS.1)).trans (hS.2.1 q h1 h2)⟩⟩

theorem K_throwNW {X : kX} {md : kM} {d : Nat} {ex : Bool} {po : kPo} {sk : List Kd} {cr sr pc : Nat} {l : List (Nat × Value)} {μ : Mu} {ik is ic : Nat} {text : String} (F : kTN md.1.cls ic) (hk : Cond.classLink md.1.cls ik (exName 5) ∈ kG) (hstr : (md.1.cls, is, text) ∈ kSR) (htab : md.2.2.2.2 = [])
    (d0 : decode md.2.1 pc = .ok (.new ik, 3)) (d3 : decode md.2.1 (pc + 3) = .ok (.dup, 1)) (d4 : decode md.2.1 (pc + 4) = .ok (.ldc_w is, 3)) (d6 : decode md.2.1 (pc + 7) = .ok (.invokespecial ic, 3)) (d9 : decode md.2.1 (pc + 10) = .ok (.athrow, 1))
    (hp : po.2 5 sk μ) : KJ X md d ex po sk (cr + 1) (sr + 6) pc l [] μ := by
  intro p l0 e R s m args below meth c H locs cells slots mc ms ls C hc hs hl hH hS hz
  obtain ⟨c1, c2, c3, c4, c5, c6, c7, c8, c9, ⟨r1, r2, r3, r4⟩, c11, c12, c13⟩ := C
  obtain ⟨sa, hsa⟩ := c9.2.2.2.2.1 _ hstr
  obtain ⟨F1, F2, F3, F4, F5, F6, F7, F8⟩ := F
  have use : ∀ w : Cond, (w ∈ kG ∨ (∃ q ∈ kNC, w = .castable q.1 q.2) ∨ (∃ q ∈ kND, w = .declares q)) → w.before args s = true := by
    intro w h
    rcases h with h | ⟨q, hq, rfl⟩ | ⟨q, hq, rfl⟩
    · exact c8 w h
    · exact va_Nw.use rfl (c9.2.2.1 q hq)
    · exact va_Nw.use rfl (c9.2.2.2.1 q hq)
  intro T hT X0
  have htr : e.platform.stackTraces = false := (show e.platform.stackTraces = l0.stackTraces by rw [X0.admits.platform]).trans c11
  have Y := vx_rebase X0 (R' := { frames := R.frames, locals := R.locals, cells := 1, slots := 6 }) (Nat.le_refl _) (Nat.le_refl _) (show cells + 1 ≤ R.cells by omega) (show slots + 6 ≤ R.slots by omega)
  obtain ⟨s', hA⟩ : ∃ z, z = (T.setVm s.vm).setFrames (.invoking m args :: below) := ⟨_, rfl⟩
  rw [← hA] at Y
  have hvm : s'.vm = s.vm := by rw [hA]; rfl
  have hhp : s'.heap = H := by rw [hA]; exact hT
  have hW0 : s.WarmedH s'.vm := by rw [hvm]; exact State.WarmedH.refl s
  have ot : ∀ w : Cond, vx_ot w = true → (w ∈ kG ∨ (∃ q ∈ kNC, w = .castable q.1 q.2) ∨ (∃ q ∈ kND, w = .declares q)) → w.before args s' = true := fun w h1 h2 => vx_ot_at hW0 hvm.symm h1 (use w h2)
  have hU' : vx_Zq Bundle.tN "UNASSIGNED_STACK" Bundle.steD (kFree X) s' s'.heap := by rw [hhp]; exact vx_Zq.moved hW0.alike (c9.2.2.2.2.2.1.kept hS.2.1)
  have hN' : vx_Zq Bundle.tN "SUPPRESSED_SENTINEL" Bundle.listD (kFree X) s' s'.heap := by rw [hhp]; exact vx_Zq.moved hW0.alike (c9.2.2.2.2.2.2.1.kept hS.2.1)
  have h : ∀ w ∈ nA md.1.cls ic (exName 5), w.before args s' = true := vx_own (fun w hw => ot w (F4 w hw) (F3 w hw)) (vx_isRefq hU'.1) (vx_isRefq hN'.1) hU'.2.word hN'.2.word
  have hown' : s'.vm.findClass md.1.cls = some m.cls := by rw [hvm]; exact c6
  have hins : (Cond.instantiable (exName 5) 6).before args s' = true := h _ (by simp [nA])
  obtain ⟨vm₁, cX, kX0, hfX, hkX, -, -, X₁, st1⟩ := Y.newCold c1 (own := md.1.cls) (C := exName 5) (index := ik) (n := 6) hown' (ot _ rfl (Or.inl hk)) hins (ot _ rfl (Or.inl F2))
    (g := F0 m pc ls []) rfl (by rw [c2]; exact d0) (Nat.le_refl _) (Nat.le_refl _)
  generalize hT1 : (T.setVm vm₁).pushCell { cls := cX, slots := kX0.instanceTypes.map defaultValue, vm := .none } = T1 at X₁ st1
  have hcat : (Value.ref T.heap.size).category = 1 := rfl
  have hcellA : T1.heap[T.heap.size]? = some (freshCell cX kX0) := by rw [← hT1]; exact State.heap_pushCell_size _ _
  have d3' : decode c.code (pc + 3) = .ok (.dup, 1) := by rw [c2]; exact d3
  have d4' : decode c.code (pc + 4) = .ok (.ldc_w is, 3) := by rw [c2]; exact d4
  have hstr' : vk_R md.1.cls is text sa s' := vk_R.warm hW0 hsa
  obtain ⟨U, hsteps, hrun, hend, hW, hsame, ce, hce, hcl0, hvm0⟩ := ctorThrowN X₁ c1 htr (own := md.1.cls) (cls := exName 5) (Y0 := "java/lang/RuntimeException") (names := ["java/lang/Exception"]) (ic := ic) (ix := 13) (bytes := nsBytes) hown' F1 (by decide +kernel) (by decide +kernel) (by decide +kernel) (by decide +kernel) (by decide +kernel) (by decide +kernel) h (fun w hw => ot w (F6 w hw) (F5 w hw)) (fun w hw => ot w (F8 w hw) (F7 w hw)) (fun x hx => nomatch hx) hfX hkX hcellA (by rw [hhp, hT]; exact Nat.le_refl _) (msg := .ref sa) rfl
    (g := { method := m, pc := pc + 7, locals := ls, stack := .ref sa :: .ref T.heap.size :: .ref T.heap.size :: [], locked := none }) rfl (by rw [c3]; exact hl.1) rfl rfl (rest := []) rfl
    (by rw [c2]; exact d6) (by rw [c2]; exact d9) (by rw [c12, htab]; exact fun x h => nomatch h) (by simp only [List.length_cons, List.length_nil]; omega) (by simp only [List.map_cons, List.sum_cons, List.map_nil, List.sum_nil, hcat, List.length_cons, List.length_nil, JFrame.monitorRoom]; show 2 * 0 + _ + _ ≤ R.locals; omega) c5
  obtain ⟨f1, f2⟩ := vx_frame hsame
  rw [hhp] at f1 f2
  have hWs : s.WarmedH U.vm := State.WarmedH.trans hW0 hW
  have hcl : s.vm.findClass (exName 5) = some ce.cls := by rw [hvm] at hcl0; exact hcl0
  have hall : s.sameButNew ({ U with vm := s.vm } : State) locs mc ms := by
    subst hA
    obtain ⟨e1, e2⟩ := hsame
    rw [State.setFrames_setFrames] at e1
    have h2 : (T.setVm s.vm).sameButNew ({ U with vm := s.vm } : State) [] (0 + 1) (0 + 6) := ⟨e1, e2⟩
    have h3 := X0.same.trans h2
    rw [List.append_nil] at h3
    exact h3.mono (by omega) (by omega)
  have hk1 : ∀ q : Nat, q < H.size → U.heap[q]? = H[q]? := fun q hq => f2 q hq (fun z hz => nomatch hz)
  refine ⟨U, ?_, .threw T.heap.size, hrun, hend, Or.inr ⟨T.heap.size, rfl, exName 5, ce, locs, ?_, hce, hvm0, hcl, hWs, hall, hS.2.2⟩⟩
  · refine st1 _ ?_
    show Steps p.tables e below (T1.setTop { method := m, pc := pc + 3, locals := ls, stack := .ref T.heap.size :: [], locked := none }) _
    jvm_step X₁.here [X₁.here.top, c1, d3', Value.category]
    exact X₁.ldcStringW c1 (own := md.1.cls) (text := text) (index := is) (a := sa) hown' hstr'.1 hstr'.2
      (g := { method := m, pc := pc + 4, locals := ls, stack := .ref T.heap.size :: .ref T.heap.size :: [], locked := none }) rfl d4' _ hsteps
  · exact ⟨5, sk, μ, rfl, hp, ⟨hH.1.kept (fun k q hq => hk1 _ ((hH.1 k q hq).lt)), fun h => by cases h⟩, ⟨Nat.le_trans hS.1 f1, fun q h1 h2 => (hk1 q (Nat.lt_of_lt_of_le h1 hS.1)).trans (hS.2.1 q h1 h2)⟩⟩
end
section
/-! more rows in the printed form; functions that never throw -/
theorem vx_ofWF {l : Launch} {y : MethodName} {ws ws' : List Cond} {rm : Room} {Pc : Array Value → State → Prop} {Qc : Array Value → State → Outcome → State → Prop} {XC : String → State → State → Prop} {mc ms : Nat} {free : Addr → Prop} {cc : ByteArray} {maxL : Nat} {ret : Option FieldType}
    (hy : plainFor y = true) (hw : ws = Cond.code y cc maxL ret :: ws')
    (body : ∀ p e s m args below meth c s₁, BodyLoose p l y (headSpec ws rm) cc maxL ret e s m args below meth c s₁ → c.maxLocals = maxL → (∀ x ∈ c.exceptionTable.toList, False) → Pc args s →
      W p l e (headSpec ws rm).room s m args below meth c s.heap [] 0 0 (vx_MQ below Qc XC args s mc ms free) (entryFrame m args maxL)) : vx_Met l y ws rm Pc Qc XC mc ms free := by
  refine MetFree.of_bodySF (code := cc) (maxLocals := maxL) (ret := ret) hy ?_ ?_
  · intro args s m h hn
    obtain ⟨meth, c, h1, h2, h3, h4, h5, h6, -, -⟩ := Cond.code_spec hn (atoms_spec (ws := ws) h _ (by rw [hw]; exact List.mem_cons_self))
    exact ⟨meth, c, h1, h2, h3, h4, h5, h6⟩
  · intro p e s m args below meth c s₁ B hml hP _
    have hh0 : s₁.heap = s.heap := by rw [B.state]; rfl
    have ht : ∀ x ∈ c.exceptionTable.toList, False := by
      obtain ⟨meth9, c9, h1, h2, -, -, -, -, h7, -⟩ := Cond.code_spec B.named (atoms_spec (ws := ws) B.pre _ (by rw [hw]; exact List.mem_cons_self))
      cases Option.some.inj (h1.symm.trans B.method)
      cases Option.some.inj (h2.symm.trans (Stand.of_body B).code)
      intro x hx
      rw [Array.isEmpty_iff.mp h7] at hx
      cases hx
    obtain ⟨t, a1, o, b1, b2, b3⟩ := body p e s m args below meth c s₁ B hml ht hP s₁ hh0 (Stand.of_body B)
    exact ⟨t, o, a1, b1, b2, b3⟩
theorem ct_ofF {X : kX} {md : kM} {d : Nat} {sk : List Kd} {ex : Bool} {μ : Mu} {mc ms : Nat} {args : List Value} {po : kPo} (hy : plainFor md.1 = true) (ht : md.2.2.2.2 = []) (hl : (lg_sl args).length ≤ md.2.2.1)
    (k : KJ X md d ex po sk mc ms 0 (lv_args 0 args) [] μ) : Ct X md d sk ex μ mc ms args po := by
  intro l0 hl0
  refine vx_ofWF (cc := md.2.1) (maxL := md.2.2.1) (ret := md.2.2.2.1) hy rfl ?_
  intro p e s m args0 below meth c s₁ B hml hxt hv
  obtain ⟨rfl, hE, hH, hz⟩ := hv
  have hts := atoms_spec (ws := kWs md) B.pre
  rw [lg_entry_eq]
  exact k p l0 e _ s m _ below meth c s.heap [] 0 0 mc ms _
    ⟨B.exec, B.bytes, hml, B.returns, B.notSynchronized, findClass_of_methodNamed B.named, (name_of_methodNamed B.named B.method).1, fun w hw => hts w (List.mem_cons_of_mem _ hw), hE, ⟨Nat.le_refl _, Nat.le_refl _, Nat.le_refl _, Nat.le_refl _⟩, hl0, by rw [ht]; exact List.eq_nil_iff_forall_not_mem.mpr hxt, hz⟩
    (by omega) (by omega) (lv_entry args hl) hH va_S.rf (fun _ => rfl)
section KZ2
variable {X : kX} {md mdY : kM} {d d' rk rkY : Nat} {res : Res} {pc : Nat} {l : List (Nat × Value)} {st As : List Value} {μ : Mu} {x y w : Int} {a a0 n0 n1 n ci k idx b t : Nat} {rf rf0 : Nat → Option Nat} {host : String} {fin : Bool}
def FU : Nat := 100000
theorem kTab_at {cc : ByteArray} {t : List (Nat × Instr × Nat)} (h : kTab cc t) (k : Nat) {pc len : Nat} {i : Instr} (hk : t[k]? = some (pc, i, len)) : decode cc pc = .ok (i, len) := h k (pc, i, len) hk
theorem Z_mmax {k0 : Int → Option Res} (hd : decode md.2.1 pc = .ok (.invokestatic idx, 3)) (h1 : Cond.methodLink md.1.cls idx Lib.Math.max.name ∈ kG) (h2 : Cond.static Lib.Math.max.name ∈ kG) (h3 : Cond.initialized "java/lang/Math" ∈ kG) (h4 : Cond.code Lib.Math.max.name Lib.Math.max.code 2 (some .int) ∈ kG) (hst : (st.map fun v => v.category).sum ≤ 8)
    (h : i_max x y k0 = some res) (kk : ∀ v, k0 v = some res → KK X md d rk res (pc + 3) l (.int (iI v) :: st) μ) : KK X md d rk res pc l (.int (iI y) :: .int (iI x) :: st) μ := K_mmax hd h1 h2 h3 h4 hst h (kk _)
theorem Z_mmin {k0 : Int → Option Res} (hd : decode md.2.1 pc = .ok (.invokestatic idx, 3)) (h1 : Cond.methodLink md.1.cls idx Lib.Math.min.name ∈ kG) (h2 : Cond.static Lib.Math.min.name ∈ kG) (h3 : Cond.initialized "java/lang/Math" ∈ kG) (h4 : Cond.code Lib.Math.min.name Lib.Math.min.code 2 (some .int) ∈ kG) (hst : (st.map fun v => v.category).sum ≤ 8)
    (h : i_min x y k0 = some res) (kk : ∀ v, k0 v = some res → KK X md d rk res (pc + 3) l (.int (iI v) :: st) μ) : KK X md d rk res pc l (.int (iI y) :: .int (iI x) :: st) μ := K_mmin hd h1 h2 h3 h4 hst h (kk _)
theorem Z_mabs {k0 : Int → Option Res} (hd : decode md.2.1 pc = .ok (.invokestatic idx, 3)) (h1 : Cond.methodLink md.1.cls idx Lib.Math.abs.name ∈ kG) (h2 : Cond.static Lib.Math.abs.name ∈ kG) (h3 : Cond.initialized "java/lang/Math" ∈ kG) (h4 : Cond.code Lib.Math.abs.name Lib.Math.abs.code 1 (some .int) ∈ kG) (hst : (st.map fun v => v.category).sum ≤ 8)
    (h : i_abs x k0 = some res) (kk : ∀ v, k0 v = some res → KK X md d rk res (pc + 3) l (.int (iI v) :: st) μ) : KK X md d rk res pc l (.int (iI x) :: st) μ := K_mabs hd h1 h2 h3 h4 hst h (kk _)
theorem Z_copy {k0 : Mu → Option Res} (hd : decode md.2.1 pc = .ok (.invokestatic idx, 3)) (h1 : Cond.methodLink md.1.cls idx arraycopyName ∈ kG) (h2 : Cond.native arraycopyName ∈ kG) (h3 : Cond.static arraycopyName ∈ kG) (h4 : Cond.initialized "java/lang/System" ∈ kG) (hsk0 : SK[a0]? = some (.inl (0, n0, rf0))) (hsk : SK[a]? = some (.inl (0, n1, rf))) (hst : (st.map fun v => v.category).sum ≤ 8)
    (h : cpyI μ a0 n0 x a n1 y w k0 = some res) (kk : ∀ μ', k0 μ' = some res → KK X md d rk res (pc + 3) l st μ') : KK X md d rk res pc l (.int (iI w) :: .int (iI y) :: .ref (X.1 + a) :: .int (iI x) :: .ref (X.1 + a0) :: st) μ := K_copy (po := poR rk SK res) (cr := cq res) (sr := 6 * cq res) (ex := false) (sk := SK) (x := x) (y := y) (w := w) (r := res) hd h1 h2 h3 h4 hsk0 hsk hst h (kk (cpM μ a0 x.toNat a y.toNat w.toNat))
theorem Z_least {k0 : Int → Option Res} {i : Fin 4} (j0 : Nat) (hd : decode md.2.1 pc = .ok (.getstatic idx, 3)) (hl0 : Cond.fieldLink md.1.cls idx "ExamMarker" "LEAST_SETTINGS" "[I" ∈ kG) (hd2 : decode md.2.1 (pc + 3) = .ok (.iload_n i, 1)) (hj : l[j0]? = some ((i : Nat), .int (iI x))) (hd3 : decode md.2.1 (pc + 3 + 1) = .ok (.iaload, 1))
    (h : rdC 5 x (fun j => (if j = 1 then 1 else 0)) k0 = some res) (kk : ∀ v, k0 v = some res → KK X md d rk res (pc + 3 + 1 + 1) l (.int (iI v) :: st) μ) : KK X md d rk res pc l st μ := K_least j0 hd hl0 hd2 hj hd3 h (kk _)
theorem Z_great {k0 : Int → Option Res} {i : Fin 4} (j0 : Nat) (hd : decode md.2.1 pc = .ok (.getstatic idx, 3)) (hl0 : Cond.fieldLink md.1.cls idx "ExamMarker" "GREATEST_SETTINGS" "[I" ∈ kG) (hd2 : decode md.2.1 (pc + 3) = .ok (.iload_n i, 1)) (hj : l[j0]? = some ((i : Nat), .int (iI x))) (hd3 : decode md.2.1 (pc + 3 + 1) = .ok (.iaload, 1))
    (h : rdC 5 x (fun j => (if j = 0 then 5 else if j = 1 then 40 else if j = 2 then 10 else if j = 3 then 5 else 99)) k0 = some res) (kk : ∀ v, k0 v = some res → KK X md d rk res (pc + 3 + 1 + 1) l (.int (iI v) :: st) μ) : KK X md d rk res pc l st μ := K_great j0 hd hl0 hd2 hj hd3 h (kk _)
theorem Z_ddiv {u v : UInt64} {k0 : UInt64 → Option Res} (hd : decode md.2.1 pc = .ok (.ddiv, 1)) (h : d_ck (FP.ddiv u v) k0 = some res) (kk : ∀ z, k0 z = some res → KK X md d rk res (pc + 1) l (.double z :: st) μ) : KK X md d rk res pc l (.double v :: .double u :: st) μ := K_ddiv hd h (kk _)
theorem Z_dmul {u v : UInt64} {k0 : UInt64 → Option Res} (hd : decode md.2.1 pc = .ok (.dmul, 1)) (h : d_ck (FP.dmul u v) k0 = some res) (kk : ∀ z, k0 z = some res → KK X md d rk res (pc + 1) l (.double z :: st) μ) : KK X md d rk res pc l (.double v :: .double u :: st) μ := K_dmul hd h (kk _)
theorem Z_dsub {u v : UInt64} {k0 : UInt64 → Option Res} (hd : decode md.2.1 pc = .ok (.dsub, 1)) (h : d_ck (FP.dsub u v) k0 = some res) (kk : ∀ z, k0 z = some res → KK X md d rk res (pc + 1) l (.double z :: st) μ) : KK X md d rk res pc l (.double v :: .double u :: st) μ := K_dsub hd h (kk _)
theorem Z_fdiv {u v : UInt32} {k0 : UInt32 → Option Res} (hd : decode md.2.1 pc = .ok (.fdiv, 1)) (h : f_ck (FP.fdiv u v) k0 = some res) (kk : ∀ z, k0 z = some res → KK X md d rk res (pc + 1) l (.float z :: st) μ) : KK X md d rk res pc l (.float v :: .float u :: st) μ := K_fdiv hd h (kk _)
theorem Z_f2d {u : UInt32} {k0 : UInt64 → Option Res} (hd : decode md.2.1 pc = .ok (.f2d, 1)) (h : d_ck (FP.f2d u) k0 = some res) (kk : ∀ z, k0 z = some res → KK X md d rk res (pc + 1) l (.double z :: st) μ) : KK X md d rk res pc l (.float u :: st) μ := K_f2d hd h (kk _)
theorem Z_aaldL {ks : Nat → List Kd} {k0 : Nat → Option Res} {f : Nat → Nat} (hd : decode md.2.1 pc = .ok (.aaload, 1)) (hsk : SK[a]? = some (.inl (t, n, fun j => some (f j)))) (ht : t = 3 ∨ t = 4) (hn : n < 2 ^ 31) (hL : ∀ j, j < n → Lay (f j) (ks (f j))) (h : rdA n x f k0 = some res) (kk : ∀ o, Lay o (ks o) → k0 o = some res → KK X md d rk res (pc + 1) l (.ref (X.1 + o) :: st) μ) : KK X md d rk res pc l (.int (iI x) :: .ref (X.1 + a) :: st) μ :=
  Z_aald hd hsk ht hn h (fun g h => kk _ (hL _ g) h)
theorem Z_thN {ik is ic : Nat} {text : String} (F : kTN md.1.cls ic) (hk : Cond.classLink md.1.cls ik (exName 5) ∈ kG) (hstr : (md.1.cls, is, text) ∈ kSR) (htab : md.2.2.2.2 = [])
    (d0 : decode md.2.1 pc = .ok (.new ik, 3)) (d3 : decode md.2.1 (pc + 3) = .ok (.dup, 1)) (d4 : decode md.2.1 (pc + 4) = .ok (.ldc is, 2)) (d6 : decode md.2.1 (pc + 6) = .ok (.invokespecial ic, 3)) (d9 : decode md.2.1 (pc + 9) = .ok (.athrow, 1)) (h : some (μ, 6, 0) = some res) : KK X md d rk res pc l [] μ := by
  cases h
  exact K_throwN (cr := 0) (sr := 0) F hk hstr htab d0 d3 d4 d6 d9 ⟨rfl, rfl, rfl⟩
theorem Z_thNW {ik is ic : Nat} {text : String} (F : kTN md.1.cls ic) (hk : Cond.classLink md.1.cls ik (exName 5) ∈ kG) (hstr : (md.1.cls, is, text) ∈ kSR) (htab : md.2.2.2.2 = [])
    (d0 : decode md.2.1 pc = .ok (.new ik, 3)) (d3 : decode md.2.1 (pc + 3) = .ok (.dup, 1)) (d4 : decode md.2.1 (pc + 4) = .ok (.ldc_w is, 3)) (d6 : decode md.2.1 (pc + 7) = .ok (.invokespecial ic, 3)) (d9 : decode md.2.1 (pc + 10) = .ok (.athrow, 1)) (h : some (μ, 6, 0) = some res) : KK X md d rk res pc l [] μ := by
  cases h
  exact K_throwNW (cr := 0) (sr := 0) F hk hstr htab d0 d3 d4 d6 d9 ⟨rfl, rfl, rfl⟩
end KZ2
theorem nth_s (μ : Mu) (x : Int) : nth (some (μ, 0, x)) := fun r h => by cases h; rfl
theorem nth_Z (μ : Mu) (x : Int) : nth (retZ μ x) := fun r h => by have h := (og h).2; cases h; rfl
theorem nth_ite {P : Prop} [Decidable P] {A B : Option Res} (a : nth A) (b : nth B) : nth (if P then A else B) := by
  by_cases h : P
  · rw [if_pos h]; exact a
  · rw [if_neg h]; exact b
theorem nth_no : nth none := fun r h => nomatch h
theorem nth_ilt {x y : Int} {A B : Option Res} (a : nth A) (b : nth B) : nth (i_lt x y A B) := nth_ite (nth_ite a b) nth_no
theorem nth_ieq {x y : Int} {A B : Option Res} (a : nth A) (b : nth B) : nth (i_eq x y A B) := nth_ite (nth_ite a b) nth_no
theorem nth_llt {x y : Int} {A B : Option Res} (a : nth A) (b : nth B) : nth (l_lt x y A B) := nth_ite (nth_ite a b) nth_no
theorem nth_leq {x y : Int} {A B : Option Res} (a : nth A) (b : nth B) : nth (l_eq x y A B) := nth_ite (nth_ite a b) nth_no
theorem nth_rdI {μ : Mu} {a n : Nat} {i : Int} {k : Int → Option Res} (h : ∀ v, nth (k v)) : nth (rdI μ a n i k) := nth_ite (h _) nth_no
theorem nth_wrI {μ : Mu} {a n : Nat} {i x : Int} {k : Mu → Option Res} (h : ∀ v, nth (k v)) : nth (wrI μ a n i x k) := nth_ite (h _) nth_no
theorem nth_bnd {x : Int} {k : Int → Option Res} (h : ∀ v, nth (k v)) : nth (bnd x k) := h x
theorem nth_idiv {x y : Int} {k : Int → Option Res} (h : ∀ v, nth (k v)) : nth (i_div x y k) := nth_ite (h _) nth_no
theorem nth_irem {x y : Int} {k : Int → Option Res} (h : ∀ v, nth (k v)) : nth (i_rem x y k) := nth_ite (h _) nth_no
theorem nth_ldiv {x y : Int} {k : Int → Option Res} (h : ∀ v, nth (k v)) : nth (l_div x y k) := nth_ite (h _) nth_no
theorem nth_lrem {x y : Int} {k : Int → Option Res} (h : ∀ v, nth (k v)) : nth (l_rem x y k) := nth_ite (h _) nth_no
theorem nth_max {x y : Int} {k : Int → Option Res} (h : ∀ v, nth (k v)) : nth (i_max x y k) := nth_ite (h _) nth_no
theorem nth_min {x y : Int} {k : Int → Option Res} (h : ∀ v, nth (k v)) : nth (i_min x y k) := nth_ite (h _) nth_no
theorem nth_cpy {μ : Mu} {a0 n0 a n1 : Nat} {sp dp n : Int} {k : Mu → Option Res} (h : ∀ v, nth (k v)) : nth (cpyI μ a0 n0 sp a n1 dp n k) := nth_ite (h _) nth_no
theorem nth_rb {r : Option Res} {k : Mu → Int → Option Res} (h : nth r) (hk : ∀ μ x, nth (k μ x)) : nth (rb r k) := by
  cases r with
  | none => exact nth_no
  | some r =>
    obtain ⟨μ, c, x⟩ := r
    have := h _ rfl
    dsimp only at this
    subst this
    exact hk μ x
end
section
/-! constructors: new cells lie behind the skeleton; pre is what stood before the object, suf what it has made; its memory c by offsets from b -/
def putM (μ : Mu) (b : Nat) (c : Mu) : Mu := fun a k => if a < b then μ a k else c (a - b) k
theorem putM_up {μ c : Mu} {b j k : Nat} {v : Int} : up2 (putM μ b c) (b + j) k v = putM μ b (up2 c j k v) := by
  funext a q
  unfold up2 putM
  by_cases h : a < b
  · rw [if_neg (by omega), if_pos h, if_pos h]
  · rw [if_neg h, if_neg h]
    by_cases e : a = b + j ∧ q = k
    · rw [if_pos e]; dsimp only; rw [if_pos (by omega)]
    · rw [if_neg e]; dsimp only; rw [if_neg (by omega)]
def zb (c : Mu) (n : Nat) : Prop := ∀ j k, n ≤ j → c j k = 0
theorem zb_0 (n : Nat) : zb (fun _ _ => 0) n := fun _ _ _ => rfl
theorem zb_up {c : Mu} {n i k : Nat} {v : Int} (h : zb c n) (hi : i < n) : zb (up2 c i k v) n := by
  intro j q hj
  unfold up2
  rw [if_neg (by omega)]; exact h j q hj
theorem zb_mono {c : Mu} {n m : Nat} (h : zb c n) (hm : n ≤ m) : zb c m := fun j k hj => h j k (Nat.le_trans hm hj)
theorem zb_put {c m0 : Mu} {b n : Nat} (h : zb m0 (n - b)) (hb : b ≤ n) : zb (putM c b m0) n := by
  intro j q hj
  unfold putM
  rw [if_neg (by omega)]; exact h _ _ (by omega)
theorem clr_id {c : Mu} {n : Nat} (h : zb c n) : clr c n = c := by
  funext a k
  unfold clr
  by_cases e : a = n
  · subst e; rw [if_pos rfl, h _ _ (Nat.le_refl _)]
  · rw [if_neg e]
theorem putM_self {μ : Mu} {b : Nat} (h : zb μ b) : putM μ b (fun _ _ => 0) = μ := by
  funext a k
  unfold putM
  by_cases e : a < b
  · rw [if_pos e]
  · rw [if_neg e, h _ _ (by omega)]
theorem zb_putM {μ c : Mu} {b n : Nat} (h : zb c n) : zb (putM μ b c) (b + n) := by
  intro j k hj
  unfold putM
  rw [if_neg (by omega)]; exact h _ _ (by omega)
theorem putM_in {μ c m0 : Mu} {b j : Nat} : putM (putM μ b c) (b + j) m0 = putM μ b (putM c j m0) := by
  funext a k
  unfold putM
  by_cases h : a < b
  · rw [if_pos (by omega), if_pos h, if_pos h]
  · rw [if_neg h]
    by_cases e : a < b + j
    · rw [if_pos e, if_neg h, if_pos (by omega)]
    · rw [if_neg e, if_neg h, if_neg (show ¬ a - b < j by omega), Nat.sub_add_eq]
theorem suf_at {pre suf : List Kd} {b j : Nat} (hb : pre.length = b) : (pre ++ suf)[b + j]? = suf[j]? := by
  subst hb
  rw [List.getElem?_append_right (Nat.le_add_right _ _), Nat.add_sub_cancel_left]
theorem suf_set {pre suf : List Kd} {b j : Nat} {kd : Kd} (hb : pre.length = b) : (pre ++ suf).set (b + j) kd = pre ++ suf.set j kd := by
  subst hb
  rw [List.set_append_right _ _ (Nat.le_add_right _ _), Nat.add_sub_cancel_left]
def rfu (rf : Nat → Option Nat) (k r : Nat) : Nat → Option Nat := fun j => if j = k then some r else rf j
/-- the skeleton at one place is changed, the memory not -/
theorem kW_sk {X : kX} {μ : Mu} {sk : List Kd} {a : Nat} {kd kd' : Kd} (h : sk[a]? = some kd) : (kW X sk μ).set a (X.1 + a, kE X (μ a) kd') = kW X (sk.set a kd') μ := by
  refine kW_ext fun j => ?_
  rw [List.getElem?_set, List.getElem?_set]
  have hl : a < sk.length := (List.getElem?_eq_some_iff.mp h).1
  by_cases e : a = j
  · subst e
    rw [if_pos rfl, if_pos rfl, if_pos (by rw [kW_len]; exact hl), if_pos hl]; rfl
  · rw [if_neg e, if_neg e, kWf_get]; simp
section CR
variable {X : kX} {md mdY : kM} {d d' : Nat} {po poY : kPo} {pre suf suf' : List Kd} {cr sr pc b j n N ci idx k r mcY msY t : Nat} {l : List (Nat × Value)} {st As : List Value} {μ c c' : Mu} {x y : Int} {rf : Nat → Option Nat} {host : String}
theorem k_size {s : State} {H H1 : Heap} {cells : Nat} {X : kX} {sk : List Kd} {μ : Mu} (hH : kHp X sk true μ H) (hz : s.heap.size + cells = H.size) (h1 : H1.size ≤ s.heap.size + (cells + 1)) : H1.size ≤ X.1 + sk.length + 1 := by
  have := hH.2 rfl
  omega
theorem C_new (hd : decode md.2.1 pc = .ok (.new idx, 3)) {C : String} {T : u_T} (F : kCF ci C T N) (h1 : Cond.classLink md.1.cls idx C ∈ kG) (h2 : Cond.instantiable C N ∈ kG) (h3 : Cond.initialized C ∈ kG) (hty : ∀ k, k < N → (match kTyF ci k with | .float => false | .double => false | _ => true) = true) (hb : pre.length = b) (hj : suf.length = j) (hzc : zb c j)
    (hs' : suf ++ [.inr (ci, fun _ => none)] = suf') (kk : KJ X md d true po (pre ++ suf') cr sr (pc + 3) l (.ref (X.1 + (b + j)) :: st) (putM μ b c)) : KJ X md d true po (pre ++ suf) (cr + 1) (sr + N) pc l st (putM μ b c) := by
  subst hs'; subst hb; subst hj
  intro p l0 e R s m args below meth c0 H locs cells slots mc ms ls C' hc hs hl hH hS hz
  have C9 := C'
  obtain ⟨c1, c2, c3, c4, c5, c6, c7, c8, c9, ⟨r1, r2, r3, r4⟩, c11, c12, c13⟩ := C9
  obtain ⟨f1, f2, f3, f4, f5⟩ := F
  refine va_new (ci := ci) (fs := kFs X.1 ci (fun _ => 0) (fun _ => none)) c1 c2 c8 f3 (kTyF ci) f5 c6 (c8 _ h1) (c8 _ h2) (c8 _ h3) c9.1 hH.1 kW_D hS (fun q h => Nat.le_trans c13 h) f1 (fun j hj => ?_) (by omega) (by omega) hd (fun q H1 g1 g2 g3 => ?_)
  · show defaultValue (kTyF ci j) = (kFs X.1 ci (fun _ => 0) (fun _ => none)).getD j .null
    rw [List.getD_eq_getElem?_getD, kFs_get (by rw [f2]; exact hj)]
    have := hty j hj
    revert this
    cases kTyF ci j <;> intro h <;> first | rfl | (cases h)
  · refine W_sized (fun hz1 => ?_)
    have hz9 := hz rfl
    have hq := k_newat g1 g2 (k_size hH hz9 hz1)
    subst hq
    rw [show (Sum.inr (ci, kFs X.1 ci (fun _ => 0) (fun _ => none)) : va_E) = kE X (fun _ => 0) (.inr (ci, fun _ => none)) from rfl, kW_push, clr_id (by rw [List.length_append]; exact zb_putM hzc)] at g1
    rw [List.append_assoc] at g1
    have hs9 : H1.size = X.1 + (pre ++ (suf ++ [Sum.inr (ci, fun _ => none)])).length := by
      have a1 := hH.2 rfl
      have a2 := k_size hH hz9 hz1
      have a3 : (kW X (pre ++ (suf ++ [Sum.inr (ci, fun _ => none)])) (putM μ pre.length c))[pre.length + suf.length]? = some _ := kW_get (kd := Sum.inr (ci, fun _ => none)) (by rw [suf_at rfl]; simp)
      have a4 := (g1 _ _ a3).lt
      simp only [List.length_append, List.length_cons, List.length_nil] at a1 a2 a4 ⊢
      omega
    rw [List.length_append]
    exact kk p l0 e R s m args below meth c0 H1 locs (cells + 1) (slots + N) mc ms ls C' (by omega) (by omega) hl ⟨g1, fun _ => hs9⟩ g3 (fun _ => by have a1 := hH.2 rfl; simp only [List.length_append, List.length_cons, List.length_nil] at hs9 a1; omega)
/-- a new cell's world, and its size -/
theorem k_new9 {s : State} {H H1 : Heap} {cells : Nat} (hH : kHp X (pre ++ suf) true (putM μ b c) H) (hz : s.heap.size + cells = H.size) (hb : pre.length = b) (hj : suf.length = j) (hzc : zb c j) {kd : Kd} {q : Nat}
    (g1 : va_P X.2.1 kCl (kW X (pre ++ suf) (putM μ b c) ++ [(q, kE X (fun _ => 0) kd)]) H1) (g2 : va_D (kFree X) (kW X (pre ++ suf) (putM μ b c) ++ [(q, kE X (fun _ => 0) kd)])) (h1 : H1.size ≤ s.heap.size + (cells + 1)) :
    q = X.1 + (b + j) ∧ kHp X (pre ++ (suf ++ [kd])) true (putM μ b c) H1 ∧ s.heap.size + (cells + 1) = H1.size := by
  subst hb; subst hj
  have hq := k_newat g1 g2 (k_size hH hz h1)
  subst hq
  rw [kW_push, clr_id (by rw [List.length_append]; exact zb_putM hzc), List.append_assoc] at g1
  have a1 := hH.2 rfl
  have a2 := k_size hH hz h1
  have a3 : (kW X (pre ++ (suf ++ [kd])) (putM μ pre.length c))[pre.length + suf.length]? = some _ := kW_get (kd := kd) (by rw [suf_at rfl]; simp)
  have a4 := (g1 _ _ a3).lt
  rw [List.length_append] at a1 a2
  have a5 : (pre ++ (suf ++ [kd])).length = pre.length + suf.length + 1 := by
    rw [List.length_append, List.length_append, List.length_cons, List.length_nil]; omega
  have a6 : H1.size = X.1 + (pre ++ (suf ++ [kd])).length := by rw [a5]; omega
  exact ⟨by rw [List.length_append], ⟨g1, fun _ => a6⟩, by omega⟩
theorem C_newarr {at0 : ArrayType} {ty : FieldType} (hd : decode md.2.1 pc = .ok (.newarray at0, 2)) (h1 : Cond.arrayClass (newarray.typeOf at0) ∈ kG) (hty : newarray.typeOf at0 = ty) (ht : (t = 0 ∧ ty = .int) ∨ (t = 1 ∧ ty = .char) ∨ (t = 2 ∧ ty = .long)) (hn : n < 2 ^ 16) (hb : pre.length = b) (hj : suf.length = j) (hzc : zb c j)
    (hs' : suf ++ [.inl (t, n, fun _ => none)] = suf') (kk : KJ X md d true po (pre ++ suf') cr sr (pc + 2) l (.ref (X.1 + (b + j)) :: st) (putM μ b c)) : KJ X md d true po (pre ++ suf) (cr + 1) (sr + n) pc l (.int (iI (n : Int)) :: st) (putM μ b c) := by
  subst hs'
  intro p l0 e R s m args below meth c0 H locs cells slots mc ms ls C' hc hs hl hH hS hz
  have C9 := C'
  obtain ⟨c1, c2, c3, c4, c5, c6, c7, c8, c9, ⟨r1, r2, r3, r4⟩, c11, c12, c13⟩ := C9
  have hz9 := hz rfl
  have hcl : (iI (n : Int)).toNatClampNeg = n := nI_clamp (by omega)
  have hcb : n * componentBytes ty ≤ 536870912 := by
    have : componentBytes ty ≤ 8 := by rcases ht with ⟨-, rfl⟩ | ⟨-, rfl⟩ | ⟨-, rfl⟩ <;> decide
    have := Nat.mul_le_mul (Nat.le_of_lt hn) this
    omega
  refine va_newa (atype := at0) (ty := ty) (a0 := kArr X.1 t n (fun _ => 0) (fun _ => none)) (N' := n) c1 c2 (c8 _ h1) hty c9.1 hH.1 kW_D hS (fun q h => Nat.le_trans c13 h) (fun cA => ?_) (nI_pos (by omega)) hcl hcb (by omega) (by omega) hd (fun q cA H1 gK g1 g2 g3 => ?_)
  · rcases ht with ⟨rfl, rfl⟩ | ⟨rfl, rfl⟩ | ⟨rfl, rfl⟩ <;> rfl
  · refine W_sized (fun hz1 => ?_)
    have hcA : cA = X.2.2 t := by
      have e1 : s.vm.findClass ("[" ++ ty.toString) = some cA := by
        have := (gK.2 5 (cA, ty) rfl).2
        rcases ht with ⟨rfl, rfl⟩ | ⟨rfl, rfl⟩ | ⟨rfl, rfl⟩ <;> exact this
      have e2 : s.vm.findClass ("[" ++ ty.toString) = some (X.2.2 t) := by
        rcases ht with ⟨rfl, rfl⟩ | ⟨rfl, rfl⟩ | ⟨rfl, rfl⟩
        · exact (c9.1.2 0 _ rfl).2
        · exact (c9.1.2 1 _ rfl).2
        · exact (c9.1.2 2 _ rfl).2
      exact Option.some.inj (e1.symm.trans e2)
    subst hcA
    obtain ⟨rfl, hH', hz'⟩ := k_new9 (kd := .inl (t, n, fun _ => none)) hH hz9 hb hj hzc g1 g2 hz1
    exact kk p l0 e R s m args below meth c0 H1 locs (cells + 1) (slots + n) mc ms ls C' (by omega) (by omega) hl hH' g3 (fun _ => hz')
theorem C_anew {E : String} (hd : decode md.2.1 pc = .ok (.anewarray idx, 3)) (h1 : Cond.classLink md.1.cls idx E ∈ kG) (ht : (t = 3 ∧ E = RX1) ∨ (t = 4 ∧ E = RX5)) (hn : n < 2 ^ 16) (hb : pre.length = b) (hj : suf.length = j) (hzc : zb c j)
    (hs' : suf ++ [.inl (t, n, fun _ => none)] = suf') (kk : KJ X md d true po (pre ++ suf') cr sr (pc + 3) l (.ref (X.1 + (b + j)) :: st) (putM μ b c)) : KJ X md d true po (pre ++ suf) (cr + 1) (sr + n) pc l (.int (iI (n : Int)) :: st) (putM μ b c) := by
  subst hs'
  intro p l0 e R s m args below meth c0 H locs cells slots mc ms ls C' hc hs hl hH hS hz
  have C9 := C'
  obtain ⟨c1, c2, c3, c4, c5, c6, c7, c8, c9, ⟨r1, r2, r3, r4⟩, c11, c12, c13⟩ := C9
  have hz9 := hz rfl
  have hcl : (iI (n : Int)).toNatClampNeg = n := nI_clamp (by omega)
  refine va_newq (C := E) (N' := n) c1 c2 c6 (c8 _ h1) (by
    rcases ht with ⟨-, rfl⟩ | ⟨-, rfl⟩
    · exact c9.2.2.2.2.2.2.2.2.2.1
    · exact c9.2.2.2.2.2.2.2.2.2.2) c9.1 hH.1 kW_D hS (fun q h => Nat.le_trans c13 h) (nI_pos (by omega)) hcl (by omega) (by omega) (by omega) hd (fun q cA H1 gK g1 g2 g3 => ?_)
  refine W_sized (fun hz1 => ?_)
  have hcA : cA = X.2.2 t := by
    obtain ⟨k1, p1, -, -, -, e1⟩ := (gK.2 5 (cA, .object E) rfl).2
    rcases ht with ⟨rfl, rfl⟩ | ⟨rfl, rfl⟩
    · obtain ⟨k2, p2, -, -, -, e2⟩ := (c9.1.2 3 _ rfl).2
      exact Option.some.inj (e1.symm.trans e2)
    · obtain ⟨k2, p2, -, -, -, e2⟩ := (c9.1.2 4 _ rfl).2
      exact Option.some.inj (e1.symm.trans e2)
  subst hcA
  rw [show (Sum.inl (X.2.2 t, n, .inr (.inr (.inr (.inr (fun _ => none))))) : va_E) = kE X (fun _ => 0) (.inl (t, n, fun _ => none)) by rcases ht with ⟨rfl, -⟩ | ⟨rfl, -⟩ <;> rfl] at g1 g2
  obtain ⟨rfl, hH', hz'⟩ := k_new9 (kd := .inl (t, n, fun _ => none)) hH hz9 hb hj hzc g1 g2 hz1
  exact kk p l0 e R s m args below meth c0 H1 locs (cells + 1) (slots + n) mc ms ls C' (by omega) (by omega) hl hH' g3 (fun _ => hz')
/-- a final field that holds a reference -/
theorem C_putR {i : Nat} (hd : decode md.2.1 pc = .ok (.putfield idx, 3)) (F : kFL md.1.cls idx ci k true) (hini : md.1.name = "<init>") (hdc : ∀ (Cn : String) (Tn : u_T) (N : Nat), kCl[ci]? = some (Cn, Tn, N) → (Tn k).1 = md.1.cls) (hty : (match kTyF ci k with | .object _ => true | .array _ => true | _ => false) = true) (hb : pre.length = b) (hsk : suf[i]? = some (.inr (ci, rf)))
    (hs' : suf.set i (.inr (ci, rfu rf k r)) = suf') (kk : KJ X md d true po (pre ++ suf') cr sr (pc + 3) l st (putM μ b c)) : KJ X md d true po (pre ++ suf) cr sr pc l (.ref (X.1 + r) :: .ref (X.1 + (b + i)) :: st) (putM μ b c) := by
  subst hs'
  intro p l0 e R s m args below meth c0 H locs cells slots mc ms ls C hc hs hl hH hS hz
  obtain ⟨Cn, Tn, N, ⟨f1, f2, f3, f4, f5⟩, f6, f7, f8, f9⟩ := F
  have hlt : k < (kFs X.1 ci (putM μ b c (b + i)) rf).length := by rw [kFs_len, f2]; exact f6
  have hsk' : (pre ++ suf)[b + i]? = some (.inr (ci, rf)) := by rw [suf_at hb]; exact hsk
  refine va_putF C.1 C.2.1 (Ts := kG) C.2.2.2.2.2.2.2.1 f3 (kTyF ci) f5 f4 C.2.2.2.2.2.1 (C.2.2.2.2.2.2.2.2.1).1 hH.1 kW_D (va_S_at hS) (b + i) (kW_get hsk') f1 k f6 (C.2.2.2.2.2.2.2.1 _ f7) (fun x h => h) f8 (C.2.2.2.2.2.2.1.trans hini) (hdc Cn Tn N f1) (f5 k f6)
    (by revert hty; cases kTyF ci k <;> intro hty <;> first | rfl | cases hty) (by revert hty; cases kTyF ci k <;> intro hty <;> first | rfl | cases hty) hlt hd ?_
  intro H1 locs1 g1 g2 g3
  have e9 : (Value.ref (X.1 + r)) = kFld X.1 (kTyF ci k) (putM μ b c (b + i) k) (rfu rf k r k) := by
    unfold rfu; rw [if_pos rfl]
    revert hty
    cases kTyF ci k <;> intro hty <;> first | rfl | (cases hty)
  rw [e9, kFs_set (g' := putM μ b c (b + i)) (rf' := rfu rf k r) (fun j hj => ⟨rfl, by unfold rfu; rw [if_neg hj]⟩)] at g1
  rw [show (Sum.inr (ci, kFs X.1 ci (putM μ b c (b + i)) (rfu rf k r)) : va_E) = kE X (putM μ b c (b + i)) (.inr (ci, rfu rf k r)) from rfl, kW_sk hsk', suf_set hb] at g1
  refine W_sized (fun hz1 => ?_)
  exact kk p l0 e R s m args below meth c0 H1 locs1 cells slots mc ms ls C hc hs hl ⟨g1, fun q => by have a1 := hH.2 q; have a2 := hz q; have a3 := g3.1; simp only [List.length_append, List.length_set] at a1 ⊢; omega⟩ (va_S_tr hS g3) (fun q => by have a2 := hz q; have a3 := g3.1; omega)
theorem C_putI {i : Nat} (hd : decode md.2.1 pc = .ok (.putfield idx, 3)) (F : kFL md.1.cls idx ci k false) (ht : kTyF ci k = .int) (hb : pre.length = b) (hsk : suf[i]? = some (.inr (ci, rf))) (hc' : up2 c i k x = c') (kk : KJ X md d true po (pre ++ suf) cr sr (pc + 3) l st (putM μ b c')) : KJ X md d true po (pre ++ suf) cr sr pc l (.int (iI x) :: .ref (X.1 + (b + i)) :: st) (putM μ b c) :=
  K_putI hd F (by rw [suf_at hb]; exact hsk) ht (by rw [putM_up, hc']; exact kk)
theorem C_putL {i : Nat} (hd : decode md.2.1 pc = .ok (.putfield idx, 3)) (F : kFL md.1.cls idx ci k false) (ht : kTyF ci k = .long) (hb : pre.length = b) (hsk : suf[i]? = some (.inr (ci, rf))) (hc' : up2 c i k x = c') (kk : KJ X md d true po (pre ++ suf) cr sr (pc + 3) l st (putM μ b c')) : KJ X md d true po (pre ++ suf) cr sr pc l (.long (iL x) :: .ref (X.1 + (b + i)) :: st) (putM μ b c) :=
  K_putL hd F (by rw [suf_at hb]; exact hsk) ht (by rw [putM_up, hc']; exact kk)
theorem C_iast {i q : Nat} (hd : decode md.2.1 pc = .ok (.iastore, 1)) (hb : pre.length = b) (hsk : suf[i]? = some (.inl (0, n, rf))) (hn : n < 2 ^ 31) (hq : q < n) (hx : x = (q : Int)) (hc' : up2 c i q y = c') (kk : KJ X md d true po (pre ++ suf) cr sr (pc + 1) l st (putM μ b c')) : KJ X md d true po (pre ++ suf) cr sr pc l (.int (iI y) :: .int (iI x) :: .ref (X.1 + (b + i)) :: st) (putM μ b c) := by
  subst hx
  refine K_iast (k0 := fun _ => some (putM μ b c', 0, 0)) (r := (putM μ b c', 0, 0)) hd (by rw [suf_at hb]; exact hsk) hn (by unfold wrI; rw [if_pos (by omega)]) (fun _ => ?_)
  rw [Int.toNat_natCast, putM_up, hc']; exact kk
end CR
end
section
/-! constructors: calls, arrays of references, Arrays.fill -/
def poN (sk' : List Kd) (μ' : Mu) : kPo := (fun v s m => v = none ∧ s = sk' ∧ m = μ', fun _ _ _ => False)
def fillM (μ : Mu) (a n : Nat) (v : Int) : Mu := fun x k => if x = a ∧ k < n then v else μ x k
theorem fillM_put {μ c : Mu} {b i n : Nat} {v : Int} : fillM (putM μ b c) (b + i) n v = putM μ b (fillM c i n v) := by
  funext a k
  unfold fillM putM
  by_cases h : a < b
  · rw [if_neg (by omega), if_pos h, if_pos h]
  · rw [if_neg h, if_neg h]
    by_cases e : a = b + i ∧ k < n
    · rw [if_pos e]; dsimp only; rw [if_pos (by omega)]
    · rw [if_neg e]; dsimp only; rw [if_neg (by omega)]
theorem zb_fill {c : Mu} {m i n : Nat} {v : Int} (h : zb c m) (hi : i < m) : zb (fillM c i n v) m := by
  intro j q hj
  unfold fillM
  rw [if_neg (by omega)]; exact h j q hj
theorem fillM_up {μ : Mu} {a j : Nat} {v : Int} : up2 (fillM μ a j v) a j v = fillM μ a (j + 1) v := by
  funext x k
  unfold up2 fillM
  by_cases e : x = a ∧ k = j
  · rw [if_pos e, if_pos (by omega)]
  · rw [if_neg e]
    by_cases e2 : x = a ∧ k < j
    · rw [if_pos e2, if_pos (by omega)]
    · rw [if_neg e2, if_neg (by omega)]
theorem fillM_0 {μ : Mu} {a : Nat} {v : Int} : fillM μ a 0 v = μ := by
  funext x k
  unfold fillM
  rw [if_neg (by omega)]
theorem n_fill5 (X : kX) {sk : List Kd} {ex : Bool} {a n : Nat} {r0 : Nat → Option Nat} (h0 : sk[a]? = some (.inl (0, n, r0))) (hn : n < 2 ^ 31) (v : Int) (μ : Mu) : ∀ (m j : Nat), j + m = n →
    KJ X mJ7_fill_53178 0 ex (poN sk (fillM μ a n v)) sk 0 0 5 [(2, .int (iI (j : Int))), (3, .int (iI (n : Int))), (0, .ref (X.1 + a)), (1, .int (iI v))] [] (fillM μ a j v) := by
  intro m
  induction m with
  | zero =>
    intro j hj
    have hj : j = n := by omega
    subst hj
    refine K_iload_n (md := mJ7_fill_53178) (pc := 5) 0 (kTab_at (pc := 5) tJ7_fill_53178_ok 5 rfl) rfl ?_
    refine K_iload_n (md := mJ7_fill_53178) (pc := 6) 1 (kTab_at (pc := 6) tJ7_fill_53178_ok 6 rfl) rfl ?_
    refine K_icmp_ge (md := mJ7_fill_53178) (pc := 7) (A := some (μ, 0, 0)) (B := none) (r := (μ, 0, 0)) (kTab_at (pc := 7) tJ7_fill_53178_ok 7 rfl) (tgt := 20) rfl (by unfold i_lt; rw [if_pos (by omega), if_neg (by omega)]) (fun _ => ?_) (fun h => nomatch h)
    exact K_vret (md := mJ7_fill_53178) (pc := 20) (kTab_at (pc := 20) tJ7_fill_53178_ok 14 rfl) rfl ⟨rfl, rfl, rfl⟩
  | succ m ih =>
    intro j hj
    refine K_iload_n (md := mJ7_fill_53178) (pc := 5) 0 (kTab_at (pc := 5) tJ7_fill_53178_ok 5 rfl) rfl ?_
    refine K_iload_n (md := mJ7_fill_53178) (pc := 6) 1 (kTab_at (pc := 6) tJ7_fill_53178_ok 6 rfl) rfl ?_
    refine K_icmp_ge (md := mJ7_fill_53178) (pc := 7) (B := some (μ, 0, 0)) (A := none) (r := (μ, 0, 0)) (kTab_at (pc := 7) tJ7_fill_53178_ok 7 rfl) (tgt := 20) rfl (by unfold i_lt; rw [if_pos (by omega), if_pos (by omega)]) (fun h => nomatch h) (fun _ => ?_)
    refine K_aload_n (md := mJ7_fill_53178) (pc := 10) 2 (kTab_at (pc := 10) tJ7_fill_53178_ok 8 rfl) rfl ?_
    refine K_iload_n (md := mJ7_fill_53178) (pc := 11) 0 (kTab_at (pc := 11) tJ7_fill_53178_ok 9 rfl) rfl ?_
    refine K_iload_n (md := mJ7_fill_53178) (pc := 12) 3 (kTab_at (pc := 12) tJ7_fill_53178_ok 10 rfl) rfl ?_
    refine K_iast (md := mJ7_fill_53178) (pc := 13) (k0 := fun _ => some (μ, 0, 0)) (r := (μ, 0, 0)) (kTab_at (pc := 13) tJ7_fill_53178_ok 11 rfl) h0 hn (by unfold wrI; rw [if_pos (by omega)]) (fun _ => ?_)
    rw [Int.toNat_natCast, fillM_up]
    refine K_iinc (md := mJ7_fill_53178) (pc := 14) (l' := [(2, .int (iI ((j + 1 : Nat) : Int))), (3, .int (iI (n : Int))), (0, .ref (X.1 + a)), (1, .int (iI v))]) 0 (kTab_at (pc := 14) tJ7_fill_53178_ok 12 rfl) rfl (Nat.le_of_ble_eq_true rfl) rfl ?_
    refine K_goto (md := mJ7_fill_53178) (pc := 17) (tgt := 5) (kTab_at (pc := 17) tJ7_fill_53178_ok 13 rfl) rfl ?_
    exact ih (j + 1) (by omega)
theorem n_fill (X : kX) {sk : List Kd} {ex : Bool} {a n : Nat} {r0 : Nat → Option Nat} (h0 : sk[a]? = some (.inl (0, n, r0))) (hn : n < 2 ^ 31) (v : Int) (μ : Mu) : Ct X mJ7_fill_53178 0 sk ex μ 0 0 [.ref (X.1 + a), .int (iI v)] (poN sk (fillM μ a n v)) := by
  refine ct_of (by decide +kernel) rfl (Nat.le_of_ble_eq_true rfl) ?_
  show KJ X mJ7_fill_53178 0 ex (poN sk (fillM μ a n v)) sk 0 0 0 [(0, .ref (X.1 + a)), (1, .int (iI v))] [] μ
  refine K_iconst (md := mJ7_fill_53178) (pc := 0) (x := 0) (kTab_at (pc := 0) tJ7_fill_53178_ok 0 rfl) rfl ?_
  refine K_istore_n (md := mJ7_fill_53178) (pc := 1) (l' := [(2, .int (iI 0)), (0, .ref (X.1 + a)), (1, .int (iI v))]) (kTab_at (pc := 1) tJ7_fill_53178_ok 1 rfl) (Nat.le_of_ble_eq_true rfl) rfl ?_
  refine K_aload_n (md := mJ7_fill_53178) (pc := 2) 1 (kTab_at (pc := 2) tJ7_fill_53178_ok 2 rfl) rfl ?_
  refine K_alen (md := mJ7_fill_53178) (pc := 3) (kTab_at (pc := 3) tJ7_fill_53178_ok 3 rfl) h0 (by decide) ?_
  refine K_istore_n (md := mJ7_fill_53178) (pc := 4) (l' := [(3, .int (iI (n : Int))), (2, .int (iI 0)), (0, .ref (X.1 + a)), (1, .int (iI v))]) (kTab_at (pc := 4) tJ7_fill_53178_ok 4 rfl) (Nat.le_of_ble_eq_true rfl) rfl ?_
  refine K_sub [1, 0, 2, 3] rfl ?_
  have h := n_fill5 X (ex := ex) h0 hn v μ n 0 (Nat.zero_add n)
  rw [fillM_0] at h
  exact h
section CR2
variable {X : kX} {md mdY : kM} {d d' : Nat} {po poY : kPo} {pre suf suf' : List Kd} {ks : Nat → List Kd} {nd : Kd} {cr sr pc b j n N ci idx k r mcY msY t : Nat} {l : List (Nat × Value)} {st As : List Value} {μ c c' m0 : Mu} {x y : Int} {rf rf2 : Nat → Option Nat} {host : String}
theorem C_fill {i : Nat} (hd : decode md.2.1 pc = .ok (.invokestatic idx, 3)) (M : kMS md.1.cls idx mJ7_fill_53178 2) (hst : (st.map fun v => v.category).sum ≤ 8) (hdd : 1 ≤ d) (htab : md.2.2.2.2 = []) (hb : pre.length = b) (hsk : suf[i]? = some (.inl (0, n, rf))) (hn : n < 2 ^ 31) (hc' : fillM c i n x = c')
    (kk : KJ X md d true po (pre ++ suf) cr sr (pc + 3) l st (putM μ b c')) : KJ X md d true po (pre ++ suf) cr sr pc l (.int (iI x) :: .ref (X.1 + (b + i)) :: st) (putM μ b c) := by
  refine K_callS (d' := 0) (mcY := 0) (msY := 0) hd M rfl hst hdd htab (n_fill X (ex := true) (by rw [suf_at hb]; exact hsk) hn x (putM μ b c)) (fun _ v sk' μ' h => by rw [h.2.1]; rfl) (fun v sk' μ' h => ?_) (fun e sk' μ' h => h.elim) rfl
  obtain ⟨rfl, rfl, rfl⟩ := h
  rw [fillM_put, hc']
  exact kk
theorem C_callI (hd : decode md.2.1 pc = .ok (.invokespecial idx, 3)) (hl0 : Cond.methodLink md.1.cls idx mdY.1 ∈ kG) (M2 : Cond.instanceMethod mdY.1 ∈ kG) (M4 : kMf mdY 0) (hnm : mdY.1.name = "<init>") (hrt : mdY.2.2.2.1 = none) (hst : (st.map fun v => v.category).sum ≤ 8) (hdd : d' + 1 ≤ d) (hb : pre.length = b) (hj : suf.length = j)
    (hC : ∀ (pre0 : List Kd) (μ0 : Mu) (b0 : Nat), pre0.length = b0 → zb μ0 b0 → Ct X mdY d' (pre0 ++ [nd]) true μ0 mcY msY [.ref (X.1 + b0)] (poN (pre0 ++ ks b0) (putM μ0 b0 m0)))
    (hzc : zb c j) (hk : (ks (b + j)).length = mcY + 1) (hs' : suf ++ ks (b + j) = suf') (hc' : putM c j m0 = c') (kk : KJ X md d true po (pre ++ suf') cr sr (pc + 3) l st (putM μ b c')) : KJ X md d true po (pre ++ (suf ++ [nd])) (cr + mcY) (sr + msY) pc l (.ref (X.1 + (b + j)) :: st) (putM μ b c) := by
  rw [← List.append_assoc]
  refine K_callI (n := 0) (As := []) (b := b + j) (d' := d') hd hl0 M2 M4 hnm hrt rfl hst hdd (hC (pre ++ suf) (putM μ b c) (b + j) (by rw [List.length_append, hb, hj]) (zb_putM hzc)) (fun _ v sk' μ' h => by
    rw [h.2.1]
    have h9 := hk
    simp only [List.length_append, List.length_cons, List.length_nil]; omega) (fun v sk' μ' h => ?_) (fun e sk' μ' h => h) rfl
  obtain ⟨rfl, rfl, rfl⟩ := h
  rw [putM_in, hc', List.append_assoc, hs']
  exact kk
theorem C_callIN (hd : decode md.2.1 pc = .ok (.invokespecial idx, 3)) (M1 : (md.1.cls, idx, mdY.1, host) ∈ kNM) (M2 : Cond.instanceMethod mdY.1 ∈ kG) (M4 : kMf mdY 0) (hnm : mdY.1.name = "<init>") (hrt : mdY.2.2.2.1 = none) (hst : (st.map fun v => v.category).sum ≤ 8) (hdd : d' + 1 ≤ d) (hb : pre.length = b) (hj : suf.length = j)
    (hC : ∀ (pre0 : List Kd) (μ0 : Mu) (b0 : Nat), pre0.length = b0 → zb μ0 b0 → Ct X mdY d' (pre0 ++ [nd]) true μ0 mcY msY [.ref (X.1 + b0)] (poN (pre0 ++ ks b0) (putM μ0 b0 m0)))
    (hzc : zb c j) (hk : (ks (b + j)).length = mcY + 1) (hs' : suf ++ ks (b + j) = suf') (hc' : putM c j m0 = c') (kk : KJ X md d true po (pre ++ suf') cr sr (pc + 3) l st (putM μ b c')) : KJ X md d true po (pre ++ (suf ++ [nd])) (cr + mcY) (sr + msY) pc l (.ref (X.1 + (b + j)) :: st) (putM μ b c) := by
  rw [← List.append_assoc]
  refine K_callIN (n := 0) (As := []) (b := b + j) (d' := d') hd M1 M2 M4 hnm hrt rfl hst hdd (hC (pre ++ suf) (putM μ b c) (b + j) (by rw [List.length_append, hb, hj]) (zb_putM hzc)) (fun _ v sk' μ' h => by
    rw [h.2.1]
    have h9 := hk
    simp only [List.length_append, List.length_cons, List.length_nil]; omega) (fun v sk' μ' h => ?_) (fun e sk' μ' h => h) rfl
  obtain ⟨rfl, rfl, rfl⟩ := h
  rw [putM_in, hc', List.append_assoc, hs']
  exact kk
theorem C_aast {i q v : Nat} (hd : decode md.2.1 pc = .ok (.aastore, 1)) (ht : (t = 3 ∧ ci = 1) ∨ (t = 4 ∧ ci = 5)) (hb : pre.length = b) (hsk : suf[i]? = some (.inl (t, n, rf))) (hn : n < 2 ^ 31) (hq : q < n) (hv : suf[v]? = some (.inr (ci, rf2))) (hs' : suf.set i (.inl (t, n, rfu rf q (b + v))) = suf')
    (kk : KJ X md d true po (pre ++ suf') cr sr (pc + 1) l st (putM μ b c)) : KJ X md d true po (pre ++ suf) cr sr pc l (.ref (X.1 + (b + v)) :: .int (iI (q : Int)) :: .ref (X.1 + (b + i)) :: st) (putM μ b c) := by
  subst hs'
  intro p l0 e R s m args below meth c0 H locs cells slots mc ms ls C hc hs hl hH hS hz
  obtain ⟨i1, i2⟩ := in_iI (i := (q : Int)) (n := n) (by omega) (by omega) hn
  have hsk' : (pre ++ suf)[b + i]? = some (.inl (t, n, rf)) := by rw [suf_at hb]; exact hsk
  have hv' : (pre ++ suf)[b + v]? = some (.inr (ci, rf2)) := by rw [suf_at hb]; exact hv
  have hA : ∀ rg : Nat → Option Nat, kE X (putM μ b c (b + i)) (.inl (t, n, rg)) = .inl (X.2.2 t, n, .inr (.inr (.inr (.inr (fun j => (rg j).map (fun a => X.1 + a)))))) := by
    rcases ht with ⟨rfl, -⟩ | ⟨rfl, -⟩ <;> exact fun _ => rfl
  have g0 := kW_get (X := X) (μ := putM μ b c) hsk'
  rw [hA] at g0
  have hlk : ∃ r : vw_C, kCl[ci]? = some r ∧ (kTys X)[t]? = some (X.2.2 t, .object r.1) := by
    rcases ht with ⟨rfl, rfl⟩ | ⟨rfl, rfl⟩
    · exact ⟨_, rfl, rfl⟩
    · exact ⟨_, rfl, rfl⟩
  obtain ⟨r, hr1, hr2⟩ := hlk
  refine va_astq C.1 C.2.1 (C.2.2.2.2.2.2.2.2.1).1 hH.1 kW_D (va_S_at hS) (b + i) t (b + v) ci g0 hr2 (kW_get hv') hr1 i1 hd ?_
  intro H1 locs1 g1 g2 g3
  rw [i2] at g1
  have e9 : va_up (fun j => (rf j).map (fun a => X.1 + a)) ((q : Int).toNat) (some (X.1 + (b + v))) = fun j => (rfu rf q (b + v) j).map (fun a => X.1 + a) := by
    funext j
    unfold va_up rfu
    rw [Int.toNat_natCast]
    by_cases hj : j = q
    · rw [if_pos hj, if_pos hj]; rfl
    · rw [if_neg hj, if_neg hj]
  rw [e9, ← hA, kW_sk hsk', suf_set hb] at g1
  refine W_sized (fun hz1 => ?_)
  have hz9 := hz rfl
  have a1 := hH.2 rfl
  have hln : (pre ++ suf.set i (.inl (t, n, rfu rf q (b + v)))).length = (pre ++ suf).length := by rw [List.length_append, List.length_append, List.length_set]
  have hsz : H1.size = X.1 + (pre ++ suf.set i (.inl (t, n, rfu rf q (b + v)))).length := by
    have hl9 : (pre ++ suf).length - 1 < (pre ++ suf).length := by
      have := (List.getElem?_eq_some_iff.mp hsk').1
      omega
    have hl8 : (pre ++ suf).length - 1 < (pre ++ suf.set i (.inl (t, n, rfu rf q (b + v)))).length := by rw [hln]; exact hl9
    have a4 := (g1 _ _ (kW_get (X := X) (μ := putM μ b c) (List.getElem?_eq_getElem hl8))).lt
    rw [hln]
    omega
  exact kk p l0 e R s m args below meth c0 H1 locs1 cells slots mc ms ls C hc hs hl ⟨g1, fun _ => hsz⟩ (va_S_tr hS g3) (fun _ => by rw [hsz, hln]; omega)
end CR2
end
section
/-! the constructors: a -/
def kN_X0 (b : Nat) : List Kd := [.inr (0, (rfu (rfu (rfu (fun _ => none) 0 (b + 1)) 1 (b + 2)) 2 (b + 3))), .inl (0, 40, fun _ => none), .inl (0, 40, fun _ => none), .inl (0, 40, fun _ => none)]
def n_X0 : Mu := (fun _ _ => 0)
theorem zn_X0 : zb n_X0 4 := (zb_0 _)
theorem hdc_X0 (k : Nat) (hk : k < 4) : ∀ (Cn : String) (Tn : u_T) (N : Nat), kCl[0]? = some (Cn, Tn, N) → (Tn k).1 = mX0_init.1.cls := by
  intro Cn Tn N h
  cases h
  revert k
  decide
set_option maxRecDepth 100000 in
theorem ct_X0 (X : kX) {pre : List Kd} {μ : Mu} {b : Nat} (hb : pre.length = b) (hz : zb μ b) : Ct X mX0_init 1 (pre ++ [.inr (0, fun _ => none)]) true μ 3 120 [.ref (X.1 + b)] (poN (pre ++ kN_X0 b) (putM μ b n_X0)) := by
  refine ct_of (by decide +kernel) rfl (Nat.le_of_ble_eq_true rfl) ?_
  rw [← putM_self hz]
  rw [show putM (putM μ b fun _ _ => 0) b n_X0 = putM μ b n_X0 by rw [putM_self hz]]
  show KJ X mX0_init 1 true _ (pre ++ [.inr (0, fun _ => none)]) 3 120 0 [(0, .ref (X.1 + (b + 0)))] [] (putM μ b (fun _ _ => 0))
  refine K_aload_n (md := mX0_init) (pc := 0) 0 (kTab_at (pc := 0) tX0_init_ok 0 rfl) rfl ?_
  refine K_objInit (md := mX0_init) (pc := 1) (b := b + 0) (kTab_at (pc := 1) tX0_init_ok 1 rfl) (inT1 120 (by decide +kernel) rfl) (inT1 38 (by decide +kernel) rfl) (inT1 39 (by decide +kernel) rfl) (Nat.le_of_ble_eq_true rfl) ?_
  refine K_aload_n (md := mX0_init) (pc := 4) 0 (kTab_at (pc := 4) tX0_init_ok 2 rfl) rfl ?_
  refine K_bipush (md := mX0_init) (pc := 5) (x := 40) (kTab_at (pc := 5) tX0_init_ok 3 rfl) rfl ?_
  refine C_newarr (md := mX0_init) (pc := 7) (c := (fun _ _ => 0)) (suf' := ([.inr (0, (fun _ => none)), .inl (0, 40, fun _ => none)])) (t := 0) (n := 40) (j := 1) (ty := .int) (kTab_at (pc := 7) tX0_init_ok 4 rfl) (inT1 66 (by decide +kernel) rfl) rfl (by decide) (Nat.le_of_ble_eq_true rfl) hb rfl (zb_0 _) rfl ?_
  refine C_putR (md := mX0_init) (pc := 9) (suf' := ([.inr (0, (rfu (fun _ => none) 0 (b + 1))), .inl (0, 40, fun _ => none)])) (rf := (fun _ => none)) (ci := 0) (k := 0) (i := 0) (r := b + 1) (kTab_at (pc := 9) tX0_init_ok 5 rfl) fl_X0_9 rfl (hdc_X0 0 (by decide)) rfl hb rfl rfl ?_
  refine K_aload_n (md := mX0_init) (pc := 12) 0 (kTab_at (pc := 12) tX0_init_ok 6 rfl) rfl ?_
  refine K_bipush (md := mX0_init) (pc := 13) (x := 40) (kTab_at (pc := 13) tX0_init_ok 7 rfl) rfl ?_
  refine C_newarr (md := mX0_init) (pc := 15) (c := (fun _ _ => 0)) (suf' := ([.inr (0, (rfu (fun _ => none) 0 (b + 1))), .inl (0, 40, fun _ => none), .inl (0, 40, fun _ => none)])) (t := 0) (n := 40) (j := 2) (ty := .int) (kTab_at (pc := 15) tX0_init_ok 8 rfl) (inT1 66 (by decide +kernel) rfl) rfl (by decide) (Nat.le_of_ble_eq_true rfl) hb rfl (zb_0 _) rfl ?_
  refine C_putR (md := mX0_init) (pc := 17) (suf' := ([.inr (0, (rfu (rfu (fun _ => none) 0 (b + 1)) 1 (b + 2))), .inl (0, 40, fun _ => none), .inl (0, 40, fun _ => none)])) (rf := (rfu (fun _ => none) 0 (b + 1))) (ci := 0) (k := 1) (i := 0) (r := b + 2) (kTab_at (pc := 17) tX0_init_ok 9 rfl) fl_X0_15 rfl (hdc_X0 1 (by decide)) rfl hb rfl rfl ?_
  refine K_aload_n (md := mX0_init) (pc := 20) 0 (kTab_at (pc := 20) tX0_init_ok 10 rfl) rfl ?_
  refine K_bipush (md := mX0_init) (pc := 21) (x := 40) (kTab_at (pc := 21) tX0_init_ok 11 rfl) rfl ?_
  refine C_newarr (md := mX0_init) (pc := 23) (c := (fun _ _ => 0)) (suf' := ([.inr (0, (rfu (rfu (fun _ => none) 0 (b + 1)) 1 (b + 2))), .inl (0, 40, fun _ => none), .inl (0, 40, fun _ => none), .inl (0, 40, fun _ => none)])) (t := 0) (n := 40) (j := 3) (ty := .int) (kTab_at (pc := 23) tX0_init_ok 12 rfl) (inT1 66 (by decide +kernel) rfl) rfl (by decide) (Nat.le_of_ble_eq_true rfl) hb rfl (zb_0 _) rfl ?_
  refine C_putR (md := mX0_init) (pc := 25) (suf' := ([.inr (0, (rfu (rfu (rfu (fun _ => none) 0 (b + 1)) 1 (b + 2)) 2 (b + 3))), .inl (0, 40, fun _ => none), .inl (0, 40, fun _ => none), .inl (0, 40, fun _ => none)])) (rf := (rfu (rfu (fun _ => none) 0 (b + 1)) 1 (b + 2))) (ci := 0) (k := 2) (i := 0) (r := b + 3) (kTab_at (pc := 25) tX0_init_ok 13 rfl) fl_X0_18 rfl (hdc_X0 2 (by decide)) rfl hb rfl rfl ?_
  exact K_vret (md := mX0_init) (pc := 28) (kTab_at (pc := 28) tX0_init_ok 14 rfl) rfl ⟨rfl, rfl, rfl⟩
theorem mi_X0 : kMf mX0_init 0 := ⟨inT1 119 (by decide +kernel) rfl, inT1 7 (by decide +kernel) rfl, by decide +kernel, by decide +kernel⟩
def kN_X7 (b : Nat) : List Kd := [.inr (7, (rfu (rfu (rfu (fun _ => none) 0 (b + 1)) 1 (b + 2)) 2 (b + 3))), .inl (0, 5, fun _ => none), .inl (0, 25, fun _ => none), .inl (0, 100, fun _ => none)]
def n_X7 : Mu := (fillM (fun _ _ => 0) 3 100 (-1))
theorem zn_X7 : zb n_X7 4 := (zb_fill (zb_0 _) (Nat.le_of_ble_eq_true rfl))
theorem hdc_X7 (k : Nat) (hk : k < 3) : ∀ (Cn : String) (Tn : u_T) (N : Nat), kCl[7]? = some (Cn, Tn, N) → (Tn k).1 = mX7_init.1.cls := by
  intro Cn Tn N h
  cases h
  revert k
  decide
set_option maxRecDepth 100000 in
theorem ct_X7 (X : kX) {pre : List Kd} {μ : Mu} {b : Nat} (hb : pre.length = b) (hz : zb μ b) : Ct X mX7_init 1 (pre ++ [.inr (7, fun _ => none)]) true μ 3 130 [.ref (X.1 + b)] (poN (pre ++ kN_X7 b) (putM μ b n_X7)) := by
  refine ct_of (by decide +kernel) rfl (Nat.le_of_ble_eq_true rfl) ?_
  rw [← putM_self hz]
  rw [show putM (putM μ b fun _ _ => 0) b n_X7 = putM μ b n_X7 by rw [putM_self hz]]
  show KJ X mX7_init 1 true _ (pre ++ [.inr (7, fun _ => none)]) 3 130 0 [(0, .ref (X.1 + (b + 0)))] [] (putM μ b (fun _ _ => 0))
  refine K_aload_n (md := mX7_init) (pc := 0) 0 (kTab_at (pc := 0) tX7_init_ok 0 rfl) rfl ?_
  refine K_objInit (md := mX7_init) (pc := 1) (b := b + 0) (kTab_at (pc := 1) tX7_init_ok 1 rfl) (inT1 51 (by decide +kernel) rfl) (inT1 38 (by decide +kernel) rfl) (inT1 39 (by decide +kernel) rfl) (Nat.le_of_ble_eq_true rfl) ?_
  refine K_aload_n (md := mX7_init) (pc := 4) 0 (kTab_at (pc := 4) tX7_init_ok 2 rfl) rfl ?_
  refine K_iconst (md := mX7_init) (pc := 5) (x := 5) (kTab_at (pc := 5) tX7_init_ok 3 rfl) rfl ?_
  refine C_newarr (md := mX7_init) (pc := 6) (c := (fun _ _ => 0)) (suf' := ([.inr (7, (fun _ => none)), .inl (0, 5, fun _ => none)])) (t := 0) (n := 5) (j := 1) (ty := .int) (kTab_at (pc := 6) tX7_init_ok 4 rfl) (inT1 66 (by decide +kernel) rfl) rfl (by decide) (Nat.le_of_ble_eq_true rfl) hb rfl (zb_0 _) rfl ?_
  refine C_putR (md := mX7_init) (pc := 8) (suf' := ([.inr (7, (rfu (fun _ => none) 0 (b + 1))), .inl (0, 5, fun _ => none)])) (rf := (fun _ => none)) (ci := 7) (k := 0) (i := 0) (r := b + 1) (kTab_at (pc := 8) tX7_init_ok 5 rfl) fl_X7_9 rfl (hdc_X7 0 (by decide)) rfl hb rfl rfl ?_
  refine K_aload_n (md := mX7_init) (pc := 11) 0 (kTab_at (pc := 11) tX7_init_ok 6 rfl) rfl ?_
  refine K_bipush (md := mX7_init) (pc := 12) (x := 25) (kTab_at (pc := 12) tX7_init_ok 7 rfl) rfl ?_
  refine C_newarr (md := mX7_init) (pc := 14) (c := (fun _ _ => 0)) (suf' := ([.inr (7, (rfu (fun _ => none) 0 (b + 1))), .inl (0, 5, fun _ => none), .inl (0, 25, fun _ => none)])) (t := 0) (n := 25) (j := 2) (ty := .int) (kTab_at (pc := 14) tX7_init_ok 8 rfl) (inT1 66 (by decide +kernel) rfl) rfl (by decide) (Nat.le_of_ble_eq_true rfl) hb rfl (zb_0 _) rfl ?_
  refine C_putR (md := mX7_init) (pc := 16) (suf' := ([.inr (7, (rfu (rfu (fun _ => none) 0 (b + 1)) 1 (b + 2))), .inl (0, 5, fun _ => none), .inl (0, 25, fun _ => none)])) (rf := (rfu (fun _ => none) 0 (b + 1))) (ci := 7) (k := 1) (i := 0) (r := b + 2) (kTab_at (pc := 16) tX7_init_ok 9 rfl) fl_X7_15 rfl (hdc_X7 1 (by decide)) rfl hb rfl rfl ?_
  refine K_aload_n (md := mX7_init) (pc := 19) 0 (kTab_at (pc := 19) tX7_init_ok 10 rfl) rfl ?_
  refine K_bipush (md := mX7_init) (pc := 20) (x := 100) (kTab_at (pc := 20) tX7_init_ok 11 rfl) rfl ?_
  refine C_newarr (md := mX7_init) (pc := 22) (c := (fun _ _ => 0)) (suf' := ([.inr (7, (rfu (rfu (fun _ => none) 0 (b + 1)) 1 (b + 2))), .inl (0, 5, fun _ => none), .inl (0, 25, fun _ => none), .inl (0, 100, fun _ => none)])) (t := 0) (n := 100) (j := 3) (ty := .int) (kTab_at (pc := 22) tX7_init_ok 12 rfl) (inT1 66 (by decide +kernel) rfl) rfl (by decide) (Nat.le_of_ble_eq_true rfl) hb rfl (zb_0 _) rfl ?_
  refine C_putR (md := mX7_init) (pc := 24) (suf' := ([.inr (7, (rfu (rfu (rfu (fun _ => none) 0 (b + 1)) 1 (b + 2)) 2 (b + 3))), .inl (0, 5, fun _ => none), .inl (0, 25, fun _ => none), .inl (0, 100, fun _ => none)])) (rf := (rfu (rfu (fun _ => none) 0 (b + 1)) 1 (b + 2))) (ci := 7) (k := 2) (i := 0) (r := b + 3) (kTab_at (pc := 24) tX7_init_ok 13 rfl) fl_X7_18 rfl (hdc_X7 2 (by decide)) rfl hb rfl rfl ?_
  refine K_aload_n (md := mX7_init) (pc := 27) 0 (kTab_at (pc := 27) tX7_init_ok 14 rfl) rfl ?_
  refine K_getR (md := mX7_init) (pc := 28) (a := b + 0) (b := b + 3) (ci := 7) (k := 2) (kTab_at (pc := 28) tX7_init_ok 15 rfl) fl_X7_18 ((suf_at hb).trans rfl) rfl rfl ?_
  refine K_iconst (md := mX7_init) (pc := 31) (x := (-1)) (kTab_at (pc := 31) tX7_init_ok 16 rfl) rfl ?_
  refine C_fill (md := mX7_init) (pc := 32) (d := 1) (st := []) (i := 3) (n := 100) (x := (-1)) (kTab_at (pc := 32) tX7_init_ok 17 rfl) ms_X7_21 (Nat.le_of_ble_eq_true rfl) (Nat.le_of_ble_eq_true rfl) rfl hb rfl (by decide) rfl ?_
  exact K_vret (md := mX7_init) (pc := 35) (kTab_at (pc := 35) tX7_init_ok 18 rfl) rfl ⟨rfl, rfl, rfl⟩
theorem mi_X7 : kMf mX7_init 0 := ⟨inT1 50 (by decide +kernel) rfl, inT1 3 (by decide +kernel) rfl, by decide +kernel, by decide +kernel⟩
def kN_X3 (b : Nat) : List Kd := [.inr (3, (rfu (rfu (rfu (rfu (fun _ => none) 0 (b + 1)) 1 (b + 2)) 2 (b + 3)) 3 (b + 4))), .inl (0, 40, fun _ => none), .inl (0, 120, fun _ => none), .inl (0, 120, fun _ => none), .inl (0, 120, fun _ => none)]
def n_X3 : Mu := (fun _ _ => 0)
theorem zn_X3 : zb n_X3 5 := (zb_0 _)
theorem hdc_X3 (k : Nat) (hk : k < 5) : ∀ (Cn : String) (Tn : u_T) (N : Nat), kCl[3]? = some (Cn, Tn, N) → (Tn k).1 = mX3_init.1.cls := by
  intro Cn Tn N h
  cases h
  revert k
  decide
set_option maxRecDepth 100000 in
theorem ct_X3 (X : kX) {pre : List Kd} {μ : Mu} {b : Nat} (hb : pre.length = b) (hz : zb μ b) : Ct X mX3_init 1 (pre ++ [.inr (3, fun _ => none)]) true μ 4 400 [.ref (X.1 + b)] (poN (pre ++ kN_X3 b) (putM μ b n_X3)) := by
  refine ct_of (by decide +kernel) rfl (Nat.le_of_ble_eq_true rfl) ?_
  rw [← putM_self hz]
  rw [show putM (putM μ b fun _ _ => 0) b n_X3 = putM μ b n_X3 by rw [putM_self hz]]
  show KJ X mX3_init 1 true _ (pre ++ [.inr (3, fun _ => none)]) 4 400 0 [(0, .ref (X.1 + (b + 0)))] [] (putM μ b (fun _ _ => 0))
  refine K_aload_n (md := mX3_init) (pc := 0) 0 (kTab_at (pc := 0) tX3_init_ok 0 rfl) rfl ?_
  refine K_objInit (md := mX3_init) (pc := 1) (b := b + 0) (kTab_at (pc := 1) tX3_init_ok 1 rfl) (inT1 72 (by decide +kernel) rfl) (inT1 38 (by decide +kernel) rfl) (inT1 39 (by decide +kernel) rfl) (Nat.le_of_ble_eq_true rfl) ?_
  refine K_aload_n (md := mX3_init) (pc := 4) 0 (kTab_at (pc := 4) tX3_init_ok 2 rfl) rfl ?_
  refine K_bipush (md := mX3_init) (pc := 5) (x := 40) (kTab_at (pc := 5) tX3_init_ok 3 rfl) rfl ?_
  refine C_newarr (md := mX3_init) (pc := 7) (c := (fun _ _ => 0)) (suf' := ([.inr (3, (fun _ => none)), .inl (0, 40, fun _ => none)])) (t := 0) (n := 40) (j := 1) (ty := .int) (kTab_at (pc := 7) tX3_init_ok 4 rfl) (inT1 66 (by decide +kernel) rfl) rfl (by decide) (Nat.le_of_ble_eq_true rfl) hb rfl (zb_0 _) rfl ?_
  refine C_putR (md := mX3_init) (pc := 9) (suf' := ([.inr (3, (rfu (fun _ => none) 0 (b + 1))), .inl (0, 40, fun _ => none)])) (rf := (fun _ => none)) (ci := 3) (k := 0) (i := 0) (r := b + 1) (kTab_at (pc := 9) tX3_init_ok 5 rfl) fl_X3_9 rfl (hdc_X3 0 (by decide)) rfl hb rfl rfl ?_
  refine K_aload_n (md := mX3_init) (pc := 12) 0 (kTab_at (pc := 12) tX3_init_ok 6 rfl) rfl ?_
  refine K_bipush (md := mX3_init) (pc := 13) (x := 120) (kTab_at (pc := 13) tX3_init_ok 7 rfl) rfl ?_
  refine C_newarr (md := mX3_init) (pc := 15) (c := (fun _ _ => 0)) (suf' := ([.inr (3, (rfu (fun _ => none) 0 (b + 1))), .inl (0, 40, fun _ => none), .inl (0, 120, fun _ => none)])) (t := 0) (n := 120) (j := 2) (ty := .int) (kTab_at (pc := 15) tX3_init_ok 8 rfl) (inT1 66 (by decide +kernel) rfl) rfl (by decide) (Nat.le_of_ble_eq_true rfl) hb rfl (zb_0 _) rfl ?_
  refine C_putR (md := mX3_init) (pc := 17) (suf' := ([.inr (3, (rfu (rfu (fun _ => none) 0 (b + 1)) 1 (b + 2))), .inl (0, 40, fun _ => none), .inl (0, 120, fun _ => none)])) (rf := (rfu (fun _ => none) 0 (b + 1))) (ci := 3) (k := 1) (i := 0) (r := b + 2) (kTab_at (pc := 17) tX3_init_ok 9 rfl) fl_X3_15 rfl (hdc_X3 1 (by decide)) rfl hb rfl rfl ?_
  refine K_aload_n (md := mX3_init) (pc := 20) 0 (kTab_at (pc := 20) tX3_init_ok 10 rfl) rfl ?_
  refine K_bipush (md := mX3_init) (pc := 21) (x := 120) (kTab_at (pc := 21) tX3_init_ok 11 rfl) rfl ?_
  refine C_newarr (md := mX3_init) (pc := 23) (c := (fun _ _ => 0)) (suf' := ([.inr (3, (rfu (rfu (fun _ => none) 0 (b + 1)) 1 (b + 2))), .inl (0, 40, fun _ => none), .inl (0, 120, fun _ => none), .inl (0, 120, fun _ => none)])) (t := 0) (n := 120) (j := 3) (ty := .int) (kTab_at (pc := 23) tX3_init_ok 12 rfl) (inT1 66 (by decide +kernel) rfl) rfl (by decide) (Nat.le_of_ble_eq_true rfl) hb rfl (zb_0 _) rfl ?_
  refine C_putR (md := mX3_init) (pc := 25) (suf' := ([.inr (3, (rfu (rfu (rfu (fun _ => none) 0 (b + 1)) 1 (b + 2)) 2 (b + 3))), .inl (0, 40, fun _ => none), .inl (0, 120, fun _ => none), .inl (0, 120, fun _ => none)])) (rf := (rfu (rfu (fun _ => none) 0 (b + 1)) 1 (b + 2))) (ci := 3) (k := 2) (i := 0) (r := b + 3) (kTab_at (pc := 25) tX3_init_ok 13 rfl) fl_X3_18 rfl (hdc_X3 2 (by decide)) rfl hb rfl rfl ?_
  refine K_aload_n (md := mX3_init) (pc := 28) 0 (kTab_at (pc := 28) tX3_init_ok 14 rfl) rfl ?_
  refine K_bipush (md := mX3_init) (pc := 29) (x := 120) (kTab_at (pc := 29) tX3_init_ok 15 rfl) rfl ?_
  refine C_newarr (md := mX3_init) (pc := 31) (c := (fun _ _ => 0)) (suf' := ([.inr (3, (rfu (rfu (rfu (fun _ => none) 0 (b + 1)) 1 (b + 2)) 2 (b + 3))), .inl (0, 40, fun _ => none), .inl (0, 120, fun _ => none), .inl (0, 120, fun _ => none), .inl (0, 120, fun _ => none)])) (t := 0) (n := 120) (j := 4) (ty := .int) (kTab_at (pc := 31) tX3_init_ok 16 rfl) (inT1 66 (by decide +kernel) rfl) rfl (by decide) (Nat.le_of_ble_eq_true rfl) hb rfl (zb_0 _) rfl ?_
  refine C_putR (md := mX3_init) (pc := 33) (suf' := ([.inr (3, (rfu (rfu (rfu (rfu (fun _ => none) 0 (b + 1)) 1 (b + 2)) 2 (b + 3)) 3 (b + 4))), .inl (0, 40, fun _ => none), .inl (0, 120, fun _ => none), .inl (0, 120, fun _ => none), .inl (0, 120, fun _ => none)])) (rf := (rfu (rfu (rfu (fun _ => none) 0 (b + 1)) 1 (b + 2)) 2 (b + 3))) (ci := 3) (k := 3) (i := 0) (r := b + 4) (kTab_at (pc := 33) tX3_init_ok 17 rfl) fl_X3_21 rfl (hdc_X3 3 (by decide)) rfl hb rfl rfl ?_
  exact K_vret (md := mX3_init) (pc := 36) (kTab_at (pc := 36) tX3_init_ok 18 rfl) rfl ⟨rfl, rfl, rfl⟩
theorem mi_X3 : kMf mX3_init 0 := ⟨inT1 71 (by decide +kernel) rfl, inT1 5 (by decide +kernel) rfl, by decide +kernel, by decide +kernel⟩
def kN_X2 (b : Nat) : List Kd := [.inr (2, (rfu (rfu (fun _ => none) 0 (b + 1)) 1 (b + 2))), .inl (0, 5, fun _ => none), .inl (0, 5, fun _ => none)]
def n_X2 : Mu := (fun _ _ => 0)
theorem zn_X2 : zb n_X2 3 := (zb_0 _)
theorem hdc_X2 (k : Nat) (hk : k < 3) : ∀ (Cn : String) (Tn : u_T) (N : Nat), kCl[2]? = some (Cn, Tn, N) → (Tn k).1 = mX2_init.1.cls := by
  intro Cn Tn N h
  cases h
  revert k
  decide
set_option maxRecDepth 100000 in
theorem ct_X2 (X : kX) {pre : List Kd} {μ : Mu} {b : Nat} (hb : pre.length = b) (hz : zb μ b) : Ct X mX2_init 1 (pre ++ [.inr (2, fun _ => none)]) true μ 2 10 [.ref (X.1 + b)] (poN (pre ++ kN_X2 b) (putM μ b n_X2)) := by
  refine ct_of (by decide +kernel) rfl (Nat.le_of_ble_eq_true rfl) ?_
  rw [← putM_self hz]
  rw [show putM (putM μ b fun _ _ => 0) b n_X2 = putM μ b n_X2 by rw [putM_self hz]]
  show KJ X mX2_init 1 true _ (pre ++ [.inr (2, fun _ => none)]) 2 10 0 [(0, .ref (X.1 + (b + 0)))] [] (putM μ b (fun _ _ => 0))
  refine K_aload_n (md := mX2_init) (pc := 0) 0 (kTab_at (pc := 0) tX2_init_ok 0 rfl) rfl ?_
  refine K_objInit (md := mX2_init) (pc := 1) (b := b + 0) (kTab_at (pc := 1) tX2_init_ok 1 rfl) (inT1 103 (by decide +kernel) rfl) (inT1 38 (by decide +kernel) rfl) (inT1 39 (by decide +kernel) rfl) (Nat.le_of_ble_eq_true rfl) ?_
  refine K_aload_n (md := mX2_init) (pc := 4) 0 (kTab_at (pc := 4) tX2_init_ok 2 rfl) rfl ?_
  refine K_iconst (md := mX2_init) (pc := 5) (x := 5) (kTab_at (pc := 5) tX2_init_ok 3 rfl) rfl ?_
  refine C_newarr (md := mX2_init) (pc := 6) (c := (fun _ _ => 0)) (suf' := ([.inr (2, (fun _ => none)), .inl (0, 5, fun _ => none)])) (t := 0) (n := 5) (j := 1) (ty := .int) (kTab_at (pc := 6) tX2_init_ok 4 rfl) (inT1 66 (by decide +kernel) rfl) rfl (by decide) (Nat.le_of_ble_eq_true rfl) hb rfl (zb_0 _) rfl ?_
  refine C_putR (md := mX2_init) (pc := 8) (suf' := ([.inr (2, (rfu (fun _ => none) 0 (b + 1))), .inl (0, 5, fun _ => none)])) (rf := (fun _ => none)) (ci := 2) (k := 0) (i := 0) (r := b + 1) (kTab_at (pc := 8) tX2_init_ok 5 rfl) fl_X2_9 rfl (hdc_X2 0 (by decide)) rfl hb rfl rfl ?_
  refine K_aload_n (md := mX2_init) (pc := 11) 0 (kTab_at (pc := 11) tX2_init_ok 6 rfl) rfl ?_
  refine K_iconst (md := mX2_init) (pc := 12) (x := 5) (kTab_at (pc := 12) tX2_init_ok 7 rfl) rfl ?_
  refine C_newarr (md := mX2_init) (pc := 13) (c := (fun _ _ => 0)) (suf' := ([.inr (2, (rfu (fun _ => none) 0 (b + 1))), .inl (0, 5, fun _ => none), .inl (0, 5, fun _ => none)])) (t := 0) (n := 5) (j := 2) (ty := .int) (kTab_at (pc := 13) tX2_init_ok 8 rfl) (inT1 66 (by decide +kernel) rfl) rfl (by decide) (Nat.le_of_ble_eq_true rfl) hb rfl (zb_0 _) rfl ?_
  refine C_putR (md := mX2_init) (pc := 15) (suf' := ([.inr (2, (rfu (rfu (fun _ => none) 0 (b + 1)) 1 (b + 2))), .inl (0, 5, fun _ => none), .inl (0, 5, fun _ => none)])) (rf := (rfu (fun _ => none) 0 (b + 1))) (ci := 2) (k := 1) (i := 0) (r := b + 2) (kTab_at (pc := 15) tX2_init_ok 9 rfl) fl_X2_15 rfl (hdc_X2 1 (by decide)) rfl hb rfl rfl ?_
  exact K_vret (md := mX2_init) (pc := 18) (kTab_at (pc := 18) tX2_init_ok 10 rfl) rfl ⟨rfl, rfl, rfl⟩
theorem mi_X2 : kMf mX2_init 0 := ⟨inT1 102 (by decide +kernel) rfl, inT1 6 (by decide +kernel) rfl, by decide +kernel, by decide +kernel⟩
def kN_X1 (b : Nat) : List Kd := [.inr (1, (rfu (rfu (rfu (rfu (rfu (rfu (rfu (rfu (rfu (rfu (rfu (fun _ => none) 0 (b + 1)) 1 (b + 2)) 2 (b + 3)) 3 (b + 4)) 4 (b + 5)) 5 (b + 6)) 6 (b + 7)) 7 (b + 11)) 8 (b + 16)) 9 (b + 19)) 11 (b + 23))), .inl (0, 5, fun _ => none), .inl (0, 5, fun _ => none), .inl (0, 4, fun _ => none), .inl (0, 8, fun _ => none), .inl (0, 8, fun _ => none), .inl (0, 4, fun _ => none)] ++ (kN_X7 (b + 7) ++ (kN_X3 (b + 11) ++ (kN_X2 (b + 16) ++ (kN_X0 (b + 19) ++ ([.inl (0, 3, fun _ => none)])))))
def n_X1 : Mu := (fillM (putM (putM (putM (putM (up2 (up2 (up2 (up2 (up2 (up2 (up2 (up2 (up2 (fun _ _ => 0) 2 0 1) 2 1 6) 2 2 3) 2 3 2) 2 4 30) 3 0 70) 3 1 60) 3 2 50) 3 3 40) 7 n_X7) 11 n_X3) 16 n_X2) 19 n_X0) 1 5 20)
theorem zn_X1 : zb n_X1 24 := (zb_fill (zb_put (zb_mono zn_X0 (Nat.le_of_ble_eq_true rfl)) (Nat.le_of_ble_eq_true rfl)) (Nat.le_of_ble_eq_true rfl))
theorem hdc_X1 (k : Nat) (hk : k < 12) : ∀ (Cn : String) (Tn : u_T) (N : Nat), kCl[1]? = some (Cn, Tn, N) → (Tn k).1 = mX1_init.1.cls := by
  intro Cn Tn N h
  cases h
  revert k
  decide
set_option maxRecDepth 100000 in
theorem ct_X1 (X : kX) {pre : List Kd} {μ : Mu} {b : Nat} (hb : pre.length = b) (hz : zb μ b) : Ct X mX1_init 2 (pre ++ [.inr (1, fun _ => none)]) true μ 23 712 [.ref (X.1 + b)] (poN (pre ++ kN_X1 b) (putM μ b n_X1)) := by
  refine ct_of (by decide +kernel) rfl (Nat.le_of_ble_eq_true rfl) ?_
  rw [← putM_self hz]
  rw [show putM (putM μ b fun _ _ => 0) b n_X1 = putM μ b n_X1 by rw [putM_self hz]]
  show KJ X mX1_init 2 true _ (pre ++ [.inr (1, fun _ => none)]) 23 712 0 [(0, .ref (X.1 + (b + 0)))] [] (putM μ b (fun _ _ => 0))
  refine K_aload_n (md := mX1_init) (pc := 0) 0 (kTab_at (pc := 0) tX1_init_ok 0 rfl) rfl ?_
  refine K_objInit (md := mX1_init) (pc := 1) (b := b + 0) (kTab_at (pc := 1) tX1_init_ok 1 rfl) (inT1 45 (by decide +kernel) rfl) (inT1 38 (by decide +kernel) rfl) (inT1 39 (by decide +kernel) rfl) (Nat.le_of_ble_eq_true rfl) ?_
  refine K_aload_n (md := mX1_init) (pc := 4) 0 (kTab_at (pc := 4) tX1_init_ok 2 rfl) rfl ?_
  refine K_iconst (md := mX1_init) (pc := 5) (x := 5) (kTab_at (pc := 5) tX1_init_ok 3 rfl) rfl ?_
  refine C_newarr (md := mX1_init) (pc := 6) (c := (fun _ _ => 0)) (suf' := ([.inr (1, (fun _ => none)), .inl (0, 5, fun _ => none)])) (t := 0) (n := 5) (j := 1) (ty := .int) (kTab_at (pc := 6) tX1_init_ok 4 rfl) (inT1 66 (by decide +kernel) rfl) rfl (by decide) (Nat.le_of_ble_eq_true rfl) hb rfl (zb_0 _) rfl ?_
  refine C_putR (md := mX1_init) (pc := 8) (suf' := ([.inr (1, (rfu (fun _ => none) 0 (b + 1))), .inl (0, 5, fun _ => none)])) (rf := (fun _ => none)) (ci := 1) (k := 0) (i := 0) (r := b + 1) (kTab_at (pc := 8) tX1_init_ok 5 rfl) fl_X1_9 rfl (hdc_X1 0 (by decide)) rfl hb rfl rfl ?_
  refine K_aload_n (md := mX1_init) (pc := 11) 0 (kTab_at (pc := 11) tX1_init_ok 6 rfl) rfl ?_
  refine K_iconst (md := mX1_init) (pc := 12) (x := 5) (kTab_at (pc := 12) tX1_init_ok 7 rfl) rfl ?_
  refine C_newarr (md := mX1_init) (pc := 13) (c := (fun _ _ => 0)) (suf' := ([.inr (1, (rfu (fun _ => none) 0 (b + 1))), .inl (0, 5, fun _ => none), .inl (0, 5, fun _ => none)])) (t := 0) (n := 5) (j := 2) (ty := .int) (kTab_at (pc := 13) tX1_init_ok 8 rfl) (inT1 66 (by decide +kernel) rfl) rfl (by decide) (Nat.le_of_ble_eq_true rfl) hb rfl (zb_0 _) rfl ?_
  refine K_dup (md := mX1_init) (pc := 15) (kTab_at (pc := 15) tX1_init_ok 9 rfl) rfl ?_
  refine K_iconst (md := mX1_init) (pc := 16) (x := 0) (kTab_at (pc := 16) tX1_init_ok 10 rfl) rfl ?_
  refine K_iconst (md := mX1_init) (pc := 17) (x := 1) (kTab_at (pc := 17) tX1_init_ok 11 rfl) rfl ?_
  refine C_iast (md := mX1_init) (pc := 18) (i := 2) (q := 0) (n := 5) (x := 0) (y := 1) (kTab_at (pc := 18) tX1_init_ok 12 rfl) hb rfl (by decide) (by decide) rfl rfl ?_
  refine K_dup (md := mX1_init) (pc := 19) (kTab_at (pc := 19) tX1_init_ok 13 rfl) rfl ?_
  refine K_iconst (md := mX1_init) (pc := 20) (x := 1) (kTab_at (pc := 20) tX1_init_ok 14 rfl) rfl ?_
  refine K_bipush (md := mX1_init) (pc := 21) (x := 6) (kTab_at (pc := 21) tX1_init_ok 15 rfl) rfl ?_
  refine C_iast (md := mX1_init) (pc := 23) (i := 2) (q := 1) (n := 5) (x := 1) (y := 6) (kTab_at (pc := 23) tX1_init_ok 16 rfl) hb rfl (by decide) (by decide) rfl rfl ?_
  refine K_dup (md := mX1_init) (pc := 24) (kTab_at (pc := 24) tX1_init_ok 17 rfl) rfl ?_
  refine K_iconst (md := mX1_init) (pc := 25) (x := 2) (kTab_at (pc := 25) tX1_init_ok 18 rfl) rfl ?_
  refine K_iconst (md := mX1_init) (pc := 26) (x := 3) (kTab_at (pc := 26) tX1_init_ok 19 rfl) rfl ?_
  refine C_iast (md := mX1_init) (pc := 27) (i := 2) (q := 2) (n := 5) (x := 2) (y := 3) (kTab_at (pc := 27) tX1_init_ok 20 rfl) hb rfl (by decide) (by decide) rfl rfl ?_
  refine K_dup (md := mX1_init) (pc := 28) (kTab_at (pc := 28) tX1_init_ok 21 rfl) rfl ?_
  refine K_iconst (md := mX1_init) (pc := 29) (x := 3) (kTab_at (pc := 29) tX1_init_ok 22 rfl) rfl ?_
  refine K_iconst (md := mX1_init) (pc := 30) (x := 2) (kTab_at (pc := 30) tX1_init_ok 23 rfl) rfl ?_
  refine C_iast (md := mX1_init) (pc := 31) (i := 2) (q := 3) (n := 5) (x := 3) (y := 2) (kTab_at (pc := 31) tX1_init_ok 24 rfl) hb rfl (by decide) (by decide) rfl rfl ?_
  refine K_dup (md := mX1_init) (pc := 32) (kTab_at (pc := 32) tX1_init_ok 25 rfl) rfl ?_
  refine K_iconst (md := mX1_init) (pc := 33) (x := 4) (kTab_at (pc := 33) tX1_init_ok 26 rfl) rfl ?_
  refine K_bipush (md := mX1_init) (pc := 34) (x := 30) (kTab_at (pc := 34) tX1_init_ok 27 rfl) rfl ?_
  refine C_iast (md := mX1_init) (pc := 36) (i := 2) (q := 4) (n := 5) (x := 4) (y := 30) (kTab_at (pc := 36) tX1_init_ok 28 rfl) hb rfl (by decide) (by decide) rfl rfl ?_
  refine C_putR (md := mX1_init) (pc := 37) (suf' := ([.inr (1, (rfu (rfu (fun _ => none) 0 (b + 1)) 1 (b + 2))), .inl (0, 5, fun _ => none), .inl (0, 5, fun _ => none)])) (rf := (rfu (fun _ => none) 0 (b + 1))) (ci := 1) (k := 1) (i := 0) (r := b + 2) (kTab_at (pc := 37) tX1_init_ok 29 rfl) fl_X1_15 rfl (hdc_X1 1 (by decide)) rfl hb rfl rfl ?_
  refine K_aload_n (md := mX1_init) (pc := 40) 0 (kTab_at (pc := 40) tX1_init_ok 30 rfl) rfl ?_
  refine K_iconst (md := mX1_init) (pc := 41) (x := 4) (kTab_at (pc := 41) tX1_init_ok 31 rfl) rfl ?_
  refine C_newarr (md := mX1_init) (pc := 42) (c := (up2 (up2 (up2 (up2 (up2 (fun _ _ => 0) 2 0 1) 2 1 6) 2 2 3) 2 3 2) 2 4 30)) (suf' := ([.inr (1, (rfu (rfu (fun _ => none) 0 (b + 1)) 1 (b + 2))), .inl (0, 5, fun _ => none), .inl (0, 5, fun _ => none), .inl (0, 4, fun _ => none)])) (t := 0) (n := 4) (j := 3) (ty := .int) (kTab_at (pc := 42) tX1_init_ok 32 rfl) (inT1 66 (by decide +kernel) rfl) rfl (by decide) (Nat.le_of_ble_eq_true rfl) hb rfl (zb_up (zb_up (zb_up (zb_up (zb_up (zb_0 _) (Nat.le_of_ble_eq_true rfl)) (Nat.le_of_ble_eq_true rfl)) (Nat.le_of_ble_eq_true rfl)) (Nat.le_of_ble_eq_true rfl)) (Nat.le_of_ble_eq_true rfl)) rfl ?_
  refine K_dup (md := mX1_init) (pc := 44) (kTab_at (pc := 44) tX1_init_ok 33 rfl) rfl ?_
  refine K_iconst (md := mX1_init) (pc := 45) (x := 0) (kTab_at (pc := 45) tX1_init_ok 34 rfl) rfl ?_
  refine K_bipush (md := mX1_init) (pc := 46) (x := 70) (kTab_at (pc := 46) tX1_init_ok 35 rfl) rfl ?_
  refine C_iast (md := mX1_init) (pc := 48) (i := 3) (q := 0) (n := 4) (x := 0) (y := 70) (kTab_at (pc := 48) tX1_init_ok 36 rfl) hb rfl (by decide) (by decide) rfl rfl ?_
  refine K_dup (md := mX1_init) (pc := 49) (kTab_at (pc := 49) tX1_init_ok 37 rfl) rfl ?_
  refine K_iconst (md := mX1_init) (pc := 50) (x := 1) (kTab_at (pc := 50) tX1_init_ok 38 rfl) rfl ?_
  refine K_bipush (md := mX1_init) (pc := 51) (x := 60) (kTab_at (pc := 51) tX1_init_ok 39 rfl) rfl ?_
  refine C_iast (md := mX1_init) (pc := 53) (i := 3) (q := 1) (n := 4) (x := 1) (y := 60) (kTab_at (pc := 53) tX1_init_ok 40 rfl) hb rfl (by decide) (by decide) rfl rfl ?_
  refine K_dup (md := mX1_init) (pc := 54) (kTab_at (pc := 54) tX1_init_ok 41 rfl) rfl ?_
  refine K_iconst (md := mX1_init) (pc := 55) (x := 2) (kTab_at (pc := 55) tX1_init_ok 42 rfl) rfl ?_
  refine K_bipush (md := mX1_init) (pc := 56) (x := 50) (kTab_at (pc := 56) tX1_init_ok 43 rfl) rfl ?_
  refine C_iast (md := mX1_init) (pc := 58) (i := 3) (q := 2) (n := 4) (x := 2) (y := 50) (kTab_at (pc := 58) tX1_init_ok 44 rfl) hb rfl (by decide) (by decide) rfl rfl ?_
  refine K_dup (md := mX1_init) (pc := 59) (kTab_at (pc := 59) tX1_init_ok 45 rfl) rfl ?_
  refine K_iconst (md := mX1_init) (pc := 60) (x := 3) (kTab_at (pc := 60) tX1_init_ok 46 rfl) rfl ?_
  refine K_bipush (md := mX1_init) (pc := 61) (x := 40) (kTab_at (pc := 61) tX1_init_ok 47 rfl) rfl ?_
  refine C_iast (md := mX1_init) (pc := 63) (i := 3) (q := 3) (n := 4) (x := 3) (y := 40) (kTab_at (pc := 63) tX1_init_ok 48 rfl) hb rfl (by decide) (by decide) rfl rfl ?_
  refine C_putR (md := mX1_init) (pc := 64) (suf' := ([.inr (1, (rfu (rfu (rfu (fun _ => none) 0 (b + 1)) 1 (b + 2)) 2 (b + 3))), .inl (0, 5, fun _ => none), .inl (0, 5, fun _ => none), .inl (0, 4, fun _ => none)])) (rf := (rfu (rfu (fun _ => none) 0 (b + 1)) 1 (b + 2))) (ci := 1) (k := 2) (i := 0) (r := b + 3) (kTab_at (pc := 64) tX1_init_ok 49 rfl) fl_X1_18 rfl (hdc_X1 2 (by decide)) rfl hb rfl rfl ?_
  refine K_aload_n (md := mX1_init) (pc := 67) 0 (kTab_at (pc := 67) tX1_init_ok 50 rfl) rfl ?_
  refine K_bipush (md := mX1_init) (pc := 68) (x := 8) (kTab_at (pc := 68) tX1_init_ok 51 rfl) rfl ?_
  refine C_newarr (md := mX1_init) (pc := 70) (c := (up2 (up2 (up2 (up2 (up2 (up2 (up2 (up2 (up2 (fun _ _ => 0) 2 0 1) 2 1 6) 2 2 3) 2 3 2) 2 4 30) 3 0 70) 3 1 60) 3 2 50) 3 3 40)) (suf' := ([.inr (1, (rfu (rfu (rfu (fun _ => none) 0 (b + 1)) 1 (b + 2)) 2 (b + 3))), .inl (0, 5, fun _ => none), .inl (0, 5, fun _ => none), .inl (0, 4, fun _ => none), .inl (0, 8, fun _ => none)])) (t := 0) (n := 8) (j := 4) (ty := .int) (kTab_at (pc := 70) tX1_init_ok 52 rfl) (inT1 66 (by decide +kernel) rfl) rfl (by decide) (Nat.le_of_ble_eq_true rfl) hb rfl (zb_up (zb_up (zb_up (zb_up (zb_up (zb_up (zb_up (zb_up (zb_up (zb_0 _) (Nat.le_of_ble_eq_true rfl)) (Nat.le_of_ble_eq_true rfl)) (Nat.le_of_ble_eq_true rfl)) (Nat.le_of_ble_eq_true rfl)) (Nat.le_of_ble_eq_true rfl)) (Nat.le_of_ble_eq_true rfl)) (Nat.le_of_ble_eq_true rfl)) (Nat.le_of_ble_eq_true rfl)) (Nat.le_of_ble_eq_true rfl)) rfl ?_
  refine C_putR (md := mX1_init) (pc := 72) (suf' := ([.inr (1, (rfu (rfu (rfu (rfu (fun _ => none) 0 (b + 1)) 1 (b + 2)) 2 (b + 3)) 3 (b + 4))), .inl (0, 5, fun _ => none), .inl (0, 5, fun _ => none), .inl (0, 4, fun _ => none), .inl (0, 8, fun _ => none)])) (rf := (rfu (rfu (rfu (fun _ => none) 0 (b + 1)) 1 (b + 2)) 2 (b + 3))) (ci := 1) (k := 3) (i := 0) (r := b + 4) (kTab_at (pc := 72) tX1_init_ok 53 rfl) fl_X1_21 rfl (hdc_X1 3 (by decide)) rfl hb rfl rfl ?_
  refine K_aload_n (md := mX1_init) (pc := 75) 0 (kTab_at (pc := 75) tX1_init_ok 54 rfl) rfl ?_
  refine K_bipush (md := mX1_init) (pc := 76) (x := 8) (kTab_at (pc := 76) tX1_init_ok 55 rfl) rfl ?_
  refine C_newarr (md := mX1_init) (pc := 78) (c := (up2 (up2 (up2 (up2 (up2 (up2 (up2 (up2 (up2 (fun _ _ => 0) 2 0 1) 2 1 6) 2 2 3) 2 3 2) 2 4 30) 3 0 70) 3 1 60) 3 2 50) 3 3 40)) (suf' := ([.inr (1, (rfu (rfu (rfu (rfu (fun _ => none) 0 (b + 1)) 1 (b + 2)) 2 (b + 3)) 3 (b + 4))), .inl (0, 5, fun _ => none), .inl (0, 5, fun _ => none), .inl (0, 4, fun _ => none), .inl (0, 8, fun _ => none), .inl (0, 8, fun _ => none)])) (t := 0) (n := 8) (j := 5) (ty := .int) (kTab_at (pc := 78) tX1_init_ok 56 rfl) (inT1 66 (by decide +kernel) rfl) rfl (by decide) (Nat.le_of_ble_eq_true rfl) hb rfl (zb_up (zb_up (zb_up (zb_up (zb_up (zb_up (zb_up (zb_up (zb_up (zb_0 _) (Nat.le_of_ble_eq_true rfl)) (Nat.le_of_ble_eq_true rfl)) (Nat.le_of_ble_eq_true rfl)) (Nat.le_of_ble_eq_true rfl)) (Nat.le_of_ble_eq_true rfl)) (Nat.le_of_ble_eq_true rfl)) (Nat.le_of_ble_eq_true rfl)) (Nat.le_of_ble_eq_true rfl)) (Nat.le_of_ble_eq_true rfl)) rfl ?_
  refine C_putR (md := mX1_init) (pc := 80) (suf' := ([.inr (1, (rfu (rfu (rfu (rfu (rfu (fun _ => none) 0 (b + 1)) 1 (b + 2)) 2 (b + 3)) 3 (b + 4)) 4 (b + 5))), .inl (0, 5, fun _ => none), .inl (0, 5, fun _ => none), .inl (0, 4, fun _ => none), .inl (0, 8, fun _ => none), .inl (0, 8, fun _ => none)])) (rf := (rfu (rfu (rfu (rfu (fun _ => none) 0 (b + 1)) 1 (b + 2)) 2 (b + 3)) 3 (b + 4))) (ci := 1) (k := 4) (i := 0) (r := b + 5) (kTab_at (pc := 80) tX1_init_ok 57 rfl) fl_X1_24 rfl (hdc_X1 4 (by decide)) rfl hb rfl rfl ?_
  refine K_aload_n (md := mX1_init) (pc := 83) 0 (kTab_at (pc := 83) tX1_init_ok 58 rfl) rfl ?_
  refine K_iconst (md := mX1_init) (pc := 84) (x := 4) (kTab_at (pc := 84) tX1_init_ok 59 rfl) rfl ?_
  refine C_newarr (md := mX1_init) (pc := 85) (c := (up2 (up2 (up2 (up2 (up2 (up2 (up2 (up2 (up2 (fun _ _ => 0) 2 0 1) 2 1 6) 2 2 3) 2 3 2) 2 4 30) 3 0 70) 3 1 60) 3 2 50) 3 3 40)) (suf' := ([.inr (1, (rfu (rfu (rfu (rfu (rfu (fun _ => none) 0 (b + 1)) 1 (b + 2)) 2 (b + 3)) 3 (b + 4)) 4 (b + 5))), .inl (0, 5, fun _ => none), .inl (0, 5, fun _ => none), .inl (0, 4, fun _ => none), .inl (0, 8, fun _ => none), .inl (0, 8, fun _ => none), .inl (0, 4, fun _ => none)])) (t := 0) (n := 4) (j := 6) (ty := .int) (kTab_at (pc := 85) tX1_init_ok 60 rfl) (inT1 66 (by decide +kernel) rfl) rfl (by decide) (Nat.le_of_ble_eq_true rfl) hb rfl (zb_up (zb_up (zb_up (zb_up (zb_up (zb_up (zb_up (zb_up (zb_up (zb_0 _) (Nat.le_of_ble_eq_true rfl)) (Nat.le_of_ble_eq_true rfl)) (Nat.le_of_ble_eq_true rfl)) (Nat.le_of_ble_eq_true rfl)) (Nat.le_of_ble_eq_true rfl)) (Nat.le_of_ble_eq_true rfl)) (Nat.le_of_ble_eq_true rfl)) (Nat.le_of_ble_eq_true rfl)) (Nat.le_of_ble_eq_true rfl)) rfl ?_
  refine C_putR (md := mX1_init) (pc := 87) (suf' := ([.inr (1, (rfu (rfu (rfu (rfu (rfu (rfu (fun _ => none) 0 (b + 1)) 1 (b + 2)) 2 (b + 3)) 3 (b + 4)) 4 (b + 5)) 5 (b + 6))), .inl (0, 5, fun _ => none), .inl (0, 5, fun _ => none), .inl (0, 4, fun _ => none), .inl (0, 8, fun _ => none), .inl (0, 8, fun _ => none), .inl (0, 4, fun _ => none)])) (rf := (rfu (rfu (rfu (rfu (rfu (fun _ => none) 0 (b + 1)) 1 (b + 2)) 2 (b + 3)) 3 (b + 4)) 4 (b + 5))) (ci := 1) (k := 5) (i := 0) (r := b + 6) (kTab_at (pc := 87) tX1_init_ok 61 rfl) fl_X1_27 rfl (hdc_X1 5 (by decide)) rfl hb rfl rfl ?_
  refine K_aload_n (md := mX1_init) (pc := 90) 0 (kTab_at (pc := 90) tX1_init_ok 62 rfl) rfl ?_
  refine C_new (md := mX1_init) (pc := 91) (c := (up2 (up2 (up2 (up2 (up2 (up2 (up2 (up2 (up2 (fun _ _ => 0) 2 0 1) 2 1 6) 2 2 3) 2 3 2) 2 4 30) 3 0 70) 3 1 60) 3 2 50) 3 3 40)) (suf' := (([.inr (1, (rfu (rfu (rfu (rfu (rfu (rfu (fun _ => none) 0 (b + 1)) 1 (b + 2)) 2 (b + 3)) 3 (b + 4)) 4 (b + 5)) 5 (b + 6))), .inl (0, 5, fun _ => none), .inl (0, 5, fun _ => none), .inl (0, 4, fun _ => none), .inl (0, 8, fun _ => none), .inl (0, 8, fun _ => none), .inl (0, 4, fun _ => none)]) ++ [.inr (7, fun _ => none)])) (ci := 7) (C := RX7) (T := TX7) (N := 3) (j := 7) (kTab_at (pc := 91) tX1_init_ok 63 rfl) cf_X7 (inT1 46 (by decide +kernel) rfl) (inT1 47 (by decide +kernel) rfl) (inT1 3 (by decide +kernel) rfl) (by decide) hb rfl (zb_up (zb_up (zb_up (zb_up (zb_up (zb_up (zb_up (zb_up (zb_up (zb_0 _) (Nat.le_of_ble_eq_true rfl)) (Nat.le_of_ble_eq_true rfl)) (Nat.le_of_ble_eq_true rfl)) (Nat.le_of_ble_eq_true rfl)) (Nat.le_of_ble_eq_true rfl)) (Nat.le_of_ble_eq_true rfl)) (Nat.le_of_ble_eq_true rfl)) (Nat.le_of_ble_eq_true rfl)) (Nat.le_of_ble_eq_true rfl)) rfl ?_
  refine K_dup (md := mX1_init) (pc := 94) (kTab_at (pc := 94) tX1_init_ok 64 rfl) rfl ?_
  refine C_callI (md := mX1_init) (pc := 95) (d := 2) (st := [.ref (X.1 + (b + 7)), .ref (X.1 + (b + 0))]) (c := (up2 (up2 (up2 (up2 (up2 (up2 (up2 (up2 (up2 (fun _ _ => 0) 2 0 1) 2 1 6) 2 2 3) 2 3 2) 2 4 30) 3 0 70) 3 1 60) 3 2 50) 3 3 40)) (suf := ([.inr (1, (rfu (rfu (rfu (rfu (rfu (rfu (fun _ => none) 0 (b + 1)) 1 (b + 2)) 2 (b + 3)) 3 (b + 4)) 4 (b + 5)) 5 (b + 6))), .inl (0, 5, fun _ => none), .inl (0, 5, fun _ => none), .inl (0, 4, fun _ => none), .inl (0, 8, fun _ => none), .inl (0, 8, fun _ => none), .inl (0, 4, fun _ => none)])) (suf' := ([.inr (1, (rfu (rfu (rfu (rfu (rfu (rfu (fun _ => none) 0 (b + 1)) 1 (b + 2)) 2 (b + 3)) 3 (b + 4)) 4 (b + 5)) 5 (b + 6))), .inl (0, 5, fun _ => none), .inl (0, 5, fun _ => none), .inl (0, 4, fun _ => none), .inl (0, 8, fun _ => none), .inl (0, 8, fun _ => none), .inl (0, 4, fun _ => none)] ++ (kN_X7 (b + 7)))) (mdY := mX7_init) (d' := 1) (mcY := 3) (msY := 130) (j := 7) (ks := kN_X7) (m0 := n_X7) (kTab_at (pc := 95) tX1_init_ok 65 rfl) (inT1 48 (by decide +kernel) rfl) (inT1 49 (by decide +kernel) rfl) mi_X7 rfl rfl (Nat.le_of_ble_eq_true rfl) (Nat.le_of_ble_eq_true rfl) hb rfl (fun pre0 μ0 b0 h0 z0 => ct_X7 X h0 z0) (zb_up (zb_up (zb_up (zb_up (zb_up (zb_up (zb_up (zb_up (zb_up (zb_0 _) (Nat.le_of_ble_eq_true rfl)) (Nat.le_of_ble_eq_true rfl)) (Nat.le_of_ble_eq_true rfl)) (Nat.le_of_ble_eq_true rfl)) (Nat.le_of_ble_eq_true rfl)) (Nat.le_of_ble_eq_true rfl)) (Nat.le_of_ble_eq_true rfl)) (Nat.le_of_ble_eq_true rfl)) (Nat.le_of_ble_eq_true rfl)) rfl rfl rfl ?_
  refine C_putR (md := mX1_init) (pc := 98) (suf' := ([.inr (1, (rfu (rfu (rfu (rfu (rfu (rfu (rfu (fun _ => none) 0 (b + 1)) 1 (b + 2)) 2 (b + 3)) 3 (b + 4)) 4 (b + 5)) 5 (b + 6)) 6 (b + 7))), .inl (0, 5, fun _ => none), .inl (0, 5, fun _ => none), .inl (0, 4, fun _ => none), .inl (0, 8, fun _ => none), .inl (0, 8, fun _ => none), .inl (0, 4, fun _ => none)] ++ (kN_X7 (b + 7)))) (rf := (rfu (rfu (rfu (rfu (rfu (rfu (fun _ => none) 0 (b + 1)) 1 (b + 2)) 2 (b + 3)) 3 (b + 4)) 4 (b + 5)) 5 (b + 6))) (ci := 1) (k := 6) (i := 0) (r := b + 7) (kTab_at (pc := 98) tX1_init_ok 66 rfl) fl_X1_33 rfl (hdc_X1 6 (by decide)) rfl hb rfl rfl ?_
  refine K_aload_n (md := mX1_init) (pc := 101) 0 (kTab_at (pc := 101) tX1_init_ok 67 rfl) rfl ?_
  refine C_new (md := mX1_init) (pc := 102) (c := (putM (up2 (up2 (up2 (up2 (up2 (up2 (up2 (up2 (up2 (fun _ _ => 0) 2 0 1) 2 1 6) 2 2 3) 2 3 2) 2 4 30) 3 0 70) 3 1 60) 3 2 50) 3 3 40) 7 n_X7)) (suf' := (([.inr (1, (rfu (rfu (rfu (rfu (rfu (rfu (rfu (fun _ => none) 0 (b + 1)) 1 (b + 2)) 2 (b + 3)) 3 (b + 4)) 4 (b + 5)) 5 (b + 6)) 6 (b + 7))), .inl (0, 5, fun _ => none), .inl (0, 5, fun _ => none), .inl (0, 4, fun _ => none), .inl (0, 8, fun _ => none), .inl (0, 8, fun _ => none), .inl (0, 4, fun _ => none)] ++ (kN_X7 (b + 7))) ++ [.inr (3, fun _ => none)])) (ci := 3) (C := RX3) (T := TX3) (N := 5) (j := 11) (kTab_at (pc := 102) tX1_init_ok 68 rfl) cf_X3 (inT1 67 (by decide +kernel) rfl) (inT1 68 (by decide +kernel) rfl) (inT1 5 (by decide +kernel) rfl) (by decide) hb rfl (zb_put (zb_mono zn_X7 (Nat.le_of_ble_eq_true rfl)) (Nat.le_of_ble_eq_true rfl)) rfl ?_
  refine K_dup (md := mX1_init) (pc := 105) (kTab_at (pc := 105) tX1_init_ok 69 rfl) rfl ?_
  refine C_callIN (md := mX1_init) (pc := 106) (d := 2) (st := [.ref (X.1 + (b + 11)), .ref (X.1 + (b + 0))]) (c := (putM (up2 (up2 (up2 (up2 (up2 (up2 (up2 (up2 (up2 (fun _ _ => 0) 2 0 1) 2 1 6) 2 2 3) 2 3 2) 2 4 30) 3 0 70) 3 1 60) 3 2 50) 3 3 40) 7 n_X7)) (suf := ([.inr (1, (rfu (rfu (rfu (rfu (rfu (rfu (rfu (fun _ => none) 0 (b + 1)) 1 (b + 2)) 2 (b + 3)) 3 (b + 4)) 4 (b + 5)) 5 (b + 6)) 6 (b + 7))), .inl (0, 5, fun _ => none), .inl (0, 5, fun _ => none), .inl (0, 4, fun _ => none), .inl (0, 8, fun _ => none), .inl (0, 8, fun _ => none), .inl (0, 4, fun _ => none)] ++ (kN_X7 (b + 7)))) (suf' := ([.inr (1, (rfu (rfu (rfu (rfu (rfu (rfu (rfu (fun _ => none) 0 (b + 1)) 1 (b + 2)) 2 (b + 3)) 3 (b + 4)) 4 (b + 5)) 5 (b + 6)) 6 (b + 7))), .inl (0, 5, fun _ => none), .inl (0, 5, fun _ => none), .inl (0, 4, fun _ => none), .inl (0, 8, fun _ => none), .inl (0, 8, fun _ => none), .inl (0, 4, fun _ => none)] ++ (kN_X7 (b + 7) ++ (kN_X3 (b + 11))))) (mdY := mX3_init) (d' := 1) (mcY := 4) (msY := 400) (j := 11) (ks := kN_X3) (m0 := n_X3) (host := "ExamMarker") (kTab_at (pc := 106) tX1_init_ok 70 rfl) (by decide +kernel) (inT1 70 (by decide +kernel) rfl) mi_X3 rfl rfl (Nat.le_of_ble_eq_true rfl) (Nat.le_of_ble_eq_true rfl) hb rfl (fun pre0 μ0 b0 h0 z0 => ct_X3 X h0 z0) (zb_put (zb_mono zn_X7 (Nat.le_of_ble_eq_true rfl)) (Nat.le_of_ble_eq_true rfl)) rfl rfl rfl ?_
  refine C_putR (md := mX1_init) (pc := 109) (suf' := ([.inr (1, (rfu (rfu (rfu (rfu (rfu (rfu (rfu (rfu (fun _ => none) 0 (b + 1)) 1 (b + 2)) 2 (b + 3)) 3 (b + 4)) 4 (b + 5)) 5 (b + 6)) 6 (b + 7)) 7 (b + 11))), .inl (0, 5, fun _ => none), .inl (0, 5, fun _ => none), .inl (0, 4, fun _ => none), .inl (0, 8, fun _ => none), .inl (0, 8, fun _ => none), .inl (0, 4, fun _ => none)] ++ (kN_X7 (b + 7) ++ (kN_X3 (b + 11))))) (rf := (rfu (rfu (rfu (rfu (rfu (rfu (rfu (fun _ => none) 0 (b + 1)) 1 (b + 2)) 2 (b + 3)) 3 (b + 4)) 4 (b + 5)) 5 (b + 6)) 6 (b + 7))) (ci := 1) (k := 7) (i := 0) (r := b + 11) (kTab_at (pc := 109) tX1_init_ok 71 rfl) fl_X1_40 rfl (hdc_X1 7 (by decide)) rfl hb rfl rfl ?_
  refine K_aload_n (md := mX1_init) (pc := 112) 0 (kTab_at (pc := 112) tX1_init_ok 72 rfl) rfl ?_
  refine C_new (md := mX1_init) (pc := 113) (c := (putM (putM (up2 (up2 (up2 (up2 (up2 (up2 (up2 (up2 (up2 (fun _ _ => 0) 2 0 1) 2 1 6) 2 2 3) 2 3 2) 2 4 30) 3 0 70) 3 1 60) 3 2 50) 3 3 40) 7 n_X7) 11 n_X3)) (suf' := (([.inr (1, (rfu (rfu (rfu (rfu (rfu (rfu (rfu (rfu (fun _ => none) 0 (b + 1)) 1 (b + 2)) 2 (b + 3)) 3 (b + 4)) 4 (b + 5)) 5 (b + 6)) 6 (b + 7)) 7 (b + 11))), .inl (0, 5, fun _ => none), .inl (0, 5, fun _ => none), .inl (0, 4, fun _ => none), .inl (0, 8, fun _ => none), .inl (0, 8, fun _ => none), .inl (0, 4, fun _ => none)] ++ (kN_X7 (b + 7) ++ (kN_X3 (b + 11)))) ++ [.inr (2, fun _ => none)])) (ci := 2) (C := RX2) (T := TX2) (N := 3) (j := 16) (kTab_at (pc := 113) tX1_init_ok 73 rfl) cf_X2 (inT1 98 (by decide +kernel) rfl) (inT1 99 (by decide +kernel) rfl) (inT1 6 (by decide +kernel) rfl) (by decide) hb rfl (zb_put (zb_mono zn_X3 (Nat.le_of_ble_eq_true rfl)) (Nat.le_of_ble_eq_true rfl)) rfl ?_
  refine K_dup (md := mX1_init) (pc := 116) (kTab_at (pc := 116) tX1_init_ok 74 rfl) rfl ?_
  refine C_callIN (md := mX1_init) (pc := 117) (d := 2) (st := [.ref (X.1 + (b + 16)), .ref (X.1 + (b + 0))]) (c := (putM (putM (up2 (up2 (up2 (up2 (up2 (up2 (up2 (up2 (up2 (fun _ _ => 0) 2 0 1) 2 1 6) 2 2 3) 2 3 2) 2 4 30) 3 0 70) 3 1 60) 3 2 50) 3 3 40) 7 n_X7) 11 n_X3)) (suf := ([.inr (1, (rfu (rfu (rfu (rfu (rfu (rfu (rfu (rfu (fun _ => none) 0 (b + 1)) 1 (b + 2)) 2 (b + 3)) 3 (b + 4)) 4 (b + 5)) 5 (b + 6)) 6 (b + 7)) 7 (b + 11))), .inl (0, 5, fun _ => none), .inl (0, 5, fun _ => none), .inl (0, 4, fun _ => none), .inl (0, 8, fun _ => none), .inl (0, 8, fun _ => none), .inl (0, 4, fun _ => none)] ++ (kN_X7 (b + 7) ++ (kN_X3 (b + 11))))) (suf' := ([.inr (1, (rfu (rfu (rfu (rfu (rfu (rfu (rfu (rfu (fun _ => none) 0 (b + 1)) 1 (b + 2)) 2 (b + 3)) 3 (b + 4)) 4 (b + 5)) 5 (b + 6)) 6 (b + 7)) 7 (b + 11))), .inl (0, 5, fun _ => none), .inl (0, 5, fun _ => none), .inl (0, 4, fun _ => none), .inl (0, 8, fun _ => none), .inl (0, 8, fun _ => none), .inl (0, 4, fun _ => none)] ++ (kN_X7 (b + 7) ++ (kN_X3 (b + 11) ++ (kN_X2 (b + 16)))))) (mdY := mX2_init) (d' := 1) (mcY := 2) (msY := 10) (j := 16) (ks := kN_X2) (m0 := n_X2) (host := "ExamMarker") (kTab_at (pc := 117) tX1_init_ok 75 rfl) (by decide +kernel) (inT1 101 (by decide +kernel) rfl) mi_X2 rfl rfl (Nat.le_of_ble_eq_true rfl) (Nat.le_of_ble_eq_true rfl) hb rfl (fun pre0 μ0 b0 h0 z0 => ct_X2 X h0 z0) (zb_put (zb_mono zn_X3 (Nat.le_of_ble_eq_true rfl)) (Nat.le_of_ble_eq_true rfl)) rfl rfl rfl ?_
  refine C_putR (md := mX1_init) (pc := 120) (suf' := ([.inr (1, (rfu (rfu (rfu (rfu (rfu (rfu (rfu (rfu (rfu (fun _ => none) 0 (b + 1)) 1 (b + 2)) 2 (b + 3)) 3 (b + 4)) 4 (b + 5)) 5 (b + 6)) 6 (b + 7)) 7 (b + 11)) 8 (b + 16))), .inl (0, 5, fun _ => none), .inl (0, 5, fun _ => none), .inl (0, 4, fun _ => none), .inl (0, 8, fun _ => none), .inl (0, 8, fun _ => none), .inl (0, 4, fun _ => none)] ++ (kN_X7 (b + 7) ++ (kN_X3 (b + 11) ++ (kN_X2 (b + 16)))))) (rf := (rfu (rfu (rfu (rfu (rfu (rfu (rfu (rfu (fun _ => none) 0 (b + 1)) 1 (b + 2)) 2 (b + 3)) 3 (b + 4)) 4 (b + 5)) 5 (b + 6)) 6 (b + 7)) 7 (b + 11))) (ci := 1) (k := 8) (i := 0) (r := b + 16) (kTab_at (pc := 120) tX1_init_ok 76 rfl) fl_X1_47 rfl (hdc_X1 8 (by decide)) rfl hb rfl rfl ?_
  refine K_aload_n (md := mX1_init) (pc := 123) 0 (kTab_at (pc := 123) tX1_init_ok 77 rfl) rfl ?_
  refine C_new (md := mX1_init) (pc := 124) (c := (putM (putM (putM (up2 (up2 (up2 (up2 (up2 (up2 (up2 (up2 (up2 (fun _ _ => 0) 2 0 1) 2 1 6) 2 2 3) 2 3 2) 2 4 30) 3 0 70) 3 1 60) 3 2 50) 3 3 40) 7 n_X7) 11 n_X3) 16 n_X2)) (suf' := (([.inr (1, (rfu (rfu (rfu (rfu (rfu (rfu (rfu (rfu (rfu (fun _ => none) 0 (b + 1)) 1 (b + 2)) 2 (b + 3)) 3 (b + 4)) 4 (b + 5)) 5 (b + 6)) 6 (b + 7)) 7 (b + 11)) 8 (b + 16))), .inl (0, 5, fun _ => none), .inl (0, 5, fun _ => none), .inl (0, 4, fun _ => none), .inl (0, 8, fun _ => none), .inl (0, 8, fun _ => none), .inl (0, 4, fun _ => none)] ++ (kN_X7 (b + 7) ++ (kN_X3 (b + 11) ++ (kN_X2 (b + 16))))) ++ [.inr (0, fun _ => none)])) (ci := 0) (C := RX0) (T := TX0) (N := 4) (j := 19) (kTab_at (pc := 124) tX1_init_ok 78 rfl) cf_X0 (inT1 115 (by decide +kernel) rfl) (inT1 116 (by decide +kernel) rfl) (inT1 7 (by decide +kernel) rfl) (by decide) hb rfl (zb_put (zb_mono zn_X2 (Nat.le_of_ble_eq_true rfl)) (Nat.le_of_ble_eq_true rfl)) rfl ?_
  refine K_dup (md := mX1_init) (pc := 127) (kTab_at (pc := 127) tX1_init_ok 79 rfl) rfl ?_
  refine C_callIN (md := mX1_init) (pc := 128) (d := 2) (st := [.ref (X.1 + (b + 19)), .ref (X.1 + (b + 0))]) (c := (putM (putM (putM (up2 (up2 (up2 (up2 (up2 (up2 (up2 (up2 (up2 (fun _ _ => 0) 2 0 1) 2 1 6) 2 2 3) 2 3 2) 2 4 30) 3 0 70) 3 1 60) 3 2 50) 3 3 40) 7 n_X7) 11 n_X3) 16 n_X2)) (suf := ([.inr (1, (rfu (rfu (rfu (rfu (rfu (rfu (rfu (rfu (rfu (fun _ => none) 0 (b + 1)) 1 (b + 2)) 2 (b + 3)) 3 (b + 4)) 4 (b + 5)) 5 (b + 6)) 6 (b + 7)) 7 (b + 11)) 8 (b + 16))), .inl (0, 5, fun _ => none), .inl (0, 5, fun _ => none), .inl (0, 4, fun _ => none), .inl (0, 8, fun _ => none), .inl (0, 8, fun _ => none), .inl (0, 4, fun _ => none)] ++ (kN_X7 (b + 7) ++ (kN_X3 (b + 11) ++ (kN_X2 (b + 16)))))) (suf' := ([.inr (1, (rfu (rfu (rfu (rfu (rfu (rfu (rfu (rfu (rfu (fun _ => none) 0 (b + 1)) 1 (b + 2)) 2 (b + 3)) 3 (b + 4)) 4 (b + 5)) 5 (b + 6)) 6 (b + 7)) 7 (b + 11)) 8 (b + 16))), .inl (0, 5, fun _ => none), .inl (0, 5, fun _ => none), .inl (0, 4, fun _ => none), .inl (0, 8, fun _ => none), .inl (0, 8, fun _ => none), .inl (0, 4, fun _ => none)] ++ (kN_X7 (b + 7) ++ (kN_X3 (b + 11) ++ (kN_X2 (b + 16) ++ (kN_X0 (b + 19))))))) (mdY := mX0_init) (d' := 1) (mcY := 3) (msY := 120) (j := 19) (ks := kN_X0) (m0 := n_X0) (host := "ExamMarker") (kTab_at (pc := 128) tX1_init_ok 80 rfl) (by decide +kernel) (inT1 118 (by decide +kernel) rfl) mi_X0 rfl rfl (Nat.le_of_ble_eq_true rfl) (Nat.le_of_ble_eq_true rfl) hb rfl (fun pre0 μ0 b0 h0 z0 => ct_X0 X h0 z0) (zb_put (zb_mono zn_X2 (Nat.le_of_ble_eq_true rfl)) (Nat.le_of_ble_eq_true rfl)) rfl rfl rfl ?_
  refine C_putR (md := mX1_init) (pc := 131) (suf' := ([.inr (1, (rfu (rfu (rfu (rfu (rfu (rfu (rfu (rfu (rfu (rfu (fun _ => none) 0 (b + 1)) 1 (b + 2)) 2 (b + 3)) 3 (b + 4)) 4 (b + 5)) 5 (b + 6)) 6 (b + 7)) 7 (b + 11)) 8 (b + 16)) 9 (b + 19))), .inl (0, 5, fun _ => none), .inl (0, 5, fun _ => none), .inl (0, 4, fun _ => none), .inl (0, 8, fun _ => none), .inl (0, 8, fun _ => none), .inl (0, 4, fun _ => none)] ++ (kN_X7 (b + 7) ++ (kN_X3 (b + 11) ++ (kN_X2 (b + 16) ++ (kN_X0 (b + 19))))))) (rf := (rfu (rfu (rfu (rfu (rfu (rfu (rfu (rfu (rfu (fun _ => none) 0 (b + 1)) 1 (b + 2)) 2 (b + 3)) 3 (b + 4)) 4 (b + 5)) 5 (b + 6)) 6 (b + 7)) 7 (b + 11)) 8 (b + 16))) (ci := 1) (k := 9) (i := 0) (r := b + 19) (kTab_at (pc := 131) tX1_init_ok 81 rfl) fl_X1_54 rfl (hdc_X1 9 (by decide)) rfl hb rfl rfl ?_
  refine K_aload_n (md := mX1_init) (pc := 134) 0 (kTab_at (pc := 134) tX1_init_ok 82 rfl) rfl ?_
  refine K_iconst (md := mX1_init) (pc := 135) (x := 3) (kTab_at (pc := 135) tX1_init_ok 83 rfl) rfl ?_
  refine C_newarr (md := mX1_init) (pc := 136) (c := (putM (putM (putM (putM (up2 (up2 (up2 (up2 (up2 (up2 (up2 (up2 (up2 (fun _ _ => 0) 2 0 1) 2 1 6) 2 2 3) 2 3 2) 2 4 30) 3 0 70) 3 1 60) 3 2 50) 3 3 40) 7 n_X7) 11 n_X3) 16 n_X2) 19 n_X0)) (suf' := ([.inr (1, (rfu (rfu (rfu (rfu (rfu (rfu (rfu (rfu (rfu (rfu (fun _ => none) 0 (b + 1)) 1 (b + 2)) 2 (b + 3)) 3 (b + 4)) 4 (b + 5)) 5 (b + 6)) 6 (b + 7)) 7 (b + 11)) 8 (b + 16)) 9 (b + 19))), .inl (0, 5, fun _ => none), .inl (0, 5, fun _ => none), .inl (0, 4, fun _ => none), .inl (0, 8, fun _ => none), .inl (0, 8, fun _ => none), .inl (0, 4, fun _ => none)] ++ (kN_X7 (b + 7) ++ (kN_X3 (b + 11) ++ (kN_X2 (b + 16) ++ (kN_X0 (b + 19) ++ ([.inl (0, 3, fun _ => none)]))))))) (t := 0) (n := 3) (j := 23) (ty := .int) (kTab_at (pc := 136) tX1_init_ok 84 rfl) (inT1 66 (by decide +kernel) rfl) rfl (by decide) (Nat.le_of_ble_eq_true rfl) hb rfl (zb_put (zb_mono zn_X0 (Nat.le_of_ble_eq_true rfl)) (Nat.le_of_ble_eq_true rfl)) rfl ?_
  refine C_putR (md := mX1_init) (pc := 138) (suf' := ([.inr (1, (rfu (rfu (rfu (rfu (rfu (rfu (rfu (rfu (rfu (rfu (rfu (fun _ => none) 0 (b + 1)) 1 (b + 2)) 2 (b + 3)) 3 (b + 4)) 4 (b + 5)) 5 (b + 6)) 6 (b + 7)) 7 (b + 11)) 8 (b + 16)) 9 (b + 19)) 11 (b + 23))), .inl (0, 5, fun _ => none), .inl (0, 5, fun _ => none), .inl (0, 4, fun _ => none), .inl (0, 8, fun _ => none), .inl (0, 8, fun _ => none), .inl (0, 4, fun _ => none)] ++ (kN_X7 (b + 7) ++ (kN_X3 (b + 11) ++ (kN_X2 (b + 16) ++ (kN_X0 (b + 19) ++ ([.inl (0, 3, fun _ => none)]))))))) (rf := (rfu (rfu (rfu (rfu (rfu (rfu (rfu (rfu (rfu (rfu (fun _ => none) 0 (b + 1)) 1 (b + 2)) 2 (b + 3)) 3 (b + 4)) 4 (b + 5)) 5 (b + 6)) 6 (b + 7)) 7 (b + 11)) 8 (b + 16)) 9 (b + 19))) (ci := 1) (k := 11) (i := 0) (r := b + 23) (kTab_at (pc := 138) tX1_init_ok 85 rfl) fl_X1_58 rfl (hdc_X1 11 (by decide)) rfl hb rfl rfl ?_
  refine K_aload_n (md := mX1_init) (pc := 141) 0 (kTab_at (pc := 141) tX1_init_ok 86 rfl) rfl ?_
  refine K_getR (md := mX1_init) (pc := 142) (a := b + 0) (b := b + 1) (ci := 1) (k := 0) (kTab_at (pc := 142) tX1_init_ok 87 rfl) fl_X1_9 ((suf_at hb).trans rfl) rfl rfl ?_
  refine K_bipush (md := mX1_init) (pc := 145) (x := 20) (kTab_at (pc := 145) tX1_init_ok 88 rfl) rfl ?_
  refine C_fill (md := mX1_init) (pc := 147) (d := 2) (st := []) (i := 1) (n := 5) (x := 20) (kTab_at (pc := 147) tX1_init_ok 89 rfl) ms_X1_61 (Nat.le_of_ble_eq_true rfl) (Nat.le_of_ble_eq_true rfl) rfl hb rfl (by decide) rfl ?_
  exact K_vret (md := mX1_init) (pc := 150) (kTab_at (pc := 150) tX1_init_ok 90 rfl) rfl ⟨rfl, rfl, rfl⟩
theorem mi_X1 : kMf mX1_init 0 := ⟨inT1 44 (by decide +kernel) rfl, inT1 2 (by decide +kernel) rfl, by decide +kernel, by decide +kernel⟩
def kN_X5 (b : Nat) : List Kd := [.inr (5, (rfu (fun _ => none) 0 (b + 1))), .inl (0, 5, fun _ => none)]
def n_X5 : Mu := (up2 (fun _ _ => 0) 0 2 1)
theorem zn_X5 : zb n_X5 2 := (zb_up (zb_0 _) (Nat.le_of_ble_eq_true rfl))
theorem hdc_X5 (k : Nat) (hk : k < 6) : ∀ (Cn : String) (Tn : u_T) (N : Nat), kCl[5]? = some (Cn, Tn, N) → (Tn k).1 = mX5_init.1.cls := by
  intro Cn Tn N h
  cases h
  revert k
  decide
set_option maxRecDepth 100000 in
theorem ct_X5 (X : kX) {pre : List Kd} {μ : Mu} {b : Nat} (hb : pre.length = b) (hz : zb μ b) : Ct X mX5_init 1 (pre ++ [.inr (5, fun _ => none)]) true μ 1 5 [.ref (X.1 + b)] (poN (pre ++ kN_X5 b) (putM μ b n_X5)) := by
  refine ct_of (by decide +kernel) rfl (Nat.le_of_ble_eq_true rfl) ?_
  rw [← putM_self hz]
  rw [show putM (putM μ b fun _ _ => 0) b n_X5 = putM μ b n_X5 by rw [putM_self hz]]
  show KJ X mX5_init 1 true _ (pre ++ [.inr (5, fun _ => none)]) 1 5 0 [(0, .ref (X.1 + (b + 0)))] [] (putM μ b (fun _ _ => 0))
  refine K_aload_n (md := mX5_init) (pc := 0) 0 (kTab_at (pc := 0) tX5_init_ok 0 rfl) rfl ?_
  refine K_objInit (md := mX5_init) (pc := 1) (b := b + 0) (kTab_at (pc := 1) tX5_init_ok 1 rfl) (inT2 63 (by decide +kernel) rfl) (inT1 38 (by decide +kernel) rfl) (inT1 39 (by decide +kernel) rfl) (Nat.le_of_ble_eq_true rfl) ?_
  refine K_aload_n (md := mX5_init) (pc := 4) 0 (kTab_at (pc := 4) tX5_init_ok 2 rfl) rfl ?_
  refine K_iconst (md := mX5_init) (pc := 5) (x := 5) (kTab_at (pc := 5) tX5_init_ok 3 rfl) rfl ?_
  refine C_newarr (md := mX5_init) (pc := 6) (c := (fun _ _ => 0)) (suf' := ([.inr (5, (fun _ => none)), .inl (0, 5, fun _ => none)])) (t := 0) (n := 5) (j := 1) (ty := .int) (kTab_at (pc := 6) tX5_init_ok 4 rfl) (inT1 66 (by decide +kernel) rfl) rfl (by decide) (Nat.le_of_ble_eq_true rfl) hb rfl (zb_0 _) rfl ?_
  refine C_putR (md := mX5_init) (pc := 8) (suf' := ([.inr (5, (rfu (fun _ => none) 0 (b + 1))), .inl (0, 5, fun _ => none)])) (rf := (fun _ => none)) (ci := 5) (k := 0) (i := 0) (r := b + 1) (kTab_at (pc := 8) tX5_init_ok 5 rfl) fl_X5_9 rfl (hdc_X5 0 (by decide)) rfl hb rfl rfl ?_
  refine K_aload_n (md := mX5_init) (pc := 11) 0 (kTab_at (pc := 11) tX5_init_ok 6 rfl) rfl ?_
  refine K_lconst (md := mX5_init) (pc := 12) (x := 1) (kTab_at (pc := 12) tX5_init_ok 7 rfl) rfl ?_
  refine C_putL (md := mX5_init) (pc := 13) (ci := 5) (k := 2) (i := 0) (x := 1) (kTab_at (pc := 13) tX5_init_ok 8 rfl) fl_X5_15 rfl hb rfl rfl ?_
  exact K_vret (md := mX5_init) (pc := 16) (kTab_at (pc := 16) tX5_init_ok 9 rfl) rfl ⟨rfl, rfl, rfl⟩
theorem mi_X5 : kMf mX5_init 0 := ⟨inT2 62 (by decide +kernel) rfl, inT1 12 (by decide +kernel) rfl, by decide +kernel, by decide +kernel⟩
def kN_X9 (b : Nat) : List Kd := [.inr (9, (rfu (rfu (rfu (rfu (fun _ => none) 0 (b + 1)) 1 (b + 2)) 2 (b + 3)) 3 (b + 4))), .inl (0, 5, fun _ => none), .inl (0, 5, fun _ => none), .inl (0, 5, fun _ => none), .inl (0, 5, fun _ => none)]
def n_X9 : Mu := (fun _ _ => 0)
theorem zn_X9 : zb n_X9 5 := (zb_0 _)
theorem hdc_X9 (k : Nat) (hk : k < 4) : ∀ (Cn : String) (Tn : u_T) (N : Nat), kCl[9]? = some (Cn, Tn, N) → (Tn k).1 = mX9_init.1.cls := by
  intro Cn Tn N h
  cases h
  revert k
  decide
set_option maxRecDepth 100000 in
theorem ct_X9 (X : kX) {pre : List Kd} {μ : Mu} {b : Nat} (hb : pre.length = b) (hz : zb μ b) : Ct X mX9_init 1 (pre ++ [.inr (9, fun _ => none)]) true μ 4 20 [.ref (X.1 + b)] (poN (pre ++ kN_X9 b) (putM μ b n_X9)) := by
  refine ct_of (by decide +kernel) rfl (Nat.le_of_ble_eq_true rfl) ?_
  rw [← putM_self hz]
  rw [show putM (putM μ b fun _ _ => 0) b n_X9 = putM μ b n_X9 by rw [putM_self hz]]
  show KJ X mX9_init 1 true _ (pre ++ [.inr (9, fun _ => none)]) 4 20 0 [(0, .ref (X.1 + (b + 0)))] [] (putM μ b (fun _ _ => 0))
  refine K_aload_n (md := mX9_init) (pc := 0) 0 (kTab_at (pc := 0) tX9_init_ok 0 rfl) rfl ?_
  refine K_objInit (md := mX9_init) (pc := 1) (b := b + 0) (kTab_at (pc := 1) tX9_init_ok 1 rfl) (inT2 45 (by decide +kernel) rfl) (inT1 38 (by decide +kernel) rfl) (inT1 39 (by decide +kernel) rfl) (Nat.le_of_ble_eq_true rfl) ?_
  refine K_aload_n (md := mX9_init) (pc := 4) 0 (kTab_at (pc := 4) tX9_init_ok 2 rfl) rfl ?_
  refine K_iconst (md := mX9_init) (pc := 5) (x := 5) (kTab_at (pc := 5) tX9_init_ok 3 rfl) rfl ?_
  refine C_newarr (md := mX9_init) (pc := 6) (c := (fun _ _ => 0)) (suf' := ([.inr (9, (fun _ => none)), .inl (0, 5, fun _ => none)])) (t := 0) (n := 5) (j := 1) (ty := .int) (kTab_at (pc := 6) tX9_init_ok 4 rfl) (inT1 66 (by decide +kernel) rfl) rfl (by decide) (Nat.le_of_ble_eq_true rfl) hb rfl (zb_0 _) rfl ?_
  refine C_putR (md := mX9_init) (pc := 8) (suf' := ([.inr (9, (rfu (fun _ => none) 0 (b + 1))), .inl (0, 5, fun _ => none)])) (rf := (fun _ => none)) (ci := 9) (k := 0) (i := 0) (r := b + 1) (kTab_at (pc := 8) tX9_init_ok 5 rfl) fl_X9_9 rfl (hdc_X9 0 (by decide)) rfl hb rfl rfl ?_
  refine K_aload_n (md := mX9_init) (pc := 11) 0 (kTab_at (pc := 11) tX9_init_ok 6 rfl) rfl ?_
  refine K_iconst (md := mX9_init) (pc := 12) (x := 5) (kTab_at (pc := 12) tX9_init_ok 7 rfl) rfl ?_
  refine C_newarr (md := mX9_init) (pc := 13) (c := (fun _ _ => 0)) (suf' := ([.inr (9, (rfu (fun _ => none) 0 (b + 1))), .inl (0, 5, fun _ => none), .inl (0, 5, fun _ => none)])) (t := 0) (n := 5) (j := 2) (ty := .int) (kTab_at (pc := 13) tX9_init_ok 8 rfl) (inT1 66 (by decide +kernel) rfl) rfl (by decide) (Nat.le_of_ble_eq_true rfl) hb rfl (zb_0 _) rfl ?_
  refine C_putR (md := mX9_init) (pc := 15) (suf' := ([.inr (9, (rfu (rfu (fun _ => none) 0 (b + 1)) 1 (b + 2))), .inl (0, 5, fun _ => none), .inl (0, 5, fun _ => none)])) (rf := (rfu (fun _ => none) 0 (b + 1))) (ci := 9) (k := 1) (i := 0) (r := b + 2) (kTab_at (pc := 15) tX9_init_ok 9 rfl) fl_X9_15 rfl (hdc_X9 1 (by decide)) rfl hb rfl rfl ?_
  refine K_aload_n (md := mX9_init) (pc := 18) 0 (kTab_at (pc := 18) tX9_init_ok 10 rfl) rfl ?_
  refine K_iconst (md := mX9_init) (pc := 19) (x := 5) (kTab_at (pc := 19) tX9_init_ok 11 rfl) rfl ?_
  refine C_newarr (md := mX9_init) (pc := 20) (c := (fun _ _ => 0)) (suf' := ([.inr (9, (rfu (rfu (fun _ => none) 0 (b + 1)) 1 (b + 2))), .inl (0, 5, fun _ => none), .inl (0, 5, fun _ => none), .inl (0, 5, fun _ => none)])) (t := 0) (n := 5) (j := 3) (ty := .int) (kTab_at (pc := 20) tX9_init_ok 12 rfl) (inT1 66 (by decide +kernel) rfl) rfl (by decide) (Nat.le_of_ble_eq_true rfl) hb rfl (zb_0 _) rfl ?_
  refine C_putR (md := mX9_init) (pc := 22) (suf' := ([.inr (9, (rfu (rfu (rfu (fun _ => none) 0 (b + 1)) 1 (b + 2)) 2 (b + 3))), .inl (0, 5, fun _ => none), .inl (0, 5, fun _ => none), .inl (0, 5, fun _ => none)])) (rf := (rfu (rfu (fun _ => none) 0 (b + 1)) 1 (b + 2))) (ci := 9) (k := 2) (i := 0) (r := b + 3) (kTab_at (pc := 22) tX9_init_ok 13 rfl) fl_X9_18 rfl (hdc_X9 2 (by decide)) rfl hb rfl rfl ?_
  refine K_aload_n (md := mX9_init) (pc := 25) 0 (kTab_at (pc := 25) tX9_init_ok 14 rfl) rfl ?_
  refine K_iconst (md := mX9_init) (pc := 26) (x := 5) (kTab_at (pc := 26) tX9_init_ok 15 rfl) rfl ?_
  refine C_newarr (md := mX9_init) (pc := 27) (c := (fun _ _ => 0)) (suf' := ([.inr (9, (rfu (rfu (rfu (fun _ => none) 0 (b + 1)) 1 (b + 2)) 2 (b + 3))), .inl (0, 5, fun _ => none), .inl (0, 5, fun _ => none), .inl (0, 5, fun _ => none), .inl (0, 5, fun _ => none)])) (t := 0) (n := 5) (j := 4) (ty := .int) (kTab_at (pc := 27) tX9_init_ok 16 rfl) (inT1 66 (by decide +kernel) rfl) rfl (by decide) (Nat.le_of_ble_eq_true rfl) hb rfl (zb_0 _) rfl ?_
  refine C_putR (md := mX9_init) (pc := 29) (suf' := ([.inr (9, (rfu (rfu (rfu (rfu (fun _ => none) 0 (b + 1)) 1 (b + 2)) 2 (b + 3)) 3 (b + 4))), .inl (0, 5, fun _ => none), .inl (0, 5, fun _ => none), .inl (0, 5, fun _ => none), .inl (0, 5, fun _ => none)])) (rf := (rfu (rfu (rfu (fun _ => none) 0 (b + 1)) 1 (b + 2)) 2 (b + 3))) (ci := 9) (k := 3) (i := 0) (r := b + 4) (kTab_at (pc := 29) tX9_init_ok 17 rfl) fl_X9_21 rfl (hdc_X9 3 (by decide)) rfl hb rfl rfl ?_
  exact K_vret (md := mX9_init) (pc := 32) (kTab_at (pc := 32) tX9_init_ok 18 rfl) rfl ⟨rfl, rfl, rfl⟩
theorem mi_X9 : kMf mX9_init 0 := ⟨inT2 44 (by decide +kernel) rfl, inT1 11 (by decide +kernel) rfl, by decide +kernel, by decide +kernel⟩
def kN_X8 (b : Nat) : List Kd := [.inr (8, (rfu (rfu (rfu (fun _ => none) 0 (b + 1)) 7 (b + 2)) 8 (b + 3))), .inl (1, 60, fun _ => none), .inl (0, 20, fun _ => none), .inl (0, 20, fun _ => none)]
def n_X8 : Mu := (up2 (fun _ _ => 0) 0 3 (-1))
theorem zn_X8 : zb n_X8 4 := (zb_up (zb_0 _) (Nat.le_of_ble_eq_true rfl))
theorem hdc_X8 (k : Nat) (hk : k < 9) : ∀ (Cn : String) (Tn : u_T) (N : Nat), kCl[8]? = some (Cn, Tn, N) → (Tn k).1 = mX8_init.1.cls := by
  intro Cn Tn N h
  cases h
  revert k
  decide
set_option maxRecDepth 100000 in
theorem ct_X8 (X : kX) {pre : List Kd} {μ : Mu} {b : Nat} (hb : pre.length = b) (hz : zb μ b) : Ct X mX8_init 1 (pre ++ [.inr (8, fun _ => none)]) true μ 3 100 [.ref (X.1 + b)] (poN (pre ++ kN_X8 b) (putM μ b n_X8)) := by
  refine ct_of (by decide +kernel) rfl (Nat.le_of_ble_eq_true rfl) ?_
  rw [← putM_self hz]
  rw [show putM (putM μ b fun _ _ => 0) b n_X8 = putM μ b n_X8 by rw [putM_self hz]]
  show KJ X mX8_init 1 true _ (pre ++ [.inr (8, fun _ => none)]) 3 100 0 [(0, .ref (X.1 + (b + 0)))] [] (putM μ b (fun _ _ => 0))
  refine K_aload_n (md := mX8_init) (pc := 0) 0 (kTab_at (pc := 0) tX8_init_ok 0 rfl) rfl ?_
  refine K_objInit (md := mX8_init) (pc := 1) (b := b + 0) (kTab_at (pc := 1) tX8_init_ok 1 rfl) (inT1 222 (by decide +kernel) rfl) (inT1 38 (by decide +kernel) rfl) (inT1 39 (by decide +kernel) rfl) (Nat.le_of_ble_eq_true rfl) ?_
  refine K_aload_n (md := mX8_init) (pc := 4) 0 (kTab_at (pc := 4) tX8_init_ok 2 rfl) rfl ?_
  refine K_bipush (md := mX8_init) (pc := 5) (x := 60) (kTab_at (pc := 5) tX8_init_ok 3 rfl) rfl ?_
  refine C_newarr (md := mX8_init) (pc := 7) (c := (fun _ _ => 0)) (suf' := ([.inr (8, (fun _ => none)), .inl (1, 60, fun _ => none)])) (t := 1) (n := 60) (j := 1) (ty := .char) (kTab_at (pc := 7) tX8_init_ok 4 rfl) (inT2 18 (by decide +kernel) rfl) rfl (by decide) (Nat.le_of_ble_eq_true rfl) hb rfl (zb_0 _) rfl ?_
  refine C_putR (md := mX8_init) (pc := 9) (suf' := ([.inr (8, (rfu (fun _ => none) 0 (b + 1))), .inl (1, 60, fun _ => none)])) (rf := (fun _ => none)) (ci := 8) (k := 0) (i := 0) (r := b + 1) (kTab_at (pc := 9) tX8_init_ok 5 rfl) fl_X8_11 rfl (hdc_X8 0 (by decide)) rfl hb rfl rfl ?_
  refine K_aload_n (md := mX8_init) (pc := 12) 0 (kTab_at (pc := 12) tX8_init_ok 6 rfl) rfl ?_
  refine K_iconst (md := mX8_init) (pc := 13) (x := (-1)) (kTab_at (pc := 13) tX8_init_ok 7 rfl) rfl ?_
  refine C_putI (md := mX8_init) (pc := 14) (ci := 8) (k := 3) (i := 0) (x := (-1)) (kTab_at (pc := 14) tX8_init_ok 8 rfl) fl_X8_15 rfl hb rfl rfl ?_
  refine K_aload_n (md := mX8_init) (pc := 17) 0 (kTab_at (pc := 17) tX8_init_ok 9 rfl) rfl ?_
  refine K_bipush (md := mX8_init) (pc := 18) (x := 20) (kTab_at (pc := 18) tX8_init_ok 10 rfl) rfl ?_
  refine C_newarr (md := mX8_init) (pc := 20) (c := (up2 (fun _ _ => 0) 0 3 (-1))) (suf' := ([.inr (8, (rfu (fun _ => none) 0 (b + 1))), .inl (1, 60, fun _ => none), .inl (0, 20, fun _ => none)])) (t := 0) (n := 20) (j := 2) (ty := .int) (kTab_at (pc := 20) tX8_init_ok 11 rfl) (inT1 66 (by decide +kernel) rfl) rfl (by decide) (Nat.le_of_ble_eq_true rfl) hb rfl (zb_up (zb_0 _) (Nat.le_of_ble_eq_true rfl)) rfl ?_
  refine C_putR (md := mX8_init) (pc := 22) (suf' := ([.inr (8, (rfu (rfu (fun _ => none) 0 (b + 1)) 7 (b + 2))), .inl (1, 60, fun _ => none), .inl (0, 20, fun _ => none)])) (rf := (rfu (fun _ => none) 0 (b + 1))) (ci := 8) (k := 7) (i := 0) (r := b + 2) (kTab_at (pc := 22) tX8_init_ok 12 rfl) fl_X8_19 rfl (hdc_X8 7 (by decide)) rfl hb rfl rfl ?_
  refine K_aload_n (md := mX8_init) (pc := 25) 0 (kTab_at (pc := 25) tX8_init_ok 13 rfl) rfl ?_
  refine K_bipush (md := mX8_init) (pc := 26) (x := 20) (kTab_at (pc := 26) tX8_init_ok 14 rfl) rfl ?_
  refine C_newarr (md := mX8_init) (pc := 28) (c := (up2 (fun _ _ => 0) 0 3 (-1))) (suf' := ([.inr (8, (rfu (rfu (fun _ => none) 0 (b + 1)) 7 (b + 2))), .inl (1, 60, fun _ => none), .inl (0, 20, fun _ => none), .inl (0, 20, fun _ => none)])) (t := 0) (n := 20) (j := 3) (ty := .int) (kTab_at (pc := 28) tX8_init_ok 15 rfl) (inT1 66 (by decide +kernel) rfl) rfl (by decide) (Nat.le_of_ble_eq_true rfl) hb rfl (zb_up (zb_0 _) (Nat.le_of_ble_eq_true rfl)) rfl ?_
  refine C_putR (md := mX8_init) (pc := 30) (suf' := ([.inr (8, (rfu (rfu (rfu (fun _ => none) 0 (b + 1)) 7 (b + 2)) 8 (b + 3))), .inl (1, 60, fun _ => none), .inl (0, 20, fun _ => none), .inl (0, 20, fun _ => none)])) (rf := (rfu (rfu (fun _ => none) 0 (b + 1)) 7 (b + 2))) (ci := 8) (k := 8) (i := 0) (r := b + 3) (kTab_at (pc := 30) tX8_init_ok 16 rfl) fl_X8_23 rfl (hdc_X8 8 (by decide)) rfl hb rfl rfl ?_
  exact K_vret (md := mX8_init) (pc := 33) (kTab_at (pc := 33) tX8_init_ok 17 rfl) rfl ⟨rfl, rfl, rfl⟩
theorem mi_X8 : kMf mX8_init 0 := ⟨inT1 221 (by decide +kernel) rfl, inT1 9 (by decide +kernel) rfl, by decide +kernel, by decide +kernel⟩
def kN_X6 (b : Nat) : List Kd := [.inr (6, (rfu (rfu (fun _ => none) 0 (b + 1)) 1 (b + 2))), .inl (0, 2, fun _ => none), .inl (0, 2, fun _ => none)]
def n_X6 : Mu := (fun _ _ => 0)
theorem zn_X6 : zb n_X6 3 := (zb_0 _)
theorem hdc_X6 (k : Nat) (hk : k < 3) : ∀ (Cn : String) (Tn : u_T) (N : Nat), kCl[6]? = some (Cn, Tn, N) → (Tn k).1 = mX6_init.1.cls := by
  intro Cn Tn N h
  cases h
  revert k
  decide
set_option maxRecDepth 100000 in
theorem ct_X6 (X : kX) {pre : List Kd} {μ : Mu} {b : Nat} (hb : pre.length = b) (hz : zb μ b) : Ct X mX6_init 1 (pre ++ [.inr (6, fun _ => none)]) true μ 2 4 [.ref (X.1 + b)] (poN (pre ++ kN_X6 b) (putM μ b n_X6)) := by
  refine ct_of (by decide +kernel) rfl (Nat.le_of_ble_eq_true rfl) ?_
  rw [← putM_self hz]
  rw [show putM (putM μ b fun _ _ => 0) b n_X6 = putM μ b n_X6 by rw [putM_self hz]]
  show KJ X mX6_init 1 true _ (pre ++ [.inr (6, fun _ => none)]) 2 4 0 [(0, .ref (X.1 + (b + 0)))] [] (putM μ b (fun _ _ => 0))
  refine K_aload_n (md := mX6_init) (pc := 0) 0 (kTab_at (pc := 0) tX6_init_ok 0 rfl) rfl ?_
  refine K_objInit (md := mX6_init) (pc := 1) (b := b + 0) (kTab_at (pc := 1) tX6_init_ok 1 rfl) (inT2 24 (by decide +kernel) rfl) (inT1 38 (by decide +kernel) rfl) (inT1 39 (by decide +kernel) rfl) (Nat.le_of_ble_eq_true rfl) ?_
  refine K_aload_n (md := mX6_init) (pc := 4) 0 (kTab_at (pc := 4) tX6_init_ok 2 rfl) rfl ?_
  refine K_iconst (md := mX6_init) (pc := 5) (x := 2) (kTab_at (pc := 5) tX6_init_ok 3 rfl) rfl ?_
  refine C_newarr (md := mX6_init) (pc := 6) (c := (fun _ _ => 0)) (suf' := ([.inr (6, (fun _ => none)), .inl (0, 2, fun _ => none)])) (t := 0) (n := 2) (j := 1) (ty := .int) (kTab_at (pc := 6) tX6_init_ok 4 rfl) (inT1 66 (by decide +kernel) rfl) rfl (by decide) (Nat.le_of_ble_eq_true rfl) hb rfl (zb_0 _) rfl ?_
  refine C_putR (md := mX6_init) (pc := 8) (suf' := ([.inr (6, (rfu (fun _ => none) 0 (b + 1))), .inl (0, 2, fun _ => none)])) (rf := (fun _ => none)) (ci := 6) (k := 0) (i := 0) (r := b + 1) (kTab_at (pc := 8) tX6_init_ok 5 rfl) fl_X6_9 rfl (hdc_X6 0 (by decide)) rfl hb rfl rfl ?_
  refine K_aload_n (md := mX6_init) (pc := 11) 0 (kTab_at (pc := 11) tX6_init_ok 6 rfl) rfl ?_
  refine K_iconst (md := mX6_init) (pc := 12) (x := 2) (kTab_at (pc := 12) tX6_init_ok 7 rfl) rfl ?_
  refine C_newarr (md := mX6_init) (pc := 13) (c := (fun _ _ => 0)) (suf' := ([.inr (6, (rfu (fun _ => none) 0 (b + 1))), .inl (0, 2, fun _ => none), .inl (0, 2, fun _ => none)])) (t := 0) (n := 2) (j := 2) (ty := .int) (kTab_at (pc := 13) tX6_init_ok 8 rfl) (inT1 66 (by decide +kernel) rfl) rfl (by decide) (Nat.le_of_ble_eq_true rfl) hb rfl (zb_0 _) rfl ?_
  refine C_putR (md := mX6_init) (pc := 15) (suf' := ([.inr (6, (rfu (rfu (fun _ => none) 0 (b + 1)) 1 (b + 2))), .inl (0, 2, fun _ => none), .inl (0, 2, fun _ => none)])) (rf := (rfu (fun _ => none) 0 (b + 1))) (ci := 6) (k := 1) (i := 0) (r := b + 2) (kTab_at (pc := 15) tX6_init_ok 9 rfl) fl_X6_13 rfl (hdc_X6 1 (by decide)) rfl hb rfl rfl ?_
  exact K_vret (md := mX6_init) (pc := 18) (kTab_at (pc := 18) tX6_init_ok 10 rfl) rfl ⟨rfl, rfl, rfl⟩
theorem mi_X6 : kMf mX6_init 0 := ⟨inT2 23 (by decide +kernel) rfl, inT1 10 (by decide +kernel) rfl, by decide +kernel, by decide +kernel⟩
end
