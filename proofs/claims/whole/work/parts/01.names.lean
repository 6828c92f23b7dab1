-- ===== PART A: goes FIRST, ahead of the names: the tables' words, and 'selects' of the private methods out of them =====
/-- a private method of a class that the tables say can be made, by its rows of tables_1 -/
def lw_okq (q : MethodName × Nat) : Prop := (q.1.cls ≠ "java/lang/invoke/MethodHandle" ∧ q.1.cls ≠ "java/lang/invoke/VarHandle") ∧ Cond.instantiable q.1.cls q.2 ∈ tables_1 ∧ Cond.privateMethod q.1 ∈ tables_1 ∧ Cond.instanceMethod q.1 ∈ tables_1
theorem lw_p0 : lw_okq (⟨"FiniteTerms$Write\x72", "add", "(I)V"⟩, 2) := ⟨⟨by decide +kernel, by decide +kernel⟩, List.mem_of_getElem? (i := 337) (by decide +kernel), List.mem_of_getElem? (i := 485) (by decide +kernel), List.mem_of_getElem? (i := 486) (by decide +kernel)⟩
theorem lw_p1 : lw_okq (⟨"FiniteTerms$Write\x72", "writePoly", "(LFiniteTerms$Poly;)V"⟩, 2) := ⟨⟨by decide +kernel, by decide +kernel⟩, List.mem_of_getElem? (i := 337) (by decide +kernel), List.mem_of_getElem? (i := 489) (by decide +kernel), List.mem_of_getElem? (i := 490) (by decide +kernel)⟩
theorem lw_p2 : lw_okq (⟨"FiniteTerms$Write\x72", "writeTerm", "(II)V"⟩, 2) := ⟨⟨by decide +kernel, by decide +kernel⟩, List.mem_of_getElem? (i := 337) (by decide +kernel), List.mem_of_getElem? (i := 497) (by decide +kernel), List.mem_of_getElem? (i := 498) (by decide +kernel)⟩
theorem lw_p3 : lw_okq (⟨"FiniteTerms$Write\x72", "writeNumbe\x72", "(I)V"⟩, 2) := ⟨⟨by decide +kernel, by decide +kernel⟩, List.mem_of_getElem? (i := 337) (by decide +kernel), List.mem_of_getElem? (i := 501) (by decide +kernel), List.mem_of_getElem? (i := 502) (by decide +kernel)⟩
theorem lw_p4 : lw_okq (⟨"FiniteTerms$Board", "horne\x72", "(IIII)I"⟩, 4) := ⟨⟨by decide +kernel, by decide +kernel⟩, List.mem_of_getElem? (i := 27) (by decide +kernel), List.mem_of_getElem? (i := 517) (by decide +kernel), List.mem_of_getElem? (i := 518) (by decide +kernel)⟩
theorem lw_p5 : lw_okq (⟨"FiniteTerms$Board", "isZero", "(I)Z"⟩, 4) := ⟨⟨by decide +kernel, by decide +kernel⟩, List.mem_of_getElem? (i := 27) (by decide +kernel), List.mem_of_getElem? (i := 534) (by decide +kernel), List.mem_of_getElem? (i := 535) (by decide +kernel)⟩
theorem lw_p6 : lw_okq (⟨"FiniteTerms$Board", "agree", "(III)Z"⟩, 4) := ⟨⟨by decide +kernel, by decide +kernel⟩, List.mem_of_getElem? (i := 27) (by decide +kernel), List.mem_of_getElem? (i := 542) (by decide +kernel), List.mem_of_getElem? (i := 543) (by decide +kernel)⟩
theorem lw_p7 : lw_okq (⟨"FiniteTerms$Reade\x72", "step", "(II)I"⟩, 12) := ⟨⟨by decide +kernel, by decide +kernel⟩, List.mem_of_getElem? (i := 291) (by decide +kernel), List.mem_of_getElem? (i := 579) (by decide +kernel), List.mem_of_getElem? (i := 580) (by decide +kernel)⟩
theorem lw_p8 : lw_okq (⟨"FiniteTerms$Reade\x72", "operand", "(I)I"⟩, 12) := ⟨⟨by decide +kernel, by decide +kernel⟩, List.mem_of_getElem? (i := 291) (by decide +kernel), List.mem_of_getElem? (i := 583) (by decide +kernel), List.mem_of_getElem? (i := 584) (by decide +kernel)⟩
theorem lw_p9 : lw_okq (⟨"FiniteTerms$Reade\x72", "emit", "(I)V"⟩, 12) := ⟨⟨by decide +kernel, by decide +kernel⟩, List.mem_of_getElem? (i := 291) (by decide +kernel), List.mem_of_getElem? (i := 590) (by decide +kernel), List.mem_of_getElem? (i := 591) (by decide +kernel)⟩
theorem lw_p10 : lw_okq (⟨"FiniteTerms$Reade\x72", "hold", "(I)V"⟩, 12) := ⟨⟨by decide +kernel, by decide +kernel⟩, List.mem_of_getElem? (i := 291) (by decide +kernel), List.mem_of_getElem? (i := 594) (by decide +kernel), List.mem_of_getElem? (i := 595) (by decide +kernel)⟩
theorem lw_p11 : lw_okq (⟨"FiniteTerms$Reade\x72", "nextDigit", "(I)I"⟩, 12) := ⟨⟨by decide +kernel, by decide +kernel⟩, List.mem_of_getElem? (i := 291) (by decide +kernel), List.mem_of_getElem? (i := 598) (by decide +kernel), List.mem_of_getElem? (i := 599) (by decide +kernel)⟩
theorem lw_p12 : lw_okq (⟨"FiniteTerms$Reade\x72", "operation", "(I)I"⟩, 12) := ⟨⟨by decide +kernel, by decide +kernel⟩, List.mem_of_getElem? (i := 291) (by decide +kernel), List.mem_of_getElem? (i := 602) (by decide +kernel), List.mem_of_getElem? (i := 603) (by decide +kernel)⟩
theorem lw_p13 : lw_okq (⟨"FiniteTerms$Reade\x72", "release", "(I)V"⟩, 12) := ⟨⟨by decide +kernel, by decide +kernel⟩, List.mem_of_getElem? (i := 291) (by decide +kernel), List.mem_of_getElem? (i := 606) (by decide +kernel), List.mem_of_getElem? (i := 607) (by decide +kernel)⟩
theorem lw_p14 : lw_okq (⟨"FiniteTerms$Reade\x72", "next", "()LFiniteTerms$Frac;"⟩, 12) := ⟨⟨by decide +kernel, by decide +kernel⟩, List.mem_of_getElem? (i := 291) (by decide +kernel), List.mem_of_getElem? (i := 617) (by decide +kernel), List.mem_of_getElem? (i := 618) (by decide +kernel)⟩
theorem lw_p15 : lw_okq (⟨"FiniteTerms$Reade\x72", "valueFromTop", "(I)LFiniteTerms$Frac;"⟩, 12) := ⟨⟨by decide +kernel, by decide +kernel⟩, List.mem_of_getElem? (i := 291) (by decide +kernel), List.mem_of_getElem? (i := 621) (by decide +kernel), List.mem_of_getElem? (i := 622) (by decide +kernel)⟩
def lw_privs_1 : List (MethodName × Nat) := [(⟨"FiniteTerms$Write\x72", "add", "(I)V"⟩, 2), (⟨"FiniteTerms$Write\x72", "writePoly", "(LFiniteTerms$Poly;)V"⟩, 2), (⟨"FiniteTerms$Write\x72", "writeTerm", "(II)V"⟩, 2), (⟨"FiniteTerms$Write\x72", "writeNumbe\x72", "(I)V"⟩, 2), (⟨"FiniteTerms$Board", "horne\x72", "(IIII)I"⟩, 4), (⟨"FiniteTerms$Board", "isZero", "(I)Z"⟩, 4), (⟨"FiniteTerms$Board", "agree", "(III)Z"⟩, 4), (⟨"FiniteTerms$Reade\x72", "step", "(II)I"⟩, 12), (⟨"FiniteTerms$Reade\x72", "operand", "(I)I"⟩, 12), (⟨"FiniteTerms$Reade\x72", "emit", "(I)V"⟩, 12), (⟨"FiniteTerms$Reade\x72", "hold", "(I)V"⟩, 12), (⟨"FiniteTerms$Reade\x72", "nextDigit", "(I)I"⟩, 12), (⟨"FiniteTerms$Reade\x72", "operation", "(I)I"⟩, 12), (⟨"FiniteTerms$Reade\x72", "release", "(I)V"⟩, 12), (⟨"FiniteTerms$Reade\x72", "next", "()LFiniteTerms$Frac;"⟩, 12), (⟨"FiniteTerms$Reade\x72", "valueFromTop", "(I)LFiniteTerms$Frac;"⟩, 12)]
theorem lw_r1 : ∀ q ∈ lw_privs_1, lw_okq q := List.forall_mem_cons.mpr ⟨lw_p0, List.forall_mem_cons.mpr ⟨lw_p1, List.forall_mem_cons.mpr ⟨lw_p2, List.forall_mem_cons.mpr ⟨lw_p3, List.forall_mem_cons.mpr ⟨lw_p4, List.forall_mem_cons.mpr ⟨lw_p5, List.forall_mem_cons.mpr ⟨lw_p6, List.forall_mem_cons.mpr ⟨lw_p7, List.forall_mem_cons.mpr ⟨lw_p8, List.forall_mem_cons.mpr ⟨lw_p9, List.forall_mem_cons.mpr ⟨lw_p10, List.forall_mem_cons.mpr ⟨lw_p11, List.forall_mem_cons.mpr ⟨lw_p12, List.forall_mem_cons.mpr ⟨lw_p13, List.forall_mem_cons.mpr ⟨lw_p14, List.forall_mem_cons.mpr ⟨lw_p15, fun _ h => absurd h List.not_mem_nil⟩⟩⟩⟩⟩⟩⟩⟩⟩⟩⟩⟩⟩⟩⟩⟩
theorem lw_p16 : lw_okq (⟨"FiniteTerms$Reade\x72", "operate", "(I)I"⟩, 12) := ⟨⟨by decide +kernel, by decide +kernel⟩, List.mem_of_getElem? (i := 291) (by decide +kernel), List.mem_of_getElem? (i := 627) (by decide +kernel), List.mem_of_getElem? (i := 628) (by decide +kernel)⟩
theorem lw_p17 : lw_okq (⟨"FiniteTerms$Poly", "strike", "(LFiniteTerms$Poly;II)I"⟩, 2) := ⟨⟨by decide +kernel, by decide +kernel⟩, List.mem_of_getElem? (i := 78) (by decide +kernel), List.mem_of_getElem? (i := 675) (by decide +kernel), List.mem_of_getElem? (i := 676) (by decide +kernel)⟩
theorem lw_p18 : lw_okq (⟨"FiniteTerms$Reade\x72", "raise", "(I)I"⟩, 12) := ⟨⟨by decide +kernel, by decide +kernel⟩, List.mem_of_getElem? (i := 291) (by decide +kernel), List.mem_of_getElem? (i := 705) (by decide +kernel), List.mem_of_getElem? (i := 706) (by decide +kernel)⟩
theorem lw_p19 : lw_okq (⟨"FiniteTerms", "addTerms", "(III)Z"⟩, 18) := ⟨⟨by decide +kernel, by decide +kernel⟩, List.mem_of_getElem? (i := 19) (by decide +kernel), List.mem_of_getElem? (i := 761) (by decide +kernel), List.mem_of_getElem? (i := 762) (by decide +kernel)⟩
theorem lw_p20 : lw_okq (⟨"FiniteTerms", "result", "(I)LFiniteTerms$Frac;"⟩, 18) := ⟨⟨by decide +kernel, by decide +kernel⟩, List.mem_of_getElem? (i := 19) (by decide +kernel), List.mem_of_getElem? (i := 765) (by decide +kernel), List.mem_of_getElem? (i := 766) (by decide +kernel)⟩
theorem lw_p21 : lw_okq (⟨"FiniteTerms", "multiplyTerms", "(II)Z"⟩, 18) := ⟨⟨by decide +kernel, by decide +kernel⟩, List.mem_of_getElem? (i := 19) (by decide +kernel), List.mem_of_getElem? (i := 771) (by decide +kernel), List.mem_of_getElem? (i := 772) (by decide +kernel)⟩
theorem lw_p22 : lw_okq (⟨"FiniteTerms", "keepTerm", "(ILFiniteTerms$Frac;)Z"⟩, 18) := ⟨⟨by decide +kernel, by decide +kernel⟩, List.mem_of_getElem? (i := 19) (by decide +kernel), List.mem_of_getElem? (i := 777) (by decide +kernel), List.mem_of_getElem? (i := 778) (by decide +kernel)⟩
theorem lw_p23 : lw_okq (⟨"FiniteTerms", "divideTerms", "(II)Z"⟩, 18) := ⟨⟨by decide +kernel, by decide +kernel⟩, List.mem_of_getElem? (i := 19) (by decide +kernel), List.mem_of_getElem? (i := 782) (by decide +kernel), List.mem_of_getElem? (i := 783) (by decide +kernel)⟩
theorem lw_p24 : lw_okq (⟨"FiniteTerms", "keepResults", "(I)I"⟩, 18) := ⟨⟨by decide +kernel, by decide +kernel⟩, List.mem_of_getElem? (i := 19) (by decide +kernel), List.mem_of_getElem? (i := 791) (by decide +kernel), List.mem_of_getElem? (i := 792) (by decide +kernel)⟩
theorem lw_p25 : lw_okq (⟨"FiniteTerms$Parts", "multiplyBySlope", "(LFiniteTerms$Frac;I)V"⟩, 16) := ⟨⟨by decide +kernel, by decide +kernel⟩, List.mem_of_getElem? (i := 160) (by decide +kernel), List.mem_of_getElem? (i := 822) (by decide +kernel), List.mem_of_getElem? (i := 823) (by decide +kernel)⟩
theorem lw_p26 : lw_okq (⟨"FiniteTerms$Splitte\x72", "thin", "(LFiniteTerms$Poly;LFiniteTerms$Poly;)V"⟩, 9) := ⟨⟨by decide +kernel, by decide +kernel⟩, List.mem_of_getElem? (i := 124) (by decide +kernel), List.mem_of_getElem? (i := 869) (by decide +kernel), List.mem_of_getElem? (i := 870) (by decide +kernel)⟩
theorem lw_p27 : lw_okq (⟨"FiniteTerms$Splitte\x72", "highest", "(LFiniteTerms$Poly;)I"⟩, 9) := ⟨⟨by decide +kernel, by decide +kernel⟩, List.mem_of_getElem? (i := 124) (by decide +kernel), List.mem_of_getElem? (i := 888) (by decide +kernel), List.mem_of_getElem? (i := 889) (by decide +kernel)⟩
theorem lw_p28 : lw_okq (⟨"FiniteTerms$Splitte\x72", "lowe\x72", "(ILFiniteTerms$Poly;LFiniteTerms$Frac;LFiniteTerms$Frac;)V"⟩, 9) := ⟨⟨by decide +kernel, by decide +kernel⟩, List.mem_of_getElem? (i := 124) (by decide +kernel), List.mem_of_getElem? (i := 892) (by decide +kernel), List.mem_of_getElem? (i := 893) (by decide +kernel)⟩
theorem lw_p29 : lw_okq (⟨"FiniteTerms$Kit", "cancel", "(LFiniteTerms$Poly;LFiniteTerms$Poly;LFiniteTerms$Poly;LFiniteTerms$Poly;)V"⟩, 8) := ⟨⟨by decide +kernel, by decide +kernel⟩, List.mem_of_getElem? (i := 72) (by decide +kernel), List.mem_of_getElem? (i := 903) (by decide +kernel), List.mem_of_getElem? (i := 904) (by decide +kernel)⟩
theorem lw_p30 : lw_okq (⟨"FiniteTerms$Splitte\x72", "moveWhole", "(LFiniteTerms$Poly;LFiniteTerms$Frac;LFiniteTerms$Frac;)V"⟩, 9) := ⟨⟨by decide +kernel, by decide +kernel⟩, List.mem_of_getElem? (i := 124) (by decide +kernel), List.mem_of_getElem? (i := 912) (by decide +kernel), List.mem_of_getElem? (i := 913) (by decide +kernel)⟩
theorem lw_p31 : lw_okq (⟨"FiniteTerms$Parts", "judge", "()V"⟩, 16) := ⟨⟨by decide +kernel, by decide +kernel⟩, List.mem_of_getElem? (i := 160) (by decide +kernel), List.mem_of_getElem? (i := 944) (by decide +kernel), List.mem_of_getElem? (i := 945) (by decide +kernel)⟩
def lw_privs_2 : List (MethodName × Nat) := [(⟨"FiniteTerms$Reade\x72", "operate", "(I)I"⟩, 12), (⟨"FiniteTerms$Poly", "strike", "(LFiniteTerms$Poly;II)I"⟩, 2), (⟨"FiniteTerms$Reade\x72", "raise", "(I)I"⟩, 12), (⟨"FiniteTerms", "addTerms", "(III)Z"⟩, 18), (⟨"FiniteTerms", "result", "(I)LFiniteTerms$Frac;"⟩, 18), (⟨"FiniteTerms", "multiplyTerms", "(II)Z"⟩, 18), (⟨"FiniteTerms", "keepTerm", "(ILFiniteTerms$Frac;)Z"⟩, 18), (⟨"FiniteTerms", "divideTerms", "(II)Z"⟩, 18), (⟨"FiniteTerms", "keepResults", "(I)I"⟩, 18), (⟨"FiniteTerms$Parts", "multiplyBySlope", "(LFiniteTerms$Frac;I)V"⟩, 16), (⟨"FiniteTerms$Splitte\x72", "thin", "(LFiniteTerms$Poly;LFiniteTerms$Poly;)V"⟩, 9), (⟨"FiniteTerms$Splitte\x72", "highest", "(LFiniteTerms$Poly;)I"⟩, 9), (⟨"FiniteTerms$Splitte\x72", "lowe\x72", "(ILFiniteTerms$Poly;LFiniteTerms$Frac;LFiniteTerms$Frac;)V"⟩, 9), (⟨"FiniteTerms$Kit", "cancel", "(LFiniteTerms$Poly;LFiniteTerms$Poly;LFiniteTerms$Poly;LFiniteTerms$Poly;)V"⟩, 8), (⟨"FiniteTerms$Splitte\x72", "moveWhole", "(LFiniteTerms$Poly;LFiniteTerms$Frac;LFiniteTerms$Frac;)V"⟩, 9), (⟨"FiniteTerms$Parts", "judge", "()V"⟩, 16)]
theorem lw_r2 : ∀ q ∈ lw_privs_2, lw_okq q := List.forall_mem_cons.mpr ⟨lw_p16, List.forall_mem_cons.mpr ⟨lw_p17, List.forall_mem_cons.mpr ⟨lw_p18, List.forall_mem_cons.mpr ⟨lw_p19, List.forall_mem_cons.mpr ⟨lw_p20, List.forall_mem_cons.mpr ⟨lw_p21, List.forall_mem_cons.mpr ⟨lw_p22, List.forall_mem_cons.mpr ⟨lw_p23, List.forall_mem_cons.mpr ⟨lw_p24, List.forall_mem_cons.mpr ⟨lw_p25, List.forall_mem_cons.mpr ⟨lw_p26, List.forall_mem_cons.mpr ⟨lw_p27, List.forall_mem_cons.mpr ⟨lw_p28, List.forall_mem_cons.mpr ⟨lw_p29, List.forall_mem_cons.mpr ⟨lw_p30, List.forall_mem_cons.mpr ⟨lw_p31, fun _ h => absurd h List.not_mem_nil⟩⟩⟩⟩⟩⟩⟩⟩⟩⟩⟩⟩⟩⟩⟩⟩
theorem lw_p32 : lw_okq (⟨"FiniteTerms$Parts", "constant", "(I)I"⟩, 16) := ⟨⟨by decide +kernel, by decide +kernel⟩, List.mem_of_getElem? (i := 160) (by decide +kernel), List.mem_of_getElem? (i := 948) (by decide +kernel), List.mem_of_getElem? (i := 949) (by decide +kernel)⟩
theorem lw_p33 : lw_okq (⟨"FiniteTerms$Residues", "trace", "()I"⟩, 10) := ⟨⟨by decide +kernel, by decide +kernel⟩, List.mem_of_getElem? (i := 251) (by decide +kernel), List.mem_of_getElem? (i := 970) (by decide +kernel), List.mem_of_getElem? (i := 971) (by decide +kernel)⟩
theorem lw_p34 : lw_okq (⟨"FiniteTerms$Residues", "raise", "()V"⟩, 10) := ⟨⟨by decide +kernel, by decide +kernel⟩, List.mem_of_getElem? (i := 251) (by decide +kernel), List.mem_of_getElem? (i := 975) (by decide +kernel), List.mem_of_getElem? (i := 976) (by decide +kernel)⟩
theorem lw_p35 : lw_okq (⟨"FiniteTerms$Residues", "applyNewton", "()V"⟩, 10) := ⟨⟨by decide +kernel, by decide +kernel⟩, List.mem_of_getElem? (i := 251) (by decide +kernel), List.mem_of_getElem? (i := 981) (by decide +kernel), List.mem_of_getElem? (i := 982) (by decide +kernel)⟩
theorem lw_p36 : lw_okq (⟨"FiniteTerms$Parts", "compareRests", "(LFiniteTerms$Frac;LFiniteTerms$Frac;)V"⟩, 16) := ⟨⟨by decide +kernel, by decide +kernel⟩, List.mem_of_getElem? (i := 160) (by decide +kernel), List.mem_of_getElem? (i := 1033) (by decide +kernel), List.mem_of_getElem? (i := 1034) (by decide +kernel)⟩
theorem lw_p37 : lw_okq (⟨"FiniteTerms", "isSheet", "(I)Z"⟩, 18) := ⟨⟨by decide +kernel, by decide +kernel⟩, List.mem_of_getElem? (i := 19) (by decide +kernel), List.mem_of_getElem? (i := 1058) (by decide +kernel), List.mem_of_getElem? (i := 1059) (by decide +kernel)⟩
theorem lw_p38 : lw_okq (⟨"FiniteTermsModel", "nought", "(I)V"⟩, 31) := ⟨⟨by decide +kernel, by decide +kernel⟩, List.mem_of_getElem? (i := 1121) (by decide +kernel), List.mem_of_getElem? (i := 1127) (by decide +kernel), List.mem_of_getElem? (i := 1128) (by decide +kernel)⟩
theorem lw_p39 : lw_okq (⟨"FiniteTermsModel", "zero", "(I)V"⟩, 31) := ⟨⟨by decide +kernel, by decide +kernel⟩, List.mem_of_getElem? (i := 1121) (by decide +kernel), List.mem_of_getElem? (i := 1134) (by decide +kernel), List.mem_of_getElem? (i := 1135) (by decide +kernel)⟩
theorem lw_p40 : lw_okq (⟨"FiniteTermsModel", "numbe\x72", "(II)V"⟩, 31) := ⟨⟨by decide +kernel, by decide +kernel⟩, List.mem_of_getElem? (i := 1121) (by decide +kernel), List.mem_of_getElem? (i := 1141) (by decide +kernel), List.mem_of_getElem? (i := 1142) (by decide +kernel)⟩
theorem lw_p41 : lw_okq (⟨"FiniteTermsModel", "fromRow", "([II)V"⟩, 31) := ⟨⟨by decide +kernel, by decide +kernel⟩, List.mem_of_getElem? (i := 1121) (by decide +kernel), List.mem_of_getElem? (i := 1246) (by decide +kernel), List.mem_of_getElem? (i := 1247) (by decide +kernel)⟩
theorem lw_p42 : lw_okq (⟨"FiniteTermsModel", "laysRow", "([II)V"⟩, 31) := ⟨⟨by decide +kernel, by decide +kernel⟩, List.mem_of_getElem? (i := 1121) (by decide +kernel), List.mem_of_getElem? (i := 1254) (by decide +kernel), List.mem_of_getElem? (i := 1255) (by decide +kernel)⟩
theorem lw_p43 : lw_okq (⟨"FiniteTermsModel", "at", "(II)I"⟩, 31) := ⟨⟨by decide +kernel, by decide +kernel⟩, List.mem_of_getElem? (i := 1121) (by decide +kernel), List.mem_of_getElem? (i := 1279) (by decide +kernel), List.mem_of_getElem? (i := 1280) (by decide +kernel)⟩
theorem lw_p44 : lw_okq (⟨"FiniteTermsModel", "tells", "(I)I"⟩, 31) := ⟨⟨by decide +kernel, by decide +kernel⟩, List.mem_of_getElem? (i := 1121) (by decide +kernel), List.mem_of_getElem? (i := 1287) (by decide +kernel), List.mem_of_getElem? (i := 1288) (by decide +kernel)⟩
theorem lw_p45 : lw_okq (⟨"FiniteTermsModel", "degree", "(I)I"⟩, 31) := ⟨⟨by decide +kernel, by decide +kernel⟩, List.mem_of_getElem? (i := 1121) (by decide +kernel), List.mem_of_getElem? (i := 1291) (by decide +kernel), List.mem_of_getElem? (i := 1292) (by decide +kernel)⟩
theorem lw_p46 : lw_okq (⟨"FiniteTermsModel", "tellsPolynomial", "(I)V"⟩, 31) := ⟨⟨by decide +kernel, by decide +kernel⟩, List.mem_of_getElem? (i := 1121) (by decide +kernel), List.mem_of_getElem? (i := 1295) (by decide +kernel), List.mem_of_getElem? (i := 1296) (by decide +kernel)⟩
theorem lw_p47 : lw_okq (⟨"FiniteTermsModel", "says", "(I)V"⟩, 31) := ⟨⟨by decide +kernel, by decide +kernel⟩, List.mem_of_getElem? (i := 1121) (by decide +kernel), List.mem_of_getElem? (i := 1299) (by decide +kernel), List.mem_of_getElem? (i := 1300) (by decide +kernel)⟩
def lw_privs_3 : List (MethodName × Nat) := [(⟨"FiniteTerms$Parts", "constant", "(I)I"⟩, 16), (⟨"FiniteTerms$Residues", "trace", "()I"⟩, 10), (⟨"FiniteTerms$Residues", "raise", "()V"⟩, 10), (⟨"FiniteTerms$Residues", "applyNewton", "()V"⟩, 10), (⟨"FiniteTerms$Parts", "compareRests", "(LFiniteTerms$Frac;LFiniteTerms$Frac;)V"⟩, 16), (⟨"FiniteTerms", "isSheet", "(I)Z"⟩, 18), (⟨"FiniteTermsModel", "nought", "(I)V"⟩, 31), (⟨"FiniteTermsModel", "zero", "(I)V"⟩, 31), (⟨"FiniteTermsModel", "numbe\x72", "(II)V"⟩, 31), (⟨"FiniteTermsModel", "fromRow", "([II)V"⟩, 31), (⟨"FiniteTermsModel", "laysRow", "([II)V"⟩, 31), (⟨"FiniteTermsModel", "at", "(II)I"⟩, 31), (⟨"FiniteTermsModel", "tells", "(I)I"⟩, 31), (⟨"FiniteTermsModel", "degree", "(I)I"⟩, 31), (⟨"FiniteTermsModel", "tellsPolynomial", "(I)V"⟩, 31), (⟨"FiniteTermsModel", "says", "(I)V"⟩, 31)]
theorem lw_r3 : ∀ q ∈ lw_privs_3, lw_okq q := List.forall_mem_cons.mpr ⟨lw_p32, List.forall_mem_cons.mpr ⟨lw_p33, List.forall_mem_cons.mpr ⟨lw_p34, List.forall_mem_cons.mpr ⟨lw_p35, List.forall_mem_cons.mpr ⟨lw_p36, List.forall_mem_cons.mpr ⟨lw_p37, List.forall_mem_cons.mpr ⟨lw_p38, List.forall_mem_cons.mpr ⟨lw_p39, List.forall_mem_cons.mpr ⟨lw_p40, List.forall_mem_cons.mpr ⟨lw_p41, List.forall_mem_cons.mpr ⟨lw_p42, List.forall_mem_cons.mpr ⟨lw_p43, List.forall_mem_cons.mpr ⟨lw_p44, List.forall_mem_cons.mpr ⟨lw_p45, List.forall_mem_cons.mpr ⟨lw_p46, List.forall_mem_cons.mpr ⟨lw_p47, fun _ h => absurd h List.not_mem_nil⟩⟩⟩⟩⟩⟩⟩⟩⟩⟩⟩⟩⟩⟩⟩⟩
theorem lw_p48 : lw_okq (⟨"FiniteTermsModel", "figures", "(I)V"⟩, 31) := ⟨⟨by decide +kernel, by decide +kernel⟩, List.mem_of_getElem? (i := 1121) (by decide +kernel), List.mem_of_getElem? (i := 1303) (by decide +kernel), List.mem_of_getElem? (i := 1304) (by decide +kernel)⟩
theorem lw_p49 : lw_okq (⟨"FiniteTermsModel", "numberOf", "(I)I"⟩, 31) := ⟨⟨by decide +kernel, by decide +kernel⟩, List.mem_of_getElem? (i := 1121) (by decide +kernel), List.mem_of_getElem? (i := 1311) (by decide +kernel), List.mem_of_getElem? (i := 1312) (by decide +kernel)⟩
theorem lw_p50 : lw_okq (⟨"FiniteTermsModel", "valueOf", "(II)I"⟩, 31) := ⟨⟨by decide +kernel, by decide +kernel⟩, List.mem_of_getElem? (i := 1121) (by decide +kernel), List.mem_of_getElem? (i := 1315) (by decide +kernel), List.mem_of_getElem? (i := 1316) (by decide +kernel)⟩
theorem lw_p51 : lw_okq (⟨"FiniteTermsModel", "valueAt", "(II)I"⟩, 31) := ⟨⟨by decide +kernel, by decide +kernel⟩, List.mem_of_getElem? (i := 1121) (by decide +kernel), List.mem_of_getElem? (i := 1319) (by decide +kernel), List.mem_of_getElem? (i := 1320) (by decide +kernel)⟩
theorem lw_p52 : lw_okq (⟨"FiniteTermsModel", "presentOf", "(I)I"⟩, 31) := ⟨⟨by decide +kernel, by decide +kernel⟩, List.mem_of_getElem? (i := 1121) (by decide +kernel), List.mem_of_getElem? (i := 1333) (by decide +kernel), List.mem_of_getElem? (i := 1334) (by decide +kernel)⟩
theorem lw_p53 : lw_okq (⟨"FiniteTermsModel", "isNought", "(I)Z"⟩, 31) := ⟨⟨by decide +kernel, by decide +kernel⟩, List.mem_of_getElem? (i := 1121) (by decide +kernel), List.mem_of_getElem? (i := 1337) (by decide +kernel), List.mem_of_getElem? (i := 1338) (by decide +kernel)⟩
theorem lw_p54 : lw_okq (⟨"FiniteTermsModel", "belows", "(I)I"⟩, 31) := ⟨⟨by decide +kernel, by decide +kernel⟩, List.mem_of_getElem? (i := 1121) (by decide +kernel), List.mem_of_getElem? (i := 1341) (by decide +kernel), List.mem_of_getElem? (i := 1342) (by decide +kernel)⟩
theorem lw_p55 : lw_okq (⟨"FiniteTermsModel", "isBelowAlike", "(II)Z"⟩, 31) := ⟨⟨by decide +kernel, by decide +kernel⟩, List.mem_of_getElem? (i := 1121) (by decide +kernel), List.mem_of_getElem? (i := 1345) (by decide +kernel), List.mem_of_getElem? (i := 1346) (by decide +kernel)⟩
theorem lw_p56 : lw_okq (⟨"FiniteTermsModel", "fits", "(I)Z"⟩, 31) := ⟨⟨by decide +kernel, by decide +kernel⟩, List.mem_of_getElem? (i := 1121) (by decide +kernel), List.mem_of_getElem? (i := 1349) (by decide +kernel), List.mem_of_getElem? (i := 1350) (by decide +kernel)⟩
theorem lw_p57 : lw_okq (⟨"FiniteTermsModel", "isSameFunction", "(II)Z"⟩, 31) := ⟨⟨by decide +kernel, by decide +kernel⟩, List.mem_of_getElem? (i := 1121) (by decide +kernel), List.mem_of_getElem? (i := 1353) (by decide +kernel), List.mem_of_getElem? (i := 1354) (by decide +kernel)⟩
theorem lw_p58 : lw_okq (⟨"FiniteTermsModel", "isSame", "(II)Z"⟩, 31) := ⟨⟨by decide +kernel, by decide +kernel⟩, List.mem_of_getElem? (i := 1121) (by decide +kernel), List.mem_of_getElem? (i := 1357) (by decide +kernel), List.mem_of_getElem? (i := 1358) (by decide +kernel)⟩
theorem lw_p59 : lw_okq (⟨"FiniteTermsModel", "remembers", "()V"⟩, 31) := ⟨⟨by decide +kernel, by decide +kernel⟩, List.mem_of_getElem? (i := 1121) (by decide +kernel), List.mem_of_getElem? (i := 1369) (by decide +kernel), List.mem_of_getElem? (i := 1370) (by decide +kernel)⟩
theorem lw_p60 : lw_okq (⟨"FiniteTermsModel", "noJoins", "()V"⟩, 31) := ⟨⟨by decide +kernel, by decide +kernel⟩, List.mem_of_getElem? (i := 1121) (by decide +kernel), List.mem_of_getElem? (i := 1377) (by decide +kernel), List.mem_of_getElem? (i := 1378) (by decide +kernel)⟩
theorem lw_p61 : lw_okq (⟨"FiniteTermsModel", "multipliesAll", "(II)V"⟩, 31) := ⟨⟨by decide +kernel, by decide +kernel⟩, List.mem_of_getElem? (i := 1121) (by decide +kernel), List.mem_of_getElem? (i := 1381) (by decide +kernel), List.mem_of_getElem? (i := 1382) (by decide +kernel)⟩
theorem lw_p62 : lw_okq (⟨"FiniteTermsModel", "multiplies", "(III)V"⟩, 31) := ⟨⟨by decide +kernel, by decide +kernel⟩, List.mem_of_getElem? (i := 1121) (by decide +kernel), List.mem_of_getElem? (i := 1385) (by decide +kernel), List.mem_of_getElem? (i := 1386) (by decide +kernel)⟩
theorem lw_p63 : lw_okq (⟨"FiniteTermsModel", "times", "(III)V"⟩, 31) := ⟨⟨by decide +kernel, by decide +kernel⟩, List.mem_of_getElem? (i := 1121) (by decide +kernel), List.mem_of_getElem? (i := 1389) (by decide +kernel), List.mem_of_getElem? (i := 1390) (by decide +kernel)⟩
def lw_privs_4 : List (MethodName × Nat) := [(⟨"FiniteTermsModel", "figures", "(I)V"⟩, 31), (⟨"FiniteTermsModel", "numberOf", "(I)I"⟩, 31), (⟨"FiniteTermsModel", "valueOf", "(II)I"⟩, 31), (⟨"FiniteTermsModel", "valueAt", "(II)I"⟩, 31), (⟨"FiniteTermsModel", "presentOf", "(I)I"⟩, 31), (⟨"FiniteTermsModel", "isNought", "(I)Z"⟩, 31), (⟨"FiniteTermsModel", "belows", "(I)I"⟩, 31), (⟨"FiniteTermsModel", "isBelowAlike", "(II)Z"⟩, 31), (⟨"FiniteTermsModel", "fits", "(I)Z"⟩, 31), (⟨"FiniteTermsModel", "isSameFunction", "(II)Z"⟩, 31), (⟨"FiniteTermsModel", "isSame", "(II)Z"⟩, 31), (⟨"FiniteTermsModel", "remembers", "()V"⟩, 31), (⟨"FiniteTermsModel", "noJoins", "()V"⟩, 31), (⟨"FiniteTermsModel", "multipliesAll", "(II)V"⟩, 31), (⟨"FiniteTermsModel", "multiplies", "(III)V"⟩, 31), (⟨"FiniteTermsModel", "times", "(III)V"⟩, 31)]
theorem lw_r4 : ∀ q ∈ lw_privs_4, lw_okq q := List.forall_mem_cons.mpr ⟨lw_p48, List.forall_mem_cons.mpr ⟨lw_p49, List.forall_mem_cons.mpr ⟨lw_p50, List.forall_mem_cons.mpr ⟨lw_p51, List.forall_mem_cons.mpr ⟨lw_p52, List.forall_mem_cons.mpr ⟨lw_p53, List.forall_mem_cons.mpr ⟨lw_p54, List.forall_mem_cons.mpr ⟨lw_p55, List.forall_mem_cons.mpr ⟨lw_p56, List.forall_mem_cons.mpr ⟨lw_p57, List.forall_mem_cons.mpr ⟨lw_p58, List.forall_mem_cons.mpr ⟨lw_p59, List.forall_mem_cons.mpr ⟨lw_p60, List.forall_mem_cons.mpr ⟨lw_p61, List.forall_mem_cons.mpr ⟨lw_p62, List.forall_mem_cons.mpr ⟨lw_p63, fun _ h => absurd h List.not_mem_nil⟩⟩⟩⟩⟩⟩⟩⟩⟩⟩⟩⟩⟩⟩⟩⟩
theorem lw_p64 : lw_okq (⟨"FiniteTermsModel", "lays", "(II)V"⟩, 31) := ⟨⟨by decide +kernel, by decide +kernel⟩, List.mem_of_getElem? (i := 1121) (by decide +kernel), List.mem_of_getElem? (i := 1393) (by decide +kernel), List.mem_of_getElem? (i := 1394) (by decide +kernel)⟩
theorem lw_p65 : lw_okq (⟨"FiniteTermsModel", "shortens", "(I)V"⟩, 31) := ⟨⟨by decide +kernel, by decide +kernel⟩, List.mem_of_getElem? (i := 1121) (by decide +kernel), List.mem_of_getElem? (i := 1397) (by decide +kernel), List.mem_of_getElem? (i := 1398) (by decide +kernel)⟩
theorem lw_p66 : lw_okq (⟨"FiniteTermsModel", "common", "(III)V"⟩, 31) := ⟨⟨by decide +kernel, by decide +kernel⟩, List.mem_of_getElem? (i := 1121) (by decide +kernel), List.mem_of_getElem? (i := 1401) (by decide +kernel), List.mem_of_getElem? (i := 1402) (by decide +kernel)⟩
theorem lw_p67 : lw_okq (⟨"FiniteTermsModel", "divides", "(III)V"⟩, 31) := ⟨⟨by decide +kernel, by decide +kernel⟩, List.mem_of_getElem? (i := 1121) (by decide +kernel), List.mem_of_getElem? (i := 1405) (by decide +kernel), List.mem_of_getElem? (i := 1406) (by decide +kernel)⟩
theorem lw_p68 : lw_okq (⟨"FiniteTermsModel", "head", "(I)I"⟩, 31) := ⟨⟨by decide +kernel, by decide +kernel⟩, List.mem_of_getElem? (i := 1121) (by decide +kernel), List.mem_of_getElem? (i := 1409) (by decide +kernel), List.mem_of_getElem? (i := 1410) (by decide +kernel)⟩
theorem lw_p69 : lw_okq (⟨"FiniteTermsModel", "scale", "(II)V"⟩, 31) := ⟨⟨by decide +kernel, by decide +kernel⟩, List.mem_of_getElem? (i := 1121) (by decide +kernel), List.mem_of_getElem? (i := 1413) (by decide +kernel), List.mem_of_getElem? (i := 1414) (by decide +kernel)⟩
theorem lw_p70 : lw_okq (⟨"FiniteTermsModel", "plus", "(IIII)V"⟩, 31) := ⟨⟨by decide +kernel, by decide +kernel⟩, List.mem_of_getElem? (i := 1121) (by decide +kernel), List.mem_of_getElem? (i := 1417) (by decide +kernel), List.mem_of_getElem? (i := 1418) (by decide +kernel)⟩
theorem lw_p71 : lw_okq (⟨"FiniteTermsModel", "adds", "(III)V"⟩, 31) := ⟨⟨by decide +kernel, by decide +kernel⟩, List.mem_of_getElem? (i := 1121) (by decide +kernel), List.mem_of_getElem? (i := 1421) (by decide +kernel), List.mem_of_getElem? (i := 1422) (by decide +kernel)⟩
theorem lw_p72 : lw_okq (⟨"FiniteTermsModel", "becomes", "(I)I"⟩, 31) := ⟨⟨by decide +kernel, by decide +kernel⟩, List.mem_of_getElem? (i := 1121) (by decide +kernel), List.mem_of_getElem? (i := 1425) (by decide +kernel), List.mem_of_getElem? (i := 1426) (by decide +kernel)⟩
theorem lw_p73 : lw_okq (⟨"FiniteTermsModel", "isTerm", "(I)Z"⟩, 31) := ⟨⟨by decide +kernel, by decide +kernel⟩, List.mem_of_getElem? (i := 1121) (by decide +kernel), List.mem_of_getElem? (i := 1429) (by decide +kernel), List.mem_of_getElem? (i := 1430) (by decide +kernel)⟩
theorem lw_p74 : lw_okq (⟨"FiniteTermsModel", "takes", "(II)V"⟩, 31) := ⟨⟨by decide +kernel, by decide +kernel⟩, List.mem_of_getElem? (i := 1121) (by decide +kernel), List.mem_of_getElem? (i := 1433) (by decide +kernel), List.mem_of_getElem? (i := 1434) (by decide +kernel)⟩
theorem lw_p75 : lw_okq (⟨"FiniteTermsModel", "quotient", "(III)V"⟩, 31) := ⟨⟨by decide +kernel, by decide +kernel⟩, List.mem_of_getElem? (i := 1121) (by decide +kernel), List.mem_of_getElem? (i := 1437) (by decide +kernel), List.mem_of_getElem? (i := 1438) (by decide +kernel)⟩
theorem lw_p76 : lw_okq (⟨"FiniteTermsModel", "laysTowe\x72", "()V"⟩, 31) := ⟨⟨by decide +kernel, by decide +kernel⟩, List.mem_of_getElem? (i := 1121) (by decide +kernel), List.mem_of_getElem? (i := 1445) (by decide +kernel), List.mem_of_getElem? (i := 1446) (by decide +kernel)⟩
theorem lw_p77 : lw_okq (⟨"FiniteTermsModel", "derives", "(II)V"⟩, 31) := ⟨⟨by decide +kernel, by decide +kernel⟩, List.mem_of_getElem? (i := 1121) (by decide +kernel), List.mem_of_getElem? (i := 1449) (by decide +kernel), List.mem_of_getElem? (i := 1450) (by decide +kernel)⟩
theorem lw_p78 : lw_okq (⟨"FiniteTermsModel", "derived", "(II)V"⟩, 31) := ⟨⟨by decide +kernel, by decide +kernel⟩, List.mem_of_getElem? (i := 1121) (by decide +kernel), List.mem_of_getElem? (i := 1453) (by decide +kernel), List.mem_of_getElem? (i := 1454) (by decide +kernel)⟩
theorem lw_p79 : lw_okq (⟨"FiniteTermsModel", "drifts", "()V"⟩, 31) := ⟨⟨by decide +kernel, by decide +kernel⟩, List.mem_of_getElem? (i := 1121) (by decide +kernel), List.mem_of_getElem? (i := 1461) (by decide +kernel), List.mem_of_getElem? (i := 1462) (by decide +kernel)⟩
def lw_privs_5 : List (MethodName × Nat) := [(⟨"FiniteTermsModel", "lays", "(II)V"⟩, 31), (⟨"FiniteTermsModel", "shortens", "(I)V"⟩, 31), (⟨"FiniteTermsModel", "common", "(III)V"⟩, 31), (⟨"FiniteTermsModel", "divides", "(III)V"⟩, 31), (⟨"FiniteTermsModel", "head", "(I)I"⟩, 31), (⟨"FiniteTermsModel", "scale", "(II)V"⟩, 31), (⟨"FiniteTermsModel", "plus", "(IIII)V"⟩, 31), (⟨"FiniteTermsModel", "adds", "(III)V"⟩, 31), (⟨"FiniteTermsModel", "becomes", "(I)I"⟩, 31), (⟨"FiniteTermsModel", "isTerm", "(I)Z"⟩, 31), (⟨"FiniteTermsModel", "takes", "(II)V"⟩, 31), (⟨"FiniteTermsModel", "quotient", "(III)V"⟩, 31), (⟨"FiniteTermsModel", "laysTowe\x72", "()V"⟩, 31), (⟨"FiniteTermsModel", "derives", "(II)V"⟩, 31), (⟨"FiniteTermsModel", "derived", "(II)V"⟩, 31), (⟨"FiniteTermsModel", "drifts", "()V"⟩, 31)]
theorem lw_r5 : ∀ q ∈ lw_privs_5, lw_okq q := List.forall_mem_cons.mpr ⟨lw_p64, List.forall_mem_cons.mpr ⟨lw_p65, List.forall_mem_cons.mpr ⟨lw_p66, List.forall_mem_cons.mpr ⟨lw_p67, List.forall_mem_cons.mpr ⟨lw_p68, List.forall_mem_cons.mpr ⟨lw_p69, List.forall_mem_cons.mpr ⟨lw_p70, List.forall_mem_cons.mpr ⟨lw_p71, List.forall_mem_cons.mpr ⟨lw_p72, List.forall_mem_cons.mpr ⟨lw_p73, List.forall_mem_cons.mpr ⟨lw_p74, List.forall_mem_cons.mpr ⟨lw_p75, List.forall_mem_cons.mpr ⟨lw_p76, List.forall_mem_cons.mpr ⟨lw_p77, List.forall_mem_cons.mpr ⟨lw_p78, List.forall_mem_cons.mpr ⟨lw_p79, fun _ h => absurd h List.not_mem_nil⟩⟩⟩⟩⟩⟩⟩⟩⟩⟩⟩⟩⟩⟩⟩⟩
theorem lw_p80 : lw_okq (⟨"FiniteTermsModel", "goes", "()I"⟩, 31) := ⟨⟨by decide +kernel, by decide +kernel⟩, List.mem_of_getElem? (i := 1121) (by decide +kernel), List.mem_of_getElem? (i := 1465) (by decide +kernel), List.mem_of_getElem? (i := 1466) (by decide +kernel)⟩
theorem lw_p81 : lw_okq (⟨"FiniteTermsModel", "splits", "(IIII)V"⟩, 31) := ⟨⟨by decide +kernel, by decide +kernel⟩, List.mem_of_getElem? (i := 1121) (by decide +kernel), List.mem_of_getElem? (i := 1481) (by decide +kernel), List.mem_of_getElem? (i := 1482) (by decide +kernel)⟩
theorem lw_p82 : lw_okq (⟨"FiniteTermsModel", "powe\x72", "(II)V"⟩, 31) := ⟨⟨by decide +kernel, by decide +kernel⟩, List.mem_of_getElem? (i := 1121) (by decide +kernel), List.mem_of_getElem? (i := 1485) (by decide +kernel), List.mem_of_getElem? (i := 1486) (by decide +kernel)⟩
theorem lw_p83 : lw_okq (⟨"FiniteTermsModel", "column", "(I)V"⟩, 31) := ⟨⟨by decide +kernel, by decide +kernel⟩, List.mem_of_getElem? (i := 1121) (by decide +kernel), List.mem_of_getElem? (i := 1489) (by decide +kernel), List.mem_of_getElem? (i := 1490) (by decide +kernel)⟩
theorem lw_p84 : lw_okq (⟨"FiniteTermsModel", "solves", "(I)V"⟩, 31) := ⟨⟨by decide +kernel, by decide +kernel⟩, List.mem_of_getElem? (i := 1121) (by decide +kernel), List.mem_of_getElem? (i := 1493) (by decide +kernel), List.mem_of_getElem? (i := 1494) (by decide +kernel)⟩
theorem lw_p85 : lw_okq (⟨"FiniteTermsModel", "solved", "(IIIII)V"⟩, 31) := ⟨⟨by decide +kernel, by decide +kernel⟩, List.mem_of_getElem? (i := 1121) (by decide +kernel), List.mem_of_getElem? (i := 1497) (by decide +kernel), List.mem_of_getElem? (i := 1498) (by decide +kernel)⟩
theorem lw_p86 : lw_okq (⟨"FiniteTermsModel", "integratesFunction", "(I)V"⟩, 31) := ⟨⟨by decide +kernel, by decide +kernel⟩, List.mem_of_getElem? (i := 1121) (by decide +kernel), List.mem_of_getElem? (i := 1505) (by decide +kernel), List.mem_of_getElem? (i := 1506) (by decide +kernel)⟩
theorem lw_p87 : lw_okq (⟨"FiniteTermsModel", "integrates", "(I)V"⟩, 31) := ⟨⟨by decide +kernel, by decide +kernel⟩, List.mem_of_getElem? (i := 1121) (by decide +kernel), List.mem_of_getElem? (i := 1509) (by decide +kernel), List.mem_of_getElem? (i := 1510) (by decide +kernel)⟩
theorem lw_p88 : lw_okq (⟨"FiniteTermsModel", "multiple", "(I)I"⟩, 31) := ⟨⟨by decide +kernel, by decide +kernel⟩, List.mem_of_getElem? (i := 1121) (by decide +kernel), List.mem_of_getElem? (i := 1513) (by decide +kernel), List.mem_of_getElem? (i := 1514) (by decide +kernel)⟩
theorem lw_p89 : lw_okq (⟨"FiniteTermsModel", "laysLogs", "()V"⟩, 31) := ⟨⟨by decide +kernel, by decide +kernel⟩, List.mem_of_getElem? (i := 1121) (by decide +kernel), List.mem_of_getElem? (i := 1517) (by decide +kernel), List.mem_of_getElem? (i := 1518) (by decide +kernel)⟩
theorem lw_p90 : lw_okq (⟨"FiniteTermsModel", "laysResidues", "()V"⟩, 31) := ⟨⟨by decide +kernel, by decide +kernel⟩, List.mem_of_getElem? (i := 1121) (by decide +kernel), List.mem_of_getElem? (i := 1521) (by decide +kernel), List.mem_of_getElem? (i := 1522) (by decide +kernel)⟩
theorem lw_p91 : lw_okq (⟨"FiniteTermsModel", "laysRoots", "(II)V"⟩, 31) := ⟨⟨by decide +kernel, by decide +kernel⟩, List.mem_of_getElem? (i := 1121) (by decide +kernel), List.mem_of_getElem? (i := 1525) (by decide +kernel), List.mem_of_getElem? (i := 1526) (by decide +kernel)⟩
theorem lw_p92 : lw_okq (⟨"FiniteTermsModel", "undoes", "(II)V"⟩, 31) := ⟨⟨by decide +kernel, by decide +kernel⟩, List.mem_of_getElem? (i := 1121) (by decide +kernel), List.mem_of_getElem? (i := 1529) (by decide +kernel), List.mem_of_getElem? (i := 1530) (by decide +kernel)⟩
theorem lw_p93 : lw_okq (⟨"FiniteTermsModel", "trace", "(II)I"⟩, 31) := ⟨⟨by decide +kernel, by decide +kernel⟩, List.mem_of_getElem? (i := 1121) (by decide +kernel), List.mem_of_getElem? (i := 1533) (by decide +kernel), List.mem_of_getElem? (i := 1534) (by decide +kernel)⟩
theorem lw_p94 : lw_okq (⟨"FiniteTermsModel", "laysLog", "(I)V"⟩, 31) := ⟨⟨by decide +kernel, by decide +kernel⟩, List.mem_of_getElem? (i := 1121) (by decide +kernel), List.mem_of_getElem? (i := 1537) (by decide +kernel), List.mem_of_getElem? (i := 1538) (by decide +kernel)⟩
theorem lw_p95 : lw_okq (⟨"FiniteTermsModel", "residueOf", "(I)I"⟩, 31) := ⟨⟨by decide +kernel, by decide +kernel⟩, List.mem_of_getElem? (i := 1121) (by decide +kernel), List.mem_of_getElem? (i := 1557) (by decide +kernel), List.mem_of_getElem? (i := 1558) (by decide +kernel)⟩
def lw_privs_6 : List (MethodName × Nat) := [(⟨"FiniteTermsModel", "goes", "()I"⟩, 31), (⟨"FiniteTermsModel", "splits", "(IIII)V"⟩, 31), (⟨"FiniteTermsModel", "powe\x72", "(II)V"⟩, 31), (⟨"FiniteTermsModel", "column", "(I)V"⟩, 31), (⟨"FiniteTermsModel", "solves", "(I)V"⟩, 31), (⟨"FiniteTermsModel", "solved", "(IIIII)V"⟩, 31), (⟨"FiniteTermsModel", "integratesFunction", "(I)V"⟩, 31), (⟨"FiniteTermsModel", "integrates", "(I)V"⟩, 31), (⟨"FiniteTermsModel", "multiple", "(I)I"⟩, 31), (⟨"FiniteTermsModel", "laysLogs", "()V"⟩, 31), (⟨"FiniteTermsModel", "laysResidues", "()V"⟩, 31), (⟨"FiniteTermsModel", "laysRoots", "(II)V"⟩, 31), (⟨"FiniteTermsModel", "undoes", "(II)V"⟩, 31), (⟨"FiniteTermsModel", "trace", "(II)I"⟩, 31), (⟨"FiniteTermsModel", "laysLog", "(I)V"⟩, 31), (⟨"FiniteTermsModel", "residueOf", "(I)I"⟩, 31)]
theorem lw_r6 : ∀ q ∈ lw_privs_6, lw_okq q := List.forall_mem_cons.mpr ⟨lw_p80, List.forall_mem_cons.mpr ⟨lw_p81, List.forall_mem_cons.mpr ⟨lw_p82, List.forall_mem_cons.mpr ⟨lw_p83, List.forall_mem_cons.mpr ⟨lw_p84, List.forall_mem_cons.mpr ⟨lw_p85, List.forall_mem_cons.mpr ⟨lw_p86, List.forall_mem_cons.mpr ⟨lw_p87, List.forall_mem_cons.mpr ⟨lw_p88, List.forall_mem_cons.mpr ⟨lw_p89, List.forall_mem_cons.mpr ⟨lw_p90, List.forall_mem_cons.mpr ⟨lw_p91, List.forall_mem_cons.mpr ⟨lw_p92, List.forall_mem_cons.mpr ⟨lw_p93, List.forall_mem_cons.mpr ⟨lw_p94, List.forall_mem_cons.mpr ⟨lw_p95, fun _ h => absurd h List.not_mem_nil⟩⟩⟩⟩⟩⟩⟩⟩⟩⟩⟩⟩⟩⟩⟩⟩
theorem lw_p96 : lw_okq (⟨"FiniteTermsModel", "fault", "()I"⟩, 31) := ⟨⟨by decide +kernel, by decide +kernel⟩, List.mem_of_getElem? (i := 1121) (by decide +kernel), List.mem_of_getElem? (i := 1573) (by decide +kernel), List.mem_of_getElem? (i := 1574) (by decide +kernel)⟩
theorem lw_p97 : lw_okq (⟨"FiniteTermsModel", "isFigure", "(I)Z"⟩, 31) := ⟨⟨by decide +kernel, by decide +kernel⟩, List.mem_of_getElem? (i := 1121) (by decide +kernel), List.mem_of_getElem? (i := 1577) (by decide +kernel), List.mem_of_getElem? (i := 1578) (by decide +kernel)⟩
theorem lw_p98 : lw_okq (⟨"FiniteTermsModel", "worked", "()I"⟩, 31) := ⟨⟨by decide +kernel, by decide +kernel⟩, List.mem_of_getElem? (i := 1121) (by decide +kernel), List.mem_of_getElem? (i := 1584) (by decide +kernel), List.mem_of_getElem? (i := 1585) (by decide +kernel)⟩
theorem lw_p99 : lw_okq (⟨"FiniteTermsModel", "powered", "(II)I"⟩, 31) := ⟨⟨by decide +kernel, by decide +kernel⟩, List.mem_of_getElem? (i := 1121) (by decide +kernel), List.mem_of_getElem? (i := 1588) (by decide +kernel), List.mem_of_getElem? (i := 1589) (by decide +kernel)⟩
theorem lw_p100 : lw_okq (⟨"FiniteTermsModel", "acts", "(III)I"⟩, 31) := ⟨⟨by decide +kernel, by decide +kernel⟩, List.mem_of_getElem? (i := 1121) (by decide +kernel), List.mem_of_getElem? (i := 1592) (by decide +kernel), List.mem_of_getElem? (i := 1593) (by decide +kernel)⟩
theorem lw_p101 : lw_okq (⟨"FiniteTermsModel", "why", "(IIII)I"⟩, 31) := ⟨⟨by decide +kernel, by decide +kernel⟩, List.mem_of_getElem? (i := 1121) (by decide +kernel), List.mem_of_getElem? (i := 1603) (by decide +kernel), List.mem_of_getElem? (i := 1604) (by decide +kernel)⟩
theorem lw_p102 : lw_okq (⟨"FiniteTermsModel", "areNumbers", "(III)Z"⟩, 31) := ⟨⟨by decide +kernel, by decide +kernel⟩, List.mem_of_getElem? (i := 1121) (by decide +kernel), List.mem_of_getElem? (i := 1607) (by decide +kernel), List.mem_of_getElem? (i := 1608) (by decide +kernel)⟩
def lw_privs_7 : List (MethodName × Nat) := [(⟨"FiniteTermsModel", "fault", "()I"⟩, 31), (⟨"FiniteTermsModel", "isFigure", "(I)Z"⟩, 31), (⟨"FiniteTermsModel", "worked", "()I"⟩, 31), (⟨"FiniteTermsModel", "powered", "(II)I"⟩, 31), (⟨"FiniteTermsModel", "acts", "(III)I"⟩, 31), (⟨"FiniteTermsModel", "why", "(IIII)I"⟩, 31), (⟨"FiniteTermsModel", "areNumbers", "(III)Z"⟩, 31)]
theorem lw_r7 : ∀ q ∈ lw_privs_7, lw_okq q := List.forall_mem_cons.mpr ⟨lw_p96, List.forall_mem_cons.mpr ⟨lw_p97, List.forall_mem_cons.mpr ⟨lw_p98, List.forall_mem_cons.mpr ⟨lw_p99, List.forall_mem_cons.mpr ⟨lw_p100, List.forall_mem_cons.mpr ⟨lw_p101, List.forall_mem_cons.mpr ⟨lw_p102, fun _ h => absurd h List.not_mem_nil⟩⟩⟩⟩⟩⟩⟩
def lw_privs : List (MethodName × Nat) := lw_privs_1 ++ (lw_privs_2 ++ (lw_privs_3 ++ (lw_privs_4 ++ (lw_privs_5 ++ (lw_privs_6 ++ (lw_privs_7))))))
def lw_tbl : List Cond := k2_sels lw_privs ++ tables_1
theorem lw_privs_ok : ∀ q ∈ lw_privs, lw_okq q := by
  show ∀ q ∈ lw_privs_1 ++ (lw_privs_2 ++ (lw_privs_3 ++ (lw_privs_4 ++ (lw_privs_5 ++ (lw_privs_6 ++ (lw_privs_7)))))), lw_okq q
  exact List.forall_mem_append.mpr ⟨lw_r1, List.forall_mem_append.mpr ⟨lw_r2, List.forall_mem_append.mpr ⟨lw_r3, List.forall_mem_append.mpr ⟨lw_r4, List.forall_mem_append.mpr ⟨lw_r5, List.forall_mem_append.mpr ⟨lw_r6, lw_r7⟩⟩⟩⟩⟩⟩

def RX0 : String := "FiniteTerms$Board"
def TX0 : u_T := fun k => match k with
  | 0 => ("FiniteTerms$Board", "cells", "[I", true)
  | 1 => ("FiniteTerms$Board", "u", "[I", true)
  | 2 => ("FiniteTerms$Board", "kind", "I", false)
  | _ => ("FiniteTerms$Board", "random", "I", false)
def tyX0 : Nat → FieldType := fun k => match k with
  | 0 => .array .int
  | 1 => .array .int
  | 2 => .int
  | _ => .int
abbrev wsX00 : List Cond := u_ws RX0 TX0 4
theorem nmX0 : ∀ a, a < 4 → ∀ b, b < 4 → a ≠ b → (TX0 a).2.1 ≠ (TX0 b).2.1 := by decide +kernel
theorem tyX0_ok : ∀ k, k < 4 → parseFieldDescriptor (TX0 k).2.2.1 = some (tyX0 k) := by decide +kernel
abbrev cX0_init : ByteArray := prog_2_method_1_code
def yX0_init : MethodName := ⟨RX0, "<init>", "()V"⟩
abbrev cX0_become : ByteArray := prog_2_method_2_code
def yX0_become : MethodName := ⟨RX0, "become", "(LFiniteTerms$Board;)V"⟩
abbrev cX0_cell : ByteArray := prog_2_method_3_code
def yX0_cell : MethodName := ⟨RX0, "cell", "(II)I"⟩
abbrev cX0_hasCell : ByteArray := prog_2_method_4_code
def yX0_hasCell : MethodName := ⟨RX0, "hasCell", "(II)Z"⟩
abbrev cX0_load : ByteArray := prog_2_method_5_code
def yX0_load : MethodName := ⟨RX0, "load", "(ILFiniteTerms$Frac;)V"⟩
abbrev cX0_store : ByteArray := prog_2_method_6_code
def yX0_store : MethodName := ⟨RX0, "store", "(ILFiniteTerms$Frac;)V"⟩
abbrev cX0_valueOf : ByteArray := prog_2_method_7_code
def yX0_valueOf : MethodName := ⟨RX0, "valueOf", "(II)I"⟩
abbrev cX0_horner : ByteArray := prog_2_method_8_code
def yX0_horner : MethodName := ⟨RX0, "horne\x72", "(IIII)I"⟩
abbrev cX0_isZero : ByteArray := prog_2_method_9_code
def yX0_isZero : MethodName := ⟨RX0, "isZero", "(I)Z"⟩
abbrev cX0_filled : ByteArray := prog_2_method_10_code
def yX0_filled : MethodName := ⟨RX0, "filled", "(I)I"⟩
abbrev cX0_fits : ByteArray := prog_2_method_11_code
def yX0_fits : MethodName := ⟨RX0, "fits", "(I)Z"⟩
abbrev cX0_denominators : ByteArray := prog_2_method_12_code
def yX0_denominators : MethodName := ⟨RX0, "denominators", "(I)I"⟩
abbrev cX0_agree : ByteArray := prog_2_method_13_code
def yX0_agree : MethodName := ⟨RX0, "agree", "(III)Z"⟩
abbrev cX0_leastTwin : ByteArray := prog_2_method_14_code
def yX0_leastTwin : MethodName := ⟨RX0, "leastTwin", "(I)I"⟩
abbrev cX0_uAt : ByteArray := prog_2_method_15_code
def yX0_uAt : MethodName := ⟨RX0, "uAt", "(I)I"⟩
abbrev cX0_loadU : ByteArray := prog_2_method_16_code
def yX0_loadU : MethodName := ⟨RX0, "loadU", "(LFiniteTerms$Poly;)V"⟩
abbrev cX0_hasTower : ByteArray := prog_2_method_17_code
def yX0_hasTower : MethodName := ⟨RX0, "hasTowe\x72", "(IIIII)Z"⟩
abbrev cX0_setTower : ByteArray := prog_2_method_18_code
def yX0_setTower : MethodName := ⟨RX0, "setTowe\x72", "(IIIII)V"⟩
abbrev cX0_draw : ByteArray := prog_2_method_19_code
def yX0_draw : MethodName := ⟨RX0, "draw", "()I"⟩
def RX1 : String := "FiniteTerms$Frac"
def TX1 : u_T := fun k => match k with
  | 0 => ("FiniteTerms$Frac", "num", "LFiniteTerms$Poly;", true)
  | _ => ("FiniteTerms$Frac", "den", "LFiniteTerms$Poly;", true)
def tyX1 : Nat → FieldType := fun k => match k with
  | 0 => .object "FiniteTerms$Poly"
  | _ => .object "FiniteTerms$Poly"
abbrev wsX10 : List Cond := u_ws RX1 TX1 2
theorem nmX1 : ∀ a, a < 2 → ∀ b, b < 2 → a ≠ b → (TX1 a).2.1 ≠ (TX1 b).2.1 := by decide +kernel
theorem tyX1_ok : ∀ k, k < 2 → parseFieldDescriptor (TX1 k).2.2.1 = some (tyX1 k) := by decide +kernel
abbrev cX1_init : ByteArray := prog_3_method_1_code
def yX1_init : MethodName := ⟨RX1, "<init>", "()V"⟩
abbrev cX1_setNumber : ByteArray := prog_3_method_2_code
def yX1_setNumber : MethodName := ⟨RX1, "setNumbe\x72", "(I)V"⟩
abbrev cX1_become : ByteArray := prog_3_method_3_code
def yX1_become : MethodName := ⟨RX1, "become", "(LFiniteTerms$Frac;)V"⟩
abbrev cX1_take : ByteArray := prog_3_method_4_code
def yX1_take : MethodName := ⟨RX1, "take", "(LFiniteTerms$Poly;LFiniteTerms$Poly;)V"⟩
abbrev cX1_isTerm : ByteArray := prog_3_method_5_code
def yX1_isTerm : MethodName := ⟨RX1, "isTerm", "()Z"⟩
def RX2 : String := "FiniteTerms$History"
def TX2 : u_T := fun k => match k with
  | 0 => ("FiniteTerms$History", "boards", "[LFiniteTerms$Board;", true)
  | 1 => ("FiniteTerms$History", "size", "I", false)
  | _ => ("FiniteTerms$History", "next", "I", false)
def tyX2 : Nat → FieldType := fun k => match k with
  | 0 => .array (.object "FiniteTerms$Board")
  | 1 => .int
  | _ => .int
abbrev wsX20 : List Cond := u_ws RX2 TX2 3
theorem nmX2 : ∀ a, a < 3 → ∀ b, b < 3 → a ≠ b → (TX2 a).2.1 ≠ (TX2 b).2.1 := by decide +kernel
theorem tyX2_ok : ∀ k, k < 3 → parseFieldDescriptor (TX2 k).2.2.1 = some (tyX2 k) := by decide +kernel
abbrev cX2_init : ByteArray := prog_4_method_1_code
def yX2_init : MethodName := ⟨RX2, "<init>", "()V"⟩
abbrev cX2_push : ByteArray := prog_4_method_2_code
def yX2_push : MethodName := ⟨RX2, "push", "(LFiniteTerms$Board;)V"⟩
abbrev cX2_pop : ByteArray := prog_4_method_3_code
def yX2_pop : MethodName := ⟨RX2, "pop", "(LFiniteTerms$Board;)Z"⟩
abbrev cX2_become : ByteArray := prog_4_method_4_code
def yX2_become : MethodName := ⟨RX2, "become", "(LFiniteTerms$History;)V"⟩
def RX3 : String := "FiniteTerms$Kit"
def TX3 : u_T := fun k => match k with
  | 0 => ("FiniteTerms$Kit", "first", "LFiniteTerms$Poly;", true)
  | 1 => ("FiniteTerms$Kit", "second", "LFiniteTerms$Poly;", true)
  | 2 => ("FiniteTerms$Kit", "third", "LFiniteTerms$Poly;", true)
  | 3 => ("FiniteTerms$Kit", "fourth", "LFiniteTerms$Poly;", true)
  | 4 => ("FiniteTerms$Kit", "common", "LFiniteTerms$Poly;", true)
  | 5 => ("FiniteTerms$Kit", "up", "LFiniteTerms$Poly;", true)
  | 6 => ("FiniteTerms$Kit", "down", "LFiniteTerms$Poly;", true)
  | _ => ("FiniteTerms$Kit", "spare", "LFiniteTerms$Poly;", true)
def tyX3 : Nat → FieldType := fun k => match k with
  | 0 => .object "FiniteTerms$Poly"
  | 1 => .object "FiniteTerms$Poly"
  | 2 => .object "FiniteTerms$Poly"
  | 3 => .object "FiniteTerms$Poly"
  | 4 => .object "FiniteTerms$Poly"
  | 5 => .object "FiniteTerms$Poly"
  | 6 => .object "FiniteTerms$Poly"
  | _ => .object "FiniteTerms$Poly"
abbrev wsX30 : List Cond := u_ws RX3 TX3 8
theorem nmX3 : ∀ a, a < 8 → ∀ b, b < 8 → a ≠ b → (TX3 a).2.1 ≠ (TX3 b).2.1 := by decide +kernel
theorem tyX3_ok : ∀ k, k < 8 → parseFieldDescriptor (TX3 k).2.2.1 = some (tyX3 k) := by decide +kernel
abbrev cX3_init : ByteArray := prog_5_method_1_code
def yX3_init : MethodName := ⟨RX3, "<init>", "()V"⟩
abbrev cX3_divisor : ByteArray := prog_5_method_2_code
def yX3_divisor : MethodName := ⟨RX3, "diviso\x72", "(LFiniteTerms$Poly;LFiniteTerms$Poly;LFiniteTerms$Poly;)V"⟩
abbrev cX3_invert : ByteArray := prog_5_method_3_code
def yX3_invert : MethodName := ⟨RX3, "invert", "(LFiniteTerms$Poly;LFiniteTerms$Poly;LFiniteTerms$Poly;)V"⟩
abbrev cX3_cancel : ByteArray := prog_5_method_4_code
def yX3_cancel : MethodName := ⟨RX3, "cancel", "(LFiniteTerms$Poly;LFiniteTerms$Poly;LFiniteTerms$Poly;LFiniteTerms$Poly;)V"⟩
abbrev cX3_raise : ByteArray := prog_5_method_5_code
def yX3_raise : MethodName := ⟨RX3, "raise", "(LFiniteTerms$Poly;ILFiniteTerms$Poly;)V"⟩
abbrev cX3_cut : ByteArray := prog_5_method_6_code
def yX3_cut : MethodName := ⟨RX3, "cut", "(LFiniteTerms$Poly;LFiniteTerms$Poly;)V"⟩
abbrev cX3_reduce : ByteArray := prog_5_method_7_code
def yX3_reduce : MethodName := ⟨RX3, "reduce", "(LFiniteTerms$Frac;)V"⟩
abbrev cX3_sum : ByteArray := prog_5_method_8_code
def yX3_sum : MethodName := ⟨RX3, "sum", "(LFiniteTerms$Frac;LFiniteTerms$Frac;LFiniteTerms$Frac;I)V"⟩
abbrev cX3_times : ByteArray := prog_5_method_9_code
def yX3_times : MethodName := ⟨RX3, "times", "(LFiniteTerms$Frac;LFiniteTerms$Frac;LFiniteTerms$Frac;)V"⟩
abbrev cX3_over : ByteArray := prog_5_method_10_code
def yX3_over : MethodName := ⟨RX3, "ove\x72", "(LFiniteTerms$Frac;LFiniteTerms$Frac;LFiniteTerms$Frac;)V"⟩
abbrev cX3_ratio : ByteArray := prog_5_method_11_code
def yX3_ratio : MethodName := ⟨RX3, "ratio", "(LFiniteTerms$Poly;LFiniteTerms$Poly;)I"⟩
def RX4 : String := "FiniteTerms$Parts"
def TX4 : u_T := fun k => match k with
  | 0 => ("FiniteTerms$Parts", "kit", "LFiniteTerms$Kit;", true)
  | 1 => ("FiniteTerms$Parts", "splitte\x72", "LFiniteTerms$Splitter;", true)
  | 2 => ("FiniteTerms$Parts", "q", "[LFiniteTerms$Frac;", true)
  | 3 => ("FiniteTerms$Parts", "\x72", "[LFiniteTerms$Frac;", true)
  | 4 => ("FiniteTerms$Parts", "spare", "LFiniteTerms$Frac;", true)
  | 5 => ("FiniteTerms$Parts", "term", "LFiniteTerms$Frac;", true)
  | 6 => ("FiniteTerms$Parts", "u", "LFiniteTerms$Poly;", true)
  | 7 => ("FiniteTerms$Parts", "slope", "LFiniteTerms$Poly;", true)
  | 8 => ("FiniteTerms$Parts", "one", "LFiniteTerms$Poly;", true)
  | 9 => ("FiniteTerms$Parts", "othe\x72", "LFiniteTerms$Poly;", true)
  | 10 => ("FiniteTerms$Parts", "base", "LFiniteTerms$Poly;", true)
  | 11 => ("FiniteTerms$Parts", "work", "LFiniteTerms$Poly;", true)
  | 12 => ("FiniteTerms$Parts", "suited", "[Z", true)
  | 13 => ("FiniteTerms$Parts", "kind", "I", false)
  | 14 => ("FiniteTerms$Parts", "whole", "Z", false)
  | _ => ("FiniteTerms$Parts", "obstacle", "I", false)
def tyX4 : Nat → FieldType := fun k => match k with
  | 0 => .object "FiniteTerms$Kit"
  | 1 => .object "FiniteTerms$Splitte\x72"
  | 2 => .array (.object "FiniteTerms$Frac")
  | 3 => .array (.object "FiniteTerms$Frac")
  | 4 => .object "FiniteTerms$Frac"
  | 5 => .object "FiniteTerms$Frac"
  | 6 => .object "FiniteTerms$Poly"
  | 7 => .object "FiniteTerms$Poly"
  | 8 => .object "FiniteTerms$Poly"
  | 9 => .object "FiniteTerms$Poly"
  | 10 => .object "FiniteTerms$Poly"
  | 11 => .object "FiniteTerms$Poly"
  | 12 => .array .boolean
  | 13 => .int
  | 14 => .boolean
  | _ => .int
abbrev wsX40 : List Cond := u_ws RX4 TX4 16
theorem nmX4 : ∀ a, a < 16 → ∀ b, b < 16 → a ≠ b → (TX4 a).2.1 ≠ (TX4 b).2.1 := by decide +kernel
theorem tyX4_ok : ∀ k, k < 16 → parseFieldDescriptor (TX4 k).2.2.1 = some (tyX4 k) := by decide +kernel
abbrev cX4_init : ByteArray := prog_6_method_1_code
def yX4_init : MethodName := ⟨RX4, "<init>", "(LFiniteTerms$Kit;LFiniteTerms$Splitter;)V"⟩
abbrev cX4_piece : ByteArray := prog_6_method_2_code
def yX4_piece : MethodName := ⟨RX4, "piece", "(I)LFiniteTerms$Frac;"⟩
abbrev cX4_rest : ByteArray := prog_6_method_3_code
def yX4_rest : MethodName := ⟨RX4, "rest", "(I)LFiniteTerms$Frac;"⟩
abbrev cX4_prepare : ByteArray := prog_6_method_4_code
def yX4_prepare : MethodName := ⟨RX4, "prepare", "(LFiniteTerms$Board;)V"⟩
abbrev cX4_differentiate : ByteArray := prog_6_method_5_code
def yX4_differentiate : MethodName := ⟨RX4, "differentiate", "(ILFiniteTerms$Frac;LFiniteTerms$Frac;LFiniteTerms$Frac;)V"⟩
abbrev cX4_multiplyBySlope : ByteArray := prog_6_method_6_code
def yX4_multiplyBySlope : MethodName := ⟨RX4, "multiplyBySlope", "(LFiniteTerms$Frac;I)V"⟩
abbrev cX4_compute : ByteArray := prog_6_method_7_code
def yX4_compute : MethodName := ⟨RX4, "compute", "(LFiniteTerms$Board;I)V"⟩
abbrev cX4_judge : ByteArray := prog_6_method_8_code
def yX4_judge : MethodName := ⟨RX4, "judge", "()V"⟩
abbrev cX4_constant : ByteArray := prog_6_method_9_code
def yX4_constant : MethodName := ⟨RX4, "constant", "(I)I"⟩
abbrev cX4_compare : ByteArray := prog_6_method_10_code
def yX4_compare : MethodName := ⟨RX4, "compare", "(LFiniteTerms$Parts;)V"⟩
abbrev cX4_compareRests : ByteArray := prog_6_method_11_code
def yX4_compareRests : MethodName := ⟨RX4, "compareRests", "(LFiniteTerms$Frac;LFiniteTerms$Frac;)V"⟩
abbrev cX4_suits : ByteArray := prog_6_method_12_code
def yX4_suits : MethodName := ⟨RX4, "suits", "(I)Z"⟩
def RX5 : String := "FiniteTerms$Poly"
def TX5 : u_T := fun k => match k with
  | 0 => ("FiniteTerms$Poly", "c", "[I", true)
  | _ => ("FiniteTerms$Poly", "deg", "I", false)
def tyX5 : Nat → FieldType := fun k => match k with
  | 0 => .array .int
  | _ => .int
abbrev wsX50 : List Cond := u_ws RX5 TX5 2
theorem nmX5 : ∀ a, a < 2 → ∀ b, b < 2 → a ≠ b → (TX5 a).2.1 ≠ (TX5 b).2.1 := by decide +kernel
theorem tyX5_ok : ∀ k, k < 2 → parseFieldDescriptor (TX5 k).2.2.1 = some (tyX5 k) := by decide +kernel
abbrev cX5_init : ByteArray := prog_7_method_1_code
def yX5_init : MethodName := ⟨RX5, "<init>", "()V"⟩
abbrev cX5_at : ByteArray := prog_7_method_2_code
def yX5_at : MethodName := ⟨RX5, "at", "(I)I"⟩
abbrev cX5_head : ByteArray := prog_7_method_3_code
def yX5_head : MethodName := ⟨RX5, "head", "()I"⟩
abbrev cX5_put : ByteArray := prog_7_method_4_code
def yX5_put : MethodName := ⟨RX5, "put", "(II)V"⟩
abbrev cX5_settle : ByteArray := prog_7_method_5_code
def yX5_settle : MethodName := ⟨RX5, "settle", "(I)V"⟩
abbrev cX5_clear : ByteArray := prog_7_method_6_code
def yX5_clear : MethodName := ⟨RX5, "clea\x72", "()V"⟩
abbrev cX5_setNumber : ByteArray := prog_7_method_7_code
def yX5_setNumber : MethodName := ⟨RX5, "setNumbe\x72", "(I)V"⟩
abbrev cX5_become : ByteArray := prog_7_method_8_code
def yX5_become : MethodName := ⟨RX5, "become", "(LFiniteTerms$Poly;)V"⟩
abbrev cX5_scale : ByteArray := prog_7_method_9_code
def yX5_scale : MethodName := ⟨RX5, "scale", "(I)V"⟩
abbrev cX5_addMultiple : ByteArray := prog_7_method_10_code
def yX5_addMultiple : MethodName := ⟨RX5, "addMultiple", "(LFiniteTerms$Poly;II)V"⟩
abbrev cX5_product : ByteArray := prog_7_method_11_code
def yX5_product : MethodName := ⟨RX5, "product", "(LFiniteTerms$Poly;LFiniteTerms$Poly;)V"⟩
abbrev cX5_slope : ByteArray := prog_7_method_12_code
def yX5_slope : MethodName := ⟨RX5, "slope", "(LFiniteTerms$Poly;)V"⟩
abbrev cX5_reduceBy : ByteArray := prog_7_method_13_code
def yX5_reduceBy : MethodName := ⟨RX5, "reduceBy", "(LFiniteTerms$Poly;)V"⟩
abbrev cX5_quotient : ByteArray := prog_7_method_14_code
def yX5_quotient : MethodName := ⟨RX5, "quotient", "(LFiniteTerms$Poly;LFiniteTerms$Poly;)V"⟩
abbrev cX5_strike : ByteArray := prog_7_method_15_code
def yX5_strike : MethodName := ⟨RX5, "strike", "(LFiniteTerms$Poly;II)I"⟩
abbrev cX5_valueAt : ByteArray := prog_7_method_16_code
def yX5_valueAt : MethodName := ⟨RX5, "valueAt", "(I)I"⟩
def RX6 : String := "FiniteTerms$Reade\x72"
def TX6 : u_T := fun k => match k with
  | 0 => ("FiniteTerms$Reade\x72", "kit", "LFiniteTerms$Kit;", true)
  | 1 => ("FiniteTerms$Reade\x72", "tape", "[I", true)
  | 2 => ("FiniteTerms$Reade\x72", "length", "I", false)
  | 3 => ("FiniteTerms$Reade\x72", "codes", "[I", true)
  | 4 => ("FiniteTerms$Reade\x72", "codeCount", "I", false)
  | 5 => ("FiniteTerms$Reade\x72", "waiting", "[I", true)
  | 6 => ("FiniteTerms$Reade\x72", "waitingCount", "I", false)
  | 7 => ("FiniteTerms$Reade\x72", "depth", "I", false)
  | 8 => ("FiniteTerms$Reade\x72", "digits", "I", false)
  | 9 => ("FiniteTerms$Reade\x72", "values", "[LFiniteTerms$Frac;", true)
  | 10 => ("FiniteTerms$Reade\x72", "valueCount", "I", false)
  | _ => ("FiniteTerms$Reade\x72", "facto\x72", "LFiniteTerms$Frac;", true)
def tyX6 : Nat → FieldType := fun k => match k with
  | 0 => .object "FiniteTerms$Kit"
  | 1 => .array .int
  | 2 => .int
  | 3 => .array .int
  | 4 => .int
  | 5 => .array .int
  | 6 => .int
  | 7 => .int
  | 8 => .int
  | 9 => .array (.object "FiniteTerms$Frac")
  | 10 => .int
  | _ => .object "FiniteTerms$Frac"
abbrev wsX60 : List Cond := u_ws RX6 TX6 12
theorem nmX6 : ∀ a, a < 12 → ∀ b, b < 12 → a ≠ b → (TX6 a).2.1 ≠ (TX6 b).2.1 := by decide +kernel
theorem tyX6_ok : ∀ k, k < 12 → parseFieldDescriptor (TX6 k).2.2.1 = some (tyX6 k) := by decide +kernel
abbrev cX6_init : ByteArray := prog_8_method_1_code
def yX6_init : MethodName := ⟨RX6, "<init>", "(LFiniteTerms$Kit;)V"⟩
abbrev cX6_append : ByteArray := prog_8_method_2_code
def yX6_append : MethodName := ⟨RX6, "append", "(I)Z"⟩
abbrev cX6_empty : ByteArray := prog_8_method_3_code
def yX6_empty : MethodName := ⟨RX6, "empty", "()V"⟩
abbrev cX6_compile : ByteArray := prog_8_method_4_code
def yX6_compile : MethodName := ⟨RX6, "compile", "()I"⟩
abbrev cX6_step : ByteArray := prog_8_method_5_code
def yX6_step : MethodName := ⟨RX6, "step", "(II)I"⟩
abbrev cX6_operand : ByteArray := prog_8_method_6_code
def yX6_operand : MethodName := ⟨RX6, "operand", "(I)I"⟩
abbrev cX6_nextDigit : ByteArray := prog_8_method_7_code
def yX6_nextDigit : MethodName := ⟨RX6, "nextDigit", "(I)I"⟩
abbrev cX6_operation : ByteArray := prog_8_method_8_code
def yX6_operation : MethodName := ⟨RX6, "operation", "(I)I"⟩
abbrev cX6_isDigit : ByteArray := prog_8_method_9_code
def yX6_isDigit : MethodName := ⟨RX6, "isDigit", "(I)Z"⟩
abbrev cX6_rank : ByteArray := prog_8_method_10_code
def yX6_rank : MethodName := ⟨RX6, "rank", "(I)I"⟩
abbrev cX6_hold : ByteArray := prog_8_method_11_code
def yX6_hold : MethodName := ⟨RX6, "hold", "(I)V"⟩
abbrev cX6_release : ByteArray := prog_8_method_12_code
def yX6_release : MethodName := ⟨RX6, "release", "(I)V"⟩
abbrev cX6_emit : ByteArray := prog_8_method_13_code
def yX6_emit : MethodName := ⟨RX6, "emit", "(I)V"⟩
abbrev cX6_evaluate : ByteArray := prog_8_method_14_code
def yX6_evaluate : MethodName := ⟨RX6, "evaluate", "(LFiniteTerms$Frac;)I"⟩
abbrev cX6_next : ByteArray := prog_8_method_15_code
def yX6_next : MethodName := ⟨RX6, "next", "()LFiniteTerms$Frac;"⟩
abbrev cX6_valueFromTop : ByteArray := prog_8_method_16_code
def yX6_valueFromTop : MethodName := ⟨RX6, "valueFromTop", "(I)LFiniteTerms$Frac;"⟩
abbrev cX6_operate : ByteArray := prog_8_method_17_code
def yX6_operate : MethodName := ⟨RX6, "operate", "(I)I"⟩
abbrev cX6_raise : ByteArray := prog_8_method_18_code
def yX6_raise : MethodName := ⟨RX6, "raise", "(I)I"⟩
def RX7 : String := "FiniteTerms$Residues"
def TX7 : u_T := fun k => match k with
  | 0 => ("FiniteTerms$Residues", "kit", "LFiniteTerms$Kit;", true)
  | 1 => ("FiniteTerms$Residues", "above", "LFiniteTerms$Poly;", true)
  | 2 => ("FiniteTerms$Residues", "below", "LFiniteTerms$Poly;", true)
  | 3 => ("FiniteTerms$Residues", "slope", "LFiniteTerms$Poly;", true)
  | 4 => ("FiniteTerms$Residues", "root", "LFiniteTerms$Poly;", true)
  | 5 => ("FiniteTerms$Residues", "powe\x72", "LFiniteTerms$Poly;", true)
  | 6 => ("FiniteTerms$Residues", "work", "LFiniteTerms$Poly;", true)
  | 7 => ("FiniteTerms$Residues", "shifted", "LFiniteTerms$Poly;", true)
  | 8 => ("FiniteTerms$Residues", "sums", "LFiniteTerms$Poly;", true)
  | _ => ("FiniteTerms$Residues", "roots", "LFiniteTerms$Poly;", true)
def tyX7 : Nat → FieldType := fun k => match k with
  | 0 => .object "FiniteTerms$Kit"
  | 1 => .object "FiniteTerms$Poly"
  | 2 => .object "FiniteTerms$Poly"
  | 3 => .object "FiniteTerms$Poly"
  | 4 => .object "FiniteTerms$Poly"
  | 5 => .object "FiniteTerms$Poly"
  | 6 => .object "FiniteTerms$Poly"
  | 7 => .object "FiniteTerms$Poly"
  | 8 => .object "FiniteTerms$Poly"
  | _ => .object "FiniteTerms$Poly"
abbrev wsX70 : List Cond := u_ws RX7 TX7 10
theorem nmX7 : ∀ a, a < 10 → ∀ b, b < 10 → a ≠ b → (TX7 a).2.1 ≠ (TX7 b).2.1 := by decide +kernel
theorem tyX7_ok : ∀ k, k < 10 → parseFieldDescriptor (TX7 k).2.2.1 = some (tyX7 k) := by decide +kernel
abbrev cX7_init : ByteArray := prog_9_method_1_code
def yX7_init : MethodName := ⟨RX7, "<init>", "(LFiniteTerms$Kit;)V"⟩
abbrev cX7_compute : ByteArray := prog_9_method_2_code
def yX7_compute : MethodName := ⟨RX7, "compute", "(LFiniteTerms$Frac;)V"⟩
abbrev cX7_trace : ByteArray := prog_9_method_3_code
def yX7_trace : MethodName := ⟨RX7, "trace", "()I"⟩
abbrev cX7_raise : ByteArray := prog_9_method_4_code
def yX7_raise : MethodName := ⟨RX7, "raise", "()V"⟩
abbrev cX7_applyNewton : ByteArray := prog_9_method_5_code
def yX7_applyNewton : MethodName := ⟨RX7, "applyNewton", "()V"⟩
abbrev cX7_logarithms : ByteArray := prog_9_method_6_code
def yX7_logarithms : MethodName := ⟨RX7, "logarithms", "()I"⟩
abbrev cX7_number : ByteArray := prog_9_method_7_code
def yX7_number : MethodName := ⟨RX7, "numbe\x72", "(I)I"⟩
abbrev cX7_argument : ByteArray := prog_9_method_8_code
def yX7_argument : MethodName := ⟨RX7, "argument", "(ILFiniteTerms$Poly;)V"⟩
abbrev cX7_openDegree : ByteArray := prog_9_method_9_code
def yX7_openDegree : MethodName := ⟨RX7, "openDegree", "()I"⟩
def RX8 : String := "FiniteTerms$Sheet"
def TX8 : u_T := fun k => match k with
  | 0 => ("FiniteTerms$Sheet", "items", "[J", true)
  | 1 => ("FiniteTerms$Sheet", "lane", "I", false)
  | _ => ("FiniteTerms$Sheet", "size", "I", false)
def tyX8 : Nat → FieldType := fun k => match k with
  | 0 => .array .long
  | 1 => .int
  | _ => .int
abbrev wsX80 : List Cond := u_ws RX8 TX8 3
theorem nmX8 : ∀ a, a < 3 → ∀ b, b < 3 → a ≠ b → (TX8 a).2.1 ≠ (TX8 b).2.1 := by decide +kernel
theorem tyX8_ok : ∀ k, k < 3 → parseFieldDescriptor (TX8 k).2.2.1 = some (tyX8 k) := by decide +kernel
abbrev cX8_init : ByteArray := prog_10_method_1_code
def yX8_init : MethodName := ⟨RX8, "<init>", "()V"⟩
abbrev cX8_isMissing : ByteArray := prog_10_method_2_code
def yX8_isMissing : MethodName := ⟨RX8, "isMissing", "()Z"⟩
abbrev cX8_create : ByteArray := prog_10_method_3_code
def yX8_create : MethodName := ⟨RX8, "create", "(II)V"⟩
abbrev cX8_covers : ByteArray := prog_10_method_4_code
def yX8_covers : MethodName := ⟨RX8, "covers", "(II)Z"⟩
abbrev cX8_refusal : ByteArray := prog_10_method_5_code
def yX8_refusal : MethodName := ⟨RX8, "refusal", "(III)I"⟩
abbrev cX8_holdsNumbers : ByteArray := prog_10_method_6_code
def yX8_holdsNumbers : MethodName := ⟨RX8, "holdsNumbers", "(II)Z"⟩
abbrev cX8_number : ByteArray := prog_10_method_7_code
def yX8_number : MethodName := ⟨RX8, "numbe\x72", "(I)I"⟩
abbrev cX8_set : ByteArray := prog_10_method_8_code
def yX8_set : MethodName := ⟨RX8, "set", "(IJ)V"⟩
def RX9 : String := "FiniteTerms$Splitte\x72"
def TX9 : u_T := fun k => match k with
  | 0 => ("FiniteTerms$Splitte\x72", "kit", "LFiniteTerms$Kit;", true)
  | 1 => ("FiniteTerms$Splitte\x72", "facto\x72", "LFiniteTerms$Poly;", true)
  | 2 => ("FiniteTerms$Splitte\x72", "level", "LFiniteTerms$Poly;", true)
  | 3 => ("FiniteTerms$Splitte\x72", "powe\x72", "LFiniteTerms$Poly;", true)
  | 4 => ("FiniteTerms$Splitte\x72", "cofacto\x72", "LFiniteTerms$Poly;", true)
  | 5 => ("FiniteTerms$Splitte\x72", "numerato\x72", "LFiniteTerms$Poly;", true)
  | 6 => ("FiniteTerms$Splitte\x72", "whole", "LFiniteTerms$Poly;", true)
  | 7 => ("FiniteTerms$Splitte\x72", "held", "LFiniteTerms$Poly;", true)
  | _ => ("FiniteTerms$Splitte\x72", "work", "LFiniteTerms$Poly;", true)
def tyX9 : Nat → FieldType := fun k => match k with
  | 0 => .object "FiniteTerms$Kit"
  | 1 => .object "FiniteTerms$Poly"
  | 2 => .object "FiniteTerms$Poly"
  | 3 => .object "FiniteTerms$Poly"
  | 4 => .object "FiniteTerms$Poly"
  | 5 => .object "FiniteTerms$Poly"
  | 6 => .object "FiniteTerms$Poly"
  | 7 => .object "FiniteTerms$Poly"
  | _ => .object "FiniteTerms$Poly"
abbrev wsX90 : List Cond := u_ws RX9 TX9 9
theorem nmX9 : ∀ a, a < 9 → ∀ b, b < 9 → a ≠ b → (TX9 a).2.1 ≠ (TX9 b).2.1 := by decide +kernel
theorem tyX9_ok : ∀ k, k < 9 → parseFieldDescriptor (TX9 k).2.2.1 = some (tyX9 k) := by decide +kernel
abbrev cX9_init : ByteArray := prog_11_method_1_code
def yX9_init : MethodName := ⟨RX9, "<init>", "(LFiniteTerms$Kit;)V"⟩
abbrev cX9_factorsOf : ByteArray := prog_11_method_2_code
def yX9_factorsOf : MethodName := ⟨RX9, "factorsOf", "(LFiniteTerms$Poly;ILFiniteTerms$Poly;)V"⟩
abbrev cX9_thin : ByteArray := prog_11_method_3_code
def yX9_thin : MethodName := ⟨RX9, "thin", "(LFiniteTerms$Poly;LFiniteTerms$Poly;)V"⟩
abbrev cX9_run : ByteArray := prog_11_method_4_code
def yX9_run : MethodName := ⟨RX9, "run", "(LFiniteTerms$Frac;LFiniteTerms$Poly;LFiniteTerms$Frac;LFiniteTerms$Frac;)V"⟩
abbrev cX9_highest : ByteArray := prog_11_method_5_code
def yX9_highest : MethodName := ⟨RX9, "highest", "(LFiniteTerms$Poly;)I"⟩
abbrev cX9_lower : ByteArray := prog_11_method_6_code
def yX9_lower : MethodName := ⟨RX9, "lowe\x72", "(ILFiniteTerms$Poly;LFiniteTerms$Frac;LFiniteTerms$Frac;)V"⟩
abbrev cX9_moveWhole : ByteArray := prog_11_method_7_code
def yX9_moveWhole : MethodName := ⟨RX9, "moveWhole", "(LFiniteTerms$Poly;LFiniteTerms$Frac;LFiniteTerms$Frac;)V"⟩
def RX10 : String := "FiniteTerms$Write\x72"
def TX10 : u_T := fun k => match k with
  | 0 => ("FiniteTerms$Write\x72", "signs", "[I", true)
  | _ => ("FiniteTerms$Write\x72", "length", "I", false)
def tyX10 : Nat → FieldType := fun k => match k with
  | 0 => .array .int
  | _ => .int
abbrev wsX100 : List Cond := u_ws RX10 TX10 2
theorem nmX10 : ∀ a, a < 2 → ∀ b, b < 2 → a ≠ b → (TX10 a).2.1 ≠ (TX10 b).2.1 := by decide +kernel
theorem tyX10_ok : ∀ k, k < 2 → parseFieldDescriptor (TX10 k).2.2.1 = some (tyX10 k) := by decide +kernel
abbrev cX10_init : ByteArray := prog_12_method_1_code
def yX10_init : MethodName := ⟨RX10, "<init>", "()V"⟩
abbrev cX10_sign : ByteArray := prog_12_method_2_code
def yX10_sign : MethodName := ⟨RX10, "sign", "(I)I"⟩
abbrev cX10_writeFraction : ByteArray := prog_12_method_3_code
def yX10_writeFraction : MethodName := ⟨RX10, "writeFraction", "(LFiniteTerms$Frac;)V"⟩
abbrev cX10_writePoly : ByteArray := prog_12_method_4_code
def yX10_writePoly : MethodName := ⟨RX10, "writePoly", "(LFiniteTerms$Poly;)V"⟩
abbrev cX10_writeTerm : ByteArray := prog_12_method_5_code
def yX10_writeTerm : MethodName := ⟨RX10, "writeTerm", "(II)V"⟩
abbrev cX10_writeNumber : ByteArray := prog_12_method_6_code
def yX10_writeNumber : MethodName := ⟨RX10, "writeNumbe\x72", "(I)V"⟩
abbrev cX10_add : ByteArray := prog_12_method_7_code
def yX10_add : MethodName := ⟨RX10, "add", "(I)V"⟩
def RX11 : String := "FiniteTerms"
def TX11 : u_T := fun k => match k with
  | 0 => ("FiniteTerms", "now", "LFiniteTerms$Board;", true)
  | 1 => ("FiniteTerms", "past", "LFiniteTerms$History;", true)
  | 2 => ("FiniteTerms", "savedNow", "LFiniteTerms$Board;", true)
  | 3 => ("FiniteTerms", "savedPast", "LFiniteTerms$History;", true)
  | 4 => ("FiniteTerms", "saved", "Z", false)
  | 5 => ("FiniteTerms", "sheets", "[LFiniteTerms$Sheet;", true)
  | 6 => ("FiniteTerms", "kit", "LFiniteTerms$Kit;", true)
  | 7 => ("FiniteTerms", "splitte\x72", "LFiniteTerms$Splitter;", true)
  | 8 => ("FiniteTerms", "parts", "LFiniteTerms$Parts;", true)
  | 9 => ("FiniteTerms", "otherParts", "LFiniteTerms$Parts;", true)
  | 10 => ("FiniteTerms", "residues", "LFiniteTerms$Residues;", true)
  | 11 => ("FiniteTerms", "reade\x72", "LFiniteTerms$Reader;", true)
  | 12 => ("FiniteTerms", "write\x72", "LFiniteTerms$Writer;", true)
  | 13 => ("FiniteTerms", "results", "[LFiniteTerms$Frac;", true)
  | 14 => ("FiniteTerms", "given", "LFiniteTerms$Frac;", true)
  | 15 => ("FiniteTerms", "second", "LFiniteTerms$Frac;", true)
  | 16 => ("FiniteTerms", "total", "LFiniteTerms$Frac;", true)
  | _ => ("FiniteTerms", "answe\x72", "LFiniteTerms$Poly;", true)
def tyX11 : Nat → FieldType := fun k => match k with
  | 0 => .object "FiniteTerms$Board"
  | 1 => .object "FiniteTerms$History"
  | 2 => .object "FiniteTerms$Board"
  | 3 => .object "FiniteTerms$History"
  | 4 => .boolean
  | 5 => .array (.object "FiniteTerms$Sheet")
  | 6 => .object "FiniteTerms$Kit"
  | 7 => .object "FiniteTerms$Splitte\x72"
  | 8 => .object "FiniteTerms$Parts"
  | 9 => .object "FiniteTerms$Parts"
  | 10 => .object "FiniteTerms$Residues"
  | 11 => .object "FiniteTerms$Reade\x72"
  | 12 => .object "FiniteTerms$Write\x72"
  | 13 => .array (.object "FiniteTerms$Frac")
  | 14 => .object "FiniteTerms$Frac"
  | 15 => .object "FiniteTerms$Frac"
  | 16 => .object "FiniteTerms$Frac"
  | _ => .object "FiniteTerms$Poly"
abbrev wsX110 : List Cond := u_ws RX11 TX11 18
theorem nmX11 : ∀ a, a < 18 → ∀ b, b < 18 → a ≠ b → (TX11 a).2.1 ≠ (TX11 b).2.1 := by decide +kernel
theorem tyX11_ok : ∀ k, k < 18 → parseFieldDescriptor (TX11 k).2.2.1 = some (tyX11 k) := by decide +kernel
abbrev cX11_init : ByteArray := prog_1_method_1_code
def yX11_init : MethodName := ⟨RX11, "<init>", "()V"⟩
abbrev cX11_coef : ByteArray := prog_1_method_2_code
def yX11_coef : MethodName := ⟨RX11, "coef", "(IIII)I"⟩
abbrev cX11_letter : ByteArray := prog_1_method_3_code
def yX11_letter : MethodName := ⟨RX11, "lette\x72", "(III)I"⟩
abbrev cX11_value : ByteArray := prog_1_method_4_code
def yX11_value : MethodName := ⟨RX11, "value", "(III)I"⟩
abbrev cX11_told : ByteArray := prog_1_method_5_code
def yX11_told : MethodName := ⟨RX11, "told", "(II)I"⟩
abbrev cX11_count : ByteArray := prog_1_method_6_code
def yX11_count : MethodName := ⟨RX11, "count", "(I)I"⟩
abbrev cX11_type : ByteArray := prog_1_method_7_code
def yX11_type : MethodName := ⟨RX11, "type", "(I)I"⟩
abbrev cX11_read : ByteArray := prog_1_method_8_code
def yX11_read : MethodName := ⟨RX11, "read", "(II)I"⟩
abbrev cX11_tower : ByteArray := prog_1_method_9_code
def yX11_tower : MethodName := ⟨RX11, "towe\x72", "(IIIII)I"⟩
abbrev cX11_join : ByteArray := prog_1_method_10_code
def yX11_join : MethodName := ⟨RX11, "join", "(IIII)I"⟩
abbrev cX11_derive : ByteArray := prog_1_method_11_code
def yX11_derive : MethodName := ⟨RX11, "derive", "(II)I"⟩
abbrev cX11_drift : ByteArray := prog_1_method_12_code
def yX11_drift : MethodName := ⟨RX11, "drift", "(I)I"⟩
abbrev cX11_undo : ByteArray := prog_1_method_13_code
def yX11_undo : MethodName := ⟨RX11, "undo", "()I"⟩
abbrev cX11_seed : ByteArray := prog_1_method_14_code
def yX11_seed : MethodName := ⟨RX11, "seed", "(I)I"⟩
abbrev cX11_part : ByteArray := prog_1_method_15_code
def yX11_part : MethodName := ⟨RX11, "part", "(IIII)I"⟩
abbrev cX11_split : ByteArray := prog_1_method_16_code
def yX11_split : MethodName := ⟨RX11, "split", "(IIII)I"⟩
abbrev cX11_asked : ByteArray := prog_1_method_17_code
def yX11_asked : MethodName := ⟨RX11, "asked", "(II)I"⟩
abbrev cX11_integral : ByteArray := prog_1_method_18_code
def yX11_integral : MethodName := ⟨RX11, "integral", "(IIII)I"⟩
abbrev cX11_left : ByteArray := prog_1_method_19_code
def yX11_left : MethodName := ⟨RX11, "left", "(IIII)I"⟩
abbrev cX11_residue : ByteArray := prog_1_method_20_code
def yX11_residue : MethodName := ⟨RX11, "residue", "(II)I"⟩
abbrev cX11_log : ByteArray := prog_1_method_21_code
def yX11_log : MethodName := ⟨RX11, "log", "(IIII)I"⟩
abbrev cX11_pencil : ByteArray := prog_1_method_22_code
def yX11_pencil : MethodName := ⟨RX11, "pencil", "(III)I"⟩
abbrev cX11_image : ByteArray := prog_1_method_23_code
def yX11_image : MethodName := ⟨RX11, "image", "()I"⟩
abbrev cX11_restore : ByteArray := prog_1_method_24_code
def yX11_restore : MethodName := ⟨RX11, "restore", "()I"⟩
abbrev cX11_seen : ByteArray := prog_1_method_25_code
def yX11_seen : MethodName := ⟨RX11, "seen", "(IIII)I"⟩
abbrev cX11_lay : ByteArray := prog_1_method_26_code
def yX11_lay : MethodName := ⟨RX11, "lay", "(IIIII)I"⟩
abbrev cX11_film : ByteArray := prog_1_method_27_code
def yX11_film : MethodName := ⟨RX11, "film", "(IIIII)I"⟩
abbrev cX11_sheet : ByteArray := prog_1_method_28_code
def yX11_sheet : MethodName := ⟨RX11, "sheet", "(III)I"⟩
abbrev cX11_drop : ByteArray := prog_1_method_29_code
def yX11_drop : MethodName := ⟨RX11, "drop", "(I)I"⟩
abbrev cX11_item : ByteArray := prog_1_method_30_code
def yX11_item : MethodName := ⟨RX11, "item", "(IIIJ)I"⟩
abbrev cX11_copy : ByteArray := prog_1_method_31_code
def yX11_copy : MethodName := ⟨RX11, "copy", "(IIIII)I"⟩
abbrev cX11_within : ByteArray := prog_1_method_32_code
def yX11_within : MethodName := ⟨RX11, "within", "(III)Z"⟩
abbrev cX11_isNumber : ByteArray := prog_1_method_33_code
def yX11_isNumber : MethodName := ⟨RX11, "isNumbe\x72", "(J)Z"⟩
abbrev cX11_isFunction : ByteArray := prog_1_method_34_code
def yX11_isFunction : MethodName := ⟨RX11, "isFunction", "(I)Z"⟩
abbrev cX11_isSheet : ByteArray := prog_1_method_35_code
def yX11_isSheet : MethodName := ⟨RX11, "isSheet", "(I)Z"⟩
abbrev cX11_termOf : ByteArray := prog_1_method_36_code
def yX11_termOf : MethodName := ⟨RX11, "termOf", "(II)I"⟩
abbrev cX11_inverse : ByteArray := prog_1_method_37_code
def yX11_inverse : MethodName := ⟨RX11, "inverse", "(I)I"⟩
abbrev cX11_result : ByteArray := prog_1_method_38_code
def yX11_result : MethodName := ⟨RX11, "result", "(I)LFiniteTerms$Frac;"⟩
abbrev cX11_keepResults : ByteArray := prog_1_method_39_code
def yX11_keepResults : MethodName := ⟨RX11, "keepResults", "(I)I"⟩
abbrev cX11_addTerms : ByteArray := prog_1_method_40_code
def yX11_addTerms : MethodName := ⟨RX11, "addTerms", "(III)Z"⟩
abbrev cX11_multiplyTerms : ByteArray := prog_1_method_41_code
def yX11_multiplyTerms : MethodName := ⟨RX11, "multiplyTerms", "(II)Z"⟩
abbrev cX11_divideTerms : ByteArray := prog_1_method_42_code
def yX11_divideTerms : MethodName := ⟨RX11, "divideTerms", "(II)Z"⟩
abbrev cX11_keepTerm : ByteArray := prog_1_method_43_code
def yX11_keepTerm : MethodName := ⟨RX11, "keepTerm", "(ILFiniteTerms$Frac;)Z"⟩
def RX12 : String := "FiniteTermsModel"
def TX12 : u_T := fun k => match k with
  | 0 => ("FiniteTermsModel", "p", "[I", true)
  | 1 => ("FiniteTermsModel", "product", "[I", true)
  | 2 => ("FiniteTermsModel", "kind", "I", false)
  | 3 => ("FiniteTermsModel", "u", "[I", true)
  | 4 => ("FiniteTermsModel", "draw", "I", false)
  | 5 => ("FiniteTermsModel", "undoMany", "I", false)
  | 6 => ("FiniteTermsModel", "undoAt", "I", false)
  | 7 => ("FiniteTermsModel", "undos", "[I", true)
  | 8 => ("FiniteTermsModel", "isImage", "Z", false)
  | 9 => ("FiniteTermsModel", "imageMany", "I", false)
  | 10 => ("FiniteTermsModel", "imageAt", "I", false)
  | 11 => ("FiniteTermsModel", "image", "[I", true)
  | 12 => ("FiniteTermsModel", "letters", "[I", true)
  | 13 => ("FiniteTermsModel", "letterMany", "I", false)
  | 14 => ("FiniteTermsModel", "cells", "[I", true)
  | 15 => ("FiniteTermsModel", "solution", "[I", true)
  | 16 => ("FiniteTermsModel", "columns", "I", false)
  | 17 => ("FiniteTermsModel", "hasIntegral", "Z", false)
  | 18 => ("FiniteTermsModel", "where", "I", false)
  | 19 => ("FiniteTermsModel", "roots", "[I", true)
  | 20 => ("FiniteTermsModel", "sums", "[I", true)
  | 21 => ("FiniteTermsModel", "parts", "[I", true)
  | 22 => ("FiniteTermsModel", "logMany", "I", false)
  | 23 => ("FiniteTermsModel", "logOpen", "I", false)
  | 24 => ("FiniteTermsModel", "tape", "[I", true)
  | 25 => ("FiniteTermsModel", "tapeMany", "I", false)
  | 26 => ("FiniteTermsModel", "sumAct", "[I", true)
  | 27 => ("FiniteTermsModel", "partAct", "[I", true)
  | 28 => ("FiniteTermsModel", "sheetLane", "[I", true)
  | 29 => ("FiniteTermsModel", "sheetMany", "[I", true)
  | _ => ("FiniteTermsModel", "items", "[J", true)
def tyX12 : Nat → FieldType := fun k => match k with
  | 0 => .array .int
  | 1 => .array .int
  | 2 => .int
  | 3 => .array .int
  | 4 => .int
  | 5 => .int
  | 6 => .int
  | 7 => .array .int
  | 8 => .boolean
  | 9 => .int
  | 10 => .int
  | 11 => .array .int
  | 12 => .array .int
  | 13 => .int
  | 14 => .array .int
  | 15 => .array .int
  | 16 => .int
  | 17 => .boolean
  | 18 => .int
  | 19 => .array .int
  | 20 => .array .int
  | 21 => .array .int
  | 22 => .int
  | 23 => .int
  | 24 => .array .int
  | 25 => .int
  | 26 => .array .int
  | 27 => .array .int
  | 28 => .array .int
  | 29 => .array .int
  | _ => .array .long
abbrev wsX120 : List Cond := u_ws RX12 TX12 31
theorem nmX12 : ∀ a, a < 31 → ∀ b, b < 31 → a ≠ b → (TX12 a).2.1 ≠ (TX12 b).2.1 := by decide +kernel
theorem tyX12_ok : ∀ k, k < 31 → parseFieldDescriptor (TX12 k).2.2.1 = some (tyX12 k) := by decide +kernel
abbrev cX12_in : ByteArray := prog_14_method_1_code
def yX12_in : MethodName := ⟨RX12, "in", "(III)Z"⟩
abbrev cX12_mod : ByteArray := prog_14_method_2_code
def yX12_mod : MethodName := ⟨RX12, "mod", "(I)I"⟩
abbrev cX12_over : ByteArray := prog_14_method_3_code
def yX12_over : MethodName := ⟨RX12, "ove\x72", "(I)I"⟩
abbrev cX12_zero : ByteArray := prog_14_method_4_code
def yX12_zero : MethodName := ⟨RX12, "zero", "(I)V"⟩
abbrev cX12_number : ByteArray := prog_14_method_5_code
def yX12_number : MethodName := ⟨RX12, "numbe\x72", "(II)V"⟩
abbrev cX12_lays : ByteArray := prog_14_method_6_code
def yX12_lays : MethodName := ⟨RX12, "lays", "(II)V"⟩
abbrev cX12_degree : ByteArray := prog_14_method_7_code
def yX12_degree : MethodName := ⟨RX12, "degree", "(I)I"⟩
abbrev cX12_at : ByteArray := prog_14_method_8_code
def yX12_at : MethodName := ⟨RX12, "at", "(II)I"⟩
abbrev cX12_head : ByteArray := prog_14_method_9_code
def yX12_head : MethodName := ⟨RX12, "head", "(I)I"⟩
abbrev cX12_times : ByteArray := prog_14_method_10_code
def yX12_times : MethodName := ⟨RX12, "times", "(III)V"⟩
abbrev cX12_scale : ByteArray := prog_14_method_11_code
def yX12_scale : MethodName := ⟨RX12, "scale", "(II)V"⟩
abbrev cX12_adds : ByteArray := prog_14_method_12_code
def yX12_adds : MethodName := ⟨RX12, "adds", "(III)V"⟩
abbrev cX12_derives : ByteArray := prog_14_method_13_code
def yX12_derives : MethodName := ⟨RX12, "derives", "(II)V"⟩
abbrev cX12_divides : ByteArray := prog_14_method_14_code
def yX12_divides : MethodName := ⟨RX12, "divides", "(III)V"⟩
abbrev cX12_common : ByteArray := prog_14_method_15_code
def yX12_common : MethodName := ⟨RX12, "common", "(III)V"⟩
abbrev cX12_valueAt : ByteArray := prog_14_method_16_code
def yX12_valueAt : MethodName := ⟨RX12, "valueAt", "(II)I"⟩
abbrev cX12_above : ByteArray := prog_14_method_17_code
def yX12_above : MethodName := ⟨RX12, "above", "(I)I"⟩
abbrev cX12_below : ByteArray := prog_14_method_18_code
def yX12_below : MethodName := ⟨RX12, "below", "(I)I"⟩
abbrev cX12_isNought : ByteArray := prog_14_method_19_code
def yX12_isNought : MethodName := ⟨RX12, "isNought", "(I)Z"⟩
abbrev cX12_shortens : ByteArray := prog_14_method_20_code
def yX12_shortens : MethodName := ⟨RX12, "shortens", "(I)V"⟩
abbrev cX12_nought : ByteArray := prog_14_method_21_code
def yX12_nought : MethodName := ⟨RX12, "nought", "(I)V"⟩
abbrev cX12_takes : ByteArray := prog_14_method_22_code
def yX12_takes : MethodName := ⟨RX12, "takes", "(II)V"⟩
abbrev cX12_plus : ByteArray := prog_14_method_23_code
def yX12_plus : MethodName := ⟨RX12, "plus", "(IIII)V"⟩
abbrev cX12_multiplies : ByteArray := prog_14_method_24_code
def yX12_multiplies : MethodName := ⟨RX12, "multiplies", "(III)V"⟩
abbrev cX12_quotient : ByteArray := prog_14_method_25_code
def yX12_quotient : MethodName := ⟨RX12, "quotient", "(III)V"⟩
abbrev cX12_derived : ByteArray := prog_14_method_26_code
def yX12_derived : MethodName := ⟨RX12, "derived", "(II)V"⟩
abbrev cX12_isTerm : ByteArray := prog_14_method_27_code
def yX12_isTerm : MethodName := ⟨RX12, "isTerm", "(I)Z"⟩
abbrev cX12_isSame : ByteArray := prog_14_method_28_code
def yX12_isSame : MethodName := ⟨RX12, "isSame", "(II)Z"⟩
abbrev cX12_init : ByteArray := prog_14_method_29_code
def yX12_init : MethodName := ⟨RX12, "<init>", "()V"⟩
abbrev cX12_term : ByteArray := prog_14_method_30_code
def yX12_term : MethodName := ⟨RX12, "term", "(II)I"⟩
abbrev cX12_isTermOf : ByteArray := prog_14_method_31_code
def yX12_isTermOf : MethodName := ⟨RX12, "isTermOf", "(II)Z"⟩
abbrev cX12_isFunction : ByteArray := prog_14_method_32_code
def yX12_isFunction : MethodName := ⟨RX12, "isFunction", "(I)Z"⟩
abbrev cX12_laysRow : ByteArray := prog_14_method_33_code
def yX12_laysRow : MethodName := ⟨RX12, "laysRow", "([II)V"⟩
abbrev cX12_fromRow : ByteArray := prog_14_method_34_code
def yX12_fromRow : MethodName := ⟨RX12, "fromRow", "([II)V"⟩
abbrev cX12_remembers : ByteArray := prog_14_method_35_code
def yX12_remembers : MethodName := ⟨RX12, "remembers", "()V"⟩
abbrev cX12_undo : ByteArray := prog_14_method_36_code
def yX12_undo : MethodName := ⟨RX12, "undo", "()I"⟩
abbrev cX12_image : ByteArray := prog_14_method_37_code
def yX12_image : MethodName := ⟨RX12, "image", "()I"⟩
abbrev cX12_restore : ByteArray := prog_14_method_38_code
def yX12_restore : MethodName := ⟨RX12, "restore", "()I"⟩
abbrev cX12_seed : ByteArray := prog_14_method_39_code
def yX12_seed : MethodName := ⟨RX12, "seed", "(I)I"⟩
abbrev cX12_numberOf : ByteArray := prog_14_method_40_code
def yX12_numberOf : MethodName := ⟨RX12, "numberOf", "(I)I"⟩
abbrev cX12_coef : ByteArray := prog_14_method_41_code
def yX12_coef : MethodName := ⟨RX12, "coef", "(IIII)I"⟩
abbrev cX12_says : ByteArray := prog_14_method_42_code
def yX12_says : MethodName := ⟨RX12, "says", "(I)V"⟩
abbrev cX12_figures : ByteArray := prog_14_method_43_code
def yX12_figures : MethodName := ⟨RX12, "figures", "(I)V"⟩
abbrev cX12_tellsPolynomial : ByteArray := prog_14_method_44_code
def yX12_tellsPolynomial : MethodName := ⟨RX12, "tellsPolynomial", "(I)V"⟩
abbrev cX12_tells : ByteArray := prog_14_method_45_code
def yX12_tells : MethodName := ⟨RX12, "tells", "(I)I"⟩
abbrev cX12_letter : ByteArray := prog_14_method_46_code
def yX12_letter : MethodName := ⟨RX12, "lette\x72", "(III)I"⟩
abbrev cX12_valueOf : ByteArray := prog_14_method_47_code
def yX12_valueOf : MethodName := ⟨RX12, "valueOf", "(II)I"⟩
abbrev cX12_value : ByteArray := prog_14_method_48_code
def yX12_value : MethodName := ⟨RX12, "value", "(III)I"⟩
abbrev cX12_presentOf : ByteArray := prog_14_method_49_code
def yX12_presentOf : MethodName := ⟨RX12, "presentOf", "(I)I"⟩
abbrev cX12_isSameFunction : ByteArray := prog_14_method_50_code
def yX12_isSameFunction : MethodName := ⟨RX12, "isSameFunction", "(II)Z"⟩
abbrev cX12_isBelowAlike : ByteArray := prog_14_method_51_code
def yX12_isBelowAlike : MethodName := ⟨RX12, "isBelowAlike", "(II)Z"⟩
abbrev cX12_belows : ByteArray := prog_14_method_52_code
def yX12_belows : MethodName := ⟨RX12, "belows", "(I)I"⟩
abbrev cX12_fits : ByteArray := prog_14_method_53_code
def yX12_fits : MethodName := ⟨RX12, "fits", "(I)Z"⟩
abbrev cX12_told : ByteArray := prog_14_method_54_code
def yX12_told : MethodName := ⟨RX12, "told", "(II)I"⟩
abbrev cX12_count : ByteArray := prog_14_method_55_code
def yX12_count : MethodName := ⟨RX12, "count", "(I)I"⟩
abbrev cX12_tower : ByteArray := prog_14_method_56_code
def yX12_tower : MethodName := ⟨RX12, "towe\x72", "(IIIII)I"⟩
abbrev cX12_becomes : ByteArray := prog_14_method_57_code
def yX12_becomes : MethodName := ⟨RX12, "becomes", "(I)I"⟩
abbrev cX12_noJoins : ByteArray := prog_14_method_58_code
def yX12_noJoins : MethodName := ⟨RX12, "noJoins", "()V"⟩
abbrev cX12_multipliesAll : ByteArray := prog_14_method_59_code
def yX12_multipliesAll : MethodName := ⟨RX12, "multipliesAll", "(II)V"⟩
abbrev cX12_join : ByteArray := prog_14_method_60_code
def yX12_join : MethodName := ⟨RX12, "join", "(IIII)I"⟩
abbrev cX12_laysTower : ByteArray := prog_14_method_61_code
def yX12_laysTower : MethodName := ⟨RX12, "laysTowe\x72", "()V"⟩
abbrev cX12_derive : ByteArray := prog_14_method_62_code
def yX12_derive : MethodName := ⟨RX12, "derive", "(II)I"⟩
abbrev cX12_goes : ByteArray := prog_14_method_63_code
def yX12_goes : MethodName := ⟨RX12, "goes", "()I"⟩
abbrev cX12_drifts : ByteArray := prog_14_method_64_code
def yX12_drifts : MethodName := ⟨RX12, "drifts", "()V"⟩
abbrev cX12_drift : ByteArray := prog_14_method_65_code
def yX12_drift : MethodName := ⟨RX12, "drift", "(I)I"⟩
abbrev cX12_column : ByteArray := prog_14_method_66_code
def yX12_column : MethodName := ⟨RX12, "column", "(I)V"⟩
abbrev cX12_solves : ByteArray := prog_14_method_67_code
def yX12_solves : MethodName := ⟨RX12, "solves", "(I)V"⟩
abbrev cX12_power : ByteArray := prog_14_method_68_code
def yX12_power : MethodName := ⟨RX12, "powe\x72", "(II)V"⟩
abbrev cX12_splits : ByteArray := prog_14_method_69_code
def yX12_splits : MethodName := ⟨RX12, "splits", "(IIII)V"⟩
abbrev cX12_solved : ByteArray := prog_14_method_70_code
def yX12_solved : MethodName := ⟨RX12, "solved", "(IIIII)V"⟩
abbrev cX12_multiple : ByteArray := prog_14_method_71_code
def yX12_multiple : MethodName := ⟨RX12, "multiple", "(I)I"⟩
abbrev cX12_integrates : ByteArray := prog_14_method_72_code
def yX12_integrates : MethodName := ⟨RX12, "integrates", "(I)V"⟩
abbrev cX12_laysRoots : ByteArray := prog_14_method_73_code
def yX12_laysRoots : MethodName := ⟨RX12, "laysRoots", "(II)V"⟩
abbrev cX12_trace : ByteArray := prog_14_method_74_code
def yX12_trace : MethodName := ⟨RX12, "trace", "(II)I"⟩
abbrev cX12_undoes : ByteArray := prog_14_method_75_code
def yX12_undoes : MethodName := ⟨RX12, "undoes", "(II)V"⟩
abbrev cX12_laysResidues : ByteArray := prog_14_method_76_code
def yX12_laysResidues : MethodName := ⟨RX12, "laysResidues", "()V"⟩
abbrev cX12_residueOf : ByteArray := prog_14_method_77_code
def yX12_residueOf : MethodName := ⟨RX12, "residueOf", "(I)I"⟩
abbrev cX12_laysLog : ByteArray := prog_14_method_78_code
def yX12_laysLog : MethodName := ⟨RX12, "laysLog", "(I)V"⟩
abbrev cX12_laysLogs : ByteArray := prog_14_method_79_code
def yX12_laysLogs : MethodName := ⟨RX12, "laysLogs", "()V"⟩
abbrev cX12_part : ByteArray := prog_14_method_80_code
def yX12_part : MethodName := ⟨RX12, "part", "(IIII)I"⟩
abbrev cX12_split : ByteArray := prog_14_method_81_code
def yX12_split : MethodName := ⟨RX12, "split", "(IIII)I"⟩
abbrev cX12_integratesFunction : ByteArray := prog_14_method_82_code
def yX12_integratesFunction : MethodName := ⟨RX12, "integratesFunction", "(I)V"⟩
abbrev cX12_asked : ByteArray := prog_14_method_83_code
def yX12_asked : MethodName := ⟨RX12, "asked", "(II)I"⟩
abbrev cX12_integral : ByteArray := prog_14_method_84_code
def yX12_integral : MethodName := ⟨RX12, "integral", "(IIII)I"⟩
abbrev cX12_left : ByteArray := prog_14_method_85_code
def yX12_left : MethodName := ⟨RX12, "left", "(IIII)I"⟩
abbrev cX12_residue : ByteArray := prog_14_method_86_code
def yX12_residue : MethodName := ⟨RX12, "residue", "(II)I"⟩
abbrev cX12_log : ByteArray := prog_14_method_87_code
def yX12_log : MethodName := ⟨RX12, "log", "(IIII)I"⟩
abbrev cX12_pencil : ByteArray := prog_14_method_88_code
def yX12_pencil : MethodName := ⟨RX12, "pencil", "(III)I"⟩
abbrev cX12_type : ByteArray := prog_14_method_89_code
def yX12_type : MethodName := ⟨RX12, "type", "(I)I"⟩
abbrev cX12_isFigure : ByteArray := prog_14_method_90_code
def yX12_isFigure : MethodName := ⟨RX12, "isFigure", "(I)Z"⟩
abbrev cX12_isAct : ByteArray := prog_14_method_91_code
def yX12_isAct : MethodName := ⟨RX12, "isAct", "(I)Z"⟩
abbrev cX12_fault : ByteArray := prog_14_method_92_code
def yX12_fault : MethodName := ⟨RX12, "fault", "()I"⟩
abbrev cX12_acts : ByteArray := prog_14_method_93_code
def yX12_acts : MethodName := ⟨RX12, "acts", "(III)I"⟩
abbrev cX12_powered : ByteArray := prog_14_method_94_code
def yX12_powered : MethodName := ⟨RX12, "powered", "(II)I"⟩
abbrev cX12_worked : ByteArray := prog_14_method_95_code
def yX12_worked : MethodName := ⟨RX12, "worked", "()I"⟩
abbrev cX12_read : ByteArray := prog_14_method_96_code
def yX12_read : MethodName := ⟨RX12, "read", "(II)I"⟩
abbrev cX12_isSheet : ByteArray := prog_14_method_97_code
def yX12_isSheet : MethodName := ⟨RX12, "isSheet", "(I)Z"⟩
abbrev cX12_cut : ByteArray := prog_14_method_98_code
def yX12_cut : MethodName := ⟨RX12, "cut", "(IJ)J"⟩
abbrev cX12_why : ByteArray := prog_14_method_99_code
def yX12_why : MethodName := ⟨RX12, "why", "(IIII)I"⟩
abbrev cX12_areNumbers : ByteArray := prog_14_method_100_code
def yX12_areNumbers : MethodName := ⟨RX12, "areNumbers", "(III)Z"⟩
abbrev cX12_seen : ByteArray := prog_14_method_101_code
def yX12_seen : MethodName := ⟨RX12, "seen", "(IIII)I"⟩
abbrev cX12_lay : ByteArray := prog_14_method_102_code
def yX12_lay : MethodName := ⟨RX12, "lay", "(IIIII)I"⟩
abbrev cX12_film : ByteArray := prog_14_method_103_code
def yX12_film : MethodName := ⟨RX12, "film", "(IIIII)I"⟩
abbrev cX12_sheet : ByteArray := prog_14_method_104_code
def yX12_sheet : MethodName := ⟨RX12, "sheet", "(III)I"⟩
abbrev cX12_drop : ByteArray := prog_14_method_105_code
def yX12_drop : MethodName := ⟨RX12, "drop", "(I)I"⟩
abbrev cX12_item : ByteArray := prog_14_method_106_code
def yX12_item : MethodName := ⟨RX12, "item", "(IIIJ)I"⟩
abbrev cX12_copy : ByteArray := prog_14_method_107_code
def yX12_copy : MethodName := ⟨RX12, "copy", "(IIIII)I"⟩
def RJ6 : String := "java/lang/Intege\x72"
def TJ6 : u_T := fun k => match k with
  | _ => ("", "", "", false)
def tyJ6 : Nat → FieldType := fun k => match k with
  | _ => .int
theorem nmJ6 : ∀ a, a < 0 → ∀ b, b < 0 → a ≠ b → (TJ6 a).2.1 ≠ (TJ6 b).2.1 := by decide +kernel
theorem tyJ6_ok : ∀ k, k < 0 → parseFieldDescriptor (TJ6 k).2.2.1 = some (tyJ6 k) := by decide +kernel
abbrev cJ6_numberOfTrailingZeros_0f7a4 : ByteArray := prog_15_method_48_code
def yJ6_numberOfTrailingZeros_0f7a4 : MethodName := ⟨RJ6, "numberOfTrailingZeros", "(I)I"⟩
abbrev cJ6_bitCount_0f7a4 : ByteArray := prog_15_method_49_code
def yJ6_bitCount_0f7a4 : MethodName := ⟨RJ6, "bitCount", "(I)I"⟩
def RJ9 : String := "java/lang/Math"
def TJ9 : u_T := fun k => match k with
  | _ => ("", "", "", false)
def tyJ9 : Nat → FieldType := fun k => match k with
  | _ => .int
theorem nmJ9 : ∀ a, a < 0 → ∀ b, b < 0 → a ≠ b → (TJ9 a).2.1 ≠ (TJ9 b).2.1 := by decide +kernel
theorem tyJ9_ok : ∀ k, k < 0 → parseFieldDescriptor (TJ9 k).2.2.1 = some (tyJ9 k) := by decide +kernel
abbrev cJ9_floorMod_7cf53 : ByteArray := prog_16_method_50_code
def yJ9_floorMod_7cf53 : MethodName := ⟨RJ9, "floorMod", "(II)I"⟩
abbrev cJ9_max_7cf53 : ByteArray := prog_16_method_65_code
def yJ9_max_7cf53 : MethodName := ⟨RJ9, "max", "(II)I"⟩
abbrev cJ9_min_7cf53 : ByteArray := prog_16_method_69_code
def yJ9_min_7cf53 : MethodName := ⟨RJ9, "min", "(II)I"⟩
def RJ10 : String := "java/lang/System"
def TJ10 : u_T := fun k => match k with
  | _ => ("", "", "", false)
def tyJ10 : Nat → FieldType := fun k => match k with
  | _ => .int
theorem nmJ10 : ∀ a, a < 0 → ∀ b, b < 0 → a ≠ b → (TJ10 a).2.1 ≠ (TJ10 b).2.1 := by decide +kernel
theorem tyJ10_ok : ∀ k, k < 0 → parseFieldDescriptor (TJ10 k).2.2.1 = some (tyJ10 k) := by decide +kernel
def RJ7 : String := "java/util/Arrays"
def TJ7 : u_T := fun k => match k with
  | _ => ("", "", "", false)
def tyJ7 : Nat → FieldType := fun k => match k with
  | _ => .int
theorem nmJ7 : ∀ a, a < 0 → ∀ b, b < 0 → a ≠ b → (TJ7 a).2.1 ≠ (TJ7 b).2.1 := by decide +kernel
theorem tyJ7_ok : ∀ k, k < 0 → parseFieldDescriptor (TJ7 k).2.2.1 = some (tyJ7 k) := by decide +kernel
abbrev cJ7_fill_d0a16 : ByteArray := prog_18_method_101_code
def yJ7_fill_d0a16 : MethodName := ⟨RJ7, "fill", "([JJ)V"⟩
def RL : String := "FiniteTermsLaw"
abbrev cL_law : ByteArray := code
def yL_law : MethodName := ⟨RL, "law", "([I)Z"⟩
