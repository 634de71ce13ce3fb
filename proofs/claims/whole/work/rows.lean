section
-- ===== PART A: goes FIRST, ahead of the names: the tables' words, and 'selects' of the private methods out of them =====
/-- a private method of a class that the tables say can be made, by its rows of tables_1 -/
def lw_okq (q : MethodName × Nat) : Prop := (q.1.cls ≠ "java/lang/invoke/MethodHandle" ∧ q.1.cls ≠ "java/lang/invoke/VarHandle") ∧ Cond.instantiable q.1.cls q.2 ∈ tables_1 ∧ Cond.privateMethod q.1 ∈ tables_1 ∧ Cond.instanceMethod q.1 ∈ tables_1
theorem lw_p0 : lw_okq (⟨"ByteFields$Field", "leastGenerator", "()I"⟩, 6) := ⟨⟨by decide +kernel, by decide +kernel⟩, List.mem_of_getElem? (i := 64) (by decide +kernel), List.mem_of_getElem? (i := 86) (by decide +kernel), List.mem_of_getElem? (i := 87) (by decide +kernel)⟩
theorem lw_p1 : lw_okq (⟨"ByteFields$Field", "generates", "(I)Z"⟩, 6) := ⟨⟨by decide +kernel, by decide +kernel⟩, List.mem_of_getElem? (i := 64) (by decide +kernel), List.mem_of_getElem? (i := 90) (by decide +kernel), List.mem_of_getElem? (i := 91) (by decide +kernel)⟩
theorem lw_p2 : lw_okq (⟨"ByteFields$Field", "slowPower", "(II)I"⟩, 6) := ⟨⟨by decide +kernel, by decide +kernel⟩, List.mem_of_getElem? (i := 64) (by decide +kernel), List.mem_of_getElem? (i := 96) (by decide +kernel), List.mem_of_getElem? (i := 97) (by decide +kernel)⟩
theorem lw_p3 : lw_okq (⟨"ByteFields$Field", "slowProduct", "(II)I"⟩, 6) := ⟨⟨by decide +kernel, by decide +kernel⟩, List.mem_of_getElem? (i := 64) (by decide +kernel), List.mem_of_getElem? (i := 100) (by decide +kernel), List.mem_of_getElem? (i := 101) (by decide +kernel)⟩
theorem lw_p4 : lw_okq (⟨"ByteFields$Roots", "valueAt", "(II)I"⟩, 7) := ⟨⟨by decide +kernel, by decide +kernel⟩, List.mem_of_getElem? (i := 199) (by decide +kernel), List.mem_of_getElem? (i := 207) (by decide +kernel), List.mem_of_getElem? (i := 208) (by decide +kernel)⟩
theorem lw_p5 : lw_okq (⟨"ByteFields", "needMember", "(I)V"⟩, 17) := ⟨⟨by decide +kernel, by decide +kernel⟩, List.mem_of_getElem? (i := 26) (by decide +kernel), List.mem_of_getElem? (i := 340) (by decide +kernel), List.mem_of_getElem? (i := 341) (by decide +kernel)⟩
theorem lw_p6 : lw_okq (⟨"java/lang/Throwable", "fillInStackTrace", "(I)Ljava/lang/Throwable;"⟩, 6) := ⟨⟨by decide +kernel, by decide +kernel⟩, List.mem_of_getElem? (i := 385) (by decide +kernel), List.mem_of_getElem? (i := 383) (by decide +kernel), List.mem_of_getElem? (i := 384) (by decide +kernel)⟩
theorem lw_p7 : lw_okq (⟨"ByteFields", "needMatrixRoom", "()V"⟩, 17) := ⟨⟨by decide +kernel, by decide +kernel⟩, List.mem_of_getElem? (i := 26) (by decide +kernel), List.mem_of_getElem? (i := 567) (by decide +kernel), List.mem_of_getElem? (i := 568) (by decide +kernel)⟩
theorem lw_p8 : lw_okq (⟨"ByteFields", "keepMatrix", "(LByteFields$Matrix;)I"⟩, 17) := ⟨⟨by decide +kernel, by decide +kernel⟩, List.mem_of_getElem? (i := 26) (by decide +kernel), List.mem_of_getElem? (i := 596) (by decide +kernel), List.mem_of_getElem? (i := 597) (by decide +kernel)⟩
theorem lw_p9 : lw_okq (⟨"ByteFields", "hasAlike", "(I)Z"⟩, 17) := ⟨⟨by decide +kernel, by decide +kernel⟩, List.mem_of_getElem? (i := 26) (by decide +kernel), List.mem_of_getElem? (i := 608) (by decide +kernel), List.mem_of_getElem? (i := 609) (by decide +kernel)⟩
theorem lw_p10 : lw_okq (⟨"ByteFields", "matrixAt", "(I)LByteFields$Matrix;"⟩, 17) := ⟨⟨by decide +kernel, by decide +kernel⟩, List.mem_of_getElem? (i := 26) (by decide +kernel), List.mem_of_getElem? (i := 644) (by decide +kernel), List.mem_of_getElem? (i := 645) (by decide +kernel)⟩
theorem lw_p11 : lw_okq (⟨"ByteFields$Elimination", "rowWithMember", "(I)I"⟩, 7) := ⟨⟨by decide +kernel, by decide +kernel⟩, List.mem_of_getElem? (i := 128) (by decide +kernel), List.mem_of_getElem? (i := 706) (by decide +kernel), List.mem_of_getElem? (i := 707) (by decide +kernel)⟩
theorem lw_p12 : lw_okq (⟨"ByteFields$Elimination", "exchange", "(II)V"⟩, 7) := ⟨⟨by decide +kernel, by decide +kernel⟩, List.mem_of_getElem? (i := 128) (by decide +kernel), List.mem_of_getElem? (i := 710) (by decide +kernel), List.mem_of_getElem? (i := 711) (by decide +kernel)⟩
theorem lw_p13 : lw_okq (⟨"ByteFields$Elimination", "free", "(I)V"⟩, 7) := ⟨⟨by decide +kernel, by decide +kernel⟩, List.mem_of_getElem? (i := 128) (by decide +kernel), List.mem_of_getElem? (i := 715) (by decide +kernel), List.mem_of_getElem? (i := 716) (by decide +kernel)⟩
theorem lw_p14 : lw_okq (⟨"ByteFields$Minors", "addRow", "(LByteFields$Matrix;II)I"⟩, 2) := ⟨⟨by decide +kernel, by decide +kernel⟩, List.mem_of_getElem? (i := 159) (by decide +kernel), List.mem_of_getElem? (i := 763) (by decide +kernel), List.mem_of_getElem? (i := 764) (by decide +kernel)⟩
theorem lw_p15 : lw_okq (⟨"ByteFields$Minors", "expanded", "(LByteFields$Matrix;II[I)I"⟩, 2) := ⟨⟨by decide +kernel, by decide +kernel⟩, List.mem_of_getElem? (i := 159) (by decide +kernel), List.mem_of_getElem? (i := 767) (by decide +kernel), List.mem_of_getElem? (i := 768) (by decide +kernel)⟩
def lw_privs_1 : List (MethodName × Nat) := [(⟨"ByteFields$Field", "leastGenerator", "()I"⟩, 6), (⟨"ByteFields$Field", "generates", "(I)Z"⟩, 6), (⟨"ByteFields$Field", "slowPower", "(II)I"⟩, 6), (⟨"ByteFields$Field", "slowProduct", "(II)I"⟩, 6), (⟨"ByteFields$Roots", "valueAt", "(II)I"⟩, 7), (⟨"ByteFields", "needMember", "(I)V"⟩, 17), (⟨"java/lang/Throwable", "fillInStackTrace", "(I)Ljava/lang/Throwable;"⟩, 6), (⟨"ByteFields", "needMatrixRoom", "()V"⟩, 17), (⟨"ByteFields", "keepMatrix", "(LByteFields$Matrix;)I"⟩, 17), (⟨"ByteFields", "hasAlike", "(I)Z"⟩, 17), (⟨"ByteFields", "matrixAt", "(I)LByteFields$Matrix;"⟩, 17), (⟨"ByteFields$Elimination", "rowWithMember", "(I)I"⟩, 7), (⟨"ByteFields$Elimination", "exchange", "(II)V"⟩, 7), (⟨"ByteFields$Elimination", "free", "(I)V"⟩, 7), (⟨"ByteFields$Minors", "addRow", "(LByteFields$Matrix;II)I"⟩, 2), (⟨"ByteFields$Minors", "expanded", "(LByteFields$Matrix;II[I)I"⟩, 2)]
theorem lw_r1 : ∀ q ∈ lw_privs_1, lw_okq q := List.forall_mem_cons.mpr ⟨lw_p0, List.forall_mem_cons.mpr ⟨lw_p1, List.forall_mem_cons.mpr ⟨lw_p2, List.forall_mem_cons.mpr ⟨lw_p3, List.forall_mem_cons.mpr ⟨lw_p4, List.forall_mem_cons.mpr ⟨lw_p5, List.forall_mem_cons.mpr ⟨lw_p6, List.forall_mem_cons.mpr ⟨lw_p7, List.forall_mem_cons.mpr ⟨lw_p8, List.forall_mem_cons.mpr ⟨lw_p9, List.forall_mem_cons.mpr ⟨lw_p10, List.forall_mem_cons.mpr ⟨lw_p11, List.forall_mem_cons.mpr ⟨lw_p12, List.forall_mem_cons.mpr ⟨lw_p13, List.forall_mem_cons.mpr ⟨lw_p14, List.forall_mem_cons.mpr ⟨lw_p15, fun _ h => absurd h List.not_mem_nil⟩⟩⟩⟩⟩⟩⟩⟩⟩⟩⟩⟩⟩⟩⟩⟩
theorem lw_p16 : lw_okq (⟨"ByteFields", "needPolynomialRoom", "()V"⟩, 17) := ⟨⟨by decide +kernel, by decide +kernel⟩, List.mem_of_getElem? (i := 26) (by decide +kernel), List.mem_of_getElem? (i := 800) (by decide +kernel), List.mem_of_getElem? (i := 801) (by decide +kernel)⟩
theorem lw_p17 : lw_okq (⟨"ByteFields", "keepPolynomial", "(LByteFields$Polynomial;)I"⟩, 17) := ⟨⟨by decide +kernel, by decide +kernel⟩, List.mem_of_getElem? (i := 26) (by decide +kernel), List.mem_of_getElem? (i := 818) (by decide +kernel), List.mem_of_getElem? (i := 819) (by decide +kernel)⟩
theorem lw_p18 : lw_okq (⟨"ByteFields$Interpolation", "multiplyAndAdd", "(LByteFields$Polynomial;II)V"⟩, 3) := ⟨⟨by decide +kernel, by decide +kernel⟩, List.mem_of_getElem? (i := 183) (by decide +kernel), List.mem_of_getElem? (i := 845) (by decide +kernel), List.mem_of_getElem? (i := 846) (by decide +kernel)⟩
theorem lw_p19 : lw_okq (⟨"ByteFields", "polynomialAt", "(I)LByteFields$Polynomial;"⟩, 17) := ⟨⟨by decide +kernel, by decide +kernel⟩, List.mem_of_getElem? (i := 26) (by decide +kernel), List.mem_of_getElem? (i := 858) (by decide +kernel), List.mem_of_getElem? (i := 859) (by decide +kernel)⟩
theorem lw_p20 : lw_okq (⟨"ByteFields", "valueOf", "(LByteFields$Polynomial;I)I"⟩, 17) := ⟨⟨by decide +kernel, by decide +kernel⟩, List.mem_of_getElem? (i := 26) (by decide +kernel), List.mem_of_getElem? (i := 878) (by decide +kernel), List.mem_of_getElem? (i := 879) (by decide +kernel)⟩
theorem lw_p21 : lw_okq (⟨"ByteFields$Division", "divideInPlace", "(LByteFields$Polynomial;LByteFields$Polynomial;)V"⟩, 1) := ⟨⟨by decide +kernel, by decide +kernel⟩, List.mem_of_getElem? (i := 173) (by decide +kernel), List.mem_of_getElem? (i := 918) (by decide +kernel), List.mem_of_getElem? (i := 919) (by decide +kernel)⟩
theorem lw_p22 : lw_okq (⟨"ByteFields$Roots", "makeRests", "(LByteFields$Polynomial;)V"⟩, 7) := ⟨⟨by decide +kernel, by decide +kernel⟩, List.mem_of_getElem? (i := 199) (by decide +kernel), List.mem_of_getElem? (i := 961) (by decide +kernel), List.mem_of_getElem? (i := 962) (by decide +kernel)⟩
theorem lw_p23 : lw_okq (⟨"ByteFields$Roots", "keepLower", "(II)V"⟩, 7) := ⟨⟨by decide +kernel, by decide +kernel⟩, List.mem_of_getElem? (i := 199) (by decide +kernel), List.mem_of_getElem? (i := 977) (by decide +kernel), List.mem_of_getElem? (i := 978) (by decide +kernel)⟩
theorem lw_p24 : lw_okq (⟨"ByteFields$Factors", "takeParts", "(I)I"⟩, 6) := ⟨⟨by decide +kernel, by decide +kernel⟩, List.mem_of_getElem? (i := 238) (by decide +kernel), List.mem_of_getElem? (i := 1014) (by decide +kernel), List.mem_of_getElem? (i := 1015) (by decide +kernel)⟩
theorem lw_p25 : lw_okq (⟨"ByteFields", "hasXorOfAhead", "()Z"⟩, 17) := ⟨⟨by decide +kernel, by decide +kernel⟩, List.mem_of_getElem? (i := 26) (by decide +kernel), List.mem_of_getElem? (i := 1028) (by decide +kernel), List.mem_of_getElem? (i := 1029) (by decide +kernel)⟩
theorem lw_p26 : lw_okq (⟨"ByteFields", "xorOfChosen", "(II)I"⟩, 17) := ⟨⟨by decide +kernel, by decide +kernel⟩, List.mem_of_getElem? (i := 26) (by decide +kernel), List.mem_of_getElem? (i := 1032) (by decide +kernel), List.mem_of_getElem? (i := 1033) (by decide +kernel)⟩
theorem lw_p27 : lw_okq (⟨"ByteFields", "needSpan", "()V"⟩, 17) := ⟨⟨by decide +kernel, by decide +kernel⟩, List.mem_of_getElem? (i := 26) (by decide +kernel), List.mem_of_getElem? (i := 1044) (by decide +kernel), List.mem_of_getElem? (i := 1045) (by decide +kernel)⟩
theorem lw_p28 : lw_okq (⟨"ByteFieldsModel", "isPrime", "(I)Z"⟩, 30) := ⟨⟨by decide +kernel, by decide +kernel⟩, List.mem_of_getElem? (i := 1069) (by decide +kernel), List.mem_of_getElem? (i := 1076) (by decide +kernel), List.mem_of_getElem? (i := 1077) (by decide +kernel)⟩
theorem lw_p29 : lw_okq (⟨"ByteFieldsModel", "orderOf", "(I)I"⟩, 30) := ⟨⟨by decide +kernel, by decide +kernel⟩, List.mem_of_getElem? (i := 1069) (by decide +kernel), List.mem_of_getElem? (i := 1086) (by decide +kernel), List.mem_of_getElem? (i := 1087) (by decide +kernel)⟩
theorem lw_p30 : lw_okq (⟨"ByteFieldsModel", "factors", "()I"⟩, 30) := ⟨⟨by decide +kernel, by decide +kernel⟩, List.mem_of_getElem? (i := 1069) (by decide +kernel), List.mem_of_getElem? (i := 1090) (by decide +kernel), List.mem_of_getElem? (i := 1091) (by decide +kernel)⟩
theorem lw_p31 : lw_okq (⟨"ByteFieldsModel", "raised", "(II)I"⟩, 30) := ⟨⟨by decide +kernel, by decide +kernel⟩, List.mem_of_getElem? (i := 1069) (by decide +kernel), List.mem_of_getElem? (i := 1097) (by decide +kernel), List.mem_of_getElem? (i := 1098) (by decide +kernel)⟩
def lw_privs_2 : List (MethodName × Nat) := [(⟨"ByteFields", "needPolynomialRoom", "()V"⟩, 17), (⟨"ByteFields", "keepPolynomial", "(LByteFields$Polynomial;)I"⟩, 17), (⟨"ByteFields$Interpolation", "multiplyAndAdd", "(LByteFields$Polynomial;II)V"⟩, 3), (⟨"ByteFields", "polynomialAt", "(I)LByteFields$Polynomial;"⟩, 17), (⟨"ByteFields", "valueOf", "(LByteFields$Polynomial;I)I"⟩, 17), (⟨"ByteFields$Division", "divideInPlace", "(LByteFields$Polynomial;LByteFields$Polynomial;)V"⟩, 1), (⟨"ByteFields$Roots", "makeRests", "(LByteFields$Polynomial;)V"⟩, 7), (⟨"ByteFields$Roots", "keepLower", "(II)V"⟩, 7), (⟨"ByteFields$Factors", "takeParts", "(I)I"⟩, 6), (⟨"ByteFields", "hasXorOfAhead", "()Z"⟩, 17), (⟨"ByteFields", "xorOfChosen", "(II)I"⟩, 17), (⟨"ByteFields", "needSpan", "()V"⟩, 17), (⟨"ByteFieldsModel", "isPrime", "(I)Z"⟩, 30), (⟨"ByteFieldsModel", "orderOf", "(I)I"⟩, 30), (⟨"ByteFieldsModel", "factors", "()I"⟩, 30), (⟨"ByteFieldsModel", "raised", "(II)I"⟩, 30)]
theorem lw_r2 : ∀ q ∈ lw_privs_2, lw_okq q := List.forall_mem_cons.mpr ⟨lw_p16, List.forall_mem_cons.mpr ⟨lw_p17, List.forall_mem_cons.mpr ⟨lw_p18, List.forall_mem_cons.mpr ⟨lw_p19, List.forall_mem_cons.mpr ⟨lw_p20, List.forall_mem_cons.mpr ⟨lw_p21, List.forall_mem_cons.mpr ⟨lw_p22, List.forall_mem_cons.mpr ⟨lw_p23, List.forall_mem_cons.mpr ⟨lw_p24, List.forall_mem_cons.mpr ⟨lw_p25, List.forall_mem_cons.mpr ⟨lw_p26, List.forall_mem_cons.mpr ⟨lw_p27, List.forall_mem_cons.mpr ⟨lw_p28, List.forall_mem_cons.mpr ⟨lw_p29, List.forall_mem_cons.mpr ⟨lw_p30, List.forall_mem_cons.mpr ⟨lw_p31, fun _ h => absurd h List.not_mem_nil⟩⟩⟩⟩⟩⟩⟩⟩⟩⟩⟩⟩⟩⟩⟩⟩
theorem lw_p32 : lw_okq (⟨"ByteFieldsModel", "mul", "(II)I"⟩, 30) := ⟨⟨by decide +kernel, by decide +kernel⟩, List.mem_of_getElem? (i := 1069) (by decide +kernel), List.mem_of_getElem? (i := 1101) (by decide +kernel), List.mem_of_getElem? (i := 1102) (by decide +kernel)⟩
theorem lw_p33 : lw_okq (⟨"ByteFieldsModel", "isMember", "(I)Z"⟩, 30) := ⟨⟨by decide +kernel, by decide +kernel⟩, List.mem_of_getElem? (i := 1069) (by decide +kernel), List.mem_of_getElem? (i := 1208) (by decide +kernel), List.mem_of_getElem? (i := 1209) (by decide +kernel)⟩
theorem lw_p34 : lw_okq (⟨"ByteFieldsModel", "fail", "(I)I"⟩, 30) := ⟨⟨by decide +kernel, by decide +kernel⟩, List.mem_of_getElem? (i := 1069) (by decide +kernel), List.mem_of_getElem? (i := 1212) (by decide +kernel), List.mem_of_getElem? (i := 1213) (by decide +kernel)⟩
theorem lw_p35 : lw_okq (⟨"ByteFieldsModel", "inverse", "(I)I"⟩, 30) := ⟨⟨by decide +kernel, by decide +kernel⟩, List.mem_of_getElem? (i := 1069) (by decide +kernel), List.mem_of_getElem? (i := 1220) (by decide +kernel), List.mem_of_getElem? (i := 1221) (by decide +kernel)⟩
theorem lw_p36 : lw_okq (⟨"ByteFieldsModel", "made", "(II)I"⟩, 30) := ⟨⟨by decide +kernel, by decide +kernel⟩, List.mem_of_getElem? (i := 1069) (by decide +kernel), List.mem_of_getElem? (i := 1255) (by decide +kernel), List.mem_of_getElem? (i := 1256) (by decide +kernel)⟩
theorem lw_p37 : lw_okq (⟨"ByteFieldsModel", "hasAlike", "(II)Z"⟩, 30) := ⟨⟨by decide +kernel, by decide +kernel⟩, List.mem_of_getElem? (i := 1069) (by decide +kernel), List.mem_of_getElem? (i := 1263) (by decide +kernel), List.mem_of_getElem? (i := 1264) (by decide +kernel)⟩
theorem lw_p38 : lw_okq (⟨"ByteFieldsModel", "at", "(III)I"⟩, 30) := ⟨⟨by decide +kernel, by decide +kernel⟩, List.mem_of_getElem? (i := 1069) (by decide +kernel), List.mem_of_getElem? (i := 1267) (by decide +kernel), List.mem_of_getElem? (i := 1268) (by decide +kernel)⟩
theorem lw_p39 : lw_okq (⟨"ByteFieldsModel", "isMatrix", "(I)Z"⟩, 30) := ⟨⟨by decide +kernel, by decide +kernel⟩, List.mem_of_getElem? (i := 1069) (by decide +kernel), List.mem_of_getElem? (i := 1279) (by decide +kernel), List.mem_of_getElem? (i := 1280) (by decide +kernel)⟩
theorem lw_p40 : lw_okq (⟨"ByteFieldsModel", "isCell", "(III)Z"⟩, 30) := ⟨⟨by decide +kernel, by decide +kernel⟩, List.mem_of_getElem? (i := 1069) (by decide +kernel), List.mem_of_getElem? (i := 1287) (by decide +kernel), List.mem_of_getElem? (i := 1288) (by decide +kernel)⟩
theorem lw_p41 : lw_okq (⟨"ByteFieldsModel", "minors", "(I)V"⟩, 30) := ⟨⟨by decide +kernel, by decide +kernel⟩, List.mem_of_getElem? (i := 1069) (by decide +kernel), List.mem_of_getElem? (i := 1303) (by decide +kernel), List.mem_of_getElem? (i := 1304) (by decide +kernel)⟩
theorem lw_p42 : lw_okq (⟨"ByteFieldsModel", "kept", "([I)I"⟩, 30) := ⟨⟨by decide +kernel, by decide +kernel⟩, List.mem_of_getElem? (i := 1069) (by decide +kernel), List.mem_of_getElem? (i := 1336) (by decide +kernel), List.mem_of_getElem? (i := 1337) (by decide +kernel)⟩
theorem lw_p43 : lw_okq (⟨"ByteFieldsModel", "begin", "()V"⟩, 30) := ⟨⟨by decide +kernel, by decide +kernel⟩, List.mem_of_getElem? (i := 1069) (by decide +kernel), List.mem_of_getElem? (i := 1344) (by decide +kernel), List.mem_of_getElem? (i := 1345) (by decide +kernel)⟩
theorem lw_p44 : lw_okq (⟨"ByteFieldsModel", "point", "(II)V"⟩, 30) := ⟨⟨by decide +kernel, by decide +kernel⟩, List.mem_of_getElem? (i := 1069) (by decide +kernel), List.mem_of_getElem? (i := 1348) (by decide +kernel), List.mem_of_getElem? (i := 1349) (by decide +kernel)⟩
theorem lw_p45 : lw_okq (⟨"ByteFieldsModel", "at", "([II)I"⟩, 30) := ⟨⟨by decide +kernel, by decide +kernel⟩, List.mem_of_getElem? (i := 1069) (by decide +kernel), List.mem_of_getElem? (i := 1352) (by decide +kernel), List.mem_of_getElem? (i := 1353) (by decide +kernel)⟩
theorem lw_p46 : lw_okq (⟨"ByteFieldsModel", "isPolynomial", "(I)Z"⟩, 30) := ⟨⟨by decide +kernel, by decide +kernel⟩, List.mem_of_getElem? (i := 1069) (by decide +kernel), List.mem_of_getElem? (i := 1360) (by decide +kernel), List.mem_of_getElem? (i := 1361) (by decide +kernel)⟩
theorem lw_p47 : lw_okq (⟨"ByteFieldsModel", "load", "([II)V"⟩, 30) := ⟨⟨by decide +kernel, by decide +kernel⟩, List.mem_of_getElem? (i := 1069) (by decide +kernel), List.mem_of_getElem? (i := 1372) (by decide +kernel), List.mem_of_getElem? (i := 1373) (by decide +kernel)⟩
def lw_privs_3 : List (MethodName × Nat) := [(⟨"ByteFieldsModel", "mul", "(II)I"⟩, 30), (⟨"ByteFieldsModel", "isMember", "(I)Z"⟩, 30), (⟨"ByteFieldsModel", "fail", "(I)I"⟩, 30), (⟨"ByteFieldsModel", "inverse", "(I)I"⟩, 30), (⟨"ByteFieldsModel", "made", "(II)I"⟩, 30), (⟨"ByteFieldsModel", "hasAlike", "(II)Z"⟩, 30), (⟨"ByteFieldsModel", "at", "(III)I"⟩, 30), (⟨"ByteFieldsModel", "isMatrix", "(I)Z"⟩, 30), (⟨"ByteFieldsModel", "isCell", "(III)Z"⟩, 30), (⟨"ByteFieldsModel", "minors", "(I)V"⟩, 30), (⟨"ByteFieldsModel", "kept", "([I)I"⟩, 30), (⟨"ByteFieldsModel", "begin", "()V"⟩, 30), (⟨"ByteFieldsModel", "point", "(II)V"⟩, 30), (⟨"ByteFieldsModel", "at", "([II)I"⟩, 30), (⟨"ByteFieldsModel", "isPolynomial", "(I)Z"⟩, 30), (⟨"ByteFieldsModel", "load", "([II)V"⟩, 30)]
theorem lw_r3 : ∀ q ∈ lw_privs_3, lw_okq q := List.forall_mem_cons.mpr ⟨lw_p32, List.forall_mem_cons.mpr ⟨lw_p33, List.forall_mem_cons.mpr ⟨lw_p34, List.forall_mem_cons.mpr ⟨lw_p35, List.forall_mem_cons.mpr ⟨lw_p36, List.forall_mem_cons.mpr ⟨lw_p37, List.forall_mem_cons.mpr ⟨lw_p38, List.forall_mem_cons.mpr ⟨lw_p39, List.forall_mem_cons.mpr ⟨lw_p40, List.forall_mem_cons.mpr ⟨lw_p41, List.forall_mem_cons.mpr ⟨lw_p42, List.forall_mem_cons.mpr ⟨lw_p43, List.forall_mem_cons.mpr ⟨lw_p44, List.forall_mem_cons.mpr ⟨lw_p45, List.forall_mem_cons.mpr ⟨lw_p46, List.forall_mem_cons.mpr ⟨lw_p47, fun _ h => absurd h List.not_mem_nil⟩⟩⟩⟩⟩⟩⟩⟩⟩⟩⟩⟩⟩⟩⟩⟩
theorem lw_p48 : lw_okq (⟨"ByteFieldsModel", "split", "([I[I)V"⟩, 30) := ⟨⟨by decide +kernel, by decide +kernel⟩, List.mem_of_getElem? (i := 1069) (by decide +kernel), List.mem_of_getElem? (i := 1388) (by decide +kernel), List.mem_of_getElem? (i := 1389) (by decide +kernel)⟩
theorem lw_p49 : lw_okq (⟨"ByteFieldsModel", "divisor", "([I[I)V"⟩, 30) := ⟨⟨by decide +kernel, by decide +kernel⟩, List.mem_of_getElem? (i := 1069) (by decide +kernel), List.mem_of_getElem? (i := 1396) (by decide +kernel), List.mem_of_getElem? (i := 1397) (by decide +kernel)⟩
theorem lw_p50 : lw_okq (⟨"ByteFieldsModel", "lookAtParts", "(I)V"⟩, 30) := ⟨⟨by decide +kernel, by decide +kernel⟩, List.mem_of_getElem? (i := 1069) (by decide +kernel), List.mem_of_getElem? (i := 1415) (by decide +kernel), List.mem_of_getElem? (i := 1416) (by decide +kernel)⟩
theorem lw_p51 : lw_okq (⟨"ByteFieldsModel", "square", "([I)V"⟩, 30) := ⟨⟨by decide +kernel, by decide +kernel⟩, List.mem_of_getElem? (i := 1069) (by decide +kernel), List.mem_of_getElem? (i := 1419) (by decide +kernel), List.mem_of_getElem? (i := 1420) (by decide +kernel)⟩
def lw_privs_4 : List (MethodName × Nat) := [(⟨"ByteFieldsModel", "split", "([I[I)V"⟩, 30), (⟨"ByteFieldsModel", "divisor", "([I[I)V"⟩, 30), (⟨"ByteFieldsModel", "lookAtParts", "(I)V"⟩, 30), (⟨"ByteFieldsModel", "square", "([I)V"⟩, 30)]
theorem lw_r4 : ∀ q ∈ lw_privs_4, lw_okq q := List.forall_mem_cons.mpr ⟨lw_p48, List.forall_mem_cons.mpr ⟨lw_p49, List.forall_mem_cons.mpr ⟨lw_p50, List.forall_mem_cons.mpr ⟨lw_p51, fun _ h => absurd h List.not_mem_nil⟩⟩⟩⟩
def lw_privs : List (MethodName × Nat) := lw_privs_1 ++ (lw_privs_2 ++ (lw_privs_3 ++ (lw_privs_4)))
def lw_tbl : List Cond := k2_sels lw_privs ++ tables_1
theorem lw_privs_ok : ∀ q ∈ lw_privs, lw_okq q := by
  show ∀ q ∈ lw_privs_1 ++ (lw_privs_2 ++ (lw_privs_3 ++ (lw_privs_4))), lw_okq q
  exact List.forall_mem_append.mpr ⟨lw_r1, List.forall_mem_append.mpr ⟨lw_r2, List.forall_mem_append.mpr ⟨lw_r3, lw_r4⟩⟩⟩
end
section
/-! ===== BEGIN words of one list among another's, by their places ===== -/
theorem goodIn_r {big : List Cond} (ws : List Cond) (ps : List Nat) (hp : ws = ps.filterMap (fun i => big[i]?)) (h : ws.all goodWord = true) : GoodIn big ws := by
  intro w hw
  have h1 := List.all_eq_true.mp h w hw
  rw [hp] at hw
  obtain ⟨i, -, hi⟩ := List.mem_filterMap.mp hw
  have hm : w ∈ big := by first | exact List.mem_of_getElem? hi | exact List.getElem?_mem hi
  exact ⟨hm, good_of_word h1⟩
theorem goodIn_app {big a b : List Cond} (ha : GoodIn big a) (hb : GoodIn big b) : GoodIn big (a ++ b) := fun w h => (List.mem_append.mp h).elim (ha w) (hb w)
theorem goodIn_ca {big a b : List Cond} {c : Cond} (ha : GoodIn big (c :: a)) (hb : GoodIn big b) : GoodIn big (c :: (a ++ b)) := fun w h => (List.mem_cons.mp h).elim (fun e => ha w (List.mem_cons.mpr (Or.inl e))) (fun h => (List.mem_append.mp h).elim (fun h => ha w (List.mem_cons.mpr (Or.inr h))) (hb w))
theorem goodIn_sub {big ws : List Cond} (hm : ∀ w ∈ ws, w ∈ big) (h : ws.all goodWord = true) : GoodIn big ws := fun w hw => ⟨hm w hw, good_of_word (List.all_eq_true.mp h w hw)⟩
/-! ===== END ===== -/

/-! ===== BEGIN new T[n][m]: the outer array a place, the inner ones among the pooled ===== -/
/-- f, but v at every address of l -/
def vr_up {α : Type} (f : Nat → α) (l : List Nat) (v : α) : Nat → α := fun a => if a ∈ l then v else f a
theorem vr_up_in {α : Type} {f : Nat → α} {l : List Nat} {v : α} {a : Nat} (h : a ∈ l) : vr_up f l v a = v := if_pos h
theorem vr_up_ne {α : Type} {f : Nat → α} {l : List Nat} {v : α} {a : Nat} (h : a ∉ l) : vr_up f l v a = f a := if_neg h
theorem vr_rows {L l : List Nat} {f : Nat → va_E} {e : va_E} (h : ∀ a, a ∈ l → a ∉ L) : va_pl L f ++ l.map (fun a => (a, e)) = va_pl (L ++ l) (vr_up f l e) := by
  unfold va_pl
  rw [List.map_append]
  congr 1
  · apply List.map_congr_left
    intro a ha
    rw [vr_up_ne (fun q => h a q ha)]
  · apply List.map_congr_left
    intro a ha
    rw [vr_up_in ha]
theorem vr_lay {X rows : va_W} {x : Nat × va_E} {pl : va_W} {D : va_G} {cl : List vw_C} {H : Heap} (hP : va_P D cl (((X ++ pl) ++ [x]) ++ rows) H) : va_P D cl ((X ++ [x]) ++ (pl ++ rows)) H := by
  rw [List.append_assoc (X ++ pl)] at hP
  have h := va_P.swap hP
  rw [← List.append_assoc X] at h
  have h2 := va_P.swap h
  rw [List.append_assoc (X ++ [x])] at h2
  exact h2
theorem vr_layD {X rows : va_W} {x : Nat × va_E} {pl : va_W} {A : Nat → Prop} (hD : va_D A (((X ++ pl) ++ [x]) ++ rows)) : va_D A ((X ++ [x]) ++ (pl ++ rows)) := by
  rw [List.append_assoc (X ++ pl)] at hD
  have h := va_D.swap hD
  rw [← List.append_assoc X] at h
  have h2 := va_D.swap h
  rw [List.append_assoc (X ++ [x])] at h2
  exact h2
theorem vr_outer (c : ClassId) (N h0 : Nat) : ∀ i : Nat, Jvm.Free.Multi.outerC c N h0 i = arrV c N (fun j => va_rf (if j < i then some (h0 + 1 + j) else none))
  | 0 => by
    show ({ cls := c, slots := Array.replicate N .null, vm := .none } : Cell) = _
    rw [arrV_new]
    refine congrArg (arrV c N) (funext fun j => ?_)
    simp [va_rf]
  | i + 1 => by
    show (Jvm.Free.Multi.outerC c N h0 i).setSlot i (.ref (h0 + 1 + i)) = _
    rw [vr_outer c N h0 i, arrV_store]
    refine congrArg (arrV c N) (funext fun j => ?_)
    by_cases e : j = i
    · subst e
      simp [updV, va_rf]
    · by_cases h : j < i
      · simp [updV, e, h, Nat.lt_succ_of_lt h]
      · simp [updV, e, h, show ¬ j < i + 1 by omega]
/-! ===== BEGIN exceptions that leave a method, and their catching by the caller (launches without stack traces) ===== -/
section VXA
/-! The laws vx_back, vx_callV, vx_callS, vx_callSW, vx_throw0, vx_throwS follow proofs of the library, with one case more: JvmDerived/Free/Laws.lean (Back.of_free), Shelf42/LK1.lean (callV, callS), Shelf/KitTraced.lean (throwNew0V, throwNewS). -/
/-- where a method has thrown q: the class by its name, the cell, what was written, the world -/
def vx_T (XC : String → State → State → Prop) (st : State) (q : Addr) (t : State) (mc ms : Nat) (free : Addr → Prop) : Prop :=
  ∃ (E : String) (ce : Cell) (L : List Loc), XC E st t ∧ t.heap[q]? = some ce ∧ ce.vm = .none ∧ st.vm.findClass E = some ce.cls ∧ st.WarmedH t.vm ∧ st.sameButNew ({ t with vm := st.vm } : State) L mc ms ∧ ∀ z ∈ L, free z.base
def vx_Q (Qc : Array Value → State → Outcome → State → Prop) (XC : String → State → State → Prop) (mc ms : Nat) (free : Addr → Prop) : Array Value → State → Outcome → State → Prop := fun a st o t =>
  (Qc a st o t ∧ ∃ L, FrameEnd st o t L mc ms ∧ ∀ q ∈ L, free q.base) ∨ ∃ q, o = .threw q ∧ vx_T XC st q t mc ms free
/-- a callee that returns or throws -/
def vx_Met (l : Launch) (y : MethodName) (ws : List Cond) (rm : Room) (Pc : Array Value → State → Prop) (Qc : Array Value → State → Outcome → State → Prop) (XC : String → State → State → Prop) (mc ms : Nat) (free : Addr → Prop) : Prop :=
  MetFree l y (headSpec ws rm) Pc (fun _ _ _ _ _ => True) (vx_Q Qc XC mc ms free)
def vx_Post (XC : String → State → State → Prop) (mc ms : Nat) (free : Addr → Prop) : Pt → Array Value → Addr → Pt → Prop := fun A a q B =>
  ∃ (g : JFrame) (mk : MethodId) (t : State) (L : List Loc) (E : String) (ce : Cell), B.U.heap = t.heap ∧ B.U.vm = t.vm ∧ XC E (A.U.calling g mk a) t ∧ t.heap[q]? = some ce ∧ ce.vm = .none ∧ A.U.vm.findClass E = some ce.cls ∧ B.locs = A.locs ++ L ∧ (∀ z ∈ L, free z.base) ∧ B.cells = A.cells + mc ∧ B.slots = A.slots + ms
def vx_Back (l : Launch) (R : Room) (p : Program) (e : Env) (below : List Frame) (s : State) (sargs : Array Value) (y : MethodName) (len W9 : Nat)
    (Pre : Pt → Array Value → Prop) (Post : Pt → Array Value → Option Value → Pt → Prop) (PostX : Pt → Array Value → Addr → Pt → Prop) : Prop :=
  ∀ (m : MethodId) (meth : Method) (c : Code) (A : Pt) (g : JFrame) (ig : Instr) (mk : MethodId) (a : Array Value),
    Stand p l e R s m sargs below meth c A.U A.locs A.cells A.slots → g.method = m → g.locals.size = c.maxLocals → decode c.code g.pc = .ok (ig, len) →
    2 * g.monitorRoom + (g.stack.map fun v => v.category).sum ≤ W9 → A.U.methodNamed? y = some mk → Pre A a →
    (∃ (v : Option Value) (B : Pt), Stand p l e R s m sargs below meth c B.U B.locs B.cells B.slots ∧ Post A a v B ∧
      Steps p.tables e below (doInvoke e (A.U.setTop g) [] mk a).1 (B.U.setTop { g with pc := g.pc + len, stack := v.toList ++ g.stack })) ∨
    (∃ (q : Addr) (B : Pt), Stand p l e R s m sargs below meth c B.U B.locs B.cells B.slots ∧ PostX A a q B ∧
      Steps p.tables e below (doInvoke e (A.U.setTop g) [] mk a).1 ((B.U.setTop g).pushFrame (.throwing q)))
section Payer
variable {l : Launch} {R : Room} {p : Program} {e : Env} {below : List Frame} {s : State} {sargs : Array Value} {y : MethodName} {len W9 : Nat}
theorem vx_back {ws : List Cond} {rm : Room} {Pc : Array Value → State → Prop} {Qc : Array Value → State → Outcome → State → Prop} {XC : String → State → State → Prop} {mc ms : Nat} {free : Addr → Prop} {bytes : ByteArray} {maxL : Nat} {ret : Option FieldType}
    (hM : vx_Met l y ws rm Pc Qc XC mc ms free) (hblind : FrameBlind Pc) (hrc : rm.cells = mc) (hrs : rm.slots = ms)
    (hframes : rm.frames + 1 ≤ R.frames) (hlocals : W9 + (maxL + 11) + rm.locals ≤ R.locals)
    (hws : ∀ w ∈ ws, ∀ a' U, s.WarmedH U.vm → w.before a' U = true) (hcode : Cond.code y bytes maxL ret ∈ ws) (hinit : ∀ a' U, s.WarmedH U.vm → (Cond.initialized y.cls).before a' U = true) :
    vx_Back l R p e below s sargs y len W9 (PreOf R mc ms Pc) (PostOf Qc mc ms free) (vx_Post XC mc ms free) := by
  intro m meth c A g ig mk a X hg hsize hdg hW hn hp
  have h1 : (headSpec ws rm).pre.before a A.U = true := atoms_intro fun w hw => hws w hw _ _ X.warmed
  have h2 : (Cond.code y bytes maxL ret).before a A.U = true := hws _ hcode _ _ X.warmed
  have h3 : (Cond.initialized y.cls).before a A.U = true := hinit _ _ X.warmed
  have h4 : A.cells + (headSpec ws rm).room.cells ≤ R.cells := by rw [show (headSpec ws rm).room.cells = mc from hrc]; exact hp.1
  have h5 : A.slots + (headSpec ws rm).room.slots ≤ R.slots := by rw [show (headSpec ws rm).room.slots = ms from hrs]; exact hp.2.1
  have hPc : Pc a (A.U.calling g mk a) := hblind _ _ _ _ hp.2.2
  obtain ⟨U, Ls, c0, s0⟩ := A
  dsimp only [Pt.U, Pt.locs, Pt.cells, Pt.slots] at h1 h2 h3 h4 h5 X hn hPc ⊢
  obtain ⟨methY, cY, hmY, hcY, -, hlY, -, -, -, -⟩ := Cond.code_spec hn h2
  obtain ⟨kY, hkY, -⟩ := className_of_methodNamed hn
  have hinitY : kY.init = .initialized := Cond.initialized_spec (findClass_of_methodNamed hn) hkY h3
  have h : At U g.method c below := by rw [hg]; exact X.here
  have hlocals9 : W9 + (maxL + 11) + (headSpec ws rm).room.locals ≤ R.locals := hlocals
  have happ : (headSpec ws rm).appliesLoose y e.platform (U.calling g mk a) = true :=
    Spec.appliesLoose_calling (g := g) h hdg hn hkY hinitY
      (X.room_calling (g := g) (R' := (headSpec ws rm).room) hsize hmY hcY hframes (by rw [hlY]; omega) h4 h5) h1
  obtain ⟨mid, hmid⟩ := h.above
  have hfr : (U.setTop g).frames = (.java g :: mid) ++ below := by rw [State.frames_setTop' g h.top, hmid]; rfl
  obtain ⟨o, s₂, hsteps, -, hend, hq⟩ := Steps.callFree hM p X.admits X.cas X.clock (acts := []) hfr happ hPc trivial
  have hq' : vx_Q Qc XC mc ms free a (U.calling g mk a) o s₂ := hq
  rw [State.frames_setTop' g h.top] at hend
  obtain ⟨g₀, hg0⟩ := Option.isSome_iff_exists.mp h.top
  obtain ⟨r, hr⟩ := State.topJava?_eq_some.mp hg0
  have hr' : (({ U with heap := s₂.heap, slotsUsed := s₂.slotsUsed } : State).setVm s₂.vm).frames = .java g₀ :: r := hr
  rcases hq' with ⟨hqc, L, hfe, hL⟩ | ⟨q, rfl, E, ce, L, hx, hce, hcv, hcl, hW₂, hsm, hL⟩
  · obtain ⟨⟨v, rfl⟩, hW₂, e2, q2, q3, q4, q5, q6⟩ := id hfe
    have e3 : s₂ = ({ (U.calling g mk a).setFrames s₂.frames with heap := s₂.heap, slotsUsed := s₂.slotsUsed } : State).setVm s₂.vm := by
      have : s₂ = ({ s₂ with vm := (U.calling g mk a).vm } : State).setVm s₂.vm := rfl
      rw [e2] at this
      exact this
    obtain ⟨c₂, i₂, len₂, hc₂, hd₂, hf₂⟩ := hend
    have hW' : U.WarmedH s₂.vm := hW₂
    have hcc : c₂ = c := by
      have h1 : s₂.code? g.method = U.code? g.method := by
        rw [State.code?_eq, State.code?_eq, hW'.alike.method?]
      exact Option.some.inj (hc₂.symm.trans (h1.trans h.code))
    subst hcc
    have hlen : len₂ = len := by rw [hdg] at hd₂; cases hd₂; rfl
    subst hlen
    have hs₂ : s₂ = (({ U with heap := s₂.heap, slotsUsed := s₂.slotsUsed } : State).setVm s₂.vm).setTop { g with pc := g.pc + len₂, stack := v.toList ++ g.stack } := by
      refine e3.trans ?_
      rw [hf₂, State.calling_eq h.top, State.setFrames_setFrames, State.setTop_of_frames _ hr', hr]
      rfl
    have hsame : U.sameButNew ({ U with heap := s₂.heap, slotsUsed := s₂.slotsUsed } : State) L mc ms := by
      refine ⟨?_, q2, q3, q4, q5, q6⟩
      obtain ⟨t, ht, -⟩ := State.frames_cons hr
      show ({ U with heap := s₂.heap, slotsUsed := s₂.slotsUsed } : State) = { U.setFrames U.frames with heap := s₂.heap, slotsUsed := s₂.slotsUsed }
      rw [State.setFrames_self ht]
    subst hg
    refine Or.inl ⟨v, ⟨(({ U with heap := s₂.heap, slotsUsed := s₂.slotsUsed } : State).setVm s₂.vm), Ls ++ L, c0 + mc, s0 + ms⟩,
      ⟨X.admits, X.cas, X.clock, X.frames, X.room, X.hears, X.method, X.code, (X.here.setHeapUsed s₂.heap s₂.slotsUsed).setVm hW'.alike, X.tail, State.WarmedH.trans X.warmed hW', X.limits, X.bytes, X.same.trans (hsame.setVm s.vm)⟩,
      ⟨g, mk, s₂, L, rfl, rfl, hqc, rfl, hL, rfl, rfl⟩, ?_⟩
    show Steps p.tables e below _ ((({ U with heap := s₂.heap, slotsUsed := s₂.slotsUsed } : State).setVm s₂.vm).setTop { g with pc := g.pc + len₂, stack := v.toList ++ g.stack })
    rw [← hs₂]
    exact hsteps
  · obtain ⟨e2, q2, q3, q4, q5, q6⟩ := id hsm
    have e3 : s₂ = ({ (U.calling g mk a).setFrames s₂.frames with heap := s₂.heap, slotsUsed := s₂.slotsUsed } : State).setVm s₂.vm := by
      have : s₂ = ({ s₂ with vm := (U.calling g mk a).vm } : State).setVm s₂.vm := rfl
      rw [e2] at this
      exact this
    have hf₂ : s₂.frames = .throwing q :: .java g :: U.frames.tail := hend
    have hW' : U.WarmedH s₂.vm := hW₂
    have hs₂ : s₂ = ((({ U with heap := s₂.heap, slotsUsed := s₂.slotsUsed } : State).setVm s₂.vm).setTop g).pushFrame (.throwing q) := by
      refine e3.trans ?_
      rw [hf₂, State.calling_eq h.top, State.setFrames_setFrames, State.pushFrame, State.frames_setTop _ hr', State.setTop_of_frames _ hr', State.setFrames_setFrames, hr]
      rfl
    have hsame : U.sameButNew ({ U with heap := s₂.heap, slotsUsed := s₂.slotsUsed } : State) L mc ms := by
      refine ⟨?_, q2, q3, q4, q5, q6⟩
      obtain ⟨t, ht, -⟩ := State.frames_cons hr
      show ({ U with heap := s₂.heap, slotsUsed := s₂.slotsUsed } : State) = { U.setFrames U.frames with heap := s₂.heap, slotsUsed := s₂.slotsUsed }
      rw [State.setFrames_self ht]
    subst hg
    refine Or.inr ⟨q, ⟨(({ U with heap := s₂.heap, slotsUsed := s₂.slotsUsed } : State).setVm s₂.vm), Ls ++ L, c0 + mc, s0 + ms⟩,
      ⟨X.admits, X.cas, X.clock, X.frames, X.room, X.hears, X.method, X.code, (X.here.setHeapUsed s₂.heap s₂.slotsUsed).setVm hW'.alike, X.tail, State.WarmedH.trans X.warmed hW', X.limits, X.bytes, X.same.trans (hsame.setVm s.vm)⟩,
      ⟨g, mk, s₂, L, E, ce, rfl, rfl, hx, hce, hcv, hcl, rfl, hL, rfl, rfl⟩, ?_⟩
    show Steps p.tables e below _ (((({ U with heap := s₂.heap, slotsUsed := s₂.slotsUsed } : State).setVm s₂.vm).setTop g).pushFrame (.throwing q))
    rw [← hs₂]
    exact hsteps
end Payer
section Calls
variable {p : Program} {l : Launch} {e : Env} {R : Room} {s : State} {m : MethodId} {args : Array Value} {below : List Frame} {meth : Method} {c : Code} {T : State} {locs : List Loc} {cells slots : Nat}
theorem vx_callV (X : Stand p l e R s m args below meth c T locs cells slots) (hexec : p.tables.exec = Jvm.exec) {own C : String} {index : Nat} {y : MethodName} {bytes : ByteArray} {maxL : Nat} {ret : Option FieldType}
    (hown : s.vm.findClass own = some m.cls) (hlink : (Cond.methodLink own index y).before args s = true) (hinst : (Cond.instanceMethod y).before args s = true) (hsel : (Cond.selects C y y).before args s = true)
    (hcode : (Cond.code y bytes maxL ret).before args s = true) (hy : y.cls ≠ "java/lang/invoke/MethodHandle" ∧ y.cls ≠ "java/lang/invoke/VarHandle")
    {W9 : Nat} {Pre : Pt → Array Value → Prop} {Post : Pt → Array Value → Option Value → Pt → Prop} {PostX : Pt → Array Value → Addr → Pt → Prop} (hK : vx_Back l R p e below s args y 3 W9 Pre Post PostX)
    {b : Addr} {cellB : Cell} (hcell : T.heap[b]? = some cellB) (hobj : cellB.vm.isStatics = false) (hcls : s.vm.findClass C = some cellB.cls)
    {g : JFrame} (hg : g.method = m) (hsize : g.locals.size = c.maxLocals) {argsL rest : List Value} (hlen : ∀ sig, parseMethodDescriptor y.desc = some sig → argsL.length = sig.parameters.length)
    (hstack : g.stack = argsL.reverse ++ .ref b :: rest) (hW : 2 * g.monitorRoom + (rest.map fun v => v.category).sum ≤ W9) (hdg : decode c.code g.pc = .ok (.invokevirtual index, 3))
    (hpre : ∀ vm₁, s.WarmedH vm₁ → Pre ⟨T.setVm vm₁, locs, cells, slots⟩ (Value.ref b :: argsL).toArray) :
    (∃ (v : Option Value) (vm₁ : Vm) (B : Pt), s.WarmedH vm₁ ∧ Stand p l e R s m args below meth c B.U B.locs B.cells B.slots ∧ Post ⟨T.setVm vm₁, locs, cells, slots⟩ (Value.ref b :: argsL).toArray v B ∧
      ∀ target, Steps p.tables e below (B.U.setTop { g with pc := g.pc + 3, stack := v.toList ++ rest }) target → Steps p.tables e below (T.setTop g) target) ∨
    (∃ (q : Addr) (vm₁ : Vm) (B : Pt), s.WarmedH vm₁ ∧ Stand p l e R s m args below meth c B.U B.locs B.cells B.slots ∧ PostX ⟨T.setVm vm₁, locs, cells, slots⟩ (Value.ref b :: argsL).toArray q B ∧
      Steps p.tables e below (T.setTop g) ((B.U.setTop { g with stack := rest }).pushFrame (.throwing q))) := by
  obtain ⟨mk, methM, hnamed, hmethM, hstM, habM⟩ := Cond.instanceMethod_spec hinst
  obtain ⟨methM', cM, hmethM', -, -, -, -, -, -, hsigM⟩ := Cond.code_spec hnamed hcode
  cases hmethM.symm.trans hmethM'
  obtain ⟨c2, r2, m2, q1, q2, q3, q4, kP, hkP, hkPi⟩ := Cond.selects_spec hsel
  cases hcls.symm.trans q1
  cases (State.methodFound?_of_named hnamed hy).symm.trans q2
  cases hnamed.symm.trans q3
  have hselP : selectMethod e.platform s.vm cellB.cls mk = .method mk := by rw [Launch.admits_selectMethod X.admits]; exact q4
  obtain ⟨vm₁, X₁, hstep₁⟩ := X.invokevirtual hexec hown hlink hnamed hmethM hstM hkP hkPi hy (a := b) (cell := cellB) hcell
    (fun z h => by rw [h] at hobj; cases hobj) hselP hmethM habM hkP hkPi (g := g) hg (argsL := argsL) (rest := rest) (hlen _ hsigM) hstack hdg
  rcases hK m meth c ⟨T.setVm vm₁, locs, cells, slots⟩ { g with stack := rest } (.invokevirtual index) mk (Value.ref b :: argsL).toArray X₁ hg hsize hdg hW (X₁.named hnamed) (hpre vm₁ X₁.warmed) with ⟨v, B, X', hpost, hsteps⟩ | ⟨q, B, X', hpost, hsteps⟩
  · exact Or.inl ⟨v, vm₁, B, X₁.warmed, X', hpost, fun target h => hstep₁ _ fun acts => by rw [doInvoke_state]; exact hsteps.trans h⟩
  · exact Or.inr ⟨q, vm₁, B, X₁.warmed, X', hpost, hstep₁ _ fun acts => by rw [doInvoke_state]; exact hsteps⟩
theorem vx_callS (X : Stand p l e R s m args below meth c T locs cells slots) (hexec : p.tables.exec = Jvm.exec) {own : String} {index : Nat} {y : MethodName} {bytes : ByteArray} {maxL : Nat} {ret : Option FieldType}
    (hown : s.vm.findClass own = some m.cls) (hlink : (Cond.methodLink own index y).before args s = true) (hstat : (Cond.static y).before args s = true) (hinit : (Cond.initialized y.cls).before args s = true)
    (hcode : (Cond.code y bytes maxL ret).before args s = true) (hy : y.cls ≠ "java/lang/invoke/MethodHandle" ∧ y.cls ≠ "java/lang/invoke/VarHandle")
    {W9 : Nat} {Pre : Pt → Array Value → Prop} {Post : Pt → Array Value → Option Value → Pt → Prop} {PostX : Pt → Array Value → Addr → Pt → Prop} (hK : vx_Back l R p e below s args y 3 W9 Pre Post PostX)
    {g : JFrame} (hg : g.method = m) (hsize : g.locals.size = c.maxLocals) {argsL rest : List Value} (hlen : ∀ sig, parseMethodDescriptor y.desc = some sig → argsL.length = sig.parameters.length)
    (hstack : g.stack = argsL.reverse ++ rest) (hW : 2 * g.monitorRoom + (rest.map fun v => v.category).sum ≤ W9) (hdg : decode c.code g.pc = .ok (.invokestatic index, 3))
    (hpre : ∀ vm₁, s.WarmedH vm₁ → Pre ⟨T.setVm vm₁, locs, cells, slots⟩ argsL.toArray) :
    (∃ (v : Option Value) (vm₁ : Vm) (B : Pt), s.WarmedH vm₁ ∧ Stand p l e R s m args below meth c B.U B.locs B.cells B.slots ∧ Post ⟨T.setVm vm₁, locs, cells, slots⟩ argsL.toArray v B ∧
      ∀ target, Steps p.tables e below (B.U.setTop { g with pc := g.pc + 3, stack := v.toList ++ rest }) target → Steps p.tables e below (T.setTop g) target) ∨
    (∃ (q : Addr) (vm₁ : Vm) (B : Pt), s.WarmedH vm₁ ∧ Stand p l e R s m args below meth c B.U B.locs B.cells B.slots ∧ PostX ⟨T.setVm vm₁, locs, cells, slots⟩ argsL.toArray q B ∧
      Steps p.tables e below (T.setTop g) ((B.U.setTop { g with stack := rest }).pushFrame (.throwing q))) := by
  obtain ⟨mk, hnamed⟩ := Cond.code_named hcode
  obtain ⟨methM, cM, hmethM, -, -, -, -, -, -, hsigM⟩ := Cond.code_spec hnamed hcode
  have hstatic : methM.isStatic = true := Cond.static_spec hnamed hmethM hstat
  obtain ⟨kP, hkP, -⟩ := className_of_methodNamed hnamed
  have hinitP : kP.init = .initialized := Cond.initialized_spec (findClass_of_methodNamed hnamed) hkP hinit
  obtain ⟨vm₁, X₁, hstep₁⟩ := X.invokestatic hexec hown hlink hnamed hmethM hstatic hkP hinitP hy (g := g) hg (argsL := argsL) (rest := rest) (hlen _ hsigM) hstack hdg
  rcases hK m meth c ⟨T.setVm vm₁, locs, cells, slots⟩ { g with stack := rest } (.invokestatic index) mk argsL.toArray X₁ hg hsize hdg hW (X₁.named hnamed) (hpre vm₁ X₁.warmed) with ⟨v, B, X', hpost, hsteps⟩ | ⟨q, B, X', hpost, hsteps⟩
  · exact Or.inl ⟨v, vm₁, B, X₁.warmed, X', hpost, fun target h => hstep₁ _ fun acts => by rw [doInvoke_state]; exact hsteps.trans h⟩
  · exact Or.inr ⟨q, vm₁, B, X₁.warmed, X', hpost, hstep₁ _ fun acts => by rw [doInvoke_state]; exact hsteps⟩
end Calls
theorem vx_cls {s : State} {T : State} {vm₁ : Vm} {E : String} {k : ClassId} (hW : s.WarmedH vm₁) (h : (T.setVm vm₁).vm.findClass E = some k) : s.vm.findClass E = some k := by
  have h1 : vm₁.findClass E = some k := h
  rw [hW.alike.findClass] at h1
  exact h1
/-- the method's frame g, with q thrown over it -/
def vx_W (p : Program) (l : Launch) (e : Env) (R : Room) (s : State) (m : MethodId) (args : Array Value) (below : List Frame) (meth : Method) (c : Code) (H : Heap) (locs : List Loc) (cells slots : Nat) (Q : State → Prop) (g : JFrame) (q : Addr) : Prop :=
  ∀ T : State, T.heap = H → Stand p l e R s m args below meth c T locs cells slots → ∃ t, Steps p.tables e below ((T.setTop g).pushFrame (.throwing q)) t ∧ Q t
def vx_Run (p : Program) (l : Launch) (e : Env) (R : Room) (s : State) (m : MethodId) (args : Array Value) (below : List Frame) (meth : Method) (c : Code) (H : Heap) (locs : List Loc) (cells slots mc ms : Nat) (g : JFrame) (rest : List Value) (Qa : State → Outcome → State → Prop) (XC : String → State → State → Prop) (free : Addr → Prop) : Prop :=
  ∀ T : State, T.heap = H → Stand p l e R s m args below meth c T locs cells slots →
    (∃ (v : Option Value) (st₀ t T' : State) (L : List Loc), st₀.heap = H ∧ Stand p l e R s m args below meth c T' (locs ++ L) (cells + mc) (slots + ms) ∧ (∀ q ∈ L, free q.base) ∧ T'.heap = t.heap ∧ T'.vm = t.vm ∧ Qa st₀ (.returned v) t ∧
      Goes p e below T g T' { g with pc := g.pc + 3, stack := v.toList ++ rest }) ∨
    (∃ (q : Addr) (st₀ t T' : State) (L : List Loc) (E : String) (ce : Cell), st₀.heap = H ∧ Stand p l e R s m args below meth c T' (locs ++ L) (cells + mc) (slots + ms) ∧ (∀ z ∈ L, free z.base) ∧ T'.heap = t.heap ∧ T'.vm = t.vm ∧ XC E st₀ t ∧ t.heap[q]? = some ce ∧ ce.vm = .none ∧ s.vm.findClass E = some ce.cls ∧
      Steps p.tables e below (T.setTop g) ((T'.setTop { g with stack := rest }).pushFrame (.throwing q)))
def vx_X {S : Type} (px : S → Prop) (B : String → S → State → Prop) (A : Nat → Prop) : String → State → State → Prop := fun E st t => ∃ u : S, px u ∧ B E u t ∧ va_F A st t
section Runs
variable {p : Program} {l : Launch} {e : Env} {R : Room} {s : State} {m : MethodId} {args : Array Value} {below : List Frame} {meth : Method} {c : Code} {H : Heap} {locs : List Loc} {cells slots : Nat}
variable {y : MethodName} {bytes cc : ByteArray} {maxL nL mc ms n index : Nat} {ret : Option FieldType} {ws : List Cond} {rm : Room} {Pc : Array Value → State → Prop} {Qc : Array Value → State → Outcome → State → Prop} {XC : String → State → State → Prop} {free : Addr → Prop} {Ts : List Cond} {own C : String} {b : Addr} {As rest : List Value} {g : JFrame}
theorem vx_callBack (cb : CallB R s args own index y bytes maxL ret ws rm mc ms n) (hM : vx_Met l y ws rm Pc Qc XC mc ms free) (hbl : FrameBlind Pc) : vx_Back l R p e below s args y 3 8 (PreOf R mc ms Pc) (PostOf Qc mc ms free) (vx_Post XC mc ms free) := by
  obtain ⟨hrc, hrs, hfr, hlo, hws, hcw, -, hini, -⟩ := cb
  exact vx_back (bytes := bytes) (maxL := maxL) (ret := ret) hM hbl hrc hrs hfr hlo hws hcw (fun a' U hW => word_at hW (Or.inl (by first | rfl | simp [Cond.onTables, Cond.keeps, Cond.steady])) hini)
theorem vx_runV (S : CallFix p m c cc nL s args Ts own) (hM : vx_Met l y ws rm Pc Qc XC mc ms free) (cw : CallW R s args own C index y bytes maxL ret ws rm mc ms n) (hp : PreV s H C b Pc As)
    (hg : g.method = m) (hn : As.length = n) (hsize : g.locals.size = nL) (hstack : g.stack = As.reverse ++ .ref b :: rest) (hW : 2 * g.monitorRoom + (rest.map fun v => v.category).sum ≤ 8) (hdg : decode cc g.pc = .ok (.invokevirtual index, 3)) (hf : cells + mc ≤ R.cells ∧ slots + ms ≤ R.slots) :
    vx_Run p l e R s m args below meth c H locs cells slots mc ms g rest (Qc (Value.ref b :: As).toArray) XC free := by
  have hK : vx_Back l R p e below s args y 3 8 (PreOf R mc ms Pc) (PostOf Qc mc ms free) (vx_Post XC mc ms free) := vx_callBack cw.1 hM hp.1
  obtain ⟨⟨-, -, -, -, -, -, hcode, -, hy, hlen, hl⟩, hin, hse⟩ := cw
  obtain ⟨hx, hb, hml, ho, -⟩ := S
  obtain ⟨-, ⟨cellB, hcB, hoB, hclB⟩, hPc⟩ := hp
  intro T hT X
  rcases vx_callV X hx (C := C) (bytes := bytes) (maxL := maxL) (ret := ret) ho hl hin hse hcode hy hK (by rw [hT]; exact hcB) hoB hclB hg (hsize.trans hml.symm) (argsL := As) (rest := rest) (fun sig h => hn.trans (hlen sig h)) hstack hW (by rw [hb]; exact hdg)
    (fun vm₁ hW₁ => ⟨hf.1, hf.2, hPc (T.setVm vm₁) hT hW₁⟩) with ⟨v, vm₁, ⟨U', l2, c2, s2⟩, hW₁, X', ⟨g', mk, t, L, e1, e2, hq, h1, hL, h2, h3⟩, st⟩ | ⟨q, vm₁, ⟨U', l2, c2, s2⟩, hW₁, X', ⟨g', mk, t, L, E, ce, e1, e2, hq, hce, hcv, hcl, h1, hL, h2, h3⟩, st⟩
  · dsimp only [Pt.U, Pt.locs, Pt.cells, Pt.slots] at X' e1 e2 h1 h2 h3 st
    subst h1; subst h2; subst h3
    exact Or.inl ⟨v, (T.setVm vm₁).calling g' mk (Value.ref b :: As).toArray, t, U', L, hT, X', hL, e1, e2, hq, st⟩
  · dsimp only [Pt.U, Pt.locs, Pt.cells, Pt.slots] at X' e1 e2 h1 h2 h3 st hcl
    subst h1; subst h2; subst h3
    exact Or.inr ⟨q, (T.setVm vm₁).calling g' mk (Value.ref b :: As).toArray, t, U', L, E, ce, hT, X', hL, e1, e2, hq, hce, hcv, vx_cls hW₁ hcl, st⟩
theorem vx_runS (S : CallFix p m c cc nL s args Ts own) (hM : vx_Met l y ws rm Pc Qc XC mc ms free) (cw : CallB R s args own index y bytes maxL ret ws rm mc ms n ∧ (Cond.static y).before args s = true) (hp : PreS s H Pc As)
    (hg : g.method = m) (hn : As.length = n) (hsize : g.locals.size = nL) (hstack : g.stack = As.reverse ++ rest) (hW : 2 * g.monitorRoom + (rest.map fun v => v.category).sum ≤ 8) (hdg : decode cc g.pc = .ok (.invokestatic index, 3)) (hf : cells + mc ≤ R.cells ∧ slots + ms ≤ R.slots) :
    vx_Run p l e R s m args below meth c H locs cells slots mc ms g rest (Qc As.toArray) XC free := by
  have hK : vx_Back l R p e below s args y 3 8 (PreOf R mc ms Pc) (PostOf Qc mc ms free) (vx_Post XC mc ms free) := vx_callBack cw.1 hM hp.1
  obtain ⟨⟨-, -, -, -, -, -, hcode, hini, hy, hlen, hl⟩, hstt⟩ := cw
  obtain ⟨hx, hb, hml, ho, -⟩ := S
  intro T hT X
  rcases vx_callS X hx (bytes := bytes) (maxL := maxL) (ret := ret) ho hl hstt hini hcode hy hK hg (hsize.trans hml.symm) (argsL := As) (rest := rest) (fun sig h => hn.trans (hlen sig h)) hstack hW (by rw [hb]; exact hdg)
    (fun vm₁ hW₁ => ⟨hf.1, hf.2, hp.2 (T.setVm vm₁) hT hW₁⟩) with ⟨v, vm₁, ⟨U', l2, c2, s2⟩, hW₁, X', ⟨g', mk, t, L, e1, e2, hq, h1, hL, h2, h3⟩, st⟩ | ⟨q, vm₁, ⟨U', l2, c2, s2⟩, hW₁, X', ⟨g', mk, t, L, E, ce, e1, e2, hq, hce, hcv, hcl, h1, hL, h2, h3⟩, st⟩
  · dsimp only [Pt.U, Pt.locs, Pt.cells, Pt.slots] at X' e1 e2 h1 h2 h3 st
    subst h1; subst h2; subst h3
    exact Or.inl ⟨v, (T.setVm vm₁).calling g' mk As.toArray, t, U', L, hT, X', hL, e1, e2, hq, st⟩
  · dsimp only [Pt.U, Pt.locs, Pt.cells, Pt.slots] at X' e1 e2 h1 h2 h3 st hcl
    subst h1; subst h2; subst h3
    exact Or.inr ⟨q, (T.setVm vm₁).calling g' mk As.toArray, t, U', L, E, ce, hT, X', hL, e1, e2, hq, hce, hcv, vx_cls hW₁ hcl, st⟩
end Runs
section Rows
variable {p : Program} {l : Launch} {e : Env} {R : Room} {s : State} {m : MethodId} {args : Array Value} {below : List Frame} {meth : Method} {c : Code} {H : Heap} {locs : List Loc} {cells slots : Nat} {Q : State → Prop}
variable {mc ms : Nat} {free : Addr → Prop} {A0 A1 : Nat → Prop} {H0 : Heap} {a : Array Value} {pc : Nat} {ls : Array Slot} {st0 rest : List Value}
theorem vx_keep {st₀ t T' : State} {L : List Loc} (h0 : st₀.heap = H) (e1 : T'.heap = t.heap) (hS : va_S A0 H0 H locs) (hA : ∀ q, q < H.size → A1 q → A0 q) (hf : ∀ q, free q → A0 q) (hL : ∀ q ∈ L, free q.base) (hF : va_F A1 st₀ t) :
    H.size ≤ T'.heap.size ∧ (∀ q : Nat, q < H.size → ¬ A1 q → T'.heap[q]? = H[q]?) ∧ va_S A0 H0 T'.heap (locs ++ L) := by
  obtain ⟨hz, hk⟩ := hF
  rw [h0] at hz hk
  exact ⟨by rw [e1]; exact hz, fun q h1 h2 => by rw [e1]; exact hk q h1 h2,
    ⟨Nat.le_trans hS.1 (by rw [e1]; exact hz), fun q h1 h2 => by rw [e1, hk q (Nat.lt_of_lt_of_le h1 hS.1) (fun z => h2 (hA q (Nat.lt_of_lt_of_le h1 hS.1) z))]; exact hS.2.1 q h1 h2, fun q hq => by
      rcases List.mem_append.mp hq with h | h
      · exact hS.2.2 q h
      · exact hf _ (hL q h)⟩⟩
theorem vx_calli {S SX : Type} {post : Int32 → S → Prop} {px : SX → Prop} {B : S → State → Prop} {BX : String → SX → State → Prop} {AX : Nat → Prop} (hr : vx_Run p l e R s m args below meth c H locs cells slots mc ms (F0 m pc ls st0) rest (va_Qi post B A1 a) (vx_X px BX AX) free) (hS : va_S A0 H0 H locs) (hA : ∀ q, q < H.size → A1 q → A0 q) (hf : ∀ q, free q → A0 q) (hAX : ∀ q, q < H.size → AX q → A0 q)
    (kx : ∀ (E : String) (ce : Cell) (q9 : Addr) (u : SX) (t : State) (H1 : Heap) (locs1 : List Loc), t.heap = H1 → s.vm.Alike t.vm → px u → BX E u t → H.size ≤ H1.size → (∀ q : Nat, q < H.size → ¬ AX q → H1[q]? = H[q]?) → va_S A0 H0 H1 locs1 → H1[q9]? = some ce → ce.vm = .none → s.vm.findClass E = some ce.cls → vx_W p l e R s m args below meth c H1 locs1 (cells + mc) (slots + ms) Q (F0 m pc ls rest) q9)
    (kk : ∀ (r : Int32) (u : S) (t : State) (H1 : Heap) (locs1 : List Loc), t.heap = H1 → s.vm.Alike t.vm → post r u → B u t → H.size ≤ H1.size → (∀ q : Nat, q < H.size → ¬ A1 q → H1[q]? = H[q]?) → va_S A0 H0 H1 locs1 → W p l e R s m args below meth c H1 locs1 (cells + mc) (slots + ms) Q (F0 m (pc + 3) ls (.int r :: rest))) : W p l e R s m args below meth c H locs cells slots Q (F0 m pc ls st0) := by
  intro T hT X
  rcases hr T hT X with ⟨v, st₀, t, T', L, h0, X', hL, e1, e2, ⟨⟨r, u, hv, hp, hb⟩, hF⟩, st⟩ | ⟨q, st₀, t, T', L, E, ce, h0, X', hL, e1, e2, ⟨u, hp, hb, hF⟩, hce, hcv, hcl, st⟩
  · cases hv
    obtain ⟨k1, k2, k3⟩ := vx_keep h0 e1 hS hA hf hL hF
    obtain ⟨t2, a1, b1⟩ := kk r u t T'.heap (locs ++ L) e1.symm (by rw [← e2]; exact X'.warmed.alike) hp hb k1 k2 k3 T' rfl X'
    exact ⟨t2, st t2 a1, b1⟩
  · obtain ⟨k1, k2, k3⟩ := vx_keep h0 e1 hS hAX hf hL hF
    obtain ⟨t2, a1, b1⟩ := kx E ce q u t T'.heap (locs ++ L) e1.symm (by rw [← e2]; exact X'.warmed.alike) hp hb k1 k2 k3 (by rw [e1]; exact hce) hcv hcl T' rfl X'
    exact ⟨t2, st.trans a1, b1⟩
theorem vx_calll {S SX : Type} {post : Int64 → S → Prop} {px : SX → Prop} {B : S → State → Prop} {BX : String → SX → State → Prop} {AX : Nat → Prop} (hr : vx_Run p l e R s m args below meth c H locs cells slots mc ms (F0 m pc ls st0) rest (va_Ql post B A1 a) (vx_X px BX AX) free) (hS : va_S A0 H0 H locs) (hA : ∀ q, q < H.size → A1 q → A0 q) (hf : ∀ q, free q → A0 q) (hAX : ∀ q, q < H.size → AX q → A0 q)
    (kx : ∀ (E : String) (ce : Cell) (q9 : Addr) (u : SX) (t : State) (H1 : Heap) (locs1 : List Loc), t.heap = H1 → s.vm.Alike t.vm → px u → BX E u t → H.size ≤ H1.size → (∀ q : Nat, q < H.size → ¬ AX q → H1[q]? = H[q]?) → va_S A0 H0 H1 locs1 → H1[q9]? = some ce → ce.vm = .none → s.vm.findClass E = some ce.cls → vx_W p l e R s m args below meth c H1 locs1 (cells + mc) (slots + ms) Q (F0 m pc ls rest) q9)
    (kk : ∀ (r : Int64) (u : S) (t : State) (H1 : Heap) (locs1 : List Loc), t.heap = H1 → s.vm.Alike t.vm → post r u → B u t → H.size ≤ H1.size → (∀ q : Nat, q < H.size → ¬ A1 q → H1[q]? = H[q]?) → va_S A0 H0 H1 locs1 → W p l e R s m args below meth c H1 locs1 (cells + mc) (slots + ms) Q (F0 m (pc + 3) ls (.long r :: rest))) : W p l e R s m args below meth c H locs cells slots Q (F0 m pc ls st0) := by
  intro T hT X
  rcases hr T hT X with ⟨v, st₀, t, T', L, h0, X', hL, e1, e2, ⟨⟨r, u, hv, hp, hb⟩, hF⟩, st⟩ | ⟨q, st₀, t, T', L, E, ce, h0, X', hL, e1, e2, ⟨u, hp, hb, hF⟩, hce, hcv, hcl, st⟩
  · cases hv
    obtain ⟨k1, k2, k3⟩ := vx_keep h0 e1 hS hA hf hL hF
    obtain ⟨t2, a1, b1⟩ := kk r u t T'.heap (locs ++ L) e1.symm (by rw [← e2]; exact X'.warmed.alike) hp hb k1 k2 k3 T' rfl X'
    exact ⟨t2, st t2 a1, b1⟩
  · obtain ⟨k1, k2, k3⟩ := vx_keep h0 e1 hS hAX hf hL hF
    obtain ⟨t2, a1, b1⟩ := kx E ce q u t T'.heap (locs ++ L) e1.symm (by rw [← e2]; exact X'.warmed.alike) hp hb k1 k2 k3 (by rw [e1]; exact hce) hcv hcl T' rfl X'
    exact ⟨t2, st.trans a1, b1⟩
theorem vx_callf {S SX : Type} {post : UInt32 → S → Prop} {px : SX → Prop} {B : S → State → Prop} {BX : String → SX → State → Prop} {AX : Nat → Prop} (hr : vx_Run p l e R s m args below meth c H locs cells slots mc ms (F0 m pc ls st0) rest (va_Qf post B A1 a) (vx_X px BX AX) free) (hS : va_S A0 H0 H locs) (hA : ∀ q, q < H.size → A1 q → A0 q) (hf : ∀ q, free q → A0 q) (hAX : ∀ q, q < H.size → AX q → A0 q)
    (kx : ∀ (E : String) (ce : Cell) (q9 : Addr) (u : SX) (t : State) (H1 : Heap) (locs1 : List Loc), t.heap = H1 → s.vm.Alike t.vm → px u → BX E u t → H.size ≤ H1.size → (∀ q : Nat, q < H.size → ¬ AX q → H1[q]? = H[q]?) → va_S A0 H0 H1 locs1 → H1[q9]? = some ce → ce.vm = .none → s.vm.findClass E = some ce.cls → vx_W p l e R s m args below meth c H1 locs1 (cells + mc) (slots + ms) Q (F0 m pc ls rest) q9)
    (kk : ∀ (r : UInt32) (u : S) (t : State) (H1 : Heap) (locs1 : List Loc), t.heap = H1 → s.vm.Alike t.vm → post r u → B u t → H.size ≤ H1.size → (∀ q : Nat, q < H.size → ¬ A1 q → H1[q]? = H[q]?) → va_S A0 H0 H1 locs1 → W p l e R s m args below meth c H1 locs1 (cells + mc) (slots + ms) Q (F0 m (pc + 3) ls (.float r :: rest))) : W p l e R s m args below meth c H locs cells slots Q (F0 m pc ls st0) := by
  intro T hT X
  rcases hr T hT X with ⟨v, st₀, t, T', L, h0, X', hL, e1, e2, ⟨⟨r, u, hv, hp, hb⟩, hF⟩, st⟩ | ⟨q, st₀, t, T', L, E, ce, h0, X', hL, e1, e2, ⟨u, hp, hb, hF⟩, hce, hcv, hcl, st⟩
  · cases hv
    obtain ⟨k1, k2, k3⟩ := vx_keep h0 e1 hS hA hf hL hF
    obtain ⟨t2, a1, b1⟩ := kk r u t T'.heap (locs ++ L) e1.symm (by rw [← e2]; exact X'.warmed.alike) hp hb k1 k2 k3 T' rfl X'
    exact ⟨t2, st t2 a1, b1⟩
  · obtain ⟨k1, k2, k3⟩ := vx_keep h0 e1 hS hAX hf hL hF
    obtain ⟨t2, a1, b1⟩ := kx E ce q u t T'.heap (locs ++ L) e1.symm (by rw [← e2]; exact X'.warmed.alike) hp hb k1 k2 k3 (by rw [e1]; exact hce) hcv hcl T' rfl X'
    exact ⟨t2, st.trans a1, b1⟩
theorem vx_calld {S SX : Type} {post : UInt64 → S → Prop} {px : SX → Prop} {B : S → State → Prop} {BX : String → SX → State → Prop} {AX : Nat → Prop} (hr : vx_Run p l e R s m args below meth c H locs cells slots mc ms (F0 m pc ls st0) rest (va_Qd post B A1 a) (vx_X px BX AX) free) (hS : va_S A0 H0 H locs) (hA : ∀ q, q < H.size → A1 q → A0 q) (hf : ∀ q, free q → A0 q) (hAX : ∀ q, q < H.size → AX q → A0 q)
    (kx : ∀ (E : String) (ce : Cell) (q9 : Addr) (u : SX) (t : State) (H1 : Heap) (locs1 : List Loc), t.heap = H1 → s.vm.Alike t.vm → px u → BX E u t → H.size ≤ H1.size → (∀ q : Nat, q < H.size → ¬ AX q → H1[q]? = H[q]?) → va_S A0 H0 H1 locs1 → H1[q9]? = some ce → ce.vm = .none → s.vm.findClass E = some ce.cls → vx_W p l e R s m args below meth c H1 locs1 (cells + mc) (slots + ms) Q (F0 m pc ls rest) q9)
    (kk : ∀ (r : UInt64) (u : S) (t : State) (H1 : Heap) (locs1 : List Loc), t.heap = H1 → s.vm.Alike t.vm → post r u → B u t → H.size ≤ H1.size → (∀ q : Nat, q < H.size → ¬ A1 q → H1[q]? = H[q]?) → va_S A0 H0 H1 locs1 → W p l e R s m args below meth c H1 locs1 (cells + mc) (slots + ms) Q (F0 m (pc + 3) ls (.double r :: rest))) : W p l e R s m args below meth c H locs cells slots Q (F0 m pc ls st0) := by
  intro T hT X
  rcases hr T hT X with ⟨v, st₀, t, T', L, h0, X', hL, e1, e2, ⟨⟨r, u, hv, hp, hb⟩, hF⟩, st⟩ | ⟨q, st₀, t, T', L, E, ce, h0, X', hL, e1, e2, ⟨u, hp, hb, hF⟩, hce, hcv, hcl, st⟩
  · cases hv
    obtain ⟨k1, k2, k3⟩ := vx_keep h0 e1 hS hA hf hL hF
    obtain ⟨t2, a1, b1⟩ := kk r u t T'.heap (locs ++ L) e1.symm (by rw [← e2]; exact X'.warmed.alike) hp hb k1 k2 k3 T' rfl X'
    exact ⟨t2, st t2 a1, b1⟩
  · obtain ⟨k1, k2, k3⟩ := vx_keep h0 e1 hS hAX hf hL hF
    obtain ⟨t2, a1, b1⟩ := kx E ce q u t T'.heap (locs ++ L) e1.symm (by rw [← e2]; exact X'.warmed.alike) hp hb k1 k2 k3 (by rw [e1]; exact hce) hcv hcl T' rfl X'
    exact ⟨t2, st.trans a1, b1⟩
theorem vx_callv {S SX : Type} {post : S → Prop} {px : SX → Prop} {B : S → State → Prop} {BX : String → SX → State → Prop} {AX : Nat → Prop} (hr : vx_Run p l e R s m args below meth c H locs cells slots mc ms (F0 m pc ls st0) rest (va_Qv post B A1 a) (vx_X px BX AX) free) (hS : va_S A0 H0 H locs) (hA : ∀ q, q < H.size → A1 q → A0 q) (hf : ∀ q, free q → A0 q) (hAX : ∀ q, q < H.size → AX q → A0 q)
    (kx : ∀ (E : String) (ce : Cell) (q9 : Addr) (u : SX) (t : State) (H1 : Heap) (locs1 : List Loc), t.heap = H1 → s.vm.Alike t.vm → px u → BX E u t → H.size ≤ H1.size → (∀ q : Nat, q < H.size → ¬ AX q → H1[q]? = H[q]?) → va_S A0 H0 H1 locs1 → H1[q9]? = some ce → ce.vm = .none → s.vm.findClass E = some ce.cls → vx_W p l e R s m args below meth c H1 locs1 (cells + mc) (slots + ms) Q (F0 m pc ls rest) q9)
    (kk : ∀ (u : S) (t : State) (H1 : Heap) (locs1 : List Loc), t.heap = H1 → s.vm.Alike t.vm → post u → B u t → H.size ≤ H1.size → (∀ q : Nat, q < H.size → ¬ A1 q → H1[q]? = H[q]?) → va_S A0 H0 H1 locs1 → W p l e R s m args below meth c H1 locs1 (cells + mc) (slots + ms) Q (F0 m (pc + 3) ls (rest))) : W p l e R s m args below meth c H locs cells slots Q (F0 m pc ls st0) := by
  intro T hT X
  rcases hr T hT X with ⟨v, st₀, t, T', L, h0, X', hL, e1, e2, ⟨⟨u, hv, hp, hb⟩, hF⟩, st⟩ | ⟨q, st₀, t, T', L, E, ce, h0, X', hL, e1, e2, ⟨u, hp, hb, hF⟩, hce, hcv, hcl, st⟩
  · cases hv
    obtain ⟨k1, k2, k3⟩ := vx_keep h0 e1 hS hA hf hL hF
    obtain ⟨t2, a1, b1⟩ := kk u t T'.heap (locs ++ L) e1.symm (by rw [← e2]; exact X'.warmed.alike) hp hb k1 k2 k3 T' rfl X'
    exact ⟨t2, st t2 a1, b1⟩
  · obtain ⟨k1, k2, k3⟩ := vx_keep h0 e1 hS hAX hf hL hF
    obtain ⟨t2, a1, b1⟩ := kx E ce q u t T'.heap (locs ++ L) e1.symm (by rw [← e2]; exact X'.warmed.alike) hp hb k1 k2 k3 (by rw [e1]; exact hce) hcv hcl T' rfl X'
    exact ⟨t2, st.trans a1, b1⟩
/-- caught by the row x of this method's table; the rows ahead don't take it -/
theorem vx_catch {own name : String} {E : String} {ce : Cell} {q : Addr} (hown : s.vm.findClass own = some m.cls) (pre : List ExceptionTableEntry) (x : ExceptionTableEntry) (suf : List ExceptionTableEntry) (hsplit : c.exceptionTable.toList = pre ++ x :: suf)
    (hpass : ∀ z ∈ pre, covers z pc = false ∨ (z.catchType ≠ 0 ∧ ∃ nm : String, (Cond.classLink own z.catchType nm).before args s = true ∧ va_Nc E nm s)) (hx : covers x pc = true) (h0 : x.catchType ≠ 0)
    (hlink : (Cond.classLink own x.catchType name).before args s = true) (hcast : (Cond.castable E name).before args s = true) (hcell : H[q]? = some ce) (hv : ce.vm = .none) (hcl : s.vm.findClass E = some ce.cls)
    (kk : W p l e R s m args below meth c H locs cells slots Q (F0 m x.handlerPc ls [.ref q])) : vx_W p l e R s m args below meth c H locs cells slots Q (F0 m pc ls rest) q := by
  intro T hT X
  have hpl : e.platform.magicAccessors = ({} : Platform).magicAccessors := by rw [X.admits.platform]
  obtain ⟨c3, c4, hc3, hc4, hasg⟩ := Cond.castable_spec hcast
  cases Option.some.inj (hc3.symm.trans hcl)
  obtain ⟨c5, hc5, hcl5⟩ := Cond.classLink_spec hown hlink e.platform hpl
  cases Option.some.inj (hc4.symm.trans hc5)
  obtain ⟨vm', X', st⟩ := X.thenCaughtThrough q (g := F0 m pc ls rest) rfl (Steps.refl _) (by rw [hT]; exact hcell) (by rw [hv]; rfl) (by obtain ⟨k9, h9, -⟩ := Vm.findClass_spec hcl; exact ⟨k9, h9⟩) pre x suf hsplit
    (fun z hz => by
      rcases hpass z hz with h | ⟨hz0, nm, hl1, hn1⟩
      · exact Or.inl h
      · obtain ⟨c6, hc6, hcl6⟩ := Cond.classLink_spec hown hl1 e.platform hpl
        obtain ⟨a8, b8, h1, h2, h3⟩ := hn1
        cases Option.some.inj (h1.symm.trans hcl)
        cases Option.some.inj (h2.symm.trans hc6)
        exact Or.inr ⟨hz0, _, hcl6, h3⟩) hx (Or.inr ⟨h0, c4, hcl5, hasg⟩)
  obtain ⟨t, a1, b1⟩ := kk (T.setVm vm') hT X'
  exact ⟨t, st.trans a1, b1⟩
end Rows
section Ends
variable {p : Program} {l : Launch} {e : Env} {R : Room} {s : State} {m : MethodId} {args : Array Value} {below : List Frame} {meth : Method} {c : Code} {H : Heap} {locs : List Loc} {cells slots : Nat} {Q : State → Prop}
variable {mc ms : Nat} {free : Addr → Prop} {A0 A1 : Nat → Prop} {H0 : Heap} {a : Array Value} {ls : Array Slot} {st0 rest : List Value}
variable {Qc : Array Value → State → Outcome → State → Prop} {XC : String → State → State → Prop}
/-- what a body that may throw owes at its end -/
def vx_MQ (below : List Frame) (Qc : Array Value → State → Outcome → State → Prop) (XC : String → State → State → Prop) (a : Array Value) (s : State) (mc ms : Nat) (free : Addr → Prop) : State → Prop := fun t =>
  ∃ o, t.status = .running ∧ Ended t below o ∧ vx_Q Qc XC mc ms free a s o t
theorem vx_ret {g : JFrame} {mc ms : Nat} (k : W p l e R s m args below meth c H locs cells slots (MQ below Qc args s mc ms free) g) : W p l e R s m args below meth c H locs cells slots (vx_MQ below Qc XC args s mc ms free) g := by
  intro T hT X
  obtain ⟨t, a1, o, b1, b2, b3, b4⟩ := k T hT X
  exact ⟨t, a1, o, b1, b2, Or.inl ⟨b3, b4⟩⟩
/-- not caught here: it goes on to the caller -/
theorem vx_widen {g : JFrame} {q : Addr} {k n : Nat} (h1 : cells ≤ k) (h2 : slots ≤ n) (kk : vx_W p l e R s m args below meth c H locs k n Q g q) : vx_W p l e R s m args below meth c H locs cells slots Q g q := fun T hT X => kk T hT (stand_widen X h1 h2)
theorem vx_out {pc : Nat} {E : String} {ce : Cell} {q : Addr} {mc ms : Nat} (hout : ∀ x ∈ c.exceptionTable.toList, covers x pc = false) (hlocks : meth.locks = false) (hcell : H[q]? = some ce) (hv : ce.vm = .none) (hcl : s.vm.findClass E = some ce.cls)
    (hx : ∀ t : State, t.heap = H → s.vm.Alike t.vm → XC E s t) (hf : ∀ z ∈ locs, free z.base) (hc : cells ≤ mc) (hs : slots ≤ ms) :
    vx_W p l e R s m args below meth c H locs cells slots (vx_MQ below Qc XC args s mc ms free) (F0 m pc ls rest) q := by
  intro T hT X
  obtain ⟨st1, hrun, hend, hW, hsm⟩ := X.leaveThrown q (g := F0 m pc ls rest) rfl rfl rfl hout hlocks
  have hcell9 : (T.setFrames (.throwing q :: below)).heap[q]? = some ce := by
    show T.heap[q]? = some ce
    rw [hT]; exact hcell
  exact ⟨_, st1, .threw q, hrun, hend, Or.inr ⟨q, rfl, E, ce, locs, hx _ hT hW.alike, hcell9, hv, hcl, hW, hsm.mono hc hs, hf⟩⟩
theorem vx_frame {U : State} {k n : Nat} (h : s.sameButNew ({ U with vm := s.vm } : State) locs k n) : s.heap.size ≤ U.heap.size ∧ ∀ q : Nat, q < s.heap.size → (∀ z ∈ locs, z.base ≠ q) → U.heap[q]? = s.heap[q]? := by
  obtain ⟨-, h2, -, -, -, h6⟩ := h
  refine ⟨h2, fun q hq hz => ?_⟩
  obtain ⟨c9, e1, e2, e3, e4⟩ := h6 q _ (Array.getElem?_eq_getElem hq)
  have hs : c9.slots = (s.heap[q]).slots := Array.ext_getElem? fun i => e4 i fun hm => hz _ hm rfl
  have h9 : c9 = s.heap[q] := by
    rw [hs] at e2
    exact e2
  have e5 : U.heap[q]? = some c9 := e1
  rw [e5, h9, Array.getElem?_eq_getElem hq]
/-- the words of a throw but the four that speak of the heap -/
def vx_no (w : Cond) : Bool := decide (w ≠ .isRef (.static Bundle.tN "UNASSIGNED_STACK" Bundle.steD)) && decide (w ≠ .isRef (.static Bundle.tN "SUPPRESSED_SENTINEL" Bundle.listD)) && decide (w ≠ .laysStatic Bundle.tN "UNASSIGNED_STACK" Bundle.steD) && decide (w ≠ .laysStatic Bundle.tN "SUPPRESSED_SENTINEL" Bundle.listD)
def vx_at0 (own : String) (ic : Nat) (X : String) (names : List String) : List Cond := (Bundle.ownAtoms0 own ic X names).filter vx_no
def vx_atS (own : String) (ic : Nat) (X : String) (names : List String) : List Cond := (Bundle.ownAtoms own ic X names).filter vx_no
/-- a word that the tables alone decide, or a good one -/
def vx_ot (w : Cond) : Bool := w.onTables || goodWord w
theorem vx_ot_at {args a' : Array Value} {s U : State} {w : Cond} (hW : s.WarmedH U.vm) (hvm : s.vm = U.vm) (hg : vx_ot w = true) (h : w.before args s = true) : w.before a' U = true := by
  simp only [vx_ot, Bool.or_eq_true] at hg
  rcases hg with hg | hg
  · exact va_tabs hg hvm h
  · exact word_at hW (good_of_word hg) h
/-- a list's words: the good ones out of the method's own list, the others by premises of their own -/
theorem vx_hat {args : Array Value} {s : State} {L B : List Cond} (h1 : ∀ w ∈ L.filter goodWord, w.before args s = true) (h2 : ∀ w ∈ L.filter (fun w => !goodWord w), w ∈ B) (h3 : ∀ w ∈ B, w.before args s = true) : ∀ w ∈ L, w.before args s = true := by
  intro w hw
  by_cases g : goodWord w = true
  · exact h1 w (List.mem_filter.mpr ⟨hw, g⟩)
  · refine h3 w (h2 w (List.mem_filter.mpr ⟨hw, ?_⟩))
    show (!goodWord w) = true
    cases hgw : goodWord w
    · rfl
    · exact absurd hgw g
theorem vx_c {args : Array Value} {s : State} {w : Cond} {B : List Cond} (h : w.before args s = true) (t : ∀ w ∈ B, w.before args s = true) : ∀ w' ∈ w :: B, w'.before args s = true := fun w' h' => (List.mem_cons.mp h').elim (fun e => by rw [e]; exact h) (t w')
theorem vx_n {args : Array Value} {s : State} : ∀ w ∈ ([] : List Cond), w.before args s = true := fun _ h => nomatch h
theorem vx_own {args : Array Value} {s : State} {L : List Cond} (h1 : ∀ w ∈ L.filter vx_no, w.before args s = true)
    (hU : (Cond.isRef (.static Bundle.tN "UNASSIGNED_STACK" Bundle.steD)).before args s = true) (hN : (Cond.isRef (.static Bundle.tN "SUPPRESSED_SENTINEL" Bundle.listD)).before args s = true)
    (lU : (Cond.laysStatic Bundle.tN "UNASSIGNED_STACK" Bundle.steD).before args s = true) (lN : (Cond.laysStatic Bundle.tN "SUPPRESSED_SENTINEL" Bundle.listD).before args s = true) : ∀ w ∈ L, w.before args s = true := by
  intro w hw
  by_cases e1 : w = .isRef (.static Bundle.tN "UNASSIGNED_STACK" Bundle.steD)
  · rw [e1]; exact hU
  · by_cases e2 : w = .isRef (.static Bundle.tN "SUPPRESSED_SENTINEL" Bundle.listD)
    · rw [e2]; exact hN
    · by_cases e3 : w = .laysStatic Bundle.tN "UNASSIGNED_STACK" Bundle.steD
      · rw [e3]; exact lU
      · by_cases e4 : w = .laysStatic Bundle.tN "SUPPRESSED_SENTINEL" Bundle.listD
        · rw [e4]; exact lN
        · exact h1 w (List.mem_filter.mpr ⟨hw, by unfold vx_no; rw [decide_eq_true e1, decide_eq_true e2, decide_eq_true e3, decide_eq_true e4]; rfl⟩)
/-- where a static field lies, its class's statics cell in H -/
def vx_L (C n d : String) (A : Nat → Prop) (U : State) (H : Heap) : Prop := ∃ (c : ClassId) (k : Class) (i : Nat) (f : Field) (a : Nat) (cell : Cell), U.vm.findClass C = some c ∧ U.fieldFound? C n d = some (c, k, i, f) ∧ f.isStatic = true ∧ k.statics = some a ∧ H[a]? = some cell ∧ cell.vm.isStatics = true ∧ cell.cls = c ∧ f.slot < cell.slots.size ∧ k.staticTypes[f.slot]? = some f.type ∧ ¬ A a
theorem vx_L.moved {C n d : String} {A : Nat → Prop} {u U : State} {H : Heap} (hvm : u.vm.Alike U.vm) (h : vx_L C n d A u H) : vx_L C n d A U H := by
  obtain ⟨c, k, i, f, a, cell, h1, h2, h3, h4, h5, h6, h7, h8, h9, h10⟩ := h
  obtain ⟨k', hi', he⟩ := State.fieldFound?_setVm hvm h2
  exact ⟨c, k', i, f, a, cell, by rw [hvm.findClass]; exact h1, hi', h3, by rw [he]; exact h4, h5, h6, h7, h8, by rw [he]; exact h9, h10⟩
theorem vx_L.kept {C n d : String} {A : Nat → Prop} {U : State} {H H1 : Heap} (h : vx_L C n d A U H) (hq : ∀ a : Nat, a < H.size → ¬ A a → H1[a]? = H[a]?) : vx_L C n d A U H1 := by
  obtain ⟨c, k, i, f, a, cell, h1, h2, h3, h4, h5, h6, h7, h8, h9, h10⟩ := h
  exact ⟨c, k, i, f, a, cell, h1, h2, h3, h4, by rw [hq a (Array.getElem?_eq_some_iff.mp h5).1 h10]; exact h5, h6, h7, h8, h9, h10⟩
theorem vx_L.narrow {C n d : String} {A B : Nat → Prop} {U : State} {H : Heap} (h : vx_L C n d A U H) (hAB : ∀ q, B q → A q) : vx_L C n d B U H := by
  obtain ⟨c, k, i, f, a, cell, h1, h2, h3, h4, h5, h6, h7, h8, h9, h10⟩ := h
  exact ⟨c, k, i, f, a, cell, h1, h2, h3, h4, h5, h6, h7, h8, h9, fun z => h10 (hAB _ z)⟩
theorem vx_L.word {C n d : String} {A : Nat → Prop} {s : State} {args : Array Value} (h : vx_L C n d A s s.heap) : (Cond.laysStatic C n d).before args s = true := by
  obtain ⟨c, k, i, f, a, cell, h1, h2, h3, h4, h5, h6, h7, h8, h9, -⟩ := h
  show (Cond.laysStatic C n d).holds args s none s [] = true
  exact Cond.laysStatic_of h1 h2 h3 h4 h5 h6 h7 h8 h9
/-- .. and what it holds: null or some reference -/
def vx_Zq (C n d : String) (A : Nat → Prop) (U : State) (H : Heap) : Prop := va_Zq C n d A U H ∧ vx_L C n d A U H
theorem vx_Zq.moved {C n d : String} {A : Nat → Prop} {u U : State} {H : Heap} (hvm : u.vm.Alike U.vm) (h : vx_Zq C n d A u H) : vx_Zq C n d A U H := ⟨va_Zq.moved hvm h.1, vx_L.moved hvm h.2⟩
theorem vx_Zq.kept {C n d : String} {A : Nat → Prop} {U : State} {H H1 : Heap} (h : vx_Zq C n d A U H) (hq : ∀ a : Nat, a < H.size → ¬ A a → H1[a]? = H[a]?) : vx_Zq C n d A U H1 := ⟨va_Zq.kept h.1 hq, vx_L.kept h.2 hq⟩
theorem vx_Zq.narrow {C n d : String} {A B : Nat → Prop} {U : State} {H : Heap} (h : vx_Zq C n d A U H) (hAB : ∀ q, B q → A q) : vx_Zq C n d B U H := ⟨va_Zq.narrow h.1 hAB, vx_L.narrow h.2 hAB⟩
theorem vx_Zqof {args : Array Value} {s : State} {C n d : String} {A : Nat → Prop} (hl : (Cond.laysStatic C n d).before args s = true) (hini : (Cond.initialized C).before args s = true) (h : (Cond.isRef (.static C n d)).before args s = true) (hA : ∀ a : Nat, a < s.heap.size → ¬ A a) : vx_Zq C n d A s s.heap := by
  refine ⟨va_Zqof hl hini h hA, ?_⟩
  obtain ⟨c, k, i, f, a, cell, h1, h2, h3, h4, h5, h6, h7, h8, h9⟩ := Cond.laysStatic_spec hl
  exact ⟨c, k, i, f, a, cell, h1, h2, h3, h4, h5, h6, h7, h8, h9, hA a (Array.getElem?_eq_some_iff.mp h5).1⟩
theorem vx_isRef {C n d : String} {v : Value} {A : Nat → Prop} {s : State} {args : Array Value} (h : va_Z C n d v A s s.heap) (hv : v.isRef = true) : (Cond.isRef (.static C n d)).before args s = true := by
  obtain ⟨cf, kf, fi, f, a, cell, h1, h2, h3, h4, h5, h6, h7, -⟩ := h
  have he : (Term.static C n d).eval args s none [] s = some v := by
    simp [Term.eval, State.fieldNamed?, h1, h2, h4, h5, h6, h7]
  simp only [Cond.before, Cond.holds, Cond.value, he]
  cases v <;> simp_all [Value.isRef]
theorem vx_isRefq {C n d : String} {A : Nat → Prop} {s : State} {args : Array Value} (h : va_Zq C n d A s s.heap) : (Cond.isRef (.static C n d)).before args s = true := by
  rcases h with h | ⟨t, h⟩
  · exact vx_isRef h rfl
  · exact vx_isRef h rfl
/-- the same frame, seen from here: as if the method were called anew in this heap -/
theorem vx_rebase {T : State} (X : Stand p l e R s m args below meth c T locs cells slots) {R' : Room} (hf : R'.frames ≤ R.frames) (hl : R'.locals ≤ R.locals) (hc : cells + R'.cells ≤ R.cells) (hs : slots + R'.slots ≤ R.slots) :
    Stand p l e R' ((T.setVm s.vm).setFrames (.invoking m args :: below)) m args below meth c T [] 0 0 := by
  have htop : (T.setVm s.vm).topJava?.isSome := X.here.top
  have hF : ((T.setVm s.vm).setFrames (.invoking m args :: below)).frames = .invoking m args :: below := State.frames_setFrames _ (State.cur_lt_of_top htop)
  obtain ⟨g₀, hg0⟩ := Option.isSome_iff_exists.mp htop
  obtain ⟨r, hr⟩ := State.topJava?_eq_some.mp hg0
  have hl9 : e.platform.stackLimits (T.setVm s.vm).me = e.platform.stackLimits s.me := X.limits
  have hb9 : (T.setVm s.vm).me.stackBytes = s.me.stackBytes := X.bytes
  refine ⟨X.admits, X.cas, X.clock, hF, ?_, X.hears, X.method, X.code, X.here, X.tail, X.warmed, ?_, ?_, ?_⟩
  · have h := X.room
    have hU : ((T.setVm s.vm).setFrames (.invoking m args :: below)).localsInUse = s.localsInUse := by
      rw [State.localsInUse_invoking hF (meth := meth) (c := c) X.method X.code, State.localsInUse_invoking X.frames X.method X.code]
    simp only [State.hasRoom, Bool.and_eq_true, decide_eq_true_eq] at h ⊢
    obtain ⟨⟨⟨⟨h1, h2, h3, h4, h5, h6⟩, h7⟩, h8⟩, h9⟩ := h
    rw [X.frames, List.length_cons] at h2 h3
    have q1 := X.heapSize
    have q2 := X.used
    simp only [hF, hU, List.length_cons, State.stackLimits_setFrames, State.stackBytes_setFrames, hl9, hb9]
    refine ⟨⟨⟨⟨by omega, by omega, by omega, by omega, by omega, h6⟩, ?_⟩, ?_⟩, X.book⟩
    · show T.heap.size + R'.cells ≤ e.platform.maxCells
      omega
    · show T.slotsUsed + R'.slots ≤ e.platform.maxSlots
      omega
  · rw [State.stackLimits_setFrames]; rfl
  · rw [State.stackBytes_setFrames]; rfl
  · refine ⟨?_, Nat.le_refl _, Nat.le_refl _, ?_, ?_, fun a c9 h9 => ⟨c9, h9, rfl, rfl, fun _ _ => rfl⟩⟩
    · obtain ⟨t, ht, -⟩ := State.frames_cons hr
      show T.setVm s.vm = { ((T.setVm s.vm).setFrames (.invoking m args :: below)).setFrames (T.setVm s.vm).frames with heap := T.heap, slotsUsed := T.slotsUsed }
      rw [State.setFrames_setFrames, State.setFrames_self ht]
      rfl
    · show T.slotsUsed = T.slotsUsed + ((T.heap.toList.drop T.heap.size).map (·.slots.size)).sum
      rw [List.drop_eq_nil_of_le (Nat.le_of_eq Array.length_toList)]
      rfl
    · show ((T.heap.toList.drop T.heap.size).map (·.slots.size)).sum ≤ 0
      rw [List.drop_eq_nil_of_le (Nat.le_of_eq Array.length_toList)]
      exact Nat.le_refl _
/-- 'throw new E()': new; dup; invokespecial; athrow -/
theorem vx_throw0 {cc : ByteArray} {pc : Nat} (hexec : p.tables.exec = Jvm.exec) (hb : c.code = cc) (hl : l.stackTraces = false) {own cls : String} {names : List String} {ik ic mc ms : Nat} {A : Nat → Prop}
    (hown : s.vm.findClass own = some m.cls) (hcls : Bundle.fit cls = true) (hnames : ∀ n ∈ names, Bundle.fit n = true)
    (hk : (Cond.classLink own ik cls).before args s = true) (hini : (Cond.initialized cls).before args s = true) (hat : ∀ w ∈ vx_at0 own ic cls names, w.before args s = true)
    (hgood : ∀ w ∈ Cond.classLink own ik cls :: Cond.initialized cls :: vx_at0 own ic cls names, vx_ot w = true)
    (hU : vx_Zq Bundle.tN "UNASSIGNED_STACK" Bundle.steD A s s.heap) (hN : vx_Zq Bundle.tN "SUPPRESSED_SENTINEL" Bundle.listD A s s.heap) (hS : va_S A s.heap H locs) (hsize : ls.size = c.maxLocals)
    (d0 : decode cc pc = .ok (.new ik, 3)) (d3 : decode cc (pc + 3) = .ok (.dup, 1)) (d4 : decode cc (pc + 4) = .ok (.invokespecial ic, 3)) (d7 : decode cc (pc + 7) = .ok (.athrow, 1))
    (hout : ∀ x ∈ c.exceptionTable.toList, covers x (pc + 7) = false)
    (hRframes : names.length + 3 < R.frames) (hRlocals : (rest.map fun v => v.category).sum + (13 * (names.length + 1) + 42) ≤ R.locals) (hRcells : cells + 1 ≤ R.cells) (hRslots : slots + 6 ≤ R.slots) (hlocks : meth.locks = false)
    (hx : ∀ t : State, s.vm.Alike t.vm → H.size ≤ t.heap.size → (∀ q : Nat, q < H.size → t.heap[q]? = H[q]?) → XC cls s t)
    (hf : ∀ z ∈ locs, free z.base) (hc : cells + 1 ≤ mc) (hs : slots + 6 ≤ ms) :
    W p l e R s m args below meth c H locs cells slots (vx_MQ below Qc XC args s mc ms free) (F0 m pc ls rest) := by
  intro T hT X
  have htr : e.platform.stackTraces = false := (show e.platform.stackTraces = l.stackTraces by rw [X.admits.platform]).trans hl
  have Y := vx_rebase X (R' := { frames := R.frames, locals := R.locals, cells := 1, slots := 6 }) (Nat.le_refl _) (Nat.le_refl _) hRcells hRslots
  obtain ⟨s', hA⟩ : ∃ z, z = (T.setVm s.vm).setFrames (.invoking m args :: below) := ⟨_, rfl⟩
  rw [← hA] at Y
  have hvm : s'.vm = s.vm := by rw [hA]; rfl
  have hhp : s'.heap = H := by rw [hA]; exact hT
  have hW0 : s.WarmedH s'.vm := by rw [hvm]; exact State.WarmedH.refl s
  have hat' : ∀ w ∈ vx_at0 own ic cls names, w.before args s' = true := fun w hw => vx_ot_at hW0 hvm.symm (hgood w (List.mem_cons_of_mem _ (List.mem_cons_of_mem _ hw))) (hat w hw)
  have hk' : (Cond.classLink own ik cls).before args s' = true := vx_ot_at hW0 hvm.symm (hgood _ List.mem_cons_self) hk
  have hini' : (Cond.initialized cls).before args s' = true := vx_ot_at hW0 hvm.symm (hgood _ (List.mem_cons_of_mem _ List.mem_cons_self)) hini
  have hU' : vx_Zq Bundle.tN "UNASSIGNED_STACK" Bundle.steD A s' s'.heap := by rw [hhp]; exact vx_Zq.moved hW0.alike (hU.kept hS.2.1)
  have hN' : vx_Zq Bundle.tN "SUPPRESSED_SENTINEL" Bundle.listD A s' s'.heap := by rw [hhp]; exact vx_Zq.moved hW0.alike (hN.kept hS.2.1)
  have h : ∀ w ∈ Bundle.ownAtoms0 own ic cls names, w.before args s' = true := vx_own hat' (vx_isRefq hU'.1) (vx_isRefq hN'.1) hU'.2.word hN'.2.word
  have hown' : s'.vm.findClass own = some m.cls := by rw [hvm]; exact hown
  have hins : (Cond.instantiable cls 6).before args s' = true := h _ (by simp [Bundle.ownAtoms0])
  obtain ⟨vm₁, cX, kX, hfX, hkX, -, -, X₁, st1⟩ := Y.newCold hexec (own := own) (C := cls) (index := ik) (n := 6) hown' hk' hins hini'
    (g := F0 m pc ls rest) rfl (by rw [hb]; exact d0) (Nat.le_refl _) (Nat.le_refl _)
  generalize hT1 : (T.setVm vm₁).pushCell { cls := cX, slots := kX.instanceTypes.map defaultValue, vm := .none } = T1 at X₁ st1
  have hcat : (Value.ref T.heap.size).category = 1 := rfl
  have hcellA : T1.heap[T.heap.size]? = some (freshCell cX kX) := by rw [← hT1]; exact State.heap_pushCell_size _ _
  have d3' : decode c.code (pc + 3) = .ok (.dup, 1) := by rw [hb]; exact d3
  obtain ⟨U, hsteps, hrun, hend, hW, hsame, ce, hce, hO⟩ := X₁.ctorThrow0 hexec htr (own := own) (cls := cls) (names := names) (ic := ic) hown' hcls hnames h (fun x hx => nomatch hx) hfX hkX hcellA (by rw [hhp, hT]; exact Nat.le_refl _)
    (g := { method := m, pc := pc + 4, locals := ls, stack := .ref T.heap.size :: .ref T.heap.size :: rest, locked := none }) rfl hsize rfl rfl (rest := rest) rfl
    (by rw [hb]; exact d4) (by rw [hb]; exact d7) hout hRframes (by simp only [List.map_cons, List.sum_cons, hcat]; omega) hlocks
  obtain ⟨f1, f2⟩ := vx_frame hsame
  rw [hhp] at f1 f2
  have hWs : s.WarmedH U.vm := State.WarmedH.trans hW0 hW
  have hcl : s.vm.findClass cls = some ce.cls := by
    have h9 := hO.cls
    rw [hvm] at h9
    exact h9
  have hall : s.sameButNew ({ U with vm := s.vm } : State) locs mc ms := by
    subst hA
    obtain ⟨e1, e2⟩ := hsame
    rw [State.setFrames_setFrames] at e1
    have h2 : (T.setVm s.vm).sameButNew ({ U with vm := s.vm } : State) [] (0 + 1) (0 + 6) := ⟨e1, e2⟩
    have h3 := X.same.trans h2
    rw [List.append_nil] at h3
    exact h3.mono hc hs
  refine ⟨U, ?_, .threw T.heap.size, hrun, hend, Or.inr ⟨T.heap.size, rfl, cls, ce, locs, hx U hWs.alike f1 (fun q hq => f2 q hq (fun z hz => nomatch hz)), hce, hO.vm, hcl, hWs, hall, hf⟩⟩
  refine st1 _ ?_
  show Steps p.tables e below (T1.setTop { method := m, pc := pc + 3, locals := ls, stack := .ref T.heap.size :: rest, locked := none }) _
  jvm_step X₁.here [X₁.here.top, hexec, d3', Value.category]
  exact hsteps
/-- 'throw new E("text")': new; dup; ldc; invokespecial; athrow -/
theorem vx_throwS {cc : ByteArray} {pc : Nat} (hexec : p.tables.exec = Jvm.exec) (hb : c.code = cc) (hl : l.stackTraces = false) {own cls text : String} {names : List String} {ik is ic mc ms sa : Nat} {A : Nat → Prop}
    (hown : s.vm.findClass own = some m.cls) (hcls : Bundle.fit cls = true) (hnames : ∀ n ∈ names, Bundle.fit n = true)
    (hk : (Cond.classLink own ik cls).before args s = true) (hini : (Cond.initialized cls).before args s = true) (hstr : vk_R own is text sa s) (hat : ∀ w ∈ vx_atS own ic cls names, w.before args s = true)
    (hgood : ∀ w ∈ Cond.classLink own ik cls :: Cond.initialized cls :: vx_atS own ic cls names, vx_ot w = true)
    (hU : vx_Zq Bundle.tN "UNASSIGNED_STACK" Bundle.steD A s s.heap) (hN : vx_Zq Bundle.tN "SUPPRESSED_SENTINEL" Bundle.listD A s s.heap) (hS : va_S A s.heap H locs) (hsize : ls.size = c.maxLocals)
    (d0 : decode cc pc = .ok (.new ik, 3)) (d3 : decode cc (pc + 3) = .ok (.dup, 1)) (d4 : decode cc (pc + 4) = .ok (.ldc is, 2)) (d6 : decode cc (pc + 6) = .ok (.invokespecial ic, 3)) (d9 : decode cc (pc + 9) = .ok (.athrow, 1))
    (hout : ∀ x ∈ c.exceptionTable.toList, covers x (pc + 9) = false)
    (hRframes : names.length + 3 < R.frames) (hRlocals : (rest.map fun v => v.category).sum + (13 * (names.length + 1) + 43) ≤ R.locals) (hRcells : cells + 1 ≤ R.cells) (hRslots : slots + 6 ≤ R.slots) (hlocks : meth.locks = false)
    (hx : ∀ t : State, s.vm.Alike t.vm → H.size ≤ t.heap.size → (∀ q : Nat, q < H.size → t.heap[q]? = H[q]?) → XC cls s t)
    (hf : ∀ z ∈ locs, free z.base) (hc : cells + 1 ≤ mc) (hs : slots + 6 ≤ ms) :
    W p l e R s m args below meth c H locs cells slots (vx_MQ below Qc XC args s mc ms free) (F0 m pc ls rest) := by
  intro T hT X
  have htr : e.platform.stackTraces = false := (show e.platform.stackTraces = l.stackTraces by rw [X.admits.platform]).trans hl
  have Y := vx_rebase X (R' := { frames := R.frames, locals := R.locals, cells := 1, slots := 6 }) (Nat.le_refl _) (Nat.le_refl _) hRcells hRslots
  obtain ⟨s', hA⟩ : ∃ z, z = (T.setVm s.vm).setFrames (.invoking m args :: below) := ⟨_, rfl⟩
  rw [← hA] at Y
  have hvm : s'.vm = s.vm := by rw [hA]; rfl
  have hhp : s'.heap = H := by rw [hA]; exact hT
  have hW0 : s.WarmedH s'.vm := by rw [hvm]; exact State.WarmedH.refl s
  have hat' : ∀ w ∈ vx_atS own ic cls names, w.before args s' = true := fun w hw => vx_ot_at hW0 hvm.symm (hgood w (List.mem_cons_of_mem _ (List.mem_cons_of_mem _ hw))) (hat w hw)
  have hk' : (Cond.classLink own ik cls).before args s' = true := vx_ot_at hW0 hvm.symm (hgood _ List.mem_cons_self) hk
  have hini' : (Cond.initialized cls).before args s' = true := vx_ot_at hW0 hvm.symm (hgood _ (List.mem_cons_of_mem _ List.mem_cons_self)) hini
  have hU' : vx_Zq Bundle.tN "UNASSIGNED_STACK" Bundle.steD A s' s'.heap := by rw [hhp]; exact vx_Zq.moved hW0.alike (hU.kept hS.2.1)
  have hN' : vx_Zq Bundle.tN "SUPPRESSED_SENTINEL" Bundle.listD A s' s'.heap := by rw [hhp]; exact vx_Zq.moved hW0.alike (hN.kept hS.2.1)
  have h : ∀ w ∈ Bundle.ownAtoms own ic cls names, w.before args s' = true := vx_own hat' (vx_isRefq hU'.1) (vx_isRefq hN'.1) hU'.2.word hN'.2.word
  have hown' : s'.vm.findClass own = some m.cls := by rw [hvm]; exact hown
  have hins : (Cond.instantiable cls 6).before args s' = true := h _ (by simp [Bundle.ownAtoms])
  obtain ⟨vm₁, cX, kX, hfX, hkX, -, -, X₁, st1⟩ := Y.newCold hexec (own := own) (C := cls) (index := ik) (n := 6) hown' hk' hins hini'
    (g := F0 m pc ls rest) rfl (by rw [hb]; exact d0) (Nat.le_refl _) (Nat.le_refl _)
  generalize hT1 : (T.setVm vm₁).pushCell { cls := cX, slots := kX.instanceTypes.map defaultValue, vm := .none } = T1 at X₁ st1
  have hcat : (Value.ref T.heap.size).category = 1 := rfl
  have hcellA : T1.heap[T.heap.size]? = some (freshCell cX kX) := by rw [← hT1]; exact State.heap_pushCell_size _ _
  have d3' : decode c.code (pc + 3) = .ok (.dup, 1) := by rw [hb]; exact d3
  have d4' : decode c.code (pc + 4) = .ok (.ldc is, 2) := by rw [hb]; exact d4
  have hstr' : vk_R own is text sa s' := vk_R.warm hW0 hstr
  obtain ⟨U, hsteps, hrun, hend, hW, hsame, ce, hce, hO⟩ := X₁.ctorThrowS hexec htr (own := own) (cls := cls) (names := names) (ic := ic) hown' hcls hnames h (fun x hx => nomatch hx) hfX hkX hcellA (by rw [hhp, hT]; exact Nat.le_refl _) (msg := .ref sa) rfl
    (g := { method := m, pc := pc + 6, locals := ls, stack := .ref sa :: .ref T.heap.size :: .ref T.heap.size :: rest, locked := none }) rfl hsize rfl rfl (rest := rest) rfl
    (by rw [hb]; exact d6) (by rw [hb]; exact d9) hout hRframes (by simp only [List.map_cons, List.sum_cons, hcat]; omega) hlocks
  obtain ⟨f1, f2⟩ := vx_frame hsame
  rw [hhp] at f1 f2
  have hWs : s.WarmedH U.vm := State.WarmedH.trans hW0 hW
  have hcl : s.vm.findClass cls = some ce.cls := by
    have h9 := hO.cls
    rw [hvm] at h9
    exact h9
  have hall : s.sameButNew ({ U with vm := s.vm } : State) locs mc ms := by
    subst hA
    obtain ⟨e1, e2⟩ := hsame
    rw [State.setFrames_setFrames] at e1
    have h2 : (T.setVm s.vm).sameButNew ({ U with vm := s.vm } : State) [] (0 + 1) (0 + 6) := ⟨e1, e2⟩
    have h3 := X.same.trans h2
    rw [List.append_nil] at h3
    exact h3.mono hc hs
  refine ⟨U, ?_, .threw T.heap.size, hrun, hend, Or.inr ⟨T.heap.size, rfl, cls, ce, locs, hx U hWs.alike f1 (fun q hq => f2 q hq (fun z hz => nomatch hz)), hce, hO.vm, hcl, hWs, hall, hf⟩⟩
  refine st1 _ ?_
  show Steps p.tables e below (T1.setTop { method := m, pc := pc + 3, locals := ls, stack := .ref T.heap.size :: rest, locked := none }) _
  jvm_step X₁.here [X₁.here.top, hexec, d3', Value.category]
  exact X₁.ldcString hexec (own := own) (text := text) (index := is) (a := sa) hown' hstr'.1 hstr'.2
    (g := { method := m, pc := pc + 4, locals := ls, stack := .ref T.heap.size :: .ref T.heap.size :: rest, locked := none }) rfl d4' _ hsteps
/-- 'throw new E("text")', the text by a wide index -/
theorem vx_throwSW {cc : ByteArray} {pc : Nat} (hexec : p.tables.exec = Jvm.exec) (hb : c.code = cc) (hl : l.stackTraces = false) {own cls text : String} {names : List String} {ik is ic mc ms sa : Nat} {A : Nat → Prop}
    (hown : s.vm.findClass own = some m.cls) (hcls : Bundle.fit cls = true) (hnames : ∀ n ∈ names, Bundle.fit n = true)
    (hk : (Cond.classLink own ik cls).before args s = true) (hini : (Cond.initialized cls).before args s = true) (hstr : vk_R own is text sa s) (hat : ∀ w ∈ vx_atS own ic cls names, w.before args s = true)
    (hgood : ∀ w ∈ Cond.classLink own ik cls :: Cond.initialized cls :: vx_atS own ic cls names, vx_ot w = true)
    (hU : vx_Zq Bundle.tN "UNASSIGNED_STACK" Bundle.steD A s s.heap) (hN : vx_Zq Bundle.tN "SUPPRESSED_SENTINEL" Bundle.listD A s s.heap) (hS : va_S A s.heap H locs) (hsize : ls.size = c.maxLocals)
    (d0 : decode cc pc = .ok (.new ik, 3)) (d3 : decode cc (pc + 3) = .ok (.dup, 1)) (d4 : decode cc (pc + 4) = .ok (.ldc_w is, 3)) (d7 : decode cc (pc + 7) = .ok (.invokespecial ic, 3)) (d10 : decode cc (pc + 10) = .ok (.athrow, 1))
    (hout : ∀ x ∈ c.exceptionTable.toList, covers x (pc + 10) = false)
    (hRframes : names.length + 3 < R.frames) (hRlocals : (rest.map fun v => v.category).sum + (13 * (names.length + 1) + 43) ≤ R.locals) (hRcells : cells + 1 ≤ R.cells) (hRslots : slots + 6 ≤ R.slots) (hlocks : meth.locks = false)
    (hx : ∀ t : State, s.vm.Alike t.vm → H.size ≤ t.heap.size → (∀ q : Nat, q < H.size → t.heap[q]? = H[q]?) → XC cls s t)
    (hf : ∀ z ∈ locs, free z.base) (hc : cells + 1 ≤ mc) (hs : slots + 6 ≤ ms) :
    W p l e R s m args below meth c H locs cells slots (vx_MQ below Qc XC args s mc ms free) (F0 m pc ls rest) := by
  intro T hT X
  have htr : e.platform.stackTraces = false := (show e.platform.stackTraces = l.stackTraces by rw [X.admits.platform]).trans hl
  have Y := vx_rebase X (R' := { frames := R.frames, locals := R.locals, cells := 1, slots := 6 }) (Nat.le_refl _) (Nat.le_refl _) hRcells hRslots
  obtain ⟨s', hA⟩ : ∃ z, z = (T.setVm s.vm).setFrames (.invoking m args :: below) := ⟨_, rfl⟩
  rw [← hA] at Y
  have hvm : s'.vm = s.vm := by rw [hA]; rfl
  have hhp : s'.heap = H := by rw [hA]; exact hT
  have hW0 : s.WarmedH s'.vm := by rw [hvm]; exact State.WarmedH.refl s
  have hat' : ∀ w ∈ vx_atS own ic cls names, w.before args s' = true := fun w hw => vx_ot_at hW0 hvm.symm (hgood w (List.mem_cons_of_mem _ (List.mem_cons_of_mem _ hw))) (hat w hw)
  have hk' : (Cond.classLink own ik cls).before args s' = true := vx_ot_at hW0 hvm.symm (hgood _ List.mem_cons_self) hk
  have hini' : (Cond.initialized cls).before args s' = true := vx_ot_at hW0 hvm.symm (hgood _ (List.mem_cons_of_mem _ List.mem_cons_self)) hini
  have hU' : vx_Zq Bundle.tN "UNASSIGNED_STACK" Bundle.steD A s' s'.heap := by rw [hhp]; exact vx_Zq.moved hW0.alike (hU.kept hS.2.1)
  have hN' : vx_Zq Bundle.tN "SUPPRESSED_SENTINEL" Bundle.listD A s' s'.heap := by rw [hhp]; exact vx_Zq.moved hW0.alike (hN.kept hS.2.1)
  have h : ∀ w ∈ Bundle.ownAtoms own ic cls names, w.before args s' = true := vx_own hat' (vx_isRefq hU'.1) (vx_isRefq hN'.1) hU'.2.word hN'.2.word
  have hown' : s'.vm.findClass own = some m.cls := by rw [hvm]; exact hown
  have hins : (Cond.instantiable cls 6).before args s' = true := h _ (by simp [Bundle.ownAtoms])
  obtain ⟨vm₁, cX, kX, hfX, hkX, -, -, X₁, st1⟩ := Y.newCold hexec (own := own) (C := cls) (index := ik) (n := 6) hown' hk' hins hini'
    (g := F0 m pc ls rest) rfl (by rw [hb]; exact d0) (Nat.le_refl _) (Nat.le_refl _)
  generalize hT1 : (T.setVm vm₁).pushCell { cls := cX, slots := kX.instanceTypes.map defaultValue, vm := .none } = T1 at X₁ st1
  have hcat : (Value.ref T.heap.size).category = 1 := rfl
  have hcellA : T1.heap[T.heap.size]? = some (freshCell cX kX) := by rw [← hT1]; exact State.heap_pushCell_size _ _
  have d3' : decode c.code (pc + 3) = .ok (.dup, 1) := by rw [hb]; exact d3
  have d4' : decode c.code (pc + 4) = .ok (.ldc_w is, 3) := by rw [hb]; exact d4
  have hstr' : vk_R own is text sa s' := vk_R.warm hW0 hstr
  obtain ⟨U, hsteps, hrun, hend, hW, hsame, ce, hce, hO⟩ := X₁.ctorThrowS hexec htr (own := own) (cls := cls) (names := names) (ic := ic) hown' hcls hnames h (fun x hx => nomatch hx) hfX hkX hcellA (by rw [hhp, hT]; exact Nat.le_refl _) (msg := .ref sa) rfl
    (g := { method := m, pc := pc + 7, locals := ls, stack := .ref sa :: .ref T.heap.size :: .ref T.heap.size :: rest, locked := none }) rfl hsize rfl rfl (rest := rest) rfl
    (by rw [hb]; exact d7) (by rw [hb]; exact d10) hout hRframes (by simp only [List.map_cons, List.sum_cons, hcat]; omega) hlocks
  obtain ⟨f1, f2⟩ := vx_frame hsame
  rw [hhp] at f1 f2
  have hWs : s.WarmedH U.vm := State.WarmedH.trans hW0 hW
  have hcl : s.vm.findClass cls = some ce.cls := by
    have h9 := hO.cls
    rw [hvm] at h9
    exact h9
  have hall : s.sameButNew ({ U with vm := s.vm } : State) locs mc ms := by
    subst hA
    obtain ⟨e1, e2⟩ := hsame
    rw [State.setFrames_setFrames] at e1
    have h2 : (T.setVm s.vm).sameButNew ({ U with vm := s.vm } : State) [] (0 + 1) (0 + 6) := ⟨e1, e2⟩
    have h3 := X.same.trans h2
    rw [List.append_nil] at h3
    exact h3.mono hc hs
  refine ⟨U, ?_, .threw T.heap.size, hrun, hend, Or.inr ⟨T.heap.size, rfl, cls, ce, locs, hx U hWs.alike f1 (fun q hq => f2 q hq (fun z hz => nomatch hz)), hce, hO.vm, hcl, hWs, hall, hf⟩⟩
  refine st1 _ ?_
  show Steps p.tables e below (T1.setTop { method := m, pc := pc + 3, locals := ls, stack := .ref T.heap.size :: rest, locked := none }) _
  jvm_step X₁.here [X₁.here.top, hexec, d3', Value.category]
  exact X₁.ldcStringW hexec (own := own) (text := text) (index := is) (a := sa) hown' hstr'.1 hstr'.2
    (g := { method := m, pc := pc + 4, locals := ls, stack := .ref T.heap.size :: .ref T.heap.size :: rest, locked := none }) rfl d4' _ hsteps
end Ends
section Bodies
variable {l : Launch}
theorem vx_ofW {y : MethodName} {ws ws' : List Cond} {rm : Room} {Pc : Array Value → State → Prop} {Qc : Array Value → State → Outcome → State → Prop} {XC : String → State → State → Prop} {mc ms : Nat} {free : Addr → Prop} {cc : ByteArray} {maxL : Nat} {ret : Option FieldType}
    (hy : plainName y.cls = true) (hw : ws = Cond.code y cc maxL ret :: ws')
    (body : ∀ p e s m args below meth c s₁, BodyLoose p l y (headSpec ws rm) cc maxL ret e s m args below meth c s₁ → c.maxLocals = maxL → (∀ x ∈ c.exceptionTable.toList, False) → Pc args s →
      W p l e (headSpec ws rm).room s m args below meth c s.heap [] 0 0 (vx_MQ below Qc XC args s mc ms free) (entryFrame m args maxL)) : vx_Met l y ws rm Pc Qc XC mc ms free := by
  refine MetFree.of_bodyS (code := cc) (maxLocals := maxL) (ret := ret) hy ?_ ?_
  · intro args s m h hn
    obtain ⟨meth, c, h1, h2, h3, h4, h5, h6, -, -⟩ := Cond.code_spec hn (atoms_spec (ws := ws) h _ (by rw [hw]; exact List.mem_cons_self))
    exact ⟨meth, c, h1, h2, h3, h4, h5, h6⟩
  · intro p e s m args below meth c s₁ B hml hP _
    have hh0 : s₁.heap = s.heap := by rw [B.state]; rfl
    have ht : ∀ x ∈ c.exceptionTable.toList, False := by
      obtain ⟨meth9, c9, h1, h2, -, -, -, -, h7, -⟩ := Cond.code_spec B.named (atoms_spec (ws := ws) B.pre _ (by rw [hw]; exact List.mem_cons_self))
      cases Option.some.inj (h1.symm.trans B.method)
      cases Option.some.inj (h2.symm.trans (Stand.of_body B).code)
      intro x hx
      rw [Array.isEmpty_iff.mp h7] at hx
      cases hx
    obtain ⟨t, a1, o, b1, b2, b3⟩ := body p e s m args below meth c s₁ B hml ht hP s₁ hh0 (Stand.of_body B)
    exact ⟨t, o, a1, b1, b2, b3⟩
/-- the table of a body with handlers -/
theorem vx_table {p : Program} {x y : MethodName} {S : Spec} {cc bytes : ByteArray} {maxL maxL' : Nat} {ret ret' : Option FieldType} {e : Env} {s s₁ : State} {m : MethodId} {args : Array Value} {below : List Frame} {meth : Method} {c : Code} {hh : List (Nat × Nat × Nat × Nat)}
    (B : BodyLoose p l y S cc maxL ret e s m args below meth c s₁) (h : (Cond.codeWith y bytes maxL' ret' hh).before args s = true) : c.exceptionTable.toList = tableOf hh := by
  obtain ⟨m9, meth9, c9, hn9, h1, h2, -, -, h6, -⟩ := Cond.codeWith_spec h
  cases Option.some.inj (hn9.symm.trans B.named)
  cases Option.some.inj (h1.symm.trans B.method)
  cases Option.some.inj (h2.symm.trans (Stand.of_body B).code)
  rw [← h6, table_eq]
end Bodies
end VXA
/-! ===== END ===== -/
/-! ===== BEGIN a static call of a method with an exception table ===== -/
section VXS
variable {p : Program} {l : Launch} {e : Env} {R : Room} {s : State} {m : MethodId} {args : Array Value} {below : List Frame} {meth : Method} {c : Code} {T : State} {H : Heap} {locs : List Loc} {cells slots : Nat}
abbrev vx_CSW (R : Room) (s : State) (args : Array Value) (own : String) (index : Nat) (y : MethodName) (bytes : ByteArray) (maxL : Nat) (ret : Option FieldType) (hh : List (Nat × Nat × Nat × Nat)) (ws : List Cond) (rm : Room) (mc ms n : Nat) : Prop :=
  (rm.cells = mc ∧ rm.slots = ms ∧ rm.frames + 1 ≤ R.frames ∧ 8 + (maxL + 11) + rm.locals ≤ R.locals ∧ (∀ w ∈ ws, ∀ (a' : Array Value) (U : State), s.WarmedH U.vm → w.before a' U = true) ∧ Cond.codeWith y bytes maxL ret hh ∈ ws) ∧
  (Cond.codeWith y bytes maxL ret hh).before args s = true ∧ (Cond.initialized y.cls).before args s = true ∧ (y.cls ≠ "java/lang/invoke/MethodHandle" ∧ y.cls ≠ "java/lang/invoke/VarHandle") ∧
  (∀ sig, parseMethodDescriptor y.desc = some sig → n = sig.parameters.length) ∧ (Cond.methodLink own index y).before args s = true ∧ (Cond.static y).before args s = true
theorem vx_cwSW {own : String} {index maxL mc ms : Nat} {y : MethodName} {bytes : ByteArray} {ret : Option FieldType} {hh : List (Nat × Nat × Nat × Nat)} {Ts ws ws' : List Cond} {rm : Room} (n : Nat) (ht : ∀ w ∈ Ts, w.before args s = true) (hT : GoodIn Ts (va_wsS own index y ws)) (hw : ws = Cond.codeWith y bytes maxL ret hh :: ws') (hrc : rm.cells = mc) (hrs : rm.slots = ms)
    (hd : y.cls ≠ "java/lang/invoke/MethodHandle" ∧ y.cls ≠ "java/lang/invoke/VarHandle" ∧ (parseMethodDescriptor y.desc).map (fun d => d.parameters.length) = some n) (hR : rm.frames + 1 ≤ R.frames ∧ 8 + (maxL + 11) + rm.locals ≤ R.locals) :
    vx_CSW R s args own index y bytes maxL ret hh ws rm mc ms n := by
  have ok : ∀ w ∈ va_wsS own index y ws, w.before args s = true := fun w h => ht w (hT w h).1
  have hG : GoodIn Ts ws := fun w h => hT w (by unfold va_wsS; exact List.mem_append_right _ h)
  have hc : Cond.codeWith y bytes maxL ret hh ∈ ws := by rw [hw]; exact List.mem_cons_self
  refine ⟨⟨hrc, hrs, hR.1, hR.2, pay_in ht hG, hc⟩, ht _ (hG _ hc).1, ok _ (by simp [va_wsS]), ⟨hd.1, hd.2.1⟩, fun sig h => ?_, ok _ (by simp [va_wsS]), ok _ (by simp [va_wsS])⟩
  have h2 := hd.2.2
  rw [h] at h2
  exact (Option.some.inj h2).symm
theorem vx_callSW (X : Stand p l e R s m args below meth c T locs cells slots) (hexec : p.tables.exec = Jvm.exec) {own : String} {index : Nat} {y : MethodName} {bytes : ByteArray} {maxL : Nat} {ret : Option FieldType} {hh : List (Nat × Nat × Nat × Nat)}
    (hown : s.vm.findClass own = some m.cls) (hlink : (Cond.methodLink own index y).before args s = true) (hstat : (Cond.static y).before args s = true) (hinit : (Cond.initialized y.cls).before args s = true)
    (hcode : (Cond.codeWith y bytes maxL ret hh).before args s = true) (hy : y.cls ≠ "java/lang/invoke/MethodHandle" ∧ y.cls ≠ "java/lang/invoke/VarHandle")
    {W9 : Nat} {Pre : Pt → Array Value → Prop} {Post : Pt → Array Value → Option Value → Pt → Prop} (hK : Back l R p e below s args y 3 W9 Pre Post)
    {g : JFrame} (hg : g.method = m) (hsize : g.locals.size = c.maxLocals) {argsL rest : List Value} (hlen : ∀ sig, parseMethodDescriptor y.desc = some sig → argsL.length = sig.parameters.length)
    (hstack : g.stack = argsL.reverse ++ rest) (hW : 2 * g.monitorRoom + (rest.map fun v => v.category).sum ≤ W9) (hdg : decode c.code g.pc = .ok (.invokestatic index, 3))
    (hpre : ∀ vm₁, s.WarmedH vm₁ → Pre ⟨T.setVm vm₁, locs, cells, slots⟩ argsL.toArray) :
    ∃ (v : Option Value) (vm₁ : Vm) (B : Pt), s.WarmedH vm₁ ∧ Stand p l e R s m args below meth c B.U B.locs B.cells B.slots ∧ Post ⟨T.setVm vm₁, locs, cells, slots⟩ argsL.toArray v B ∧
      ∀ target, Steps p.tables e below (B.U.setTop { g with pc := g.pc + 3, stack := v.toList ++ rest }) target → Steps p.tables e below (T.setTop g) target := by
  obtain ⟨mk, methM, cM, hnamed, hmethM, -, -, -, -, -, -, hsigM⟩ := Cond.codeWith_spec hcode
  have hstatic : methM.isStatic = true := Cond.static_spec hnamed hmethM hstat
  obtain ⟨kP, hkP, -⟩ := className_of_methodNamed hnamed
  have hinitP : kP.init = .initialized := Cond.initialized_spec (findClass_of_methodNamed hnamed) hkP hinit
  obtain ⟨vm₁, X₁, hstep₁⟩ := X.invokestatic hexec hown hlink hnamed hmethM hstatic hkP hinitP hy (g := g) hg (argsL := argsL) (rest := rest) (hlen _ hsigM) hstack hdg
  obtain ⟨v, B, X', hpost, hsteps⟩ := hK m meth c ⟨T.setVm vm₁, locs, cells, slots⟩ { g with stack := rest } (.invokestatic index) mk argsL.toArray X₁ hg hsize hdg hW (X₁.named hnamed) (hpre vm₁ X₁.warmed)
  exact ⟨v, vm₁, B, X₁.warmed, X', hpost, fun target h => hstep₁ _ fun acts => by rw [doInvoke_state]; exact hsteps.trans h⟩
theorem vx_runSW {y : MethodName} {bytes cc : ByteArray} {maxL nL mc ms n index : Nat} {ret : Option FieldType} {hh : List (Nat × Nat × Nat × Nat)} {ws : List Cond} {rm : Room} {Pc : Array Value → State → Prop} {Qc : Array Value → State → Outcome → State → Prop} {free : Addr → Prop} {Ts : List Cond} {own : String} {As rest : List Value} {g : JFrame}
    (S : CallFix p m c cc nL s args Ts own) (hM : Met l y ws rm Pc Qc mc ms free) (cw : vx_CSW R s args own index y bytes maxL ret hh ws rm mc ms n) (hp : PreS s H Pc As)
    (hg : g.method = m) (hn : As.length = n) (hsize : g.locals.size = nL) (hstack : g.stack = As.reverse ++ rest) (hW : 2 * g.monitorRoom + (rest.map fun v => v.category).sum ≤ 8) (hdg : decode cc g.pc = .ok (.invokestatic index, 3)) (hf : cells + mc ≤ R.cells ∧ slots + ms ≤ R.slots) :
    va_Run p l e R s m args below meth c H locs cells slots mc ms g rest (Qc As.toArray) (free) := by
  obtain ⟨⟨hrc, hrs, hfr, hlo, hws, hcw⟩, hcode, hini, hy, hlen, hl, hstt⟩ := cw
  have hK : Back l R p e below s args y 3 8 (PreOf R mc ms Pc) (PostOf Qc mc ms free) := va_backW (hh := hh) (bytes := bytes) (maxL := maxL) (ret := ret) hM hp.1 hrc hrs hfr hlo hws hcw (fun a' U hW => word_at hW (Or.inl (by first | rfl | simp [Cond.onTables, Cond.keeps, Cond.steady])) hini)
  obtain ⟨hx, hb, hml, ho, -⟩ := S
  intro T hT X
  obtain ⟨v, vm₁, ⟨U', l2, c2, s2⟩, hW₁, X', ⟨g', mk, t, L, e1, e2, hq, h1, hL, h2, h3⟩, st⟩ := vx_callSW X hx (hh := hh) (bytes := bytes) (maxL := maxL) (ret := ret) ho hl hstt hini hcode hy hK hg (hsize.trans hml.symm) (argsL := As) (rest := rest) (fun sig h => hn.trans (hlen sig h)) hstack hW (by rw [hb]; exact hdg)
    (fun vm₁ hW₁ => ⟨hf.1, hf.2, hp.2 (T.setVm vm₁) hT hW₁⟩)
  dsimp only [Pt.U, Pt.locs, Pt.cells, Pt.slots] at X' e1 e2 h1 h2 h3 st
  subst h1; subst h2; subst h3
  exact ⟨v, (T.setVm vm₁).calling g' mk As.toArray, t, U', L, hT, X', hL, e1, e2, hq, st⟩
/-- not caught here, past rows that name other classes: it goes on to the caller -/
theorem vx_outP {p : Program} {l : Launch} {e : Env} {R : Room} {s : State} {m : MethodId} {args : Array Value} {below : List Frame} {meth : Method} {c : Code} {H : Heap} {locs : List Loc} {cells slots : Nat} {free : Addr → Prop} {ls : Array Slot} {rest : List Value} {Qc : Array Value → State → Outcome → State → Prop} {XC : String → State → State → Prop}
    {pc : Nat} {own E : String} {ce : Cell} {q : Addr} {mc ms : Nat} (hown : s.vm.findClass own = some m.cls) (hlocks : meth.locks = false)
    (hpass : ∀ z ∈ c.exceptionTable.toList, covers z pc = false ∨ (z.catchType ≠ 0 ∧ ∃ nm : String, (Cond.classLink own z.catchType nm).before args s = true ∧ va_Nc E nm s)) (hcell : H[q]? = some ce) (hv : ce.vm = .none) (hcl : s.vm.findClass E = some ce.cls)
    (hx : ∀ t : State, t.heap = H → s.vm.Alike t.vm → XC E s t) (hf : ∀ z ∈ locs, free z.base) (hc : cells ≤ mc) (hs : slots ≤ ms) :
    vx_W p l e R s m args below meth c H locs cells slots (vx_MQ below Qc XC args s mc ms free) (F0 m pc ls rest) q := by
  intro T hT X
  have hpl : e.platform.magicAccessors = ({} : Platform).magicAccessors := by rw [X.admits.platform]
  obtain ⟨vm', hW', X', st⟩ := X.outThrough hlocks q (g := F0 m pc ls rest) rfl rfl rfl (cell := ce) (by rw [hT]; exact hcell) (by rw [hv]; rfl)
    (by obtain ⟨k9, h9, -⟩ := Vm.findClass_spec hcl; exact ⟨k9, h9⟩) (fun z hz => by
      rcases hpass z hz with h | ⟨hz0, nm, hl1, hn1⟩
      · exact Or.inl h
      · obtain ⟨c6, hc6, hcl6⟩ := Cond.classLink_spec hown hl1 e.platform hpl
        obtain ⟨a8, b8, h1, h2, h3⟩ := hn1
        cases Option.some.inj (h1.symm.trans hcl)
        cases Option.some.inj (h2.symm.trans hc6)
        exact Or.inr ⟨hz0, _, hcl6, h3⟩)
  obtain ⟨g₀, hfr⟩ := X'.frames_eq
  have hcell9 : ((T.setVm vm').setFrames (.throwing q :: below)).heap[q]? = some ce := by
    show T.heap[q]? = some ce
    rw [hT]; exact hcell
  have hend : Ended ((T.setVm vm').setFrames (.throwing q :: below)) below (.threw q) := State.frames_setFrames _ (State.cur_lt_of_frames hfr)
  refine ⟨(T.setVm vm').setFrames (.throwing q :: below), ?_, .threw q, X'.here.running, hend, Or.inr ⟨q, rfl, E, ce, locs, hx _ hT (X'.ends _).1.alike, hcell9, hv, hcl, (X'.ends _).1, (X'.ends _).2.mono hc hs, hf⟩⟩
  rw [X.pushThrowing_eq]
  exact st
/-- a thing of a world lies in the heap -/
theorem vx_lt {D : va_G} {cl : List vw_C} {ws : va_W} {H1 : Heap} (h : va_P D cl ws H1) {k : Nat} {q : Nat × va_E} (hk : ws[k]? = some q) : q.1 < H1.size := (h k q hk).lt
end VXS
/-! ===== END ===== -/
/-! ===== BEGIN methods with a table of their own: called by a name, returning or throwing ===== -/
section VXH
/-! vx_backW, vx_callVX, vx_callSX, vx_callVW, vx_runVW, vx_runVX, vx_runSX, vx_ofWH follow the same proofs as their sisters above (Free/Laws.lean, Shelf42/LK1.lean); vx_outP calls Shelf42/NT130.lean (outThrough). -/
section
variable {l : Launch} {R : Room} {p : Program} {e : Env} {below : List Frame} {s : State} {sargs : Array Value} {y : MethodName} {len W9 : Nat}
theorem vx_backW {ws : List Cond} {rm : Room} {Pc : Array Value → State → Prop} {Qc : Array Value → State → Outcome → State → Prop} {XC : String → State → State → Prop} {mc ms : Nat} {free : Addr → Prop} {bytes : ByteArray} {maxL : Nat} {ret : Option FieldType} {hh : List (Nat × Nat × Nat × Nat)}
    (hM : vx_Met l y ws rm Pc Qc XC mc ms free) (hblind : FrameBlind Pc) (hrc : rm.cells = mc) (hrs : rm.slots = ms)
    (hframes : rm.frames + 1 ≤ R.frames) (hlocals : W9 + (maxL + 11) + rm.locals ≤ R.locals)
    (hws : ∀ w ∈ ws, ∀ a' U, s.WarmedH U.vm → w.before a' U = true) (hcode : Cond.codeWith y bytes maxL ret hh ∈ ws) (hinit : ∀ a' U, s.WarmedH U.vm → (Cond.initialized y.cls).before a' U = true) :
    vx_Back l R p e below s sargs y len W9 (PreOf R mc ms Pc) (PostOf Qc mc ms free) (vx_Post XC mc ms free) := by
  intro m meth c A g ig mk a X hg hsize hdg hW hn hp
  have h1 : (headSpec ws rm).pre.before a A.U = true := atoms_intro fun w hw => hws w hw _ _ X.warmed
  have h2 : (Cond.codeWith y bytes maxL ret hh).before a A.U = true := hws _ hcode _ _ X.warmed
  have h3 : (Cond.initialized y.cls).before a A.U = true := hinit _ _ X.warmed
  have h4 : A.cells + (headSpec ws rm).room.cells ≤ R.cells := by rw [show (headSpec ws rm).room.cells = mc from hrc]; exact hp.1
  have h5 : A.slots + (headSpec ws rm).room.slots ≤ R.slots := by rw [show (headSpec ws rm).room.slots = ms from hrs]; exact hp.2.1
  have hPc : Pc a (A.U.calling g mk a) := hblind _ _ _ _ hp.2.2
  obtain ⟨U, Ls, c0, s0⟩ := A
  dsimp only [Pt.U, Pt.locs, Pt.cells, Pt.slots] at h1 h2 h3 h4 h5 X hn hPc ⊢
  obtain ⟨m9, methY, cY, hn9, hmY, hcY, -, hlY, -⟩ := Cond.codeWith_spec h2
  cases Option.some.inj (hn9.symm.trans hn)
  obtain ⟨kY, hkY, -⟩ := className_of_methodNamed hn
  have hinitY : kY.init = .initialized := Cond.initialized_spec (findClass_of_methodNamed hn) hkY h3
  have h : At U g.method c below := by rw [hg]; exact X.here
  have hlocals9 : W9 + (maxL + 11) + (headSpec ws rm).room.locals ≤ R.locals := hlocals
  have happ : (headSpec ws rm).appliesLoose y e.platform (U.calling g mk a) = true :=
    Spec.appliesLoose_calling (g := g) h hdg hn hkY hinitY
      (X.room_calling (g := g) (R' := (headSpec ws rm).room) hsize hmY hcY hframes (by rw [hlY]; omega) h4 h5) h1
  obtain ⟨mid, hmid⟩ := h.above
  have hfr : (U.setTop g).frames = (.java g :: mid) ++ below := by rw [State.frames_setTop' g h.top, hmid]; rfl
  obtain ⟨o, s₂, hsteps, -, hend, hq⟩ := Steps.callFree hM p X.admits X.cas X.clock (acts := []) hfr happ hPc trivial
  have hq' : vx_Q Qc XC mc ms free a (U.calling g mk a) o s₂ := hq
  rw [State.frames_setTop' g h.top] at hend
  obtain ⟨g₀, hg0⟩ := Option.isSome_iff_exists.mp h.top
  obtain ⟨r, hr⟩ := State.topJava?_eq_some.mp hg0
  have hr' : (({ U with heap := s₂.heap, slotsUsed := s₂.slotsUsed } : State).setVm s₂.vm).frames = .java g₀ :: r := hr
  rcases hq' with ⟨hqc, L, hfe, hL⟩ | ⟨q, rfl, E, ce, L, hx, hce, hcv, hcl, hW₂, hsm, hL⟩
  · obtain ⟨⟨v, rfl⟩, hW₂, e2, q2, q3, q4, q5, q6⟩ := id hfe
    have e3 : s₂ = ({ (U.calling g mk a).setFrames s₂.frames with heap := s₂.heap, slotsUsed := s₂.slotsUsed } : State).setVm s₂.vm := by
      have : s₂ = ({ s₂ with vm := (U.calling g mk a).vm } : State).setVm s₂.vm := rfl
      rw [e2] at this
      exact this
    obtain ⟨c₂, i₂, len₂, hc₂, hd₂, hf₂⟩ := hend
    have hW' : U.WarmedH s₂.vm := hW₂
    have hcc : c₂ = c := by
      have h1 : s₂.code? g.method = U.code? g.method := by
        rw [State.code?_eq, State.code?_eq, hW'.alike.method?]
      exact Option.some.inj (hc₂.symm.trans (h1.trans h.code))
    subst hcc
    have hlen : len₂ = len := by rw [hdg] at hd₂; cases hd₂; rfl
    subst hlen
    have hs₂ : s₂ = (({ U with heap := s₂.heap, slotsUsed := s₂.slotsUsed } : State).setVm s₂.vm).setTop { g with pc := g.pc + len₂, stack := v.toList ++ g.stack } := by
      refine e3.trans ?_
      rw [hf₂, State.calling_eq h.top, State.setFrames_setFrames, State.setTop_of_frames _ hr', hr]
      rfl
    have hsame : U.sameButNew ({ U with heap := s₂.heap, slotsUsed := s₂.slotsUsed } : State) L mc ms := by
      refine ⟨?_, q2, q3, q4, q5, q6⟩
      obtain ⟨t, ht, -⟩ := State.frames_cons hr
      show ({ U with heap := s₂.heap, slotsUsed := s₂.slotsUsed } : State) = { U.setFrames U.frames with heap := s₂.heap, slotsUsed := s₂.slotsUsed }
      rw [State.setFrames_self ht]
    subst hg
    refine Or.inl ⟨v, ⟨(({ U with heap := s₂.heap, slotsUsed := s₂.slotsUsed } : State).setVm s₂.vm), Ls ++ L, c0 + mc, s0 + ms⟩,
      ⟨X.admits, X.cas, X.clock, X.frames, X.room, X.hears, X.method, X.code, (X.here.setHeapUsed s₂.heap s₂.slotsUsed).setVm hW'.alike, X.tail, State.WarmedH.trans X.warmed hW', X.limits, X.bytes, X.same.trans (hsame.setVm s.vm)⟩,
      ⟨g, mk, s₂, L, rfl, rfl, hqc, rfl, hL, rfl, rfl⟩, ?_⟩
    show Steps p.tables e below _ ((({ U with heap := s₂.heap, slotsUsed := s₂.slotsUsed } : State).setVm s₂.vm).setTop { g with pc := g.pc + len₂, stack := v.toList ++ g.stack })
    rw [← hs₂]
    exact hsteps
  · obtain ⟨e2, q2, q3, q4, q5, q6⟩ := id hsm
    have e3 : s₂ = ({ (U.calling g mk a).setFrames s₂.frames with heap := s₂.heap, slotsUsed := s₂.slotsUsed } : State).setVm s₂.vm := by
      have : s₂ = ({ s₂ with vm := (U.calling g mk a).vm } : State).setVm s₂.vm := rfl
      rw [e2] at this
      exact this
    have hf₂ : s₂.frames = .throwing q :: .java g :: U.frames.tail := hend
    have hW' : U.WarmedH s₂.vm := hW₂
    have hs₂ : s₂ = ((({ U with heap := s₂.heap, slotsUsed := s₂.slotsUsed } : State).setVm s₂.vm).setTop g).pushFrame (.throwing q) := by
      refine e3.trans ?_
      rw [hf₂, State.calling_eq h.top, State.setFrames_setFrames, State.pushFrame, State.frames_setTop _ hr', State.setTop_of_frames _ hr', State.setFrames_setFrames, hr]
      rfl
    have hsame : U.sameButNew ({ U with heap := s₂.heap, slotsUsed := s₂.slotsUsed } : State) L mc ms := by
      refine ⟨?_, q2, q3, q4, q5, q6⟩
      obtain ⟨t, ht, -⟩ := State.frames_cons hr
      show ({ U with heap := s₂.heap, slotsUsed := s₂.slotsUsed } : State) = { U.setFrames U.frames with heap := s₂.heap, slotsUsed := s₂.slotsUsed }
      rw [State.setFrames_self ht]
    subst hg
    refine Or.inr ⟨q, ⟨(({ U with heap := s₂.heap, slotsUsed := s₂.slotsUsed } : State).setVm s₂.vm), Ls ++ L, c0 + mc, s0 + ms⟩,
      ⟨X.admits, X.cas, X.clock, X.frames, X.room, X.hears, X.method, X.code, (X.here.setHeapUsed s₂.heap s₂.slotsUsed).setVm hW'.alike, X.tail, State.WarmedH.trans X.warmed hW', X.limits, X.bytes, X.same.trans (hsame.setVm s.vm)⟩,
      ⟨g, mk, s₂, L, E, ce, rfl, rfl, hx, hce, hcv, hcl, rfl, hL, rfl, rfl⟩, ?_⟩
    show Steps p.tables e below _ (((({ U with heap := s₂.heap, slotsUsed := s₂.slotsUsed } : State).setVm s₂.vm).setTop g).pushFrame (.throwing q))
    rw [← hs₂]
    exact hsteps
end
variable {p : Program} {l : Launch} {e : Env} {R : Room} {s : State} {m : MethodId} {args : Array Value} {below : List Frame} {meth : Method} {c : Code} {T : State} {H : Heap} {locs : List Loc} {cells slots : Nat}
theorem vx_callVX (X : Stand p l e R s m args below meth c T locs cells slots) (hexec : p.tables.exec = Jvm.exec) {own C : String} {index : Nat} {y : MethodName} {bytes : ByteArray} {maxL : Nat} {ret : Option FieldType} {hh : List (Nat × Nat × Nat × Nat)}
    (hown : s.vm.findClass own = some m.cls) (hlink : (Cond.methodLink own index y).before args s = true) (hinst : (Cond.instanceMethod y).before args s = true) (hsel : (Cond.selects C y y).before args s = true)
    (hcode : (Cond.codeWith y bytes maxL ret hh).before args s = true) (hy : y.cls ≠ "java/lang/invoke/MethodHandle" ∧ y.cls ≠ "java/lang/invoke/VarHandle")
    {W9 : Nat} {Pre : Pt → Array Value → Prop} {Post : Pt → Array Value → Option Value → Pt → Prop} {PostX : Pt → Array Value → Addr → Pt → Prop} (hK : vx_Back l R p e below s args y 3 W9 Pre Post PostX)
    {b : Addr} {cellB : Cell} (hcell : T.heap[b]? = some cellB) (hobj : cellB.vm.isStatics = false) (hcls : s.vm.findClass C = some cellB.cls)
    {g : JFrame} (hg : g.method = m) (hsize : g.locals.size = c.maxLocals) {argsL rest : List Value} (hlen : ∀ sig, parseMethodDescriptor y.desc = some sig → argsL.length = sig.parameters.length)
    (hstack : g.stack = argsL.reverse ++ .ref b :: rest) (hW : 2 * g.monitorRoom + (rest.map fun v => v.category).sum ≤ W9) (hdg : decode c.code g.pc = .ok (.invokevirtual index, 3))
    (hpre : ∀ vm₁, s.WarmedH vm₁ → Pre ⟨T.setVm vm₁, locs, cells, slots⟩ (Value.ref b :: argsL).toArray) :
    (∃ (v : Option Value) (vm₁ : Vm) (B : Pt), s.WarmedH vm₁ ∧ Stand p l e R s m args below meth c B.U B.locs B.cells B.slots ∧ Post ⟨T.setVm vm₁, locs, cells, slots⟩ (Value.ref b :: argsL).toArray v B ∧
      ∀ target, Steps p.tables e below (B.U.setTop { g with pc := g.pc + 3, stack := v.toList ++ rest }) target → Steps p.tables e below (T.setTop g) target) ∨
    (∃ (q : Addr) (vm₁ : Vm) (B : Pt), s.WarmedH vm₁ ∧ Stand p l e R s m args below meth c B.U B.locs B.cells B.slots ∧ PostX ⟨T.setVm vm₁, locs, cells, slots⟩ (Value.ref b :: argsL).toArray q B ∧
      Steps p.tables e below (T.setTop g) ((B.U.setTop { g with stack := rest }).pushFrame (.throwing q))) := by
  obtain ⟨mk, methM, hnamed, hmethM, hstM, habM⟩ := Cond.instanceMethod_spec hinst
  obtain ⟨m8, methM', cM, hn8, hmethM', -, -, -, -, -, -, hsigM⟩ := Cond.codeWith_spec hcode
  cases Option.some.inj (hn8.symm.trans hnamed)
  cases hmethM.symm.trans hmethM'
  obtain ⟨c2, r2, m2, q1, q2, q3, q4, kP, hkP, hkPi⟩ := Cond.selects_spec hsel
  cases hcls.symm.trans q1
  cases (State.methodFound?_of_named hnamed hy).symm.trans q2
  cases hnamed.symm.trans q3
  have hselP : selectMethod e.platform s.vm cellB.cls mk = .method mk := by rw [Launch.admits_selectMethod X.admits]; exact q4
  obtain ⟨vm₁, X₁, hstep₁⟩ := X.invokevirtual hexec hown hlink hnamed hmethM hstM hkP hkPi hy (a := b) (cell := cellB) hcell
    (fun z h => by rw [h] at hobj; cases hobj) hselP hmethM habM hkP hkPi (g := g) hg (argsL := argsL) (rest := rest) (hlen _ hsigM) hstack hdg
  rcases hK m meth c ⟨T.setVm vm₁, locs, cells, slots⟩ { g with stack := rest } (.invokevirtual index) mk (Value.ref b :: argsL).toArray X₁ hg hsize hdg hW (X₁.named hnamed) (hpre vm₁ X₁.warmed) with ⟨v, B, X', hpost, hsteps⟩ | ⟨q, B, X', hpost, hsteps⟩
  · exact Or.inl ⟨v, vm₁, B, X₁.warmed, X', hpost, fun target h => hstep₁ _ fun acts => by rw [doInvoke_state]; exact hsteps.trans h⟩
  · exact Or.inr ⟨q, vm₁, B, X₁.warmed, X', hpost, hstep₁ _ fun acts => by rw [doInvoke_state]; exact hsteps⟩
theorem vx_callSX (X : Stand p l e R s m args below meth c T locs cells slots) (hexec : p.tables.exec = Jvm.exec) {own : String} {index : Nat} {y : MethodName} {bytes : ByteArray} {maxL : Nat} {ret : Option FieldType} {hh : List (Nat × Nat × Nat × Nat)}
    (hown : s.vm.findClass own = some m.cls) (hlink : (Cond.methodLink own index y).before args s = true) (hstat : (Cond.static y).before args s = true) (hinit : (Cond.initialized y.cls).before args s = true)
    (hcode : (Cond.codeWith y bytes maxL ret hh).before args s = true) (hy : y.cls ≠ "java/lang/invoke/MethodHandle" ∧ y.cls ≠ "java/lang/invoke/VarHandle")
    {W9 : Nat} {Pre : Pt → Array Value → Prop} {Post : Pt → Array Value → Option Value → Pt → Prop} {PostX : Pt → Array Value → Addr → Pt → Prop} (hK : vx_Back l R p e below s args y 3 W9 Pre Post PostX)
    {g : JFrame} (hg : g.method = m) (hsize : g.locals.size = c.maxLocals) {argsL rest : List Value} (hlen : ∀ sig, parseMethodDescriptor y.desc = some sig → argsL.length = sig.parameters.length)
    (hstack : g.stack = argsL.reverse ++ rest) (hW : 2 * g.monitorRoom + (rest.map fun v => v.category).sum ≤ W9) (hdg : decode c.code g.pc = .ok (.invokestatic index, 3))
    (hpre : ∀ vm₁, s.WarmedH vm₁ → Pre ⟨T.setVm vm₁, locs, cells, slots⟩ argsL.toArray) :
    (∃ (v : Option Value) (vm₁ : Vm) (B : Pt), s.WarmedH vm₁ ∧ Stand p l e R s m args below meth c B.U B.locs B.cells B.slots ∧ Post ⟨T.setVm vm₁, locs, cells, slots⟩ argsL.toArray v B ∧
      ∀ target, Steps p.tables e below (B.U.setTop { g with pc := g.pc + 3, stack := v.toList ++ rest }) target → Steps p.tables e below (T.setTop g) target) ∨
    (∃ (q : Addr) (vm₁ : Vm) (B : Pt), s.WarmedH vm₁ ∧ Stand p l e R s m args below meth c B.U B.locs B.cells B.slots ∧ PostX ⟨T.setVm vm₁, locs, cells, slots⟩ argsL.toArray q B ∧
      Steps p.tables e below (T.setTop g) ((B.U.setTop { g with stack := rest }).pushFrame (.throwing q))) := by
  obtain ⟨mk, methM, cM, hnamed, hmethM, -, -, -, -, -, -, hsigM⟩ := Cond.codeWith_spec hcode
  have hstatic : methM.isStatic = true := Cond.static_spec hnamed hmethM hstat
  obtain ⟨kP, hkP, -⟩ := className_of_methodNamed hnamed
  have hinitP : kP.init = .initialized := Cond.initialized_spec (findClass_of_methodNamed hnamed) hkP hinit
  obtain ⟨vm₁, X₁, hstep₁⟩ := X.invokestatic hexec hown hlink hnamed hmethM hstatic hkP hinitP hy (g := g) hg (argsL := argsL) (rest := rest) (hlen _ hsigM) hstack hdg
  rcases hK m meth c ⟨T.setVm vm₁, locs, cells, slots⟩ { g with stack := rest } (.invokestatic index) mk argsL.toArray X₁ hg hsize hdg hW (X₁.named hnamed) (hpre vm₁ X₁.warmed) with ⟨v, B, X', hpost, hsteps⟩ | ⟨q, B, X', hpost, hsteps⟩
  · exact Or.inl ⟨v, vm₁, B, X₁.warmed, X', hpost, fun target h => hstep₁ _ fun acts => by rw [doInvoke_state]; exact hsteps.trans h⟩
  · exact Or.inr ⟨q, vm₁, B, X₁.warmed, X', hpost, hstep₁ _ fun acts => by rw [doInvoke_state]; exact hsteps⟩
theorem vx_callVW (X : Stand p l e R s m args below meth c T locs cells slots) (hexec : p.tables.exec = Jvm.exec) {own C : String} {index : Nat} {y : MethodName} {bytes : ByteArray} {maxL : Nat} {ret : Option FieldType} {hh : List (Nat × Nat × Nat × Nat)}
    (hown : s.vm.findClass own = some m.cls) (hlink : (Cond.methodLink own index y).before args s = true) (hinst : (Cond.instanceMethod y).before args s = true) (hsel : (Cond.selects C y y).before args s = true)
    (hcode : (Cond.codeWith y bytes maxL ret hh).before args s = true) (hy : y.cls ≠ "java/lang/invoke/MethodHandle" ∧ y.cls ≠ "java/lang/invoke/VarHandle")
    {W9 : Nat} {Pre : Pt → Array Value → Prop} {Post : Pt → Array Value → Option Value → Pt → Prop} (hK : Back l R p e below s args y 3 W9 Pre Post)
    {b : Addr} {cellB : Cell} (hcell : T.heap[b]? = some cellB) (hobj : cellB.vm.isStatics = false) (hcls : s.vm.findClass C = some cellB.cls)
    {g : JFrame} (hg : g.method = m) (hsize : g.locals.size = c.maxLocals) {argsL rest : List Value} (hlen : ∀ sig, parseMethodDescriptor y.desc = some sig → argsL.length = sig.parameters.length)
    (hstack : g.stack = argsL.reverse ++ .ref b :: rest) (hW : 2 * g.monitorRoom + (rest.map fun v => v.category).sum ≤ W9) (hdg : decode c.code g.pc = .ok (.invokevirtual index, 3))
    (hpre : ∀ vm₁, s.WarmedH vm₁ → Pre ⟨T.setVm vm₁, locs, cells, slots⟩ (Value.ref b :: argsL).toArray) :
    ∃ (v : Option Value) (vm₁ : Vm) (B : Pt), s.WarmedH vm₁ ∧ Stand p l e R s m args below meth c B.U B.locs B.cells B.slots ∧ Post ⟨T.setVm vm₁, locs, cells, slots⟩ (Value.ref b :: argsL).toArray v B ∧
      ∀ target, Steps p.tables e below (B.U.setTop { g with pc := g.pc + 3, stack := v.toList ++ rest }) target → Steps p.tables e below (T.setTop g) target := by
  obtain ⟨mk, methM, hnamed, hmethM, hstM, habM⟩ := Cond.instanceMethod_spec hinst
  obtain ⟨m8, methM', cM, hn8, hmethM', -, -, -, -, -, -, hsigM⟩ := Cond.codeWith_spec hcode
  cases Option.some.inj (hn8.symm.trans hnamed)
  cases hmethM.symm.trans hmethM'
  obtain ⟨c2, r2, m2, q1, q2, q3, q4, kP, hkP, hkPi⟩ := Cond.selects_spec hsel
  cases hcls.symm.trans q1
  cases (State.methodFound?_of_named hnamed hy).symm.trans q2
  cases hnamed.symm.trans q3
  have hselP : selectMethod e.platform s.vm cellB.cls mk = .method mk := by rw [Launch.admits_selectMethod X.admits]; exact q4
  obtain ⟨vm₁, X₁, hstep₁⟩ := X.invokevirtual hexec hown hlink hnamed hmethM hstM hkP hkPi hy (a := b) (cell := cellB) hcell
    (fun z h => by rw [h] at hobj; cases hobj) hselP hmethM habM hkP hkPi (g := g) hg (argsL := argsL) (rest := rest) (hlen _ hsigM) hstack hdg
  obtain ⟨v, B, X', hpost, hsteps⟩ := hK m meth c ⟨T.setVm vm₁, locs, cells, slots⟩ { g with stack := rest } (.invokevirtual index) mk (Value.ref b :: argsL).toArray X₁ hg hsize hdg hW (X₁.named hnamed) (hpre vm₁ X₁.warmed)
  exact ⟨v, vm₁, B, X₁.warmed, X', hpost, fun target h => hstep₁ _ fun acts => by rw [doInvoke_state]; exact hsteps.trans h⟩
abbrev vx_CVW (R : Room) (s : State) (args : Array Value) (own C : String) (index : Nat) (y : MethodName) (bytes : ByteArray) (maxL : Nat) (ret : Option FieldType) (hh : List (Nat × Nat × Nat × Nat)) (ws : List Cond) (rm : Room) (mc ms n : Nat) : Prop :=
  (rm.cells = mc ∧ rm.slots = ms ∧ rm.frames + 1 ≤ R.frames ∧ 8 + (maxL + 11) + rm.locals ≤ R.locals ∧ (∀ w ∈ ws, ∀ (a' : Array Value) (U : State), s.WarmedH U.vm → w.before a' U = true) ∧ Cond.codeWith y bytes maxL ret hh ∈ ws) ∧
  (Cond.codeWith y bytes maxL ret hh).before args s = true ∧ (Cond.initialized y.cls).before args s = true ∧ (y.cls ≠ "java/lang/invoke/MethodHandle" ∧ y.cls ≠ "java/lang/invoke/VarHandle") ∧
  (∀ sig, parseMethodDescriptor y.desc = some sig → n = sig.parameters.length) ∧ (Cond.methodLink own index y).before args s = true ∧ (Cond.instanceMethod y).before args s = true ∧ (Cond.selects C y y).before args s = true
theorem vx_cwVW {own C : String} {index maxL mc ms : Nat} {y : MethodName} {bytes : ByteArray} {ret : Option FieldType} {hh : List (Nat × Nat × Nat × Nat)} {Ts ws ws' : List Cond} {rm : Room} (n : Nat) (ht : ∀ w ∈ Ts, w.before args s = true) (hT : GoodIn Ts (wsV own index C y ws)) (hw : ws = Cond.codeWith y bytes maxL ret hh :: ws') (hrc : rm.cells = mc) (hrs : rm.slots = ms)
    (hd : y.cls = C ∧ y.cls ≠ "java/lang/invoke/MethodHandle" ∧ y.cls ≠ "java/lang/invoke/VarHandle" ∧ (parseMethodDescriptor y.desc).map (fun d => d.parameters.length) = some n) (hR : rm.frames + 1 ≤ R.frames ∧ 8 + (maxL + 11) + rm.locals ≤ R.locals) :
    vx_CVW R s args own C index y bytes maxL ret hh ws rm mc ms n := by
  obtain ⟨hC, hd⟩ := hd
  subst hC
  have ok : ∀ w ∈ wsV own index y.cls y ws, w.before args s = true := fun w h => ht w (hT w h).1
  have hG : GoodIn Ts ws := fun w h => hT w (by unfold wsV; exact List.mem_append_right _ h)
  have hc : Cond.codeWith y bytes maxL ret hh ∈ ws := by rw [hw]; exact List.mem_cons_self
  refine ⟨⟨hrc, hrs, hR.1, hR.2, pay_in ht hG, hc⟩, ht _ (hG _ hc).1, ok _ (by simp [wsV]), ⟨hd.1, hd.2.1⟩, fun sig h => ?_, ok _ (by simp [wsV]), ok _ (by simp [wsV]), ok _ (by simp [wsV])⟩
  have h2 := hd.2.2
  rw [h] at h2
  exact (Option.some.inj h2).symm
theorem vx_runVW {y : MethodName} {bytes cc : ByteArray} {maxL nL mc ms n index : Nat} {ret : Option FieldType} {hh : List (Nat × Nat × Nat × Nat)} {ws : List Cond} {rm : Room} {Pc : Array Value → State → Prop} {Qc : Array Value → State → Outcome → State → Prop} {free : Addr → Prop} {Ts : List Cond} {own C : String} {b : Addr} {As rest : List Value} {g : JFrame}
    (S : CallFix p m c cc nL s args Ts own) (hM : Met l y ws rm Pc Qc mc ms free) (cw : vx_CVW R s args own C index y bytes maxL ret hh ws rm mc ms n) (hp : PreV s H C b Pc As)
    (hg : g.method = m) (hn : As.length = n) (hsize : g.locals.size = nL) (hstack : g.stack = As.reverse ++ .ref b :: rest) (hW : 2 * g.monitorRoom + (rest.map fun v => v.category).sum ≤ 8) (hdg : decode cc g.pc = .ok (.invokevirtual index, 3)) (hf : cells + mc ≤ R.cells ∧ slots + ms ≤ R.slots) :
    va_Run p l e R s m args below meth c H locs cells slots mc ms g rest (Qc (Value.ref b :: As).toArray) free := by
  obtain ⟨⟨hrc, hrs, hfr, hlo, hws, hcw⟩, hcode, hini, hy, hlen, hl, hin, hse⟩ := cw
  have hK : Back l R p e below s args y 3 8 (PreOf R mc ms Pc) (PostOf Qc mc ms free) := va_backW (hh := hh) (bytes := bytes) (maxL := maxL) (ret := ret) hM hp.1 hrc hrs hfr hlo hws hcw (fun a' U hW => word_at hW (Or.inl (by first | rfl | simp [Cond.onTables, Cond.keeps, Cond.steady])) hini)
  obtain ⟨hx, hb, hml, ho, -⟩ := S
  obtain ⟨-, ⟨cellB, hcB, hoB, hclB⟩, hPc⟩ := hp
  intro T hT X
  obtain ⟨v, vm₁, ⟨U', l2, c2, s2⟩, hW₁, X', ⟨g', mk, t, L, e1, e2, hq, h1, hL, h2, h3⟩, st⟩ := vx_callVW X hx (C := C) (hh := hh) (bytes := bytes) (maxL := maxL) (ret := ret) ho hl hin hse hcode hy hK (by rw [hT]; exact hcB) hoB hclB hg (hsize.trans hml.symm) (argsL := As) (rest := rest) (fun sig h => hn.trans (hlen sig h)) hstack hW (by rw [hb]; exact hdg)
    (fun vm₁ hW₁ => ⟨hf.1, hf.2, hPc (T.setVm vm₁) hT hW₁⟩)
  dsimp only [Pt.U, Pt.locs, Pt.cells, Pt.slots] at X' e1 e2 h1 h2 h3 st
  subst h1; subst h2; subst h3
  exact ⟨v, (T.setVm vm₁).calling g' mk (Value.ref b :: As).toArray, t, U', L, hT, X', hL, e1, e2, hq, st⟩
section
variable {y : MethodName} {bytes cc : ByteArray} {maxL nL mc ms n index : Nat} {ret : Option FieldType} {ws : List Cond} {rm : Room} {Pc : Array Value → State → Prop} {Qc : Array Value → State → Outcome → State → Prop} {XC : String → State → State → Prop} {free : Addr → Prop} {Ts : List Cond} {own C : String} {b : Addr} {As rest : List Value} {g : JFrame}
theorem vx_runVX {hh : List (Nat × Nat × Nat × Nat)} (S : CallFix p m c cc nL s args Ts own) (hM : vx_Met l y ws rm Pc Qc XC mc ms free) (cw : vx_CVW R s args own C index y bytes maxL ret hh ws rm mc ms n) (hp : PreV s H C b Pc As)
    (hg : g.method = m) (hn : As.length = n) (hsize : g.locals.size = nL) (hstack : g.stack = As.reverse ++ .ref b :: rest) (hW : 2 * g.monitorRoom + (rest.map fun v => v.category).sum ≤ 8) (hdg : decode cc g.pc = .ok (.invokevirtual index, 3)) (hf : cells + mc ≤ R.cells ∧ slots + ms ≤ R.slots) :
    vx_Run p l e R s m args below meth c H locs cells slots mc ms g rest (Qc (Value.ref b :: As).toArray) XC free := by
  obtain ⟨⟨hrc, hrs, hfr, hlo, hws, hcw⟩, hcode, hini, hy, hlen, hl, hin, hse⟩ := cw
  have hK : vx_Back l R p e below s args y 3 8 (PreOf R mc ms Pc) (PostOf Qc mc ms free) (vx_Post XC mc ms free) := vx_backW (hh := hh) (bytes := bytes) (maxL := maxL) (ret := ret) hM hp.1 hrc hrs hfr hlo hws hcw (fun a' U hW => word_at hW (Or.inl (by first | rfl | simp [Cond.onTables, Cond.keeps, Cond.steady])) hini)
  obtain ⟨hx, hb, hml, ho, -⟩ := S
  obtain ⟨-, ⟨cellB, hcB, hoB, hclB⟩, hPc⟩ := hp
  intro T hT X
  rcases vx_callVX X hx (C := C) (hh := hh) (bytes := bytes) (maxL := maxL) (ret := ret) ho hl hin hse hcode hy hK (by rw [hT]; exact hcB) hoB hclB hg (hsize.trans hml.symm) (argsL := As) (rest := rest) (fun sig h => hn.trans (hlen sig h)) hstack hW (by rw [hb]; exact hdg)
    (fun vm₁ hW₁ => ⟨hf.1, hf.2, hPc (T.setVm vm₁) hT hW₁⟩) with ⟨v, vm₁, ⟨U', l2, c2, s2⟩, hW₁, X', ⟨g', mk, t, L, e1, e2, hq, h1, hL, h2, h3⟩, st⟩ | ⟨q, vm₁, ⟨U', l2, c2, s2⟩, hW₁, X', ⟨g', mk, t, L, E, ce, e1, e2, hq, hce, hcv, hcl, h1, hL, h2, h3⟩, st⟩
  · dsimp only [Pt.U, Pt.locs, Pt.cells, Pt.slots] at X' e1 e2 h1 h2 h3 st
    subst h1; subst h2; subst h3
    exact Or.inl ⟨v, (T.setVm vm₁).calling g' mk (Value.ref b :: As).toArray, t, U', L, hT, X', hL, e1, e2, hq, st⟩
  · dsimp only [Pt.U, Pt.locs, Pt.cells, Pt.slots] at X' e1 e2 h1 h2 h3 st hcl
    subst h1; subst h2; subst h3
    exact Or.inr ⟨q, (T.setVm vm₁).calling g' mk (Value.ref b :: As).toArray, t, U', L, E, ce, hT, X', hL, e1, e2, hq, hce, hcv, vx_cls hW₁ hcl, st⟩
theorem vx_runSX {hh : List (Nat × Nat × Nat × Nat)} (S : CallFix p m c cc nL s args Ts own) (hM : vx_Met l y ws rm Pc Qc XC mc ms free) (cw : vx_CSW R s args own index y bytes maxL ret hh ws rm mc ms n) (hp : PreS s H Pc As)
    (hg : g.method = m) (hn : As.length = n) (hsize : g.locals.size = nL) (hstack : g.stack = As.reverse ++ rest) (hW : 2 * g.monitorRoom + (rest.map fun v => v.category).sum ≤ 8) (hdg : decode cc g.pc = .ok (.invokestatic index, 3)) (hf : cells + mc ≤ R.cells ∧ slots + ms ≤ R.slots) :
    vx_Run p l e R s m args below meth c H locs cells slots mc ms g rest (Qc As.toArray) XC free := by
  obtain ⟨⟨hrc, hrs, hfr, hlo, hws, hcw⟩, hcode, hini, hy, hlen, hl, hstt⟩ := cw
  have hK : vx_Back l R p e below s args y 3 8 (PreOf R mc ms Pc) (PostOf Qc mc ms free) (vx_Post XC mc ms free) := vx_backW (hh := hh) (bytes := bytes) (maxL := maxL) (ret := ret) hM hp.1 hrc hrs hfr hlo hws hcw (fun a' U hW => word_at hW (Or.inl (by first | rfl | simp [Cond.onTables, Cond.keeps, Cond.steady])) hini)
  obtain ⟨hx, hb, hml, ho, -⟩ := S
  intro T hT X
  rcases vx_callSX X hx (hh := hh) (bytes := bytes) (maxL := maxL) (ret := ret) ho hl hstt hini hcode hy hK hg (hsize.trans hml.symm) (argsL := As) (rest := rest) (fun sig h => hn.trans (hlen sig h)) hstack hW (by rw [hb]; exact hdg)
    (fun vm₁ hW₁ => ⟨hf.1, hf.2, hp.2 (T.setVm vm₁) hT hW₁⟩) with ⟨v, vm₁, ⟨U', l2, c2, s2⟩, hW₁, X', ⟨g', mk, t, L, e1, e2, hq, h1, hL, h2, h3⟩, st⟩ | ⟨q, vm₁, ⟨U', l2, c2, s2⟩, hW₁, X', ⟨g', mk, t, L, E, ce, e1, e2, hq, hce, hcv, hcl, h1, hL, h2, h3⟩, st⟩
  · dsimp only [Pt.U, Pt.locs, Pt.cells, Pt.slots] at X' e1 e2 h1 h2 h3 st
    subst h1; subst h2; subst h3
    exact Or.inl ⟨v, (T.setVm vm₁).calling g' mk As.toArray, t, U', L, hT, X', hL, e1, e2, hq, st⟩
  · dsimp only [Pt.U, Pt.locs, Pt.cells, Pt.slots] at X' e1 e2 h1 h2 h3 st hcl
    subst h1; subst h2; subst h3
    exact Or.inr ⟨q, (T.setVm vm₁).calling g' mk As.toArray, t, U', L, E, ce, hT, X', hL, e1, e2, hq, hce, hcv, vx_cls hW₁ hcl, st⟩
end
end VXH
theorem vx_ofWH {l : Launch} {y : MethodName} {ws ws' : List Cond} {rm : Room} {Pc : Array Value → State → Prop} {Qc : Array Value → State → Outcome → State → Prop} {XC : String → State → State → Prop} {mc ms : Nat} {free : Addr → Prop} {cc : ByteArray} {maxL : Nat} {ret : Option FieldType} {hh : List (Nat × Nat × Nat × Nat)}
    (hy : plainName y.cls = true) (hw : ws = Cond.codeWith y cc maxL ret hh :: ws')
    (body : ∀ p e s m args below meth c s₁, BodyLoose p l y (headSpec ws rm) cc maxL ret e s m args below meth c s₁ → c.maxLocals = maxL → Pc args s →
      W p l e (headSpec ws rm).room s m args below meth c s.heap [] 0 0 (vx_MQ below Qc XC args s mc ms free) (entryFrame m args maxL)) : vx_Met l y ws rm Pc Qc XC mc ms free := by
  refine MetFree.of_bodyS (code := cc) (maxLocals := maxL) (ret := ret) hy ?_ ?_
  · intro args s m h hn
    obtain ⟨m9, meth, c, hn9, h1, h2, h3, h4, -, h5, h6, -⟩ := Cond.codeWith_spec (atoms_spec (ws := ws) h _ (by rw [hw]; exact List.mem_cons_self))
    cases hn.symm.trans hn9
    exact ⟨meth, c, h1, h2, h3, h4, h5, h6⟩
  · intro p e s m args below meth c s₁ B hml hP _
    have hh0 : s₁.heap = s.heap := by rw [B.state]; rfl
    obtain ⟨t, a1, o, b1, b2, b3⟩ := body p e s m args below meth c s₁ B hml hP s₁ hh0 (Stand.of_body B)
    exact ⟨t, o, a1, b1, b2, b3⟩
/-! ===== END ===== -/
end
section
def RX0 : String := "ByteFields$Division"
def TX0 : u_T := fun k => match k with
  | _ => ("ByteFields$Division", "field", "LByteFields$Field;", true)
def tyX0 : Nat → FieldType := fun k => match k with
  | _ => .object "ByteFields$Field"
abbrev wsX00 : List Cond := u_ws RX0 TX0 1
theorem nmX0 : ∀ a, a < 1 → ∀ b, b < 1 → a ≠ b → (TX0 a).2.1 ≠ (TX0 b).2.1 := by decide +kernel
theorem tyX0_ok : ∀ k, k < 1 → parseFieldDescriptor (TX0 k).2.2.1 = some (tyX0 k) := by decide +kernel
abbrev cX0_init : ByteArray := prog_2_method_1_code
def yX0_init : MethodName := ⟨RX0, "<init>", "(LByteFields$Field;)V"⟩
abbrev cX0_toRest : ByteArray := prog_2_method_2_code
def yX0_toRest : MethodName := ⟨RX0, "toRest", "(LByteFields$Polynomial;LByteFields$Polynomial;)V"⟩
abbrev cX0_toQuotient : ByteArray := prog_2_method_3_code
def yX0_toQuotient : MethodName := ⟨RX0, "toQuotient", "(LByteFields$Polynomial;LByteFields$Polynomial;)V"⟩
abbrev cX0_divideInPlace : ByteArray := prog_2_method_4_code
def yX0_divideInPlace : MethodName := ⟨RX0, "divideInPlace", "(LByteFields$Polynomial;LByteFields$Polynomial;)V"⟩
abbrev cX0_toGreatestDivisor : ByteArray := prog_2_method_5_code
def yX0_toGreatestDivisor : MethodName := ⟨RX0, "toGreatestDivisor", "(LByteFields$Polynomial;LByteFields$Polynomial;)V"⟩
abbrev cX0_takeOut : ByteArray := prog_2_method_6_code
def yX0_takeOut : MethodName := ⟨RX0, "takeOut", "(LByteFields$Polynomial;I)Z"⟩
abbrev cX0_toSquareRest : ByteArray := prog_2_method_7_code
def yX0_toSquareRest : MethodName := ⟨RX0, "toSquareRest", "(LByteFields$Polynomial;LByteFields$Polynomial;)V"⟩
def RX1 : String := "ByteFields$Elimination"
def TX1 : u_T := fun k => match k with
  | 0 => ("ByteFields$Elimination", "field", "LByteFields$Field;", true)
  | 1 => ("ByteFields$Elimination", "cells", "[[I", true)
  | 2 => ("ByteFields$Elimination", "pivotRows", "[I", true)
  | 3 => ("ByteFields$Elimination", "height", "I", false)
  | 4 => ("ByteFields$Elimination", "width", "I", false)
  | 5 => ("ByteFields$Elimination", "rank", "I", false)
  | _ => ("ByteFields$Elimination", "pivotProduct", "I", false)
def tyX1 : Nat → FieldType := fun k => match k with
  | 0 => .object "ByteFields$Field"
  | 1 => .array (.array .int)
  | 2 => .array .int
  | 3 => .int
  | 4 => .int
  | 5 => .int
  | _ => .int
abbrev wsX10 : List Cond := u_ws RX1 TX1 7
theorem nmX1 : ∀ a, a < 7 → ∀ b, b < 7 → a ≠ b → (TX1 a).2.1 ≠ (TX1 b).2.1 := by decide +kernel
theorem tyX1_ok : ∀ k, k < 7 → parseFieldDescriptor (TX1 k).2.2.1 = some (tyX1 k) := by decide +kernel
abbrev cX1_init : ByteArray := prog_3_method_1_code
def yX1_init : MethodName := ⟨RX1, "<init>", "(LByteFields$Field;)V"⟩
abbrev cX1_load : ByteArray := prog_3_method_2_code
def yX1_load : MethodName := ⟨RX1, "load", "(LByteFields$Matrix;)V"⟩
abbrev cX1_appendIdentity : ByteArray := prog_3_method_3_code
def yX1_appendIdentity : MethodName := ⟨RX1, "appendIdentity", "()V"⟩
abbrev cX1_appendColumn : ByteArray := prog_3_method_4_code
def yX1_appendColumn : MethodName := ⟨RX1, "appendColumn", "([I)V"⟩
abbrev cX1_reduce : ByteArray := prog_3_method_5_code
def yX1_reduce : MethodName := ⟨RX1, "reduce", "(I)I"⟩
abbrev cX1_rowWithMember : ByteArray := prog_3_method_6_code
def yX1_rowWithMember : MethodName := ⟨RX1, "rowWithMember", "(I)I"⟩
abbrev cX1_exchange : ByteArray := prog_3_method_7_code
def yX1_exchange : MethodName := ⟨RX1, "exchange", "(II)V"⟩
abbrev cX1_free : ByteArray := prog_3_method_8_code
def yX1_free : MethodName := ⟨RX1, "free", "(I)V"⟩
abbrev cX1_leavesOver : ByteArray := prog_3_method_9_code
def yX1_leavesOver : MethodName := ⟨RX1, "leavesOver", "(I)Z"⟩
abbrev cX1_solution : ByteArray := prog_3_method_10_code
def yX1_solution : MethodName := ⟨RX1, "solution", "(II)I"⟩
abbrev cX1_copyAppended : ByteArray := prog_3_method_11_code
def yX1_copyAppended : MethodName := ⟨RX1, "copyAppended", "(LByteFields$Matrix;)V"⟩
def RX2 : String := "ByteFields$Factors"
def TX2 : u_T := fun k => match k with
  | 0 => ("ByteFields$Factors", "field", "LByteFields$Field;", true)
  | 1 => ("ByteFields$Factors", "division", "LByteFields$Division;", true)
  | 2 => ("ByteFields$Factors", "left", "LByteFields$Polynomial;", true)
  | 3 => ("ByteFields$Factors", "power", "LByteFields$Polynomial;", true)
  | 4 => ("ByteFields$Factors", "shared", "LByteFields$Polynomial;", true)
  | _ => ("ByteFields$Factors", "other", "LByteFields$Polynomial;", true)
def tyX2 : Nat → FieldType := fun k => match k with
  | 0 => .object "ByteFields$Field"
  | 1 => .object "ByteFields$Division"
  | 2 => .object "ByteFields$Polynomial"
  | 3 => .object "ByteFields$Polynomial"
  | 4 => .object "ByteFields$Polynomial"
  | _ => .object "ByteFields$Polynomial"
abbrev wsX20 : List Cond := u_ws RX2 TX2 6
theorem nmX2 : ∀ a, a < 6 → ∀ b, b < 6 → a ≠ b → (TX2 a).2.1 ≠ (TX2 b).2.1 := by decide +kernel
theorem tyX2_ok : ∀ k, k < 6 → parseFieldDescriptor (TX2 k).2.2.1 = some (tyX2 k) := by decide +kernel
abbrev cX2_init : ByteArray := prog_4_method_1_code
def yX2_init : MethodName := ⟨RX2, "<init>", "(LByteFields$Field;LByteFields$Division;)V"⟩
abbrev cX2_count : ByteArray := prog_4_method_2_code
def yX2_count : MethodName := ⟨RX2, "count", "(LByteFields$Polynomial;[I)V"⟩
abbrev cX2_takeParts : ByteArray := prog_4_method_3_code
def yX2_takeParts : MethodName := ⟨RX2, "takeParts", "(I)I"⟩
def RX3 : String := "ByteFields$Field"
def TX3 : u_T := fun k => match k with
  | 0 => ("ByteFields$Field", "bits", "I", true)
  | 1 => ("ByteFields$Field", "size", "I", true)
  | 2 => ("ByteFields$Field", "units", "I", true)
  | 3 => ("ByteFields$Field", "poly", "I", true)
  | 4 => ("ByteFields$Field", "generator", "I", true)
  | _ => ("ByteFields$Field", "tables", "[I", true)
def tyX3 : Nat → FieldType := fun k => match k with
  | 0 => .int
  | 1 => .int
  | 2 => .int
  | 3 => .int
  | 4 => .int
  | _ => .array .int
abbrev wsX30 : List Cond := u_ws RX3 TX3 6
theorem nmX3 : ∀ a, a < 6 → ∀ b, b < 6 → a ≠ b → (TX3 a).2.1 ≠ (TX3 b).2.1 := by decide +kernel
theorem tyX3_ok : ∀ k, k < 6 → parseFieldDescriptor (TX3 k).2.2.1 = some (tyX3 k) := by decide +kernel
abbrev cX3_init : ByteArray := prog_5_method_1_code
def yX3_init : MethodName := ⟨RX3, "<init>", "(II)V"⟩
abbrev cX3_firstUnsplit : ByteArray := prog_5_method_2_code
def yX3_firstUnsplit : MethodName := ⟨RX3, "firstUnsplit", "(II)I"⟩
abbrev cX3_splits : ByteArray := prog_5_method_3_code
def yX3_splits : MethodName := ⟨RX3, "splits", "(II)Z"⟩
abbrev cX3_restOfBits : ByteArray := prog_5_method_4_code
def yX3_restOfBits : MethodName := ⟨RX3, "restOfBits", "(II)I"⟩
abbrev cX3_highestBit : ByteArray := prog_5_method_5_code
def yX3_highestBit : MethodName := ⟨RX3, "highestBit", "(I)I"⟩
abbrev cX3_slowProduct : ByteArray := prog_5_method_6_code
def yX3_slowProduct : MethodName := ⟨RX3, "slowProduct", "(II)I"⟩
abbrev cX3_slowPower : ByteArray := prog_5_method_7_code
def yX3_slowPower : MethodName := ⟨RX3, "slowPower", "(II)I"⟩
abbrev cX3_leastGenerator : ByteArray := prog_5_method_8_code
def yX3_leastGenerator : MethodName := ⟨RX3, "leastGenerator", "()I"⟩
abbrev cX3_generates : ByteArray := prog_5_method_9_code
def yX3_generates : MethodName := ⟨RX3, "generates", "(I)Z"⟩
abbrev cX3_logOf : ByteArray := prog_5_method_10_code
def yX3_logOf : MethodName := ⟨RX3, "logOf", "(I)I"⟩
abbrev cX3_mul : ByteArray := prog_5_method_11_code
def yX3_mul : MethodName := ⟨RX3, "mul", "(II)I"⟩
abbrev cX3_inverse : ByteArray := prog_5_method_12_code
def yX3_inverse : MethodName := ⟨RX3, "inverse", "(I)I"⟩
abbrev cX3_ratio : ByteArray := prog_5_method_13_code
def yX3_ratio : MethodName := ⟨RX3, "ratio", "(II)I"⟩
abbrev cX3_raised : ByteArray := prog_5_method_14_code
def yX3_raised : MethodName := ⟨RX3, "raised", "(IJ)I"⟩
abbrev cX3_orderOf : ByteArray := prog_5_method_15_code
def yX3_orderOf : MethodName := ⟨RX3, "orderOf", "(I)I"⟩
abbrev cX3_addMultiple : ByteArray := prog_5_method_16_code
def yX3_addMultiple : MethodName := ⟨RX3, "addMultiple", "([II[IIII)V"⟩
abbrev cX3_scale : ByteArray := prog_5_method_17_code
def yX3_scale : MethodName := ⟨RX3, "scale", "([III)V"⟩
def RX4 : String := "ByteFields$Interpolation"
def TX4 : u_T := fun k => match k with
  | 0 => ("ByteFields$Interpolation", "field", "LByteFields$Field;", true)
  | 1 => ("ByteFields$Interpolation", "xs", "[I", true)
  | _ => ("ByteFields$Interpolation", "ys", "[I", true)
def tyX4 : Nat → FieldType := fun k => match k with
  | 0 => .object "ByteFields$Field"
  | 1 => .array .int
  | _ => .array .int
abbrev wsX40 : List Cond := u_ws RX4 TX4 3
theorem nmX4 : ∀ a, a < 3 → ∀ b, b < 3 → a ≠ b → (TX4 a).2.1 ≠ (TX4 b).2.1 := by decide +kernel
theorem tyX4_ok : ∀ k, k < 3 → parseFieldDescriptor (TX4 k).2.2.1 = some (tyX4 k) := by decide +kernel
abbrev cX4_init : ByteArray := prog_6_method_1_code
def yX4_init : MethodName := ⟨RX4, "<init>", "(LByteFields$Field;)V"⟩
abbrev cX4_take : ByteArray := prog_6_method_2_code
def yX4_take : MethodName := ⟨RX4, "take", "(III)V"⟩
abbrev cX4_run : ByteArray := prog_6_method_3_code
def yX4_run : MethodName := ⟨RX4, "run", "(ILByteFields$Polynomial;)V"⟩
abbrev cX4_multiplyAndAdd : ByteArray := prog_6_method_4_code
def yX4_multiplyAndAdd : MethodName := ⟨RX4, "multiplyAndAdd", "(LByteFields$Polynomial;II)V"⟩
def RX5 : String := "ByteFields$Matrix"
def TX5 : u_T := fun k => match k with
  | 0 => ("ByteFields$Matrix", "rows", "I", true)
  | 1 => ("ByteFields$Matrix", "columns", "I", true)
  | _ => ("ByteFields$Matrix", "cells", "[I", true)
def tyX5 : Nat → FieldType := fun k => match k with
  | 0 => .int
  | 1 => .int
  | _ => .array .int
abbrev wsX50 : List Cond := u_ws RX5 TX5 3
theorem nmX5 : ∀ a, a < 3 → ∀ b, b < 3 → a ≠ b → (TX5 a).2.1 ≠ (TX5 b).2.1 := by decide +kernel
theorem tyX5_ok : ∀ k, k < 3 → parseFieldDescriptor (TX5 k).2.2.1 = some (tyX5 k) := by decide +kernel
abbrev cX5_init : ByteArray := prog_7_method_1_code
def yX5_init : MethodName := ⟨RX5, "<init>", "(II)V"⟩
def RX6 : String := "ByteFields$Minors"
def TX6 : u_T := fun k => match k with
  | 0 => ("ByteFields$Minors", "field", "LByteFields$Field;", true)
  | _ => ("ByteFields$Minors", "values", "[[I", true)
def tyX6 : Nat → FieldType := fun k => match k with
  | 0 => .object "ByteFields$Field"
  | _ => .array (.array .int)
abbrev wsX60 : List Cond := u_ws RX6 TX6 2
theorem nmX6 : ∀ a, a < 2 → ∀ b, b < 2 → a ≠ b → (TX6 a).2.1 ≠ (TX6 b).2.1 := by decide +kernel
theorem tyX6_ok : ∀ k, k < 2 → parseFieldDescriptor (TX6 k).2.2.1 = some (tyX6 k) := by decide +kernel
abbrev cX6_init : ByteArray := prog_8_method_1_code
def yX6_init : MethodName := ⟨RX6, "<init>", "(LByteFields$Field;)V"⟩
abbrev cX6_countZeros : ByteArray := prog_8_method_2_code
def yX6_countZeros : MethodName := ⟨RX6, "countZeros", "(LByteFields$Matrix;)I"⟩
abbrev cX6_addRow : ByteArray := prog_8_method_3_code
def yX6_addRow : MethodName := ⟨RX6, "addRow", "(LByteFields$Matrix;II)I"⟩
abbrev cX6_expanded : ByteArray := prog_8_method_4_code
def yX6_expanded : MethodName := ⟨RX6, "expanded", "(LByteFields$Matrix;II[I)I"⟩
def RX7 : String := "ByteFields$Polynomial"
def TX7 : u_T := fun k => match k with
  | 0 => ("ByteFields$Polynomial", "at", "[I", true)
  | 1 => ("ByteFields$Polynomial", "top", "I", false)
  | _ => ("ByteFields$Polynomial", "partCounts", "[I", false)
def tyX7 : Nat → FieldType := fun k => match k with
  | 0 => .array .int
  | 1 => .int
  | _ => .array .int
abbrev wsX70 : List Cond := u_ws RX7 TX7 3
theorem nmX7 : ∀ a, a < 3 → ∀ b, b < 3 → a ≠ b → (TX7 a).2.1 ≠ (TX7 b).2.1 := by decide +kernel
theorem tyX7_ok : ∀ k, k < 3 → parseFieldDescriptor (TX7 k).2.2.1 = some (tyX7 k) := by decide +kernel
abbrev cX7_init : ByteArray := prog_9_method_1_code
def yX7_init : MethodName := ⟨RX7, "<init>", "(I)V"⟩
abbrev cX7_clear : ByteArray := prog_9_method_2_code
def yX7_clear : MethodName := ⟨RX7, "clear", "()V"⟩
abbrev cX7_load : ByteArray := prog_9_method_3_code
def yX7_load : MethodName := ⟨RX7, "load", "([II)V"⟩
abbrev cX7_copyFrom : ByteArray := prog_9_method_4_code
def yX7_copyFrom : MethodName := ⟨RX7, "copyFrom", "(LByteFields$Polynomial;)V"⟩
abbrev cX7_settle : ByteArray := prog_9_method_5_code
def yX7_settle : MethodName := ⟨RX7, "settle", "(I)V"⟩
abbrev cX7_addScaled : ByteArray := prog_9_method_6_code
def yX7_addScaled : MethodName := ⟨RX7, "addScaled", "(LByteFields$Field;LByteFields$Polynomial;I)V"⟩
abbrev cX7_addMember : ByteArray := prog_9_method_7_code
def yX7_addMember : MethodName := ⟨RX7, "addMember", "(I)V"⟩
abbrev cX7_becomeX : ByteArray := prog_9_method_8_code
def yX7_becomeX : MethodName := ⟨RX7, "becomeX", "()V"⟩
abbrev cX7_shiftDown : ByteArray := prog_9_method_9_code
def yX7_shiftDown : MethodName := ⟨RX7, "shiftDown", "(I)V"⟩
def RX8 : String := "ByteFields$Roots"
def TX8 : u_T := fun k => match k with
  | 0 => ("ByteFields$Roots", "field", "LByteFields$Field;", true)
  | 1 => ("ByteFields$Roots", "division", "LByteFields$Division;", true)
  | 2 => ("ByteFields$Roots", "steps", "[I", true)
  | 3 => ("ByteFields$Roots", "rests", "[LByteFields$Polynomial;", true)
  | 4 => ("ByteFields$Roots", "left", "LByteFields$Polynomial;", true)
  | 5 => ("ByteFields$Roots", "lower", "LByteFields$Polynomial;", true)
  | _ => ("ByteFields$Roots", "other", "LByteFields$Polynomial;", true)
def tyX8 : Nat → FieldType := fun k => match k with
  | 0 => .object "ByteFields$Field"
  | 1 => .object "ByteFields$Division"
  | 2 => .array .int
  | 3 => .array (.object "ByteFields$Polynomial")
  | 4 => .object "ByteFields$Polynomial"
  | 5 => .object "ByteFields$Polynomial"
  | _ => .object "ByteFields$Polynomial"
abbrev wsX80 : List Cond := u_ws RX8 TX8 7
theorem nmX8 : ∀ a, a < 7 → ∀ b, b < 7 → a ≠ b → (TX8 a).2.1 ≠ (TX8 b).2.1 := by decide +kernel
theorem tyX8_ok : ∀ k, k < 7 → parseFieldDescriptor (TX8 k).2.2.1 = some (tyX8 k) := by decide +kernel
abbrev cX8_init : ByteArray := prog_10_method_1_code
def yX8_init : MethodName := ⟨RX8, "<init>", "(LByteFields$Field;LByteFields$Division;)V"⟩
abbrev cX8_valueAt : ByteArray := prog_10_method_2_code
def yX8_valueAt : MethodName := ⟨RX8, "valueAt", "(II)I"⟩
abbrev cX8_makeRests : ByteArray := prog_10_method_3_code
def yX8_makeRests : MethodName := ⟨RX8, "makeRests", "(LByteFields$Polynomial;)V"⟩
abbrev cX8_find : ByteArray := prog_10_method_4_code
def yX8_find : MethodName := ⟨RX8, "find", "(LByteFields$Polynomial;I)I"⟩
abbrev cX8_keepLower : ByteArray := prog_10_method_5_code
def yX8_keepLower : MethodName := ⟨RX8, "keepLower", "(II)V"⟩
def RX9 : String := "ByteFields"
def TX9 : u_T := fun k => match k with
  | 0 => ("ByteFields", "field", "LByteFields$Field;", true)
  | 1 => ("ByteFields", "elimination", "LByteFields$Elimination;", true)
  | 2 => ("ByteFields", "minors", "LByteFields$Minors;", true)
  | 3 => ("ByteFields", "division", "LByteFields$Division;", true)
  | 4 => ("ByteFields", "interpolation", "LByteFields$Interpolation;", true)
  | 5 => ("ByteFields", "roots", "LByteFields$Roots;", true)
  | 6 => ("ByteFields", "factors", "LByteFields$Factors;", true)
  | 7 => ("ByteFields", "work", "LByteFields$Polynomial;", true)
  | 8 => ("ByteFields", "otherWork", "LByteFields$Polynomial;", true)
  | 9 => ("ByteFields", "rowMembers", "[I", true)
  | 10 => ("ByteFields", "inRow", "I", false)
  | 11 => ("ByteFields", "matrices", "[LByteFields$Matrix;", true)
  | 12 => ("ByteFields", "matrixCount", "I", false)
  | 13 => ("ByteFields", "polynomials", "[LByteFields$Polynomial;", true)
  | 14 => ("ByteFields", "polynomialCount", "I", false)
  | 15 => ("ByteFields", "spanMembers", "[I", true)
  | _ => ("ByteFields", "inSpan", "I", false)
def tyX9 : Nat → FieldType := fun k => match k with
  | 0 => .object "ByteFields$Field"
  | 1 => .object "ByteFields$Elimination"
  | 2 => .object "ByteFields$Minors"
  | 3 => .object "ByteFields$Division"
  | 4 => .object "ByteFields$Interpolation"
  | 5 => .object "ByteFields$Roots"
  | 6 => .object "ByteFields$Factors"
  | 7 => .object "ByteFields$Polynomial"
  | 8 => .object "ByteFields$Polynomial"
  | 9 => .array .int
  | 10 => .int
  | 11 => .array (.object "ByteFields$Matrix")
  | 12 => .int
  | 13 => .array (.object "ByteFields$Polynomial")
  | 14 => .int
  | 15 => .array .int
  | _ => .int
abbrev wsX90 : List Cond := u_ws RX9 TX9 17
theorem nmX9 : ∀ a, a < 17 → ∀ b, b < 17 → a ≠ b → (TX9 a).2.1 ≠ (TX9 b).2.1 := by decide +kernel
theorem tyX9_ok : ∀ k, k < 17 → parseFieldDescriptor (TX9 k).2.2.1 = some (tyX9 k) := by decide +kernel
abbrev cX9_init : ByteArray := prog_1_method_1_code
def yX9_init : MethodName := ⟨RX9, "<init>", "(II)V"⟩
abbrev cX9_poly : ByteArray := prog_1_method_2_code
def yX9_poly : MethodName := ⟨RX9, "poly", "()I"⟩
abbrev cX9_generator : ByteArray := prog_1_method_3_code
def yX9_generator : MethodName := ⟨RX9, "generator", "()I"⟩
abbrev cX9_product : ByteArray := prog_1_method_4_code
def yX9_product : MethodName := ⟨RX9, "product", "(II)I"⟩
abbrev cX9_quotient : ByteArray := prog_1_method_5_code
def yX9_quotient : MethodName := ⟨RX9, "quotient", "(II)I"⟩
abbrev cX9_power : ByteArray := prog_1_method_6_code
def yX9_power : MethodName := ⟨RX9, "power", "(IJ)I"⟩
abbrev cX9_log : ByteArray := prog_1_method_7_code
def yX9_log : MethodName := ⟨RX9, "log", "(I)I"⟩
abbrev cX9_order : ByteArray := prog_1_method_8_code
def yX9_order : MethodName := ⟨RX9, "order", "(I)I"⟩
abbrev cX9_put : ByteArray := prog_1_method_9_code
def yX9_put : MethodName := ⟨RX9, "put", "(I)I"⟩
abbrev cX9_row : ByteArray := prog_1_method_10_code
def yX9_row : MethodName := ⟨RX9, "row", "(I)I"⟩
abbrev cX9_drop : ByteArray := prog_1_method_11_code
def yX9_drop : MethodName := ⟨RX9, "drop", "()I"⟩
abbrev cX9_matrix : ByteArray := prog_1_method_12_code
def yX9_matrix : MethodName := ⟨RX9, "matrix", "(II)I"⟩
abbrev cX9_powers : ByteArray := prog_1_method_13_code
def yX9_powers : MethodName := ⟨RX9, "powers", "(II)I"⟩
abbrev cX9_sums : ByteArray := prog_1_method_14_code
def yX9_sums : MethodName := ⟨RX9, "sums", "(II)I"⟩
abbrev cX9_size : ByteArray := prog_1_method_15_code
def yX9_size : MethodName := ⟨RX9, "size", "(II)I"⟩
abbrev cX9_cell : ByteArray := prog_1_method_16_code
def yX9_cell : MethodName := ⟨RX9, "cell", "(III)I"⟩
abbrev cX9_set : ByteArray := prog_1_method_17_code
def yX9_set : MethodName := ⟨RX9, "set", "(IIII)I"⟩
abbrev cX9_times : ByteArray := prog_1_method_18_code
def yX9_times : MethodName := ⟨RX9, "times", "(II)I"⟩
abbrev cX9_invert : ByteArray := prog_1_method_19_code
def yX9_invert : MethodName := ⟨RX9, "invert", "(I)I"⟩
abbrev cX9_rank : ByteArray := prog_1_method_20_code
def yX9_rank : MethodName := ⟨RX9, "rank", "(I)I"⟩
abbrev cX9_determinant : ByteArray := prog_1_method_21_code
def yX9_determinant : MethodName := ⟨RX9, "determinant", "(I)I"⟩
abbrev cX9_singular : ByteArray := prog_1_method_22_code
def yX9_singular : MethodName := ⟨RX9, "singular", "(I)I"⟩
abbrev cX9_solve : ByteArray := prog_1_method_23_code
def yX9_solve : MethodName := ⟨RX9, "solve", "(I)I"⟩
abbrev cX9_polynomial : ByteArray := prog_1_method_24_code
def yX9_polynomial : MethodName := ⟨RX9, "polynomial", "()I"⟩
abbrev cX9_through : ByteArray := prog_1_method_25_code
def yX9_through : MethodName := ⟨RX9, "through", "()I"⟩
abbrev cX9_degree : ByteArray := prog_1_method_26_code
def yX9_degree : MethodName := ⟨RX9, "degree", "(I)I"⟩
abbrev cX9_coefficient : ByteArray := prog_1_method_27_code
def yX9_coefficient : MethodName := ⟨RX9, "coefficient", "(II)I"⟩
abbrev cX9_value : ByteArray := prog_1_method_28_code
def yX9_value : MethodName := ⟨RX9, "value", "(II)I"⟩
abbrev cX9_plus : ByteArray := prog_1_method_29_code
def yX9_plus : MethodName := ⟨RX9, "plus", "(II)I"⟩
abbrev cX9_multiply : ByteArray := prog_1_method_30_code
def yX9_multiply : MethodName := ⟨RX9, "multiply", "(II)I"⟩
abbrev cX9_divide : ByteArray := prog_1_method_31_code
def yX9_divide : MethodName := ⟨RX9, "divide", "(IIZ)I"⟩
abbrev cX9_common : ByteArray := prog_1_method_32_code
def yX9_common : MethodName := ⟨RX9, "common", "(II)I"⟩
abbrev cX9_root : ByteArray := prog_1_method_33_code
def yX9_root : MethodName := ⟨RX9, "root", "(II)I"⟩
abbrev cX9_often : ByteArray := prog_1_method_34_code
def yX9_often : MethodName := ⟨RX9, "often", "(II)I"⟩
abbrev cX9_parts : ByteArray := prog_1_method_35_code
def yX9_parts : MethodName := ⟨RX9, "parts", "(II)I"⟩
abbrev cX9_span : ByteArray := prog_1_method_36_code
def yX9_span : MethodName := ⟨RX9, "span", "()I"⟩
abbrev cX9_forth : ByteArray := prog_1_method_37_code
def yX9_forth : MethodName := ⟨RX9, "forth", "(I)I"⟩
abbrev cX9_back : ByteArray := prog_1_method_38_code
def yX9_back : MethodName := ⟨RX9, "back", "()I"⟩
abbrev cX9_told : ByteArray := prog_1_method_39_code
def yX9_told : MethodName := ⟨RX9, "told", "(I)I"⟩
abbrev cX9_needMember : ByteArray := prog_1_method_40_code
def yX9_needMember : MethodName := ⟨RX9, "needMember", "(I)V"⟩
abbrev cX9_needSides : ByteArray := prog_1_method_41_code
def yX9_needSides : MethodName := ⟨RX9, "needSides", "(II)V"⟩
abbrev cX9_needSquare : ByteArray := prog_1_method_42_code
def yX9_needSquare : MethodName := ⟨RX9, "needSquare", "(LByteFields$Matrix;)V"⟩
abbrev cX9_needMatrixRoom : ByteArray := prog_1_method_43_code
def yX9_needMatrixRoom : MethodName := ⟨RX9, "needMatrixRoom", "()V"⟩
abbrev cX9_needPolynomialRoom : ByteArray := prog_1_method_44_code
def yX9_needPolynomialRoom : MethodName := ⟨RX9, "needPolynomialRoom", "()V"⟩
abbrev cX9_needSpan : ByteArray := prog_1_method_45_code
def yX9_needSpan : MethodName := ⟨RX9, "needSpan", "()V"⟩
abbrev cX9_matrixAt : ByteArray := prog_1_method_46_code
def yX9_matrixAt : MethodName := ⟨RX9, "matrixAt", "(I)LByteFields$Matrix;"⟩
abbrev cX9_placeIn : ByteArray := prog_1_method_47_code
def yX9_placeIn : MethodName := ⟨RX9, "placeIn", "(LByteFields$Matrix;II)I"⟩
abbrev cX9_polynomialAt : ByteArray := prog_1_method_48_code
def yX9_polynomialAt : MethodName := ⟨RX9, "polynomialAt", "(I)LByteFields$Polynomial;"⟩
abbrev cX9_keepMatrix : ByteArray := prog_1_method_49_code
def yX9_keepMatrix : MethodName := ⟨RX9, "keepMatrix", "(LByteFields$Matrix;)I"⟩
abbrev cX9_keepPolynomial : ByteArray := prog_1_method_50_code
def yX9_keepPolynomial : MethodName := ⟨RX9, "keepPolynomial", "(LByteFields$Polynomial;)I"⟩
abbrev cX9_hasAlike : ByteArray := prog_1_method_51_code
def yX9_hasAlike : MethodName := ⟨RX9, "hasAlike", "(I)Z"⟩
abbrev cX9_hasXorOfAhead : ByteArray := prog_1_method_52_code
def yX9_hasXorOfAhead : MethodName := ⟨RX9, "hasXorOfAhead", "()Z"⟩
abbrev cX9_xorOfChosen : ByteArray := prog_1_method_53_code
def yX9_xorOfChosen : MethodName := ⟨RX9, "xorOfChosen", "(II)I"⟩
abbrev cX9_valueOf : ByteArray := prog_1_method_54_code
def yX9_valueOf : MethodName := ⟨RX9, "valueOf", "(LByteFields$Polynomial;I)I"⟩
def RX10 : String := "ByteFieldsModel"
def TX10 : u_T := fun k => match k with
  | 0 => ("ByteFieldsModel", "bits", "I", false)
  | 1 => ("ByteFieldsModel", "poly", "I", false)
  | 2 => ("ByteFieldsModel", "members", "I", false)
  | 3 => ("ByteFieldsModel", "generator", "I", false)
  | 4 => ("ByteFieldsModel", "thrown", "I", false)
  | 5 => ("ByteFieldsModel", "many", "I", false)
  | 6 => ("ByteFieldsModel", "row", "[I", true)
  | 7 => ("ByteFieldsModel", "matrices", "I", false)
  | 8 => ("ByteFieldsModel", "rows", "[I", true)
  | 9 => ("ByteFieldsModel", "columns", "[I", true)
  | 10 => ("ByteFieldsModel", "cells", "[I", true)
  | 11 => ("ByteFieldsModel", "minor", "[I", true)
  | 12 => ("ByteFieldsModel", "work", "[I", true)
  | 13 => ("ByteFieldsModel", "lead", "[I", true)
  | 14 => ("ByteFieldsModel", "polynomials", "I", false)
  | 15 => ("ByteFieldsModel", "degree", "[I", true)
  | 16 => ("ByteFieldsModel", "coefficient", "[I", true)
  | 17 => ("ByteFieldsModel", "one", "[I", true)
  | 18 => ("ByteFieldsModel", "two", "[I", true)
  | 19 => ("ByteFieldsModel", "out", "[I", true)
  | 20 => ("ByteFieldsModel", "third", "[I", true)
  | 21 => ("ByteFieldsModel", "rooted", "I", false)
  | 22 => ("ByteFieldsModel", "roots", "I", false)
  | 23 => ("ByteFieldsModel", "root", "[I", true)
  | 24 => ("ByteFieldsModel", "parted", "I", false)
  | 25 => ("ByteFieldsModel", "parts", "[I", true)
  | 26 => ("ByteFieldsModel", "left", "[I", true)
  | 27 => ("ByteFieldsModel", "power", "[I", true)
  | 28 => ("ByteFieldsModel", "spanned", "I", false)
  | _ => ("ByteFieldsModel", "span", "[I", true)
def tyX10 : Nat → FieldType := fun k => match k with
  | 0 => .int
  | 1 => .int
  | 2 => .int
  | 3 => .int
  | 4 => .int
  | 5 => .int
  | 6 => .array .int
  | 7 => .int
  | 8 => .array .int
  | 9 => .array .int
  | 10 => .array .int
  | 11 => .array .int
  | 12 => .array .int
  | 13 => .array .int
  | 14 => .int
  | 15 => .array .int
  | 16 => .array .int
  | 17 => .array .int
  | 18 => .array .int
  | 19 => .array .int
  | 20 => .array .int
  | 21 => .int
  | 22 => .int
  | 23 => .array .int
  | 24 => .int
  | 25 => .array .int
  | 26 => .array .int
  | 27 => .array .int
  | 28 => .int
  | _ => .array .int
abbrev wsX100 : List Cond := u_ws RX10 TX10 30
theorem nmX10 : ∀ a, a < 30 → ∀ b, b < 30 → a ≠ b → (TX10 a).2.1 ≠ (TX10 b).2.1 := by decide +kernel
theorem tyX10_ok : ∀ k, k < 30 → parseFieldDescriptor (TX10 k).2.2.1 = some (tyX10 k) := by decide +kernel
abbrev cX10_thrown : ByteArray := prog_12_method_1_code
def yX10_thrown : MethodName := ⟨RX10, "thrown", "()I"⟩
abbrev cX10_fail : ByteArray := prog_12_method_2_code
def yX10_fail : MethodName := ⟨RX10, "fail", "(I)I"⟩
abbrev cX10_init : ByteArray := prog_12_method_3_code
def yX10_init : MethodName := ⟨RX10, "<init>", "(II)V"⟩
abbrev cX10_isPrime : ByteArray := prog_12_method_4_code
def yX10_isPrime : MethodName := ⟨RX10, "isPrime", "(I)Z"⟩
abbrev cX10_degreeOf : ByteArray := prog_12_method_5_code
def yX10_degreeOf : MethodName := ⟨RX10, "degreeOf", "(I)I"⟩
abbrev cX10_restOf : ByteArray := prog_12_method_6_code
def yX10_restOf : MethodName := ⟨RX10, "restOf", "(II)I"⟩
abbrev cX10_isMember : ByteArray := prog_12_method_7_code
def yX10_isMember : MethodName := ⟨RX10, "isMember", "(I)Z"⟩
abbrev cX10_mul : ByteArray := prog_12_method_8_code
def yX10_mul : MethodName := ⟨RX10, "mul", "(II)I"⟩
abbrev cX10_raised : ByteArray := prog_12_method_9_code
def yX10_raised : MethodName := ⟨RX10, "raised", "(II)I"⟩
abbrev cX10_inverse : ByteArray := prog_12_method_10_code
def yX10_inverse : MethodName := ⟨RX10, "inverse", "(I)I"⟩
abbrev cX10_factor : ByteArray := prog_12_method_11_code
def yX10_factor : MethodName := ⟨RX10, "factor", "(I)I"⟩
abbrev cX10_factors : ByteArray := prog_12_method_12_code
def yX10_factors : MethodName := ⟨RX10, "factors", "()I"⟩
abbrev cX10_orderOf : ByteArray := prog_12_method_13_code
def yX10_orderOf : MethodName := ⟨RX10, "orderOf", "(I)I"⟩
abbrev cX10_poly : ByteArray := prog_12_method_14_code
def yX10_poly : MethodName := ⟨RX10, "poly", "()I"⟩
abbrev cX10_generator : ByteArray := prog_12_method_15_code
def yX10_generator : MethodName := ⟨RX10, "generator", "()I"⟩
abbrev cX10_product : ByteArray := prog_12_method_16_code
def yX10_product : MethodName := ⟨RX10, "product", "(II)I"⟩
abbrev cX10_quotient : ByteArray := prog_12_method_17_code
def yX10_quotient : MethodName := ⟨RX10, "quotient", "(II)I"⟩
abbrev cX10_power : ByteArray := prog_12_method_18_code
def yX10_power : MethodName := ⟨RX10, "power", "(IJ)I"⟩
abbrev cX10_log : ByteArray := prog_12_method_19_code
def yX10_log : MethodName := ⟨RX10, "log", "(I)I"⟩
abbrev cX10_order : ByteArray := prog_12_method_20_code
def yX10_order : MethodName := ⟨RX10, "order", "(I)I"⟩
abbrev cX10_put : ByteArray := prog_12_method_21_code
def yX10_put : MethodName := ⟨RX10, "put", "(I)I"⟩
abbrev cX10_row : ByteArray := prog_12_method_22_code
def yX10_row : MethodName := ⟨RX10, "row", "(I)I"⟩
abbrev cX10_drop : ByteArray := prog_12_method_23_code
def yX10_drop : MethodName := ⟨RX10, "drop", "()I"⟩
abbrev cX10_hasAlike : ByteArray := prog_12_method_24_code
def yX10_hasAlike : MethodName := ⟨RX10, "hasAlike", "(II)Z"⟩
abbrev cX10_isSize : ByteArray := prog_12_method_25_code
def yX10_isSize : MethodName := ⟨RX10, "isSize", "(I)Z"⟩
abbrev cX10_isMatrix : ByteArray := prog_12_method_26_code
def yX10_isMatrix : MethodName := ⟨RX10, "isMatrix", "(I)Z"⟩
abbrev cX10_at : ByteArray := prog_12_method_27_code
def yX10_at : MethodName := ⟨RX10, "at", "(III)I"⟩
abbrev cX10_made : ByteArray := prog_12_method_28_code
def yX10_made : MethodName := ⟨RX10, "made", "(II)I"⟩
abbrev cX10_matrix : ByteArray := prog_12_method_29_code
def yX10_matrix : MethodName := ⟨RX10, "matrix", "(II)I"⟩
abbrev cX10_powers : ByteArray := prog_12_method_30_code
def yX10_powers : MethodName := ⟨RX10, "powers", "(II)I"⟩
abbrev cX10_sums : ByteArray := prog_12_method_31_code
def yX10_sums : MethodName := ⟨RX10, "sums", "(II)I"⟩
abbrev cX10_size : ByteArray := prog_12_method_32_code
def yX10_size : MethodName := ⟨RX10, "size", "(II)I"⟩
abbrev cX10_isCell : ByteArray := prog_12_method_33_code
def yX10_isCell : MethodName := ⟨RX10, "isCell", "(III)Z"⟩
abbrev cX10_cell : ByteArray := prog_12_method_34_code
def yX10_cell : MethodName := ⟨RX10, "cell", "(III)I"⟩
abbrev cX10_set : ByteArray := prog_12_method_35_code
def yX10_set : MethodName := ⟨RX10, "set", "(IIII)I"⟩
abbrev cX10_times : ByteArray := prog_12_method_36_code
def yX10_times : MethodName := ⟨RX10, "times", "(II)I"⟩
abbrev cX10_bitsOf : ByteArray := prog_12_method_37_code
def yX10_bitsOf : MethodName := ⟨RX10, "bitsOf", "(I)I"⟩
abbrev cX10_minors : ByteArray := prog_12_method_38_code
def yX10_minors : MethodName := ⟨RX10, "minors", "(I)V"⟩
abbrev cX10_singular : ByteArray := prog_12_method_39_code
def yX10_singular : MethodName := ⟨RX10, "singular", "(I)I"⟩
abbrev cX10_determinant : ByteArray := prog_12_method_40_code
def yX10_determinant : MethodName := ⟨RX10, "determinant", "(I)I"⟩
abbrev cX10_invert : ByteArray := prog_12_method_41_code
def yX10_invert : MethodName := ⟨RX10, "invert", "(I)I"⟩
abbrev cX10_rank : ByteArray := prog_12_method_42_code
def yX10_rank : MethodName := ⟨RX10, "rank", "(I)I"⟩
abbrev cX10_solve : ByteArray := prog_12_method_43_code
def yX10_solve : MethodName := ⟨RX10, "solve", "(I)I"⟩
abbrev cX10_isPolynomial : ByteArray := prog_12_method_44_code
def yX10_isPolynomial : MethodName := ⟨RX10, "isPolynomial", "(I)Z"⟩
abbrev cX10_high : ByteArray := prog_12_method_45_code
def yX10_high : MethodName := ⟨RX10, "high", "([I)I"⟩
abbrev cX10_nothing : ByteArray := prog_12_method_46_code
def yX10_nothing : MethodName := ⟨RX10, "nothing", "([I)V"⟩
abbrev cX10_copy : ByteArray := prog_12_method_47_code
def yX10_copy : MethodName := ⟨RX10, "copy", "([I[I)V"⟩
abbrev cX10_load : ByteArray := prog_12_method_48_code
def yX10_load : MethodName := ⟨RX10, "load", "([II)V"⟩
abbrev cX10_kept : ByteArray := prog_12_method_49_code
def yX10_kept : MethodName := ⟨RX10, "kept", "([I)I"⟩
abbrev cX10_at_ : ByteArray := prog_12_method_50_code
def yX10_at_ : MethodName := ⟨RX10, "at", "([II)I"⟩
abbrev cX10_polynomial : ByteArray := prog_12_method_51_code
def yX10_polynomial : MethodName := ⟨RX10, "polynomial", "()I"⟩
abbrev cX10_point : ByteArray := prog_12_method_52_code
def yX10_point : MethodName := ⟨RX10, "point", "(II)V"⟩
abbrev cX10_begin : ByteArray := prog_12_method_53_code
def yX10_begin : MethodName := ⟨RX10, "begin", "()V"⟩
abbrev cX10_through : ByteArray := prog_12_method_54_code
def yX10_through : MethodName := ⟨RX10, "through", "()I"⟩
abbrev cX10_degree : ByteArray := prog_12_method_55_code
def yX10_degree : MethodName := ⟨RX10, "degree", "(I)I"⟩
abbrev cX10_coefficient : ByteArray := prog_12_method_56_code
def yX10_coefficient : MethodName := ⟨RX10, "coefficient", "(II)I"⟩
abbrev cX10_value : ByteArray := prog_12_method_57_code
def yX10_value : MethodName := ⟨RX10, "value", "(II)I"⟩
abbrev cX10_plus : ByteArray := prog_12_method_58_code
def yX10_plus : MethodName := ⟨RX10, "plus", "(II)I"⟩
abbrev cX10_multiply : ByteArray := prog_12_method_59_code
def yX10_multiply : MethodName := ⟨RX10, "multiply", "(II)I"⟩
abbrev cX10_split : ByteArray := prog_12_method_60_code
def yX10_split : MethodName := ⟨RX10, "split", "([I[I)V"⟩
abbrev cX10_divide : ByteArray := prog_12_method_61_code
def yX10_divide : MethodName := ⟨RX10, "divide", "(IIZ)I"⟩
abbrev cX10_divisor : ByteArray := prog_12_method_62_code
def yX10_divisor : MethodName := ⟨RX10, "divisor", "([I[I)V"⟩
abbrev cX10_common : ByteArray := prog_12_method_63_code
def yX10_common : MethodName := ⟨RX10, "common", "(II)I"⟩
abbrev cX10_root : ByteArray := prog_12_method_64_code
def yX10_root : MethodName := ⟨RX10, "root", "(II)I"⟩
abbrev cX10_often : ByteArray := prog_12_method_65_code
def yX10_often : MethodName := ⟨RX10, "often", "(II)I"⟩
abbrev cX10_square : ByteArray := prog_12_method_66_code
def yX10_square : MethodName := ⟨RX10, "square", "([I)V"⟩
abbrev cX10_lookAtParts : ByteArray := prog_12_method_67_code
def yX10_lookAtParts : MethodName := ⟨RX10, "lookAtParts", "(I)V"⟩
abbrev cX10_parts : ByteArray := prog_12_method_68_code
def yX10_parts : MethodName := ⟨RX10, "parts", "(II)I"⟩
abbrev cX10_span : ByteArray := prog_12_method_69_code
def yX10_span : MethodName := ⟨RX10, "span", "()I"⟩
abbrev cX10_forth : ByteArray := prog_12_method_70_code
def yX10_forth : MethodName := ⟨RX10, "forth", "(I)I"⟩
abbrev cX10_back : ByteArray := prog_12_method_71_code
def yX10_back : MethodName := ⟨RX10, "back", "()I"⟩
abbrev cX10_told : ByteArray := prog_12_method_72_code
def yX10_told : MethodName := ⟨RX10, "told", "(I)I"⟩
def RJx00060 : String := "java/lang/ArrayIndexOutOfBoundsException"
def TJx00060 : u_T := fun k => match k with
  | 0 => ("java/lang/Throwable", "backtrace", "Ljava/lang/Object;", false)
  | 1 => ("java/lang/Throwable", "detailMessage", "Ljava/lang/String;", false)
  | 2 => ("java/lang/Throwable", "cause", "Ljava/lang/Throwable;", false)
  | 3 => ("java/lang/Throwable", "stackTrace", "[Ljava/lang/StackTraceElement;", false)
  | 4 => ("java/lang/Throwable", "depth", "I", false)
  | _ => ("java/lang/Throwable", "suppressedExceptions", "Ljava/util/List;", false)
def tyJx00060 : Nat → FieldType := fun k => match k with
  | 0 => .object "java/lang/Object"
  | 1 => .object "java/lang/String"
  | 2 => .object "java/lang/Throwable"
  | 3 => .array (.object "java/lang/StackTraceElement")
  | 4 => .int
  | _ => .object "java/util/List"
abbrev wsJx000600 : List Cond := u_ws RJx00060 TJx00060 6
theorem nmJx00060 : ∀ a, a < 6 → ∀ b, b < 6 → a ≠ b → (TJx00060 a).2.1 ≠ (TJx00060 b).2.1 := by decide +kernel
theorem tyJx00060_ok : ∀ k, k < 6 → parseFieldDescriptor (TJx00060 k).2.2.1 = some (tyJx00060 k) := by decide +kernel
abbrev cJx00060_init_a7421 : ByteArray := prog_14_method_2_code
def yJx00060_init_a7421 : MethodName := ⟨RJx00060, "<init>", "(Ljava/lang/String;)V"⟩
def RJ6 : String := "java/lang/Integer"
def TJ6 : u_T := fun k => match k with
  | _ => ("", "", "", false)
def tyJ6 : Nat → FieldType := fun k => match k with
  | _ => .int
abbrev wsJ60 : List Cond := u_ws RJ6 TJ6 0
theorem nmJ6 : ∀ a, a < 0 → ∀ b, b < 0 → a ≠ b → (TJ6 a).2.1 ≠ (TJ6 b).2.1 := by decide +kernel
theorem tyJ6_ok : ∀ k, k < 0 → parseFieldDescriptor (TJ6 k).2.2.1 = some (tyJ6 k) := by decide +kernel
abbrev cJ6_numberOfLeadingZeros_0f7a4 : ByteArray := prog_19_method_47_code
def yJ6_numberOfLeadingZeros_0f7a4 : MethodName := ⟨RJ6, "numberOfLeadingZeros", "(I)I"⟩
abbrev cJ6_numberOfTrailingZeros_0f7a4 : ByteArray := prog_19_method_48_code
def yJ6_numberOfTrailingZeros_0f7a4 : MethodName := ⟨RJ6, "numberOfTrailingZeros", "(I)I"⟩
abbrev cJ6_bitCount_0f7a4 : ByteArray := prog_19_method_49_code
def yJ6_bitCount_0f7a4 : MethodName := ⟨RJ6, "bitCount", "(I)I"⟩
def RJ9 : String := "java/lang/Math"
def TJ9 : u_T := fun k => match k with
  | _ => ("", "", "", false)
def tyJ9 : Nat → FieldType := fun k => match k with
  | _ => .int
abbrev wsJ90 : List Cond := u_ws RJ9 TJ9 0
theorem nmJ9 : ∀ a, a < 0 → ∀ b, b < 0 → a ≠ b → (TJ9 a).2.1 ≠ (TJ9 b).2.1 := by decide +kernel
theorem tyJ9_ok : ∀ k, k < 0 → parseFieldDescriptor (TJ9 k).2.2.1 = some (tyJ9 k) := by decide +kernel
abbrev cJ9_max_7cf53 : ByteArray := prog_20_method_65_code
def yJ9_max_7cf53 : MethodName := ⟨RJ9, "max", "(II)I"⟩
def RJ0 : String := "java/lang/String"
def TJ0 : u_T := fun k => match k with
  | 0 => ("java/lang/String", "value", "[B", true)
  | _ => ("java/lang/String", "coder", "B", true)
def tyJ0 : Nat → FieldType := fun k => match k with
  | 0 => .array .byte
  | _ => .byte
abbrev wsJ00 : List Cond := u_ws RJ0 TJ0 2
theorem nmJ0 : ∀ a, a < 2 → ∀ b, b < 2 → a ≠ b → (TJ0 a).2.1 ≠ (TJ0 b).2.1 := by decide +kernel
theorem tyJ0_ok : ∀ k, k < 2 → parseFieldDescriptor (TJ0 k).2.2.1 = some (tyJ0 k) := by decide +kernel
def RJ10 : String := "java/lang/System"
def TJ10 : u_T := fun k => match k with
  | _ => ("", "", "", false)
def tyJ10 : Nat → FieldType := fun k => match k with
  | _ => .int
abbrev wsJ100 : List Cond := u_ws RJ10 TJ10 0
theorem nmJ10 : ∀ a, a < 0 → ∀ b, b < 0 → a ≠ b → (TJ10 a).2.1 ≠ (TJ10 b).2.1 := by decide +kernel
theorem tyJ10_ok : ∀ k, k < 0 → parseFieldDescriptor (TJ10 k).2.2.1 = some (tyJ10 k) := by decide +kernel
def RL : String := "ByteFieldsLaw"
abbrev cL_cell : ByteArray := method_2_code
def yL_cell : MethodName := ⟨RL, "cell", "([II)I"⟩
abbrev cL_product : ByteArray := method_3_code
def yL_product : MethodName := ⟨RL, "product", "(LByteFields;II[J)I"⟩
abbrev cL_quotient : ByteArray := method_4_code
def yL_quotient : MethodName := ⟨RL, "quotient", "(LByteFields;II[J)I"⟩
abbrev cL_power : ByteArray := method_5_code
def yL_power : MethodName := ⟨RL, "power", "(LByteFields;IJ[J)I"⟩
abbrev cL_log : ByteArray := method_6_code
def yL_log : MethodName := ⟨RL, "log", "(LByteFields;I[J)I"⟩
abbrev cL_order : ByteArray := method_7_code
def yL_order : MethodName := ⟨RL, "order", "(LByteFields;I[J)I"⟩
abbrev cL_put : ByteArray := method_8_code
def yL_put : MethodName := ⟨RL, "put", "(LByteFields;I[J)I"⟩
abbrev cL_row : ByteArray := method_9_code
def yL_row : MethodName := ⟨RL, "row", "(LByteFields;I[J)I"⟩
abbrev cL_matrix : ByteArray := method_10_code
def yL_matrix : MethodName := ⟨RL, "matrix", "(LByteFields;II[J)I"⟩
abbrev cL_powers : ByteArray := method_11_code
def yL_powers : MethodName := ⟨RL, "powers", "(LByteFields;II[J)I"⟩
abbrev cL_sums : ByteArray := method_12_code
def yL_sums : MethodName := ⟨RL, "sums", "(LByteFields;II[J)I"⟩
abbrev cL_size : ByteArray := method_13_code
def yL_size : MethodName := ⟨RL, "size", "(LByteFields;II[J)I"⟩
abbrev cL_cell_ : ByteArray := method_14_code
def yL_cell_ : MethodName := ⟨RL, "cell", "(LByteFields;III[J)I"⟩
abbrev cL_set : ByteArray := method_15_code
def yL_set : MethodName := ⟨RL, "set", "(LByteFields;IIII[J)I"⟩
abbrev cL_times : ByteArray := method_16_code
def yL_times : MethodName := ⟨RL, "times", "(LByteFields;II[J)I"⟩
abbrev cL_invert : ByteArray := method_17_code
def yL_invert : MethodName := ⟨RL, "invert", "(LByteFields;I[J)I"⟩
abbrev cL_rank : ByteArray := method_18_code
def yL_rank : MethodName := ⟨RL, "rank", "(LByteFields;I[J)I"⟩
abbrev cL_determinant : ByteArray := method_19_code
def yL_determinant : MethodName := ⟨RL, "determinant", "(LByteFields;I[J)I"⟩
abbrev cL_singular : ByteArray := method_20_code
def yL_singular : MethodName := ⟨RL, "singular", "(LByteFields;I[J)I"⟩
abbrev cL_solve : ByteArray := method_21_code
def yL_solve : MethodName := ⟨RL, "solve", "(LByteFields;I[J)I"⟩
abbrev cL_polynomial : ByteArray := method_22_code
def yL_polynomial : MethodName := ⟨RL, "polynomial", "(LByteFields;[J)I"⟩
abbrev cL_through : ByteArray := method_23_code
def yL_through : MethodName := ⟨RL, "through", "(LByteFields;[J)I"⟩
abbrev cL_degree : ByteArray := method_24_code
def yL_degree : MethodName := ⟨RL, "degree", "(LByteFields;I[J)I"⟩
abbrev cL_coefficient : ByteArray := method_25_code
def yL_coefficient : MethodName := ⟨RL, "coefficient", "(LByteFields;II[J)I"⟩
abbrev cL_value : ByteArray := method_26_code
def yL_value : MethodName := ⟨RL, "value", "(LByteFields;II[J)I"⟩
abbrev cL_plus : ByteArray := method_27_code
def yL_plus : MethodName := ⟨RL, "plus", "(LByteFields;II[J)I"⟩
abbrev cL_multiply : ByteArray := method_28_code
def yL_multiply : MethodName := ⟨RL, "multiply", "(LByteFields;II[J)I"⟩
abbrev cL_divide : ByteArray := method_29_code
def yL_divide : MethodName := ⟨RL, "divide", "(LByteFields;IIZ[J)I"⟩
abbrev cL_common : ByteArray := method_30_code
def yL_common : MethodName := ⟨RL, "common", "(LByteFields;II[J)I"⟩
abbrev cL_root : ByteArray := method_31_code
def yL_root : MethodName := ⟨RL, "root", "(LByteFields;II[J)I"⟩
abbrev cL_often : ByteArray := method_32_code
def yL_often : MethodName := ⟨RL, "often", "(LByteFields;II[J)I"⟩
abbrev cL_parts : ByteArray := method_33_code
def yL_parts : MethodName := ⟨RL, "parts", "(LByteFields;II[J)I"⟩
abbrev cL_span : ByteArray := method_34_code
def yL_span : MethodName := ⟨RL, "span", "(LByteFields;[J)I"⟩
abbrev cL_forth : ByteArray := method_35_code
def yL_forth : MethodName := ⟨RL, "forth", "(LByteFields;I[J)I"⟩
abbrev cL_back : ByteArray := method_36_code
def yL_back : MethodName := ⟨RL, "back", "(LByteFields;[J)I"⟩
abbrev cL_told : ByteArray := method_37_code
def yL_told : MethodName := ⟨RL, "told", "(LByteFields;I[J)I"⟩
abbrev cL_law : ByteArray := code
def yL_law : MethodName := ⟨RL, "law", "([I)Z"⟩
abbrev vwCl : List vw_C := [(RJ0, TJ0, 2), (RJx00060, TJx00060, 6), (RX0, TX0, 1), (RX1, TX1, 7), (RX2, TX2, 6), (RX3, TX3, 6), (RX4, TX4, 3), (RX5, TX5, 3), (RX6, TX6, 2), (RX7, TX7, 3), (RX8, TX8, 7), (RX9, TX9, 17), (RX10, TX10, 30)]
end
section
theorem dX0_init_0 : decode cX0_init 0 = .ok (.aload_n 0, 1) := by decide +kernel
theorem dX0_init_1 : decode cX0_init 1 = .ok (.invokespecial 3, 3) := by decide +kernel
theorem dX0_init_4 : decode cX0_init 4 = .ok (.aload_n 0, 1) := by decide +kernel
theorem dX0_init_5 : decode cX0_init 5 = .ok (.aload_n 1, 1) := by decide +kernel
theorem dX0_init_6 : decode cX0_init 6 = .ok (.putfield 9, 3) := by decide +kernel
theorem dX0_init_9 : decode cX0_init 9 = .ok (.return_, 1) := by decide +kernel
theorem dX0_toRest_0 : decode cX0_toRest 0 = .ok (.aload_n 2, 1) := by decide +kernel
theorem dX0_toRest_1 : decode cX0_toRest 1 = .ok (.getfield 15, 3) := by decide +kernel
theorem dX0_toRest_4 : decode cX0_toRest 4 = .ok (.ifCond .lt 14, 3) := by decide +kernel
theorem dX0_toRest_7 : decode cX0_toRest 7 = .ok (.aload_n 1, 1) := by decide +kernel
theorem dX0_toRest_8 : decode cX0_toRest 8 = .ok (.getfield 15, 3) := by decide +kernel
theorem dX0_toRest_11 : decode cX0_toRest 11 = .ok (.aload_n 2, 1) := by decide +kernel
theorem dX0_toRest_12 : decode cX0_toRest 12 = .ok (.getfield 15, 3) := by decide +kernel
theorem dX0_toRest_15 : decode cX0_toRest 15 = .ok (.if_icmp .ge 4, 3) := by decide +kernel
theorem dX0_toRest_18 : decode cX0_toRest 18 = .ok (.return_, 1) := by decide +kernel
theorem dX0_toRest_19 : decode cX0_toRest 19 = .ok (.aload_n 0, 1) := by decide +kernel
theorem dX0_toRest_20 : decode cX0_toRest 20 = .ok (.aload_n 1, 1) := by decide +kernel
theorem dX0_toRest_21 : decode cX0_toRest 21 = .ok (.aload_n 2, 1) := by decide +kernel
theorem dX0_toRest_22 : decode cX0_toRest 22 = .ok (.invokevirtual 21, 3) := by decide +kernel
theorem dX0_toRest_25 : decode cX0_toRest 25 = .ok (.aload_n 2, 1) := by decide +kernel
theorem dX0_toRest_26 : decode cX0_toRest 26 = .ok (.getfield 15, 3) := by decide +kernel
theorem dX0_toRest_29 : decode cX0_toRest 29 = .ok (.istore_n 3, 1) := by decide +kernel
theorem dX0_toRest_30 : decode cX0_toRest 30 = .ok (.iload_n 3, 1) := by decide +kernel
theorem dX0_toRest_31 : decode cX0_toRest 31 = .ok (.aload_n 1, 1) := by decide +kernel
theorem dX0_toRest_32 : decode cX0_toRest 32 = .ok (.getfield 15, 3) := by decide +kernel
theorem dX0_toRest_35 : decode cX0_toRest 35 = .ok (.if_icmp .gt 16, 3) := by decide +kernel
theorem dX0_toRest_38 : decode cX0_toRest 38 = .ok (.aload_n 1, 1) := by decide +kernel
theorem dX0_toRest_39 : decode cX0_toRest 39 = .ok (.getfield 25, 3) := by decide +kernel
theorem dX0_toRest_42 : decode cX0_toRest 42 = .ok (.iload_n 3, 1) := by decide +kernel
theorem dX0_toRest_43 : decode cX0_toRest 43 = .ok (.iconst 0, 1) := by decide +kernel
theorem dX0_toRest_44 : decode cX0_toRest 44 = .ok (.iastore, 1) := by decide +kernel
theorem dX0_toRest_45 : decode cX0_toRest 45 = .ok (.iinc 3 1, 3) := by decide +kernel
theorem dX0_toRest_48 : decode cX0_toRest 48 = .ok (.goto (-18), 3) := by decide +kernel
theorem dX0_toRest_51 : decode cX0_toRest 51 = .ok (.aload_n 1, 1) := by decide +kernel
theorem dX0_toRest_52 : decode cX0_toRest 52 = .ok (.aload_n 2, 1) := by decide +kernel
theorem dX0_toRest_53 : decode cX0_toRest 53 = .ok (.getfield 15, 3) := by decide +kernel
theorem dX0_toRest_56 : decode cX0_toRest 56 = .ok (.iconst 1, 1) := by decide +kernel
theorem dX0_toRest_57 : decode cX0_toRest 57 = .ok (.isub, 1) := by decide +kernel
theorem dX0_toRest_58 : decode cX0_toRest 58 = .ok (.invokevirtual 29, 3) := by decide +kernel
theorem dX0_toRest_61 : decode cX0_toRest 61 = .ok (.return_, 1) := by decide +kernel
theorem dX0_toQuotient_0 : decode cX0_toQuotient 0 = .ok (.aload_n 2, 1) := by decide +kernel
theorem dX0_toQuotient_1 : decode cX0_toQuotient 1 = .ok (.getfield 15, 3) := by decide +kernel
theorem dX0_toQuotient_4 : decode cX0_toQuotient 4 = .ok (.ifCond .lt 14, 3) := by decide +kernel
theorem dX0_toQuotient_7 : decode cX0_toQuotient 7 = .ok (.aload_n 1, 1) := by decide +kernel
theorem dX0_toQuotient_8 : decode cX0_toQuotient 8 = .ok (.getfield 15, 3) := by decide +kernel
theorem dX0_toQuotient_11 : decode cX0_toQuotient 11 = .ok (.aload_n 2, 1) := by decide +kernel
theorem dX0_toQuotient_12 : decode cX0_toQuotient 12 = .ok (.getfield 15, 3) := by decide +kernel
theorem dX0_toQuotient_15 : decode cX0_toQuotient 15 = .ok (.if_icmp .ge 8, 3) := by decide +kernel
theorem dX0_toQuotient_18 : decode cX0_toQuotient 18 = .ok (.aload_n 1, 1) := by decide +kernel
theorem dX0_toQuotient_19 : decode cX0_toQuotient 19 = .ok (.invokevirtual 33, 3) := by decide +kernel
theorem dX0_toQuotient_22 : decode cX0_toQuotient 22 = .ok (.return_, 1) := by decide +kernel
theorem dX0_toQuotient_23 : decode cX0_toQuotient 23 = .ok (.aload_n 0, 1) := by decide +kernel
theorem dX0_toQuotient_24 : decode cX0_toQuotient 24 = .ok (.aload_n 1, 1) := by decide +kernel
theorem dX0_toQuotient_25 : decode cX0_toQuotient 25 = .ok (.aload_n 2, 1) := by decide +kernel
theorem dX0_toQuotient_26 : decode cX0_toQuotient 26 = .ok (.invokevirtual 21, 3) := by decide +kernel
theorem dX0_toQuotient_29 : decode cX0_toQuotient 29 = .ok (.aload_n 1, 1) := by decide +kernel
theorem dX0_toQuotient_30 : decode cX0_toQuotient 30 = .ok (.aload_n 2, 1) := by decide +kernel
theorem dX0_toQuotient_31 : decode cX0_toQuotient 31 = .ok (.getfield 15, 3) := by decide +kernel
theorem dX0_toQuotient_34 : decode cX0_toQuotient 34 = .ok (.invokevirtual 36, 3) := by decide +kernel
theorem dX0_toQuotient_37 : decode cX0_toQuotient 37 = .ok (.return_, 1) := by decide +kernel
theorem dX0_divideInPlace_0 : decode cX0_divideInPlace 0 = .ok (.aload_n 2, 1) := by decide +kernel
theorem dX0_divideInPlace_1 : decode cX0_divideInPlace 1 = .ok (.getfield 15, 3) := by decide +kernel
theorem dX0_divideInPlace_4 : decode cX0_divideInPlace 4 = .ok (.istore_n 3, 1) := by decide +kernel
theorem dX0_divideInPlace_5 : decode cX0_divideInPlace 5 = .ok (.aload_n 0, 1) := by decide +kernel
theorem dX0_divideInPlace_6 : decode cX0_divideInPlace 6 = .ok (.getfield 9, 3) := by decide +kernel
theorem dX0_divideInPlace_9 : decode cX0_divideInPlace 9 = .ok (.aload_n 2, 1) := by decide +kernel
theorem dX0_divideInPlace_10 : decode cX0_divideInPlace 10 = .ok (.getfield 25, 3) := by decide +kernel
theorem dX0_divideInPlace_13 : decode cX0_divideInPlace 13 = .ok (.iload_n 3, 1) := by decide +kernel
theorem dX0_divideInPlace_14 : decode cX0_divideInPlace 14 = .ok (.iaload, 1) := by decide +kernel
theorem dX0_divideInPlace_15 : decode cX0_divideInPlace 15 = .ok (.invokevirtual 39, 3) := by decide +kernel
theorem dX0_divideInPlace_18 : decode cX0_divideInPlace 18 = .ok (.istore 4, 2) := by decide +kernel
theorem dX0_divideInPlace_20 : decode cX0_divideInPlace 20 = .ok (.aload_n 1, 1) := by decide +kernel
theorem dX0_divideInPlace_21 : decode cX0_divideInPlace 21 = .ok (.getfield 15, 3) := by decide +kernel
theorem dX0_divideInPlace_24 : decode cX0_divideInPlace 24 = .ok (.istore 5, 2) := by decide +kernel
theorem dX0_divideInPlace_26 : decode cX0_divideInPlace 26 = .ok (.iload 5, 2) := by decide +kernel
theorem dX0_divideInPlace_28 : decode cX0_divideInPlace 28 = .ok (.iload_n 3, 1) := by decide +kernel
theorem dX0_divideInPlace_29 : decode cX0_divideInPlace 29 = .ok (.if_icmp .lt 59, 3) := by decide +kernel
theorem dX0_divideInPlace_32 : decode cX0_divideInPlace 32 = .ok (.aload_n 0, 1) := by decide +kernel
theorem dX0_divideInPlace_33 : decode cX0_divideInPlace 33 = .ok (.getfield 9, 3) := by decide +kernel
theorem dX0_divideInPlace_36 : decode cX0_divideInPlace 36 = .ok (.aload_n 1, 1) := by decide +kernel
theorem dX0_divideInPlace_37 : decode cX0_divideInPlace 37 = .ok (.getfield 25, 3) := by decide +kernel
theorem dX0_divideInPlace_40 : decode cX0_divideInPlace 40 = .ok (.iload 5, 2) := by decide +kernel
theorem dX0_divideInPlace_42 : decode cX0_divideInPlace 42 = .ok (.iaload, 1) := by decide +kernel
theorem dX0_divideInPlace_43 : decode cX0_divideInPlace 43 = .ok (.iload 4, 2) := by decide +kernel
theorem dX0_divideInPlace_45 : decode cX0_divideInPlace 45 = .ok (.invokevirtual 45, 3) := by decide +kernel
theorem dX0_divideInPlace_48 : decode cX0_divideInPlace 48 = .ok (.istore 6, 2) := by decide +kernel
theorem dX0_divideInPlace_50 : decode cX0_divideInPlace 50 = .ok (.aload_n 0, 1) := by decide +kernel
theorem dX0_divideInPlace_51 : decode cX0_divideInPlace 51 = .ok (.getfield 9, 3) := by decide +kernel
theorem dX0_divideInPlace_54 : decode cX0_divideInPlace 54 = .ok (.aload_n 1, 1) := by decide +kernel
theorem dX0_divideInPlace_55 : decode cX0_divideInPlace 55 = .ok (.getfield 25, 3) := by decide +kernel
theorem dX0_divideInPlace_58 : decode cX0_divideInPlace 58 = .ok (.iload 5, 2) := by decide +kernel
theorem dX0_divideInPlace_60 : decode cX0_divideInPlace 60 = .ok (.iload_n 3, 1) := by decide +kernel
theorem dX0_divideInPlace_61 : decode cX0_divideInPlace 61 = .ok (.isub, 1) := by decide +kernel
theorem dX0_divideInPlace_62 : decode cX0_divideInPlace 62 = .ok (.aload_n 2, 1) := by decide +kernel
theorem dX0_divideInPlace_63 : decode cX0_divideInPlace 63 = .ok (.getfield 25, 3) := by decide +kernel
theorem dX0_divideInPlace_66 : decode cX0_divideInPlace 66 = .ok (.iconst 0, 1) := by decide +kernel
theorem dX0_divideInPlace_67 : decode cX0_divideInPlace 67 = .ok (.iload_n 3, 1) := by decide +kernel
theorem dX0_divideInPlace_68 : decode cX0_divideInPlace 68 = .ok (.iload 6, 2) := by decide +kernel
theorem dX0_divideInPlace_70 : decode cX0_divideInPlace 70 = .ok (.invokevirtual 49, 3) := by decide +kernel
theorem dX0_divideInPlace_73 : decode cX0_divideInPlace 73 = .ok (.aload_n 1, 1) := by decide +kernel
theorem dX0_divideInPlace_74 : decode cX0_divideInPlace 74 = .ok (.getfield 25, 3) := by decide +kernel
theorem dX0_divideInPlace_77 : decode cX0_divideInPlace 77 = .ok (.iload 5, 2) := by decide +kernel
theorem dX0_divideInPlace_79 : decode cX0_divideInPlace 79 = .ok (.iload 6, 2) := by decide +kernel
theorem dX0_divideInPlace_81 : decode cX0_divideInPlace 81 = .ok (.iastore, 1) := by decide +kernel
theorem dX0_divideInPlace_82 : decode cX0_divideInPlace 82 = .ok (.iinc 5 (-1), 3) := by decide +kernel
theorem dX0_divideInPlace_85 : decode cX0_divideInPlace 85 = .ok (.goto (-59), 3) := by decide +kernel
theorem dX0_divideInPlace_88 : decode cX0_divideInPlace 88 = .ok (.return_, 1) := by decide +kernel
theorem dX0_toGreatestDivisor_0 : decode cX0_toGreatestDivisor 0 = .ok (.aload_n 1, 1) := by decide +kernel
theorem dX0_toGreatestDivisor_1 : decode cX0_toGreatestDivisor 1 = .ok (.astore_n 3, 1) := by decide +kernel
theorem dX0_toGreatestDivisor_2 : decode cX0_toGreatestDivisor 2 = .ok (.aload_n 2, 1) := by decide +kernel
theorem dX0_toGreatestDivisor_3 : decode cX0_toGreatestDivisor 3 = .ok (.astore 4, 2) := by decide +kernel
theorem dX0_toGreatestDivisor_5 : decode cX0_toGreatestDivisor 5 = .ok (.iconst 0, 1) := by decide +kernel
theorem dX0_toGreatestDivisor_6 : decode cX0_toGreatestDivisor 6 = .ok (.istore 5, 2) := by decide +kernel
theorem dX0_toGreatestDivisor_8 : decode cX0_toGreatestDivisor 8 = .ok (.iload 5, 2) := by decide +kernel
theorem dX0_toGreatestDivisor_10 : decode cX0_toGreatestDivisor 10 = .ok (.sipush 258, 3) := by decide +kernel
theorem dX0_toGreatestDivisor_13 : decode cX0_toGreatestDivisor 13 = .ok (.if_icmp .ge 34, 3) := by decide +kernel
theorem dX0_toGreatestDivisor_16 : decode cX0_toGreatestDivisor 16 = .ok (.aload 4, 2) := by decide +kernel
theorem dX0_toGreatestDivisor_18 : decode cX0_toGreatestDivisor 18 = .ok (.getfield 15, 3) := by decide +kernel
theorem dX0_toGreatestDivisor_21 : decode cX0_toGreatestDivisor 21 = .ok (.ifCond .lt 26, 3) := by decide +kernel
theorem dX0_toGreatestDivisor_24 : decode cX0_toGreatestDivisor 24 = .ok (.aload_n 0, 1) := by decide +kernel
theorem dX0_toGreatestDivisor_25 : decode cX0_toGreatestDivisor 25 = .ok (.aload_n 3, 1) := by decide +kernel
theorem dX0_toGreatestDivisor_26 : decode cX0_toGreatestDivisor 26 = .ok (.aload 4, 2) := by decide +kernel
theorem dX0_toGreatestDivisor_28 : decode cX0_toGreatestDivisor 28 = .ok (.invokevirtual 53, 3) := by decide +kernel
theorem dX0_toGreatestDivisor_31 : decode cX0_toGreatestDivisor 31 = .ok (.aload_n 3, 1) := by decide +kernel
theorem dX0_toGreatestDivisor_32 : decode cX0_toGreatestDivisor 32 = .ok (.astore 6, 2) := by decide +kernel
theorem dX0_toGreatestDivisor_34 : decode cX0_toGreatestDivisor 34 = .ok (.aload 4, 2) := by decide +kernel
theorem dX0_toGreatestDivisor_36 : decode cX0_toGreatestDivisor 36 = .ok (.astore_n 3, 1) := by decide +kernel
theorem dX0_toGreatestDivisor_37 : decode cX0_toGreatestDivisor 37 = .ok (.aload 6, 2) := by decide +kernel
theorem dX0_toGreatestDivisor_39 : decode cX0_toGreatestDivisor 39 = .ok (.astore 4, 2) := by decide +kernel
theorem dX0_toGreatestDivisor_41 : decode cX0_toGreatestDivisor 41 = .ok (.iinc 5 1, 3) := by decide +kernel
theorem dX0_toGreatestDivisor_44 : decode cX0_toGreatestDivisor 44 = .ok (.goto (-36), 3) := by decide +kernel
theorem dX0_toGreatestDivisor_47 : decode cX0_toGreatestDivisor 47 = .ok (.aload_n 3, 1) := by decide +kernel
theorem dX0_toGreatestDivisor_48 : decode cX0_toGreatestDivisor 48 = .ok (.aload_n 1, 1) := by decide +kernel
theorem dX0_toGreatestDivisor_49 : decode cX0_toGreatestDivisor 49 = .ok (.if_acmp .eq 8, 3) := by decide +kernel
theorem dX0_toGreatestDivisor_52 : decode cX0_toGreatestDivisor 52 = .ok (.aload_n 1, 1) := by decide +kernel
theorem dX0_toGreatestDivisor_53 : decode cX0_toGreatestDivisor 53 = .ok (.aload_n 3, 1) := by decide +kernel
theorem dX0_toGreatestDivisor_54 : decode cX0_toGreatestDivisor 54 = .ok (.invokevirtual 56, 3) := by decide +kernel
theorem dX0_toGreatestDivisor_57 : decode cX0_toGreatestDivisor 57 = .ok (.aload_n 1, 1) := by decide +kernel
theorem dX0_toGreatestDivisor_58 : decode cX0_toGreatestDivisor 58 = .ok (.getfield 15, 3) := by decide +kernel
theorem dX0_toGreatestDivisor_61 : decode cX0_toGreatestDivisor 61 = .ok (.ifCond .lt 36, 3) := by decide +kernel
theorem dX0_toGreatestDivisor_64 : decode cX0_toGreatestDivisor 64 = .ok (.aload_n 0, 1) := by decide +kernel
theorem dX0_toGreatestDivisor_65 : decode cX0_toGreatestDivisor 65 = .ok (.getfield 9, 3) := by decide +kernel
theorem dX0_toGreatestDivisor_68 : decode cX0_toGreatestDivisor 68 = .ok (.aload_n 1, 1) := by decide +kernel
theorem dX0_toGreatestDivisor_69 : decode cX0_toGreatestDivisor 69 = .ok (.getfield 25, 3) := by decide +kernel
theorem dX0_toGreatestDivisor_72 : decode cX0_toGreatestDivisor 72 = .ok (.aload_n 1, 1) := by decide +kernel
theorem dX0_toGreatestDivisor_73 : decode cX0_toGreatestDivisor 73 = .ok (.getfield 15, 3) := by decide +kernel
theorem dX0_toGreatestDivisor_76 : decode cX0_toGreatestDivisor 76 = .ok (.iconst 1, 1) := by decide +kernel
theorem dX0_toGreatestDivisor_77 : decode cX0_toGreatestDivisor 77 = .ok (.iadd, 1) := by decide +kernel
theorem dX0_toGreatestDivisor_78 : decode cX0_toGreatestDivisor 78 = .ok (.aload_n 0, 1) := by decide +kernel
theorem dX0_toGreatestDivisor_79 : decode cX0_toGreatestDivisor 79 = .ok (.getfield 9, 3) := by decide +kernel
theorem dX0_toGreatestDivisor_82 : decode cX0_toGreatestDivisor 82 = .ok (.aload_n 1, 1) := by decide +kernel
theorem dX0_toGreatestDivisor_83 : decode cX0_toGreatestDivisor 83 = .ok (.getfield 25, 3) := by decide +kernel
theorem dX0_toGreatestDivisor_86 : decode cX0_toGreatestDivisor 86 = .ok (.aload_n 1, 1) := by decide +kernel
theorem dX0_toGreatestDivisor_87 : decode cX0_toGreatestDivisor 87 = .ok (.getfield 15, 3) := by decide +kernel
theorem dX0_toGreatestDivisor_90 : decode cX0_toGreatestDivisor 90 = .ok (.iaload, 1) := by decide +kernel
theorem dX0_toGreatestDivisor_91 : decode cX0_toGreatestDivisor 91 = .ok (.invokevirtual 39, 3) := by decide +kernel
theorem dX0_toGreatestDivisor_94 : decode cX0_toGreatestDivisor 94 = .ok (.invokevirtual 60, 3) := by decide +kernel
theorem dX0_toGreatestDivisor_97 : decode cX0_toGreatestDivisor 97 = .ok (.return_, 1) := by decide +kernel
theorem dX0_takeOut_0 : decode cX0_takeOut 0 = .ok (.aload_n 1, 1) := by decide +kernel
theorem dX0_takeOut_1 : decode cX0_takeOut 1 = .ok (.getfield 15, 3) := by decide +kernel
theorem dX0_takeOut_4 : decode cX0_takeOut 4 = .ok (.iconst 1, 1) := by decide +kernel
theorem dX0_takeOut_5 : decode cX0_takeOut 5 = .ok (.isub, 1) := by decide +kernel
theorem dX0_takeOut_6 : decode cX0_takeOut 6 = .ok (.istore_n 3, 1) := by decide +kernel
theorem dX0_takeOut_7 : decode cX0_takeOut 7 = .ok (.iload_n 3, 1) := by decide +kernel
theorem dX0_takeOut_8 : decode cX0_takeOut 8 = .ok (.ifCond .lt 34, 3) := by decide +kernel
theorem dX0_takeOut_11 : decode cX0_takeOut 11 = .ok (.aload_n 1, 1) := by decide +kernel
theorem dX0_takeOut_12 : decode cX0_takeOut 12 = .ok (.getfield 25, 3) := by decide +kernel
theorem dX0_takeOut_15 : decode cX0_takeOut 15 = .ok (.iload_n 3, 1) := by decide +kernel
theorem dX0_takeOut_16 : decode cX0_takeOut 16 = .ok (.dup2, 1) := by decide +kernel
theorem dX0_takeOut_17 : decode cX0_takeOut 17 = .ok (.iaload, 1) := by decide +kernel
theorem dX0_takeOut_18 : decode cX0_takeOut 18 = .ok (.aload_n 0, 1) := by decide +kernel
theorem dX0_takeOut_19 : decode cX0_takeOut 19 = .ok (.getfield 9, 3) := by decide +kernel
theorem dX0_takeOut_22 : decode cX0_takeOut 22 = .ok (.aload_n 1, 1) := by decide +kernel
theorem dX0_takeOut_23 : decode cX0_takeOut 23 = .ok (.getfield 25, 3) := by decide +kernel
theorem dX0_takeOut_26 : decode cX0_takeOut 26 = .ok (.iload_n 3, 1) := by decide +kernel
theorem dX0_takeOut_27 : decode cX0_takeOut 27 = .ok (.iconst 1, 1) := by decide +kernel
theorem dX0_takeOut_28 : decode cX0_takeOut 28 = .ok (.iadd, 1) := by decide +kernel
theorem dX0_takeOut_29 : decode cX0_takeOut 29 = .ok (.iaload, 1) := by decide +kernel
theorem dX0_takeOut_30 : decode cX0_takeOut 30 = .ok (.iload_n 2, 1) := by decide +kernel
theorem dX0_takeOut_31 : decode cX0_takeOut 31 = .ok (.invokevirtual 45, 3) := by decide +kernel
theorem dX0_takeOut_34 : decode cX0_takeOut 34 = .ok (.ixor, 1) := by decide +kernel
theorem dX0_takeOut_35 : decode cX0_takeOut 35 = .ok (.iastore, 1) := by decide +kernel
theorem dX0_takeOut_36 : decode cX0_takeOut 36 = .ok (.iinc 3 (-1), 3) := by decide +kernel
theorem dX0_takeOut_39 : decode cX0_takeOut 39 = .ok (.goto (-32), 3) := by decide +kernel
theorem dX0_takeOut_42 : decode cX0_takeOut 42 = .ok (.aload_n 1, 1) := by decide +kernel
theorem dX0_takeOut_43 : decode cX0_takeOut 43 = .ok (.getfield 25, 3) := by decide +kernel
theorem dX0_takeOut_46 : decode cX0_takeOut 46 = .ok (.iconst 0, 1) := by decide +kernel
theorem dX0_takeOut_47 : decode cX0_takeOut 47 = .ok (.iaload, 1) := by decide +kernel
theorem dX0_takeOut_48 : decode cX0_takeOut 48 = .ok (.ifCond .eq 5, 3) := by decide +kernel
theorem dX0_takeOut_51 : decode cX0_takeOut 51 = .ok (.iconst 0, 1) := by decide +kernel
theorem dX0_takeOut_52 : decode cX0_takeOut 52 = .ok (.ireturn, 1) := by decide +kernel
theorem dX0_takeOut_53 : decode cX0_takeOut 53 = .ok (.aload_n 1, 1) := by decide +kernel
theorem dX0_takeOut_54 : decode cX0_takeOut 54 = .ok (.iconst 1, 1) := by decide +kernel
theorem dX0_takeOut_55 : decode cX0_takeOut 55 = .ok (.invokevirtual 36, 3) := by decide +kernel
theorem dX0_takeOut_58 : decode cX0_takeOut 58 = .ok (.iconst 1, 1) := by decide +kernel
theorem dX0_takeOut_59 : decode cX0_takeOut 59 = .ok (.ireturn, 1) := by decide +kernel
theorem dX0_toSquareRest_0 : decode cX0_toSquareRest 0 = .ok (.aload_n 1, 1) := by decide +kernel
theorem dX0_toSquareRest_1 : decode cX0_toSquareRest 1 = .ok (.getfield 15, 3) := by decide +kernel
theorem dX0_toSquareRest_4 : decode cX0_toSquareRest 4 = .ok (.ifCond .lt 12, 3) := by decide +kernel
theorem dX0_toSquareRest_7 : decode cX0_toSquareRest 7 = .ok (.aload_n 1, 1) := by decide +kernel
theorem dX0_toSquareRest_8 : decode cX0_toSquareRest 8 = .ok (.getfield 15, 3) := by decide +kernel
theorem dX0_toSquareRest_11 : decode cX0_toSquareRest 11 = .ok (.bipush 64, 2) := by decide +kernel
theorem dX0_toSquareRest_13 : decode cX0_toSquareRest 13 = .ok (.if_icmp .le 4, 3) := by decide +kernel
theorem dX0_toSquareRest_16 : decode cX0_toSquareRest 16 = .ok (.return_, 1) := by decide +kernel
theorem dX0_toSquareRest_17 : decode cX0_toSquareRest 17 = .ok (.aload_n 1, 1) := by decide +kernel
theorem dX0_toSquareRest_18 : decode cX0_toSquareRest 18 = .ok (.getfield 15, 3) := by decide +kernel
theorem dX0_toSquareRest_21 : decode cX0_toSquareRest 21 = .ok (.istore_n 3, 1) := by decide +kernel
theorem dX0_toSquareRest_22 : decode cX0_toSquareRest 22 = .ok (.iload_n 3, 1) := by decide +kernel
theorem dX0_toSquareRest_23 : decode cX0_toSquareRest 23 = .ok (.ifCond .lt 43, 3) := by decide +kernel
theorem dX0_toSquareRest_26 : decode cX0_toSquareRest 26 = .ok (.aload_n 1, 1) := by decide +kernel
theorem dX0_toSquareRest_27 : decode cX0_toSquareRest 27 = .ok (.getfield 25, 3) := by decide +kernel
theorem dX0_toSquareRest_30 : decode cX0_toSquareRest 30 = .ok (.iload_n 3, 1) := by decide +kernel
theorem dX0_toSquareRest_31 : decode cX0_toSquareRest 31 = .ok (.iaload, 1) := by decide +kernel
theorem dX0_toSquareRest_32 : decode cX0_toSquareRest 32 = .ok (.istore 4, 2) := by decide +kernel
theorem dX0_toSquareRest_34 : decode cX0_toSquareRest 34 = .ok (.aload_n 1, 1) := by decide +kernel
theorem dX0_toSquareRest_35 : decode cX0_toSquareRest 35 = .ok (.getfield 25, 3) := by decide +kernel
theorem dX0_toSquareRest_38 : decode cX0_toSquareRest 38 = .ok (.iload_n 3, 1) := by decide +kernel
theorem dX0_toSquareRest_39 : decode cX0_toSquareRest 39 = .ok (.iconst 0, 1) := by decide +kernel
theorem dX0_toSquareRest_40 : decode cX0_toSquareRest 40 = .ok (.iastore, 1) := by decide +kernel
theorem dX0_toSquareRest_41 : decode cX0_toSquareRest 41 = .ok (.aload_n 1, 1) := by decide +kernel
theorem dX0_toSquareRest_42 : decode cX0_toSquareRest 42 = .ok (.getfield 25, 3) := by decide +kernel
theorem dX0_toSquareRest_45 : decode cX0_toSquareRest 45 = .ok (.iconst 2, 1) := by decide +kernel
theorem dX0_toSquareRest_46 : decode cX0_toSquareRest 46 = .ok (.iload_n 3, 1) := by decide +kernel
theorem dX0_toSquareRest_47 : decode cX0_toSquareRest 47 = .ok (.imul, 1) := by decide +kernel
theorem dX0_toSquareRest_48 : decode cX0_toSquareRest 48 = .ok (.aload_n 0, 1) := by decide +kernel
theorem dX0_toSquareRest_49 : decode cX0_toSquareRest 49 = .ok (.getfield 9, 3) := by decide +kernel
theorem dX0_toSquareRest_52 : decode cX0_toSquareRest 52 = .ok (.iload 4, 2) := by decide +kernel
theorem dX0_toSquareRest_54 : decode cX0_toSquareRest 54 = .ok (.iload 4, 2) := by decide +kernel
theorem dX0_toSquareRest_56 : decode cX0_toSquareRest 56 = .ok (.invokevirtual 45, 3) := by decide +kernel
theorem dX0_toSquareRest_59 : decode cX0_toSquareRest 59 = .ok (.iastore, 1) := by decide +kernel
theorem dX0_toSquareRest_60 : decode cX0_toSquareRest 60 = .ok (.iinc 3 (-1), 3) := by decide +kernel
theorem dX0_toSquareRest_63 : decode cX0_toSquareRest 63 = .ok (.goto (-41), 3) := by decide +kernel
theorem dX0_toSquareRest_66 : decode cX0_toSquareRest 66 = .ok (.aload_n 1, 1) := by decide +kernel
theorem dX0_toSquareRest_67 : decode cX0_toSquareRest 67 = .ok (.iconst 2, 1) := by decide +kernel
theorem dX0_toSquareRest_68 : decode cX0_toSquareRest 68 = .ok (.aload_n 1, 1) := by decide +kernel
theorem dX0_toSquareRest_69 : decode cX0_toSquareRest 69 = .ok (.getfield 15, 3) := by decide +kernel
theorem dX0_toSquareRest_72 : decode cX0_toSquareRest 72 = .ok (.imul, 1) := by decide +kernel
theorem dX0_toSquareRest_73 : decode cX0_toSquareRest 73 = .ok (.putfield 15, 3) := by decide +kernel
theorem dX0_toSquareRest_76 : decode cX0_toSquareRest 76 = .ok (.aload_n 0, 1) := by decide +kernel
theorem dX0_toSquareRest_77 : decode cX0_toSquareRest 77 = .ok (.aload_n 1, 1) := by decide +kernel
theorem dX0_toSquareRest_78 : decode cX0_toSquareRest 78 = .ok (.aload_n 2, 1) := by decide +kernel
theorem dX0_toSquareRest_79 : decode cX0_toSquareRest 79 = .ok (.invokevirtual 53, 3) := by decide +kernel
theorem dX0_toSquareRest_82 : decode cX0_toSquareRest 82 = .ok (.return_, 1) := by decide +kernel
theorem dX1_init_0 : decode cX1_init 0 = .ok (.aload_n 0, 1) := by decide +kernel
theorem dX1_init_1 : decode cX1_init 1 = .ok (.invokespecial 3, 3) := by decide +kernel
theorem dX1_init_4 : decode cX1_init 4 = .ok (.aload_n 0, 1) := by decide +kernel
theorem dX1_init_5 : decode cX1_init 5 = .ok (.bipush 8, 2) := by decide +kernel
theorem dX1_init_7 : decode cX1_init 7 = .ok (.bipush 16, 2) := by decide +kernel
theorem dX1_init_9 : decode cX1_init 9 = .ok (.multianewarray 9 2, 4) := by decide +kernel
theorem dX1_init_13 : decode cX1_init 13 = .ok (.putfield 11, 3) := by decide +kernel
theorem dX1_init_16 : decode cX1_init 16 = .ok (.aload_n 0, 1) := by decide +kernel
theorem dX1_init_17 : decode cX1_init 17 = .ok (.bipush 8, 2) := by decide +kernel
theorem dX1_init_19 : decode cX1_init 19 = .ok (.newarray .int, 2) := by decide +kernel
theorem dX1_init_21 : decode cX1_init 21 = .ok (.putfield 16, 3) := by decide +kernel
theorem dX1_init_24 : decode cX1_init 24 = .ok (.aload_n 0, 1) := by decide +kernel
theorem dX1_init_25 : decode cX1_init 25 = .ok (.aload_n 1, 1) := by decide +kernel
theorem dX1_init_26 : decode cX1_init 26 = .ok (.putfield 20, 3) := by decide +kernel
theorem dX1_init_29 : decode cX1_init 29 = .ok (.return_, 1) := by decide +kernel
theorem dX1_load_0 : decode cX1_load 0 = .ok (.aload_n 0, 1) := by decide +kernel
theorem dX1_load_1 : decode cX1_load 1 = .ok (.aload_n 1, 1) := by decide +kernel
theorem dX1_load_2 : decode cX1_load 2 = .ok (.getfield 24, 3) := by decide +kernel
theorem dX1_load_5 : decode cX1_load 5 = .ok (.putfield 30, 3) := by decide +kernel
theorem dX1_load_8 : decode cX1_load 8 = .ok (.aload_n 0, 1) := by decide +kernel
theorem dX1_load_9 : decode cX1_load 9 = .ok (.aload_n 1, 1) := by decide +kernel
theorem dX1_load_10 : decode cX1_load 10 = .ok (.getfield 33, 3) := by decide +kernel
theorem dX1_load_13 : decode cX1_load 13 = .ok (.putfield 36, 3) := by decide +kernel
theorem dX1_load_16 : decode cX1_load 16 = .ok (.iconst 0, 1) := by decide +kernel
theorem dX1_load_17 : decode cX1_load 17 = .ok (.istore_n 2, 1) := by decide +kernel
theorem dX1_load_18 : decode cX1_load 18 = .ok (.iload_n 2, 1) := by decide +kernel
theorem dX1_load_19 : decode cX1_load 19 = .ok (.aload_n 0, 1) := by decide +kernel
theorem dX1_load_20 : decode cX1_load 20 = .ok (.getfield 30, 3) := by decide +kernel
theorem dX1_load_23 : decode cX1_load 23 = .ok (.if_icmp .ge 33, 3) := by decide +kernel
theorem dX1_load_26 : decode cX1_load 26 = .ok (.aload_n 1, 1) := by decide +kernel
theorem dX1_load_27 : decode cX1_load 27 = .ok (.getfield 39, 3) := by decide +kernel
theorem dX1_load_30 : decode cX1_load 30 = .ok (.iload_n 2, 1) := by decide +kernel
theorem dX1_load_31 : decode cX1_load 31 = .ok (.aload_n 0, 1) := by decide +kernel
theorem dX1_load_32 : decode cX1_load 32 = .ok (.getfield 36, 3) := by decide +kernel
theorem dX1_load_35 : decode cX1_load 35 = .ok (.imul, 1) := by decide +kernel
theorem dX1_load_36 : decode cX1_load 36 = .ok (.aload_n 0, 1) := by decide +kernel
theorem dX1_load_37 : decode cX1_load 37 = .ok (.getfield 11, 3) := by decide +kernel
theorem dX1_load_40 : decode cX1_load 40 = .ok (.iload_n 2, 1) := by decide +kernel
theorem dX1_load_41 : decode cX1_load 41 = .ok (.aaload, 1) := by decide +kernel
theorem dX1_load_42 : decode cX1_load 42 = .ok (.iconst 0, 1) := by decide +kernel
theorem dX1_load_43 : decode cX1_load 43 = .ok (.aload_n 0, 1) := by decide +kernel
theorem dX1_load_44 : decode cX1_load 44 = .ok (.getfield 36, 3) := by decide +kernel
theorem dX1_load_47 : decode cX1_load 47 = .ok (.invokestatic 41, 3) := by decide +kernel
theorem dX1_load_50 : decode cX1_load 50 = .ok (.iinc 2 1, 3) := by decide +kernel
theorem dX1_load_53 : decode cX1_load 53 = .ok (.goto (-35), 3) := by decide +kernel
theorem dX1_load_56 : decode cX1_load 56 = .ok (.return_, 1) := by decide +kernel
theorem dX1_appendIdentity_0 : decode cX1_appendIdentity 0 = .ok (.iconst 0, 1) := by decide +kernel
theorem dX1_appendIdentity_1 : decode cX1_appendIdentity 1 = .ok (.istore_n 1, 1) := by decide +kernel
theorem dX1_appendIdentity_2 : decode cX1_appendIdentity 2 = .ok (.iload_n 1, 1) := by decide +kernel
theorem dX1_appendIdentity_3 : decode cX1_appendIdentity 3 = .ok (.aload_n 0, 1) := by decide +kernel
theorem dX1_appendIdentity_4 : decode cX1_appendIdentity 4 = .ok (.getfield 30, 3) := by decide +kernel
theorem dX1_appendIdentity_7 : decode cX1_appendIdentity 7 = .ok (.if_icmp .ge 48, 3) := by decide +kernel
theorem dX1_appendIdentity_10 : decode cX1_appendIdentity 10 = .ok (.iconst 0, 1) := by decide +kernel
theorem dX1_appendIdentity_11 : decode cX1_appendIdentity 11 = .ok (.istore_n 2, 1) := by decide +kernel
theorem dX1_appendIdentity_12 : decode cX1_appendIdentity 12 = .ok (.iload_n 2, 1) := by decide +kernel
theorem dX1_appendIdentity_13 : decode cX1_appendIdentity 13 = .ok (.aload_n 0, 1) := by decide +kernel
theorem dX1_appendIdentity_14 : decode cX1_appendIdentity 14 = .ok (.getfield 30, 3) := by decide +kernel
theorem dX1_appendIdentity_17 : decode cX1_appendIdentity 17 = .ok (.if_icmp .ge 32, 3) := by decide +kernel
theorem dX1_appendIdentity_20 : decode cX1_appendIdentity 20 = .ok (.aload_n 0, 1) := by decide +kernel
theorem dX1_appendIdentity_21 : decode cX1_appendIdentity 21 = .ok (.getfield 11, 3) := by decide +kernel
theorem dX1_appendIdentity_24 : decode cX1_appendIdentity 24 = .ok (.iload_n 1, 1) := by decide +kernel
theorem dX1_appendIdentity_25 : decode cX1_appendIdentity 25 = .ok (.aaload, 1) := by decide +kernel
theorem dX1_appendIdentity_26 : decode cX1_appendIdentity 26 = .ok (.aload_n 0, 1) := by decide +kernel
theorem dX1_appendIdentity_27 : decode cX1_appendIdentity 27 = .ok (.getfield 36, 3) := by decide +kernel
theorem dX1_appendIdentity_30 : decode cX1_appendIdentity 30 = .ok (.iload_n 2, 1) := by decide +kernel
theorem dX1_appendIdentity_31 : decode cX1_appendIdentity 31 = .ok (.iadd, 1) := by decide +kernel
theorem dX1_appendIdentity_32 : decode cX1_appendIdentity 32 = .ok (.iload_n 1, 1) := by decide +kernel
theorem dX1_appendIdentity_33 : decode cX1_appendIdentity 33 = .ok (.iload_n 2, 1) := by decide +kernel
theorem dX1_appendIdentity_34 : decode cX1_appendIdentity 34 = .ok (.if_icmp .ne 7, 3) := by decide +kernel
theorem dX1_appendIdentity_37 : decode cX1_appendIdentity 37 = .ok (.iconst 1, 1) := by decide +kernel
theorem dX1_appendIdentity_38 : decode cX1_appendIdentity 38 = .ok (.goto 4, 3) := by decide +kernel
theorem dX1_appendIdentity_41 : decode cX1_appendIdentity 41 = .ok (.iconst 0, 1) := by decide +kernel
theorem dX1_appendIdentity_42 : decode cX1_appendIdentity 42 = .ok (.iastore, 1) := by decide +kernel
theorem dX1_appendIdentity_43 : decode cX1_appendIdentity 43 = .ok (.iinc 2 1, 3) := by decide +kernel
theorem dX1_appendIdentity_46 : decode cX1_appendIdentity 46 = .ok (.goto (-34), 3) := by decide +kernel
theorem dX1_appendIdentity_49 : decode cX1_appendIdentity 49 = .ok (.iinc 1 1, 3) := by decide +kernel
theorem dX1_appendIdentity_52 : decode cX1_appendIdentity 52 = .ok (.goto (-50), 3) := by decide +kernel
theorem dX1_appendIdentity_55 : decode cX1_appendIdentity 55 = .ok (.aload_n 0, 1) := by decide +kernel
theorem dX1_appendIdentity_56 : decode cX1_appendIdentity 56 = .ok (.dup, 1) := by decide +kernel
theorem dX1_appendIdentity_57 : decode cX1_appendIdentity 57 = .ok (.getfield 36, 3) := by decide +kernel
theorem dX1_appendIdentity_60 : decode cX1_appendIdentity 60 = .ok (.aload_n 0, 1) := by decide +kernel
theorem dX1_appendIdentity_61 : decode cX1_appendIdentity 61 = .ok (.getfield 30, 3) := by decide +kernel
theorem dX1_appendIdentity_64 : decode cX1_appendIdentity 64 = .ok (.iadd, 1) := by decide +kernel
theorem dX1_appendIdentity_65 : decode cX1_appendIdentity 65 = .ok (.putfield 36, 3) := by decide +kernel
theorem dX1_appendIdentity_68 : decode cX1_appendIdentity 68 = .ok (.return_, 1) := by decide +kernel
theorem dX1_appendColumn_0 : decode cX1_appendColumn 0 = .ok (.iconst 0, 1) := by decide +kernel
theorem dX1_appendColumn_1 : decode cX1_appendColumn 1 = .ok (.istore_n 2, 1) := by decide +kernel
theorem dX1_appendColumn_2 : decode cX1_appendColumn 2 = .ok (.iload_n 2, 1) := by decide +kernel
theorem dX1_appendColumn_3 : decode cX1_appendColumn 3 = .ok (.aload_n 0, 1) := by decide +kernel
theorem dX1_appendColumn_4 : decode cX1_appendColumn 4 = .ok (.getfield 30, 3) := by decide +kernel
theorem dX1_appendColumn_7 : decode cX1_appendColumn 7 = .ok (.if_icmp .ge 23, 3) := by decide +kernel
theorem dX1_appendColumn_10 : decode cX1_appendColumn 10 = .ok (.aload_n 0, 1) := by decide +kernel
theorem dX1_appendColumn_11 : decode cX1_appendColumn 11 = .ok (.getfield 11, 3) := by decide +kernel
theorem dX1_appendColumn_14 : decode cX1_appendColumn 14 = .ok (.iload_n 2, 1) := by decide +kernel
theorem dX1_appendColumn_15 : decode cX1_appendColumn 15 = .ok (.aaload, 1) := by decide +kernel
theorem dX1_appendColumn_16 : decode cX1_appendColumn 16 = .ok (.aload_n 0, 1) := by decide +kernel
theorem dX1_appendColumn_17 : decode cX1_appendColumn 17 = .ok (.getfield 36, 3) := by decide +kernel
theorem dX1_appendColumn_20 : decode cX1_appendColumn 20 = .ok (.aload_n 1, 1) := by decide +kernel
theorem dX1_appendColumn_21 : decode cX1_appendColumn 21 = .ok (.iload_n 2, 1) := by decide +kernel
theorem dX1_appendColumn_22 : decode cX1_appendColumn 22 = .ok (.iaload, 1) := by decide +kernel
theorem dX1_appendColumn_23 : decode cX1_appendColumn 23 = .ok (.iastore, 1) := by decide +kernel
theorem dX1_appendColumn_24 : decode cX1_appendColumn 24 = .ok (.iinc 2 1, 3) := by decide +kernel
theorem dX1_appendColumn_27 : decode cX1_appendColumn 27 = .ok (.goto (-25), 3) := by decide +kernel
theorem dX1_appendColumn_30 : decode cX1_appendColumn 30 = .ok (.aload_n 0, 1) := by decide +kernel
theorem dX1_appendColumn_31 : decode cX1_appendColumn 31 = .ok (.dup, 1) := by decide +kernel
theorem dX1_appendColumn_32 : decode cX1_appendColumn 32 = .ok (.getfield 36, 3) := by decide +kernel
theorem dX1_appendColumn_35 : decode cX1_appendColumn 35 = .ok (.iconst 1, 1) := by decide +kernel
theorem dX1_appendColumn_36 : decode cX1_appendColumn 36 = .ok (.iadd, 1) := by decide +kernel
theorem dX1_appendColumn_37 : decode cX1_appendColumn 37 = .ok (.putfield 36, 3) := by decide +kernel
theorem dX1_appendColumn_40 : decode cX1_appendColumn 40 = .ok (.return_, 1) := by decide +kernel
theorem dX1_reduce_0 : decode cX1_reduce 0 = .ok (.aload_n 0, 1) := by decide +kernel
theorem dX1_reduce_1 : decode cX1_reduce 1 = .ok (.iconst 0, 1) := by decide +kernel
theorem dX1_reduce_2 : decode cX1_reduce 2 = .ok (.putfield 47, 3) := by decide +kernel
theorem dX1_reduce_5 : decode cX1_reduce 5 = .ok (.aload_n 0, 1) := by decide +kernel
theorem dX1_reduce_6 : decode cX1_reduce 6 = .ok (.iconst 1, 1) := by decide +kernel
theorem dX1_reduce_7 : decode cX1_reduce 7 = .ok (.putfield 50, 3) := by decide +kernel
theorem dX1_reduce_10 : decode cX1_reduce 10 = .ok (.iconst 0, 1) := by decide +kernel
theorem dX1_reduce_11 : decode cX1_reduce 11 = .ok (.istore_n 2, 1) := by decide +kernel
theorem dX1_reduce_12 : decode cX1_reduce 12 = .ok (.iload_n 2, 1) := by decide +kernel
theorem dX1_reduce_13 : decode cX1_reduce 13 = .ok (.iload_n 1, 1) := by decide +kernel
theorem dX1_reduce_14 : decode cX1_reduce 14 = .ok (.if_icmp .ge 87, 3) := by decide +kernel
theorem dX1_reduce_17 : decode cX1_reduce 17 = .ok (.aload_n 0, 1) := by decide +kernel
theorem dX1_reduce_18 : decode cX1_reduce 18 = .ok (.iload_n 2, 1) := by decide +kernel
theorem dX1_reduce_19 : decode cX1_reduce 19 = .ok (.invokevirtual 53, 3) := by decide +kernel
theorem dX1_reduce_22 : decode cX1_reduce 22 = .ok (.istore_n 3, 1) := by decide +kernel
theorem dX1_reduce_23 : decode cX1_reduce 23 = .ok (.aload_n 0, 1) := by decide +kernel
theorem dX1_reduce_24 : decode cX1_reduce 24 = .ok (.getfield 16, 3) := by decide +kernel
theorem dX1_reduce_27 : decode cX1_reduce 27 = .ok (.iload_n 2, 1) := by decide +kernel
theorem dX1_reduce_28 : decode cX1_reduce 28 = .ok (.iload_n 3, 1) := by decide +kernel
theorem dX1_reduce_29 : decode cX1_reduce 29 = .ok (.ifCond .ge 7, 3) := by decide +kernel
theorem dX1_reduce_32 : decode cX1_reduce 32 = .ok (.iconst (-1), 1) := by decide +kernel
theorem dX1_reduce_33 : decode cX1_reduce 33 = .ok (.goto 7, 3) := by decide +kernel
theorem dX1_reduce_36 : decode cX1_reduce 36 = .ok (.aload_n 0, 1) := by decide +kernel
theorem dX1_reduce_37 : decode cX1_reduce 37 = .ok (.getfield 47, 3) := by decide +kernel
theorem dX1_reduce_40 : decode cX1_reduce 40 = .ok (.iastore, 1) := by decide +kernel
theorem dX1_reduce_41 : decode cX1_reduce 41 = .ok (.iload_n 3, 1) := by decide +kernel
theorem dX1_reduce_42 : decode cX1_reduce 42 = .ok (.ifCond .lt 53, 3) := by decide +kernel
theorem dX1_reduce_45 : decode cX1_reduce 45 = .ok (.aload_n 0, 1) := by decide +kernel
theorem dX1_reduce_46 : decode cX1_reduce 46 = .ok (.iload_n 3, 1) := by decide +kernel
theorem dX1_reduce_47 : decode cX1_reduce 47 = .ok (.aload_n 0, 1) := by decide +kernel
theorem dX1_reduce_48 : decode cX1_reduce 48 = .ok (.getfield 47, 3) := by decide +kernel
theorem dX1_reduce_51 : decode cX1_reduce 51 = .ok (.invokevirtual 57, 3) := by decide +kernel
theorem dX1_reduce_54 : decode cX1_reduce 54 = .ok (.aload_n 0, 1) := by decide +kernel
theorem dX1_reduce_55 : decode cX1_reduce 55 = .ok (.aload_n 0, 1) := by decide +kernel
theorem dX1_reduce_56 : decode cX1_reduce 56 = .ok (.getfield 20, 3) := by decide +kernel
theorem dX1_reduce_59 : decode cX1_reduce 59 = .ok (.aload_n 0, 1) := by decide +kernel
theorem dX1_reduce_60 : decode cX1_reduce 60 = .ok (.getfield 50, 3) := by decide +kernel
theorem dX1_reduce_63 : decode cX1_reduce 63 = .ok (.aload_n 0, 1) := by decide +kernel
theorem dX1_reduce_64 : decode cX1_reduce 64 = .ok (.getfield 11, 3) := by decide +kernel
theorem dX1_reduce_67 : decode cX1_reduce 67 = .ok (.aload_n 0, 1) := by decide +kernel
theorem dX1_reduce_68 : decode cX1_reduce 68 = .ok (.getfield 47, 3) := by decide +kernel
theorem dX1_reduce_71 : decode cX1_reduce 71 = .ok (.aaload, 1) := by decide +kernel
theorem dX1_reduce_72 : decode cX1_reduce 72 = .ok (.iload_n 2, 1) := by decide +kernel
theorem dX1_reduce_73 : decode cX1_reduce 73 = .ok (.iaload, 1) := by decide +kernel
theorem dX1_reduce_74 : decode cX1_reduce 74 = .ok (.invokevirtual 61, 3) := by decide +kernel
theorem dX1_reduce_77 : decode cX1_reduce 77 = .ok (.putfield 50, 3) := by decide +kernel
theorem dX1_reduce_80 : decode cX1_reduce 80 = .ok (.aload_n 0, 1) := by decide +kernel
theorem dX1_reduce_81 : decode cX1_reduce 81 = .ok (.iload_n 2, 1) := by decide +kernel
theorem dX1_reduce_82 : decode cX1_reduce 82 = .ok (.invokevirtual 67, 3) := by decide +kernel
theorem dX1_reduce_85 : decode cX1_reduce 85 = .ok (.aload_n 0, 1) := by decide +kernel
theorem dX1_reduce_86 : decode cX1_reduce 86 = .ok (.dup, 1) := by decide +kernel
theorem dX1_reduce_87 : decode cX1_reduce 87 = .ok (.getfield 47, 3) := by decide +kernel
theorem dX1_reduce_90 : decode cX1_reduce 90 = .ok (.iconst 1, 1) := by decide +kernel
theorem dX1_reduce_91 : decode cX1_reduce 91 = .ok (.iadd, 1) := by decide +kernel
theorem dX1_reduce_92 : decode cX1_reduce 92 = .ok (.putfield 47, 3) := by decide +kernel
theorem dX1_reduce_95 : decode cX1_reduce 95 = .ok (.iinc 2 1, 3) := by decide +kernel
theorem dX1_reduce_98 : decode cX1_reduce 98 = .ok (.goto (-86), 3) := by decide +kernel
theorem dX1_reduce_101 : decode cX1_reduce 101 = .ok (.aload_n 0, 1) := by decide +kernel
theorem dX1_reduce_102 : decode cX1_reduce 102 = .ok (.getfield 47, 3) := by decide +kernel
theorem dX1_reduce_105 : decode cX1_reduce 105 = .ok (.ireturn, 1) := by decide +kernel
theorem dX1_rowWithMember_0 : decode cX1_rowWithMember 0 = .ok (.aload_n 0, 1) := by decide +kernel
theorem dX1_rowWithMember_1 : decode cX1_rowWithMember 1 = .ok (.getfield 47, 3) := by decide +kernel
theorem dX1_rowWithMember_4 : decode cX1_rowWithMember 4 = .ok (.istore_n 2, 1) := by decide +kernel
theorem dX1_rowWithMember_5 : decode cX1_rowWithMember 5 = .ok (.iload_n 2, 1) := by decide +kernel
theorem dX1_rowWithMember_6 : decode cX1_rowWithMember 6 = .ok (.aload_n 0, 1) := by decide +kernel
theorem dX1_rowWithMember_7 : decode cX1_rowWithMember 7 = .ok (.getfield 30, 3) := by decide +kernel
theorem dX1_rowWithMember_10 : decode cX1_rowWithMember 10 = .ok (.if_icmp .ge 22, 3) := by decide +kernel
theorem dX1_rowWithMember_13 : decode cX1_rowWithMember 13 = .ok (.aload_n 0, 1) := by decide +kernel
theorem dX1_rowWithMember_14 : decode cX1_rowWithMember 14 = .ok (.getfield 11, 3) := by decide +kernel
theorem dX1_rowWithMember_17 : decode cX1_rowWithMember 17 = .ok (.iload_n 2, 1) := by decide +kernel
theorem dX1_rowWithMember_18 : decode cX1_rowWithMember 18 = .ok (.aaload, 1) := by decide +kernel
theorem dX1_rowWithMember_19 : decode cX1_rowWithMember 19 = .ok (.iload_n 1, 1) := by decide +kernel
theorem dX1_rowWithMember_20 : decode cX1_rowWithMember 20 = .ok (.iaload, 1) := by decide +kernel
theorem dX1_rowWithMember_21 : decode cX1_rowWithMember 21 = .ok (.ifCond .eq 5, 3) := by decide +kernel
theorem dX1_rowWithMember_24 : decode cX1_rowWithMember 24 = .ok (.iload_n 2, 1) := by decide +kernel
theorem dX1_rowWithMember_25 : decode cX1_rowWithMember 25 = .ok (.ireturn, 1) := by decide +kernel
theorem dX1_rowWithMember_26 : decode cX1_rowWithMember 26 = .ok (.iinc 2 1, 3) := by decide +kernel
theorem dX1_rowWithMember_29 : decode cX1_rowWithMember 29 = .ok (.goto (-24), 3) := by decide +kernel
theorem dX1_rowWithMember_32 : decode cX1_rowWithMember 32 = .ok (.iconst (-1), 1) := by decide +kernel
theorem dX1_rowWithMember_33 : decode cX1_rowWithMember 33 = .ok (.ireturn, 1) := by decide +kernel
theorem dX1_exchange_0 : decode cX1_exchange 0 = .ok (.iconst 0, 1) := by decide +kernel
theorem dX1_exchange_1 : decode cX1_exchange 1 = .ok (.istore_n 3, 1) := by decide +kernel
theorem dX1_exchange_2 : decode cX1_exchange 2 = .ok (.iload_n 3, 1) := by decide +kernel
theorem dX1_exchange_3 : decode cX1_exchange 3 = .ok (.aload_n 0, 1) := by decide +kernel
theorem dX1_exchange_4 : decode cX1_exchange 4 = .ok (.getfield 36, 3) := by decide +kernel
theorem dX1_exchange_7 : decode cX1_exchange 7 = .ok (.if_icmp .ge 45, 3) := by decide +kernel
theorem dX1_exchange_10 : decode cX1_exchange 10 = .ok (.aload_n 0, 1) := by decide +kernel
theorem dX1_exchange_11 : decode cX1_exchange 11 = .ok (.getfield 11, 3) := by decide +kernel
theorem dX1_exchange_14 : decode cX1_exchange 14 = .ok (.iload_n 1, 1) := by decide +kernel
theorem dX1_exchange_15 : decode cX1_exchange 15 = .ok (.aaload, 1) := by decide +kernel
theorem dX1_exchange_16 : decode cX1_exchange 16 = .ok (.iload_n 3, 1) := by decide +kernel
theorem dX1_exchange_17 : decode cX1_exchange 17 = .ok (.iaload, 1) := by decide +kernel
theorem dX1_exchange_18 : decode cX1_exchange 18 = .ok (.istore 4, 2) := by decide +kernel
theorem dX1_exchange_20 : decode cX1_exchange 20 = .ok (.aload_n 0, 1) := by decide +kernel
theorem dX1_exchange_21 : decode cX1_exchange 21 = .ok (.getfield 11, 3) := by decide +kernel
theorem dX1_exchange_24 : decode cX1_exchange 24 = .ok (.iload_n 1, 1) := by decide +kernel
theorem dX1_exchange_25 : decode cX1_exchange 25 = .ok (.aaload, 1) := by decide +kernel
theorem dX1_exchange_26 : decode cX1_exchange 26 = .ok (.iload_n 3, 1) := by decide +kernel
theorem dX1_exchange_27 : decode cX1_exchange 27 = .ok (.aload_n 0, 1) := by decide +kernel
theorem dX1_exchange_28 : decode cX1_exchange 28 = .ok (.getfield 11, 3) := by decide +kernel
theorem dX1_exchange_31 : decode cX1_exchange 31 = .ok (.iload_n 2, 1) := by decide +kernel
theorem dX1_exchange_32 : decode cX1_exchange 32 = .ok (.aaload, 1) := by decide +kernel
theorem dX1_exchange_33 : decode cX1_exchange 33 = .ok (.iload_n 3, 1) := by decide +kernel
theorem dX1_exchange_34 : decode cX1_exchange 34 = .ok (.iaload, 1) := by decide +kernel
theorem dX1_exchange_35 : decode cX1_exchange 35 = .ok (.iastore, 1) := by decide +kernel
theorem dX1_exchange_36 : decode cX1_exchange 36 = .ok (.aload_n 0, 1) := by decide +kernel
theorem dX1_exchange_37 : decode cX1_exchange 37 = .ok (.getfield 11, 3) := by decide +kernel
theorem dX1_exchange_40 : decode cX1_exchange 40 = .ok (.iload_n 2, 1) := by decide +kernel
theorem dX1_exchange_41 : decode cX1_exchange 41 = .ok (.aaload, 1) := by decide +kernel
theorem dX1_exchange_42 : decode cX1_exchange 42 = .ok (.iload_n 3, 1) := by decide +kernel
theorem dX1_exchange_43 : decode cX1_exchange 43 = .ok (.iload 4, 2) := by decide +kernel
theorem dX1_exchange_45 : decode cX1_exchange 45 = .ok (.iastore, 1) := by decide +kernel
theorem dX1_exchange_46 : decode cX1_exchange 46 = .ok (.iinc 3 1, 3) := by decide +kernel
theorem dX1_exchange_49 : decode cX1_exchange 49 = .ok (.goto (-47), 3) := by decide +kernel
theorem dX1_exchange_52 : decode cX1_exchange 52 = .ok (.return_, 1) := by decide +kernel
theorem dX1_free_0 : decode cX1_free 0 = .ok (.aload_n 0, 1) := by decide +kernel
theorem dX1_free_1 : decode cX1_free 1 = .ok (.getfield 11, 3) := by decide +kernel
theorem dX1_free_4 : decode cX1_free 4 = .ok (.aload_n 0, 1) := by decide +kernel
theorem dX1_free_5 : decode cX1_free 5 = .ok (.getfield 47, 3) := by decide +kernel
theorem dX1_free_8 : decode cX1_free 8 = .ok (.aaload, 1) := by decide +kernel
theorem dX1_free_9 : decode cX1_free 9 = .ok (.astore_n 2, 1) := by decide +kernel
theorem dX1_free_10 : decode cX1_free 10 = .ok (.aload_n 0, 1) := by decide +kernel
theorem dX1_free_11 : decode cX1_free 11 = .ok (.getfield 20, 3) := by decide +kernel
theorem dX1_free_14 : decode cX1_free 14 = .ok (.aload_n 2, 1) := by decide +kernel
theorem dX1_free_15 : decode cX1_free 15 = .ok (.aload_n 0, 1) := by decide +kernel
theorem dX1_free_16 : decode cX1_free 16 = .ok (.getfield 36, 3) := by decide +kernel
theorem dX1_free_19 : decode cX1_free 19 = .ok (.aload_n 0, 1) := by decide +kernel
theorem dX1_free_20 : decode cX1_free 20 = .ok (.getfield 20, 3) := by decide +kernel
theorem dX1_free_23 : decode cX1_free 23 = .ok (.aload_n 2, 1) := by decide +kernel
theorem dX1_free_24 : decode cX1_free 24 = .ok (.iload_n 1, 1) := by decide +kernel
theorem dX1_free_25 : decode cX1_free 25 = .ok (.iaload, 1) := by decide +kernel
theorem dX1_free_26 : decode cX1_free 26 = .ok (.invokevirtual 71, 3) := by decide +kernel
theorem dX1_free_29 : decode cX1_free 29 = .ok (.invokevirtual 74, 3) := by decide +kernel
theorem dX1_free_32 : decode cX1_free 32 = .ok (.iconst 0, 1) := by decide +kernel
theorem dX1_free_33 : decode cX1_free 33 = .ok (.istore_n 3, 1) := by decide +kernel
theorem dX1_free_34 : decode cX1_free 34 = .ok (.iload_n 3, 1) := by decide +kernel
theorem dX1_free_35 : decode cX1_free 35 = .ok (.aload_n 0, 1) := by decide +kernel
theorem dX1_free_36 : decode cX1_free 36 = .ok (.getfield 30, 3) := by decide +kernel
theorem dX1_free_39 : decode cX1_free 39 = .ok (.if_icmp .ge 45, 3) := by decide +kernel
theorem dX1_free_42 : decode cX1_free 42 = .ok (.iload_n 3, 1) := by decide +kernel
theorem dX1_free_43 : decode cX1_free 43 = .ok (.aload_n 0, 1) := by decide +kernel
theorem dX1_free_44 : decode cX1_free 44 = .ok (.getfield 47, 3) := by decide +kernel
theorem dX1_free_47 : decode cX1_free 47 = .ok (.if_icmp .eq 31, 3) := by decide +kernel
theorem dX1_free_50 : decode cX1_free 50 = .ok (.aload_n 0, 1) := by decide +kernel
theorem dX1_free_51 : decode cX1_free 51 = .ok (.getfield 20, 3) := by decide +kernel
theorem dX1_free_54 : decode cX1_free 54 = .ok (.aload_n 0, 1) := by decide +kernel
theorem dX1_free_55 : decode cX1_free 55 = .ok (.getfield 11, 3) := by decide +kernel
theorem dX1_free_58 : decode cX1_free 58 = .ok (.iload_n 3, 1) := by decide +kernel
theorem dX1_free_59 : decode cX1_free 59 = .ok (.aaload, 1) := by decide +kernel
theorem dX1_free_60 : decode cX1_free 60 = .ok (.iconst 0, 1) := by decide +kernel
theorem dX1_free_61 : decode cX1_free 61 = .ok (.aload_n 2, 1) := by decide +kernel
theorem dX1_free_62 : decode cX1_free 62 = .ok (.iconst 0, 1) := by decide +kernel
theorem dX1_free_63 : decode cX1_free 63 = .ok (.aload_n 0, 1) := by decide +kernel
theorem dX1_free_64 : decode cX1_free 64 = .ok (.getfield 36, 3) := by decide +kernel
theorem dX1_free_67 : decode cX1_free 67 = .ok (.aload_n 0, 1) := by decide +kernel
theorem dX1_free_68 : decode cX1_free 68 = .ok (.getfield 11, 3) := by decide +kernel
theorem dX1_free_71 : decode cX1_free 71 = .ok (.iload_n 3, 1) := by decide +kernel
theorem dX1_free_72 : decode cX1_free 72 = .ok (.aaload, 1) := by decide +kernel
theorem dX1_free_73 : decode cX1_free 73 = .ok (.iload_n 1, 1) := by decide +kernel
theorem dX1_free_74 : decode cX1_free 74 = .ok (.iaload, 1) := by decide +kernel
theorem dX1_free_75 : decode cX1_free 75 = .ok (.invokevirtual 78, 3) := by decide +kernel
theorem dX1_free_78 : decode cX1_free 78 = .ok (.iinc 3 1, 3) := by decide +kernel
theorem dX1_free_81 : decode cX1_free 81 = .ok (.goto (-47), 3) := by decide +kernel
theorem dX1_free_84 : decode cX1_free 84 = .ok (.return_, 1) := by decide +kernel
theorem dX1_leavesOver_0 : decode cX1_leavesOver 0 = .ok (.aload_n 0, 1) := by decide +kernel
theorem dX1_leavesOver_1 : decode cX1_leavesOver 1 = .ok (.getfield 47, 3) := by decide +kernel
theorem dX1_leavesOver_4 : decode cX1_leavesOver 4 = .ok (.istore_n 2, 1) := by decide +kernel
theorem dX1_leavesOver_5 : decode cX1_leavesOver 5 = .ok (.iload_n 2, 1) := by decide +kernel
theorem dX1_leavesOver_6 : decode cX1_leavesOver 6 = .ok (.aload_n 0, 1) := by decide +kernel
theorem dX1_leavesOver_7 : decode cX1_leavesOver 7 = .ok (.getfield 30, 3) := by decide +kernel
theorem dX1_leavesOver_10 : decode cX1_leavesOver 10 = .ok (.if_icmp .ge 22, 3) := by decide +kernel
theorem dX1_leavesOver_13 : decode cX1_leavesOver 13 = .ok (.aload_n 0, 1) := by decide +kernel
theorem dX1_leavesOver_14 : decode cX1_leavesOver 14 = .ok (.getfield 11, 3) := by decide +kernel
theorem dX1_leavesOver_17 : decode cX1_leavesOver 17 = .ok (.iload_n 2, 1) := by decide +kernel
theorem dX1_leavesOver_18 : decode cX1_leavesOver 18 = .ok (.aaload, 1) := by decide +kernel
theorem dX1_leavesOver_19 : decode cX1_leavesOver 19 = .ok (.iload_n 1, 1) := by decide +kernel
theorem dX1_leavesOver_20 : decode cX1_leavesOver 20 = .ok (.iaload, 1) := by decide +kernel
theorem dX1_leavesOver_21 : decode cX1_leavesOver 21 = .ok (.ifCond .eq 5, 3) := by decide +kernel
theorem dX1_leavesOver_24 : decode cX1_leavesOver 24 = .ok (.iconst 1, 1) := by decide +kernel
theorem dX1_leavesOver_25 : decode cX1_leavesOver 25 = .ok (.ireturn, 1) := by decide +kernel
theorem dX1_leavesOver_26 : decode cX1_leavesOver 26 = .ok (.iinc 2 1, 3) := by decide +kernel
theorem dX1_leavesOver_29 : decode cX1_leavesOver 29 = .ok (.goto (-24), 3) := by decide +kernel
theorem dX1_leavesOver_32 : decode cX1_leavesOver 32 = .ok (.iconst 0, 1) := by decide +kernel
theorem dX1_leavesOver_33 : decode cX1_leavesOver 33 = .ok (.ireturn, 1) := by decide +kernel
theorem dX1_solution_0 : decode cX1_solution 0 = .ok (.aload_n 0, 1) := by decide +kernel
theorem dX1_solution_1 : decode cX1_solution 1 = .ok (.getfield 16, 3) := by decide +kernel
theorem dX1_solution_4 : decode cX1_solution 4 = .ok (.iload_n 1, 1) := by decide +kernel
theorem dX1_solution_5 : decode cX1_solution 5 = .ok (.iaload, 1) := by decide +kernel
theorem dX1_solution_6 : decode cX1_solution 6 = .ok (.istore_n 3, 1) := by decide +kernel
theorem dX1_solution_7 : decode cX1_solution 7 = .ok (.iload_n 3, 1) := by decide +kernel
theorem dX1_solution_8 : decode cX1_solution 8 = .ok (.ifCond .ge 7, 3) := by decide +kernel
theorem dX1_solution_11 : decode cX1_solution 11 = .ok (.iconst 0, 1) := by decide +kernel
theorem dX1_solution_12 : decode cX1_solution 12 = .ok (.goto 11, 3) := by decide +kernel
theorem dX1_solution_15 : decode cX1_solution 15 = .ok (.aload_n 0, 1) := by decide +kernel
theorem dX1_solution_16 : decode cX1_solution 16 = .ok (.getfield 11, 3) := by decide +kernel
theorem dX1_solution_19 : decode cX1_solution 19 = .ok (.iload_n 3, 1) := by decide +kernel
theorem dX1_solution_20 : decode cX1_solution 20 = .ok (.aaload, 1) := by decide +kernel
theorem dX1_solution_21 : decode cX1_solution 21 = .ok (.iload_n 2, 1) := by decide +kernel
theorem dX1_solution_22 : decode cX1_solution 22 = .ok (.iaload, 1) := by decide +kernel
theorem dX1_solution_23 : decode cX1_solution 23 = .ok (.ireturn, 1) := by decide +kernel
theorem dX1_copyAppended_0 : decode cX1_copyAppended 0 = .ok (.iconst 0, 1) := by decide +kernel
theorem dX1_copyAppended_1 : decode cX1_copyAppended 1 = .ok (.istore_n 2, 1) := by decide +kernel
theorem dX1_copyAppended_2 : decode cX1_copyAppended 2 = .ok (.iload_n 2, 1) := by decide +kernel
theorem dX1_copyAppended_3 : decode cX1_copyAppended 3 = .ok (.aload_n 1, 1) := by decide +kernel
theorem dX1_copyAppended_4 : decode cX1_copyAppended 4 = .ok (.getfield 24, 3) := by decide +kernel
theorem dX1_copyAppended_7 : decode cX1_copyAppended 7 = .ok (.if_icmp .ge 36, 3) := by decide +kernel
theorem dX1_copyAppended_10 : decode cX1_copyAppended 10 = .ok (.aload_n 0, 1) := by decide +kernel
theorem dX1_copyAppended_11 : decode cX1_copyAppended 11 = .ok (.getfield 11, 3) := by decide +kernel
theorem dX1_copyAppended_14 : decode cX1_copyAppended 14 = .ok (.iload_n 2, 1) := by decide +kernel
theorem dX1_copyAppended_15 : decode cX1_copyAppended 15 = .ok (.aaload, 1) := by decide +kernel
theorem dX1_copyAppended_16 : decode cX1_copyAppended 16 = .ok (.aload_n 1, 1) := by decide +kernel
theorem dX1_copyAppended_17 : decode cX1_copyAppended 17 = .ok (.getfield 33, 3) := by decide +kernel
theorem dX1_copyAppended_20 : decode cX1_copyAppended 20 = .ok (.aload_n 1, 1) := by decide +kernel
theorem dX1_copyAppended_21 : decode cX1_copyAppended 21 = .ok (.getfield 39, 3) := by decide +kernel
theorem dX1_copyAppended_24 : decode cX1_copyAppended 24 = .ok (.iload_n 2, 1) := by decide +kernel
theorem dX1_copyAppended_25 : decode cX1_copyAppended 25 = .ok (.aload_n 1, 1) := by decide +kernel
theorem dX1_copyAppended_26 : decode cX1_copyAppended 26 = .ok (.getfield 33, 3) := by decide +kernel
theorem dX1_copyAppended_29 : decode cX1_copyAppended 29 = .ok (.imul, 1) := by decide +kernel
theorem dX1_copyAppended_30 : decode cX1_copyAppended 30 = .ok (.aload_n 1, 1) := by decide +kernel
theorem dX1_copyAppended_31 : decode cX1_copyAppended 31 = .ok (.getfield 33, 3) := by decide +kernel
theorem dX1_copyAppended_34 : decode cX1_copyAppended 34 = .ok (.invokestatic 41, 3) := by decide +kernel
theorem dX1_copyAppended_37 : decode cX1_copyAppended 37 = .ok (.iinc 2 1, 3) := by decide +kernel
theorem dX1_copyAppended_40 : decode cX1_copyAppended 40 = .ok (.goto (-38), 3) := by decide +kernel
theorem dX1_copyAppended_43 : decode cX1_copyAppended 43 = .ok (.return_, 1) := by decide +kernel
theorem dX2_init_0 : decode cX2_init 0 = .ok (.aload_n 0, 1) := by decide +kernel
theorem dX2_init_1 : decode cX2_init 1 = .ok (.invokespecial 3, 3) := by decide +kernel
theorem dX2_init_4 : decode cX2_init 4 = .ok (.aload_n 0, 1) := by decide +kernel
theorem dX2_init_5 : decode cX2_init 5 = .ok (.new 9, 3) := by decide +kernel
theorem dX2_init_8 : decode cX2_init 8 = .ok (.dup, 1) := by decide +kernel
theorem dX2_init_9 : decode cX2_init 9 = .ok (.sipush 129, 3) := by decide +kernel
theorem dX2_init_12 : decode cX2_init 12 = .ok (.invokespecial 11, 3) := by decide +kernel
theorem dX2_init_15 : decode cX2_init 15 = .ok (.putfield 14, 3) := by decide +kernel
theorem dX2_init_18 : decode cX2_init 18 = .ok (.aload_n 0, 1) := by decide +kernel
theorem dX2_init_19 : decode cX2_init 19 = .ok (.new 9, 3) := by decide +kernel
theorem dX2_init_22 : decode cX2_init 22 = .ok (.dup, 1) := by decide +kernel
theorem dX2_init_23 : decode cX2_init 23 = .ok (.sipush 129, 3) := by decide +kernel
theorem dX2_init_26 : decode cX2_init 26 = .ok (.invokespecial 11, 3) := by decide +kernel
theorem dX2_init_29 : decode cX2_init 29 = .ok (.putfield 20, 3) := by decide +kernel
theorem dX2_init_32 : decode cX2_init 32 = .ok (.aload_n 0, 1) := by decide +kernel
theorem dX2_init_33 : decode cX2_init 33 = .ok (.new 9, 3) := by decide +kernel
theorem dX2_init_36 : decode cX2_init 36 = .ok (.dup, 1) := by decide +kernel
theorem dX2_init_37 : decode cX2_init 37 = .ok (.sipush 129, 3) := by decide +kernel
theorem dX2_init_40 : decode cX2_init 40 = .ok (.invokespecial 11, 3) := by decide +kernel
theorem dX2_init_43 : decode cX2_init 43 = .ok (.putfield 23, 3) := by decide +kernel
theorem dX2_init_46 : decode cX2_init 46 = .ok (.aload_n 0, 1) := by decide +kernel
theorem dX2_init_47 : decode cX2_init 47 = .ok (.new 9, 3) := by decide +kernel
theorem dX2_init_50 : decode cX2_init 50 = .ok (.dup, 1) := by decide +kernel
theorem dX2_init_51 : decode cX2_init 51 = .ok (.sipush 129, 3) := by decide +kernel
theorem dX2_init_54 : decode cX2_init 54 = .ok (.invokespecial 11, 3) := by decide +kernel
theorem dX2_init_57 : decode cX2_init 57 = .ok (.putfield 26, 3) := by decide +kernel
theorem dX2_init_60 : decode cX2_init 60 = .ok (.aload_n 0, 1) := by decide +kernel
theorem dX2_init_61 : decode cX2_init 61 = .ok (.aload_n 1, 1) := by decide +kernel
theorem dX2_init_62 : decode cX2_init 62 = .ok (.putfield 29, 3) := by decide +kernel
theorem dX2_init_65 : decode cX2_init 65 = .ok (.aload_n 0, 1) := by decide +kernel
theorem dX2_init_66 : decode cX2_init 66 = .ok (.aload_n 2, 1) := by decide +kernel
theorem dX2_init_67 : decode cX2_init 67 = .ok (.putfield 33, 3) := by decide +kernel
theorem dX2_init_70 : decode cX2_init 70 = .ok (.return_, 1) := by decide +kernel
theorem dX2_count_0 : decode cX2_count 0 = .ok (.aload_n 0, 1) := by decide +kernel
theorem dX2_count_1 : decode cX2_count 1 = .ok (.getfield 14, 3) := by decide +kernel
theorem dX2_count_4 : decode cX2_count 4 = .ok (.aload_n 1, 1) := by decide +kernel
theorem dX2_count_5 : decode cX2_count 5 = .ok (.invokevirtual 37, 3) := by decide +kernel
theorem dX2_count_8 : decode cX2_count 8 = .ok (.aload_n 0, 1) := by decide +kernel
theorem dX2_count_9 : decode cX2_count 9 = .ok (.getfield 20, 3) := by decide +kernel
theorem dX2_count_12 : decode cX2_count 12 = .ok (.invokevirtual 41, 3) := by decide +kernel
theorem dX2_count_15 : decode cX2_count 15 = .ok (.aload_n 0, 1) := by decide +kernel
theorem dX2_count_16 : decode cX2_count 16 = .ok (.getfield 33, 3) := by decide +kernel
theorem dX2_count_19 : decode cX2_count 19 = .ok (.aload_n 0, 1) := by decide +kernel
theorem dX2_count_20 : decode cX2_count 20 = .ok (.getfield 20, 3) := by decide +kernel
theorem dX2_count_23 : decode cX2_count 23 = .ok (.aload_n 0, 1) := by decide +kernel
theorem dX2_count_24 : decode cX2_count 24 = .ok (.getfield 14, 3) := by decide +kernel
theorem dX2_count_27 : decode cX2_count 27 = .ok (.invokevirtual 44, 3) := by decide +kernel
theorem dX2_count_30 : decode cX2_count 30 = .ok (.iconst 1, 1) := by decide +kernel
theorem dX2_count_31 : decode cX2_count 31 = .ok (.istore_n 3, 1) := by decide +kernel
theorem dX2_count_32 : decode cX2_count 32 = .ok (.iconst 2, 1) := by decide +kernel
theorem dX2_count_33 : decode cX2_count 33 = .ok (.iload_n 3, 1) := by decide +kernel
theorem dX2_count_34 : decode cX2_count 34 = .ok (.imul, 1) := by decide +kernel
theorem dX2_count_35 : decode cX2_count 35 = .ok (.aload_n 0, 1) := by decide +kernel
theorem dX2_count_36 : decode cX2_count 36 = .ok (.getfield 14, 3) := by decide +kernel
theorem dX2_count_39 : decode cX2_count 39 = .ok (.getfield 50, 3) := by decide +kernel
theorem dX2_count_42 : decode cX2_count 42 = .ok (.if_icmp .gt 68, 3) := by decide +kernel
theorem dX2_count_45 : decode cX2_count 45 = .ok (.iconst 0, 1) := by decide +kernel
theorem dX2_count_46 : decode cX2_count 46 = .ok (.istore 4, 2) := by decide +kernel
theorem dX2_count_48 : decode cX2_count 48 = .ok (.iload 4, 2) := by decide +kernel
theorem dX2_count_50 : decode cX2_count 50 = .ok (.aload_n 0, 1) := by decide +kernel
theorem dX2_count_51 : decode cX2_count 51 = .ok (.getfield 29, 3) := by decide +kernel
theorem dX2_count_54 : decode cX2_count 54 = .ok (.getfield 54, 3) := by decide +kernel
theorem dX2_count_57 : decode cX2_count 57 = .ok (.if_icmp .ge 24, 3) := by decide +kernel
theorem dX2_count_60 : decode cX2_count 60 = .ok (.aload_n 0, 1) := by decide +kernel
theorem dX2_count_61 : decode cX2_count 61 = .ok (.getfield 33, 3) := by decide +kernel
theorem dX2_count_64 : decode cX2_count 64 = .ok (.aload_n 0, 1) := by decide +kernel
theorem dX2_count_65 : decode cX2_count 65 = .ok (.getfield 20, 3) := by decide +kernel
theorem dX2_count_68 : decode cX2_count 68 = .ok (.aload_n 0, 1) := by decide +kernel
theorem dX2_count_69 : decode cX2_count 69 = .ok (.getfield 14, 3) := by decide +kernel
theorem dX2_count_72 : decode cX2_count 72 = .ok (.invokevirtual 59, 3) := by decide +kernel
theorem dX2_count_75 : decode cX2_count 75 = .ok (.iinc 4 1, 3) := by decide +kernel
theorem dX2_count_78 : decode cX2_count 78 = .ok (.goto (-30), 3) := by decide +kernel
theorem dX2_count_81 : decode cX2_count 81 = .ok (.aload_n 2, 1) := by decide +kernel
theorem dX2_count_82 : decode cX2_count 82 = .ok (.iload_n 3, 1) := by decide +kernel
theorem dX2_count_83 : decode cX2_count 83 = .ok (.aload_n 0, 1) := by decide +kernel
theorem dX2_count_84 : decode cX2_count 84 = .ok (.iload_n 3, 1) := by decide +kernel
theorem dX2_count_85 : decode cX2_count 85 = .ok (.invokevirtual 62, 3) := by decide +kernel
theorem dX2_count_88 : decode cX2_count 88 = .ok (.iastore, 1) := by decide +kernel
theorem dX2_count_89 : decode cX2_count 89 = .ok (.aload_n 0, 1) := by decide +kernel
theorem dX2_count_90 : decode cX2_count 90 = .ok (.getfield 33, 3) := by decide +kernel
theorem dX2_count_93 : decode cX2_count 93 = .ok (.aload_n 0, 1) := by decide +kernel
theorem dX2_count_94 : decode cX2_count 94 = .ok (.getfield 20, 3) := by decide +kernel
theorem dX2_count_97 : decode cX2_count 97 = .ok (.aload_n 0, 1) := by decide +kernel
theorem dX2_count_98 : decode cX2_count 98 = .ok (.getfield 14, 3) := by decide +kernel
theorem dX2_count_101 : decode cX2_count 101 = .ok (.invokevirtual 44, 3) := by decide +kernel
theorem dX2_count_104 : decode cX2_count 104 = .ok (.iinc 3 1, 3) := by decide +kernel
theorem dX2_count_107 : decode cX2_count 107 = .ok (.goto (-75), 3) := by decide +kernel
theorem dX2_count_110 : decode cX2_count 110 = .ok (.aload_n 0, 1) := by decide +kernel
theorem dX2_count_111 : decode cX2_count 111 = .ok (.getfield 14, 3) := by decide +kernel
theorem dX2_count_114 : decode cX2_count 114 = .ok (.getfield 50, 3) := by decide +kernel
theorem dX2_count_117 : decode cX2_count 117 = .ok (.ifCond .le 13, 3) := by decide +kernel
theorem dX2_count_120 : decode cX2_count 120 = .ok (.aload_n 2, 1) := by decide +kernel
theorem dX2_count_121 : decode cX2_count 121 = .ok (.aload_n 0, 1) := by decide +kernel
theorem dX2_count_122 : decode cX2_count 122 = .ok (.getfield 14, 3) := by decide +kernel
theorem dX2_count_125 : decode cX2_count 125 = .ok (.getfield 50, 3) := by decide +kernel
theorem dX2_count_128 : decode cX2_count 128 = .ok (.iconst 1, 1) := by decide +kernel
theorem dX2_count_129 : decode cX2_count 129 = .ok (.iastore, 1) := by decide +kernel
theorem dX2_count_130 : decode cX2_count 130 = .ok (.return_, 1) := by decide +kernel
theorem dX2_takeParts_0 : decode cX2_takeParts 0 = .ok (.aload_n 0, 1) := by decide +kernel
theorem dX2_takeParts_1 : decode cX2_takeParts 1 = .ok (.getfield 26, 3) := by decide +kernel
theorem dX2_takeParts_4 : decode cX2_takeParts 4 = .ok (.invokevirtual 41, 3) := by decide +kernel
theorem dX2_takeParts_7 : decode cX2_takeParts 7 = .ok (.aload_n 0, 1) := by decide +kernel
theorem dX2_takeParts_8 : decode cX2_takeParts 8 = .ok (.getfield 26, 3) := by decide +kernel
theorem dX2_takeParts_11 : decode cX2_takeParts 11 = .ok (.aload_n 0, 1) := by decide +kernel
theorem dX2_takeParts_12 : decode cX2_takeParts 12 = .ok (.getfield 29, 3) := by decide +kernel
theorem dX2_takeParts_15 : decode cX2_takeParts 15 = .ok (.aload_n 0, 1) := by decide +kernel
theorem dX2_takeParts_16 : decode cX2_takeParts 16 = .ok (.getfield 20, 3) := by decide +kernel
theorem dX2_takeParts_19 : decode cX2_takeParts 19 = .ok (.iconst 1, 1) := by decide +kernel
theorem dX2_takeParts_20 : decode cX2_takeParts 20 = .ok (.invokevirtual 66, 3) := by decide +kernel
theorem dX2_takeParts_23 : decode cX2_takeParts 23 = .ok (.aload_n 0, 1) := by decide +kernel
theorem dX2_takeParts_24 : decode cX2_takeParts 24 = .ok (.getfield 23, 3) := by decide +kernel
theorem dX2_takeParts_27 : decode cX2_takeParts 27 = .ok (.aload_n 0, 1) := by decide +kernel
theorem dX2_takeParts_28 : decode cX2_takeParts 28 = .ok (.getfield 14, 3) := by decide +kernel
theorem dX2_takeParts_31 : decode cX2_takeParts 31 = .ok (.invokevirtual 37, 3) := by decide +kernel
theorem dX2_takeParts_34 : decode cX2_takeParts 34 = .ok (.aload_n 0, 1) := by decide +kernel
theorem dX2_takeParts_35 : decode cX2_takeParts 35 = .ok (.getfield 33, 3) := by decide +kernel
theorem dX2_takeParts_38 : decode cX2_takeParts 38 = .ok (.aload_n 0, 1) := by decide +kernel
theorem dX2_takeParts_39 : decode cX2_takeParts 39 = .ok (.getfield 23, 3) := by decide +kernel
theorem dX2_takeParts_42 : decode cX2_takeParts 42 = .ok (.aload_n 0, 1) := by decide +kernel
theorem dX2_takeParts_43 : decode cX2_takeParts 43 = .ok (.getfield 26, 3) := by decide +kernel
theorem dX2_takeParts_46 : decode cX2_takeParts 46 = .ok (.invokevirtual 70, 3) := by decide +kernel
theorem dX2_takeParts_49 : decode cX2_takeParts 49 = .ok (.iconst 0, 1) := by decide +kernel
theorem dX2_takeParts_50 : decode cX2_takeParts 50 = .ok (.istore_n 2, 1) := by decide +kernel
theorem dX2_takeParts_51 : decode cX2_takeParts 51 = .ok (.iconst 0, 1) := by decide +kernel
theorem dX2_takeParts_52 : decode cX2_takeParts 52 = .ok (.istore_n 3, 1) := by decide +kernel
theorem dX2_takeParts_53 : decode cX2_takeParts 53 = .ok (.iload_n 3, 1) := by decide +kernel
theorem dX2_takeParts_54 : decode cX2_takeParts 54 = .ok (.bipush 64, 2) := by decide +kernel
theorem dX2_takeParts_56 : decode cX2_takeParts 56 = .ok (.if_icmp .ge 72, 3) := by decide +kernel
theorem dX2_takeParts_59 : decode cX2_takeParts 59 = .ok (.aload_n 0, 1) := by decide +kernel
theorem dX2_takeParts_60 : decode cX2_takeParts 60 = .ok (.getfield 23, 3) := by decide +kernel
theorem dX2_takeParts_63 : decode cX2_takeParts 63 = .ok (.getfield 50, 3) := by decide +kernel
theorem dX2_takeParts_66 : decode cX2_takeParts 66 = .ok (.ifCond .le 62, 3) := by decide +kernel
theorem dX2_takeParts_69 : decode cX2_takeParts 69 = .ok (.iload_n 2, 1) := by decide +kernel
theorem dX2_takeParts_70 : decode cX2_takeParts 70 = .ok (.aload_n 0, 1) := by decide +kernel
theorem dX2_takeParts_71 : decode cX2_takeParts 71 = .ok (.getfield 23, 3) := by decide +kernel
theorem dX2_takeParts_74 : decode cX2_takeParts 74 = .ok (.getfield 50, 3) := by decide +kernel
theorem dX2_takeParts_77 : decode cX2_takeParts 77 = .ok (.iload_n 1, 1) := by decide +kernel
theorem dX2_takeParts_78 : decode cX2_takeParts 78 = .ok (.idiv, 1) := by decide +kernel
theorem dX2_takeParts_79 : decode cX2_takeParts 79 = .ok (.iadd, 1) := by decide +kernel
theorem dX2_takeParts_80 : decode cX2_takeParts 80 = .ok (.istore_n 2, 1) := by decide +kernel
theorem dX2_takeParts_81 : decode cX2_takeParts 81 = .ok (.aload_n 0, 1) := by decide +kernel
theorem dX2_takeParts_82 : decode cX2_takeParts 82 = .ok (.getfield 33, 3) := by decide +kernel
theorem dX2_takeParts_85 : decode cX2_takeParts 85 = .ok (.aload_n 0, 1) := by decide +kernel
theorem dX2_takeParts_86 : decode cX2_takeParts 86 = .ok (.getfield 14, 3) := by decide +kernel
theorem dX2_takeParts_89 : decode cX2_takeParts 89 = .ok (.aload_n 0, 1) := by decide +kernel
theorem dX2_takeParts_90 : decode cX2_takeParts 90 = .ok (.getfield 23, 3) := by decide +kernel
theorem dX2_takeParts_93 : decode cX2_takeParts 93 = .ok (.invokevirtual 73, 3) := by decide +kernel
theorem dX2_takeParts_96 : decode cX2_takeParts 96 = .ok (.aload_n 0, 1) := by decide +kernel
theorem dX2_takeParts_97 : decode cX2_takeParts 97 = .ok (.getfield 26, 3) := by decide +kernel
theorem dX2_takeParts_100 : decode cX2_takeParts 100 = .ok (.aload_n 0, 1) := by decide +kernel
theorem dX2_takeParts_101 : decode cX2_takeParts 101 = .ok (.getfield 14, 3) := by decide +kernel
theorem dX2_takeParts_104 : decode cX2_takeParts 104 = .ok (.invokevirtual 37, 3) := by decide +kernel
theorem dX2_takeParts_107 : decode cX2_takeParts 107 = .ok (.aload_n 0, 1) := by decide +kernel
theorem dX2_takeParts_108 : decode cX2_takeParts 108 = .ok (.getfield 33, 3) := by decide +kernel
theorem dX2_takeParts_111 : decode cX2_takeParts 111 = .ok (.aload_n 0, 1) := by decide +kernel
theorem dX2_takeParts_112 : decode cX2_takeParts 112 = .ok (.getfield 23, 3) := by decide +kernel
theorem dX2_takeParts_115 : decode cX2_takeParts 115 = .ok (.aload_n 0, 1) := by decide +kernel
theorem dX2_takeParts_116 : decode cX2_takeParts 116 = .ok (.getfield 26, 3) := by decide +kernel
theorem dX2_takeParts_119 : decode cX2_takeParts 119 = .ok (.invokevirtual 70, 3) := by decide +kernel
theorem dX2_takeParts_122 : decode cX2_takeParts 122 = .ok (.iinc 3 1, 3) := by decide +kernel
theorem dX2_takeParts_125 : decode cX2_takeParts 125 = .ok (.goto (-72), 3) := by decide +kernel
theorem dX2_takeParts_128 : decode cX2_takeParts 128 = .ok (.iload_n 2, 1) := by decide +kernel
theorem dX2_takeParts_129 : decode cX2_takeParts 129 = .ok (.ireturn, 1) := by decide +kernel
theorem dX3_init_0 : decode cX3_init 0 = .ok (.aload_n 0, 1) := by decide +kernel
theorem dX3_init_1 : decode cX3_init 1 = .ok (.invokespecial 1, 3) := by decide +kernel
theorem dX3_init_4 : decode cX3_init 4 = .ok (.aload_n 0, 1) := by decide +kernel
theorem dX3_init_5 : decode cX3_init 5 = .ok (.iload_n 1, 1) := by decide +kernel
theorem dX3_init_6 : decode cX3_init 6 = .ok (.putfield 7, 3) := by decide +kernel
theorem dX3_init_9 : decode cX3_init 9 = .ok (.aload_n 0, 1) := by decide +kernel
theorem dX3_init_10 : decode cX3_init 10 = .ok (.iconst 1, 1) := by decide +kernel
theorem dX3_init_11 : decode cX3_init 11 = .ok (.iload_n 1, 1) := by decide +kernel
theorem dX3_init_12 : decode cX3_init 12 = .ok (.ishl, 1) := by decide +kernel
theorem dX3_init_13 : decode cX3_init 13 = .ok (.putfield 13, 3) := by decide +kernel
theorem dX3_init_16 : decode cX3_init 16 = .ok (.aload_n 0, 1) := by decide +kernel
theorem dX3_init_17 : decode cX3_init 17 = .ok (.aload_n 0, 1) := by decide +kernel
theorem dX3_init_18 : decode cX3_init 18 = .ok (.getfield 13, 3) := by decide +kernel
theorem dX3_init_21 : decode cX3_init 21 = .ok (.iconst 1, 1) := by decide +kernel
theorem dX3_init_22 : decode cX3_init 22 = .ok (.isub, 1) := by decide +kernel
theorem dX3_init_23 : decode cX3_init 23 = .ok (.putfield 16, 3) := by decide +kernel
theorem dX3_init_26 : decode cX3_init 26 = .ok (.aload_n 0, 1) := by decide +kernel
theorem dX3_init_27 : decode cX3_init 27 = .ok (.iload_n 1, 1) := by decide +kernel
theorem dX3_init_28 : decode cX3_init 28 = .ok (.iload_n 2, 1) := by decide +kernel
theorem dX3_init_29 : decode cX3_init 29 = .ok (.aload_n 0, 1) := by decide +kernel
theorem dX3_init_30 : decode cX3_init 30 = .ok (.getfield 16, 3) := by decide +kernel
theorem dX3_init_33 : decode cX3_init 33 = .ok (.iand, 1) := by decide +kernel
theorem dX3_init_34 : decode cX3_init 34 = .ok (.invokestatic 19, 3) := by decide +kernel
theorem dX3_init_37 : decode cX3_init 37 = .ok (.putfield 23, 3) := by decide +kernel
theorem dX3_init_40 : decode cX3_init 40 = .ok (.aload_n 0, 1) := by decide +kernel
theorem dX3_init_41 : decode cX3_init 41 = .ok (.aload_n 0, 1) := by decide +kernel
theorem dX3_init_42 : decode cX3_init 42 = .ok (.invokevirtual 26, 3) := by decide +kernel
theorem dX3_init_45 : decode cX3_init 45 = .ok (.putfield 30, 3) := by decide +kernel
theorem dX3_init_48 : decode cX3_init 48 = .ok (.aload_n 0, 1) := by decide +kernel
theorem dX3_init_49 : decode cX3_init 49 = .ok (.aload_n 0, 1) := by decide +kernel
theorem dX3_init_50 : decode cX3_init 50 = .ok (.getfield 13, 3) := by decide +kernel
theorem dX3_init_53 : decode cX3_init 53 = .ok (.newarray .int, 2) := by decide +kernel
theorem dX3_init_55 : decode cX3_init 55 = .ok (.putfield 33, 3) := by decide +kernel
theorem dX3_init_58 : decode cX3_init 58 = .ok (.iconst 1, 1) := by decide +kernel
theorem dX3_init_59 : decode cX3_init 59 = .ok (.istore_n 3, 1) := by decide +kernel
theorem dX3_init_60 : decode cX3_init 60 = .ok (.iconst 0, 1) := by decide +kernel
theorem dX3_init_61 : decode cX3_init 61 = .ok (.istore 4, 2) := by decide +kernel
theorem dX3_init_63 : decode cX3_init 63 = .ok (.iload 4, 2) := by decide +kernel
theorem dX3_init_65 : decode cX3_init 65 = .ok (.aload_n 0, 1) := by decide +kernel
theorem dX3_init_66 : decode cX3_init 66 = .ok (.getfield 16, 3) := by decide +kernel
theorem dX3_init_69 : decode cX3_init 69 = .ok (.if_icmp .ge 44, 3) := by decide +kernel
theorem dX3_init_72 : decode cX3_init 72 = .ok (.aload_n 0, 1) := by decide +kernel
theorem dX3_init_73 : decode cX3_init 73 = .ok (.getfield 33, 3) := by decide +kernel
theorem dX3_init_76 : decode cX3_init 76 = .ok (.iload 4, 2) := by decide +kernel
theorem dX3_init_78 : decode cX3_init 78 = .ok (.dup2, 1) := by decide +kernel
theorem dX3_init_79 : decode cX3_init 79 = .ok (.iaload, 1) := by decide +kernel
theorem dX3_init_80 : decode cX3_init 80 = .ok (.iload_n 3, 1) := by decide +kernel
theorem dX3_init_81 : decode cX3_init 81 = .ok (.bipush 16, 2) := by decide +kernel
theorem dX3_init_83 : decode cX3_init 83 = .ok (.ishl, 1) := by decide +kernel
theorem dX3_init_84 : decode cX3_init 84 = .ok (.ior, 1) := by decide +kernel
theorem dX3_init_85 : decode cX3_init 85 = .ok (.iastore, 1) := by decide +kernel
theorem dX3_init_86 : decode cX3_init 86 = .ok (.aload_n 0, 1) := by decide +kernel
theorem dX3_init_87 : decode cX3_init 87 = .ok (.getfield 33, 3) := by decide +kernel
theorem dX3_init_90 : decode cX3_init 90 = .ok (.iload_n 3, 1) := by decide +kernel
theorem dX3_init_91 : decode cX3_init 91 = .ok (.dup2, 1) := by decide +kernel
theorem dX3_init_92 : decode cX3_init 92 = .ok (.iaload, 1) := by decide +kernel
theorem dX3_init_93 : decode cX3_init 93 = .ok (.iload 4, 2) := by decide +kernel
theorem dX3_init_95 : decode cX3_init 95 = .ok (.ior, 1) := by decide +kernel
theorem dX3_init_96 : decode cX3_init 96 = .ok (.iastore, 1) := by decide +kernel
theorem dX3_init_97 : decode cX3_init 97 = .ok (.aload_n 0, 1) := by decide +kernel
theorem dX3_init_98 : decode cX3_init 98 = .ok (.iload_n 3, 1) := by decide +kernel
theorem dX3_init_99 : decode cX3_init 99 = .ok (.aload_n 0, 1) := by decide +kernel
theorem dX3_init_100 : decode cX3_init 100 = .ok (.getfield 30, 3) := by decide +kernel
theorem dX3_init_103 : decode cX3_init 103 = .ok (.invokevirtual 37, 3) := by decide +kernel
theorem dX3_init_106 : decode cX3_init 106 = .ok (.istore_n 3, 1) := by decide +kernel
theorem dX3_init_107 : decode cX3_init 107 = .ok (.iinc 4 1, 3) := by decide +kernel
theorem dX3_init_110 : decode cX3_init 110 = .ok (.goto (-47), 3) := by decide +kernel
theorem dX3_init_113 : decode cX3_init 113 = .ok (.return_, 1) := by decide +kernel
theorem dX3_firstUnsplit_0 : decode cX3_firstUnsplit 0 = .ok (.iconst 1, 1) := by decide +kernel
theorem dX3_firstUnsplit_1 : decode cX3_firstUnsplit 1 = .ok (.iload_n 0, 1) := by decide +kernel
theorem dX3_firstUnsplit_2 : decode cX3_firstUnsplit 2 = .ok (.ishl, 1) := by decide +kernel
theorem dX3_firstUnsplit_3 : decode cX3_firstUnsplit 3 = .ok (.istore_n 2, 1) := by decide +kernel
theorem dX3_firstUnsplit_4 : decode cX3_firstUnsplit 4 = .ok (.iconst 0, 1) := by decide +kernel
theorem dX3_firstUnsplit_5 : decode cX3_firstUnsplit 5 = .ok (.istore_n 3, 1) := by decide +kernel
theorem dX3_firstUnsplit_6 : decode cX3_firstUnsplit 6 = .ok (.iload_n 3, 1) := by decide +kernel
theorem dX3_firstUnsplit_7 : decode cX3_firstUnsplit 7 = .ok (.iload_n 2, 1) := by decide +kernel
theorem dX3_firstUnsplit_8 : decode cX3_firstUnsplit 8 = .ok (.if_icmp .ge 32, 3) := by decide +kernel
theorem dX3_firstUnsplit_11 : decode cX3_firstUnsplit 11 = .ok (.iload_n 1, 1) := by decide +kernel
theorem dX3_firstUnsplit_12 : decode cX3_firstUnsplit 12 = .ok (.iload_n 3, 1) := by decide +kernel
theorem dX3_firstUnsplit_13 : decode cX3_firstUnsplit 13 = .ok (.iadd, 1) := by decide +kernel
theorem dX3_firstUnsplit_14 : decode cX3_firstUnsplit 14 = .ok (.iload_n 2, 1) := by decide +kernel
theorem dX3_firstUnsplit_15 : decode cX3_firstUnsplit 15 = .ok (.iconst 1, 1) := by decide +kernel
theorem dX3_firstUnsplit_16 : decode cX3_firstUnsplit 16 = .ok (.isub, 1) := by decide +kernel
theorem dX3_firstUnsplit_17 : decode cX3_firstUnsplit 17 = .ok (.iand, 1) := by decide +kernel
theorem dX3_firstUnsplit_18 : decode cX3_firstUnsplit 18 = .ok (.istore 4, 2) := by decide +kernel
theorem dX3_firstUnsplit_20 : decode cX3_firstUnsplit 20 = .ok (.iload_n 2, 1) := by decide +kernel
theorem dX3_firstUnsplit_21 : decode cX3_firstUnsplit 21 = .ok (.iload 4, 2) := by decide +kernel
theorem dX3_firstUnsplit_23 : decode cX3_firstUnsplit 23 = .ok (.ior, 1) := by decide +kernel
theorem dX3_firstUnsplit_24 : decode cX3_firstUnsplit 24 = .ok (.iload_n 0, 1) := by decide +kernel
theorem dX3_firstUnsplit_25 : decode cX3_firstUnsplit 25 = .ok (.invokestatic 40, 3) := by decide +kernel
theorem dX3_firstUnsplit_28 : decode cX3_firstUnsplit 28 = .ok (.ifCond .ne 6, 3) := by decide +kernel
theorem dX3_firstUnsplit_31 : decode cX3_firstUnsplit 31 = .ok (.iload 4, 2) := by decide +kernel
theorem dX3_firstUnsplit_33 : decode cX3_firstUnsplit 33 = .ok (.ireturn, 1) := by decide +kernel
theorem dX3_firstUnsplit_34 : decode cX3_firstUnsplit 34 = .ok (.iinc 3 1, 3) := by decide +kernel
theorem dX3_firstUnsplit_37 : decode cX3_firstUnsplit 37 = .ok (.goto (-31), 3) := by decide +kernel
theorem dX3_firstUnsplit_40 : decode cX3_firstUnsplit 40 = .ok (.iload_n 1, 1) := by decide +kernel
theorem dX3_firstUnsplit_41 : decode cX3_firstUnsplit 41 = .ok (.ireturn, 1) := by decide +kernel
theorem dX3_splits_0 : decode cX3_splits 0 = .ok (.iconst 1, 1) := by decide +kernel
theorem dX3_splits_1 : decode cX3_splits 1 = .ok (.iload_n 1, 1) := by decide +kernel
theorem dX3_splits_2 : decode cX3_splits 2 = .ok (.iconst 2, 1) := by decide +kernel
theorem dX3_splits_3 : decode cX3_splits 3 = .ok (.idiv, 1) := by decide +kernel
theorem dX3_splits_4 : decode cX3_splits 4 = .ok (.iconst 1, 1) := by decide +kernel
theorem dX3_splits_5 : decode cX3_splits 5 = .ok (.iadd, 1) := by decide +kernel
theorem dX3_splits_6 : decode cX3_splits 6 = .ok (.ishl, 1) := by decide +kernel
theorem dX3_splits_7 : decode cX3_splits 7 = .ok (.istore_n 2, 1) := by decide +kernel
theorem dX3_splits_8 : decode cX3_splits 8 = .ok (.iconst 2, 1) := by decide +kernel
theorem dX3_splits_9 : decode cX3_splits 9 = .ok (.istore_n 3, 1) := by decide +kernel
theorem dX3_splits_10 : decode cX3_splits 10 = .ok (.iload_n 3, 1) := by decide +kernel
theorem dX3_splits_11 : decode cX3_splits 11 = .ok (.iload_n 2, 1) := by decide +kernel
theorem dX3_splits_12 : decode cX3_splits 12 = .ok (.if_icmp .ge 19, 3) := by decide +kernel
theorem dX3_splits_15 : decode cX3_splits 15 = .ok (.iload_n 0, 1) := by decide +kernel
theorem dX3_splits_16 : decode cX3_splits 16 = .ok (.iload_n 3, 1) := by decide +kernel
theorem dX3_splits_17 : decode cX3_splits 17 = .ok (.invokestatic 44, 3) := by decide +kernel
theorem dX3_splits_20 : decode cX3_splits 20 = .ok (.ifCond .ne 5, 3) := by decide +kernel
theorem dX3_splits_23 : decode cX3_splits 23 = .ok (.iconst 1, 1) := by decide +kernel
theorem dX3_splits_24 : decode cX3_splits 24 = .ok (.ireturn, 1) := by decide +kernel
theorem dX3_splits_25 : decode cX3_splits 25 = .ok (.iinc 3 1, 3) := by decide +kernel
theorem dX3_splits_28 : decode cX3_splits 28 = .ok (.goto (-18), 3) := by decide +kernel
theorem dX3_splits_31 : decode cX3_splits 31 = .ok (.iconst 0, 1) := by decide +kernel
theorem dX3_splits_32 : decode cX3_splits 32 = .ok (.ireturn, 1) := by decide +kernel
theorem dX3_restOfBits_0 : decode cX3_restOfBits 0 = .ok (.iload_n 1, 1) := by decide +kernel
theorem dX3_restOfBits_1 : decode cX3_restOfBits 1 = .ok (.invokestatic 47, 3) := by decide +kernel
theorem dX3_restOfBits_4 : decode cX3_restOfBits 4 = .ok (.istore_n 2, 1) := by decide +kernel
theorem dX3_restOfBits_5 : decode cX3_restOfBits 5 = .ok (.iload_n 0, 1) := by decide +kernel
theorem dX3_restOfBits_6 : decode cX3_restOfBits 6 = .ok (.istore_n 3, 1) := by decide +kernel
theorem dX3_restOfBits_7 : decode cX3_restOfBits 7 = .ok (.iload_n 0, 1) := by decide +kernel
theorem dX3_restOfBits_8 : decode cX3_restOfBits 8 = .ok (.invokestatic 47, 3) := by decide +kernel
theorem dX3_restOfBits_11 : decode cX3_restOfBits 11 = .ok (.istore 4, 2) := by decide +kernel
theorem dX3_restOfBits_13 : decode cX3_restOfBits 13 = .ok (.iload 4, 2) := by decide +kernel
theorem dX3_restOfBits_15 : decode cX3_restOfBits 15 = .ok (.iload_n 2, 1) := by decide +kernel
theorem dX3_restOfBits_16 : decode cX3_restOfBits 16 = .ok (.if_icmp .lt 27, 3) := by decide +kernel
theorem dX3_restOfBits_19 : decode cX3_restOfBits 19 = .ok (.iload_n 3, 1) := by decide +kernel
theorem dX3_restOfBits_20 : decode cX3_restOfBits 20 = .ok (.iload 4, 2) := by decide +kernel
theorem dX3_restOfBits_22 : decode cX3_restOfBits 22 = .ok (.ishr, 1) := by decide +kernel
theorem dX3_restOfBits_23 : decode cX3_restOfBits 23 = .ok (.iconst 1, 1) := by decide +kernel
theorem dX3_restOfBits_24 : decode cX3_restOfBits 24 = .ok (.iand, 1) := by decide +kernel
theorem dX3_restOfBits_25 : decode cX3_restOfBits 25 = .ok (.ifCond .eq 12, 3) := by decide +kernel
theorem dX3_restOfBits_28 : decode cX3_restOfBits 28 = .ok (.iload_n 3, 1) := by decide +kernel
theorem dX3_restOfBits_29 : decode cX3_restOfBits 29 = .ok (.iload_n 1, 1) := by decide +kernel
theorem dX3_restOfBits_30 : decode cX3_restOfBits 30 = .ok (.iload 4, 2) := by decide +kernel
theorem dX3_restOfBits_32 : decode cX3_restOfBits 32 = .ok (.iload_n 2, 1) := by decide +kernel
theorem dX3_restOfBits_33 : decode cX3_restOfBits 33 = .ok (.isub, 1) := by decide +kernel
theorem dX3_restOfBits_34 : decode cX3_restOfBits 34 = .ok (.ishl, 1) := by decide +kernel
theorem dX3_restOfBits_35 : decode cX3_restOfBits 35 = .ok (.ixor, 1) := by decide +kernel
theorem dX3_restOfBits_36 : decode cX3_restOfBits 36 = .ok (.istore_n 3, 1) := by decide +kernel
theorem dX3_restOfBits_37 : decode cX3_restOfBits 37 = .ok (.iinc 4 (-1), 3) := by decide +kernel
theorem dX3_restOfBits_40 : decode cX3_restOfBits 40 = .ok (.goto (-27), 3) := by decide +kernel
theorem dX3_restOfBits_43 : decode cX3_restOfBits 43 = .ok (.iload_n 3, 1) := by decide +kernel
theorem dX3_restOfBits_44 : decode cX3_restOfBits 44 = .ok (.ireturn, 1) := by decide +kernel
theorem dX3_highestBit_0 : decode cX3_highestBit 0 = .ok (.bipush 31, 2) := by decide +kernel
theorem dX3_highestBit_2 : decode cX3_highestBit 2 = .ok (.iload_n 0, 1) := by decide +kernel
theorem dX3_highestBit_3 : decode cX3_highestBit 3 = .ok (.invokestatic 51, 3) := by decide +kernel
theorem dX3_highestBit_6 : decode cX3_highestBit 6 = .ok (.isub, 1) := by decide +kernel
theorem dX3_highestBit_7 : decode cX3_highestBit 7 = .ok (.ireturn, 1) := by decide +kernel
theorem dX3_slowProduct_0 : decode cX3_slowProduct 0 = .ok (.iconst 0, 1) := by decide +kernel
theorem dX3_slowProduct_1 : decode cX3_slowProduct 1 = .ok (.istore_n 3, 1) := by decide +kernel
theorem dX3_slowProduct_2 : decode cX3_slowProduct 2 = .ok (.iload_n 1, 1) := by decide +kernel
theorem dX3_slowProduct_3 : decode cX3_slowProduct 3 = .ok (.istore 4, 2) := by decide +kernel
theorem dX3_slowProduct_5 : decode cX3_slowProduct 5 = .ok (.iconst 0, 1) := by decide +kernel
theorem dX3_slowProduct_6 : decode cX3_slowProduct 6 = .ok (.istore 5, 2) := by decide +kernel
theorem dX3_slowProduct_8 : decode cX3_slowProduct 8 = .ok (.iload 5, 2) := by decide +kernel
theorem dX3_slowProduct_10 : decode cX3_slowProduct 10 = .ok (.aload_n 0, 1) := by decide +kernel
theorem dX3_slowProduct_11 : decode cX3_slowProduct 11 = .ok (.getfield 7, 3) := by decide +kernel
theorem dX3_slowProduct_14 : decode cX3_slowProduct 14 = .ok (.if_icmp .ge 59, 3) := by decide +kernel
theorem dX3_slowProduct_17 : decode cX3_slowProduct 17 = .ok (.iload_n 2, 1) := by decide +kernel
theorem dX3_slowProduct_18 : decode cX3_slowProduct 18 = .ok (.iload 5, 2) := by decide +kernel
theorem dX3_slowProduct_20 : decode cX3_slowProduct 20 = .ok (.ishr, 1) := by decide +kernel
theorem dX3_slowProduct_21 : decode cX3_slowProduct 21 = .ok (.ifCond .eq 52, 3) := by decide +kernel
theorem dX3_slowProduct_24 : decode cX3_slowProduct 24 = .ok (.iload_n 2, 1) := by decide +kernel
theorem dX3_slowProduct_25 : decode cX3_slowProduct 25 = .ok (.iload 5, 2) := by decide +kernel
theorem dX3_slowProduct_27 : decode cX3_slowProduct 27 = .ok (.ishr, 1) := by decide +kernel
theorem dX3_slowProduct_28 : decode cX3_slowProduct 28 = .ok (.iconst 1, 1) := by decide +kernel
theorem dX3_slowProduct_29 : decode cX3_slowProduct 29 = .ok (.iand, 1) := by decide +kernel
theorem dX3_slowProduct_30 : decode cX3_slowProduct 30 = .ok (.ifCond .eq 8, 3) := by decide +kernel
theorem dX3_slowProduct_33 : decode cX3_slowProduct 33 = .ok (.iload_n 3, 1) := by decide +kernel
theorem dX3_slowProduct_34 : decode cX3_slowProduct 34 = .ok (.iload 4, 2) := by decide +kernel
theorem dX3_slowProduct_36 : decode cX3_slowProduct 36 = .ok (.ixor, 1) := by decide +kernel
theorem dX3_slowProduct_37 : decode cX3_slowProduct 37 = .ok (.istore_n 3, 1) := by decide +kernel
theorem dX3_slowProduct_38 : decode cX3_slowProduct 38 = .ok (.iload 4, 2) := by decide +kernel
theorem dX3_slowProduct_40 : decode cX3_slowProduct 40 = .ok (.iconst 1, 1) := by decide +kernel
theorem dX3_slowProduct_41 : decode cX3_slowProduct 41 = .ok (.ishl, 1) := by decide +kernel
theorem dX3_slowProduct_42 : decode cX3_slowProduct 42 = .ok (.istore 4, 2) := by decide +kernel
theorem dX3_slowProduct_44 : decode cX3_slowProduct 44 = .ok (.iload 4, 2) := by decide +kernel
theorem dX3_slowProduct_46 : decode cX3_slowProduct 46 = .ok (.aload_n 0, 1) := by decide +kernel
theorem dX3_slowProduct_47 : decode cX3_slowProduct 47 = .ok (.getfield 13, 3) := by decide +kernel
theorem dX3_slowProduct_50 : decode cX3_slowProduct 50 = .ok (.if_icmp .lt 17, 3) := by decide +kernel
theorem dX3_slowProduct_53 : decode cX3_slowProduct 53 = .ok (.iload 4, 2) := by decide +kernel
theorem dX3_slowProduct_55 : decode cX3_slowProduct 55 = .ok (.aload_n 0, 1) := by decide +kernel
theorem dX3_slowProduct_56 : decode cX3_slowProduct 56 = .ok (.getfield 13, 3) := by decide +kernel
theorem dX3_slowProduct_59 : decode cX3_slowProduct 59 = .ok (.aload_n 0, 1) := by decide +kernel
theorem dX3_slowProduct_60 : decode cX3_slowProduct 60 = .ok (.getfield 23, 3) := by decide +kernel
theorem dX3_slowProduct_63 : decode cX3_slowProduct 63 = .ok (.ior, 1) := by decide +kernel
theorem dX3_slowProduct_64 : decode cX3_slowProduct 64 = .ok (.ixor, 1) := by decide +kernel
theorem dX3_slowProduct_65 : decode cX3_slowProduct 65 = .ok (.istore 4, 2) := by decide +kernel
theorem dX3_slowProduct_67 : decode cX3_slowProduct 67 = .ok (.iinc 5 1, 3) := by decide +kernel
theorem dX3_slowProduct_70 : decode cX3_slowProduct 70 = .ok (.goto (-62), 3) := by decide +kernel
theorem dX3_slowProduct_73 : decode cX3_slowProduct 73 = .ok (.iload_n 3, 1) := by decide +kernel
theorem dX3_slowProduct_74 : decode cX3_slowProduct 74 = .ok (.ireturn, 1) := by decide +kernel
theorem dX3_slowPower_0 : decode cX3_slowPower 0 = .ok (.iconst 1, 1) := by decide +kernel
theorem dX3_slowPower_1 : decode cX3_slowPower 1 = .ok (.istore_n 3, 1) := by decide +kernel
theorem dX3_slowPower_2 : decode cX3_slowPower 2 = .ok (.iload_n 1, 1) := by decide +kernel
theorem dX3_slowPower_3 : decode cX3_slowPower 3 = .ok (.istore 4, 2) := by decide +kernel
theorem dX3_slowPower_5 : decode cX3_slowPower 5 = .ok (.iconst 0, 1) := by decide +kernel
theorem dX3_slowPower_6 : decode cX3_slowPower 6 = .ok (.istore 5, 2) := by decide +kernel
theorem dX3_slowPower_8 : decode cX3_slowPower 8 = .ok (.iload 5, 2) := by decide +kernel
theorem dX3_slowPower_10 : decode cX3_slowPower 10 = .ok (.aload_n 0, 1) := by decide +kernel
theorem dX3_slowPower_11 : decode cX3_slowPower 11 = .ok (.getfield 7, 3) := by decide +kernel
theorem dX3_slowPower_14 : decode cX3_slowPower 14 = .ok (.if_icmp .ge 36, 3) := by decide +kernel
theorem dX3_slowPower_17 : decode cX3_slowPower 17 = .ok (.iload_n 2, 1) := by decide +kernel
theorem dX3_slowPower_18 : decode cX3_slowPower 18 = .ok (.iload 5, 2) := by decide +kernel
theorem dX3_slowPower_20 : decode cX3_slowPower 20 = .ok (.ishr, 1) := by decide +kernel
theorem dX3_slowPower_21 : decode cX3_slowPower 21 = .ok (.iconst 1, 1) := by decide +kernel
theorem dX3_slowPower_22 : decode cX3_slowPower 22 = .ok (.iand, 1) := by decide +kernel
theorem dX3_slowPower_23 : decode cX3_slowPower 23 = .ok (.ifCond .eq 11, 3) := by decide +kernel
theorem dX3_slowPower_26 : decode cX3_slowPower 26 = .ok (.aload_n 0, 1) := by decide +kernel
theorem dX3_slowPower_27 : decode cX3_slowPower 27 = .ok (.iload_n 3, 1) := by decide +kernel
theorem dX3_slowPower_28 : decode cX3_slowPower 28 = .ok (.iload 4, 2) := by decide +kernel
theorem dX3_slowPower_30 : decode cX3_slowPower 30 = .ok (.invokevirtual 37, 3) := by decide +kernel
theorem dX3_slowPower_33 : decode cX3_slowPower 33 = .ok (.istore_n 3, 1) := by decide +kernel
theorem dX3_slowPower_34 : decode cX3_slowPower 34 = .ok (.aload_n 0, 1) := by decide +kernel
theorem dX3_slowPower_35 : decode cX3_slowPower 35 = .ok (.iload 4, 2) := by decide +kernel
theorem dX3_slowPower_37 : decode cX3_slowPower 37 = .ok (.iload 4, 2) := by decide +kernel
theorem dX3_slowPower_39 : decode cX3_slowPower 39 = .ok (.invokevirtual 37, 3) := by decide +kernel
theorem dX3_slowPower_42 : decode cX3_slowPower 42 = .ok (.istore 4, 2) := by decide +kernel
theorem dX3_slowPower_44 : decode cX3_slowPower 44 = .ok (.iinc 5 1, 3) := by decide +kernel
theorem dX3_slowPower_47 : decode cX3_slowPower 47 = .ok (.goto (-39), 3) := by decide +kernel
theorem dX3_slowPower_50 : decode cX3_slowPower 50 = .ok (.iload_n 3, 1) := by decide +kernel
theorem dX3_slowPower_51 : decode cX3_slowPower 51 = .ok (.ireturn, 1) := by decide +kernel
theorem dX3_leastGenerator_0 : decode cX3_leastGenerator 0 = .ok (.iconst 2, 1) := by decide +kernel
theorem dX3_leastGenerator_1 : decode cX3_leastGenerator 1 = .ok (.istore_n 1, 1) := by decide +kernel
theorem dX3_leastGenerator_2 : decode cX3_leastGenerator 2 = .ok (.iload_n 1, 1) := by decide +kernel
theorem dX3_leastGenerator_3 : decode cX3_leastGenerator 3 = .ok (.aload_n 0, 1) := by decide +kernel
theorem dX3_leastGenerator_4 : decode cX3_leastGenerator 4 = .ok (.getfield 13, 3) := by decide +kernel
theorem dX3_leastGenerator_7 : decode cX3_leastGenerator 7 = .ok (.if_icmp .ge 19, 3) := by decide +kernel
theorem dX3_leastGenerator_10 : decode cX3_leastGenerator 10 = .ok (.aload_n 0, 1) := by decide +kernel
theorem dX3_leastGenerator_11 : decode cX3_leastGenerator 11 = .ok (.iload_n 1, 1) := by decide +kernel
theorem dX3_leastGenerator_12 : decode cX3_leastGenerator 12 = .ok (.invokevirtual 56, 3) := by decide +kernel
theorem dX3_leastGenerator_15 : decode cX3_leastGenerator 15 = .ok (.ifCond .eq 5, 3) := by decide +kernel
theorem dX3_leastGenerator_18 : decode cX3_leastGenerator 18 = .ok (.iload_n 1, 1) := by decide +kernel
theorem dX3_leastGenerator_19 : decode cX3_leastGenerator 19 = .ok (.ireturn, 1) := by decide +kernel
theorem dX3_leastGenerator_20 : decode cX3_leastGenerator 20 = .ok (.iinc 1 1, 3) := by decide +kernel
theorem dX3_leastGenerator_23 : decode cX3_leastGenerator 23 = .ok (.goto (-21), 3) := by decide +kernel
theorem dX3_leastGenerator_26 : decode cX3_leastGenerator 26 = .ok (.iconst 1, 1) := by decide +kernel
theorem dX3_leastGenerator_27 : decode cX3_leastGenerator 27 = .ok (.ireturn, 1) := by decide +kernel
theorem dX3_generates_0 : decode cX3_generates 0 = .ok (.getstatic 60, 3) := by decide +kernel
theorem dX3_generates_3 : decode cX3_generates 3 = .ok (.astore_n 2, 1) := by decide +kernel
theorem dX3_generates_4 : decode cX3_generates 4 = .ok (.aload_n 2, 1) := by decide +kernel
theorem dX3_generates_5 : decode cX3_generates 5 = .ok (.arraylength, 1) := by decide +kernel
theorem dX3_generates_6 : decode cX3_generates 6 = .ok (.istore_n 3, 1) := by decide +kernel
theorem dX3_generates_7 : decode cX3_generates 7 = .ok (.iconst 0, 1) := by decide +kernel
theorem dX3_generates_8 : decode cX3_generates 8 = .ok (.istore 4, 2) := by decide +kernel
theorem dX3_generates_10 : decode cX3_generates 10 = .ok (.iload 4, 2) := by decide +kernel
theorem dX3_generates_12 : decode cX3_generates 12 = .ok (.iload_n 3, 1) := by decide +kernel
theorem dX3_generates_13 : decode cX3_generates 13 = .ok (.if_icmp .ge 43, 3) := by decide +kernel
theorem dX3_generates_16 : decode cX3_generates 16 = .ok (.aload_n 2, 1) := by decide +kernel
theorem dX3_generates_17 : decode cX3_generates 17 = .ok (.iload 4, 2) := by decide +kernel
theorem dX3_generates_19 : decode cX3_generates 19 = .ok (.iaload, 1) := by decide +kernel
theorem dX3_generates_20 : decode cX3_generates 20 = .ok (.istore 5, 2) := by decide +kernel
theorem dX3_generates_22 : decode cX3_generates 22 = .ok (.aload_n 0, 1) := by decide +kernel
theorem dX3_generates_23 : decode cX3_generates 23 = .ok (.getfield 16, 3) := by decide +kernel
theorem dX3_generates_26 : decode cX3_generates 26 = .ok (.iload 5, 2) := by decide +kernel
theorem dX3_generates_28 : decode cX3_generates 28 = .ok (.irem, 1) := by decide +kernel
theorem dX3_generates_29 : decode cX3_generates 29 = .ok (.ifCond .ne 21, 3) := by decide +kernel
theorem dX3_generates_32 : decode cX3_generates 32 = .ok (.aload_n 0, 1) := by decide +kernel
theorem dX3_generates_33 : decode cX3_generates 33 = .ok (.iload_n 1, 1) := by decide +kernel
theorem dX3_generates_34 : decode cX3_generates 34 = .ok (.aload_n 0, 1) := by decide +kernel
theorem dX3_generates_35 : decode cX3_generates 35 = .ok (.getfield 16, 3) := by decide +kernel
theorem dX3_generates_38 : decode cX3_generates 38 = .ok (.iload 5, 2) := by decide +kernel
theorem dX3_generates_40 : decode cX3_generates 40 = .ok (.idiv, 1) := by decide +kernel
theorem dX3_generates_41 : decode cX3_generates 41 = .ok (.invokevirtual 63, 3) := by decide +kernel
theorem dX3_generates_44 : decode cX3_generates 44 = .ok (.iconst 1, 1) := by decide +kernel
theorem dX3_generates_45 : decode cX3_generates 45 = .ok (.if_icmp .ne 5, 3) := by decide +kernel
theorem dX3_generates_48 : decode cX3_generates 48 = .ok (.iconst 0, 1) := by decide +kernel
theorem dX3_generates_49 : decode cX3_generates 49 = .ok (.ireturn, 1) := by decide +kernel
theorem dX3_generates_50 : decode cX3_generates 50 = .ok (.iinc 4 1, 3) := by decide +kernel
theorem dX3_generates_53 : decode cX3_generates 53 = .ok (.goto (-43), 3) := by decide +kernel
theorem dX3_generates_56 : decode cX3_generates 56 = .ok (.iconst 1, 1) := by decide +kernel
theorem dX3_generates_57 : decode cX3_generates 57 = .ok (.ireturn, 1) := by decide +kernel
theorem dX3_logOf_0 : decode cX3_logOf 0 = .ok (.aload_n 0, 1) := by decide +kernel
theorem dX3_logOf_1 : decode cX3_logOf 1 = .ok (.getfield 33, 3) := by decide +kernel
theorem dX3_logOf_4 : decode cX3_logOf 4 = .ok (.iload_n 1, 1) := by decide +kernel
theorem dX3_logOf_5 : decode cX3_logOf 5 = .ok (.iaload, 1) := by decide +kernel
theorem dX3_logOf_6 : decode cX3_logOf 6 = .ok (.ldc 66, 2) := by decide +kernel
theorem dX3_logOf_8 : decode cX3_logOf 8 = .ok (.iand, 1) := by decide +kernel
theorem dX3_logOf_9 : decode cX3_logOf 9 = .ok (.ireturn, 1) := by decide +kernel
theorem dX3_mul_0 : decode cX3_mul 0 = .ok (.iload_n 1, 1) := by decide +kernel
theorem dX3_mul_1 : decode cX3_mul 1 = .ok (.ifCond .eq 7, 3) := by decide +kernel
theorem dX3_mul_4 : decode cX3_mul 4 = .ok (.iload_n 2, 1) := by decide +kernel
theorem dX3_mul_5 : decode cX3_mul 5 = .ok (.ifCond .ne 5, 3) := by decide +kernel
theorem dX3_mul_8 : decode cX3_mul 8 = .ok (.iconst 0, 1) := by decide +kernel
theorem dX3_mul_9 : decode cX3_mul 9 = .ok (.ireturn, 1) := by decide +kernel
theorem dX3_mul_10 : decode cX3_mul 10 = .ok (.aload_n 0, 1) := by decide +kernel
theorem dX3_mul_11 : decode cX3_mul 11 = .ok (.getfield 33, 3) := by decide +kernel
theorem dX3_mul_14 : decode cX3_mul 14 = .ok (.iload_n 1, 1) := by decide +kernel
theorem dX3_mul_15 : decode cX3_mul 15 = .ok (.iaload, 1) := by decide +kernel
theorem dX3_mul_16 : decode cX3_mul 16 = .ok (.ldc 66, 2) := by decide +kernel
theorem dX3_mul_18 : decode cX3_mul 18 = .ok (.iand, 1) := by decide +kernel
theorem dX3_mul_19 : decode cX3_mul 19 = .ok (.aload_n 0, 1) := by decide +kernel
theorem dX3_mul_20 : decode cX3_mul 20 = .ok (.getfield 33, 3) := by decide +kernel
theorem dX3_mul_23 : decode cX3_mul 23 = .ok (.iload_n 2, 1) := by decide +kernel
theorem dX3_mul_24 : decode cX3_mul 24 = .ok (.iaload, 1) := by decide +kernel
theorem dX3_mul_25 : decode cX3_mul 25 = .ok (.ldc 66, 2) := by decide +kernel
theorem dX3_mul_27 : decode cX3_mul 27 = .ok (.iand, 1) := by decide +kernel
theorem dX3_mul_28 : decode cX3_mul 28 = .ok (.iadd, 1) := by decide +kernel
theorem dX3_mul_29 : decode cX3_mul 29 = .ok (.istore_n 3, 1) := by decide +kernel
theorem dX3_mul_30 : decode cX3_mul 30 = .ok (.aload_n 0, 1) := by decide +kernel
theorem dX3_mul_31 : decode cX3_mul 31 = .ok (.getfield 33, 3) := by decide +kernel
theorem dX3_mul_34 : decode cX3_mul 34 = .ok (.iload_n 3, 1) := by decide +kernel
theorem dX3_mul_35 : decode cX3_mul 35 = .ok (.aload_n 0, 1) := by decide +kernel
theorem dX3_mul_36 : decode cX3_mul 36 = .ok (.getfield 16, 3) := by decide +kernel
theorem dX3_mul_39 : decode cX3_mul 39 = .ok (.if_icmp .ge 7, 3) := by decide +kernel
theorem dX3_mul_42 : decode cX3_mul 42 = .ok (.iload_n 3, 1) := by decide +kernel
theorem dX3_mul_43 : decode cX3_mul 43 = .ok (.goto 9, 3) := by decide +kernel
theorem dX3_mul_46 : decode cX3_mul 46 = .ok (.iload_n 3, 1) := by decide +kernel
theorem dX3_mul_47 : decode cX3_mul 47 = .ok (.aload_n 0, 1) := by decide +kernel
theorem dX3_mul_48 : decode cX3_mul 48 = .ok (.getfield 16, 3) := by decide +kernel
theorem dX3_mul_51 : decode cX3_mul 51 = .ok (.isub, 1) := by decide +kernel
theorem dX3_mul_52 : decode cX3_mul 52 = .ok (.iaload, 1) := by decide +kernel
theorem dX3_mul_53 : decode cX3_mul 53 = .ok (.bipush 16, 2) := by decide +kernel
theorem dX3_mul_55 : decode cX3_mul 55 = .ok (.iushr, 1) := by decide +kernel
theorem dX3_mul_56 : decode cX3_mul 56 = .ok (.ireturn, 1) := by decide +kernel
theorem dX3_inverse_0 : decode cX3_inverse 0 = .ok (.aload_n 0, 1) := by decide +kernel
theorem dX3_inverse_1 : decode cX3_inverse 1 = .ok (.getfield 33, 3) := by decide +kernel
theorem dX3_inverse_4 : decode cX3_inverse 4 = .ok (.iload_n 1, 1) := by decide +kernel
theorem dX3_inverse_5 : decode cX3_inverse 5 = .ok (.iaload, 1) := by decide +kernel
theorem dX3_inverse_6 : decode cX3_inverse 6 = .ok (.ldc 66, 2) := by decide +kernel
theorem dX3_inverse_8 : decode cX3_inverse 8 = .ok (.iand, 1) := by decide +kernel
theorem dX3_inverse_9 : decode cX3_inverse 9 = .ok (.istore_n 2, 1) := by decide +kernel
theorem dX3_inverse_10 : decode cX3_inverse 10 = .ok (.iload_n 1, 1) := by decide +kernel
theorem dX3_inverse_11 : decode cX3_inverse 11 = .ok (.ifCond .ne 7, 3) := by decide +kernel
theorem dX3_inverse_14 : decode cX3_inverse 14 = .ok (.iconst 0, 1) := by decide +kernel
theorem dX3_inverse_15 : decode cX3_inverse 15 = .ok (.goto 25, 3) := by decide +kernel
theorem dX3_inverse_18 : decode cX3_inverse 18 = .ok (.aload_n 0, 1) := by decide +kernel
theorem dX3_inverse_19 : decode cX3_inverse 19 = .ok (.getfield 33, 3) := by decide +kernel
theorem dX3_inverse_22 : decode cX3_inverse 22 = .ok (.iload_n 2, 1) := by decide +kernel
theorem dX3_inverse_23 : decode cX3_inverse 23 = .ok (.ifCond .ne 7, 3) := by decide +kernel
theorem dX3_inverse_26 : decode cX3_inverse 26 = .ok (.iconst 0, 1) := by decide +kernel
theorem dX3_inverse_27 : decode cX3_inverse 27 = .ok (.goto 9, 3) := by decide +kernel
theorem dX3_inverse_30 : decode cX3_inverse 30 = .ok (.aload_n 0, 1) := by decide +kernel
theorem dX3_inverse_31 : decode cX3_inverse 31 = .ok (.getfield 16, 3) := by decide +kernel
theorem dX3_inverse_34 : decode cX3_inverse 34 = .ok (.iload_n 2, 1) := by decide +kernel
theorem dX3_inverse_35 : decode cX3_inverse 35 = .ok (.isub, 1) := by decide +kernel
theorem dX3_inverse_36 : decode cX3_inverse 36 = .ok (.iaload, 1) := by decide +kernel
theorem dX3_inverse_37 : decode cX3_inverse 37 = .ok (.bipush 16, 2) := by decide +kernel
theorem dX3_inverse_39 : decode cX3_inverse 39 = .ok (.iushr, 1) := by decide +kernel
theorem dX3_inverse_40 : decode cX3_inverse 40 = .ok (.ireturn, 1) := by decide +kernel
theorem dX3_ratio_0 : decode cX3_ratio 0 = .ok (.aload_n 0, 1) := by decide +kernel
theorem dX3_ratio_1 : decode cX3_ratio 1 = .ok (.iload_n 1, 1) := by decide +kernel
theorem dX3_ratio_2 : decode cX3_ratio 2 = .ok (.aload_n 0, 1) := by decide +kernel
theorem dX3_ratio_3 : decode cX3_ratio 3 = .ok (.iload_n 2, 1) := by decide +kernel
theorem dX3_ratio_4 : decode cX3_ratio 4 = .ok (.invokevirtual 67, 3) := by decide +kernel
theorem dX3_ratio_7 : decode cX3_ratio 7 = .ok (.invokevirtual 70, 3) := by decide +kernel
theorem dX3_ratio_10 : decode cX3_ratio 10 = .ok (.ireturn, 1) := by decide +kernel
theorem dX3_raised_0 : decode cX3_raised 0 = .ok (.iload_n 1, 1) := by decide +kernel
theorem dX3_raised_1 : decode cX3_raised 1 = .ok (.ifCond .ne 15, 3) := by decide +kernel
theorem dX3_raised_4 : decode cX3_raised 4 = .ok (.lload_n 2, 1) := by decide +kernel
theorem dX3_raised_5 : decode cX3_raised 5 = .ok (.lconst 0, 1) := by decide +kernel
theorem dX3_raised_6 : decode cX3_raised 6 = .ok (.lcmp, 1) := by decide +kernel
theorem dX3_raised_7 : decode cX3_raised 7 = .ok (.ifCond .ne 7, 3) := by decide +kernel
theorem dX3_raised_10 : decode cX3_raised 10 = .ok (.iconst 1, 1) := by decide +kernel
theorem dX3_raised_11 : decode cX3_raised 11 = .ok (.goto 4, 3) := by decide +kernel
theorem dX3_raised_14 : decode cX3_raised 14 = .ok (.iconst 0, 1) := by decide +kernel
theorem dX3_raised_15 : decode cX3_raised 15 = .ok (.ireturn, 1) := by decide +kernel
theorem dX3_raised_16 : decode cX3_raised 16 = .ok (.lload_n 2, 1) := by decide +kernel
theorem dX3_raised_17 : decode cX3_raised 17 = .ok (.aload_n 0, 1) := by decide +kernel
theorem dX3_raised_18 : decode cX3_raised 18 = .ok (.getfield 16, 3) := by decide +kernel
theorem dX3_raised_21 : decode cX3_raised 21 = .ok (.i2l, 1) := by decide +kernel
theorem dX3_raised_22 : decode cX3_raised 22 = .ok (.lrem, 1) := by decide +kernel
theorem dX3_raised_23 : decode cX3_raised 23 = .ok (.lstore 4, 2) := by decide +kernel
theorem dX3_raised_25 : decode cX3_raised 25 = .ok (.lload 4, 2) := by decide +kernel
theorem dX3_raised_27 : decode cX3_raised 27 = .ok (.lconst 0, 1) := by decide +kernel
theorem dX3_raised_28 : decode cX3_raised 28 = .ok (.lcmp, 1) := by decide +kernel
theorem dX3_raised_29 : decode cX3_raised 29 = .ok (.ifCond .ge 14, 3) := by decide +kernel
theorem dX3_raised_32 : decode cX3_raised 32 = .ok (.lload 4, 2) := by decide +kernel
theorem dX3_raised_34 : decode cX3_raised 34 = .ok (.aload_n 0, 1) := by decide +kernel
theorem dX3_raised_35 : decode cX3_raised 35 = .ok (.getfield 16, 3) := by decide +kernel
theorem dX3_raised_38 : decode cX3_raised 38 = .ok (.i2l, 1) := by decide +kernel
theorem dX3_raised_39 : decode cX3_raised 39 = .ok (.ladd, 1) := by decide +kernel
theorem dX3_raised_40 : decode cX3_raised 40 = .ok (.goto 5, 3) := by decide +kernel
theorem dX3_raised_43 : decode cX3_raised 43 = .ok (.lload 4, 2) := by decide +kernel
theorem dX3_raised_45 : decode cX3_raised 45 = .ok (.lstore 6, 2) := by decide +kernel
theorem dX3_raised_47 : decode cX3_raised 47 = .ok (.aload_n 0, 1) := by decide +kernel
theorem dX3_raised_48 : decode cX3_raised 48 = .ok (.getfield 33, 3) := by decide +kernel
theorem dX3_raised_51 : decode cX3_raised 51 = .ok (.aload_n 0, 1) := by decide +kernel
theorem dX3_raised_52 : decode cX3_raised 52 = .ok (.iload_n 1, 1) := by decide +kernel
theorem dX3_raised_53 : decode cX3_raised 53 = .ok (.invokevirtual 73, 3) := by decide +kernel
theorem dX3_raised_56 : decode cX3_raised 56 = .ok (.i2l, 1) := by decide +kernel
theorem dX3_raised_57 : decode cX3_raised 57 = .ok (.lload 6, 2) := by decide +kernel
theorem dX3_raised_59 : decode cX3_raised 59 = .ok (.lmul, 1) := by decide +kernel
theorem dX3_raised_60 : decode cX3_raised 60 = .ok (.aload_n 0, 1) := by decide +kernel
theorem dX3_raised_61 : decode cX3_raised 61 = .ok (.getfield 16, 3) := by decide +kernel
theorem dX3_raised_64 : decode cX3_raised 64 = .ok (.i2l, 1) := by decide +kernel
theorem dX3_raised_65 : decode cX3_raised 65 = .ok (.lrem, 1) := by decide +kernel
theorem dX3_raised_66 : decode cX3_raised 66 = .ok (.l2i, 1) := by decide +kernel
theorem dX3_raised_67 : decode cX3_raised 67 = .ok (.iaload, 1) := by decide +kernel
theorem dX3_raised_68 : decode cX3_raised 68 = .ok (.bipush 16, 2) := by decide +kernel
theorem dX3_raised_70 : decode cX3_raised 70 = .ok (.iushr, 1) := by decide +kernel
theorem dX3_raised_71 : decode cX3_raised 71 = .ok (.ireturn, 1) := by decide +kernel
theorem dX3_orderOf_0 : decode cX3_orderOf 0 = .ok (.iload_n 1, 1) := by decide +kernel
theorem dX3_orderOf_1 : decode cX3_orderOf 1 = .ok (.ifCond .ne 5, 3) := by decide +kernel
theorem dX3_orderOf_4 : decode cX3_orderOf 4 = .ok (.iconst 0, 1) := by decide +kernel
theorem dX3_orderOf_5 : decode cX3_orderOf 5 = .ok (.ireturn, 1) := by decide +kernel
theorem dX3_orderOf_6 : decode cX3_orderOf 6 = .ok (.aload_n 0, 1) := by decide +kernel
theorem dX3_orderOf_7 : decode cX3_orderOf 7 = .ok (.getfield 16, 3) := by decide +kernel
theorem dX3_orderOf_10 : decode cX3_orderOf 10 = .ok (.istore_n 2, 1) := by decide +kernel
theorem dX3_orderOf_11 : decode cX3_orderOf 11 = .ok (.getstatic 60, 3) := by decide +kernel
theorem dX3_orderOf_14 : decode cX3_orderOf 14 = .ok (.astore_n 3, 1) := by decide +kernel
theorem dX3_orderOf_15 : decode cX3_orderOf 15 = .ok (.aload_n 3, 1) := by decide +kernel
theorem dX3_orderOf_16 : decode cX3_orderOf 16 = .ok (.arraylength, 1) := by decide +kernel
theorem dX3_orderOf_17 : decode cX3_orderOf 17 = .ok (.istore 4, 2) := by decide +kernel
theorem dX3_orderOf_19 : decode cX3_orderOf 19 = .ok (.iconst 0, 1) := by decide +kernel
theorem dX3_orderOf_20 : decode cX3_orderOf 20 = .ok (.istore 5, 2) := by decide +kernel
theorem dX3_orderOf_22 : decode cX3_orderOf 22 = .ok (.iload 5, 2) := by decide +kernel
theorem dX3_orderOf_24 : decode cX3_orderOf 24 = .ok (.iload 4, 2) := by decide +kernel
theorem dX3_orderOf_26 : decode cX3_orderOf 26 = .ok (.if_icmp .ge 38, 3) := by decide +kernel
theorem dX3_orderOf_29 : decode cX3_orderOf 29 = .ok (.aload_n 3, 1) := by decide +kernel
theorem dX3_orderOf_30 : decode cX3_orderOf 30 = .ok (.iload 5, 2) := by decide +kernel
theorem dX3_orderOf_32 : decode cX3_orderOf 32 = .ok (.iaload, 1) := by decide +kernel
theorem dX3_orderOf_33 : decode cX3_orderOf 33 = .ok (.istore 6, 2) := by decide +kernel
theorem dX3_orderOf_35 : decode cX3_orderOf 35 = .ok (.iload_n 2, 1) := by decide +kernel
theorem dX3_orderOf_36 : decode cX3_orderOf 36 = .ok (.iload 6, 2) := by decide +kernel
theorem dX3_orderOf_38 : decode cX3_orderOf 38 = .ok (.irem, 1) := by decide +kernel
theorem dX3_orderOf_39 : decode cX3_orderOf 39 = .ok (.ifCond .ne 19, 3) := by decide +kernel
theorem dX3_orderOf_42 : decode cX3_orderOf 42 = .ok (.aload_n 0, 1) := by decide +kernel
theorem dX3_orderOf_43 : decode cX3_orderOf 43 = .ok (.iload_n 1, 1) := by decide +kernel
theorem dX3_orderOf_44 : decode cX3_orderOf 44 = .ok (.invokevirtual 73, 3) := by decide +kernel
theorem dX3_orderOf_47 : decode cX3_orderOf 47 = .ok (.iload 6, 2) := by decide +kernel
theorem dX3_orderOf_49 : decode cX3_orderOf 49 = .ok (.irem, 1) := by decide +kernel
theorem dX3_orderOf_50 : decode cX3_orderOf 50 = .ok (.ifCond .ne 8, 3) := by decide +kernel
theorem dX3_orderOf_53 : decode cX3_orderOf 53 = .ok (.iload_n 2, 1) := by decide +kernel
theorem dX3_orderOf_54 : decode cX3_orderOf 54 = .ok (.iload 6, 2) := by decide +kernel
theorem dX3_orderOf_56 : decode cX3_orderOf 56 = .ok (.idiv, 1) := by decide +kernel
theorem dX3_orderOf_57 : decode cX3_orderOf 57 = .ok (.istore_n 2, 1) := by decide +kernel
theorem dX3_orderOf_58 : decode cX3_orderOf 58 = .ok (.iinc 5 1, 3) := by decide +kernel
theorem dX3_orderOf_61 : decode cX3_orderOf 61 = .ok (.goto (-39), 3) := by decide +kernel
theorem dX3_orderOf_64 : decode cX3_orderOf 64 = .ok (.iload_n 2, 1) := by decide +kernel
theorem dX3_orderOf_65 : decode cX3_orderOf 65 = .ok (.ireturn, 1) := by decide +kernel
theorem dX3_addMultiple_0 : decode cX3_addMultiple 0 = .ok (.iload 6, 2) := by decide +kernel
theorem dX3_addMultiple_2 : decode cX3_addMultiple 2 = .ok (.ifCond .ne 4, 3) := by decide +kernel
theorem dX3_addMultiple_5 : decode cX3_addMultiple 5 = .ok (.return_, 1) := by decide +kernel
theorem dX3_addMultiple_6 : decode cX3_addMultiple 6 = .ok (.aload_n 0, 1) := by decide +kernel
theorem dX3_addMultiple_7 : decode cX3_addMultiple 7 = .ok (.getfield 33, 3) := by decide +kernel
theorem dX3_addMultiple_10 : decode cX3_addMultiple 10 = .ok (.iload 6, 2) := by decide +kernel
theorem dX3_addMultiple_12 : decode cX3_addMultiple 12 = .ok (.iaload, 1) := by decide +kernel
theorem dX3_addMultiple_13 : decode cX3_addMultiple 13 = .ok (.ldc 66, 2) := by decide +kernel
theorem dX3_addMultiple_15 : decode cX3_addMultiple 15 = .ok (.iand, 1) := by decide +kernel
theorem dX3_addMultiple_16 : decode cX3_addMultiple 16 = .ok (.istore 7, 2) := by decide +kernel
theorem dX3_addMultiple_18 : decode cX3_addMultiple 18 = .ok (.iconst 0, 1) := by decide +kernel
theorem dX3_addMultiple_19 : decode cX3_addMultiple 19 = .ok (.istore 8, 2) := by decide +kernel
theorem dX3_addMultiple_21 : decode cX3_addMultiple 21 = .ok (.iload 8, 2) := by decide +kernel
theorem dX3_addMultiple_23 : decode cX3_addMultiple 23 = .ok (.iload 5, 2) := by decide +kernel
theorem dX3_addMultiple_25 : decode cX3_addMultiple 25 = .ok (.if_icmp .ge 76, 3) := by decide +kernel
theorem dX3_addMultiple_28 : decode cX3_addMultiple 28 = .ok (.aload_n 3, 1) := by decide +kernel
theorem dX3_addMultiple_29 : decode cX3_addMultiple 29 = .ok (.iload 4, 2) := by decide +kernel
theorem dX3_addMultiple_31 : decode cX3_addMultiple 31 = .ok (.iload 8, 2) := by decide +kernel
theorem dX3_addMultiple_33 : decode cX3_addMultiple 33 = .ok (.iadd, 1) := by decide +kernel
theorem dX3_addMultiple_34 : decode cX3_addMultiple 34 = .ok (.iaload, 1) := by decide +kernel
theorem dX3_addMultiple_35 : decode cX3_addMultiple 35 = .ok (.istore 9, 2) := by decide +kernel
theorem dX3_addMultiple_37 : decode cX3_addMultiple 37 = .ok (.iload 9, 2) := by decide +kernel
theorem dX3_addMultiple_39 : decode cX3_addMultiple 39 = .ok (.ifCond .eq 56, 3) := by decide +kernel
theorem dX3_addMultiple_42 : decode cX3_addMultiple 42 = .ok (.iload 7, 2) := by decide +kernel
theorem dX3_addMultiple_44 : decode cX3_addMultiple 44 = .ok (.aload_n 0, 1) := by decide +kernel
theorem dX3_addMultiple_45 : decode cX3_addMultiple 45 = .ok (.getfield 33, 3) := by decide +kernel
theorem dX3_addMultiple_48 : decode cX3_addMultiple 48 = .ok (.iload 9, 2) := by decide +kernel
theorem dX3_addMultiple_50 : decode cX3_addMultiple 50 = .ok (.iaload, 1) := by decide +kernel
theorem dX3_addMultiple_51 : decode cX3_addMultiple 51 = .ok (.ldc 66, 2) := by decide +kernel
theorem dX3_addMultiple_53 : decode cX3_addMultiple 53 = .ok (.iand, 1) := by decide +kernel
theorem dX3_addMultiple_54 : decode cX3_addMultiple 54 = .ok (.iadd, 1) := by decide +kernel
theorem dX3_addMultiple_55 : decode cX3_addMultiple 55 = .ok (.istore 10, 2) := by decide +kernel
theorem dX3_addMultiple_57 : decode cX3_addMultiple 57 = .ok (.aload_n 1, 1) := by decide +kernel
theorem dX3_addMultiple_58 : decode cX3_addMultiple 58 = .ok (.iload_n 2, 1) := by decide +kernel
theorem dX3_addMultiple_59 : decode cX3_addMultiple 59 = .ok (.iload 8, 2) := by decide +kernel
theorem dX3_addMultiple_61 : decode cX3_addMultiple 61 = .ok (.iadd, 1) := by decide +kernel
theorem dX3_addMultiple_62 : decode cX3_addMultiple 62 = .ok (.dup2, 1) := by decide +kernel
theorem dX3_addMultiple_63 : decode cX3_addMultiple 63 = .ok (.iaload, 1) := by decide +kernel
theorem dX3_addMultiple_64 : decode cX3_addMultiple 64 = .ok (.aload_n 0, 1) := by decide +kernel
theorem dX3_addMultiple_65 : decode cX3_addMultiple 65 = .ok (.getfield 33, 3) := by decide +kernel
theorem dX3_addMultiple_68 : decode cX3_addMultiple 68 = .ok (.iload 10, 2) := by decide +kernel
theorem dX3_addMultiple_70 : decode cX3_addMultiple 70 = .ok (.aload_n 0, 1) := by decide +kernel
theorem dX3_addMultiple_71 : decode cX3_addMultiple 71 = .ok (.getfield 16, 3) := by decide +kernel
theorem dX3_addMultiple_74 : decode cX3_addMultiple 74 = .ok (.if_icmp .ge 8, 3) := by decide +kernel
theorem dX3_addMultiple_77 : decode cX3_addMultiple 77 = .ok (.iload 10, 2) := by decide +kernel
theorem dX3_addMultiple_79 : decode cX3_addMultiple 79 = .ok (.goto 10, 3) := by decide +kernel
theorem dX3_addMultiple_82 : decode cX3_addMultiple 82 = .ok (.iload 10, 2) := by decide +kernel
theorem dX3_addMultiple_84 : decode cX3_addMultiple 84 = .ok (.aload_n 0, 1) := by decide +kernel
theorem dX3_addMultiple_85 : decode cX3_addMultiple 85 = .ok (.getfield 16, 3) := by decide +kernel
theorem dX3_addMultiple_88 : decode cX3_addMultiple 88 = .ok (.isub, 1) := by decide +kernel
theorem dX3_addMultiple_89 : decode cX3_addMultiple 89 = .ok (.iaload, 1) := by decide +kernel
theorem dX3_addMultiple_90 : decode cX3_addMultiple 90 = .ok (.bipush 16, 2) := by decide +kernel
theorem dX3_addMultiple_92 : decode cX3_addMultiple 92 = .ok (.iushr, 1) := by decide +kernel
theorem dX3_addMultiple_93 : decode cX3_addMultiple 93 = .ok (.ixor, 1) := by decide +kernel
theorem dX3_addMultiple_94 : decode cX3_addMultiple 94 = .ok (.iastore, 1) := by decide +kernel
theorem dX3_addMultiple_95 : decode cX3_addMultiple 95 = .ok (.iinc 8 1, 3) := by decide +kernel
theorem dX3_addMultiple_98 : decode cX3_addMultiple 98 = .ok (.goto (-77), 3) := by decide +kernel
theorem dX3_addMultiple_101 : decode cX3_addMultiple 101 = .ok (.return_, 1) := by decide +kernel
theorem dX3_scale_0 : decode cX3_scale 0 = .ok (.iconst 0, 1) := by decide +kernel
theorem dX3_scale_1 : decode cX3_scale 1 = .ok (.istore 4, 2) := by decide +kernel
theorem dX3_scale_3 : decode cX3_scale 3 = .ok (.iload 4, 2) := by decide +kernel
theorem dX3_scale_5 : decode cX3_scale 5 = .ok (.iload_n 2, 1) := by decide +kernel
theorem dX3_scale_6 : decode cX3_scale 6 = .ok (.if_icmp .ge 22, 3) := by decide +kernel
theorem dX3_scale_9 : decode cX3_scale 9 = .ok (.aload_n 1, 1) := by decide +kernel
theorem dX3_scale_10 : decode cX3_scale 10 = .ok (.iload 4, 2) := by decide +kernel
theorem dX3_scale_12 : decode cX3_scale 12 = .ok (.aload_n 0, 1) := by decide +kernel
theorem dX3_scale_13 : decode cX3_scale 13 = .ok (.aload_n 1, 1) := by decide +kernel
theorem dX3_scale_14 : decode cX3_scale 14 = .ok (.iload 4, 2) := by decide +kernel
theorem dX3_scale_16 : decode cX3_scale 16 = .ok (.iaload, 1) := by decide +kernel
theorem dX3_scale_17 : decode cX3_scale 17 = .ok (.iload_n 3, 1) := by decide +kernel
theorem dX3_scale_18 : decode cX3_scale 18 = .ok (.invokevirtual 70, 3) := by decide +kernel
theorem dX3_scale_21 : decode cX3_scale 21 = .ok (.iastore, 1) := by decide +kernel
theorem dX3_scale_22 : decode cX3_scale 22 = .ok (.iinc 4 1, 3) := by decide +kernel
theorem dX3_scale_25 : decode cX3_scale 25 = .ok (.goto (-22), 3) := by decide +kernel
theorem dX3_scale_28 : decode cX3_scale 28 = .ok (.return_, 1) := by decide +kernel
theorem dX4_init_0 : decode cX4_init 0 = .ok (.aload_n 0, 1) := by decide +kernel
theorem dX4_init_1 : decode cX4_init 1 = .ok (.invokespecial 3, 3) := by decide +kernel
theorem dX4_init_4 : decode cX4_init 4 = .ok (.aload_n 0, 1) := by decide +kernel
theorem dX4_init_5 : decode cX4_init 5 = .ok (.bipush 65, 2) := by decide +kernel
theorem dX4_init_7 : decode cX4_init 7 = .ok (.newarray .int, 2) := by decide +kernel
theorem dX4_init_9 : decode cX4_init 9 = .ok (.putfield 9, 3) := by decide +kernel
theorem dX4_init_12 : decode cX4_init 12 = .ok (.aload_n 0, 1) := by decide +kernel
theorem dX4_init_13 : decode cX4_init 13 = .ok (.bipush 65, 2) := by decide +kernel
theorem dX4_init_15 : decode cX4_init 15 = .ok (.newarray .int, 2) := by decide +kernel
theorem dX4_init_17 : decode cX4_init 17 = .ok (.putfield 15, 3) := by decide +kernel
theorem dX4_init_20 : decode cX4_init 20 = .ok (.aload_n 0, 1) := by decide +kernel
theorem dX4_init_21 : decode cX4_init 21 = .ok (.aload_n 1, 1) := by decide +kernel
theorem dX4_init_22 : decode cX4_init 22 = .ok (.putfield 18, 3) := by decide +kernel
theorem dX4_init_25 : decode cX4_init 25 = .ok (.return_, 1) := by decide +kernel
theorem dX4_take_0 : decode cX4_take 0 = .ok (.aload_n 0, 1) := by decide +kernel
theorem dX4_take_1 : decode cX4_take 1 = .ok (.getfield 9, 3) := by decide +kernel
theorem dX4_take_4 : decode cX4_take 4 = .ok (.iload_n 1, 1) := by decide +kernel
theorem dX4_take_5 : decode cX4_take 5 = .ok (.iload_n 2, 1) := by decide +kernel
theorem dX4_take_6 : decode cX4_take 6 = .ok (.iastore, 1) := by decide +kernel
theorem dX4_take_7 : decode cX4_take 7 = .ok (.aload_n 0, 1) := by decide +kernel
theorem dX4_take_8 : decode cX4_take 8 = .ok (.getfield 15, 3) := by decide +kernel
theorem dX4_take_11 : decode cX4_take 11 = .ok (.iload_n 1, 1) := by decide +kernel
theorem dX4_take_12 : decode cX4_take 12 = .ok (.iload_n 3, 1) := by decide +kernel
theorem dX4_take_13 : decode cX4_take 13 = .ok (.iastore, 1) := by decide +kernel
theorem dX4_take_14 : decode cX4_take 14 = .ok (.return_, 1) := by decide +kernel
theorem dX4_run_0 : decode cX4_run 0 = .ok (.iconst 1, 1) := by decide +kernel
theorem dX4_run_1 : decode cX4_run 1 = .ok (.istore_n 3, 1) := by decide +kernel
theorem dX4_run_2 : decode cX4_run 2 = .ok (.iload_n 3, 1) := by decide +kernel
theorem dX4_run_3 : decode cX4_run 3 = .ok (.iload_n 1, 1) := by decide +kernel
theorem dX4_run_4 : decode cX4_run 4 = .ok (.if_icmp .ge 74, 3) := by decide +kernel
theorem dX4_run_7 : decode cX4_run 7 = .ok (.iload_n 1, 1) := by decide +kernel
theorem dX4_run_8 : decode cX4_run 8 = .ok (.iconst 1, 1) := by decide +kernel
theorem dX4_run_9 : decode cX4_run 9 = .ok (.isub, 1) := by decide +kernel
theorem dX4_run_10 : decode cX4_run 10 = .ok (.istore 4, 2) := by decide +kernel
theorem dX4_run_12 : decode cX4_run 12 = .ok (.iload 4, 2) := by decide +kernel
theorem dX4_run_14 : decode cX4_run 14 = .ok (.iload_n 3, 1) := by decide +kernel
theorem dX4_run_15 : decode cX4_run 15 = .ok (.if_icmp .lt 57, 3) := by decide +kernel
theorem dX4_run_18 : decode cX4_run 18 = .ok (.aload_n 0, 1) := by decide +kernel
theorem dX4_run_19 : decode cX4_run 19 = .ok (.getfield 15, 3) := by decide +kernel
theorem dX4_run_22 : decode cX4_run 22 = .ok (.iload 4, 2) := by decide +kernel
theorem dX4_run_24 : decode cX4_run 24 = .ok (.aload_n 0, 1) := by decide +kernel
theorem dX4_run_25 : decode cX4_run 25 = .ok (.getfield 18, 3) := by decide +kernel
theorem dX4_run_28 : decode cX4_run 28 = .ok (.aload_n 0, 1) := by decide +kernel
theorem dX4_run_29 : decode cX4_run 29 = .ok (.getfield 15, 3) := by decide +kernel
theorem dX4_run_32 : decode cX4_run 32 = .ok (.iload 4, 2) := by decide +kernel
theorem dX4_run_34 : decode cX4_run 34 = .ok (.iaload, 1) := by decide +kernel
theorem dX4_run_35 : decode cX4_run 35 = .ok (.aload_n 0, 1) := by decide +kernel
theorem dX4_run_36 : decode cX4_run 36 = .ok (.getfield 15, 3) := by decide +kernel
theorem dX4_run_39 : decode cX4_run 39 = .ok (.iload 4, 2) := by decide +kernel
theorem dX4_run_41 : decode cX4_run 41 = .ok (.iconst 1, 1) := by decide +kernel
theorem dX4_run_42 : decode cX4_run 42 = .ok (.isub, 1) := by decide +kernel
theorem dX4_run_43 : decode cX4_run 43 = .ok (.iaload, 1) := by decide +kernel
theorem dX4_run_44 : decode cX4_run 44 = .ok (.ixor, 1) := by decide +kernel
theorem dX4_run_45 : decode cX4_run 45 = .ok (.aload_n 0, 1) := by decide +kernel
theorem dX4_run_46 : decode cX4_run 46 = .ok (.getfield 9, 3) := by decide +kernel
theorem dX4_run_49 : decode cX4_run 49 = .ok (.iload 4, 2) := by decide +kernel
theorem dX4_run_51 : decode cX4_run 51 = .ok (.iaload, 1) := by decide +kernel
theorem dX4_run_52 : decode cX4_run 52 = .ok (.aload_n 0, 1) := by decide +kernel
theorem dX4_run_53 : decode cX4_run 53 = .ok (.getfield 9, 3) := by decide +kernel
theorem dX4_run_56 : decode cX4_run 56 = .ok (.iload 4, 2) := by decide +kernel
theorem dX4_run_58 : decode cX4_run 58 = .ok (.iload_n 3, 1) := by decide +kernel
theorem dX4_run_59 : decode cX4_run 59 = .ok (.isub, 1) := by decide +kernel
theorem dX4_run_60 : decode cX4_run 60 = .ok (.iaload, 1) := by decide +kernel
theorem dX4_run_61 : decode cX4_run 61 = .ok (.ixor, 1) := by decide +kernel
theorem dX4_run_62 : decode cX4_run 62 = .ok (.invokevirtual 22, 3) := by decide +kernel
theorem dX4_run_65 : decode cX4_run 65 = .ok (.iastore, 1) := by decide +kernel
theorem dX4_run_66 : decode cX4_run 66 = .ok (.iinc 4 (-1), 3) := by decide +kernel
theorem dX4_run_69 : decode cX4_run 69 = .ok (.goto (-57), 3) := by decide +kernel
theorem dX4_run_72 : decode cX4_run 72 = .ok (.iinc 3 1, 3) := by decide +kernel
theorem dX4_run_75 : decode cX4_run 75 = .ok (.goto (-73), 3) := by decide +kernel
theorem dX4_run_78 : decode cX4_run 78 = .ok (.aload_n 2, 1) := by decide +kernel
theorem dX4_run_79 : decode cX4_run 79 = .ok (.invokevirtual 28, 3) := by decide +kernel
theorem dX4_run_82 : decode cX4_run 82 = .ok (.iload_n 1, 1) := by decide +kernel
theorem dX4_run_83 : decode cX4_run 83 = .ok (.iconst 1, 1) := by decide +kernel
theorem dX4_run_84 : decode cX4_run 84 = .ok (.isub, 1) := by decide +kernel
theorem dX4_run_85 : decode cX4_run 85 = .ok (.istore_n 3, 1) := by decide +kernel
theorem dX4_run_86 : decode cX4_run 86 = .ok (.iload_n 3, 1) := by decide +kernel
theorem dX4_run_87 : decode cX4_run 87 = .ok (.ifCond .lt 26, 3) := by decide +kernel
theorem dX4_run_90 : decode cX4_run 90 = .ok (.aload_n 0, 1) := by decide +kernel
theorem dX4_run_91 : decode cX4_run 91 = .ok (.aload_n 2, 1) := by decide +kernel
theorem dX4_run_92 : decode cX4_run 92 = .ok (.aload_n 0, 1) := by decide +kernel
theorem dX4_run_93 : decode cX4_run 93 = .ok (.getfield 9, 3) := by decide +kernel
theorem dX4_run_96 : decode cX4_run 96 = .ok (.iload_n 3, 1) := by decide +kernel
theorem dX4_run_97 : decode cX4_run 97 = .ok (.iaload, 1) := by decide +kernel
theorem dX4_run_98 : decode cX4_run 98 = .ok (.aload_n 0, 1) := by decide +kernel
theorem dX4_run_99 : decode cX4_run 99 = .ok (.getfield 15, 3) := by decide +kernel
theorem dX4_run_102 : decode cX4_run 102 = .ok (.iload_n 3, 1) := by decide +kernel
theorem dX4_run_103 : decode cX4_run 103 = .ok (.iaload, 1) := by decide +kernel
theorem dX4_run_104 : decode cX4_run 104 = .ok (.invokevirtual 33, 3) := by decide +kernel
theorem dX4_run_107 : decode cX4_run 107 = .ok (.iinc 3 (-1), 3) := by decide +kernel
theorem dX4_run_110 : decode cX4_run 110 = .ok (.goto (-24), 3) := by decide +kernel
theorem dX4_run_113 : decode cX4_run 113 = .ok (.return_, 1) := by decide +kernel
theorem dX4_multiplyAndAdd_0 : decode cX4_multiplyAndAdd 0 = .ok (.aload_n 1, 1) := by decide +kernel
theorem dX4_multiplyAndAdd_1 : decode cX4_multiplyAndAdd 1 = .ok (.getfield 37, 3) := by decide +kernel
theorem dX4_multiplyAndAdd_4 : decode cX4_multiplyAndAdd 4 = .ok (.iconst 1, 1) := by decide +kernel
theorem dX4_multiplyAndAdd_5 : decode cX4_multiplyAndAdd 5 = .ok (.iadd, 1) := by decide +kernel
theorem dX4_multiplyAndAdd_6 : decode cX4_multiplyAndAdd 6 = .ok (.istore 4, 2) := by decide +kernel
theorem dX4_multiplyAndAdd_8 : decode cX4_multiplyAndAdd 8 = .ok (.iload 4, 2) := by decide +kernel
theorem dX4_multiplyAndAdd_10 : decode cX4_multiplyAndAdd 10 = .ok (.istore 5, 2) := by decide +kernel
theorem dX4_multiplyAndAdd_12 : decode cX4_multiplyAndAdd 12 = .ok (.iload 5, 2) := by decide +kernel
theorem dX4_multiplyAndAdd_14 : decode cX4_multiplyAndAdd 14 = .ok (.ifCond .lt 54, 3) := by decide +kernel
theorem dX4_multiplyAndAdd_17 : decode cX4_multiplyAndAdd 17 = .ok (.iload 5, 2) := by decide +kernel
theorem dX4_multiplyAndAdd_19 : decode cX4_multiplyAndAdd 19 = .ok (.ifCond .le 15, 3) := by decide +kernel
theorem dX4_multiplyAndAdd_22 : decode cX4_multiplyAndAdd 22 = .ok (.aload_n 1, 1) := by decide +kernel
theorem dX4_multiplyAndAdd_23 : decode cX4_multiplyAndAdd 23 = .ok (.getfield 41, 3) := by decide +kernel
theorem dX4_multiplyAndAdd_26 : decode cX4_multiplyAndAdd 26 = .ok (.iload 5, 2) := by decide +kernel
theorem dX4_multiplyAndAdd_28 : decode cX4_multiplyAndAdd 28 = .ok (.iconst 1, 1) := by decide +kernel
theorem dX4_multiplyAndAdd_29 : decode cX4_multiplyAndAdd 29 = .ok (.isub, 1) := by decide +kernel
theorem dX4_multiplyAndAdd_30 : decode cX4_multiplyAndAdd 30 = .ok (.iaload, 1) := by decide +kernel
theorem dX4_multiplyAndAdd_31 : decode cX4_multiplyAndAdd 31 = .ok (.goto 4, 3) := by decide +kernel
theorem dX4_multiplyAndAdd_34 : decode cX4_multiplyAndAdd 34 = .ok (.iload_n 3, 1) := by decide +kernel
theorem dX4_multiplyAndAdd_35 : decode cX4_multiplyAndAdd 35 = .ok (.istore 6, 2) := by decide +kernel
theorem dX4_multiplyAndAdd_37 : decode cX4_multiplyAndAdd 37 = .ok (.aload_n 1, 1) := by decide +kernel
theorem dX4_multiplyAndAdd_38 : decode cX4_multiplyAndAdd 38 = .ok (.getfield 41, 3) := by decide +kernel
theorem dX4_multiplyAndAdd_41 : decode cX4_multiplyAndAdd 41 = .ok (.iload 5, 2) := by decide +kernel
theorem dX4_multiplyAndAdd_43 : decode cX4_multiplyAndAdd 43 = .ok (.aload_n 0, 1) := by decide +kernel
theorem dX4_multiplyAndAdd_44 : decode cX4_multiplyAndAdd 44 = .ok (.getfield 18, 3) := by decide +kernel
theorem dX4_multiplyAndAdd_47 : decode cX4_multiplyAndAdd 47 = .ok (.aload_n 1, 1) := by decide +kernel
theorem dX4_multiplyAndAdd_48 : decode cX4_multiplyAndAdd 48 = .ok (.getfield 41, 3) := by decide +kernel
theorem dX4_multiplyAndAdd_51 : decode cX4_multiplyAndAdd 51 = .ok (.iload 5, 2) := by decide +kernel
theorem dX4_multiplyAndAdd_53 : decode cX4_multiplyAndAdd 53 = .ok (.iaload, 1) := by decide +kernel
theorem dX4_multiplyAndAdd_54 : decode cX4_multiplyAndAdd 54 = .ok (.iload_n 2, 1) := by decide +kernel
theorem dX4_multiplyAndAdd_55 : decode cX4_multiplyAndAdd 55 = .ok (.invokevirtual 44, 3) := by decide +kernel
theorem dX4_multiplyAndAdd_58 : decode cX4_multiplyAndAdd 58 = .ok (.iload 6, 2) := by decide +kernel
theorem dX4_multiplyAndAdd_60 : decode cX4_multiplyAndAdd 60 = .ok (.ixor, 1) := by decide +kernel
theorem dX4_multiplyAndAdd_61 : decode cX4_multiplyAndAdd 61 = .ok (.iastore, 1) := by decide +kernel
theorem dX4_multiplyAndAdd_62 : decode cX4_multiplyAndAdd 62 = .ok (.iinc 5 (-1), 3) := by decide +kernel
theorem dX4_multiplyAndAdd_65 : decode cX4_multiplyAndAdd 65 = .ok (.goto (-53), 3) := by decide +kernel
theorem dX4_multiplyAndAdd_68 : decode cX4_multiplyAndAdd 68 = .ok (.aload_n 1, 1) := by decide +kernel
theorem dX4_multiplyAndAdd_69 : decode cX4_multiplyAndAdd 69 = .ok (.iload 4, 2) := by decide +kernel
theorem dX4_multiplyAndAdd_71 : decode cX4_multiplyAndAdd 71 = .ok (.invokevirtual 47, 3) := by decide +kernel
theorem dX4_multiplyAndAdd_74 : decode cX4_multiplyAndAdd 74 = .ok (.return_, 1) := by decide +kernel
theorem dX5_init_0 : decode cX5_init 0 = .ok (.aload_n 0, 1) := by decide +kernel
theorem dX5_init_1 : decode cX5_init 1 = .ok (.invokespecial 1, 3) := by decide +kernel
theorem dX5_init_4 : decode cX5_init 4 = .ok (.aload_n 0, 1) := by decide +kernel
theorem dX5_init_5 : decode cX5_init 5 = .ok (.iload_n 1, 1) := by decide +kernel
theorem dX5_init_6 : decode cX5_init 6 = .ok (.putfield 7, 3) := by decide +kernel
theorem dX5_init_9 : decode cX5_init 9 = .ok (.aload_n 0, 1) := by decide +kernel
theorem dX5_init_10 : decode cX5_init 10 = .ok (.iload_n 2, 1) := by decide +kernel
theorem dX5_init_11 : decode cX5_init 11 = .ok (.putfield 13, 3) := by decide +kernel
theorem dX5_init_14 : decode cX5_init 14 = .ok (.aload_n 0, 1) := by decide +kernel
theorem dX5_init_15 : decode cX5_init 15 = .ok (.iload_n 1, 1) := by decide +kernel
theorem dX5_init_16 : decode cX5_init 16 = .ok (.iload_n 2, 1) := by decide +kernel
theorem dX5_init_17 : decode cX5_init 17 = .ok (.imul, 1) := by decide +kernel
theorem dX5_init_18 : decode cX5_init 18 = .ok (.newarray .int, 2) := by decide +kernel
theorem dX5_init_20 : decode cX5_init 20 = .ok (.putfield 16, 3) := by decide +kernel
theorem dX5_init_23 : decode cX5_init 23 = .ok (.return_, 1) := by decide +kernel
theorem dX6_init_0 : decode cX6_init 0 = .ok (.aload_n 0, 1) := by decide +kernel
theorem dX6_init_1 : decode cX6_init 1 = .ok (.invokespecial 3, 3) := by decide +kernel
theorem dX6_init_4 : decode cX6_init 4 = .ok (.aload_n 0, 1) := by decide +kernel
theorem dX6_init_5 : decode cX6_init 5 = .ok (.bipush 9, 2) := by decide +kernel
theorem dX6_init_7 : decode cX6_init 7 = .ok (.sipush 256, 3) := by decide +kernel
theorem dX6_init_10 : decode cX6_init 10 = .ok (.multianewarray 9 2, 4) := by decide +kernel
theorem dX6_init_14 : decode cX6_init 14 = .ok (.putfield 11, 3) := by decide +kernel
theorem dX6_init_17 : decode cX6_init 17 = .ok (.aload_n 0, 1) := by decide +kernel
theorem dX6_init_18 : decode cX6_init 18 = .ok (.aload_n 1, 1) := by decide +kernel
theorem dX6_init_19 : decode cX6_init 19 = .ok (.putfield 16, 3) := by decide +kernel
theorem dX6_init_22 : decode cX6_init 22 = .ok (.return_, 1) := by decide +kernel
theorem dX6_countZeros_0 : decode cX6_countZeros 0 = .ok (.aload_n 0, 1) := by decide +kernel
theorem dX6_countZeros_1 : decode cX6_countZeros 1 = .ok (.getfield 11, 3) := by decide +kernel
theorem dX6_countZeros_4 : decode cX6_countZeros 4 = .ok (.iconst 0, 1) := by decide +kernel
theorem dX6_countZeros_5 : decode cX6_countZeros 5 = .ok (.aaload, 1) := by decide +kernel
theorem dX6_countZeros_6 : decode cX6_countZeros 6 = .ok (.iconst 0, 1) := by decide +kernel
theorem dX6_countZeros_7 : decode cX6_countZeros 7 = .ok (.iconst 1, 1) := by decide +kernel
theorem dX6_countZeros_8 : decode cX6_countZeros 8 = .ok (.iastore, 1) := by decide +kernel
theorem dX6_countZeros_9 : decode cX6_countZeros 9 = .ok (.iconst 0, 1) := by decide +kernel
theorem dX6_countZeros_10 : decode cX6_countZeros 10 = .ok (.istore_n 2, 1) := by decide +kernel
theorem dX6_countZeros_11 : decode cX6_countZeros 11 = .ok (.iconst 1, 1) := by decide +kernel
theorem dX6_countZeros_12 : decode cX6_countZeros 12 = .ok (.istore_n 3, 1) := by decide +kernel
theorem dX6_countZeros_13 : decode cX6_countZeros 13 = .ok (.iload_n 3, 1) := by decide +kernel
theorem dX6_countZeros_14 : decode cX6_countZeros 14 = .ok (.iconst 1, 1) := by decide +kernel
theorem dX6_countZeros_15 : decode cX6_countZeros 15 = .ok (.aload_n 1, 1) := by decide +kernel
theorem dX6_countZeros_16 : decode cX6_countZeros 16 = .ok (.getfield 20, 3) := by decide +kernel
theorem dX6_countZeros_19 : decode cX6_countZeros 19 = .ok (.ishl, 1) := by decide +kernel
theorem dX6_countZeros_20 : decode cX6_countZeros 20 = .ok (.if_icmp .ge 33, 3) := by decide +kernel
theorem dX6_countZeros_23 : decode cX6_countZeros 23 = .ok (.iload_n 3, 1) := by decide +kernel
theorem dX6_countZeros_24 : decode cX6_countZeros 24 = .ok (.invokestatic 26, 3) := by decide +kernel
theorem dX6_countZeros_27 : decode cX6_countZeros 27 = .ok (.istore 4, 2) := by decide +kernel
theorem dX6_countZeros_29 : decode cX6_countZeros 29 = .ok (.iload_n 3, 1) := by decide +kernel
theorem dX6_countZeros_30 : decode cX6_countZeros 30 = .ok (.invokestatic 32, 3) := by decide +kernel
theorem dX6_countZeros_33 : decode cX6_countZeros 33 = .ok (.istore 5, 2) := by decide +kernel
theorem dX6_countZeros_35 : decode cX6_countZeros 35 = .ok (.iload_n 2, 1) := by decide +kernel
theorem dX6_countZeros_36 : decode cX6_countZeros 36 = .ok (.aload_n 0, 1) := by decide +kernel
theorem dX6_countZeros_37 : decode cX6_countZeros 37 = .ok (.aload_n 1, 1) := by decide +kernel
theorem dX6_countZeros_38 : decode cX6_countZeros 38 = .ok (.iload 5, 2) := by decide +kernel
theorem dX6_countZeros_40 : decode cX6_countZeros 40 = .ok (.iload 4, 2) := by decide +kernel
theorem dX6_countZeros_42 : decode cX6_countZeros 42 = .ok (.invokevirtual 35, 3) := by decide +kernel
theorem dX6_countZeros_45 : decode cX6_countZeros 45 = .ok (.iadd, 1) := by decide +kernel
theorem dX6_countZeros_46 : decode cX6_countZeros 46 = .ok (.istore_n 2, 1) := by decide +kernel
theorem dX6_countZeros_47 : decode cX6_countZeros 47 = .ok (.iinc 3 1, 3) := by decide +kernel
theorem dX6_countZeros_50 : decode cX6_countZeros 50 = .ok (.goto (-37), 3) := by decide +kernel
theorem dX6_countZeros_53 : decode cX6_countZeros 53 = .ok (.iload_n 2, 1) := by decide +kernel
theorem dX6_countZeros_54 : decode cX6_countZeros 54 = .ok (.ireturn, 1) := by decide +kernel
theorem dX6_addRow_0 : decode cX6_addRow 0 = .ok (.iconst 0, 1) := by decide +kernel
theorem dX6_addRow_1 : decode cX6_addRow 1 = .ok (.istore 4, 2) := by decide +kernel
theorem dX6_addRow_3 : decode cX6_addRow 3 = .ok (.iconst 1, 1) := by decide +kernel
theorem dX6_addRow_4 : decode cX6_addRow 4 = .ok (.istore 5, 2) := by decide +kernel
theorem dX6_addRow_6 : decode cX6_addRow 6 = .ok (.iload 5, 2) := by decide +kernel
theorem dX6_addRow_8 : decode cX6_addRow 8 = .ok (.iconst 1, 1) := by decide +kernel
theorem dX6_addRow_9 : decode cX6_addRow 9 = .ok (.aload_n 1, 1) := by decide +kernel
theorem dX6_addRow_10 : decode cX6_addRow 10 = .ok (.getfield 39, 3) := by decide +kernel
theorem dX6_addRow_13 : decode cX6_addRow 13 = .ok (.ishl, 1) := by decide +kernel
theorem dX6_addRow_14 : decode cX6_addRow 14 = .ok (.if_icmp .ge 62, 3) := by decide +kernel
theorem dX6_addRow_17 : decode cX6_addRow 17 = .ok (.iload 5, 2) := by decide +kernel
theorem dX6_addRow_19 : decode cX6_addRow 19 = .ok (.invokestatic 26, 3) := by decide +kernel
theorem dX6_addRow_22 : decode cX6_addRow 22 = .ok (.iload_n 3, 1) := by decide +kernel
theorem dX6_addRow_23 : decode cX6_addRow 23 = .ok (.if_icmp .ne 47, 3) := by decide +kernel
theorem dX6_addRow_26 : decode cX6_addRow 26 = .ok (.aload_n 0, 1) := by decide +kernel
theorem dX6_addRow_27 : decode cX6_addRow 27 = .ok (.aload_n 1, 1) := by decide +kernel
theorem dX6_addRow_28 : decode cX6_addRow 28 = .ok (.iload_n 2, 1) := by decide +kernel
theorem dX6_addRow_29 : decode cX6_addRow 29 = .ok (.iload 5, 2) := by decide +kernel
theorem dX6_addRow_31 : decode cX6_addRow 31 = .ok (.aload_n 0, 1) := by decide +kernel
theorem dX6_addRow_32 : decode cX6_addRow 32 = .ok (.getfield 11, 3) := by decide +kernel
theorem dX6_addRow_35 : decode cX6_addRow 35 = .ok (.iload_n 3, 1) := by decide +kernel
theorem dX6_addRow_36 : decode cX6_addRow 36 = .ok (.iconst 1, 1) := by decide +kernel
theorem dX6_addRow_37 : decode cX6_addRow 37 = .ok (.isub, 1) := by decide +kernel
theorem dX6_addRow_38 : decode cX6_addRow 38 = .ok (.aaload, 1) := by decide +kernel
theorem dX6_addRow_39 : decode cX6_addRow 39 = .ok (.invokevirtual 42, 3) := by decide +kernel
theorem dX6_addRow_42 : decode cX6_addRow 42 = .ok (.istore 6, 2) := by decide +kernel
theorem dX6_addRow_44 : decode cX6_addRow 44 = .ok (.aload_n 0, 1) := by decide +kernel
theorem dX6_addRow_45 : decode cX6_addRow 45 = .ok (.getfield 11, 3) := by decide +kernel
theorem dX6_addRow_48 : decode cX6_addRow 48 = .ok (.iload_n 3, 1) := by decide +kernel
theorem dX6_addRow_49 : decode cX6_addRow 49 = .ok (.aaload, 1) := by decide +kernel
theorem dX6_addRow_50 : decode cX6_addRow 50 = .ok (.iload 5, 2) := by decide +kernel
theorem dX6_addRow_52 : decode cX6_addRow 52 = .ok (.iload 6, 2) := by decide +kernel
theorem dX6_addRow_54 : decode cX6_addRow 54 = .ok (.iastore, 1) := by decide +kernel
theorem dX6_addRow_55 : decode cX6_addRow 55 = .ok (.iload 4, 2) := by decide +kernel
theorem dX6_addRow_57 : decode cX6_addRow 57 = .ok (.iload 6, 2) := by decide +kernel
theorem dX6_addRow_59 : decode cX6_addRow 59 = .ok (.ifCond .ne 7, 3) := by decide +kernel
theorem dX6_addRow_62 : decode cX6_addRow 62 = .ok (.iconst 1, 1) := by decide +kernel
theorem dX6_addRow_63 : decode cX6_addRow 63 = .ok (.goto 4, 3) := by decide +kernel
theorem dX6_addRow_66 : decode cX6_addRow 66 = .ok (.iconst 0, 1) := by decide +kernel
theorem dX6_addRow_67 : decode cX6_addRow 67 = .ok (.iadd, 1) := by decide +kernel
theorem dX6_addRow_68 : decode cX6_addRow 68 = .ok (.istore 4, 2) := by decide +kernel
theorem dX6_addRow_70 : decode cX6_addRow 70 = .ok (.iinc 5 1, 3) := by decide +kernel
theorem dX6_addRow_73 : decode cX6_addRow 73 = .ok (.goto (-67), 3) := by decide +kernel
theorem dX6_addRow_76 : decode cX6_addRow 76 = .ok (.iload 4, 2) := by decide +kernel
theorem dX6_addRow_78 : decode cX6_addRow 78 = .ok (.ireturn, 1) := by decide +kernel
theorem dX6_expanded_0 : decode cX6_expanded 0 = .ok (.iconst 0, 1) := by decide +kernel
theorem dX6_expanded_1 : decode cX6_expanded 1 = .ok (.istore 5, 2) := by decide +kernel
theorem dX6_expanded_3 : decode cX6_expanded 3 = .ok (.iconst 0, 1) := by decide +kernel
theorem dX6_expanded_4 : decode cX6_expanded 4 = .ok (.istore 6, 2) := by decide +kernel
theorem dX6_expanded_6 : decode cX6_expanded 6 = .ok (.iload 6, 2) := by decide +kernel
theorem dX6_expanded_8 : decode cX6_expanded 8 = .ok (.aload_n 1, 1) := by decide +kernel
theorem dX6_expanded_9 : decode cX6_expanded 9 = .ok (.getfield 39, 3) := by decide +kernel
theorem dX6_expanded_12 : decode cX6_expanded 12 = .ok (.if_icmp .ge 53, 3) := by decide +kernel
theorem dX6_expanded_15 : decode cX6_expanded 15 = .ok (.iload_n 3, 1) := by decide +kernel
theorem dX6_expanded_16 : decode cX6_expanded 16 = .ok (.iload 6, 2) := by decide +kernel
theorem dX6_expanded_18 : decode cX6_expanded 18 = .ok (.ishr, 1) := by decide +kernel
theorem dX6_expanded_19 : decode cX6_expanded 19 = .ok (.iconst 1, 1) := by decide +kernel
theorem dX6_expanded_20 : decode cX6_expanded 20 = .ok (.iand, 1) := by decide +kernel
theorem dX6_expanded_21 : decode cX6_expanded 21 = .ok (.ifCond .eq 38, 3) := by decide +kernel
theorem dX6_expanded_24 : decode cX6_expanded 24 = .ok (.iload 5, 2) := by decide +kernel
theorem dX6_expanded_26 : decode cX6_expanded 26 = .ok (.aload_n 0, 1) := by decide +kernel
theorem dX6_expanded_27 : decode cX6_expanded 27 = .ok (.getfield 16, 3) := by decide +kernel
theorem dX6_expanded_30 : decode cX6_expanded 30 = .ok (.aload_n 1, 1) := by decide +kernel
theorem dX6_expanded_31 : decode cX6_expanded 31 = .ok (.getfield 46, 3) := by decide +kernel
theorem dX6_expanded_34 : decode cX6_expanded 34 = .ok (.iload_n 2, 1) := by decide +kernel
theorem dX6_expanded_35 : decode cX6_expanded 35 = .ok (.aload_n 1, 1) := by decide +kernel
theorem dX6_expanded_36 : decode cX6_expanded 36 = .ok (.getfield 39, 3) := by decide +kernel
theorem dX6_expanded_39 : decode cX6_expanded 39 = .ok (.imul, 1) := by decide +kernel
theorem dX6_expanded_40 : decode cX6_expanded 40 = .ok (.iload 6, 2) := by decide +kernel
theorem dX6_expanded_42 : decode cX6_expanded 42 = .ok (.iadd, 1) := by decide +kernel
theorem dX6_expanded_43 : decode cX6_expanded 43 = .ok (.iaload, 1) := by decide +kernel
theorem dX6_expanded_44 : decode cX6_expanded 44 = .ok (.aload 4, 2) := by decide +kernel
theorem dX6_expanded_46 : decode cX6_expanded 46 = .ok (.iload_n 3, 1) := by decide +kernel
theorem dX6_expanded_47 : decode cX6_expanded 47 = .ok (.iconst 1, 1) := by decide +kernel
theorem dX6_expanded_48 : decode cX6_expanded 48 = .ok (.iload 6, 2) := by decide +kernel
theorem dX6_expanded_50 : decode cX6_expanded 50 = .ok (.ishl, 1) := by decide +kernel
theorem dX6_expanded_51 : decode cX6_expanded 51 = .ok (.ixor, 1) := by decide +kernel
theorem dX6_expanded_52 : decode cX6_expanded 52 = .ok (.iaload, 1) := by decide +kernel
theorem dX6_expanded_53 : decode cX6_expanded 53 = .ok (.invokevirtual 50, 3) := by decide +kernel
theorem dX6_expanded_56 : decode cX6_expanded 56 = .ok (.ixor, 1) := by decide +kernel
theorem dX6_expanded_57 : decode cX6_expanded 57 = .ok (.istore 5, 2) := by decide +kernel
theorem dX6_expanded_59 : decode cX6_expanded 59 = .ok (.iinc 6 1, 3) := by decide +kernel
theorem dX6_expanded_62 : decode cX6_expanded 62 = .ok (.goto (-56), 3) := by decide +kernel
theorem dX6_expanded_65 : decode cX6_expanded 65 = .ok (.iload 5, 2) := by decide +kernel
theorem dX6_expanded_67 : decode cX6_expanded 67 = .ok (.ireturn, 1) := by decide +kernel
theorem dX7_init_0 : decode cX7_init 0 = .ok (.aload_n 0, 1) := by decide +kernel
theorem dX7_init_1 : decode cX7_init 1 = .ok (.invokespecial 3, 3) := by decide +kernel
theorem dX7_init_4 : decode cX7_init 4 = .ok (.aload_n 0, 1) := by decide +kernel
theorem dX7_init_5 : decode cX7_init 5 = .ok (.iconst (-1), 1) := by decide +kernel
theorem dX7_init_6 : decode cX7_init 6 = .ok (.putfield 9, 3) := by decide +kernel
theorem dX7_init_9 : decode cX7_init 9 = .ok (.aload_n 0, 1) := by decide +kernel
theorem dX7_init_10 : decode cX7_init 10 = .ok (.aconst_null, 1) := by decide +kernel
theorem dX7_init_11 : decode cX7_init 11 = .ok (.putfield 15, 3) := by decide +kernel
theorem dX7_init_14 : decode cX7_init 14 = .ok (.aload_n 0, 1) := by decide +kernel
theorem dX7_init_15 : decode cX7_init 15 = .ok (.iload_n 1, 1) := by decide +kernel
theorem dX7_init_16 : decode cX7_init 16 = .ok (.newarray .int, 2) := by decide +kernel
theorem dX7_init_18 : decode cX7_init 18 = .ok (.putfield 19, 3) := by decide +kernel
theorem dX7_init_21 : decode cX7_init 21 = .ok (.return_, 1) := by decide +kernel
theorem dX7_clear_0 : decode cX7_clear 0 = .ok (.iconst 0, 1) := by decide +kernel
theorem dX7_clear_1 : decode cX7_clear 1 = .ok (.istore_n 1, 1) := by decide +kernel
theorem dX7_clear_2 : decode cX7_clear 2 = .ok (.iload_n 1, 1) := by decide +kernel
theorem dX7_clear_3 : decode cX7_clear 3 = .ok (.aload_n 0, 1) := by decide +kernel
theorem dX7_clear_4 : decode cX7_clear 4 = .ok (.getfield 9, 3) := by decide +kernel
theorem dX7_clear_7 : decode cX7_clear 7 = .ok (.if_icmp .gt 16, 3) := by decide +kernel
theorem dX7_clear_10 : decode cX7_clear 10 = .ok (.aload_n 0, 1) := by decide +kernel
theorem dX7_clear_11 : decode cX7_clear 11 = .ok (.getfield 19, 3) := by decide +kernel
theorem dX7_clear_14 : decode cX7_clear 14 = .ok (.iload_n 1, 1) := by decide +kernel
theorem dX7_clear_15 : decode cX7_clear 15 = .ok (.iconst 0, 1) := by decide +kernel
theorem dX7_clear_16 : decode cX7_clear 16 = .ok (.iastore, 1) := by decide +kernel
theorem dX7_clear_17 : decode cX7_clear 17 = .ok (.iinc 1 1, 3) := by decide +kernel
theorem dX7_clear_20 : decode cX7_clear 20 = .ok (.goto (-18), 3) := by decide +kernel
theorem dX7_clear_23 : decode cX7_clear 23 = .ok (.aload_n 0, 1) := by decide +kernel
theorem dX7_clear_24 : decode cX7_clear 24 = .ok (.iconst (-1), 1) := by decide +kernel
theorem dX7_clear_25 : decode cX7_clear 25 = .ok (.putfield 9, 3) := by decide +kernel
theorem dX7_clear_28 : decode cX7_clear 28 = .ok (.return_, 1) := by decide +kernel
theorem dX7_load_0 : decode cX7_load 0 = .ok (.aload_n 0, 1) := by decide +kernel
theorem dX7_load_1 : decode cX7_load 1 = .ok (.invokevirtual 22, 3) := by decide +kernel
theorem dX7_load_4 : decode cX7_load 4 = .ok (.aload_n 1, 1) := by decide +kernel
theorem dX7_load_5 : decode cX7_load 5 = .ok (.iconst 0, 1) := by decide +kernel
theorem dX7_load_6 : decode cX7_load 6 = .ok (.aload_n 0, 1) := by decide +kernel
theorem dX7_load_7 : decode cX7_load 7 = .ok (.getfield 19, 3) := by decide +kernel
theorem dX7_load_10 : decode cX7_load 10 = .ok (.iconst 0, 1) := by decide +kernel
theorem dX7_load_11 : decode cX7_load 11 = .ok (.iload_n 2, 1) := by decide +kernel
theorem dX7_load_12 : decode cX7_load 12 = .ok (.invokestatic 25, 3) := by decide +kernel
theorem dX7_load_15 : decode cX7_load 15 = .ok (.aload_n 0, 1) := by decide +kernel
theorem dX7_load_16 : decode cX7_load 16 = .ok (.iload_n 2, 1) := by decide +kernel
theorem dX7_load_17 : decode cX7_load 17 = .ok (.iconst 1, 1) := by decide +kernel
theorem dX7_load_18 : decode cX7_load 18 = .ok (.isub, 1) := by decide +kernel
theorem dX7_load_19 : decode cX7_load 19 = .ok (.invokevirtual 31, 3) := by decide +kernel
theorem dX7_load_22 : decode cX7_load 22 = .ok (.return_, 1) := by decide +kernel
theorem dX7_copyFrom_0 : decode cX7_copyFrom 0 = .ok (.aload_n 0, 1) := by decide +kernel
theorem dX7_copyFrom_1 : decode cX7_copyFrom 1 = .ok (.aload_n 1, 1) := by decide +kernel
theorem dX7_copyFrom_2 : decode cX7_copyFrom 2 = .ok (.getfield 19, 3) := by decide +kernel
theorem dX7_copyFrom_5 : decode cX7_copyFrom 5 = .ok (.aload_n 1, 1) := by decide +kernel
theorem dX7_copyFrom_6 : decode cX7_copyFrom 6 = .ok (.getfield 9, 3) := by decide +kernel
theorem dX7_copyFrom_9 : decode cX7_copyFrom 9 = .ok (.iconst 1, 1) := by decide +kernel
theorem dX7_copyFrom_10 : decode cX7_copyFrom 10 = .ok (.iadd, 1) := by decide +kernel
theorem dX7_copyFrom_11 : decode cX7_copyFrom 11 = .ok (.invokevirtual 35, 3) := by decide +kernel
theorem dX7_copyFrom_14 : decode cX7_copyFrom 14 = .ok (.return_, 1) := by decide +kernel
theorem dX7_settle_0 : decode cX7_settle 0 = .ok (.iload_n 1, 1) := by decide +kernel
theorem dX7_settle_1 : decode cX7_settle 1 = .ok (.istore_n 2, 1) := by decide +kernel
theorem dX7_settle_2 : decode cX7_settle 2 = .ok (.iload_n 2, 1) := by decide +kernel
theorem dX7_settle_3 : decode cX7_settle 3 = .ok (.ifCond .lt 18, 3) := by decide +kernel
theorem dX7_settle_6 : decode cX7_settle 6 = .ok (.aload_n 0, 1) := by decide +kernel
theorem dX7_settle_7 : decode cX7_settle 7 = .ok (.getfield 19, 3) := by decide +kernel
theorem dX7_settle_10 : decode cX7_settle 10 = .ok (.iload_n 2, 1) := by decide +kernel
theorem dX7_settle_11 : decode cX7_settle 11 = .ok (.iaload, 1) := by decide +kernel
theorem dX7_settle_12 : decode cX7_settle 12 = .ok (.ifCond .ne 9, 3) := by decide +kernel
theorem dX7_settle_15 : decode cX7_settle 15 = .ok (.iinc 2 (-1), 3) := by decide +kernel
theorem dX7_settle_18 : decode cX7_settle 18 = .ok (.goto (-16), 3) := by decide +kernel
theorem dX7_settle_21 : decode cX7_settle 21 = .ok (.aload_n 0, 1) := by decide +kernel
theorem dX7_settle_22 : decode cX7_settle 22 = .ok (.iload_n 2, 1) := by decide +kernel
theorem dX7_settle_23 : decode cX7_settle 23 = .ok (.ifCond .ge 7, 3) := by decide +kernel
theorem dX7_settle_26 : decode cX7_settle 26 = .ok (.iconst (-1), 1) := by decide +kernel
theorem dX7_settle_27 : decode cX7_settle 27 = .ok (.goto 4, 3) := by decide +kernel
theorem dX7_settle_30 : decode cX7_settle 30 = .ok (.iload_n 2, 1) := by decide +kernel
theorem dX7_settle_31 : decode cX7_settle 31 = .ok (.putfield 9, 3) := by decide +kernel
theorem dX7_settle_34 : decode cX7_settle 34 = .ok (.return_, 1) := by decide +kernel
theorem dX7_addScaled_0 : decode cX7_addScaled 0 = .ok (.aload_n 1, 1) := by decide +kernel
theorem dX7_addScaled_1 : decode cX7_addScaled 1 = .ok (.aload_n 0, 1) := by decide +kernel
theorem dX7_addScaled_2 : decode cX7_addScaled 2 = .ok (.getfield 19, 3) := by decide +kernel
theorem dX7_addScaled_5 : decode cX7_addScaled 5 = .ok (.iconst 0, 1) := by decide +kernel
theorem dX7_addScaled_6 : decode cX7_addScaled 6 = .ok (.aload_n 2, 1) := by decide +kernel
theorem dX7_addScaled_7 : decode cX7_addScaled 7 = .ok (.getfield 19, 3) := by decide +kernel
theorem dX7_addScaled_10 : decode cX7_addScaled 10 = .ok (.iconst 0, 1) := by decide +kernel
theorem dX7_addScaled_11 : decode cX7_addScaled 11 = .ok (.aload_n 2, 1) := by decide +kernel
theorem dX7_addScaled_12 : decode cX7_addScaled 12 = .ok (.getfield 9, 3) := by decide +kernel
theorem dX7_addScaled_15 : decode cX7_addScaled 15 = .ok (.iconst 1, 1) := by decide +kernel
theorem dX7_addScaled_16 : decode cX7_addScaled 16 = .ok (.iadd, 1) := by decide +kernel
theorem dX7_addScaled_17 : decode cX7_addScaled 17 = .ok (.iload_n 3, 1) := by decide +kernel
theorem dX7_addScaled_18 : decode cX7_addScaled 18 = .ok (.invokevirtual 39, 3) := by decide +kernel
theorem dX7_addScaled_21 : decode cX7_addScaled 21 = .ok (.aload_n 0, 1) := by decide +kernel
theorem dX7_addScaled_22 : decode cX7_addScaled 22 = .ok (.aload_n 0, 1) := by decide +kernel
theorem dX7_addScaled_23 : decode cX7_addScaled 23 = .ok (.getfield 9, 3) := by decide +kernel
theorem dX7_addScaled_26 : decode cX7_addScaled 26 = .ok (.aload_n 2, 1) := by decide +kernel
theorem dX7_addScaled_27 : decode cX7_addScaled 27 = .ok (.getfield 9, 3) := by decide +kernel
theorem dX7_addScaled_30 : decode cX7_addScaled 30 = .ok (.invokestatic 45, 3) := by decide +kernel
theorem dX7_addScaled_33 : decode cX7_addScaled 33 = .ok (.invokevirtual 31, 3) := by decide +kernel
theorem dX7_addScaled_36 : decode cX7_addScaled 36 = .ok (.return_, 1) := by decide +kernel
theorem dX7_addMember_0 : decode cX7_addMember 0 = .ok (.aload_n 0, 1) := by decide +kernel
theorem dX7_addMember_1 : decode cX7_addMember 1 = .ok (.getfield 19, 3) := by decide +kernel
theorem dX7_addMember_4 : decode cX7_addMember 4 = .ok (.iconst 0, 1) := by decide +kernel
theorem dX7_addMember_5 : decode cX7_addMember 5 = .ok (.dup2, 1) := by decide +kernel
theorem dX7_addMember_6 : decode cX7_addMember 6 = .ok (.iaload, 1) := by decide +kernel
theorem dX7_addMember_7 : decode cX7_addMember 7 = .ok (.iload_n 1, 1) := by decide +kernel
theorem dX7_addMember_8 : decode cX7_addMember 8 = .ok (.ixor, 1) := by decide +kernel
theorem dX7_addMember_9 : decode cX7_addMember 9 = .ok (.iastore, 1) := by decide +kernel
theorem dX7_addMember_10 : decode cX7_addMember 10 = .ok (.aload_n 0, 1) := by decide +kernel
theorem dX7_addMember_11 : decode cX7_addMember 11 = .ok (.aload_n 0, 1) := by decide +kernel
theorem dX7_addMember_12 : decode cX7_addMember 12 = .ok (.getfield 9, 3) := by decide +kernel
theorem dX7_addMember_15 : decode cX7_addMember 15 = .ok (.iconst 0, 1) := by decide +kernel
theorem dX7_addMember_16 : decode cX7_addMember 16 = .ok (.invokestatic 45, 3) := by decide +kernel
theorem dX7_addMember_19 : decode cX7_addMember 19 = .ok (.invokevirtual 31, 3) := by decide +kernel
theorem dX7_addMember_22 : decode cX7_addMember 22 = .ok (.return_, 1) := by decide +kernel
theorem dX7_becomeX_0 : decode cX7_becomeX 0 = .ok (.aload_n 0, 1) := by decide +kernel
theorem dX7_becomeX_1 : decode cX7_becomeX 1 = .ok (.invokevirtual 22, 3) := by decide +kernel
theorem dX7_becomeX_4 : decode cX7_becomeX 4 = .ok (.aload_n 0, 1) := by decide +kernel
theorem dX7_becomeX_5 : decode cX7_becomeX 5 = .ok (.getfield 19, 3) := by decide +kernel
theorem dX7_becomeX_8 : decode cX7_becomeX 8 = .ok (.iconst 1, 1) := by decide +kernel
theorem dX7_becomeX_9 : decode cX7_becomeX 9 = .ok (.iconst 1, 1) := by decide +kernel
theorem dX7_becomeX_10 : decode cX7_becomeX 10 = .ok (.iastore, 1) := by decide +kernel
theorem dX7_becomeX_11 : decode cX7_becomeX 11 = .ok (.aload_n 0, 1) := by decide +kernel
theorem dX7_becomeX_12 : decode cX7_becomeX 12 = .ok (.iconst 1, 1) := by decide +kernel
theorem dX7_becomeX_13 : decode cX7_becomeX 13 = .ok (.putfield 9, 3) := by decide +kernel
theorem dX7_becomeX_16 : decode cX7_becomeX 16 = .ok (.return_, 1) := by decide +kernel
theorem dX7_shiftDown_0 : decode cX7_shiftDown 0 = .ok (.iconst 0, 1) := by decide +kernel
theorem dX7_shiftDown_1 : decode cX7_shiftDown 1 = .ok (.istore_n 2, 1) := by decide +kernel
theorem dX7_shiftDown_2 : decode cX7_shiftDown 2 = .ok (.iload_n 2, 1) := by decide +kernel
theorem dX7_shiftDown_3 : decode cX7_shiftDown 3 = .ok (.aload_n 0, 1) := by decide +kernel
theorem dX7_shiftDown_4 : decode cX7_shiftDown 4 = .ok (.getfield 9, 3) := by decide +kernel
theorem dX7_shiftDown_7 : decode cX7_shiftDown 7 = .ok (.if_icmp .gt 37, 3) := by decide +kernel
theorem dX7_shiftDown_10 : decode cX7_shiftDown 10 = .ok (.aload_n 0, 1) := by decide +kernel
theorem dX7_shiftDown_11 : decode cX7_shiftDown 11 = .ok (.getfield 19, 3) := by decide +kernel
theorem dX7_shiftDown_14 : decode cX7_shiftDown 14 = .ok (.iload_n 2, 1) := by decide +kernel
theorem dX7_shiftDown_15 : decode cX7_shiftDown 15 = .ok (.iload_n 2, 1) := by decide +kernel
theorem dX7_shiftDown_16 : decode cX7_shiftDown 16 = .ok (.iload_n 1, 1) := by decide +kernel
theorem dX7_shiftDown_17 : decode cX7_shiftDown 17 = .ok (.iadd, 1) := by decide +kernel
theorem dX7_shiftDown_18 : decode cX7_shiftDown 18 = .ok (.aload_n 0, 1) := by decide +kernel
theorem dX7_shiftDown_19 : decode cX7_shiftDown 19 = .ok (.getfield 9, 3) := by decide +kernel
theorem dX7_shiftDown_22 : decode cX7_shiftDown 22 = .ok (.if_icmp .gt 14, 3) := by decide +kernel
theorem dX7_shiftDown_25 : decode cX7_shiftDown 25 = .ok (.aload_n 0, 1) := by decide +kernel
theorem dX7_shiftDown_26 : decode cX7_shiftDown 26 = .ok (.getfield 19, 3) := by decide +kernel
theorem dX7_shiftDown_29 : decode cX7_shiftDown 29 = .ok (.iload_n 2, 1) := by decide +kernel
theorem dX7_shiftDown_30 : decode cX7_shiftDown 30 = .ok (.iload_n 1, 1) := by decide +kernel
theorem dX7_shiftDown_31 : decode cX7_shiftDown 31 = .ok (.iadd, 1) := by decide +kernel
theorem dX7_shiftDown_32 : decode cX7_shiftDown 32 = .ok (.iaload, 1) := by decide +kernel
theorem dX7_shiftDown_33 : decode cX7_shiftDown 33 = .ok (.goto 4, 3) := by decide +kernel
theorem dX7_shiftDown_36 : decode cX7_shiftDown 36 = .ok (.iconst 0, 1) := by decide +kernel
theorem dX7_shiftDown_37 : decode cX7_shiftDown 37 = .ok (.iastore, 1) := by decide +kernel
theorem dX7_shiftDown_38 : decode cX7_shiftDown 38 = .ok (.iinc 2 1, 3) := by decide +kernel
theorem dX7_shiftDown_41 : decode cX7_shiftDown 41 = .ok (.goto (-39), 3) := by decide +kernel
theorem dX7_shiftDown_44 : decode cX7_shiftDown 44 = .ok (.aload_n 0, 1) := by decide +kernel
theorem dX7_shiftDown_45 : decode cX7_shiftDown 45 = .ok (.aload_n 0, 1) := by decide +kernel
theorem dX7_shiftDown_46 : decode cX7_shiftDown 46 = .ok (.getfield 9, 3) := by decide +kernel
theorem dX7_shiftDown_49 : decode cX7_shiftDown 49 = .ok (.iload_n 1, 1) := by decide +kernel
theorem dX7_shiftDown_50 : decode cX7_shiftDown 50 = .ok (.isub, 1) := by decide +kernel
theorem dX7_shiftDown_51 : decode cX7_shiftDown 51 = .ok (.invokevirtual 31, 3) := by decide +kernel
theorem dX7_shiftDown_54 : decode cX7_shiftDown 54 = .ok (.return_, 1) := by decide +kernel
theorem dX8_init_0 : decode cX8_init 0 = .ok (.aload_n 0, 1) := by decide +kernel
theorem dX8_init_1 : decode cX8_init 1 = .ok (.invokespecial 3, 3) := by decide +kernel
theorem dX8_init_4 : decode cX8_init 4 = .ok (.aload_n 0, 1) := by decide +kernel
theorem dX8_init_5 : decode cX8_init 5 = .ok (.new 9, 3) := by decide +kernel
theorem dX8_init_8 : decode cX8_init 8 = .ok (.dup, 1) := by decide +kernel
theorem dX8_init_9 : decode cX8_init 9 = .ok (.sipush 129, 3) := by decide +kernel
theorem dX8_init_12 : decode cX8_init 12 = .ok (.invokespecial 11, 3) := by decide +kernel
theorem dX8_init_15 : decode cX8_init 15 = .ok (.putfield 14, 3) := by decide +kernel
theorem dX8_init_18 : decode cX8_init 18 = .ok (.aload_n 0, 1) := by decide +kernel
theorem dX8_init_19 : decode cX8_init 19 = .ok (.new 9, 3) := by decide +kernel
theorem dX8_init_22 : decode cX8_init 22 = .ok (.dup, 1) := by decide +kernel
theorem dX8_init_23 : decode cX8_init 23 = .ok (.sipush 129, 3) := by decide +kernel
theorem dX8_init_26 : decode cX8_init 26 = .ok (.invokespecial 11, 3) := by decide +kernel
theorem dX8_init_29 : decode cX8_init 29 = .ok (.putfield 20, 3) := by decide +kernel
theorem dX8_init_32 : decode cX8_init 32 = .ok (.aload_n 0, 1) := by decide +kernel
theorem dX8_init_33 : decode cX8_init 33 = .ok (.new 9, 3) := by decide +kernel
theorem dX8_init_36 : decode cX8_init 36 = .ok (.dup, 1) := by decide +kernel
theorem dX8_init_37 : decode cX8_init 37 = .ok (.sipush 129, 3) := by decide +kernel
theorem dX8_init_40 : decode cX8_init 40 = .ok (.invokespecial 11, 3) := by decide +kernel
theorem dX8_init_43 : decode cX8_init 43 = .ok (.putfield 23, 3) := by decide +kernel
theorem dX8_init_46 : decode cX8_init 46 = .ok (.aload_n 0, 1) := by decide +kernel
theorem dX8_init_47 : decode cX8_init 47 = .ok (.aload_n 1, 1) := by decide +kernel
theorem dX8_init_48 : decode cX8_init 48 = .ok (.putfield 26, 3) := by decide +kernel
theorem dX8_init_51 : decode cX8_init 51 = .ok (.aload_n 0, 1) := by decide +kernel
theorem dX8_init_52 : decode cX8_init 52 = .ok (.aload_n 2, 1) := by decide +kernel
theorem dX8_init_53 : decode cX8_init 53 = .ok (.putfield 30, 3) := by decide +kernel
theorem dX8_init_56 : decode cX8_init 56 = .ok (.aload_n 0, 1) := by decide +kernel
theorem dX8_init_57 : decode cX8_init 57 = .ok (.aload_n 1, 1) := by decide +kernel
theorem dX8_init_58 : decode cX8_init 58 = .ok (.getfield 34, 3) := by decide +kernel
theorem dX8_init_61 : decode cX8_init 61 = .ok (.newarray .int, 2) := by decide +kernel
theorem dX8_init_63 : decode cX8_init 63 = .ok (.putfield 40, 3) := by decide +kernel
theorem dX8_init_66 : decode cX8_init 66 = .ok (.iconst 0, 1) := by decide +kernel
theorem dX8_init_67 : decode cX8_init 67 = .ok (.istore_n 3, 1) := by decide +kernel
theorem dX8_init_68 : decode cX8_init 68 = .ok (.iload_n 3, 1) := by decide +kernel
theorem dX8_init_69 : decode cX8_init 69 = .ok (.aload_n 1, 1) := by decide +kernel
theorem dX8_init_70 : decode cX8_init 70 = .ok (.getfield 34, 3) := by decide +kernel
theorem dX8_init_73 : decode cX8_init 73 = .ok (.if_icmp .ge 23, 3) := by decide +kernel
theorem dX8_init_76 : decode cX8_init 76 = .ok (.aload_n 0, 1) := by decide +kernel
theorem dX8_init_77 : decode cX8_init 77 = .ok (.getfield 40, 3) := by decide +kernel
theorem dX8_init_80 : decode cX8_init 80 = .ok (.iload_n 3, 1) := by decide +kernel
theorem dX8_init_81 : decode cX8_init 81 = .ok (.aload_n 0, 1) := by decide +kernel
theorem dX8_init_82 : decode cX8_init 82 = .ok (.iload_n 3, 1) := by decide +kernel
theorem dX8_init_83 : decode cX8_init 83 = .ok (.iconst 1, 1) := by decide +kernel
theorem dX8_init_84 : decode cX8_init 84 = .ok (.iload_n 3, 1) := by decide +kernel
theorem dX8_init_85 : decode cX8_init 85 = .ok (.ishl, 1) := by decide +kernel
theorem dX8_init_86 : decode cX8_init 86 = .ok (.invokevirtual 44, 3) := by decide +kernel
theorem dX8_init_89 : decode cX8_init 89 = .ok (.iastore, 1) := by decide +kernel
theorem dX8_init_90 : decode cX8_init 90 = .ok (.iinc 3 1, 3) := by decide +kernel
theorem dX8_init_93 : decode cX8_init 93 = .ok (.goto (-25), 3) := by decide +kernel
theorem dX8_init_96 : decode cX8_init 96 = .ok (.aload_n 0, 1) := by decide +kernel
theorem dX8_init_97 : decode cX8_init 97 = .ok (.aload_n 1, 1) := by decide +kernel
theorem dX8_init_98 : decode cX8_init 98 = .ok (.getfield 34, 3) := by decide +kernel
theorem dX8_init_101 : decode cX8_init 101 = .ok (.iconst 1, 1) := by decide +kernel
theorem dX8_init_102 : decode cX8_init 102 = .ok (.iadd, 1) := by decide +kernel
theorem dX8_init_103 : decode cX8_init 103 = .ok (.anewarray 9, 3) := by decide +kernel
theorem dX8_init_106 : decode cX8_init 106 = .ok (.putfield 48, 3) := by decide +kernel
theorem dX8_init_109 : decode cX8_init 109 = .ok (.iconst 0, 1) := by decide +kernel
theorem dX8_init_110 : decode cX8_init 110 = .ok (.istore_n 3, 1) := by decide +kernel
theorem dX8_init_111 : decode cX8_init 111 = .ok (.iload_n 3, 1) := by decide +kernel
theorem dX8_init_112 : decode cX8_init 112 = .ok (.aload_n 1, 1) := by decide +kernel
theorem dX8_init_113 : decode cX8_init 113 = .ok (.getfield 34, 3) := by decide +kernel
theorem dX8_init_116 : decode cX8_init 116 = .ok (.if_icmp .gt 24, 3) := by decide +kernel
theorem dX8_init_119 : decode cX8_init 119 = .ok (.aload_n 0, 1) := by decide +kernel
theorem dX8_init_120 : decode cX8_init 120 = .ok (.getfield 48, 3) := by decide +kernel
theorem dX8_init_123 : decode cX8_init 123 = .ok (.iload_n 3, 1) := by decide +kernel
theorem dX8_init_124 : decode cX8_init 124 = .ok (.new 9, 3) := by decide +kernel
theorem dX8_init_127 : decode cX8_init 127 = .ok (.dup, 1) := by decide +kernel
theorem dX8_init_128 : decode cX8_init 128 = .ok (.bipush 65, 2) := by decide +kernel
theorem dX8_init_130 : decode cX8_init 130 = .ok (.invokespecial 11, 3) := by decide +kernel
theorem dX8_init_133 : decode cX8_init 133 = .ok (.aastore, 1) := by decide +kernel
theorem dX8_init_134 : decode cX8_init 134 = .ok (.iinc 3 1, 3) := by decide +kernel
theorem dX8_init_137 : decode cX8_init 137 = .ok (.goto (-26), 3) := by decide +kernel
theorem dX8_init_140 : decode cX8_init 140 = .ok (.return_, 1) := by decide +kernel
theorem dX8_valueAt_0 : decode cX8_valueAt 0 = .ok (.iload_n 2, 1) := by decide +kernel
theorem dX8_valueAt_1 : decode cX8_valueAt 1 = .ok (.istore_n 3, 1) := by decide +kernel
theorem dX8_valueAt_2 : decode cX8_valueAt 2 = .ok (.iconst 0, 1) := by decide +kernel
theorem dX8_valueAt_3 : decode cX8_valueAt 3 = .ok (.istore 4, 2) := by decide +kernel
theorem dX8_valueAt_5 : decode cX8_valueAt 5 = .ok (.iload 4, 2) := by decide +kernel
theorem dX8_valueAt_7 : decode cX8_valueAt 7 = .ok (.iload_n 1, 1) := by decide +kernel
theorem dX8_valueAt_8 : decode cX8_valueAt 8 = .ok (.if_icmp .ge 27, 3) := by decide +kernel
theorem dX8_valueAt_11 : decode cX8_valueAt 11 = .ok (.aload_n 0, 1) := by decide +kernel
theorem dX8_valueAt_12 : decode cX8_valueAt 12 = .ok (.getfield 26, 3) := by decide +kernel
theorem dX8_valueAt_15 : decode cX8_valueAt 15 = .ok (.iload_n 3, 1) := by decide +kernel
theorem dX8_valueAt_16 : decode cX8_valueAt 16 = .ok (.iload_n 3, 1) := by decide +kernel
theorem dX8_valueAt_17 : decode cX8_valueAt 17 = .ok (.aload_n 0, 1) := by decide +kernel
theorem dX8_valueAt_18 : decode cX8_valueAt 18 = .ok (.getfield 40, 3) := by decide +kernel
theorem dX8_valueAt_21 : decode cX8_valueAt 21 = .ok (.iload 4, 2) := by decide +kernel
theorem dX8_valueAt_23 : decode cX8_valueAt 23 = .ok (.iaload, 1) := by decide +kernel
theorem dX8_valueAt_24 : decode cX8_valueAt 24 = .ok (.ixor, 1) := by decide +kernel
theorem dX8_valueAt_25 : decode cX8_valueAt 25 = .ok (.invokevirtual 52, 3) := by decide +kernel
theorem dX8_valueAt_28 : decode cX8_valueAt 28 = .ok (.istore_n 3, 1) := by decide +kernel
theorem dX8_valueAt_29 : decode cX8_valueAt 29 = .ok (.iinc 4 1, 3) := by decide +kernel
theorem dX8_valueAt_32 : decode cX8_valueAt 32 = .ok (.goto (-27), 3) := by decide +kernel
theorem dX8_valueAt_35 : decode cX8_valueAt 35 = .ok (.iload_n 3, 1) := by decide +kernel
theorem dX8_valueAt_36 : decode cX8_valueAt 36 = .ok (.ireturn, 1) := by decide +kernel
theorem dX8_makeRests_0 : decode cX8_makeRests 0 = .ok (.aload_n 0, 1) := by decide +kernel
theorem dX8_makeRests_1 : decode cX8_makeRests 1 = .ok (.getfield 23, 3) := by decide +kernel
theorem dX8_makeRests_4 : decode cX8_makeRests 4 = .ok (.invokevirtual 55, 3) := by decide +kernel
theorem dX8_makeRests_7 : decode cX8_makeRests 7 = .ok (.aload_n 0, 1) := by decide +kernel
theorem dX8_makeRests_8 : decode cX8_makeRests 8 = .ok (.getfield 30, 3) := by decide +kernel
theorem dX8_makeRests_11 : decode cX8_makeRests 11 = .ok (.aload_n 0, 1) := by decide +kernel
theorem dX8_makeRests_12 : decode cX8_makeRests 12 = .ok (.getfield 23, 3) := by decide +kernel
theorem dX8_makeRests_15 : decode cX8_makeRests 15 = .ok (.aload_n 1, 1) := by decide +kernel
theorem dX8_makeRests_16 : decode cX8_makeRests 16 = .ok (.invokevirtual 58, 3) := by decide +kernel
theorem dX8_makeRests_19 : decode cX8_makeRests 19 = .ok (.aload_n 0, 1) := by decide +kernel
theorem dX8_makeRests_20 : decode cX8_makeRests 20 = .ok (.getfield 48, 3) := by decide +kernel
theorem dX8_makeRests_23 : decode cX8_makeRests 23 = .ok (.iconst 0, 1) := by decide +kernel
theorem dX8_makeRests_24 : decode cX8_makeRests 24 = .ok (.aaload, 1) := by decide +kernel
theorem dX8_makeRests_25 : decode cX8_makeRests 25 = .ok (.aload_n 0, 1) := by decide +kernel
theorem dX8_makeRests_26 : decode cX8_makeRests 26 = .ok (.getfield 23, 3) := by decide +kernel
theorem dX8_makeRests_29 : decode cX8_makeRests 29 = .ok (.invokevirtual 64, 3) := by decide +kernel
theorem dX8_makeRests_32 : decode cX8_makeRests 32 = .ok (.iconst 0, 1) := by decide +kernel
theorem dX8_makeRests_33 : decode cX8_makeRests 33 = .ok (.istore_n 2, 1) := by decide +kernel
theorem dX8_makeRests_34 : decode cX8_makeRests 34 = .ok (.iload_n 2, 1) := by decide +kernel
theorem dX8_makeRests_35 : decode cX8_makeRests 35 = .ok (.aload_n 0, 1) := by decide +kernel
theorem dX8_makeRests_36 : decode cX8_makeRests 36 = .ok (.getfield 26, 3) := by decide +kernel
theorem dX8_makeRests_39 : decode cX8_makeRests 39 = .ok (.getfield 34, 3) := by decide +kernel
theorem dX8_makeRests_42 : decode cX8_makeRests 42 = .ok (.if_icmp .ge 59, 3) := by decide +kernel
theorem dX8_makeRests_45 : decode cX8_makeRests 45 = .ok (.aload_n 0, 1) := by decide +kernel
theorem dX8_makeRests_46 : decode cX8_makeRests 46 = .ok (.getfield 30, 3) := by decide +kernel
theorem dX8_makeRests_49 : decode cX8_makeRests 49 = .ok (.aload_n 0, 1) := by decide +kernel
theorem dX8_makeRests_50 : decode cX8_makeRests 50 = .ok (.getfield 23, 3) := by decide +kernel
theorem dX8_makeRests_53 : decode cX8_makeRests 53 = .ok (.aload_n 1, 1) := by decide +kernel
theorem dX8_makeRests_54 : decode cX8_makeRests 54 = .ok (.invokevirtual 68, 3) := by decide +kernel
theorem dX8_makeRests_57 : decode cX8_makeRests 57 = .ok (.aload_n 0, 1) := by decide +kernel
theorem dX8_makeRests_58 : decode cX8_makeRests 58 = .ok (.getfield 23, 3) := by decide +kernel
theorem dX8_makeRests_61 : decode cX8_makeRests 61 = .ok (.aload_n 0, 1) := by decide +kernel
theorem dX8_makeRests_62 : decode cX8_makeRests 62 = .ok (.getfield 26, 3) := by decide +kernel
theorem dX8_makeRests_65 : decode cX8_makeRests 65 = .ok (.aload_n 0, 1) := by decide +kernel
theorem dX8_makeRests_66 : decode cX8_makeRests 66 = .ok (.getfield 48, 3) := by decide +kernel
theorem dX8_makeRests_69 : decode cX8_makeRests 69 = .ok (.iload_n 2, 1) := by decide +kernel
theorem dX8_makeRests_70 : decode cX8_makeRests 70 = .ok (.aaload, 1) := by decide +kernel
theorem dX8_makeRests_71 : decode cX8_makeRests 71 = .ok (.aload_n 0, 1) := by decide +kernel
theorem dX8_makeRests_72 : decode cX8_makeRests 72 = .ok (.getfield 40, 3) := by decide +kernel
theorem dX8_makeRests_75 : decode cX8_makeRests 75 = .ok (.iload_n 2, 1) := by decide +kernel
theorem dX8_makeRests_76 : decode cX8_makeRests 76 = .ok (.iaload, 1) := by decide +kernel
theorem dX8_makeRests_77 : decode cX8_makeRests 77 = .ok (.invokevirtual 71, 3) := by decide +kernel
theorem dX8_makeRests_80 : decode cX8_makeRests 80 = .ok (.aload_n 0, 1) := by decide +kernel
theorem dX8_makeRests_81 : decode cX8_makeRests 81 = .ok (.getfield 48, 3) := by decide +kernel
theorem dX8_makeRests_84 : decode cX8_makeRests 84 = .ok (.iload_n 2, 1) := by decide +kernel
theorem dX8_makeRests_85 : decode cX8_makeRests 85 = .ok (.iconst 1, 1) := by decide +kernel
theorem dX8_makeRests_86 : decode cX8_makeRests 86 = .ok (.iadd, 1) := by decide +kernel
theorem dX8_makeRests_87 : decode cX8_makeRests 87 = .ok (.aaload, 1) := by decide +kernel
theorem dX8_makeRests_88 : decode cX8_makeRests 88 = .ok (.aload_n 0, 1) := by decide +kernel
theorem dX8_makeRests_89 : decode cX8_makeRests 89 = .ok (.getfield 23, 3) := by decide +kernel
theorem dX8_makeRests_92 : decode cX8_makeRests 92 = .ok (.invokevirtual 64, 3) := by decide +kernel
theorem dX8_makeRests_95 : decode cX8_makeRests 95 = .ok (.iinc 2 1, 3) := by decide +kernel
theorem dX8_makeRests_98 : decode cX8_makeRests 98 = .ok (.goto (-64), 3) := by decide +kernel
theorem dX8_makeRests_101 : decode cX8_makeRests 101 = .ok (.return_, 1) := by decide +kernel
theorem dX8_find_0 : decode cX8_find 0 = .ok (.iload_n 2, 1) := by decide +kernel
theorem dX8_find_1 : decode cX8_find 1 = .ok (.aload_n 1, 1) := by decide +kernel
theorem dX8_find_2 : decode cX8_find 2 = .ok (.getfield 75, 3) := by decide +kernel
theorem dX8_find_5 : decode cX8_find 5 = .ok (.if_icmp .lt 5, 3) := by decide +kernel
theorem dX8_find_8 : decode cX8_find 8 = .ok (.iconst (-1), 1) := by decide +kernel
theorem dX8_find_9 : decode cX8_find 9 = .ok (.ireturn, 1) := by decide +kernel
theorem dX8_find_10 : decode cX8_find 10 = .ok (.aload_n 0, 1) := by decide +kernel
theorem dX8_find_11 : decode cX8_find 11 = .ok (.aload_n 1, 1) := by decide +kernel
theorem dX8_find_12 : decode cX8_find 12 = .ok (.invokevirtual 78, 3) := by decide +kernel
theorem dX8_find_15 : decode cX8_find 15 = .ok (.aload_n 0, 1) := by decide +kernel
theorem dX8_find_16 : decode cX8_find 16 = .ok (.getfield 14, 3) := by decide +kernel
theorem dX8_find_19 : decode cX8_find 19 = .ok (.aload_n 1, 1) := by decide +kernel
theorem dX8_find_20 : decode cX8_find 20 = .ok (.invokevirtual 64, 3) := by decide +kernel
theorem dX8_find_23 : decode cX8_find 23 = .ok (.aload_n 0, 1) := by decide +kernel
theorem dX8_find_24 : decode cX8_find 24 = .ok (.getfield 23, 3) := by decide +kernel
theorem dX8_find_27 : decode cX8_find 27 = .ok (.aload_n 0, 1) := by decide +kernel
theorem dX8_find_28 : decode cX8_find 28 = .ok (.getfield 48, 3) := by decide +kernel
theorem dX8_find_31 : decode cX8_find 31 = .ok (.aload_n 0, 1) := by decide +kernel
theorem dX8_find_32 : decode cX8_find 32 = .ok (.getfield 26, 3) := by decide +kernel
theorem dX8_find_35 : decode cX8_find 35 = .ok (.getfield 34, 3) := by decide +kernel
theorem dX8_find_38 : decode cX8_find 38 = .ok (.aaload, 1) := by decide +kernel
theorem dX8_find_39 : decode cX8_find 39 = .ok (.invokevirtual 64, 3) := by decide +kernel
theorem dX8_find_42 : decode cX8_find 42 = .ok (.aload_n 0, 1) := by decide +kernel
theorem dX8_find_43 : decode cX8_find 43 = .ok (.getfield 30, 3) := by decide +kernel
theorem dX8_find_46 : decode cX8_find 46 = .ok (.aload_n 0, 1) := by decide +kernel
theorem dX8_find_47 : decode cX8_find 47 = .ok (.getfield 14, 3) := by decide +kernel
theorem dX8_find_50 : decode cX8_find 50 = .ok (.aload_n 0, 1) := by decide +kernel
theorem dX8_find_51 : decode cX8_find 51 = .ok (.getfield 23, 3) := by decide +kernel
theorem dX8_find_54 : decode cX8_find 54 = .ok (.invokevirtual 81, 3) := by decide +kernel
theorem dX8_find_57 : decode cX8_find 57 = .ok (.iload_n 2, 1) := by decide +kernel
theorem dX8_find_58 : decode cX8_find 58 = .ok (.aload_n 0, 1) := by decide +kernel
theorem dX8_find_59 : decode cX8_find 59 = .ok (.getfield 14, 3) := by decide +kernel
theorem dX8_find_62 : decode cX8_find 62 = .ok (.getfield 75, 3) := by decide +kernel
theorem dX8_find_65 : decode cX8_find 65 = .ok (.if_icmp .lt 5, 3) := by decide +kernel
theorem dX8_find_68 : decode cX8_find 68 = .ok (.iconst (-1), 1) := by decide +kernel
theorem dX8_find_69 : decode cX8_find 69 = .ok (.ireturn, 1) := by decide +kernel
theorem dX8_find_70 : decode cX8_find 70 = .ok (.iconst 0, 1) := by decide +kernel
theorem dX8_find_71 : decode cX8_find 71 = .ok (.istore_n 3, 1) := by decide +kernel
theorem dX8_find_72 : decode cX8_find 72 = .ok (.iload_n 2, 1) := by decide +kernel
theorem dX8_find_73 : decode cX8_find 73 = .ok (.istore 4, 2) := by decide +kernel
theorem dX8_find_75 : decode cX8_find 75 = .ok (.aload_n 0, 1) := by decide +kernel
theorem dX8_find_76 : decode cX8_find 76 = .ok (.getfield 26, 3) := by decide +kernel
theorem dX8_find_79 : decode cX8_find 79 = .ok (.getfield 34, 3) := by decide +kernel
theorem dX8_find_82 : decode cX8_find 82 = .ok (.iconst 1, 1) := by decide +kernel
theorem dX8_find_83 : decode cX8_find 83 = .ok (.isub, 1) := by decide +kernel
theorem dX8_find_84 : decode cX8_find 84 = .ok (.istore 5, 2) := by decide +kernel
theorem dX8_find_86 : decode cX8_find 86 = .ok (.iload 5, 2) := by decide +kernel
theorem dX8_find_88 : decode cX8_find 88 = .ok (.ifCond .lt 87, 3) := by decide +kernel
theorem dX8_find_91 : decode cX8_find 91 = .ok (.aload_n 0, 1) := by decide +kernel
theorem dX8_find_92 : decode cX8_find 92 = .ok (.getfield 14, 3) := by decide +kernel
theorem dX8_find_95 : decode cX8_find 95 = .ok (.getfield 75, 3) := by decide +kernel
theorem dX8_find_98 : decode cX8_find 98 = .ok (.iconst 1, 1) := by decide +kernel
theorem dX8_find_99 : decode cX8_find 99 = .ok (.if_icmp .le 76, 3) := by decide +kernel
theorem dX8_find_102 : decode cX8_find 102 = .ok (.aload_n 0, 1) := by decide +kernel
theorem dX8_find_103 : decode cX8_find 103 = .ok (.iload 5, 2) := by decide +kernel
theorem dX8_find_105 : decode cX8_find 105 = .ok (.iload_n 3, 1) := by decide +kernel
theorem dX8_find_106 : decode cX8_find 106 = .ok (.invokevirtual 84, 3) := by decide +kernel
theorem dX8_find_109 : decode cX8_find 109 = .ok (.iload 4, 2) := by decide +kernel
theorem dX8_find_111 : decode cX8_find 111 = .ok (.aload_n 0, 1) := by decide +kernel
theorem dX8_find_112 : decode cX8_find 112 = .ok (.getfield 20, 3) := by decide +kernel
theorem dX8_find_115 : decode cX8_find 115 = .ok (.getfield 75, 3) := by decide +kernel
theorem dX8_find_118 : decode cX8_find 118 = .ok (.if_icmp .ge 17, 3) := by decide +kernel
theorem dX8_find_121 : decode cX8_find 121 = .ok (.aload_n 0, 1) := by decide +kernel
theorem dX8_find_122 : decode cX8_find 122 = .ok (.getfield 14, 3) := by decide +kernel
theorem dX8_find_125 : decode cX8_find 125 = .ok (.aload_n 0, 1) := by decide +kernel
theorem dX8_find_126 : decode cX8_find 126 = .ok (.getfield 20, 3) := by decide +kernel
theorem dX8_find_129 : decode cX8_find 129 = .ok (.invokevirtual 64, 3) := by decide +kernel
theorem dX8_find_132 : decode cX8_find 132 = .ok (.goto 37, 3) := by decide +kernel
theorem dX8_find_135 : decode cX8_find 135 = .ok (.iload 4, 2) := by decide +kernel
theorem dX8_find_137 : decode cX8_find 137 = .ok (.aload_n 0, 1) := by decide +kernel
theorem dX8_find_138 : decode cX8_find 138 = .ok (.getfield 20, 3) := by decide +kernel
theorem dX8_find_141 : decode cX8_find 141 = .ok (.getfield 75, 3) := by decide +kernel
theorem dX8_find_144 : decode cX8_find 144 = .ok (.isub, 1) := by decide +kernel
theorem dX8_find_145 : decode cX8_find 145 = .ok (.istore 4, 2) := by decide +kernel
theorem dX8_find_147 : decode cX8_find 147 = .ok (.iload_n 3, 1) := by decide +kernel
theorem dX8_find_148 : decode cX8_find 148 = .ok (.iconst 1, 1) := by decide +kernel
theorem dX8_find_149 : decode cX8_find 149 = .ok (.iload 5, 2) := by decide +kernel
theorem dX8_find_151 : decode cX8_find 151 = .ok (.ishl, 1) := by decide +kernel
theorem dX8_find_152 : decode cX8_find 152 = .ok (.ior, 1) := by decide +kernel
theorem dX8_find_153 : decode cX8_find 153 = .ok (.istore_n 3, 1) := by decide +kernel
theorem dX8_find_154 : decode cX8_find 154 = .ok (.aload_n 0, 1) := by decide +kernel
theorem dX8_find_155 : decode cX8_find 155 = .ok (.getfield 30, 3) := by decide +kernel
theorem dX8_find_158 : decode cX8_find 158 = .ok (.aload_n 0, 1) := by decide +kernel
theorem dX8_find_159 : decode cX8_find 159 = .ok (.getfield 14, 3) := by decide +kernel
theorem dX8_find_162 : decode cX8_find 162 = .ok (.aload_n 0, 1) := by decide +kernel
theorem dX8_find_163 : decode cX8_find 163 = .ok (.getfield 20, 3) := by decide +kernel
theorem dX8_find_166 : decode cX8_find 166 = .ok (.invokevirtual 88, 3) := by decide +kernel
theorem dX8_find_169 : decode cX8_find 169 = .ok (.iinc 5 (-1), 3) := by decide +kernel
theorem dX8_find_172 : decode cX8_find 172 = .ok (.goto (-86), 3) := by decide +kernel
theorem dX8_find_175 : decode cX8_find 175 = .ok (.aload_n 0, 1) := by decide +kernel
theorem dX8_find_176 : decode cX8_find 176 = .ok (.getfield 26, 3) := by decide +kernel
theorem dX8_find_179 : decode cX8_find 179 = .ok (.aload_n 0, 1) := by decide +kernel
theorem dX8_find_180 : decode cX8_find 180 = .ok (.getfield 14, 3) := by decide +kernel
theorem dX8_find_183 : decode cX8_find 183 = .ok (.getfield 91, 3) := by decide +kernel
theorem dX8_find_186 : decode cX8_find 186 = .ok (.iconst 0, 1) := by decide +kernel
theorem dX8_find_187 : decode cX8_find 187 = .ok (.iaload, 1) := by decide +kernel
theorem dX8_find_188 : decode cX8_find 188 = .ok (.aload_n 0, 1) := by decide +kernel
theorem dX8_find_189 : decode cX8_find 189 = .ok (.getfield 14, 3) := by decide +kernel
theorem dX8_find_192 : decode cX8_find 192 = .ok (.getfield 91, 3) := by decide +kernel
theorem dX8_find_195 : decode cX8_find 195 = .ok (.iconst 1, 1) := by decide +kernel
theorem dX8_find_196 : decode cX8_find 196 = .ok (.iaload, 1) := by decide +kernel
theorem dX8_find_197 : decode cX8_find 197 = .ok (.invokevirtual 94, 3) := by decide +kernel
theorem dX8_find_200 : decode cX8_find 200 = .ok (.ireturn, 1) := by decide +kernel
theorem dX8_keepLower_0 : decode cX8_keepLower 0 = .ok (.aload_n 0, 1) := by decide +kernel
theorem dX8_keepLower_1 : decode cX8_keepLower 1 = .ok (.getfield 20, 3) := by decide +kernel
theorem dX8_keepLower_4 : decode cX8_keepLower 4 = .ok (.aload_n 0, 1) := by decide +kernel
theorem dX8_keepLower_5 : decode cX8_keepLower 5 = .ok (.getfield 14, 3) := by decide +kernel
theorem dX8_keepLower_8 : decode cX8_keepLower 8 = .ok (.invokevirtual 64, 3) := by decide +kernel
theorem dX8_keepLower_11 : decode cX8_keepLower 11 = .ok (.aload_n 0, 1) := by decide +kernel
theorem dX8_keepLower_12 : decode cX8_keepLower 12 = .ok (.getfield 23, 3) := by decide +kernel
theorem dX8_keepLower_15 : decode cX8_keepLower 15 = .ok (.aload_n 0, 1) := by decide +kernel
theorem dX8_keepLower_16 : decode cX8_keepLower 16 = .ok (.getfield 48, 3) := by decide +kernel
theorem dX8_keepLower_19 : decode cX8_keepLower 19 = .ok (.iload_n 1, 1) := by decide +kernel
theorem dX8_keepLower_20 : decode cX8_keepLower 20 = .ok (.aaload, 1) := by decide +kernel
theorem dX8_keepLower_21 : decode cX8_keepLower 21 = .ok (.invokevirtual 64, 3) := by decide +kernel
theorem dX8_keepLower_24 : decode cX8_keepLower 24 = .ok (.aload_n 0, 1) := by decide +kernel
theorem dX8_keepLower_25 : decode cX8_keepLower 25 = .ok (.getfield 23, 3) := by decide +kernel
theorem dX8_keepLower_28 : decode cX8_keepLower 28 = .ok (.aload_n 0, 1) := by decide +kernel
theorem dX8_keepLower_29 : decode cX8_keepLower 29 = .ok (.iload_n 1, 1) := by decide +kernel
theorem dX8_keepLower_30 : decode cX8_keepLower 30 = .ok (.iload_n 2, 1) := by decide +kernel
theorem dX8_keepLower_31 : decode cX8_keepLower 31 = .ok (.invokevirtual 44, 3) := by decide +kernel
theorem dX8_keepLower_34 : decode cX8_keepLower 34 = .ok (.invokevirtual 97, 3) := by decide +kernel
theorem dX8_keepLower_37 : decode cX8_keepLower 37 = .ok (.aload_n 0, 1) := by decide +kernel
theorem dX8_keepLower_38 : decode cX8_keepLower 38 = .ok (.getfield 30, 3) := by decide +kernel
theorem dX8_keepLower_41 : decode cX8_keepLower 41 = .ok (.aload_n 0, 1) := by decide +kernel
theorem dX8_keepLower_42 : decode cX8_keepLower 42 = .ok (.getfield 20, 3) := by decide +kernel
theorem dX8_keepLower_45 : decode cX8_keepLower 45 = .ok (.aload_n 0, 1) := by decide +kernel
theorem dX8_keepLower_46 : decode cX8_keepLower 46 = .ok (.getfield 23, 3) := by decide +kernel
theorem dX8_keepLower_49 : decode cX8_keepLower 49 = .ok (.invokevirtual 81, 3) := by decide +kernel
theorem dX8_keepLower_52 : decode cX8_keepLower 52 = .ok (.return_, 1) := by decide +kernel
theorem dX9_init_0 : decode cX9_init 0 = .ok (.aload_n 0, 1) := by decide +kernel
theorem dX9_init_1 : decode cX9_init 1 = .ok (.invokespecial 3, 3) := by decide +kernel
theorem dX9_init_4 : decode cX9_init 4 = .ok (.aload_n 0, 1) := by decide +kernel
theorem dX9_init_5 : decode cX9_init 5 = .ok (.new 9, 3) := by decide +kernel
theorem dX9_init_8 : decode cX9_init 8 = .ok (.dup, 1) := by decide +kernel
theorem dX9_init_9 : decode cX9_init 9 = .ok (.sipush 129, 3) := by decide +kernel
theorem dX9_init_12 : decode cX9_init 12 = .ok (.invokespecial 11, 3) := by decide +kernel
theorem dX9_init_15 : decode cX9_init 15 = .ok (.putfield 14, 3) := by decide +kernel
theorem dX9_init_18 : decode cX9_init 18 = .ok (.aload_n 0, 1) := by decide +kernel
theorem dX9_init_19 : decode cX9_init 19 = .ok (.new 9, 3) := by decide +kernel
theorem dX9_init_22 : decode cX9_init 22 = .ok (.dup, 1) := by decide +kernel
theorem dX9_init_23 : decode cX9_init 23 = .ok (.sipush 129, 3) := by decide +kernel
theorem dX9_init_26 : decode cX9_init 26 = .ok (.invokespecial 11, 3) := by decide +kernel
theorem dX9_init_29 : decode cX9_init 29 = .ok (.putfield 18, 3) := by decide +kernel
theorem dX9_init_32 : decode cX9_init 32 = .ok (.aload_n 0, 1) := by decide +kernel
theorem dX9_init_33 : decode cX9_init 33 = .ok (.sipush 130, 3) := by decide +kernel
theorem dX9_init_36 : decode cX9_init 36 = .ok (.newarray .int, 2) := by decide +kernel
theorem dX9_init_38 : decode cX9_init 38 = .ok (.putfield 21, 3) := by decide +kernel
theorem dX9_init_41 : decode cX9_init 41 = .ok (.aload_n 0, 1) := by decide +kernel
theorem dX9_init_42 : decode cX9_init 42 = .ok (.bipush 40, 2) := by decide +kernel
theorem dX9_init_44 : decode cX9_init 44 = .ok (.anewarray 25, 3) := by decide +kernel
theorem dX9_init_47 : decode cX9_init 47 = .ok (.putfield 27, 3) := by decide +kernel
theorem dX9_init_50 : decode cX9_init 50 = .ok (.aload_n 0, 1) := by decide +kernel
theorem dX9_init_51 : decode cX9_init 51 = .ok (.bipush 40, 2) := by decide +kernel
theorem dX9_init_53 : decode cX9_init 53 = .ok (.anewarray 9, 3) := by decide +kernel
theorem dX9_init_56 : decode cX9_init 56 = .ok (.putfield 31, 3) := by decide +kernel
theorem dX9_init_59 : decode cX9_init 59 = .ok (.aload_n 0, 1) := by decide +kernel
theorem dX9_init_60 : decode cX9_init 60 = .ok (.bipush 64, 2) := by decide +kernel
theorem dX9_init_62 : decode cX9_init 62 = .ok (.newarray .int, 2) := by decide +kernel
theorem dX9_init_64 : decode cX9_init 64 = .ok (.putfield 35, 3) := by decide +kernel
theorem dX9_init_67 : decode cX9_init 67 = .ok (.aload_n 0, 1) := by decide +kernel
theorem dX9_init_68 : decode cX9_init 68 = .ok (.new 38, 3) := by decide +kernel
theorem dX9_init_71 : decode cX9_init 71 = .ok (.dup, 1) := by decide +kernel
theorem dX9_init_72 : decode cX9_init 72 = .ok (.iload_n 1, 1) := by decide +kernel
theorem dX9_init_73 : decode cX9_init 73 = .ok (.bipush 16, 2) := by decide +kernel
theorem dX9_init_75 : decode cX9_init 75 = .ok (.if_icmp .ne 8, 3) := by decide +kernel
theorem dX9_init_78 : decode cX9_init 78 = .ok (.bipush 16, 2) := by decide +kernel
theorem dX9_init_80 : decode cX9_init 80 = .ok (.goto 5, 3) := by decide +kernel
theorem dX9_init_83 : decode cX9_init 83 = .ok (.bipush 8, 2) := by decide +kernel
theorem dX9_init_85 : decode cX9_init 85 = .ok (.iload_n 2, 1) := by decide +kernel
theorem dX9_init_86 : decode cX9_init 86 = .ok (.invokespecial 40, 3) := by decide +kernel
theorem dX9_init_89 : decode cX9_init 89 = .ok (.putfield 43, 3) := by decide +kernel
theorem dX9_init_92 : decode cX9_init 92 = .ok (.aload_n 0, 1) := by decide +kernel
theorem dX9_init_93 : decode cX9_init 93 = .ok (.new 47, 3) := by decide +kernel
theorem dX9_init_96 : decode cX9_init 96 = .ok (.dup, 1) := by decide +kernel
theorem dX9_init_97 : decode cX9_init 97 = .ok (.aload_n 0, 1) := by decide +kernel
theorem dX9_init_98 : decode cX9_init 98 = .ok (.getfield 43, 3) := by decide +kernel
theorem dX9_init_101 : decode cX9_init 101 = .ok (.invokespecial 49, 3) := by decide +kernel
theorem dX9_init_104 : decode cX9_init 104 = .ok (.putfield 52, 3) := by decide +kernel
theorem dX9_init_107 : decode cX9_init 107 = .ok (.aload_n 0, 1) := by decide +kernel
theorem dX9_init_108 : decode cX9_init 108 = .ok (.new 56, 3) := by decide +kernel
theorem dX9_init_111 : decode cX9_init 111 = .ok (.dup, 1) := by decide +kernel
theorem dX9_init_112 : decode cX9_init 112 = .ok (.aload_n 0, 1) := by decide +kernel
theorem dX9_init_113 : decode cX9_init 113 = .ok (.getfield 43, 3) := by decide +kernel
theorem dX9_init_116 : decode cX9_init 116 = .ok (.invokespecial 58, 3) := by decide +kernel
theorem dX9_init_119 : decode cX9_init 119 = .ok (.putfield 59, 3) := by decide +kernel
theorem dX9_init_122 : decode cX9_init 122 = .ok (.aload_n 0, 1) := by decide +kernel
theorem dX9_init_123 : decode cX9_init 123 = .ok (.new 63, 3) := by decide +kernel
theorem dX9_init_126 : decode cX9_init 126 = .ok (.dup, 1) := by decide +kernel
theorem dX9_init_127 : decode cX9_init 127 = .ok (.aload_n 0, 1) := by decide +kernel
theorem dX9_init_128 : decode cX9_init 128 = .ok (.getfield 43, 3) := by decide +kernel
theorem dX9_init_131 : decode cX9_init 131 = .ok (.invokespecial 65, 3) := by decide +kernel
theorem dX9_init_134 : decode cX9_init 134 = .ok (.putfield 66, 3) := by decide +kernel
theorem dX9_init_137 : decode cX9_init 137 = .ok (.aload_n 0, 1) := by decide +kernel
theorem dX9_init_138 : decode cX9_init 138 = .ok (.new 70, 3) := by decide +kernel
theorem dX9_init_141 : decode cX9_init 141 = .ok (.dup, 1) := by decide +kernel
theorem dX9_init_142 : decode cX9_init 142 = .ok (.aload_n 0, 1) := by decide +kernel
theorem dX9_init_143 : decode cX9_init 143 = .ok (.getfield 43, 3) := by decide +kernel
theorem dX9_init_146 : decode cX9_init 146 = .ok (.invokespecial 72, 3) := by decide +kernel
theorem dX9_init_149 : decode cX9_init 149 = .ok (.putfield 73, 3) := by decide +kernel
theorem dX9_init_152 : decode cX9_init 152 = .ok (.aload_n 0, 1) := by decide +kernel
theorem dX9_init_153 : decode cX9_init 153 = .ok (.new 77, 3) := by decide +kernel
theorem dX9_init_156 : decode cX9_init 156 = .ok (.dup, 1) := by decide +kernel
theorem dX9_init_157 : decode cX9_init 157 = .ok (.aload_n 0, 1) := by decide +kernel
theorem dX9_init_158 : decode cX9_init 158 = .ok (.getfield 43, 3) := by decide +kernel
theorem dX9_init_161 : decode cX9_init 161 = .ok (.aload_n 0, 1) := by decide +kernel
theorem dX9_init_162 : decode cX9_init 162 = .ok (.getfield 66, 3) := by decide +kernel
theorem dX9_init_165 : decode cX9_init 165 = .ok (.invokespecial 79, 3) := by decide +kernel
theorem dX9_init_168 : decode cX9_init 168 = .ok (.putfield 82, 3) := by decide +kernel
theorem dX9_init_171 : decode cX9_init 171 = .ok (.aload_n 0, 1) := by decide +kernel
theorem dX9_init_172 : decode cX9_init 172 = .ok (.new 86, 3) := by decide +kernel
theorem dX9_init_175 : decode cX9_init 175 = .ok (.dup, 1) := by decide +kernel
theorem dX9_init_176 : decode cX9_init 176 = .ok (.aload_n 0, 1) := by decide +kernel
theorem dX9_init_177 : decode cX9_init 177 = .ok (.getfield 43, 3) := by decide +kernel
theorem dX9_init_180 : decode cX9_init 180 = .ok (.aload_n 0, 1) := by decide +kernel
theorem dX9_init_181 : decode cX9_init 181 = .ok (.getfield 66, 3) := by decide +kernel
theorem dX9_init_184 : decode cX9_init 184 = .ok (.invokespecial 88, 3) := by decide +kernel
theorem dX9_init_187 : decode cX9_init 187 = .ok (.putfield 89, 3) := by decide +kernel
theorem dX9_init_190 : decode cX9_init 190 = .ok (.return_, 1) := by decide +kernel
theorem dX9_poly_0 : decode cX9_poly 0 = .ok (.aload_n 0, 1) := by decide +kernel
theorem dX9_poly_1 : decode cX9_poly 1 = .ok (.getfield 43, 3) := by decide +kernel
theorem dX9_poly_4 : decode cX9_poly 4 = .ok (.getfield 93, 3) := by decide +kernel
theorem dX9_poly_7 : decode cX9_poly 7 = .ok (.ireturn, 1) := by decide +kernel
theorem dX9_generator_0 : decode cX9_generator 0 = .ok (.aload_n 0, 1) := by decide +kernel
theorem dX9_generator_1 : decode cX9_generator 1 = .ok (.getfield 43, 3) := by decide +kernel
theorem dX9_generator_4 : decode cX9_generator 4 = .ok (.getfield 97, 3) := by decide +kernel
theorem dX9_generator_7 : decode cX9_generator 7 = .ok (.ireturn, 1) := by decide +kernel
theorem dX9_product_0 : decode cX9_product 0 = .ok (.aload_n 0, 1) := by decide +kernel
theorem dX9_product_1 : decode cX9_product 1 = .ok (.iload_n 1, 1) := by decide +kernel
theorem dX9_product_2 : decode cX9_product 2 = .ok (.invokevirtual 100, 3) := by decide +kernel
theorem dX9_product_5 : decode cX9_product 5 = .ok (.aload_n 0, 1) := by decide +kernel
theorem dX9_product_6 : decode cX9_product 6 = .ok (.iload_n 2, 1) := by decide +kernel
theorem dX9_product_7 : decode cX9_product 7 = .ok (.invokevirtual 100, 3) := by decide +kernel
theorem dX9_product_10 : decode cX9_product 10 = .ok (.aload_n 0, 1) := by decide +kernel
theorem dX9_product_11 : decode cX9_product 11 = .ok (.getfield 43, 3) := by decide +kernel
theorem dX9_product_14 : decode cX9_product 14 = .ok (.iload_n 1, 1) := by decide +kernel
theorem dX9_product_15 : decode cX9_product 15 = .ok (.iload_n 2, 1) := by decide +kernel
theorem dX9_product_16 : decode cX9_product 16 = .ok (.invokevirtual 103, 3) := by decide +kernel
theorem dX9_product_19 : decode cX9_product 19 = .ok (.ireturn, 1) := by decide +kernel
theorem dX9_quotient_0 : decode cX9_quotient 0 = .ok (.aload_n 0, 1) := by decide +kernel
theorem dX9_quotient_1 : decode cX9_quotient 1 = .ok (.iload_n 1, 1) := by decide +kernel
theorem dX9_quotient_2 : decode cX9_quotient 2 = .ok (.invokevirtual 100, 3) := by decide +kernel
theorem dX9_quotient_5 : decode cX9_quotient 5 = .ok (.aload_n 0, 1) := by decide +kernel
theorem dX9_quotient_6 : decode cX9_quotient 6 = .ok (.iload_n 2, 1) := by decide +kernel
theorem dX9_quotient_7 : decode cX9_quotient 7 = .ok (.invokevirtual 100, 3) := by decide +kernel
theorem dX9_quotient_10 : decode cX9_quotient 10 = .ok (.iload_n 2, 1) := by decide +kernel
theorem dX9_quotient_11 : decode cX9_quotient 11 = .ok (.ifCond .ne 13, 3) := by decide +kernel
theorem dX9_quotient_14 : decode cX9_quotient 14 = .ok (.new 107, 3) := by decide +kernel
theorem dX9_quotient_17 : decode cX9_quotient 17 = .ok (.dup, 1) := by decide +kernel
theorem dX9_quotient_18 : decode cX9_quotient 18 = .ok (.ldc 109, 2) := by decide +kernel
theorem dX9_quotient_20 : decode cX9_quotient 20 = .ok (.invokespecial 111, 3) := by decide +kernel
theorem dX9_quotient_23 : decode cX9_quotient 23 = .ok (.athrow, 1) := by decide +kernel
theorem dX9_quotient_24 : decode cX9_quotient 24 = .ok (.aload_n 0, 1) := by decide +kernel
theorem dX9_quotient_25 : decode cX9_quotient 25 = .ok (.getfield 43, 3) := by decide +kernel
theorem dX9_quotient_28 : decode cX9_quotient 28 = .ok (.iload_n 1, 1) := by decide +kernel
theorem dX9_quotient_29 : decode cX9_quotient 29 = .ok (.iload_n 2, 1) := by decide +kernel
theorem dX9_quotient_30 : decode cX9_quotient 30 = .ok (.invokevirtual 114, 3) := by decide +kernel
theorem dX9_quotient_33 : decode cX9_quotient 33 = .ok (.ireturn, 1) := by decide +kernel
theorem dX9_power_0 : decode cX9_power 0 = .ok (.aload_n 0, 1) := by decide +kernel
theorem dX9_power_1 : decode cX9_power 1 = .ok (.iload_n 1, 1) := by decide +kernel
theorem dX9_power_2 : decode cX9_power 2 = .ok (.invokevirtual 100, 3) := by decide +kernel
theorem dX9_power_5 : decode cX9_power 5 = .ok (.iload_n 1, 1) := by decide +kernel
theorem dX9_power_6 : decode cX9_power 6 = .ok (.ifCond .ne 19, 3) := by decide +kernel
theorem dX9_power_9 : decode cX9_power 9 = .ok (.lload_n 2, 1) := by decide +kernel
theorem dX9_power_10 : decode cX9_power 10 = .ok (.lconst 0, 1) := by decide +kernel
theorem dX9_power_11 : decode cX9_power 11 = .ok (.lcmp, 1) := by decide +kernel
theorem dX9_power_12 : decode cX9_power 12 = .ok (.ifCond .ge 13, 3) := by decide +kernel
theorem dX9_power_15 : decode cX9_power 15 = .ok (.new 107, 3) := by decide +kernel
theorem dX9_power_18 : decode cX9_power 18 = .ok (.dup, 1) := by decide +kernel
theorem dX9_power_19 : decode cX9_power 19 = .ok (.ldc 117, 2) := by decide +kernel
theorem dX9_power_21 : decode cX9_power 21 = .ok (.invokespecial 111, 3) := by decide +kernel
theorem dX9_power_24 : decode cX9_power 24 = .ok (.athrow, 1) := by decide +kernel
theorem dX9_power_25 : decode cX9_power 25 = .ok (.aload_n 0, 1) := by decide +kernel
theorem dX9_power_26 : decode cX9_power 26 = .ok (.getfield 43, 3) := by decide +kernel
theorem dX9_power_29 : decode cX9_power 29 = .ok (.iload_n 1, 1) := by decide +kernel
theorem dX9_power_30 : decode cX9_power 30 = .ok (.lload_n 2, 1) := by decide +kernel
theorem dX9_power_31 : decode cX9_power 31 = .ok (.invokevirtual 119, 3) := by decide +kernel
theorem dX9_power_34 : decode cX9_power 34 = .ok (.ireturn, 1) := by decide +kernel
theorem dX9_log_0 : decode cX9_log 0 = .ok (.aload_n 0, 1) := by decide +kernel
theorem dX9_log_1 : decode cX9_log 1 = .ok (.iload_n 1, 1) := by decide +kernel
theorem dX9_log_2 : decode cX9_log 2 = .ok (.invokevirtual 100, 3) := by decide +kernel
theorem dX9_log_5 : decode cX9_log 5 = .ok (.iload_n 1, 1) := by decide +kernel
theorem dX9_log_6 : decode cX9_log 6 = .ok (.ifCond .ne 13, 3) := by decide +kernel
theorem dX9_log_9 : decode cX9_log 9 = .ok (.new 123, 3) := by decide +kernel
theorem dX9_log_12 : decode cX9_log 12 = .ok (.dup, 1) := by decide +kernel
theorem dX9_log_13 : decode cX9_log 13 = .ok (.ldc 125, 2) := by decide +kernel
theorem dX9_log_15 : decode cX9_log 15 = .ok (.invokespecial 127, 3) := by decide +kernel
theorem dX9_log_18 : decode cX9_log 18 = .ok (.athrow, 1) := by decide +kernel
theorem dX9_log_19 : decode cX9_log 19 = .ok (.aload_n 0, 1) := by decide +kernel
theorem dX9_log_20 : decode cX9_log 20 = .ok (.getfield 43, 3) := by decide +kernel
theorem dX9_log_23 : decode cX9_log 23 = .ok (.iload_n 1, 1) := by decide +kernel
theorem dX9_log_24 : decode cX9_log 24 = .ok (.invokevirtual 128, 3) := by decide +kernel
theorem dX9_log_27 : decode cX9_log 27 = .ok (.ireturn, 1) := by decide +kernel
theorem dX9_order_0 : decode cX9_order 0 = .ok (.aload_n 0, 1) := by decide +kernel
theorem dX9_order_1 : decode cX9_order 1 = .ok (.iload_n 1, 1) := by decide +kernel
theorem dX9_order_2 : decode cX9_order 2 = .ok (.invokevirtual 100, 3) := by decide +kernel
theorem dX9_order_5 : decode cX9_order 5 = .ok (.aload_n 0, 1) := by decide +kernel
theorem dX9_order_6 : decode cX9_order 6 = .ok (.getfield 43, 3) := by decide +kernel
theorem dX9_order_9 : decode cX9_order 9 = .ok (.iload_n 1, 1) := by decide +kernel
theorem dX9_order_10 : decode cX9_order 10 = .ok (.invokevirtual 132, 3) := by decide +kernel
theorem dX9_order_13 : decode cX9_order 13 = .ok (.ireturn, 1) := by decide +kernel
theorem dX9_put_0 : decode cX9_put 0 = .ok (.aload_n 0, 1) := by decide +kernel
theorem dX9_put_1 : decode cX9_put 1 = .ok (.iload_n 1, 1) := by decide +kernel
theorem dX9_put_2 : decode cX9_put 2 = .ok (.invokevirtual 100, 3) := by decide +kernel
theorem dX9_put_5 : decode cX9_put 5 = .ok (.aload_n 0, 1) := by decide +kernel
theorem dX9_put_6 : decode cX9_put 6 = .ok (.getfield 135, 3) := by decide +kernel
theorem dX9_put_9 : decode cX9_put 9 = .ok (.sipush 130, 3) := by decide +kernel
theorem dX9_put_12 : decode cX9_put 12 = .ok (.if_icmp .lt 13, 3) := by decide +kernel
theorem dX9_put_15 : decode cX9_put 15 = .ok (.new 138, 3) := by decide +kernel
theorem dX9_put_18 : decode cX9_put 18 = .ok (.dup, 1) := by decide +kernel
theorem dX9_put_19 : decode cX9_put 19 = .ok (.ldc 140, 2) := by decide +kernel
theorem dX9_put_21 : decode cX9_put 21 = .ok (.invokespecial 142, 3) := by decide +kernel
theorem dX9_put_24 : decode cX9_put 24 = .ok (.athrow, 1) := by decide +kernel
theorem dX9_put_25 : decode cX9_put 25 = .ok (.aload_n 0, 1) := by decide +kernel
theorem dX9_put_26 : decode cX9_put 26 = .ok (.getfield 21, 3) := by decide +kernel
theorem dX9_put_29 : decode cX9_put 29 = .ok (.aload_n 0, 1) := by decide +kernel
theorem dX9_put_30 : decode cX9_put 30 = .ok (.getfield 135, 3) := by decide +kernel
theorem dX9_put_33 : decode cX9_put 33 = .ok (.iload_n 1, 1) := by decide +kernel
theorem dX9_put_34 : decode cX9_put 34 = .ok (.iastore, 1) := by decide +kernel
theorem dX9_put_35 : decode cX9_put 35 = .ok (.aload_n 0, 1) := by decide +kernel
theorem dX9_put_36 : decode cX9_put 36 = .ok (.dup, 1) := by decide +kernel
theorem dX9_put_37 : decode cX9_put 37 = .ok (.getfield 135, 3) := by decide +kernel
theorem dX9_put_40 : decode cX9_put 40 = .ok (.iconst 1, 1) := by decide +kernel
theorem dX9_put_41 : decode cX9_put 41 = .ok (.iadd, 1) := by decide +kernel
theorem dX9_put_42 : decode cX9_put 42 = .ok (.putfield 135, 3) := by decide +kernel
theorem dX9_put_45 : decode cX9_put 45 = .ok (.aload_n 0, 1) := by decide +kernel
theorem dX9_put_46 : decode cX9_put 46 = .ok (.getfield 135, 3) := by decide +kernel
theorem dX9_put_49 : decode cX9_put 49 = .ok (.ireturn, 1) := by decide +kernel
theorem dX9_row_0 : decode cX9_row 0 = .ok (.iload_n 1, 1) := by decide +kernel
theorem dX9_row_1 : decode cX9_row 1 = .ok (.ifCond .ge 13, 3) := by decide +kernel
theorem dX9_row_4 : decode cX9_row 4 = .ok (.new 143, 3) := by decide +kernel
theorem dX9_row_7 : decode cX9_row 7 = .ok (.dup, 1) := by decide +kernel
theorem dX9_row_8 : decode cX9_row 8 = .ok (.ldc 145, 2) := by decide +kernel
theorem dX9_row_10 : decode cX9_row 10 = .ok (.invokespecial 147, 3) := by decide +kernel
theorem dX9_row_13 : decode cX9_row 13 = .ok (.athrow, 1) := by decide +kernel
theorem dX9_row_14 : decode cX9_row 14 = .ok (.iload_n 1, 1) := by decide +kernel
theorem dX9_row_15 : decode cX9_row 15 = .ok (.aload_n 0, 1) := by decide +kernel
theorem dX9_row_16 : decode cX9_row 16 = .ok (.getfield 135, 3) := by decide +kernel
theorem dX9_row_19 : decode cX9_row 19 = .ok (.if_icmp .ge 12, 3) := by decide +kernel
theorem dX9_row_22 : decode cX9_row 22 = .ok (.aload_n 0, 1) := by decide +kernel
theorem dX9_row_23 : decode cX9_row 23 = .ok (.getfield 21, 3) := by decide +kernel
theorem dX9_row_26 : decode cX9_row 26 = .ok (.iload_n 1, 1) := by decide +kernel
theorem dX9_row_27 : decode cX9_row 27 = .ok (.iaload, 1) := by decide +kernel
theorem dX9_row_28 : decode cX9_row 28 = .ok (.goto 4, 3) := by decide +kernel
theorem dX9_row_31 : decode cX9_row 31 = .ok (.iconst (-1), 1) := by decide +kernel
theorem dX9_row_32 : decode cX9_row 32 = .ok (.ireturn, 1) := by decide +kernel
theorem dX9_drop_0 : decode cX9_drop 0 = .ok (.aload_n 0, 1) := by decide +kernel
theorem dX9_drop_1 : decode cX9_drop 1 = .ok (.getfield 135, 3) := by decide +kernel
theorem dX9_drop_4 : decode cX9_drop 4 = .ok (.istore_n 1, 1) := by decide +kernel
theorem dX9_drop_5 : decode cX9_drop 5 = .ok (.aload_n 0, 1) := by decide +kernel
theorem dX9_drop_6 : decode cX9_drop 6 = .ok (.iconst 0, 1) := by decide +kernel
theorem dX9_drop_7 : decode cX9_drop 7 = .ok (.putfield 135, 3) := by decide +kernel
theorem dX9_drop_10 : decode cX9_drop 10 = .ok (.iload_n 1, 1) := by decide +kernel
theorem dX9_drop_11 : decode cX9_drop 11 = .ok (.ireturn, 1) := by decide +kernel
theorem dX9_matrix_0 : decode cX9_matrix 0 = .ok (.iload_n 1, 1) := by decide +kernel
theorem dX9_matrix_1 : decode cX9_matrix 1 = .ok (.iload_n 2, 1) := by decide +kernel
theorem dX9_matrix_2 : decode cX9_matrix 2 = .ok (.invokestatic 148, 3) := by decide +kernel
theorem dX9_matrix_5 : decode cX9_matrix 5 = .ok (.aload_n 0, 1) := by decide +kernel
theorem dX9_matrix_6 : decode cX9_matrix 6 = .ok (.invokevirtual 151, 3) := by decide +kernel
theorem dX9_matrix_9 : decode cX9_matrix 9 = .ok (.aload_n 0, 1) := by decide +kernel
theorem dX9_matrix_10 : decode cX9_matrix 10 = .ok (.new 25, 3) := by decide +kernel
theorem dX9_matrix_13 : decode cX9_matrix 13 = .ok (.dup, 1) := by decide +kernel
theorem dX9_matrix_14 : decode cX9_matrix 14 = .ok (.iload_n 1, 1) := by decide +kernel
theorem dX9_matrix_15 : decode cX9_matrix 15 = .ok (.iload_n 2, 1) := by decide +kernel
theorem dX9_matrix_16 : decode cX9_matrix 16 = .ok (.invokespecial 154, 3) := by decide +kernel
theorem dX9_matrix_19 : decode cX9_matrix 19 = .ok (.invokevirtual 155, 3) := by decide +kernel
theorem dX9_matrix_22 : decode cX9_matrix 22 = .ok (.ireturn, 1) := by decide +kernel
theorem dX9_powers_0 : decode cX9_powers 0 = .ok (.iload_n 1, 1) := by decide +kernel
theorem dX9_powers_1 : decode cX9_powers 1 = .ok (.iload_n 2, 1) := by decide +kernel
theorem dX9_powers_2 : decode cX9_powers 2 = .ok (.invokestatic 148, 3) := by decide +kernel
theorem dX9_powers_5 : decode cX9_powers 5 = .ok (.aload_n 0, 1) := by decide +kernel
theorem dX9_powers_6 : decode cX9_powers 6 = .ok (.getfield 135, 3) := by decide +kernel
theorem dX9_powers_9 : decode cX9_powers 9 = .ok (.iload_n 1, 1) := by decide +kernel
theorem dX9_powers_10 : decode cX9_powers 10 = .ok (.if_icmp .ne 11, 3) := by decide +kernel
theorem dX9_powers_13 : decode cX9_powers 13 = .ok (.aload_n 0, 1) := by decide +kernel
theorem dX9_powers_14 : decode cX9_powers 14 = .ok (.iconst 1, 1) := by decide +kernel
theorem dX9_powers_15 : decode cX9_powers 15 = .ok (.invokevirtual 159, 3) := by decide +kernel
theorem dX9_powers_18 : decode cX9_powers 18 = .ok (.ifCond .eq 13, 3) := by decide +kernel
theorem dX9_powers_21 : decode cX9_powers 21 = .ok (.new 163, 3) := by decide +kernel
theorem dX9_powers_24 : decode cX9_powers 24 = .ok (.dup, 1) := by decide +kernel
theorem dX9_powers_25 : decode cX9_powers 25 = .ok (.ldc 165, 2) := by decide +kernel
theorem dX9_powers_27 : decode cX9_powers 27 = .ok (.invokespecial 167, 3) := by decide +kernel
theorem dX9_powers_30 : decode cX9_powers 30 = .ok (.athrow, 1) := by decide +kernel
theorem dX9_powers_31 : decode cX9_powers 31 = .ok (.aload_n 0, 1) := by decide +kernel
theorem dX9_powers_32 : decode cX9_powers 32 = .ok (.invokevirtual 151, 3) := by decide +kernel
theorem dX9_powers_35 : decode cX9_powers 35 = .ok (.new 25, 3) := by decide +kernel
theorem dX9_powers_38 : decode cX9_powers 38 = .ok (.dup, 1) := by decide +kernel
theorem dX9_powers_39 : decode cX9_powers 39 = .ok (.iload_n 1, 1) := by decide +kernel
theorem dX9_powers_40 : decode cX9_powers 40 = .ok (.iload_n 2, 1) := by decide +kernel
theorem dX9_powers_41 : decode cX9_powers 41 = .ok (.invokespecial 154, 3) := by decide +kernel
theorem dX9_powers_44 : decode cX9_powers 44 = .ok (.astore_n 3, 1) := by decide +kernel
theorem dX9_powers_45 : decode cX9_powers 45 = .ok (.iconst 0, 1) := by decide +kernel
theorem dX9_powers_46 : decode cX9_powers 46 = .ok (.istore 4, 2) := by decide +kernel
theorem dX9_powers_48 : decode cX9_powers 48 = .ok (.iload 4, 2) := by decide +kernel
theorem dX9_powers_50 : decode cX9_powers 50 = .ok (.iload_n 1, 1) := by decide +kernel
theorem dX9_powers_51 : decode cX9_powers 51 = .ok (.if_icmp .ge 59, 3) := by decide +kernel
theorem dX9_powers_54 : decode cX9_powers 54 = .ok (.iconst 1, 1) := by decide +kernel
theorem dX9_powers_55 : decode cX9_powers 55 = .ok (.istore 5, 2) := by decide +kernel
theorem dX9_powers_57 : decode cX9_powers 57 = .ok (.iconst 0, 1) := by decide +kernel
theorem dX9_powers_58 : decode cX9_powers 58 = .ok (.istore 6, 2) := by decide +kernel
theorem dX9_powers_60 : decode cX9_powers 60 = .ok (.iload 6, 2) := by decide +kernel
theorem dX9_powers_62 : decode cX9_powers 62 = .ok (.iload_n 2, 1) := by decide +kernel
theorem dX9_powers_63 : decode cX9_powers 63 = .ok (.if_icmp .ge 41, 3) := by decide +kernel
theorem dX9_powers_66 : decode cX9_powers 66 = .ok (.aload_n 3, 1) := by decide +kernel
theorem dX9_powers_67 : decode cX9_powers 67 = .ok (.getfield 168, 3) := by decide +kernel
theorem dX9_powers_70 : decode cX9_powers 70 = .ok (.iload 4, 2) := by decide +kernel
theorem dX9_powers_72 : decode cX9_powers 72 = .ok (.iload_n 2, 1) := by decide +kernel
theorem dX9_powers_73 : decode cX9_powers 73 = .ok (.imul, 1) := by decide +kernel
theorem dX9_powers_74 : decode cX9_powers 74 = .ok (.iload 6, 2) := by decide +kernel
theorem dX9_powers_76 : decode cX9_powers 76 = .ok (.iadd, 1) := by decide +kernel
theorem dX9_powers_77 : decode cX9_powers 77 = .ok (.iload 5, 2) := by decide +kernel
theorem dX9_powers_79 : decode cX9_powers 79 = .ok (.iastore, 1) := by decide +kernel
theorem dX9_powers_80 : decode cX9_powers 80 = .ok (.aload_n 0, 1) := by decide +kernel
theorem dX9_powers_81 : decode cX9_powers 81 = .ok (.getfield 43, 3) := by decide +kernel
theorem dX9_powers_84 : decode cX9_powers 84 = .ok (.iload 5, 2) := by decide +kernel
theorem dX9_powers_86 : decode cX9_powers 86 = .ok (.aload_n 0, 1) := by decide +kernel
theorem dX9_powers_87 : decode cX9_powers 87 = .ok (.getfield 21, 3) := by decide +kernel
theorem dX9_powers_90 : decode cX9_powers 90 = .ok (.iload 4, 2) := by decide +kernel
theorem dX9_powers_92 : decode cX9_powers 92 = .ok (.iaload, 1) := by decide +kernel
theorem dX9_powers_93 : decode cX9_powers 93 = .ok (.invokevirtual 103, 3) := by decide +kernel
theorem dX9_powers_96 : decode cX9_powers 96 = .ok (.istore 5, 2) := by decide +kernel
theorem dX9_powers_98 : decode cX9_powers 98 = .ok (.iinc 6 1, 3) := by decide +kernel
theorem dX9_powers_101 : decode cX9_powers 101 = .ok (.goto (-41), 3) := by decide +kernel
theorem dX9_powers_104 : decode cX9_powers 104 = .ok (.iinc 4 1, 3) := by decide +kernel
theorem dX9_powers_107 : decode cX9_powers 107 = .ok (.goto (-59), 3) := by decide +kernel
theorem dX9_powers_110 : decode cX9_powers 110 = .ok (.aload_n 0, 1) := by decide +kernel
theorem dX9_powers_111 : decode cX9_powers 111 = .ok (.iconst 0, 1) := by decide +kernel
theorem dX9_powers_112 : decode cX9_powers 112 = .ok (.putfield 135, 3) := by decide +kernel
theorem dX9_powers_115 : decode cX9_powers 115 = .ok (.aload_n 0, 1) := by decide +kernel
theorem dX9_powers_116 : decode cX9_powers 116 = .ok (.aload_n 3, 1) := by decide +kernel
theorem dX9_powers_117 : decode cX9_powers 117 = .ok (.invokevirtual 155, 3) := by decide +kernel
theorem dX9_powers_120 : decode cX9_powers 120 = .ok (.ireturn, 1) := by decide +kernel
theorem dX9_sums_0 : decode cX9_sums 0 = .ok (.iload_n 1, 1) := by decide +kernel
theorem dX9_sums_1 : decode cX9_sums 1 = .ok (.iload_n 2, 1) := by decide +kernel
theorem dX9_sums_2 : decode cX9_sums 2 = .ok (.invokestatic 148, 3) := by decide +kernel
theorem dX9_sums_5 : decode cX9_sums 5 = .ok (.aload_n 0, 1) := by decide +kernel
theorem dX9_sums_6 : decode cX9_sums 6 = .ok (.getfield 135, 3) := by decide +kernel
theorem dX9_sums_9 : decode cX9_sums 9 = .ok (.iload_n 1, 1) := by decide +kernel
theorem dX9_sums_10 : decode cX9_sums 10 = .ok (.iload_n 2, 1) := by decide +kernel
theorem dX9_sums_11 : decode cX9_sums 11 = .ok (.iadd, 1) := by decide +kernel
theorem dX9_sums_12 : decode cX9_sums 12 = .ok (.if_icmp .ne 11, 3) := by decide +kernel
theorem dX9_sums_15 : decode cX9_sums 15 = .ok (.aload_n 0, 1) := by decide +kernel
theorem dX9_sums_16 : decode cX9_sums 16 = .ok (.iconst 1, 1) := by decide +kernel
theorem dX9_sums_17 : decode cX9_sums 17 = .ok (.invokevirtual 159, 3) := by decide +kernel
theorem dX9_sums_20 : decode cX9_sums 20 = .ok (.ifCond .eq 13, 3) := by decide +kernel
theorem dX9_sums_23 : decode cX9_sums 23 = .ok (.new 163, 3) := by decide +kernel
theorem dX9_sums_26 : decode cX9_sums 26 = .ok (.dup, 1) := by decide +kernel
theorem dX9_sums_27 : decode cX9_sums 27 = .ok (.ldc 171, 2) := by decide +kernel
theorem dX9_sums_29 : decode cX9_sums 29 = .ok (.invokespecial 167, 3) := by decide +kernel
theorem dX9_sums_32 : decode cX9_sums 32 = .ok (.athrow, 1) := by decide +kernel
theorem dX9_sums_33 : decode cX9_sums 33 = .ok (.aload_n 0, 1) := by decide +kernel
theorem dX9_sums_34 : decode cX9_sums 34 = .ok (.invokevirtual 151, 3) := by decide +kernel
theorem dX9_sums_37 : decode cX9_sums 37 = .ok (.new 25, 3) := by decide +kernel
theorem dX9_sums_40 : decode cX9_sums 40 = .ok (.dup, 1) := by decide +kernel
theorem dX9_sums_41 : decode cX9_sums 41 = .ok (.iload_n 1, 1) := by decide +kernel
theorem dX9_sums_42 : decode cX9_sums 42 = .ok (.iload_n 2, 1) := by decide +kernel
theorem dX9_sums_43 : decode cX9_sums 43 = .ok (.invokespecial 154, 3) := by decide +kernel
theorem dX9_sums_46 : decode cX9_sums 46 = .ok (.astore_n 3, 1) := by decide +kernel
theorem dX9_sums_47 : decode cX9_sums 47 = .ok (.iconst 0, 1) := by decide +kernel
theorem dX9_sums_48 : decode cX9_sums 48 = .ok (.istore 4, 2) := by decide +kernel
theorem dX9_sums_50 : decode cX9_sums 50 = .ok (.iload 4, 2) := by decide +kernel
theorem dX9_sums_52 : decode cX9_sums 52 = .ok (.iload_n 1, 1) := by decide +kernel
theorem dX9_sums_53 : decode cX9_sums 53 = .ok (.if_icmp .ge 60, 3) := by decide +kernel
theorem dX9_sums_56 : decode cX9_sums 56 = .ok (.iconst 0, 1) := by decide +kernel
theorem dX9_sums_57 : decode cX9_sums 57 = .ok (.istore 5, 2) := by decide +kernel
theorem dX9_sums_59 : decode cX9_sums 59 = .ok (.iload 5, 2) := by decide +kernel
theorem dX9_sums_61 : decode cX9_sums 61 = .ok (.iload_n 2, 1) := by decide +kernel
theorem dX9_sums_62 : decode cX9_sums 62 = .ok (.if_icmp .ge 45, 3) := by decide +kernel
theorem dX9_sums_65 : decode cX9_sums 65 = .ok (.aload_n 3, 1) := by decide +kernel
theorem dX9_sums_66 : decode cX9_sums 66 = .ok (.getfield 168, 3) := by decide +kernel
theorem dX9_sums_69 : decode cX9_sums 69 = .ok (.iload 4, 2) := by decide +kernel
theorem dX9_sums_71 : decode cX9_sums 71 = .ok (.iload_n 2, 1) := by decide +kernel
theorem dX9_sums_72 : decode cX9_sums 72 = .ok (.imul, 1) := by decide +kernel
theorem dX9_sums_73 : decode cX9_sums 73 = .ok (.iload 5, 2) := by decide +kernel
theorem dX9_sums_75 : decode cX9_sums 75 = .ok (.iadd, 1) := by decide +kernel
theorem dX9_sums_76 : decode cX9_sums 76 = .ok (.aload_n 0, 1) := by decide +kernel
theorem dX9_sums_77 : decode cX9_sums 77 = .ok (.getfield 43, 3) := by decide +kernel
theorem dX9_sums_80 : decode cX9_sums 80 = .ok (.aload_n 0, 1) := by decide +kernel
theorem dX9_sums_81 : decode cX9_sums 81 = .ok (.getfield 21, 3) := by decide +kernel
theorem dX9_sums_84 : decode cX9_sums 84 = .ok (.iload 4, 2) := by decide +kernel
theorem dX9_sums_86 : decode cX9_sums 86 = .ok (.iaload, 1) := by decide +kernel
theorem dX9_sums_87 : decode cX9_sums 87 = .ok (.aload_n 0, 1) := by decide +kernel
theorem dX9_sums_88 : decode cX9_sums 88 = .ok (.getfield 21, 3) := by decide +kernel
theorem dX9_sums_91 : decode cX9_sums 91 = .ok (.iload_n 1, 1) := by decide +kernel
theorem dX9_sums_92 : decode cX9_sums 92 = .ok (.iload 5, 2) := by decide +kernel
theorem dX9_sums_94 : decode cX9_sums 94 = .ok (.iadd, 1) := by decide +kernel
theorem dX9_sums_95 : decode cX9_sums 95 = .ok (.iaload, 1) := by decide +kernel
theorem dX9_sums_96 : decode cX9_sums 96 = .ok (.ixor, 1) := by decide +kernel
theorem dX9_sums_97 : decode cX9_sums 97 = .ok (.invokevirtual 173, 3) := by decide +kernel
theorem dX9_sums_100 : decode cX9_sums 100 = .ok (.iastore, 1) := by decide +kernel
theorem dX9_sums_101 : decode cX9_sums 101 = .ok (.iinc 5 1, 3) := by decide +kernel
theorem dX9_sums_104 : decode cX9_sums 104 = .ok (.goto (-45), 3) := by decide +kernel
theorem dX9_sums_107 : decode cX9_sums 107 = .ok (.iinc 4 1, 3) := by decide +kernel
theorem dX9_sums_110 : decode cX9_sums 110 = .ok (.goto (-60), 3) := by decide +kernel
theorem dX9_sums_113 : decode cX9_sums 113 = .ok (.aload_n 0, 1) := by decide +kernel
theorem dX9_sums_114 : decode cX9_sums 114 = .ok (.iconst 0, 1) := by decide +kernel
theorem dX9_sums_115 : decode cX9_sums 115 = .ok (.putfield 135, 3) := by decide +kernel
theorem dX9_sums_118 : decode cX9_sums 118 = .ok (.aload_n 0, 1) := by decide +kernel
theorem dX9_sums_119 : decode cX9_sums 119 = .ok (.aload_n 3, 1) := by decide +kernel
theorem dX9_sums_120 : decode cX9_sums 120 = .ok (.invokevirtual 155, 3) := by decide +kernel
theorem dX9_sums_123 : decode cX9_sums 123 = .ok (.ireturn, 1) := by decide +kernel
theorem dX9_size_0 : decode cX9_size 0 = .ok (.aload_n 0, 1) := by decide +kernel
theorem dX9_size_1 : decode cX9_size 1 = .ok (.iload_n 1, 1) := by decide +kernel
theorem dX9_size_2 : decode cX9_size 2 = .ok (.invokevirtual 176, 3) := by decide +kernel
theorem dX9_size_5 : decode cX9_size 5 = .ok (.astore_n 3, 1) := by decide +kernel
theorem dX9_size_6 : decode cX9_size 6 = .ok (.iload_n 2, 1) := by decide +kernel
theorem dX9_size_7 : decode cX9_size 7 = .ok (.ifCond .eq 18, 3) := by decide +kernel
theorem dX9_size_10 : decode cX9_size 10 = .ok (.iload_n 2, 1) := by decide +kernel
theorem dX9_size_11 : decode cX9_size 11 = .ok (.iconst 1, 1) := by decide +kernel
theorem dX9_size_12 : decode cX9_size 12 = .ok (.if_icmp .eq 13, 3) := by decide +kernel
theorem dX9_size_15 : decode cX9_size 15 = .ok (.new 180, 3) := by decide +kernel
theorem dX9_size_18 : decode cX9_size 18 = .ok (.dup, 1) := by decide +kernel
theorem dX9_size_19 : decode cX9_size 19 = .ok (.ldc 182, 2) := by decide +kernel
theorem dX9_size_21 : decode cX9_size 21 = .ok (.invokespecial 184, 3) := by decide +kernel
theorem dX9_size_24 : decode cX9_size 24 = .ok (.athrow, 1) := by decide +kernel
theorem dX9_size_25 : decode cX9_size 25 = .ok (.iload_n 2, 1) := by decide +kernel
theorem dX9_size_26 : decode cX9_size 26 = .ok (.ifCond .ne 10, 3) := by decide +kernel
theorem dX9_size_29 : decode cX9_size 29 = .ok (.aload_n 3, 1) := by decide +kernel
theorem dX9_size_30 : decode cX9_size 30 = .ok (.getfield 185, 3) := by decide +kernel
theorem dX9_size_33 : decode cX9_size 33 = .ok (.goto 7, 3) := by decide +kernel
theorem dX9_size_36 : decode cX9_size 36 = .ok (.aload_n 3, 1) := by decide +kernel
theorem dX9_size_37 : decode cX9_size 37 = .ok (.getfield 188, 3) := by decide +kernel
theorem dX9_size_40 : decode cX9_size 40 = .ok (.ireturn, 1) := by decide +kernel
theorem dX9_cell_0 : decode cX9_cell 0 = .ok (.aload_n 0, 1) := by decide +kernel
theorem dX9_cell_1 : decode cX9_cell 1 = .ok (.iload_n 1, 1) := by decide +kernel
theorem dX9_cell_2 : decode cX9_cell 2 = .ok (.invokevirtual 176, 3) := by decide +kernel
theorem dX9_cell_5 : decode cX9_cell 5 = .ok (.astore 4, 2) := by decide +kernel
theorem dX9_cell_7 : decode cX9_cell 7 = .ok (.aload 4, 2) := by decide +kernel
theorem dX9_cell_9 : decode cX9_cell 9 = .ok (.getfield 168, 3) := by decide +kernel
theorem dX9_cell_12 : decode cX9_cell 12 = .ok (.aload 4, 2) := by decide +kernel
theorem dX9_cell_14 : decode cX9_cell 14 = .ok (.iload_n 2, 1) := by decide +kernel
theorem dX9_cell_15 : decode cX9_cell 15 = .ok (.iload_n 3, 1) := by decide +kernel
theorem dX9_cell_16 : decode cX9_cell 16 = .ok (.invokestatic 191, 3) := by decide +kernel
theorem dX9_cell_19 : decode cX9_cell 19 = .ok (.iaload, 1) := by decide +kernel
theorem dX9_cell_20 : decode cX9_cell 20 = .ok (.ireturn, 1) := by decide +kernel
theorem dX9_set_0 : decode cX9_set 0 = .ok (.aload_n 0, 1) := by decide +kernel
theorem dX9_set_1 : decode cX9_set 1 = .ok (.iload_n 1, 1) := by decide +kernel
theorem dX9_set_2 : decode cX9_set 2 = .ok (.invokevirtual 176, 3) := by decide +kernel
theorem dX9_set_5 : decode cX9_set 5 = .ok (.astore 5, 2) := by decide +kernel
theorem dX9_set_7 : decode cX9_set 7 = .ok (.aload 5, 2) := by decide +kernel
theorem dX9_set_9 : decode cX9_set 9 = .ok (.iload_n 2, 1) := by decide +kernel
theorem dX9_set_10 : decode cX9_set 10 = .ok (.iload_n 3, 1) := by decide +kernel
theorem dX9_set_11 : decode cX9_set 11 = .ok (.invokestatic 191, 3) := by decide +kernel
theorem dX9_set_14 : decode cX9_set 14 = .ok (.istore 6, 2) := by decide +kernel
theorem dX9_set_16 : decode cX9_set 16 = .ok (.aload_n 0, 1) := by decide +kernel
theorem dX9_set_17 : decode cX9_set 17 = .ok (.iload 4, 2) := by decide +kernel
theorem dX9_set_19 : decode cX9_set 19 = .ok (.invokevirtual 100, 3) := by decide +kernel
theorem dX9_set_22 : decode cX9_set 22 = .ok (.aload 5, 2) := by decide +kernel
theorem dX9_set_24 : decode cX9_set 24 = .ok (.getfield 168, 3) := by decide +kernel
theorem dX9_set_27 : decode cX9_set 27 = .ok (.iload 6, 2) := by decide +kernel
theorem dX9_set_29 : decode cX9_set 29 = .ok (.iaload, 1) := by decide +kernel
theorem dX9_set_30 : decode cX9_set 30 = .ok (.istore 7, 2) := by decide +kernel
theorem dX9_set_32 : decode cX9_set 32 = .ok (.aload 5, 2) := by decide +kernel
theorem dX9_set_34 : decode cX9_set 34 = .ok (.getfield 168, 3) := by decide +kernel
theorem dX9_set_37 : decode cX9_set 37 = .ok (.iload 6, 2) := by decide +kernel
theorem dX9_set_39 : decode cX9_set 39 = .ok (.iload 4, 2) := by decide +kernel
theorem dX9_set_41 : decode cX9_set 41 = .ok (.iastore, 1) := by decide +kernel
theorem dX9_set_42 : decode cX9_set 42 = .ok (.iload 7, 2) := by decide +kernel
theorem dX9_set_44 : decode cX9_set 44 = .ok (.ireturn, 1) := by decide +kernel
theorem dX9_times_0 : decode cX9_times 0 = .ok (.aload_n 0, 1) := by decide +kernel
theorem dX9_times_1 : decode cX9_times 1 = .ok (.iload_n 1, 1) := by decide +kernel
theorem dX9_times_2 : decode cX9_times 2 = .ok (.invokevirtual 176, 3) := by decide +kernel
theorem dX9_times_5 : decode cX9_times 5 = .ok (.astore_n 3, 1) := by decide +kernel
theorem dX9_times_6 : decode cX9_times 6 = .ok (.aload_n 0, 1) := by decide +kernel
theorem dX9_times_7 : decode cX9_times 7 = .ok (.iload_n 2, 1) := by decide +kernel
theorem dX9_times_8 : decode cX9_times 8 = .ok (.invokevirtual 176, 3) := by decide +kernel
theorem dX9_times_11 : decode cX9_times 11 = .ok (.astore 4, 2) := by decide +kernel
theorem dX9_times_13 : decode cX9_times 13 = .ok (.aload_n 3, 1) := by decide +kernel
theorem dX9_times_14 : decode cX9_times 14 = .ok (.getfield 188, 3) := by decide +kernel
theorem dX9_times_17 : decode cX9_times 17 = .ok (.aload 4, 2) := by decide +kernel
theorem dX9_times_19 : decode cX9_times 19 = .ok (.getfield 185, 3) := by decide +kernel
theorem dX9_times_22 : decode cX9_times 22 = .ok (.if_icmp .eq 13, 3) := by decide +kernel
theorem dX9_times_25 : decode cX9_times 25 = .ok (.new 163, 3) := by decide +kernel
theorem dX9_times_28 : decode cX9_times 28 = .ok (.dup, 1) := by decide +kernel
theorem dX9_times_29 : decode cX9_times 29 = .ok (.ldc 195, 2) := by decide +kernel
theorem dX9_times_31 : decode cX9_times 31 = .ok (.invokespecial 167, 3) := by decide +kernel
theorem dX9_times_34 : decode cX9_times 34 = .ok (.athrow, 1) := by decide +kernel
theorem dX9_times_35 : decode cX9_times 35 = .ok (.aload_n 0, 1) := by decide +kernel
theorem dX9_times_36 : decode cX9_times 36 = .ok (.invokevirtual 151, 3) := by decide +kernel
theorem dX9_times_39 : decode cX9_times 39 = .ok (.new 25, 3) := by decide +kernel
theorem dX9_times_42 : decode cX9_times 42 = .ok (.dup, 1) := by decide +kernel
theorem dX9_times_43 : decode cX9_times 43 = .ok (.aload_n 3, 1) := by decide +kernel
theorem dX9_times_44 : decode cX9_times 44 = .ok (.getfield 185, 3) := by decide +kernel
theorem dX9_times_47 : decode cX9_times 47 = .ok (.aload 4, 2) := by decide +kernel
theorem dX9_times_49 : decode cX9_times 49 = .ok (.getfield 188, 3) := by decide +kernel
theorem dX9_times_52 : decode cX9_times 52 = .ok (.invokespecial 154, 3) := by decide +kernel
theorem dX9_times_55 : decode cX9_times 55 = .ok (.astore 5, 2) := by decide +kernel
theorem dX9_times_57 : decode cX9_times 57 = .ok (.iconst 0, 1) := by decide +kernel
theorem dX9_times_58 : decode cX9_times 58 = .ok (.istore 6, 2) := by decide +kernel
theorem dX9_times_60 : decode cX9_times 60 = .ok (.iload 6, 2) := by decide +kernel
theorem dX9_times_62 : decode cX9_times 62 = .ok (.aload_n 3, 1) := by decide +kernel
theorem dX9_times_63 : decode cX9_times 63 = .ok (.getfield 185, 3) := by decide +kernel
theorem dX9_times_66 : decode cX9_times 66 = .ok (.if_icmp .ge 84, 3) := by decide +kernel
theorem dX9_times_69 : decode cX9_times 69 = .ok (.iconst 0, 1) := by decide +kernel
theorem dX9_times_70 : decode cX9_times 70 = .ok (.istore 7, 2) := by decide +kernel
theorem dX9_times_72 : decode cX9_times 72 = .ok (.iload 7, 2) := by decide +kernel
theorem dX9_times_74 : decode cX9_times 74 = .ok (.aload_n 3, 1) := by decide +kernel
theorem dX9_times_75 : decode cX9_times 75 = .ok (.getfield 188, 3) := by decide +kernel
theorem dX9_times_78 : decode cX9_times 78 = .ok (.if_icmp .ge 66, 3) := by decide +kernel
theorem dX9_times_81 : decode cX9_times 81 = .ok (.aload_n 3, 1) := by decide +kernel
theorem dX9_times_82 : decode cX9_times 82 = .ok (.getfield 168, 3) := by decide +kernel
theorem dX9_times_85 : decode cX9_times 85 = .ok (.iload 6, 2) := by decide +kernel
theorem dX9_times_87 : decode cX9_times 87 = .ok (.aload_n 3, 1) := by decide +kernel
theorem dX9_times_88 : decode cX9_times 88 = .ok (.getfield 188, 3) := by decide +kernel
theorem dX9_times_91 : decode cX9_times 91 = .ok (.imul, 1) := by decide +kernel
theorem dX9_times_92 : decode cX9_times 92 = .ok (.iload 7, 2) := by decide +kernel
theorem dX9_times_94 : decode cX9_times 94 = .ok (.iadd, 1) := by decide +kernel
theorem dX9_times_95 : decode cX9_times 95 = .ok (.iaload, 1) := by decide +kernel
theorem dX9_times_96 : decode cX9_times 96 = .ok (.istore 8, 2) := by decide +kernel
theorem dX9_times_98 : decode cX9_times 98 = .ok (.aload_n 0, 1) := by decide +kernel
theorem dX9_times_99 : decode cX9_times 99 = .ok (.getfield 43, 3) := by decide +kernel
theorem dX9_times_102 : decode cX9_times 102 = .ok (.aload 5, 2) := by decide +kernel
theorem dX9_times_104 : decode cX9_times 104 = .ok (.getfield 168, 3) := by decide +kernel
theorem dX9_times_107 : decode cX9_times 107 = .ok (.iload 6, 2) := by decide +kernel
theorem dX9_times_109 : decode cX9_times 109 = .ok (.aload 5, 2) := by decide +kernel
theorem dX9_times_111 : decode cX9_times 111 = .ok (.getfield 188, 3) := by decide +kernel
theorem dX9_times_114 : decode cX9_times 114 = .ok (.imul, 1) := by decide +kernel
theorem dX9_times_115 : decode cX9_times 115 = .ok (.aload 4, 2) := by decide +kernel
theorem dX9_times_117 : decode cX9_times 117 = .ok (.getfield 168, 3) := by decide +kernel
theorem dX9_times_120 : decode cX9_times 120 = .ok (.iload 7, 2) := by decide +kernel
theorem dX9_times_122 : decode cX9_times 122 = .ok (.aload 4, 2) := by decide +kernel
theorem dX9_times_124 : decode cX9_times 124 = .ok (.getfield 188, 3) := by decide +kernel
theorem dX9_times_127 : decode cX9_times 127 = .ok (.imul, 1) := by decide +kernel
theorem dX9_times_128 : decode cX9_times 128 = .ok (.aload 4, 2) := by decide +kernel
theorem dX9_times_130 : decode cX9_times 130 = .ok (.getfield 188, 3) := by decide +kernel
theorem dX9_times_133 : decode cX9_times 133 = .ok (.iload 8, 2) := by decide +kernel
theorem dX9_times_135 : decode cX9_times 135 = .ok (.invokevirtual 197, 3) := by decide +kernel
theorem dX9_times_138 : decode cX9_times 138 = .ok (.iinc 7 1, 3) := by decide +kernel
theorem dX9_times_141 : decode cX9_times 141 = .ok (.goto (-69), 3) := by decide +kernel
theorem dX9_times_144 : decode cX9_times 144 = .ok (.iinc 6 1, 3) := by decide +kernel
theorem dX9_times_147 : decode cX9_times 147 = .ok (.goto (-87), 3) := by decide +kernel
theorem dX9_times_150 : decode cX9_times 150 = .ok (.aload_n 0, 1) := by decide +kernel
theorem dX9_times_151 : decode cX9_times 151 = .ok (.aload 5, 2) := by decide +kernel
theorem dX9_times_153 : decode cX9_times 153 = .ok (.invokevirtual 155, 3) := by decide +kernel
theorem dX9_times_156 : decode cX9_times 156 = .ok (.ireturn, 1) := by decide +kernel
theorem dX9_invert_0 : decode cX9_invert 0 = .ok (.aload_n 0, 1) := by decide +kernel
theorem dX9_invert_1 : decode cX9_invert 1 = .ok (.iload_n 1, 1) := by decide +kernel
theorem dX9_invert_2 : decode cX9_invert 2 = .ok (.invokevirtual 176, 3) := by decide +kernel
theorem dX9_invert_5 : decode cX9_invert 5 = .ok (.astore_n 2, 1) := by decide +kernel
theorem dX9_invert_6 : decode cX9_invert 6 = .ok (.aload_n 2, 1) := by decide +kernel
theorem dX9_invert_7 : decode cX9_invert 7 = .ok (.invokestatic 201, 3) := by decide +kernel
theorem dX9_invert_10 : decode cX9_invert 10 = .ok (.aload_n 0, 1) := by decide +kernel
theorem dX9_invert_11 : decode cX9_invert 11 = .ok (.invokevirtual 151, 3) := by decide +kernel
theorem dX9_invert_14 : decode cX9_invert 14 = .ok (.aload_n 0, 1) := by decide +kernel
theorem dX9_invert_15 : decode cX9_invert 15 = .ok (.getfield 52, 3) := by decide +kernel
theorem dX9_invert_18 : decode cX9_invert 18 = .ok (.aload_n 2, 1) := by decide +kernel
theorem dX9_invert_19 : decode cX9_invert 19 = .ok (.invokevirtual 205, 3) := by decide +kernel
theorem dX9_invert_22 : decode cX9_invert 22 = .ok (.aload_n 0, 1) := by decide +kernel
theorem dX9_invert_23 : decode cX9_invert 23 = .ok (.getfield 52, 3) := by decide +kernel
theorem dX9_invert_26 : decode cX9_invert 26 = .ok (.invokevirtual 208, 3) := by decide +kernel
theorem dX9_invert_29 : decode cX9_invert 29 = .ok (.aload_n 0, 1) := by decide +kernel
theorem dX9_invert_30 : decode cX9_invert 30 = .ok (.getfield 52, 3) := by decide +kernel
theorem dX9_invert_33 : decode cX9_invert 33 = .ok (.aload_n 2, 1) := by decide +kernel
theorem dX9_invert_34 : decode cX9_invert 34 = .ok (.getfield 188, 3) := by decide +kernel
theorem dX9_invert_37 : decode cX9_invert 37 = .ok (.invokevirtual 211, 3) := by decide +kernel
theorem dX9_invert_40 : decode cX9_invert 40 = .ok (.aload_n 2, 1) := by decide +kernel
theorem dX9_invert_41 : decode cX9_invert 41 = .ok (.getfield 185, 3) := by decide +kernel
theorem dX9_invert_44 : decode cX9_invert 44 = .ok (.if_icmp .ge 5, 3) := by decide +kernel
theorem dX9_invert_47 : decode cX9_invert 47 = .ok (.iconst (-1), 1) := by decide +kernel
theorem dX9_invert_48 : decode cX9_invert 48 = .ok (.ireturn, 1) := by decide +kernel
theorem dX9_invert_49 : decode cX9_invert 49 = .ok (.new 25, 3) := by decide +kernel
theorem dX9_invert_52 : decode cX9_invert 52 = .ok (.dup, 1) := by decide +kernel
theorem dX9_invert_53 : decode cX9_invert 53 = .ok (.aload_n 2, 1) := by decide +kernel
theorem dX9_invert_54 : decode cX9_invert 54 = .ok (.getfield 185, 3) := by decide +kernel
theorem dX9_invert_57 : decode cX9_invert 57 = .ok (.aload_n 2, 1) := by decide +kernel
theorem dX9_invert_58 : decode cX9_invert 58 = .ok (.getfield 188, 3) := by decide +kernel
theorem dX9_invert_61 : decode cX9_invert 61 = .ok (.invokespecial 154, 3) := by decide +kernel
theorem dX9_invert_64 : decode cX9_invert 64 = .ok (.astore_n 3, 1) := by decide +kernel
theorem dX9_invert_65 : decode cX9_invert 65 = .ok (.aload_n 0, 1) := by decide +kernel
theorem dX9_invert_66 : decode cX9_invert 66 = .ok (.getfield 52, 3) := by decide +kernel
theorem dX9_invert_69 : decode cX9_invert 69 = .ok (.aload_n 3, 1) := by decide +kernel
theorem dX9_invert_70 : decode cX9_invert 70 = .ok (.invokevirtual 214, 3) := by decide +kernel
theorem dX9_invert_73 : decode cX9_invert 73 = .ok (.aload_n 0, 1) := by decide +kernel
theorem dX9_invert_74 : decode cX9_invert 74 = .ok (.aload_n 3, 1) := by decide +kernel
theorem dX9_invert_75 : decode cX9_invert 75 = .ok (.invokevirtual 155, 3) := by decide +kernel
theorem dX9_invert_78 : decode cX9_invert 78 = .ok (.ireturn, 1) := by decide +kernel
theorem dX9_rank_0 : decode cX9_rank 0 = .ok (.aload_n 0, 1) := by decide +kernel
theorem dX9_rank_1 : decode cX9_rank 1 = .ok (.iload_n 1, 1) := by decide +kernel
theorem dX9_rank_2 : decode cX9_rank 2 = .ok (.invokevirtual 176, 3) := by decide +kernel
theorem dX9_rank_5 : decode cX9_rank 5 = .ok (.astore_n 2, 1) := by decide +kernel
theorem dX9_rank_6 : decode cX9_rank 6 = .ok (.aload_n 0, 1) := by decide +kernel
theorem dX9_rank_7 : decode cX9_rank 7 = .ok (.getfield 52, 3) := by decide +kernel
theorem dX9_rank_10 : decode cX9_rank 10 = .ok (.aload_n 2, 1) := by decide +kernel
theorem dX9_rank_11 : decode cX9_rank 11 = .ok (.invokevirtual 205, 3) := by decide +kernel
theorem dX9_rank_14 : decode cX9_rank 14 = .ok (.aload_n 0, 1) := by decide +kernel
theorem dX9_rank_15 : decode cX9_rank 15 = .ok (.getfield 52, 3) := by decide +kernel
theorem dX9_rank_18 : decode cX9_rank 18 = .ok (.aload_n 2, 1) := by decide +kernel
theorem dX9_rank_19 : decode cX9_rank 19 = .ok (.getfield 188, 3) := by decide +kernel
theorem dX9_rank_22 : decode cX9_rank 22 = .ok (.invokevirtual 211, 3) := by decide +kernel
theorem dX9_rank_25 : decode cX9_rank 25 = .ok (.ireturn, 1) := by decide +kernel
theorem dX9_determinant_0 : decode cX9_determinant 0 = .ok (.aload_n 0, 1) := by decide +kernel
theorem dX9_determinant_1 : decode cX9_determinant 1 = .ok (.iload_n 1, 1) := by decide +kernel
theorem dX9_determinant_2 : decode cX9_determinant 2 = .ok (.invokevirtual 176, 3) := by decide +kernel
theorem dX9_determinant_5 : decode cX9_determinant 5 = .ok (.astore_n 2, 1) := by decide +kernel
theorem dX9_determinant_6 : decode cX9_determinant 6 = .ok (.aload_n 2, 1) := by decide +kernel
theorem dX9_determinant_7 : decode cX9_determinant 7 = .ok (.invokestatic 201, 3) := by decide +kernel
theorem dX9_determinant_10 : decode cX9_determinant 10 = .ok (.aload_n 0, 1) := by decide +kernel
theorem dX9_determinant_11 : decode cX9_determinant 11 = .ok (.getfield 52, 3) := by decide +kernel
theorem dX9_determinant_14 : decode cX9_determinant 14 = .ok (.aload_n 2, 1) := by decide +kernel
theorem dX9_determinant_15 : decode cX9_determinant 15 = .ok (.invokevirtual 205, 3) := by decide +kernel
theorem dX9_determinant_18 : decode cX9_determinant 18 = .ok (.aload_n 0, 1) := by decide +kernel
theorem dX9_determinant_19 : decode cX9_determinant 19 = .ok (.getfield 52, 3) := by decide +kernel
theorem dX9_determinant_22 : decode cX9_determinant 22 = .ok (.aload_n 2, 1) := by decide +kernel
theorem dX9_determinant_23 : decode cX9_determinant 23 = .ok (.getfield 188, 3) := by decide +kernel
theorem dX9_determinant_26 : decode cX9_determinant 26 = .ok (.invokevirtual 211, 3) := by decide +kernel
theorem dX9_determinant_29 : decode cX9_determinant 29 = .ok (.aload_n 2, 1) := by decide +kernel
theorem dX9_determinant_30 : decode cX9_determinant 30 = .ok (.getfield 185, 3) := by decide +kernel
theorem dX9_determinant_33 : decode cX9_determinant 33 = .ok (.if_icmp .ge 7, 3) := by decide +kernel
theorem dX9_determinant_36 : decode cX9_determinant 36 = .ok (.iconst 0, 1) := by decide +kernel
theorem dX9_determinant_37 : decode cX9_determinant 37 = .ok (.goto 10, 3) := by decide +kernel
theorem dX9_determinant_40 : decode cX9_determinant 40 = .ok (.aload_n 0, 1) := by decide +kernel
theorem dX9_determinant_41 : decode cX9_determinant 41 = .ok (.getfield 52, 3) := by decide +kernel
theorem dX9_determinant_44 : decode cX9_determinant 44 = .ok (.getfield 217, 3) := by decide +kernel
theorem dX9_determinant_47 : decode cX9_determinant 47 = .ok (.ireturn, 1) := by decide +kernel
theorem dX9_singular_0 : decode cX9_singular 0 = .ok (.aload_n 0, 1) := by decide +kernel
theorem dX9_singular_1 : decode cX9_singular 1 = .ok (.getfield 59, 3) := by decide +kernel
theorem dX9_singular_4 : decode cX9_singular 4 = .ok (.aload_n 0, 1) := by decide +kernel
theorem dX9_singular_5 : decode cX9_singular 5 = .ok (.iload_n 1, 1) := by decide +kernel
theorem dX9_singular_6 : decode cX9_singular 6 = .ok (.invokevirtual 176, 3) := by decide +kernel
theorem dX9_singular_9 : decode cX9_singular 9 = .ok (.invokevirtual 220, 3) := by decide +kernel
theorem dX9_singular_12 : decode cX9_singular 12 = .ok (.ireturn, 1) := by decide +kernel
theorem dX9_solve_0 : decode cX9_solve 0 = .ok (.aload_n 0, 1) := by decide +kernel
theorem dX9_solve_1 : decode cX9_solve 1 = .ok (.iload_n 1, 1) := by decide +kernel
theorem dX9_solve_2 : decode cX9_solve 2 = .ok (.invokevirtual 176, 3) := by decide +kernel
theorem dX9_solve_5 : decode cX9_solve 5 = .ok (.astore_n 2, 1) := by decide +kernel
theorem dX9_solve_6 : decode cX9_solve 6 = .ok (.aload_n 0, 1) := by decide +kernel
theorem dX9_solve_7 : decode cX9_solve 7 = .ok (.getfield 135, 3) := by decide +kernel
theorem dX9_solve_10 : decode cX9_solve 10 = .ok (.aload_n 2, 1) := by decide +kernel
theorem dX9_solve_11 : decode cX9_solve 11 = .ok (.getfield 185, 3) := by decide +kernel
theorem dX9_solve_14 : decode cX9_solve 14 = .ok (.if_icmp .eq 13, 3) := by decide +kernel
theorem dX9_solve_17 : decode cX9_solve 17 = .ok (.new 163, 3) := by decide +kernel
theorem dX9_solve_20 : decode cX9_solve 20 = .ok (.dup, 1) := by decide +kernel
theorem dX9_solve_21 : decode cX9_solve 21 = .ok (.ldc 223, 2) := by decide +kernel
theorem dX9_solve_23 : decode cX9_solve 23 = .ok (.invokespecial 167, 3) := by decide +kernel
theorem dX9_solve_26 : decode cX9_solve 26 = .ok (.athrow, 1) := by decide +kernel
theorem dX9_solve_27 : decode cX9_solve 27 = .ok (.aload_n 0, 1) := by decide +kernel
theorem dX9_solve_28 : decode cX9_solve 28 = .ok (.getfield 52, 3) := by decide +kernel
theorem dX9_solve_31 : decode cX9_solve 31 = .ok (.aload_n 2, 1) := by decide +kernel
theorem dX9_solve_32 : decode cX9_solve 32 = .ok (.invokevirtual 205, 3) := by decide +kernel
theorem dX9_solve_35 : decode cX9_solve 35 = .ok (.aload_n 0, 1) := by decide +kernel
theorem dX9_solve_36 : decode cX9_solve 36 = .ok (.getfield 52, 3) := by decide +kernel
theorem dX9_solve_39 : decode cX9_solve 39 = .ok (.aload_n 0, 1) := by decide +kernel
theorem dX9_solve_40 : decode cX9_solve 40 = .ok (.getfield 21, 3) := by decide +kernel
theorem dX9_solve_43 : decode cX9_solve 43 = .ok (.invokevirtual 225, 3) := by decide +kernel
theorem dX9_solve_46 : decode cX9_solve 46 = .ok (.aload_n 0, 1) := by decide +kernel
theorem dX9_solve_47 : decode cX9_solve 47 = .ok (.getfield 52, 3) := by decide +kernel
theorem dX9_solve_50 : decode cX9_solve 50 = .ok (.aload_n 2, 1) := by decide +kernel
theorem dX9_solve_51 : decode cX9_solve 51 = .ok (.getfield 188, 3) := by decide +kernel
theorem dX9_solve_54 : decode cX9_solve 54 = .ok (.invokevirtual 211, 3) := by decide +kernel
theorem dX9_solve_57 : decode cX9_solve 57 = .ok (.istore_n 3, 1) := by decide +kernel
theorem dX9_solve_58 : decode cX9_solve 58 = .ok (.aload_n 0, 1) := by decide +kernel
theorem dX9_solve_59 : decode cX9_solve 59 = .ok (.iconst 0, 1) := by decide +kernel
theorem dX9_solve_60 : decode cX9_solve 60 = .ok (.putfield 135, 3) := by decide +kernel
theorem dX9_solve_63 : decode cX9_solve 63 = .ok (.aload_n 0, 1) := by decide +kernel
theorem dX9_solve_64 : decode cX9_solve 64 = .ok (.getfield 52, 3) := by decide +kernel
theorem dX9_solve_67 : decode cX9_solve 67 = .ok (.aload_n 2, 1) := by decide +kernel
theorem dX9_solve_68 : decode cX9_solve 68 = .ok (.getfield 188, 3) := by decide +kernel
theorem dX9_solve_71 : decode cX9_solve 71 = .ok (.invokevirtual 229, 3) := by decide +kernel
theorem dX9_solve_74 : decode cX9_solve 74 = .ok (.ifCond .eq 5, 3) := by decide +kernel
theorem dX9_solve_77 : decode cX9_solve 77 = .ok (.iconst (-1), 1) := by decide +kernel
theorem dX9_solve_78 : decode cX9_solve 78 = .ok (.ireturn, 1) := by decide +kernel
theorem dX9_solve_79 : decode cX9_solve 79 = .ok (.iconst 0, 1) := by decide +kernel
theorem dX9_solve_80 : decode cX9_solve 80 = .ok (.istore 4, 2) := by decide +kernel
theorem dX9_solve_82 : decode cX9_solve 82 = .ok (.iload 4, 2) := by decide +kernel
theorem dX9_solve_84 : decode cX9_solve 84 = .ok (.aload_n 2, 1) := by decide +kernel
theorem dX9_solve_85 : decode cX9_solve 85 = .ok (.getfield 188, 3) := by decide +kernel
theorem dX9_solve_88 : decode cX9_solve 88 = .ok (.if_icmp .ge 29, 3) := by decide +kernel
theorem dX9_solve_91 : decode cX9_solve 91 = .ok (.aload_n 0, 1) := by decide +kernel
theorem dX9_solve_92 : decode cX9_solve 92 = .ok (.getfield 21, 3) := by decide +kernel
theorem dX9_solve_95 : decode cX9_solve 95 = .ok (.iload 4, 2) := by decide +kernel
theorem dX9_solve_97 : decode cX9_solve 97 = .ok (.aload_n 0, 1) := by decide +kernel
theorem dX9_solve_98 : decode cX9_solve 98 = .ok (.getfield 52, 3) := by decide +kernel
theorem dX9_solve_101 : decode cX9_solve 101 = .ok (.iload 4, 2) := by decide +kernel
theorem dX9_solve_103 : decode cX9_solve 103 = .ok (.aload_n 2, 1) := by decide +kernel
theorem dX9_solve_104 : decode cX9_solve 104 = .ok (.getfield 188, 3) := by decide +kernel
theorem dX9_solve_107 : decode cX9_solve 107 = .ok (.invokevirtual 232, 3) := by decide +kernel
theorem dX9_solve_110 : decode cX9_solve 110 = .ok (.iastore, 1) := by decide +kernel
theorem dX9_solve_111 : decode cX9_solve 111 = .ok (.iinc 4 1, 3) := by decide +kernel
theorem dX9_solve_114 : decode cX9_solve 114 = .ok (.goto (-32), 3) := by decide +kernel
theorem dX9_solve_117 : decode cX9_solve 117 = .ok (.aload_n 0, 1) := by decide +kernel
theorem dX9_solve_118 : decode cX9_solve 118 = .ok (.aload_n 2, 1) := by decide +kernel
theorem dX9_solve_119 : decode cX9_solve 119 = .ok (.getfield 188, 3) := by decide +kernel
theorem dX9_solve_122 : decode cX9_solve 122 = .ok (.putfield 135, 3) := by decide +kernel
theorem dX9_solve_125 : decode cX9_solve 125 = .ok (.aload_n 2, 1) := by decide +kernel
theorem dX9_solve_126 : decode cX9_solve 126 = .ok (.getfield 188, 3) := by decide +kernel
theorem dX9_solve_129 : decode cX9_solve 129 = .ok (.iload_n 3, 1) := by decide +kernel
theorem dX9_solve_130 : decode cX9_solve 130 = .ok (.isub, 1) := by decide +kernel
theorem dX9_solve_131 : decode cX9_solve 131 = .ok (.ireturn, 1) := by decide +kernel
theorem dX9_polynomial_0 : decode cX9_polynomial 0 = .ok (.aload_n 0, 1) := by decide +kernel
theorem dX9_polynomial_1 : decode cX9_polynomial 1 = .ok (.getfield 135, 3) := by decide +kernel
theorem dX9_polynomial_4 : decode cX9_polynomial 4 = .ok (.iconst 1, 1) := by decide +kernel
theorem dX9_polynomial_5 : decode cX9_polynomial 5 = .ok (.isub, 1) := by decide +kernel
theorem dX9_polynomial_6 : decode cX9_polynomial 6 = .ok (.istore_n 1, 1) := by decide +kernel
theorem dX9_polynomial_7 : decode cX9_polynomial 7 = .ok (.iload_n 1, 1) := by decide +kernel
theorem dX9_polynomial_8 : decode cX9_polynomial 8 = .ok (.ifCond .lt 18, 3) := by decide +kernel
theorem dX9_polynomial_11 : decode cX9_polynomial 11 = .ok (.aload_n 0, 1) := by decide +kernel
theorem dX9_polynomial_12 : decode cX9_polynomial 12 = .ok (.getfield 21, 3) := by decide +kernel
theorem dX9_polynomial_15 : decode cX9_polynomial 15 = .ok (.iload_n 1, 1) := by decide +kernel
theorem dX9_polynomial_16 : decode cX9_polynomial 16 = .ok (.iaload, 1) := by decide +kernel
theorem dX9_polynomial_17 : decode cX9_polynomial 17 = .ok (.ifCond .ne 9, 3) := by decide +kernel
theorem dX9_polynomial_20 : decode cX9_polynomial 20 = .ok (.iinc 1 (-1), 3) := by decide +kernel
theorem dX9_polynomial_23 : decode cX9_polynomial 23 = .ok (.goto (-16), 3) := by decide +kernel
theorem dX9_polynomial_26 : decode cX9_polynomial 26 = .ok (.iload_n 1, 1) := by decide +kernel
theorem dX9_polynomial_27 : decode cX9_polynomial 27 = .ok (.bipush 64, 2) := by decide +kernel
theorem dX9_polynomial_29 : decode cX9_polynomial 29 = .ok (.if_icmp .le 13, 3) := by decide +kernel
theorem dX9_polynomial_32 : decode cX9_polynomial 32 = .ok (.new 138, 3) := by decide +kernel
theorem dX9_polynomial_35 : decode cX9_polynomial 35 = .ok (.dup, 1) := by decide +kernel
theorem dX9_polynomial_36 : decode cX9_polynomial 36 = .ok (.ldc 235, 2) := by decide +kernel
theorem dX9_polynomial_38 : decode cX9_polynomial 38 = .ok (.invokespecial 142, 3) := by decide +kernel
theorem dX9_polynomial_41 : decode cX9_polynomial 41 = .ok (.athrow, 1) := by decide +kernel
theorem dX9_polynomial_42 : decode cX9_polynomial 42 = .ok (.aload_n 0, 1) := by decide +kernel
theorem dX9_polynomial_43 : decode cX9_polynomial 43 = .ok (.invokevirtual 237, 3) := by decide +kernel
theorem dX9_polynomial_46 : decode cX9_polynomial 46 = .ok (.aload_n 0, 1) := by decide +kernel
theorem dX9_polynomial_47 : decode cX9_polynomial 47 = .ok (.getfield 14, 3) := by decide +kernel
theorem dX9_polynomial_50 : decode cX9_polynomial 50 = .ok (.aload_n 0, 1) := by decide +kernel
theorem dX9_polynomial_51 : decode cX9_polynomial 51 = .ok (.getfield 21, 3) := by decide +kernel
theorem dX9_polynomial_54 : decode cX9_polynomial 54 = .ok (.iload_n 1, 1) := by decide +kernel
theorem dX9_polynomial_55 : decode cX9_polynomial 55 = .ok (.iconst 1, 1) := by decide +kernel
theorem dX9_polynomial_56 : decode cX9_polynomial 56 = .ok (.iadd, 1) := by decide +kernel
theorem dX9_polynomial_57 : decode cX9_polynomial 57 = .ok (.invokevirtual 240, 3) := by decide +kernel
theorem dX9_polynomial_60 : decode cX9_polynomial 60 = .ok (.aload_n 0, 1) := by decide +kernel
theorem dX9_polynomial_61 : decode cX9_polynomial 61 = .ok (.iconst 0, 1) := by decide +kernel
theorem dX9_polynomial_62 : decode cX9_polynomial 62 = .ok (.putfield 135, 3) := by decide +kernel
theorem dX9_polynomial_65 : decode cX9_polynomial 65 = .ok (.aload_n 0, 1) := by decide +kernel
theorem dX9_polynomial_66 : decode cX9_polynomial 66 = .ok (.aload_n 0, 1) := by decide +kernel
theorem dX9_polynomial_67 : decode cX9_polynomial 67 = .ok (.getfield 14, 3) := by decide +kernel
theorem dX9_polynomial_70 : decode cX9_polynomial 70 = .ok (.invokevirtual 243, 3) := by decide +kernel
theorem dX9_polynomial_73 : decode cX9_polynomial 73 = .ok (.ireturn, 1) := by decide +kernel
theorem dX9_through_0 : decode cX9_through 0 = .ok (.aload_n 0, 1) := by decide +kernel
theorem dX9_through_1 : decode cX9_through 1 = .ok (.getfield 135, 3) := by decide +kernel
theorem dX9_through_4 : decode cX9_through 4 = .ok (.iconst 2, 1) := by decide +kernel
theorem dX9_through_5 : decode cX9_through 5 = .ok (.irem, 1) := by decide +kernel
theorem dX9_through_6 : decode cX9_through 6 = .ok (.ifCond .ne 11, 3) := by decide +kernel
theorem dX9_through_9 : decode cX9_through 9 = .ok (.aload_n 0, 1) := by decide +kernel
theorem dX9_through_10 : decode cX9_through 10 = .ok (.iconst 2, 1) := by decide +kernel
theorem dX9_through_11 : decode cX9_through 11 = .ok (.invokevirtual 159, 3) := by decide +kernel
theorem dX9_through_14 : decode cX9_through 14 = .ok (.ifCond .eq 13, 3) := by decide +kernel
theorem dX9_through_17 : decode cX9_through 17 = .ok (.new 163, 3) := by decide +kernel
theorem dX9_through_20 : decode cX9_through 20 = .ok (.dup, 1) := by decide +kernel
theorem dX9_through_21 : decode cX9_through 21 = .ok (.ldc 247, 2) := by decide +kernel
theorem dX9_through_23 : decode cX9_through 23 = .ok (.invokespecial 167, 3) := by decide +kernel
theorem dX9_through_26 : decode cX9_through 26 = .ok (.athrow, 1) := by decide +kernel
theorem dX9_through_27 : decode cX9_through 27 = .ok (.aload_n 0, 1) := by decide +kernel
theorem dX9_through_28 : decode cX9_through 28 = .ok (.invokevirtual 237, 3) := by decide +kernel
theorem dX9_through_31 : decode cX9_through 31 = .ok (.aload_n 0, 1) := by decide +kernel
theorem dX9_through_32 : decode cX9_through 32 = .ok (.getfield 135, 3) := by decide +kernel
theorem dX9_through_35 : decode cX9_through 35 = .ok (.iconst 2, 1) := by decide +kernel
theorem dX9_through_36 : decode cX9_through 36 = .ok (.idiv, 1) := by decide +kernel
theorem dX9_through_37 : decode cX9_through 37 = .ok (.istore_n 1, 1) := by decide +kernel
theorem dX9_through_38 : decode cX9_through 38 = .ok (.iconst 0, 1) := by decide +kernel
theorem dX9_through_39 : decode cX9_through 39 = .ok (.istore_n 2, 1) := by decide +kernel
theorem dX9_through_40 : decode cX9_through 40 = .ok (.iload_n 2, 1) := by decide +kernel
theorem dX9_through_41 : decode cX9_through 41 = .ok (.iload_n 1, 1) := by decide +kernel
theorem dX9_through_42 : decode cX9_through 42 = .ok (.if_icmp .ge 35, 3) := by decide +kernel
theorem dX9_through_45 : decode cX9_through 45 = .ok (.aload_n 0, 1) := by decide +kernel
theorem dX9_through_46 : decode cX9_through 46 = .ok (.getfield 73, 3) := by decide +kernel
theorem dX9_through_49 : decode cX9_through 49 = .ok (.iload_n 2, 1) := by decide +kernel
theorem dX9_through_50 : decode cX9_through 50 = .ok (.aload_n 0, 1) := by decide +kernel
theorem dX9_through_51 : decode cX9_through 51 = .ok (.getfield 21, 3) := by decide +kernel
theorem dX9_through_54 : decode cX9_through 54 = .ok (.iconst 2, 1) := by decide +kernel
theorem dX9_through_55 : decode cX9_through 55 = .ok (.iload_n 2, 1) := by decide +kernel
theorem dX9_through_56 : decode cX9_through 56 = .ok (.imul, 1) := by decide +kernel
theorem dX9_through_57 : decode cX9_through 57 = .ok (.iaload, 1) := by decide +kernel
theorem dX9_through_58 : decode cX9_through 58 = .ok (.aload_n 0, 1) := by decide +kernel
theorem dX9_through_59 : decode cX9_through 59 = .ok (.getfield 21, 3) := by decide +kernel
theorem dX9_through_62 : decode cX9_through 62 = .ok (.iconst 2, 1) := by decide +kernel
theorem dX9_through_63 : decode cX9_through 63 = .ok (.iload_n 2, 1) := by decide +kernel
theorem dX9_through_64 : decode cX9_through 64 = .ok (.imul, 1) := by decide +kernel
theorem dX9_through_65 : decode cX9_through 65 = .ok (.iconst 1, 1) := by decide +kernel
theorem dX9_through_66 : decode cX9_through 66 = .ok (.iadd, 1) := by decide +kernel
theorem dX9_through_67 : decode cX9_through 67 = .ok (.iaload, 1) := by decide +kernel
theorem dX9_through_68 : decode cX9_through 68 = .ok (.invokevirtual 249, 3) := by decide +kernel
theorem dX9_through_71 : decode cX9_through 71 = .ok (.iinc 2 1, 3) := by decide +kernel
theorem dX9_through_74 : decode cX9_through 74 = .ok (.goto (-34), 3) := by decide +kernel
theorem dX9_through_77 : decode cX9_through 77 = .ok (.aload_n 0, 1) := by decide +kernel
theorem dX9_through_78 : decode cX9_through 78 = .ok (.getfield 73, 3) := by decide +kernel
theorem dX9_through_81 : decode cX9_through 81 = .ok (.iload_n 1, 1) := by decide +kernel
theorem dX9_through_82 : decode cX9_through 82 = .ok (.aload_n 0, 1) := by decide +kernel
theorem dX9_through_83 : decode cX9_through 83 = .ok (.getfield 14, 3) := by decide +kernel
theorem dX9_through_86 : decode cX9_through 86 = .ok (.invokevirtual 253, 3) := by decide +kernel
theorem dX9_through_89 : decode cX9_through 89 = .ok (.aload_n 0, 1) := by decide +kernel
theorem dX9_through_90 : decode cX9_through 90 = .ok (.iconst 0, 1) := by decide +kernel
theorem dX9_through_91 : decode cX9_through 91 = .ok (.putfield 135, 3) := by decide +kernel
theorem dX9_through_94 : decode cX9_through 94 = .ok (.aload_n 0, 1) := by decide +kernel
theorem dX9_through_95 : decode cX9_through 95 = .ok (.aload_n 0, 1) := by decide +kernel
theorem dX9_through_96 : decode cX9_through 96 = .ok (.getfield 14, 3) := by decide +kernel
theorem dX9_through_99 : decode cX9_through 99 = .ok (.invokevirtual 243, 3) := by decide +kernel
theorem dX9_through_102 : decode cX9_through 102 = .ok (.ireturn, 1) := by decide +kernel
theorem dX9_degree_0 : decode cX9_degree 0 = .ok (.aload_n 0, 1) := by decide +kernel
theorem dX9_degree_1 : decode cX9_degree 1 = .ok (.iload_n 1, 1) := by decide +kernel
theorem dX9_degree_2 : decode cX9_degree 2 = .ok (.invokevirtual 257, 3) := by decide +kernel
theorem dX9_degree_5 : decode cX9_degree 5 = .ok (.getfield 261, 3) := by decide +kernel
theorem dX9_degree_8 : decode cX9_degree 8 = .ok (.ireturn, 1) := by decide +kernel
theorem dX9_coefficient_0 : decode cX9_coefficient 0 = .ok (.aload_n 0, 1) := by decide +kernel
theorem dX9_coefficient_1 : decode cX9_coefficient 1 = .ok (.iload_n 1, 1) := by decide +kernel
theorem dX9_coefficient_2 : decode cX9_coefficient 2 = .ok (.invokevirtual 257, 3) := by decide +kernel
theorem dX9_coefficient_5 : decode cX9_coefficient 5 = .ok (.astore_n 3, 1) := by decide +kernel
theorem dX9_coefficient_6 : decode cX9_coefficient 6 = .ok (.iload_n 2, 1) := by decide +kernel
theorem dX9_coefficient_7 : decode cX9_coefficient 7 = .ok (.ifCond .ge 14, 3) := by decide +kernel
theorem dX9_coefficient_10 : decode cX9_coefficient 10 = .ok (.new 143, 3) := by decide +kernel
theorem dX9_coefficient_13 : decode cX9_coefficient 13 = .ok (.dup, 1) := by decide +kernel
theorem dX9_coefficient_14 : decode cX9_coefficient 14 = .ok (.ldc_w 264, 3) := by decide +kernel
theorem dX9_coefficient_17 : decode cX9_coefficient 17 = .ok (.invokespecial 147, 3) := by decide +kernel
theorem dX9_coefficient_20 : decode cX9_coefficient 20 = .ok (.athrow, 1) := by decide +kernel
theorem dX9_coefficient_21 : decode cX9_coefficient 21 = .ok (.iload_n 2, 1) := by decide +kernel
theorem dX9_coefficient_22 : decode cX9_coefficient 22 = .ok (.aload_n 3, 1) := by decide +kernel
theorem dX9_coefficient_23 : decode cX9_coefficient 23 = .ok (.getfield 261, 3) := by decide +kernel
theorem dX9_coefficient_26 : decode cX9_coefficient 26 = .ok (.if_icmp .gt 12, 3) := by decide +kernel
theorem dX9_coefficient_29 : decode cX9_coefficient 29 = .ok (.aload_n 3, 1) := by decide +kernel
theorem dX9_coefficient_30 : decode cX9_coefficient 30 = .ok (.getfield 266, 3) := by decide +kernel
theorem dX9_coefficient_33 : decode cX9_coefficient 33 = .ok (.iload_n 2, 1) := by decide +kernel
theorem dX9_coefficient_34 : decode cX9_coefficient 34 = .ok (.iaload, 1) := by decide +kernel
theorem dX9_coefficient_35 : decode cX9_coefficient 35 = .ok (.goto 4, 3) := by decide +kernel
theorem dX9_coefficient_38 : decode cX9_coefficient 38 = .ok (.iconst 0, 1) := by decide +kernel
theorem dX9_coefficient_39 : decode cX9_coefficient 39 = .ok (.ireturn, 1) := by decide +kernel
theorem dX9_value_0 : decode cX9_value 0 = .ok (.aload_n 0, 1) := by decide +kernel
theorem dX9_value_1 : decode cX9_value 1 = .ok (.iload_n 1, 1) := by decide +kernel
theorem dX9_value_2 : decode cX9_value 2 = .ok (.invokevirtual 257, 3) := by decide +kernel
theorem dX9_value_5 : decode cX9_value 5 = .ok (.astore_n 3, 1) := by decide +kernel
theorem dX9_value_6 : decode cX9_value 6 = .ok (.aload_n 0, 1) := by decide +kernel
theorem dX9_value_7 : decode cX9_value 7 = .ok (.iload_n 2, 1) := by decide +kernel
theorem dX9_value_8 : decode cX9_value 8 = .ok (.invokevirtual 100, 3) := by decide +kernel
theorem dX9_value_11 : decode cX9_value 11 = .ok (.aload_n 0, 1) := by decide +kernel
theorem dX9_value_12 : decode cX9_value 12 = .ok (.aload_n 3, 1) := by decide +kernel
theorem dX9_value_13 : decode cX9_value 13 = .ok (.iload_n 2, 1) := by decide +kernel
theorem dX9_value_14 : decode cX9_value 14 = .ok (.invokevirtual 269, 3) := by decide +kernel
theorem dX9_value_17 : decode cX9_value 17 = .ok (.ireturn, 1) := by decide +kernel
theorem dX9_plus_0 : decode cX9_plus 0 = .ok (.aload_n 0, 1) := by decide +kernel
theorem dX9_plus_1 : decode cX9_plus 1 = .ok (.iload_n 1, 1) := by decide +kernel
theorem dX9_plus_2 : decode cX9_plus 2 = .ok (.invokevirtual 257, 3) := by decide +kernel
theorem dX9_plus_5 : decode cX9_plus 5 = .ok (.astore_n 3, 1) := by decide +kernel
theorem dX9_plus_6 : decode cX9_plus 6 = .ok (.aload_n 0, 1) := by decide +kernel
theorem dX9_plus_7 : decode cX9_plus 7 = .ok (.iload_n 2, 1) := by decide +kernel
theorem dX9_plus_8 : decode cX9_plus 8 = .ok (.invokevirtual 257, 3) := by decide +kernel
theorem dX9_plus_11 : decode cX9_plus 11 = .ok (.astore 4, 2) := by decide +kernel
theorem dX9_plus_13 : decode cX9_plus 13 = .ok (.aload_n 0, 1) := by decide +kernel
theorem dX9_plus_14 : decode cX9_plus 14 = .ok (.invokevirtual 237, 3) := by decide +kernel
theorem dX9_plus_17 : decode cX9_plus 17 = .ok (.aload_n 0, 1) := by decide +kernel
theorem dX9_plus_18 : decode cX9_plus 18 = .ok (.getfield 14, 3) := by decide +kernel
theorem dX9_plus_21 : decode cX9_plus 21 = .ok (.aload_n 3, 1) := by decide +kernel
theorem dX9_plus_22 : decode cX9_plus 22 = .ok (.invokevirtual 273, 3) := by decide +kernel
theorem dX9_plus_25 : decode cX9_plus 25 = .ok (.aload_n 0, 1) := by decide +kernel
theorem dX9_plus_26 : decode cX9_plus 26 = .ok (.getfield 14, 3) := by decide +kernel
theorem dX9_plus_29 : decode cX9_plus 29 = .ok (.aload_n 0, 1) := by decide +kernel
theorem dX9_plus_30 : decode cX9_plus 30 = .ok (.getfield 43, 3) := by decide +kernel
theorem dX9_plus_33 : decode cX9_plus 33 = .ok (.aload 4, 2) := by decide +kernel
theorem dX9_plus_35 : decode cX9_plus 35 = .ok (.iconst 1, 1) := by decide +kernel
theorem dX9_plus_36 : decode cX9_plus 36 = .ok (.invokevirtual 277, 3) := by decide +kernel
theorem dX9_plus_39 : decode cX9_plus 39 = .ok (.aload_n 0, 1) := by decide +kernel
theorem dX9_plus_40 : decode cX9_plus 40 = .ok (.aload_n 0, 1) := by decide +kernel
theorem dX9_plus_41 : decode cX9_plus 41 = .ok (.getfield 14, 3) := by decide +kernel
theorem dX9_plus_44 : decode cX9_plus 44 = .ok (.invokevirtual 243, 3) := by decide +kernel
theorem dX9_plus_47 : decode cX9_plus 47 = .ok (.ireturn, 1) := by decide +kernel
theorem dX9_multiply_0 : decode cX9_multiply 0 = .ok (.aload_n 0, 1) := by decide +kernel
theorem dX9_multiply_1 : decode cX9_multiply 1 = .ok (.iload_n 1, 1) := by decide +kernel
theorem dX9_multiply_2 : decode cX9_multiply 2 = .ok (.invokevirtual 257, 3) := by decide +kernel
theorem dX9_multiply_5 : decode cX9_multiply 5 = .ok (.astore_n 3, 1) := by decide +kernel
theorem dX9_multiply_6 : decode cX9_multiply 6 = .ok (.aload_n 0, 1) := by decide +kernel
theorem dX9_multiply_7 : decode cX9_multiply 7 = .ok (.iload_n 2, 1) := by decide +kernel
theorem dX9_multiply_8 : decode cX9_multiply 8 = .ok (.invokevirtual 257, 3) := by decide +kernel
theorem dX9_multiply_11 : decode cX9_multiply 11 = .ok (.astore 4, 2) := by decide +kernel
theorem dX9_multiply_13 : decode cX9_multiply 13 = .ok (.aload_n 3, 1) := by decide +kernel
theorem dX9_multiply_14 : decode cX9_multiply 14 = .ok (.getfield 261, 3) := by decide +kernel
theorem dX9_multiply_17 : decode cX9_multiply 17 = .ok (.aload 4, 2) := by decide +kernel
theorem dX9_multiply_19 : decode cX9_multiply 19 = .ok (.getfield 261, 3) := by decide +kernel
theorem dX9_multiply_22 : decode cX9_multiply 22 = .ok (.iadd, 1) := by decide +kernel
theorem dX9_multiply_23 : decode cX9_multiply 23 = .ok (.bipush 64, 2) := by decide +kernel
theorem dX9_multiply_25 : decode cX9_multiply 25 = .ok (.if_icmp .le 13, 3) := by decide +kernel
theorem dX9_multiply_28 : decode cX9_multiply 28 = .ok (.new 138, 3) := by decide +kernel
theorem dX9_multiply_31 : decode cX9_multiply 31 = .ok (.dup, 1) := by decide +kernel
theorem dX9_multiply_32 : decode cX9_multiply 32 = .ok (.ldc 235, 2) := by decide +kernel
theorem dX9_multiply_34 : decode cX9_multiply 34 = .ok (.invokespecial 142, 3) := by decide +kernel
theorem dX9_multiply_37 : decode cX9_multiply 37 = .ok (.athrow, 1) := by decide +kernel
theorem dX9_multiply_38 : decode cX9_multiply 38 = .ok (.aload_n 0, 1) := by decide +kernel
theorem dX9_multiply_39 : decode cX9_multiply 39 = .ok (.invokevirtual 237, 3) := by decide +kernel
theorem dX9_multiply_42 : decode cX9_multiply 42 = .ok (.aload_n 0, 1) := by decide +kernel
theorem dX9_multiply_43 : decode cX9_multiply 43 = .ok (.getfield 14, 3) := by decide +kernel
theorem dX9_multiply_46 : decode cX9_multiply 46 = .ok (.invokevirtual 281, 3) := by decide +kernel
theorem dX9_multiply_49 : decode cX9_multiply 49 = .ok (.iconst 0, 1) := by decide +kernel
theorem dX9_multiply_50 : decode cX9_multiply 50 = .ok (.istore 5, 2) := by decide +kernel
theorem dX9_multiply_52 : decode cX9_multiply 52 = .ok (.iload 5, 2) := by decide +kernel
theorem dX9_multiply_54 : decode cX9_multiply 54 = .ok (.aload_n 3, 1) := by decide +kernel
theorem dX9_multiply_55 : decode cX9_multiply 55 = .ok (.getfield 261, 3) := by decide +kernel
theorem dX9_multiply_58 : decode cX9_multiply 58 = .ok (.if_icmp .gt 45, 3) := by decide +kernel
theorem dX9_multiply_61 : decode cX9_multiply 61 = .ok (.aload_n 0, 1) := by decide +kernel
theorem dX9_multiply_62 : decode cX9_multiply 62 = .ok (.getfield 43, 3) := by decide +kernel
theorem dX9_multiply_65 : decode cX9_multiply 65 = .ok (.aload_n 0, 1) := by decide +kernel
theorem dX9_multiply_66 : decode cX9_multiply 66 = .ok (.getfield 14, 3) := by decide +kernel
theorem dX9_multiply_69 : decode cX9_multiply 69 = .ok (.getfield 266, 3) := by decide +kernel
theorem dX9_multiply_72 : decode cX9_multiply 72 = .ok (.iload 5, 2) := by decide +kernel
theorem dX9_multiply_74 : decode cX9_multiply 74 = .ok (.aload 4, 2) := by decide +kernel
theorem dX9_multiply_76 : decode cX9_multiply 76 = .ok (.getfield 266, 3) := by decide +kernel
theorem dX9_multiply_79 : decode cX9_multiply 79 = .ok (.iconst 0, 1) := by decide +kernel
theorem dX9_multiply_80 : decode cX9_multiply 80 = .ok (.aload 4, 2) := by decide +kernel
theorem dX9_multiply_82 : decode cX9_multiply 82 = .ok (.getfield 261, 3) := by decide +kernel
theorem dX9_multiply_85 : decode cX9_multiply 85 = .ok (.iconst 1, 1) := by decide +kernel
theorem dX9_multiply_86 : decode cX9_multiply 86 = .ok (.iadd, 1) := by decide +kernel
theorem dX9_multiply_87 : decode cX9_multiply 87 = .ok (.aload_n 3, 1) := by decide +kernel
theorem dX9_multiply_88 : decode cX9_multiply 88 = .ok (.getfield 266, 3) := by decide +kernel
theorem dX9_multiply_91 : decode cX9_multiply 91 = .ok (.iload 5, 2) := by decide +kernel
theorem dX9_multiply_93 : decode cX9_multiply 93 = .ok (.iaload, 1) := by decide +kernel
theorem dX9_multiply_94 : decode cX9_multiply 94 = .ok (.invokevirtual 197, 3) := by decide +kernel
theorem dX9_multiply_97 : decode cX9_multiply 97 = .ok (.iinc 5 1, 3) := by decide +kernel
theorem dX9_multiply_100 : decode cX9_multiply 100 = .ok (.goto (-48), 3) := by decide +kernel
theorem dX9_multiply_103 : decode cX9_multiply 103 = .ok (.aload_n 0, 1) := by decide +kernel
theorem dX9_multiply_104 : decode cX9_multiply 104 = .ok (.getfield 14, 3) := by decide +kernel
theorem dX9_multiply_107 : decode cX9_multiply 107 = .ok (.aload_n 3, 1) := by decide +kernel
theorem dX9_multiply_108 : decode cX9_multiply 108 = .ok (.getfield 261, 3) := by decide +kernel
theorem dX9_multiply_111 : decode cX9_multiply 111 = .ok (.aload 4, 2) := by decide +kernel
theorem dX9_multiply_113 : decode cX9_multiply 113 = .ok (.getfield 261, 3) := by decide +kernel
theorem dX9_multiply_116 : decode cX9_multiply 116 = .ok (.iadd, 1) := by decide +kernel
theorem dX9_multiply_117 : decode cX9_multiply 117 = .ok (.invokevirtual 284, 3) := by decide +kernel
theorem dX9_multiply_120 : decode cX9_multiply 120 = .ok (.aload_n 0, 1) := by decide +kernel
theorem dX9_multiply_121 : decode cX9_multiply 121 = .ok (.aload_n 0, 1) := by decide +kernel
theorem dX9_multiply_122 : decode cX9_multiply 122 = .ok (.getfield 14, 3) := by decide +kernel
theorem dX9_multiply_125 : decode cX9_multiply 125 = .ok (.invokevirtual 243, 3) := by decide +kernel
theorem dX9_multiply_128 : decode cX9_multiply 128 = .ok (.ireturn, 1) := by decide +kernel
theorem dX9_divide_0 : decode cX9_divide 0 = .ok (.aload_n 0, 1) := by decide +kernel
theorem dX9_divide_1 : decode cX9_divide 1 = .ok (.iload_n 1, 1) := by decide +kernel
theorem dX9_divide_2 : decode cX9_divide 2 = .ok (.invokevirtual 257, 3) := by decide +kernel
theorem dX9_divide_5 : decode cX9_divide 5 = .ok (.astore 4, 2) := by decide +kernel
theorem dX9_divide_7 : decode cX9_divide 7 = .ok (.aload_n 0, 1) := by decide +kernel
theorem dX9_divide_8 : decode cX9_divide 8 = .ok (.iload_n 2, 1) := by decide +kernel
theorem dX9_divide_9 : decode cX9_divide 9 = .ok (.invokevirtual 257, 3) := by decide +kernel
theorem dX9_divide_12 : decode cX9_divide 12 = .ok (.astore 5, 2) := by decide +kernel
theorem dX9_divide_14 : decode cX9_divide 14 = .ok (.aload 5, 2) := by decide +kernel
theorem dX9_divide_16 : decode cX9_divide 16 = .ok (.getfield 261, 3) := by decide +kernel
theorem dX9_divide_19 : decode cX9_divide 19 = .ok (.ifCond .ge 14, 3) := by decide +kernel
theorem dX9_divide_22 : decode cX9_divide 22 = .ok (.new 107, 3) := by decide +kernel
theorem dX9_divide_25 : decode cX9_divide 25 = .ok (.dup, 1) := by decide +kernel
theorem dX9_divide_26 : decode cX9_divide 26 = .ok (.ldc_w 287, 3) := by decide +kernel
theorem dX9_divide_29 : decode cX9_divide 29 = .ok (.invokespecial 111, 3) := by decide +kernel
theorem dX9_divide_32 : decode cX9_divide 32 = .ok (.athrow, 1) := by decide +kernel
theorem dX9_divide_33 : decode cX9_divide 33 = .ok (.aload_n 0, 1) := by decide +kernel
theorem dX9_divide_34 : decode cX9_divide 34 = .ok (.invokevirtual 237, 3) := by decide +kernel
theorem dX9_divide_37 : decode cX9_divide 37 = .ok (.aload_n 0, 1) := by decide +kernel
theorem dX9_divide_38 : decode cX9_divide 38 = .ok (.getfield 14, 3) := by decide +kernel
theorem dX9_divide_41 : decode cX9_divide 41 = .ok (.aload 4, 2) := by decide +kernel
theorem dX9_divide_43 : decode cX9_divide 43 = .ok (.invokevirtual 273, 3) := by decide +kernel
theorem dX9_divide_46 : decode cX9_divide 46 = .ok (.iload_n 3, 1) := by decide +kernel
theorem dX9_divide_47 : decode cX9_divide 47 = .ok (.ifCond .eq 19, 3) := by decide +kernel
theorem dX9_divide_50 : decode cX9_divide 50 = .ok (.aload_n 0, 1) := by decide +kernel
theorem dX9_divide_51 : decode cX9_divide 51 = .ok (.getfield 66, 3) := by decide +kernel
theorem dX9_divide_54 : decode cX9_divide 54 = .ok (.aload_n 0, 1) := by decide +kernel
theorem dX9_divide_55 : decode cX9_divide 55 = .ok (.getfield 14, 3) := by decide +kernel
theorem dX9_divide_58 : decode cX9_divide 58 = .ok (.aload 5, 2) := by decide +kernel
theorem dX9_divide_60 : decode cX9_divide 60 = .ok (.invokevirtual 289, 3) := by decide +kernel
theorem dX9_divide_63 : decode cX9_divide 63 = .ok (.goto 16, 3) := by decide +kernel
theorem dX9_divide_66 : decode cX9_divide 66 = .ok (.aload_n 0, 1) := by decide +kernel
theorem dX9_divide_67 : decode cX9_divide 67 = .ok (.getfield 66, 3) := by decide +kernel
theorem dX9_divide_70 : decode cX9_divide 70 = .ok (.aload_n 0, 1) := by decide +kernel
theorem dX9_divide_71 : decode cX9_divide 71 = .ok (.getfield 14, 3) := by decide +kernel
theorem dX9_divide_74 : decode cX9_divide 74 = .ok (.aload 5, 2) := by decide +kernel
theorem dX9_divide_76 : decode cX9_divide 76 = .ok (.invokevirtual 293, 3) := by decide +kernel
theorem dX9_divide_79 : decode cX9_divide 79 = .ok (.aload_n 0, 1) := by decide +kernel
theorem dX9_divide_80 : decode cX9_divide 80 = .ok (.aload_n 0, 1) := by decide +kernel
theorem dX9_divide_81 : decode cX9_divide 81 = .ok (.getfield 14, 3) := by decide +kernel
theorem dX9_divide_84 : decode cX9_divide 84 = .ok (.invokevirtual 243, 3) := by decide +kernel
theorem dX9_divide_87 : decode cX9_divide 87 = .ok (.ireturn, 1) := by decide +kernel
theorem dX9_common_0 : decode cX9_common 0 = .ok (.aload_n 0, 1) := by decide +kernel
theorem dX9_common_1 : decode cX9_common 1 = .ok (.iload_n 1, 1) := by decide +kernel
theorem dX9_common_2 : decode cX9_common 2 = .ok (.invokevirtual 257, 3) := by decide +kernel
theorem dX9_common_5 : decode cX9_common 5 = .ok (.astore_n 3, 1) := by decide +kernel
theorem dX9_common_6 : decode cX9_common 6 = .ok (.aload_n 0, 1) := by decide +kernel
theorem dX9_common_7 : decode cX9_common 7 = .ok (.iload_n 2, 1) := by decide +kernel
theorem dX9_common_8 : decode cX9_common 8 = .ok (.invokevirtual 257, 3) := by decide +kernel
theorem dX9_common_11 : decode cX9_common 11 = .ok (.astore 4, 2) := by decide +kernel
theorem dX9_common_13 : decode cX9_common 13 = .ok (.aload_n 0, 1) := by decide +kernel
theorem dX9_common_14 : decode cX9_common 14 = .ok (.invokevirtual 237, 3) := by decide +kernel
theorem dX9_common_17 : decode cX9_common 17 = .ok (.aload_n 0, 1) := by decide +kernel
theorem dX9_common_18 : decode cX9_common 18 = .ok (.getfield 14, 3) := by decide +kernel
theorem dX9_common_21 : decode cX9_common 21 = .ok (.aload_n 3, 1) := by decide +kernel
theorem dX9_common_22 : decode cX9_common 22 = .ok (.invokevirtual 273, 3) := by decide +kernel
theorem dX9_common_25 : decode cX9_common 25 = .ok (.aload_n 0, 1) := by decide +kernel
theorem dX9_common_26 : decode cX9_common 26 = .ok (.getfield 18, 3) := by decide +kernel
theorem dX9_common_29 : decode cX9_common 29 = .ok (.aload 4, 2) := by decide +kernel
theorem dX9_common_31 : decode cX9_common 31 = .ok (.invokevirtual 273, 3) := by decide +kernel
theorem dX9_common_34 : decode cX9_common 34 = .ok (.aload_n 0, 1) := by decide +kernel
theorem dX9_common_35 : decode cX9_common 35 = .ok (.getfield 66, 3) := by decide +kernel
theorem dX9_common_38 : decode cX9_common 38 = .ok (.aload_n 0, 1) := by decide +kernel
theorem dX9_common_39 : decode cX9_common 39 = .ok (.getfield 14, 3) := by decide +kernel
theorem dX9_common_42 : decode cX9_common 42 = .ok (.aload_n 0, 1) := by decide +kernel
theorem dX9_common_43 : decode cX9_common 43 = .ok (.getfield 18, 3) := by decide +kernel
theorem dX9_common_46 : decode cX9_common 46 = .ok (.invokevirtual 296, 3) := by decide +kernel
theorem dX9_common_49 : decode cX9_common 49 = .ok (.aload_n 0, 1) := by decide +kernel
theorem dX9_common_50 : decode cX9_common 50 = .ok (.aload_n 0, 1) := by decide +kernel
theorem dX9_common_51 : decode cX9_common 51 = .ok (.getfield 14, 3) := by decide +kernel
theorem dX9_common_54 : decode cX9_common 54 = .ok (.invokevirtual 243, 3) := by decide +kernel
theorem dX9_common_57 : decode cX9_common 57 = .ok (.ireturn, 1) := by decide +kernel
theorem dX9_root_0 : decode cX9_root 0 = .ok (.aload_n 0, 1) := by decide +kernel
theorem dX9_root_1 : decode cX9_root 1 = .ok (.iload_n 1, 1) := by decide +kernel
theorem dX9_root_2 : decode cX9_root 2 = .ok (.invokevirtual 257, 3) := by decide +kernel
theorem dX9_root_5 : decode cX9_root 5 = .ok (.astore_n 3, 1) := by decide +kernel
theorem dX9_root_6 : decode cX9_root 6 = .ok (.iload_n 2, 1) := by decide +kernel
theorem dX9_root_7 : decode cX9_root 7 = .ok (.ifCond .ge 14, 3) := by decide +kernel
theorem dX9_root_10 : decode cX9_root 10 = .ok (.new 143, 3) := by decide +kernel
theorem dX9_root_13 : decode cX9_root 13 = .ok (.dup, 1) := by decide +kernel
theorem dX9_root_14 : decode cX9_root 14 = .ok (.ldc_w 299, 3) := by decide +kernel
theorem dX9_root_17 : decode cX9_root 17 = .ok (.invokespecial 147, 3) := by decide +kernel
theorem dX9_root_20 : decode cX9_root 20 = .ok (.athrow, 1) := by decide +kernel
theorem dX9_root_21 : decode cX9_root 21 = .ok (.aload_n 3, 1) := by decide +kernel
theorem dX9_root_22 : decode cX9_root 22 = .ok (.getfield 261, 3) := by decide +kernel
theorem dX9_root_25 : decode cX9_root 25 = .ok (.ifCond .ge 20, 3) := by decide +kernel
theorem dX9_root_28 : decode cX9_root 28 = .ok (.iload_n 2, 1) := by decide +kernel
theorem dX9_root_29 : decode cX9_root 29 = .ok (.aload_n 0, 1) := by decide +kernel
theorem dX9_root_30 : decode cX9_root 30 = .ok (.getfield 43, 3) := by decide +kernel
theorem dX9_root_33 : decode cX9_root 33 = .ok (.getfield 301, 3) := by decide +kernel
theorem dX9_root_36 : decode cX9_root 36 = .ok (.if_icmp .ge 7, 3) := by decide +kernel
theorem dX9_root_39 : decode cX9_root 39 = .ok (.iload_n 2, 1) := by decide +kernel
theorem dX9_root_40 : decode cX9_root 40 = .ok (.goto 4, 3) := by decide +kernel
theorem dX9_root_43 : decode cX9_root 43 = .ok (.iconst (-1), 1) := by decide +kernel
theorem dX9_root_44 : decode cX9_root 44 = .ok (.ireturn, 1) := by decide +kernel
theorem dX9_root_45 : decode cX9_root 45 = .ok (.aload_n 0, 1) := by decide +kernel
theorem dX9_root_46 : decode cX9_root 46 = .ok (.getfield 82, 3) := by decide +kernel
theorem dX9_root_49 : decode cX9_root 49 = .ok (.aload_n 3, 1) := by decide +kernel
theorem dX9_root_50 : decode cX9_root 50 = .ok (.iload_n 2, 1) := by decide +kernel
theorem dX9_root_51 : decode cX9_root 51 = .ok (.invokevirtual 304, 3) := by decide +kernel
theorem dX9_root_54 : decode cX9_root 54 = .ok (.ireturn, 1) := by decide +kernel
theorem dX9_often_0 : decode cX9_often 0 = .ok (.aload_n 0, 1) := by decide +kernel
theorem dX9_often_1 : decode cX9_often 1 = .ok (.iload_n 1, 1) := by decide +kernel
theorem dX9_often_2 : decode cX9_often 2 = .ok (.invokevirtual 257, 3) := by decide +kernel
theorem dX9_often_5 : decode cX9_often 5 = .ok (.astore_n 3, 1) := by decide +kernel
theorem dX9_often_6 : decode cX9_often 6 = .ok (.aload_n 0, 1) := by decide +kernel
theorem dX9_often_7 : decode cX9_often 7 = .ok (.iload_n 2, 1) := by decide +kernel
theorem dX9_often_8 : decode cX9_often 8 = .ok (.invokevirtual 100, 3) := by decide +kernel
theorem dX9_often_11 : decode cX9_often 11 = .ok (.aload_n 3, 1) := by decide +kernel
theorem dX9_often_12 : decode cX9_often 12 = .ok (.getfield 261, 3) := by decide +kernel
theorem dX9_often_15 : decode cX9_often 15 = .ok (.ifCond .ge 5, 3) := by decide +kernel
theorem dX9_often_18 : decode cX9_often 18 = .ok (.iconst (-1), 1) := by decide +kernel
theorem dX9_often_19 : decode cX9_often 19 = .ok (.ireturn, 1) := by decide +kernel
theorem dX9_often_20 : decode cX9_often 20 = .ok (.aload_n 0, 1) := by decide +kernel
theorem dX9_often_21 : decode cX9_often 21 = .ok (.getfield 14, 3) := by decide +kernel
theorem dX9_often_24 : decode cX9_often 24 = .ok (.aload_n 3, 1) := by decide +kernel
theorem dX9_often_25 : decode cX9_often 25 = .ok (.invokevirtual 273, 3) := by decide +kernel
theorem dX9_often_28 : decode cX9_often 28 = .ok (.iconst 0, 1) := by decide +kernel
theorem dX9_often_29 : decode cX9_often 29 = .ok (.istore 4, 2) := by decide +kernel
theorem dX9_often_31 : decode cX9_often 31 = .ok (.iload 4, 2) := by decide +kernel
theorem dX9_often_33 : decode cX9_often 33 = .ok (.aload_n 3, 1) := by decide +kernel
theorem dX9_often_34 : decode cX9_often 34 = .ok (.getfield 261, 3) := by decide +kernel
theorem dX9_often_37 : decode cX9_often 37 = .ok (.if_icmp .ge 24, 3) := by decide +kernel
theorem dX9_often_40 : decode cX9_often 40 = .ok (.aload_n 0, 1) := by decide +kernel
theorem dX9_often_41 : decode cX9_often 41 = .ok (.getfield 66, 3) := by decide +kernel
theorem dX9_often_44 : decode cX9_often 44 = .ok (.aload_n 0, 1) := by decide +kernel
theorem dX9_often_45 : decode cX9_often 45 = .ok (.getfield 14, 3) := by decide +kernel
theorem dX9_often_48 : decode cX9_often 48 = .ok (.iload_n 2, 1) := by decide +kernel
theorem dX9_often_49 : decode cX9_often 49 = .ok (.invokevirtual 307, 3) := by decide +kernel
theorem dX9_often_52 : decode cX9_often 52 = .ok (.ifCond .eq 9, 3) := by decide +kernel
theorem dX9_often_55 : decode cX9_often 55 = .ok (.iinc 4 1, 3) := by decide +kernel
theorem dX9_often_58 : decode cX9_often 58 = .ok (.goto (-27), 3) := by decide +kernel
theorem dX9_often_61 : decode cX9_often 61 = .ok (.iload 4, 2) := by decide +kernel
theorem dX9_often_63 : decode cX9_often 63 = .ok (.ireturn, 1) := by decide +kernel
theorem dX9_parts_0 : decode cX9_parts 0 = .ok (.aload_n 0, 1) := by decide +kernel
theorem dX9_parts_1 : decode cX9_parts 1 = .ok (.iload_n 1, 1) := by decide +kernel
theorem dX9_parts_2 : decode cX9_parts 2 = .ok (.invokevirtual 257, 3) := by decide +kernel
theorem dX9_parts_5 : decode cX9_parts 5 = .ok (.astore_n 3, 1) := by decide +kernel
theorem dX9_parts_6 : decode cX9_parts 6 = .ok (.iload_n 2, 1) := by decide +kernel
theorem dX9_parts_7 : decode cX9_parts 7 = .ok (.iconst 1, 1) := by decide +kernel
theorem dX9_parts_8 : decode cX9_parts 8 = .ok (.if_icmp .lt 9, 3) := by decide +kernel
theorem dX9_parts_11 : decode cX9_parts 11 = .ok (.iload_n 2, 1) := by decide +kernel
theorem dX9_parts_12 : decode cX9_parts 12 = .ok (.bipush 64, 2) := by decide +kernel
theorem dX9_parts_14 : decode cX9_parts 14 = .ok (.if_icmp .le 14, 3) := by decide +kernel
theorem dX9_parts_17 : decode cX9_parts 17 = .ok (.new 180, 3) := by decide +kernel
theorem dX9_parts_20 : decode cX9_parts 20 = .ok (.dup, 1) := by decide +kernel
theorem dX9_parts_21 : decode cX9_parts 21 = .ok (.ldc_w 311, 3) := by decide +kernel
theorem dX9_parts_24 : decode cX9_parts 24 = .ok (.invokespecial 184, 3) := by decide +kernel
theorem dX9_parts_27 : decode cX9_parts 27 = .ok (.athrow, 1) := by decide +kernel
theorem dX9_parts_28 : decode cX9_parts 28 = .ok (.aload_n 3, 1) := by decide +kernel
theorem dX9_parts_29 : decode cX9_parts 29 = .ok (.getfield 261, 3) := by decide +kernel
end
section
theorem dX9_parts_32 : decode cX9_parts 32 = .ok (.ifCond .ge 5, 3) := by decide +kernel
theorem dX9_parts_35 : decode cX9_parts 35 = .ok (.iconst (-1), 1) := by decide +kernel
theorem dX9_parts_36 : decode cX9_parts 36 = .ok (.ireturn, 1) := by decide +kernel
theorem dX9_parts_37 : decode cX9_parts 37 = .ok (.aload_n 3, 1) := by decide +kernel
theorem dX9_parts_38 : decode cX9_parts 38 = .ok (.getfield 313, 3) := by decide +kernel
theorem dX9_parts_41 : decode cX9_parts 41 = .ok (.astore 4, 2) := by decide +kernel
theorem dX9_parts_43 : decode cX9_parts 43 = .ok (.aload 4, 2) := by decide +kernel
theorem dX9_parts_45 : decode cX9_parts 45 = .ok (.ifnonnull 25, 3) := by decide +kernel
theorem dX9_parts_48 : decode cX9_parts 48 = .ok (.bipush 65, 2) := by decide +kernel
theorem dX9_parts_50 : decode cX9_parts 50 = .ok (.newarray .int, 2) := by decide +kernel
theorem dX9_parts_52 : decode cX9_parts 52 = .ok (.astore 4, 2) := by decide +kernel
theorem dX9_parts_54 : decode cX9_parts 54 = .ok (.aload_n 0, 1) := by decide +kernel
theorem dX9_parts_55 : decode cX9_parts 55 = .ok (.getfield 89, 3) := by decide +kernel
theorem dX9_parts_58 : decode cX9_parts 58 = .ok (.aload_n 3, 1) := by decide +kernel
theorem dX9_parts_59 : decode cX9_parts 59 = .ok (.aload 4, 2) := by decide +kernel
theorem dX9_parts_61 : decode cX9_parts 61 = .ok (.invokevirtual 316, 3) := by decide +kernel
theorem dX9_parts_64 : decode cX9_parts 64 = .ok (.aload_n 3, 1) := by decide +kernel
theorem dX9_parts_65 : decode cX9_parts 65 = .ok (.aload 4, 2) := by decide +kernel
theorem dX9_parts_67 : decode cX9_parts 67 = .ok (.putfield 313, 3) := by decide +kernel
theorem dX9_parts_70 : decode cX9_parts 70 = .ok (.aload 4, 2) := by decide +kernel
theorem dX9_parts_72 : decode cX9_parts 72 = .ok (.iload_n 2, 1) := by decide +kernel
theorem dX9_parts_73 : decode cX9_parts 73 = .ok (.iaload, 1) := by decide +kernel
theorem dX9_parts_74 : decode cX9_parts 74 = .ok (.ireturn, 1) := by decide +kernel
theorem dX9_span_0 : decode cX9_span 0 = .ok (.aload_n 0, 1) := by decide +kernel
theorem dX9_span_1 : decode cX9_span 1 = .ok (.getfield 135, 3) := by decide +kernel
theorem dX9_span_4 : decode cX9_span 4 = .ok (.bipush 6, 2) := by decide +kernel
theorem dX9_span_6 : decode cX9_span 6 = .ok (.if_icmp .gt 10, 3) := by decide +kernel
theorem dX9_span_9 : decode cX9_span 9 = .ok (.aload_n 0, 1) := by decide +kernel
theorem dX9_span_10 : decode cX9_span 10 = .ok (.invokevirtual 320, 3) := by decide +kernel
theorem dX9_span_13 : decode cX9_span 13 = .ok (.ifCond .eq 14, 3) := by decide +kernel
theorem dX9_span_16 : decode cX9_span 16 = .ok (.new 163, 3) := by decide +kernel
theorem dX9_span_19 : decode cX9_span 19 = .ok (.dup, 1) := by decide +kernel
theorem dX9_span_20 : decode cX9_span 20 = .ok (.ldc_w 324, 3) := by decide +kernel
theorem dX9_span_23 : decode cX9_span 23 = .ok (.invokespecial 167, 3) := by decide +kernel
theorem dX9_span_26 : decode cX9_span 26 = .ok (.athrow, 1) := by decide +kernel
theorem dX9_span_27 : decode cX9_span 27 = .ok (.aload_n 0, 1) := by decide +kernel
theorem dX9_span_28 : decode cX9_span 28 = .ok (.iconst 1, 1) := by decide +kernel
theorem dX9_span_29 : decode cX9_span 29 = .ok (.aload_n 0, 1) := by decide +kernel
theorem dX9_span_30 : decode cX9_span 30 = .ok (.getfield 135, 3) := by decide +kernel
theorem dX9_span_33 : decode cX9_span 33 = .ok (.ishl, 1) := by decide +kernel
theorem dX9_span_34 : decode cX9_span 34 = .ok (.putfield 326, 3) := by decide +kernel
theorem dX9_span_37 : decode cX9_span 37 = .ok (.iconst 0, 1) := by decide +kernel
theorem dX9_span_38 : decode cX9_span 38 = .ok (.istore_n 1, 1) := by decide +kernel
theorem dX9_span_39 : decode cX9_span 39 = .ok (.iload_n 1, 1) := by decide +kernel
theorem dX9_span_40 : decode cX9_span 40 = .ok (.aload_n 0, 1) := by decide +kernel
theorem dX9_span_41 : decode cX9_span 41 = .ok (.getfield 326, 3) := by decide +kernel
theorem dX9_span_44 : decode cX9_span 44 = .ok (.if_icmp .ge 24, 3) := by decide +kernel
theorem dX9_span_47 : decode cX9_span 47 = .ok (.aload_n 0, 1) := by decide +kernel
theorem dX9_span_48 : decode cX9_span 48 = .ok (.getfield 35, 3) := by decide +kernel
theorem dX9_span_51 : decode cX9_span 51 = .ok (.iload_n 1, 1) := by decide +kernel
theorem dX9_span_52 : decode cX9_span 52 = .ok (.aload_n 0, 1) := by decide +kernel
theorem dX9_span_53 : decode cX9_span 53 = .ok (.iload_n 1, 1) := by decide +kernel
theorem dX9_span_54 : decode cX9_span 54 = .ok (.aload_n 0, 1) := by decide +kernel
theorem dX9_span_55 : decode cX9_span 55 = .ok (.getfield 135, 3) := by decide +kernel
theorem dX9_span_58 : decode cX9_span 58 = .ok (.invokevirtual 329, 3) := by decide +kernel
theorem dX9_span_61 : decode cX9_span 61 = .ok (.iastore, 1) := by decide +kernel
theorem dX9_span_62 : decode cX9_span 62 = .ok (.iinc 1 1, 3) := by decide +kernel
theorem dX9_span_65 : decode cX9_span 65 = .ok (.goto (-26), 3) := by decide +kernel
theorem dX9_span_68 : decode cX9_span 68 = .ok (.aload_n 0, 1) := by decide +kernel
theorem dX9_span_69 : decode cX9_span 69 = .ok (.iconst 0, 1) := by decide +kernel
theorem dX9_span_70 : decode cX9_span 70 = .ok (.putfield 135, 3) := by decide +kernel
theorem dX9_span_73 : decode cX9_span 73 = .ok (.aload_n 0, 1) := by decide +kernel
theorem dX9_span_74 : decode cX9_span 74 = .ok (.getfield 326, 3) := by decide +kernel
theorem dX9_span_77 : decode cX9_span 77 = .ok (.ireturn, 1) := by decide +kernel
theorem dX9_forth_0 : decode cX9_forth 0 = .ok (.aload_n 0, 1) := by decide +kernel
theorem dX9_forth_1 : decode cX9_forth 1 = .ok (.iload_n 1, 1) := by decide +kernel
theorem dX9_forth_2 : decode cX9_forth 2 = .ok (.invokevirtual 257, 3) := by decide +kernel
theorem dX9_forth_5 : decode cX9_forth 5 = .ok (.astore_n 2, 1) := by decide +kernel
theorem dX9_forth_6 : decode cX9_forth 6 = .ok (.aload_n 0, 1) := by decide +kernel
theorem dX9_forth_7 : decode cX9_forth 7 = .ok (.invokevirtual 332, 3) := by decide +kernel
theorem dX9_forth_10 : decode cX9_forth 10 = .ok (.iconst 0, 1) := by decide +kernel
theorem dX9_forth_11 : decode cX9_forth 11 = .ok (.istore_n 3, 1) := by decide +kernel
theorem dX9_forth_12 : decode cX9_forth 12 = .ok (.iload_n 3, 1) := by decide +kernel
theorem dX9_forth_13 : decode cX9_forth 13 = .ok (.aload_n 0, 1) := by decide +kernel
theorem dX9_forth_14 : decode cX9_forth 14 = .ok (.getfield 326, 3) := by decide +kernel
theorem dX9_forth_17 : decode cX9_forth 17 = .ok (.if_icmp .ge 26, 3) := by decide +kernel
theorem dX9_forth_20 : decode cX9_forth 20 = .ok (.aload_n 0, 1) := by decide +kernel
theorem dX9_forth_21 : decode cX9_forth 21 = .ok (.getfield 21, 3) := by decide +kernel
theorem dX9_forth_24 : decode cX9_forth 24 = .ok (.iload_n 3, 1) := by decide +kernel
theorem dX9_forth_25 : decode cX9_forth 25 = .ok (.aload_n 0, 1) := by decide +kernel
theorem dX9_forth_26 : decode cX9_forth 26 = .ok (.aload_n 2, 1) := by decide +kernel
theorem dX9_forth_27 : decode cX9_forth 27 = .ok (.aload_n 0, 1) := by decide +kernel
theorem dX9_forth_28 : decode cX9_forth 28 = .ok (.getfield 35, 3) := by decide +kernel
theorem dX9_forth_31 : decode cX9_forth 31 = .ok (.iload_n 3, 1) := by decide +kernel
theorem dX9_forth_32 : decode cX9_forth 32 = .ok (.iaload, 1) := by decide +kernel
theorem dX9_forth_33 : decode cX9_forth 33 = .ok (.invokevirtual 269, 3) := by decide +kernel
theorem dX9_forth_36 : decode cX9_forth 36 = .ok (.iastore, 1) := by decide +kernel
theorem dX9_forth_37 : decode cX9_forth 37 = .ok (.iinc 3 1, 3) := by decide +kernel
theorem dX9_forth_40 : decode cX9_forth 40 = .ok (.goto (-28), 3) := by decide +kernel
theorem dX9_forth_43 : decode cX9_forth 43 = .ok (.aload_n 0, 1) := by decide +kernel
theorem dX9_forth_44 : decode cX9_forth 44 = .ok (.aload_n 0, 1) := by decide +kernel
theorem dX9_forth_45 : decode cX9_forth 45 = .ok (.getfield 326, 3) := by decide +kernel
theorem dX9_forth_48 : decode cX9_forth 48 = .ok (.putfield 135, 3) := by decide +kernel
theorem dX9_forth_51 : decode cX9_forth 51 = .ok (.aload_n 0, 1) := by decide +kernel
theorem dX9_forth_52 : decode cX9_forth 52 = .ok (.getfield 135, 3) := by decide +kernel
theorem dX9_forth_55 : decode cX9_forth 55 = .ok (.ireturn, 1) := by decide +kernel
theorem dX9_back_0 : decode cX9_back 0 = .ok (.aload_n 0, 1) := by decide +kernel
theorem dX9_back_1 : decode cX9_back 1 = .ok (.invokevirtual 332, 3) := by decide +kernel
theorem dX9_back_4 : decode cX9_back 4 = .ok (.aload_n 0, 1) := by decide +kernel
theorem dX9_back_5 : decode cX9_back 5 = .ok (.getfield 135, 3) := by decide +kernel
theorem dX9_back_8 : decode cX9_back 8 = .ok (.aload_n 0, 1) := by decide +kernel
theorem dX9_back_9 : decode cX9_back 9 = .ok (.getfield 326, 3) := by decide +kernel
theorem dX9_back_12 : decode cX9_back 12 = .ok (.if_icmp .eq 14, 3) := by decide +kernel
theorem dX9_back_15 : decode cX9_back 15 = .ok (.new 163, 3) := by decide +kernel
theorem dX9_back_18 : decode cX9_back 18 = .ok (.dup, 1) := by decide +kernel
theorem dX9_back_19 : decode cX9_back 19 = .ok (.ldc_w 335, 3) := by decide +kernel
theorem dX9_back_22 : decode cX9_back 22 = .ok (.invokespecial 167, 3) := by decide +kernel
theorem dX9_back_25 : decode cX9_back 25 = .ok (.athrow, 1) := by decide +kernel
theorem dX9_back_26 : decode cX9_back 26 = .ok (.aload_n 0, 1) := by decide +kernel
theorem dX9_back_27 : decode cX9_back 27 = .ok (.invokevirtual 237, 3) := by decide +kernel
theorem dX9_back_30 : decode cX9_back 30 = .ok (.iconst 0, 1) := by decide +kernel
theorem dX9_back_31 : decode cX9_back 31 = .ok (.istore_n 1, 1) := by decide +kernel
theorem dX9_back_32 : decode cX9_back 32 = .ok (.iload_n 1, 1) := by decide +kernel
theorem dX9_back_33 : decode cX9_back 33 = .ok (.aload_n 0, 1) := by decide +kernel
theorem dX9_back_34 : decode cX9_back 34 = .ok (.getfield 326, 3) := by decide +kernel
theorem dX9_back_37 : decode cX9_back 37 = .ok (.if_icmp .ge 29, 3) := by decide +kernel
theorem dX9_back_40 : decode cX9_back 40 = .ok (.aload_n 0, 1) := by decide +kernel
theorem dX9_back_41 : decode cX9_back 41 = .ok (.getfield 73, 3) := by decide +kernel
theorem dX9_back_44 : decode cX9_back 44 = .ok (.iload_n 1, 1) := by decide +kernel
theorem dX9_back_45 : decode cX9_back 45 = .ok (.aload_n 0, 1) := by decide +kernel
theorem dX9_back_46 : decode cX9_back 46 = .ok (.getfield 35, 3) := by decide +kernel
theorem dX9_back_49 : decode cX9_back 49 = .ok (.iload_n 1, 1) := by decide +kernel
theorem dX9_back_50 : decode cX9_back 50 = .ok (.iaload, 1) := by decide +kernel
theorem dX9_back_51 : decode cX9_back 51 = .ok (.aload_n 0, 1) := by decide +kernel
theorem dX9_back_52 : decode cX9_back 52 = .ok (.getfield 21, 3) := by decide +kernel
theorem dX9_back_55 : decode cX9_back 55 = .ok (.iload_n 1, 1) := by decide +kernel
theorem dX9_back_56 : decode cX9_back 56 = .ok (.iaload, 1) := by decide +kernel
theorem dX9_back_57 : decode cX9_back 57 = .ok (.invokevirtual 249, 3) := by decide +kernel
theorem dX9_back_60 : decode cX9_back 60 = .ok (.iinc 1 1, 3) := by decide +kernel
theorem dX9_back_63 : decode cX9_back 63 = .ok (.goto (-31), 3) := by decide +kernel
theorem dX9_back_66 : decode cX9_back 66 = .ok (.aload_n 0, 1) := by decide +kernel
theorem dX9_back_67 : decode cX9_back 67 = .ok (.getfield 73, 3) := by decide +kernel
theorem dX9_back_70 : decode cX9_back 70 = .ok (.aload_n 0, 1) := by decide +kernel
theorem dX9_back_71 : decode cX9_back 71 = .ok (.getfield 326, 3) := by decide +kernel
theorem dX9_back_74 : decode cX9_back 74 = .ok (.aload_n 0, 1) := by decide +kernel
theorem dX9_back_75 : decode cX9_back 75 = .ok (.getfield 14, 3) := by decide +kernel
theorem dX9_back_78 : decode cX9_back 78 = .ok (.invokevirtual 253, 3) := by decide +kernel
theorem dX9_back_81 : decode cX9_back 81 = .ok (.aload_n 0, 1) := by decide +kernel
theorem dX9_back_82 : decode cX9_back 82 = .ok (.iconst 0, 1) := by decide +kernel
theorem dX9_back_83 : decode cX9_back 83 = .ok (.putfield 135, 3) := by decide +kernel
theorem dX9_back_86 : decode cX9_back 86 = .ok (.aload_n 0, 1) := by decide +kernel
theorem dX9_back_87 : decode cX9_back 87 = .ok (.aload_n 0, 1) := by decide +kernel
theorem dX9_back_88 : decode cX9_back 88 = .ok (.getfield 14, 3) := by decide +kernel
theorem dX9_back_91 : decode cX9_back 91 = .ok (.invokevirtual 243, 3) := by decide +kernel
theorem dX9_back_94 : decode cX9_back 94 = .ok (.ireturn, 1) := by decide +kernel
theorem dX9_told_0 : decode cX9_told 0 = .ok (.iload_n 1, 1) := by decide +kernel
theorem dX9_told_1 : decode cX9_told 1 = .ok (.tableswitch 51 0 3 #[31, 36, 41, 46], 31) := by decide +kernel
theorem dX9_told_32 : decode cX9_told 32 = .ok (.aload_n 0, 1) := by decide +kernel
theorem dX9_told_33 : decode cX9_told 33 = .ok (.getfield 135, 3) := by decide +kernel
theorem dX9_told_36 : decode cX9_told 36 = .ok (.ireturn, 1) := by decide +kernel
theorem dX9_told_37 : decode cX9_told 37 = .ok (.aload_n 0, 1) := by decide +kernel
theorem dX9_told_38 : decode cX9_told 38 = .ok (.getfield 337, 3) := by decide +kernel
theorem dX9_told_41 : decode cX9_told 41 = .ok (.ireturn, 1) := by decide +kernel
theorem dX9_told_42 : decode cX9_told 42 = .ok (.aload_n 0, 1) := by decide +kernel
theorem dX9_told_43 : decode cX9_told 43 = .ok (.getfield 340, 3) := by decide +kernel
theorem dX9_told_46 : decode cX9_told 46 = .ok (.ireturn, 1) := by decide +kernel
theorem dX9_told_47 : decode cX9_told 47 = .ok (.aload_n 0, 1) := by decide +kernel
theorem dX9_told_48 : decode cX9_told 48 = .ok (.getfield 326, 3) := by decide +kernel
theorem dX9_told_51 : decode cX9_told 51 = .ok (.ireturn, 1) := by decide +kernel
theorem dX9_told_52 : decode cX9_told 52 = .ok (.new 180, 3) := by decide +kernel
theorem dX9_told_55 : decode cX9_told 55 = .ok (.dup, 1) := by decide +kernel
theorem dX9_told_56 : decode cX9_told 56 = .ok (.ldc_w 343, 3) := by decide +kernel
theorem dX9_told_59 : decode cX9_told 59 = .ok (.invokespecial 184, 3) := by decide +kernel
theorem dX9_told_62 : decode cX9_told 62 = .ok (.athrow, 1) := by decide +kernel
theorem dX9_needMember_0 : decode cX9_needMember 0 = .ok (.iload_n 1, 1) := by decide +kernel
theorem dX9_needMember_1 : decode cX9_needMember 1 = .ok (.ifCond .lt 14, 3) := by decide +kernel
theorem dX9_needMember_4 : decode cX9_needMember 4 = .ok (.iload_n 1, 1) := by decide +kernel
theorem dX9_needMember_5 : decode cX9_needMember 5 = .ok (.aload_n 0, 1) := by decide +kernel
theorem dX9_needMember_6 : decode cX9_needMember 6 = .ok (.getfield 43, 3) := by decide +kernel
theorem dX9_needMember_9 : decode cX9_needMember 9 = .ok (.getfield 301, 3) := by decide +kernel
theorem dX9_needMember_12 : decode cX9_needMember 12 = .ok (.if_icmp .lt 14, 3) := by decide +kernel
theorem dX9_needMember_15 : decode cX9_needMember 15 = .ok (.new 180, 3) := by decide +kernel
theorem dX9_needMember_18 : decode cX9_needMember 18 = .ok (.dup, 1) := by decide +kernel
theorem dX9_needMember_19 : decode cX9_needMember 19 = .ok (.ldc_w 345, 3) := by decide +kernel
theorem dX9_needMember_22 : decode cX9_needMember 22 = .ok (.invokespecial 184, 3) := by decide +kernel
theorem dX9_needMember_25 : decode cX9_needMember 25 = .ok (.athrow, 1) := by decide +kernel
theorem dX9_needMember_26 : decode cX9_needMember 26 = .ok (.return_, 1) := by decide +kernel
theorem dX9_needSides_0 : decode cX9_needSides 0 = .ok (.iload_n 0, 1) := by decide +kernel
theorem dX9_needSides_1 : decode cX9_needSides 1 = .ok (.iconst 1, 1) := by decide +kernel
theorem dX9_needSides_2 : decode cX9_needSides 2 = .ok (.if_icmp .lt 20, 3) := by decide +kernel
theorem dX9_needSides_5 : decode cX9_needSides 5 = .ok (.iload_n 0, 1) := by decide +kernel
theorem dX9_needSides_6 : decode cX9_needSides 6 = .ok (.bipush 8, 2) := by decide +kernel
theorem dX9_needSides_8 : decode cX9_needSides 8 = .ok (.if_icmp .gt 14, 3) := by decide +kernel
theorem dX9_needSides_11 : decode cX9_needSides 11 = .ok (.iload_n 1, 1) := by decide +kernel
theorem dX9_needSides_12 : decode cX9_needSides 12 = .ok (.iconst 1, 1) := by decide +kernel
theorem dX9_needSides_13 : decode cX9_needSides 13 = .ok (.if_icmp .lt 9, 3) := by decide +kernel
theorem dX9_needSides_16 : decode cX9_needSides 16 = .ok (.iload_n 1, 1) := by decide +kernel
theorem dX9_needSides_17 : decode cX9_needSides 17 = .ok (.bipush 8, 2) := by decide +kernel
theorem dX9_needSides_19 : decode cX9_needSides 19 = .ok (.if_icmp .le 14, 3) := by decide +kernel
theorem dX9_needSides_22 : decode cX9_needSides 22 = .ok (.new 180, 3) := by decide +kernel
theorem dX9_needSides_25 : decode cX9_needSides 25 = .ok (.dup, 1) := by decide +kernel
theorem dX9_needSides_26 : decode cX9_needSides 26 = .ok (.ldc_w 347, 3) := by decide +kernel
theorem dX9_needSides_29 : decode cX9_needSides 29 = .ok (.invokespecial 184, 3) := by decide +kernel
theorem dX9_needSides_32 : decode cX9_needSides 32 = .ok (.athrow, 1) := by decide +kernel
theorem dX9_needSides_33 : decode cX9_needSides 33 = .ok (.return_, 1) := by decide +kernel
theorem dX9_needSquare_0 : decode cX9_needSquare 0 = .ok (.aload_n 0, 1) := by decide +kernel
theorem dX9_needSquare_1 : decode cX9_needSquare 1 = .ok (.getfield 185, 3) := by decide +kernel
theorem dX9_needSquare_4 : decode cX9_needSquare 4 = .ok (.aload_n 0, 1) := by decide +kernel
theorem dX9_needSquare_5 : decode cX9_needSquare 5 = .ok (.getfield 188, 3) := by decide +kernel
theorem dX9_needSquare_8 : decode cX9_needSquare 8 = .ok (.if_icmp .eq 14, 3) := by decide +kernel
theorem dX9_needSquare_11 : decode cX9_needSquare 11 = .ok (.new 163, 3) := by decide +kernel
theorem dX9_needSquare_14 : decode cX9_needSquare 14 = .ok (.dup, 1) := by decide +kernel
theorem dX9_needSquare_15 : decode cX9_needSquare 15 = .ok (.ldc_w 349, 3) := by decide +kernel
theorem dX9_needSquare_18 : decode cX9_needSquare 18 = .ok (.invokespecial 167, 3) := by decide +kernel
theorem dX9_needSquare_21 : decode cX9_needSquare 21 = .ok (.athrow, 1) := by decide +kernel
theorem dX9_needSquare_22 : decode cX9_needSquare 22 = .ok (.return_, 1) := by decide +kernel
theorem dX9_needMatrixRoom_0 : decode cX9_needMatrixRoom 0 = .ok (.aload_n 0, 1) := by decide +kernel
theorem dX9_needMatrixRoom_1 : decode cX9_needMatrixRoom 1 = .ok (.getfield 337, 3) := by decide +kernel
theorem dX9_needMatrixRoom_4 : decode cX9_needMatrixRoom 4 = .ok (.bipush 40, 2) := by decide +kernel
theorem dX9_needMatrixRoom_6 : decode cX9_needMatrixRoom 6 = .ok (.if_icmp .lt 14, 3) := by decide +kernel
theorem dX9_needMatrixRoom_9 : decode cX9_needMatrixRoom 9 = .ok (.new 138, 3) := by decide +kernel
theorem dX9_needMatrixRoom_12 : decode cX9_needMatrixRoom 12 = .ok (.dup, 1) := by decide +kernel
theorem dX9_needMatrixRoom_13 : decode cX9_needMatrixRoom 13 = .ok (.ldc_w 351, 3) := by decide +kernel
theorem dX9_needMatrixRoom_16 : decode cX9_needMatrixRoom 16 = .ok (.invokespecial 142, 3) := by decide +kernel
theorem dX9_needMatrixRoom_19 : decode cX9_needMatrixRoom 19 = .ok (.athrow, 1) := by decide +kernel
theorem dX9_needMatrixRoom_20 : decode cX9_needMatrixRoom 20 = .ok (.return_, 1) := by decide +kernel
theorem dX9_needPolynomialRoom_0 : decode cX9_needPolynomialRoom 0 = .ok (.aload_n 0, 1) := by decide +kernel
theorem dX9_needPolynomialRoom_1 : decode cX9_needPolynomialRoom 1 = .ok (.getfield 340, 3) := by decide +kernel
theorem dX9_needPolynomialRoom_4 : decode cX9_needPolynomialRoom 4 = .ok (.bipush 40, 2) := by decide +kernel
theorem dX9_needPolynomialRoom_6 : decode cX9_needPolynomialRoom 6 = .ok (.if_icmp .lt 14, 3) := by decide +kernel
theorem dX9_needPolynomialRoom_9 : decode cX9_needPolynomialRoom 9 = .ok (.new 138, 3) := by decide +kernel
theorem dX9_needPolynomialRoom_12 : decode cX9_needPolynomialRoom 12 = .ok (.dup, 1) := by decide +kernel
theorem dX9_needPolynomialRoom_13 : decode cX9_needPolynomialRoom 13 = .ok (.ldc_w 353, 3) := by decide +kernel
theorem dX9_needPolynomialRoom_16 : decode cX9_needPolynomialRoom 16 = .ok (.invokespecial 142, 3) := by decide +kernel
theorem dX9_needPolynomialRoom_19 : decode cX9_needPolynomialRoom 19 = .ok (.athrow, 1) := by decide +kernel
theorem dX9_needPolynomialRoom_20 : decode cX9_needPolynomialRoom 20 = .ok (.return_, 1) := by decide +kernel
theorem dX9_needSpan_0 : decode cX9_needSpan 0 = .ok (.aload_n 0, 1) := by decide +kernel
theorem dX9_needSpan_1 : decode cX9_needSpan 1 = .ok (.getfield 326, 3) := by decide +kernel
theorem dX9_needSpan_4 : decode cX9_needSpan 4 = .ok (.ifCond .ne 14, 3) := by decide +kernel
theorem dX9_needSpan_7 : decode cX9_needSpan 7 = .ok (.new 163, 3) := by decide +kernel
theorem dX9_needSpan_10 : decode cX9_needSpan 10 = .ok (.dup, 1) := by decide +kernel
theorem dX9_needSpan_11 : decode cX9_needSpan 11 = .ok (.ldc_w 355, 3) := by decide +kernel
theorem dX9_needSpan_14 : decode cX9_needSpan 14 = .ok (.invokespecial 167, 3) := by decide +kernel
theorem dX9_needSpan_17 : decode cX9_needSpan 17 = .ok (.athrow, 1) := by decide +kernel
theorem dX9_needSpan_18 : decode cX9_needSpan 18 = .ok (.return_, 1) := by decide +kernel
theorem dX9_matrixAt_0 : decode cX9_matrixAt 0 = .ok (.iload_n 1, 1) := by decide +kernel
theorem dX9_matrixAt_1 : decode cX9_matrixAt 1 = .ok (.ifCond .lt 20, 3) := by decide +kernel
theorem dX9_matrixAt_4 : decode cX9_matrixAt 4 = .ok (.iload_n 1, 1) := by decide +kernel
theorem dX9_matrixAt_5 : decode cX9_matrixAt 5 = .ok (.aload_n 0, 1) := by decide +kernel
theorem dX9_matrixAt_6 : decode cX9_matrixAt 6 = .ok (.getfield 337, 3) := by decide +kernel
theorem dX9_matrixAt_9 : decode cX9_matrixAt 9 = .ok (.if_icmp .ge 12, 3) := by decide +kernel
theorem dX9_matrixAt_12 : decode cX9_matrixAt 12 = .ok (.aload_n 0, 1) := by decide +kernel
theorem dX9_matrixAt_13 : decode cX9_matrixAt 13 = .ok (.getfield 27, 3) := by decide +kernel
theorem dX9_matrixAt_16 : decode cX9_matrixAt 16 = .ok (.iload_n 1, 1) := by decide +kernel
theorem dX9_matrixAt_17 : decode cX9_matrixAt 17 = .ok (.aaload, 1) := by decide +kernel
theorem dX9_matrixAt_18 : decode cX9_matrixAt 18 = .ok (.goto 4, 3) := by decide +kernel
theorem dX9_matrixAt_21 : decode cX9_matrixAt 21 = .ok (.aconst_null, 1) := by decide +kernel
theorem dX9_matrixAt_22 : decode cX9_matrixAt 22 = .ok (.astore_n 2, 1) := by decide +kernel
theorem dX9_matrixAt_23 : decode cX9_matrixAt 23 = .ok (.aload_n 2, 1) := by decide +kernel
theorem dX9_matrixAt_24 : decode cX9_matrixAt 24 = .ok (.ifnonnull 14, 3) := by decide +kernel
theorem dX9_matrixAt_27 : decode cX9_matrixAt 27 = .ok (.new 143, 3) := by decide +kernel
theorem dX9_matrixAt_30 : decode cX9_matrixAt 30 = .ok (.dup, 1) := by decide +kernel
theorem dX9_matrixAt_31 : decode cX9_matrixAt 31 = .ok (.ldc_w 357, 3) := by decide +kernel
theorem dX9_matrixAt_34 : decode cX9_matrixAt 34 = .ok (.invokespecial 147, 3) := by decide +kernel
theorem dX9_matrixAt_37 : decode cX9_matrixAt 37 = .ok (.athrow, 1) := by decide +kernel
theorem dX9_matrixAt_38 : decode cX9_matrixAt 38 = .ok (.aload_n 2, 1) := by decide +kernel
theorem dX9_matrixAt_39 : decode cX9_matrixAt 39 = .ok (.areturn, 1) := by decide +kernel
theorem dX9_placeIn_0 : decode cX9_placeIn 0 = .ok (.iload_n 1, 1) := by decide +kernel
theorem dX9_placeIn_1 : decode cX9_placeIn 1 = .ok (.ifCond .lt 23, 3) := by decide +kernel
theorem dX9_placeIn_4 : decode cX9_placeIn 4 = .ok (.iload_n 1, 1) := by decide +kernel
theorem dX9_placeIn_5 : decode cX9_placeIn 5 = .ok (.aload_n 0, 1) := by decide +kernel
theorem dX9_placeIn_6 : decode cX9_placeIn 6 = .ok (.getfield 185, 3) := by decide +kernel
theorem dX9_placeIn_9 : decode cX9_placeIn 9 = .ok (.if_icmp .ge 15, 3) := by decide +kernel
theorem dX9_placeIn_12 : decode cX9_placeIn 12 = .ok (.iload_n 2, 1) := by decide +kernel
theorem dX9_placeIn_13 : decode cX9_placeIn 13 = .ok (.ifCond .lt 11, 3) := by decide +kernel
theorem dX9_placeIn_16 : decode cX9_placeIn 16 = .ok (.iload_n 2, 1) := by decide +kernel
theorem dX9_placeIn_17 : decode cX9_placeIn 17 = .ok (.aload_n 0, 1) := by decide +kernel
theorem dX9_placeIn_18 : decode cX9_placeIn 18 = .ok (.getfield 188, 3) := by decide +kernel
theorem dX9_placeIn_21 : decode cX9_placeIn 21 = .ok (.if_icmp .lt 14, 3) := by decide +kernel
theorem dX9_placeIn_24 : decode cX9_placeIn 24 = .ok (.new 143, 3) := by decide +kernel
theorem dX9_placeIn_27 : decode cX9_placeIn 27 = .ok (.dup, 1) := by decide +kernel
theorem dX9_placeIn_28 : decode cX9_placeIn 28 = .ok (.ldc_w 359, 3) := by decide +kernel
theorem dX9_placeIn_31 : decode cX9_placeIn 31 = .ok (.invokespecial 147, 3) := by decide +kernel
theorem dX9_placeIn_34 : decode cX9_placeIn 34 = .ok (.athrow, 1) := by decide +kernel
theorem dX9_placeIn_35 : decode cX9_placeIn 35 = .ok (.iload_n 1, 1) := by decide +kernel
theorem dX9_placeIn_36 : decode cX9_placeIn 36 = .ok (.aload_n 0, 1) := by decide +kernel
theorem dX9_placeIn_37 : decode cX9_placeIn 37 = .ok (.getfield 188, 3) := by decide +kernel
theorem dX9_placeIn_40 : decode cX9_placeIn 40 = .ok (.imul, 1) := by decide +kernel
theorem dX9_placeIn_41 : decode cX9_placeIn 41 = .ok (.iload_n 2, 1) := by decide +kernel
theorem dX9_placeIn_42 : decode cX9_placeIn 42 = .ok (.iadd, 1) := by decide +kernel
theorem dX9_placeIn_43 : decode cX9_placeIn 43 = .ok (.ireturn, 1) := by decide +kernel
theorem dX9_polynomialAt_0 : decode cX9_polynomialAt 0 = .ok (.iload_n 1, 1) := by decide +kernel
theorem dX9_polynomialAt_1 : decode cX9_polynomialAt 1 = .ok (.ifCond .lt 20, 3) := by decide +kernel
theorem dX9_polynomialAt_4 : decode cX9_polynomialAt 4 = .ok (.iload_n 1, 1) := by decide +kernel
theorem dX9_polynomialAt_5 : decode cX9_polynomialAt 5 = .ok (.aload_n 0, 1) := by decide +kernel
theorem dX9_polynomialAt_6 : decode cX9_polynomialAt 6 = .ok (.getfield 340, 3) := by decide +kernel
theorem dX9_polynomialAt_9 : decode cX9_polynomialAt 9 = .ok (.if_icmp .ge 12, 3) := by decide +kernel
theorem dX9_polynomialAt_12 : decode cX9_polynomialAt 12 = .ok (.aload_n 0, 1) := by decide +kernel
theorem dX9_polynomialAt_13 : decode cX9_polynomialAt 13 = .ok (.getfield 31, 3) := by decide +kernel
theorem dX9_polynomialAt_16 : decode cX9_polynomialAt 16 = .ok (.iload_n 1, 1) := by decide +kernel
theorem dX9_polynomialAt_17 : decode cX9_polynomialAt 17 = .ok (.aaload, 1) := by decide +kernel
theorem dX9_polynomialAt_18 : decode cX9_polynomialAt 18 = .ok (.goto 4, 3) := by decide +kernel
theorem dX9_polynomialAt_21 : decode cX9_polynomialAt 21 = .ok (.aconst_null, 1) := by decide +kernel
theorem dX9_polynomialAt_22 : decode cX9_polynomialAt 22 = .ok (.astore_n 2, 1) := by decide +kernel
theorem dX9_polynomialAt_23 : decode cX9_polynomialAt 23 = .ok (.aload_n 2, 1) := by decide +kernel
theorem dX9_polynomialAt_24 : decode cX9_polynomialAt 24 = .ok (.ifnonnull 14, 3) := by decide +kernel
theorem dX9_polynomialAt_27 : decode cX9_polynomialAt 27 = .ok (.new 143, 3) := by decide +kernel
theorem dX9_polynomialAt_30 : decode cX9_polynomialAt 30 = .ok (.dup, 1) := by decide +kernel
theorem dX9_polynomialAt_31 : decode cX9_polynomialAt 31 = .ok (.ldc_w 361, 3) := by decide +kernel
theorem dX9_polynomialAt_34 : decode cX9_polynomialAt 34 = .ok (.invokespecial 147, 3) := by decide +kernel
theorem dX9_polynomialAt_37 : decode cX9_polynomialAt 37 = .ok (.athrow, 1) := by decide +kernel
theorem dX9_polynomialAt_38 : decode cX9_polynomialAt 38 = .ok (.aload_n 2, 1) := by decide +kernel
theorem dX9_polynomialAt_39 : decode cX9_polynomialAt 39 = .ok (.areturn, 1) := by decide +kernel
theorem dX9_keepMatrix_0 : decode cX9_keepMatrix 0 = .ok (.aload_n 0, 1) := by decide +kernel
theorem dX9_keepMatrix_1 : decode cX9_keepMatrix 1 = .ok (.getfield 337, 3) := by decide +kernel
theorem dX9_keepMatrix_4 : decode cX9_keepMatrix 4 = .ok (.istore_n 2, 1) := by decide +kernel
theorem dX9_keepMatrix_5 : decode cX9_keepMatrix 5 = .ok (.aload_n 0, 1) := by decide +kernel
theorem dX9_keepMatrix_6 : decode cX9_keepMatrix 6 = .ok (.getfield 27, 3) := by decide +kernel
theorem dX9_keepMatrix_9 : decode cX9_keepMatrix 9 = .ok (.iload_n 2, 1) := by decide +kernel
theorem dX9_keepMatrix_10 : decode cX9_keepMatrix 10 = .ok (.aload_n 1, 1) := by decide +kernel
theorem dX9_keepMatrix_11 : decode cX9_keepMatrix 11 = .ok (.aastore, 1) := by decide +kernel
theorem dX9_keepMatrix_12 : decode cX9_keepMatrix 12 = .ok (.aload_n 0, 1) := by decide +kernel
theorem dX9_keepMatrix_13 : decode cX9_keepMatrix 13 = .ok (.dup, 1) := by decide +kernel
theorem dX9_keepMatrix_14 : decode cX9_keepMatrix 14 = .ok (.getfield 337, 3) := by decide +kernel
theorem dX9_keepMatrix_17 : decode cX9_keepMatrix 17 = .ok (.iconst 1, 1) := by decide +kernel
theorem dX9_keepMatrix_18 : decode cX9_keepMatrix 18 = .ok (.iadd, 1) := by decide +kernel
theorem dX9_keepMatrix_19 : decode cX9_keepMatrix 19 = .ok (.putfield 337, 3) := by decide +kernel
theorem dX9_keepMatrix_22 : decode cX9_keepMatrix 22 = .ok (.iload_n 2, 1) := by decide +kernel
theorem dX9_keepMatrix_23 : decode cX9_keepMatrix 23 = .ok (.ireturn, 1) := by decide +kernel
theorem dX9_keepPolynomial_0 : decode cX9_keepPolynomial 0 = .ok (.new 9, 3) := by decide +kernel
theorem dX9_keepPolynomial_3 : decode cX9_keepPolynomial 3 = .ok (.dup, 1) := by decide +kernel
theorem dX9_keepPolynomial_4 : decode cX9_keepPolynomial 4 = .ok (.bipush 65, 2) := by decide +kernel
theorem dX9_keepPolynomial_6 : decode cX9_keepPolynomial 6 = .ok (.invokespecial 11, 3) := by decide +kernel
theorem dX9_keepPolynomial_9 : decode cX9_keepPolynomial 9 = .ok (.astore_n 2, 1) := by decide +kernel
theorem dX9_keepPolynomial_10 : decode cX9_keepPolynomial 10 = .ok (.aload_n 2, 1) := by decide +kernel
theorem dX9_keepPolynomial_11 : decode cX9_keepPolynomial 11 = .ok (.aload_n 1, 1) := by decide +kernel
theorem dX9_keepPolynomial_12 : decode cX9_keepPolynomial 12 = .ok (.invokevirtual 273, 3) := by decide +kernel
theorem dX9_keepPolynomial_15 : decode cX9_keepPolynomial 15 = .ok (.aload_n 0, 1) := by decide +kernel
theorem dX9_keepPolynomial_16 : decode cX9_keepPolynomial 16 = .ok (.getfield 340, 3) := by decide +kernel
theorem dX9_keepPolynomial_19 : decode cX9_keepPolynomial 19 = .ok (.istore_n 3, 1) := by decide +kernel
theorem dX9_keepPolynomial_20 : decode cX9_keepPolynomial 20 = .ok (.aload_n 0, 1) := by decide +kernel
theorem dX9_keepPolynomial_21 : decode cX9_keepPolynomial 21 = .ok (.getfield 31, 3) := by decide +kernel
theorem dX9_keepPolynomial_24 : decode cX9_keepPolynomial 24 = .ok (.iload_n 3, 1) := by decide +kernel
theorem dX9_keepPolynomial_25 : decode cX9_keepPolynomial 25 = .ok (.aload_n 2, 1) := by decide +kernel
theorem dX9_keepPolynomial_26 : decode cX9_keepPolynomial 26 = .ok (.aastore, 1) := by decide +kernel
theorem dX9_keepPolynomial_27 : decode cX9_keepPolynomial 27 = .ok (.aload_n 0, 1) := by decide +kernel
theorem dX9_keepPolynomial_28 : decode cX9_keepPolynomial 28 = .ok (.dup, 1) := by decide +kernel
theorem dX9_keepPolynomial_29 : decode cX9_keepPolynomial 29 = .ok (.getfield 340, 3) := by decide +kernel
theorem dX9_keepPolynomial_32 : decode cX9_keepPolynomial 32 = .ok (.iconst 1, 1) := by decide +kernel
theorem dX9_keepPolynomial_33 : decode cX9_keepPolynomial 33 = .ok (.iadd, 1) := by decide +kernel
theorem dX9_keepPolynomial_34 : decode cX9_keepPolynomial 34 = .ok (.putfield 340, 3) := by decide +kernel
theorem dX9_keepPolynomial_37 : decode cX9_keepPolynomial 37 = .ok (.iload_n 3, 1) := by decide +kernel
theorem dX9_keepPolynomial_38 : decode cX9_keepPolynomial 38 = .ok (.ireturn, 1) := by decide +kernel
theorem dX9_hasAlike_0 : decode cX9_hasAlike 0 = .ok (.iconst 0, 1) := by decide +kernel
theorem dX9_hasAlike_1 : decode cX9_hasAlike 1 = .ok (.istore_n 2, 1) := by decide +kernel
theorem dX9_hasAlike_2 : decode cX9_hasAlike 2 = .ok (.iload_n 2, 1) := by decide +kernel
theorem dX9_hasAlike_3 : decode cX9_hasAlike 3 = .ok (.aload_n 0, 1) := by decide +kernel
theorem dX9_hasAlike_4 : decode cX9_hasAlike 4 = .ok (.getfield 135, 3) := by decide +kernel
theorem dX9_hasAlike_7 : decode cX9_hasAlike 7 = .ok (.if_icmp .ge 41, 3) := by decide +kernel
theorem dX9_hasAlike_10 : decode cX9_hasAlike 10 = .ok (.iconst 0, 1) := by decide +kernel
theorem dX9_hasAlike_11 : decode cX9_hasAlike 11 = .ok (.istore_n 3, 1) := by decide +kernel
theorem dX9_hasAlike_12 : decode cX9_hasAlike 12 = .ok (.iload_n 3, 1) := by decide +kernel
theorem dX9_hasAlike_13 : decode cX9_hasAlike 13 = .ok (.iload_n 2, 1) := by decide +kernel
theorem dX9_hasAlike_14 : decode cX9_hasAlike 14 = .ok (.if_icmp .ge 27, 3) := by decide +kernel
theorem dX9_hasAlike_17 : decode cX9_hasAlike 17 = .ok (.aload_n 0, 1) := by decide +kernel
theorem dX9_hasAlike_18 : decode cX9_hasAlike 18 = .ok (.getfield 21, 3) := by decide +kernel
theorem dX9_hasAlike_21 : decode cX9_hasAlike 21 = .ok (.iload_n 2, 1) := by decide +kernel
theorem dX9_hasAlike_22 : decode cX9_hasAlike 22 = .ok (.iaload, 1) := by decide +kernel
theorem dX9_hasAlike_23 : decode cX9_hasAlike 23 = .ok (.aload_n 0, 1) := by decide +kernel
theorem dX9_hasAlike_24 : decode cX9_hasAlike 24 = .ok (.getfield 21, 3) := by decide +kernel
theorem dX9_hasAlike_27 : decode cX9_hasAlike 27 = .ok (.iload_n 3, 1) := by decide +kernel
theorem dX9_hasAlike_28 : decode cX9_hasAlike 28 = .ok (.iaload, 1) := by decide +kernel
theorem dX9_hasAlike_29 : decode cX9_hasAlike 29 = .ok (.if_icmp .ne 5, 3) := by decide +kernel
theorem dX9_hasAlike_32 : decode cX9_hasAlike 32 = .ok (.iconst 1, 1) := by decide +kernel
theorem dX9_hasAlike_33 : decode cX9_hasAlike 33 = .ok (.ireturn, 1) := by decide +kernel
theorem dX9_hasAlike_34 : decode cX9_hasAlike 34 = .ok (.iload_n 3, 1) := by decide +kernel
theorem dX9_hasAlike_35 : decode cX9_hasAlike 35 = .ok (.iload_n 1, 1) := by decide +kernel
theorem dX9_hasAlike_36 : decode cX9_hasAlike 36 = .ok (.iadd, 1) := by decide +kernel
theorem dX9_hasAlike_37 : decode cX9_hasAlike 37 = .ok (.istore_n 3, 1) := by decide +kernel
theorem dX9_hasAlike_38 : decode cX9_hasAlike 38 = .ok (.goto (-26), 3) := by decide +kernel
theorem dX9_hasAlike_41 : decode cX9_hasAlike 41 = .ok (.iload_n 2, 1) := by decide +kernel
theorem dX9_hasAlike_42 : decode cX9_hasAlike 42 = .ok (.iload_n 1, 1) := by decide +kernel
theorem dX9_hasAlike_43 : decode cX9_hasAlike 43 = .ok (.iadd, 1) := by decide +kernel
theorem dX9_hasAlike_44 : decode cX9_hasAlike 44 = .ok (.istore_n 2, 1) := by decide +kernel
theorem dX9_hasAlike_45 : decode cX9_hasAlike 45 = .ok (.goto (-43), 3) := by decide +kernel
theorem dX9_hasAlike_48 : decode cX9_hasAlike 48 = .ok (.iconst 0, 1) := by decide +kernel
theorem dX9_hasAlike_49 : decode cX9_hasAlike 49 = .ok (.ireturn, 1) := by decide +kernel
theorem dX9_hasXorOfAhead_0 : decode cX9_hasXorOfAhead 0 = .ok (.iconst 0, 1) := by decide +kernel
theorem dX9_hasXorOfAhead_1 : decode cX9_hasXorOfAhead 1 = .ok (.istore_n 1, 1) := by decide +kernel
theorem dX9_hasXorOfAhead_2 : decode cX9_hasXorOfAhead 2 = .ok (.iload_n 1, 1) := by decide +kernel
theorem dX9_hasXorOfAhead_3 : decode cX9_hasXorOfAhead 3 = .ok (.aload_n 0, 1) := by decide +kernel
theorem dX9_hasXorOfAhead_4 : decode cX9_hasXorOfAhead 4 = .ok (.getfield 135, 3) := by decide +kernel
theorem dX9_hasXorOfAhead_7 : decode cX9_hasXorOfAhead 7 = .ok (.if_icmp .ge 41, 3) := by decide +kernel
theorem dX9_hasXorOfAhead_10 : decode cX9_hasXorOfAhead 10 = .ok (.iconst 0, 1) := by decide +kernel
theorem dX9_hasXorOfAhead_11 : decode cX9_hasXorOfAhead 11 = .ok (.istore_n 2, 1) := by decide +kernel
theorem dX9_hasXorOfAhead_12 : decode cX9_hasXorOfAhead 12 = .ok (.iload_n 2, 1) := by decide +kernel
theorem dX9_hasXorOfAhead_13 : decode cX9_hasXorOfAhead 13 = .ok (.iconst 1, 1) := by decide +kernel
theorem dX9_hasXorOfAhead_14 : decode cX9_hasXorOfAhead 14 = .ok (.iload_n 1, 1) := by decide +kernel
theorem dX9_hasXorOfAhead_15 : decode cX9_hasXorOfAhead 15 = .ok (.ishl, 1) := by decide +kernel
theorem dX9_hasXorOfAhead_16 : decode cX9_hasXorOfAhead 16 = .ok (.if_icmp .ge 26, 3) := by decide +kernel
theorem dX9_hasXorOfAhead_19 : decode cX9_hasXorOfAhead 19 = .ok (.aload_n 0, 1) := by decide +kernel
theorem dX9_hasXorOfAhead_20 : decode cX9_hasXorOfAhead 20 = .ok (.iload_n 2, 1) := by decide +kernel
theorem dX9_hasXorOfAhead_21 : decode cX9_hasXorOfAhead 21 = .ok (.iload_n 1, 1) := by decide +kernel
theorem dX9_hasXorOfAhead_22 : decode cX9_hasXorOfAhead 22 = .ok (.invokevirtual 329, 3) := by decide +kernel
theorem dX9_hasXorOfAhead_25 : decode cX9_hasXorOfAhead 25 = .ok (.aload_n 0, 1) := by decide +kernel
theorem dX9_hasXorOfAhead_26 : decode cX9_hasXorOfAhead 26 = .ok (.getfield 21, 3) := by decide +kernel
theorem dX9_hasXorOfAhead_29 : decode cX9_hasXorOfAhead 29 = .ok (.iload_n 1, 1) := by decide +kernel
theorem dX9_hasXorOfAhead_30 : decode cX9_hasXorOfAhead 30 = .ok (.iaload, 1) := by decide +kernel
theorem dX9_hasXorOfAhead_31 : decode cX9_hasXorOfAhead 31 = .ok (.if_icmp .ne 5, 3) := by decide +kernel
theorem dX9_hasXorOfAhead_34 : decode cX9_hasXorOfAhead 34 = .ok (.iconst 1, 1) := by decide +kernel
theorem dX9_hasXorOfAhead_35 : decode cX9_hasXorOfAhead 35 = .ok (.ireturn, 1) := by decide +kernel
theorem dX9_hasXorOfAhead_36 : decode cX9_hasXorOfAhead 36 = .ok (.iinc 2 1, 3) := by decide +kernel
theorem dX9_hasXorOfAhead_39 : decode cX9_hasXorOfAhead 39 = .ok (.goto (-27), 3) := by decide +kernel
theorem dX9_hasXorOfAhead_42 : decode cX9_hasXorOfAhead 42 = .ok (.iinc 1 1, 3) := by decide +kernel
theorem dX9_hasXorOfAhead_45 : decode cX9_hasXorOfAhead 45 = .ok (.goto (-43), 3) := by decide +kernel
theorem dX9_hasXorOfAhead_48 : decode cX9_hasXorOfAhead 48 = .ok (.iconst 0, 1) := by decide +kernel
theorem dX9_hasXorOfAhead_49 : decode cX9_hasXorOfAhead 49 = .ok (.ireturn, 1) := by decide +kernel
theorem dX9_xorOfChosen_0 : decode cX9_xorOfChosen 0 = .ok (.iconst 0, 1) := by decide +kernel
theorem dX9_xorOfChosen_1 : decode cX9_xorOfChosen 1 = .ok (.istore_n 3, 1) := by decide +kernel
theorem dX9_xorOfChosen_2 : decode cX9_xorOfChosen 2 = .ok (.iconst 0, 1) := by decide +kernel
theorem dX9_xorOfChosen_3 : decode cX9_xorOfChosen 3 = .ok (.istore 4, 2) := by decide +kernel
theorem dX9_xorOfChosen_5 : decode cX9_xorOfChosen 5 = .ok (.iload 4, 2) := by decide +kernel
theorem dX9_xorOfChosen_7 : decode cX9_xorOfChosen 7 = .ok (.iload_n 2, 1) := by decide +kernel
theorem dX9_xorOfChosen_8 : decode cX9_xorOfChosen 8 = .ok (.if_icmp .ge 28, 3) := by decide +kernel
theorem dX9_xorOfChosen_11 : decode cX9_xorOfChosen 11 = .ok (.iload_n 1, 1) := by decide +kernel
theorem dX9_xorOfChosen_12 : decode cX9_xorOfChosen 12 = .ok (.iload 4, 2) := by decide +kernel
theorem dX9_xorOfChosen_14 : decode cX9_xorOfChosen 14 = .ok (.ishr, 1) := by decide +kernel
theorem dX9_xorOfChosen_15 : decode cX9_xorOfChosen 15 = .ok (.iconst 1, 1) := by decide +kernel
theorem dX9_xorOfChosen_16 : decode cX9_xorOfChosen 16 = .ok (.iand, 1) := by decide +kernel
theorem dX9_xorOfChosen_17 : decode cX9_xorOfChosen 17 = .ok (.ifCond .eq 13, 3) := by decide +kernel
theorem dX9_xorOfChosen_20 : decode cX9_xorOfChosen 20 = .ok (.iload_n 3, 1) := by decide +kernel
theorem dX9_xorOfChosen_21 : decode cX9_xorOfChosen 21 = .ok (.aload_n 0, 1) := by decide +kernel
theorem dX9_xorOfChosen_22 : decode cX9_xorOfChosen 22 = .ok (.getfield 21, 3) := by decide +kernel
theorem dX9_xorOfChosen_25 : decode cX9_xorOfChosen 25 = .ok (.iload 4, 2) := by decide +kernel
theorem dX9_xorOfChosen_27 : decode cX9_xorOfChosen 27 = .ok (.iaload, 1) := by decide +kernel
theorem dX9_xorOfChosen_28 : decode cX9_xorOfChosen 28 = .ok (.ixor, 1) := by decide +kernel
theorem dX9_xorOfChosen_29 : decode cX9_xorOfChosen 29 = .ok (.istore_n 3, 1) := by decide +kernel
theorem dX9_xorOfChosen_30 : decode cX9_xorOfChosen 30 = .ok (.iinc 4 1, 3) := by decide +kernel
theorem dX9_xorOfChosen_33 : decode cX9_xorOfChosen 33 = .ok (.goto (-28), 3) := by decide +kernel
theorem dX9_xorOfChosen_36 : decode cX9_xorOfChosen 36 = .ok (.iload_n 3, 1) := by decide +kernel
theorem dX9_xorOfChosen_37 : decode cX9_xorOfChosen 37 = .ok (.ireturn, 1) := by decide +kernel
theorem dX9_valueOf_0 : decode cX9_valueOf 0 = .ok (.iconst 0, 1) := by decide +kernel
theorem dX9_valueOf_1 : decode cX9_valueOf 1 = .ok (.istore_n 3, 1) := by decide +kernel
theorem dX9_valueOf_2 : decode cX9_valueOf 2 = .ok (.aload_n 1, 1) := by decide +kernel
theorem dX9_valueOf_3 : decode cX9_valueOf 3 = .ok (.getfield 261, 3) := by decide +kernel
theorem dX9_valueOf_6 : decode cX9_valueOf 6 = .ok (.istore 4, 2) := by decide +kernel
theorem dX9_valueOf_8 : decode cX9_valueOf 8 = .ok (.iload 4, 2) := by decide +kernel
theorem dX9_valueOf_10 : decode cX9_valueOf 10 = .ok (.ifCond .lt 27, 3) := by decide +kernel
theorem dX9_valueOf_13 : decode cX9_valueOf 13 = .ok (.aload_n 0, 1) := by decide +kernel
theorem dX9_valueOf_14 : decode cX9_valueOf 14 = .ok (.getfield 43, 3) := by decide +kernel
theorem dX9_valueOf_17 : decode cX9_valueOf 17 = .ok (.iload_n 3, 1) := by decide +kernel
theorem dX9_valueOf_18 : decode cX9_valueOf 18 = .ok (.iload_n 2, 1) := by decide +kernel
theorem dX9_valueOf_19 : decode cX9_valueOf 19 = .ok (.invokevirtual 103, 3) := by decide +kernel
theorem dX9_valueOf_22 : decode cX9_valueOf 22 = .ok (.aload_n 1, 1) := by decide +kernel
theorem dX9_valueOf_23 : decode cX9_valueOf 23 = .ok (.getfield 266, 3) := by decide +kernel
theorem dX9_valueOf_26 : decode cX9_valueOf 26 = .ok (.iload 4, 2) := by decide +kernel
theorem dX9_valueOf_28 : decode cX9_valueOf 28 = .ok (.iaload, 1) := by decide +kernel
theorem dX9_valueOf_29 : decode cX9_valueOf 29 = .ok (.ixor, 1) := by decide +kernel
theorem dX9_valueOf_30 : decode cX9_valueOf 30 = .ok (.istore_n 3, 1) := by decide +kernel
theorem dX9_valueOf_31 : decode cX9_valueOf 31 = .ok (.iinc 4 (-1), 3) := by decide +kernel
theorem dX9_valueOf_34 : decode cX9_valueOf 34 = .ok (.goto (-26), 3) := by decide +kernel
theorem dX9_valueOf_37 : decode cX9_valueOf 37 = .ok (.iload_n 3, 1) := by decide +kernel
theorem dX9_valueOf_38 : decode cX9_valueOf 38 = .ok (.ireturn, 1) := by decide +kernel
theorem dX10_thrown_0 : decode cX10_thrown 0 = .ok (.aload_n 0, 1) := by decide +kernel
theorem dX10_thrown_1 : decode cX10_thrown 1 = .ok (.getfield 1, 3) := by decide +kernel
theorem dX10_thrown_4 : decode cX10_thrown 4 = .ok (.ireturn, 1) := by decide +kernel
theorem dX10_fail_0 : decode cX10_fail 0 = .ok (.aload_n 0, 1) := by decide +kernel
theorem dX10_fail_1 : decode cX10_fail 1 = .ok (.iload_n 1, 1) := by decide +kernel
theorem dX10_fail_2 : decode cX10_fail 2 = .ok (.putfield 1, 3) := by decide +kernel
theorem dX10_fail_5 : decode cX10_fail 5 = .ok (.iconst 0, 1) := by decide +kernel
theorem dX10_fail_6 : decode cX10_fail 6 = .ok (.ireturn, 1) := by decide +kernel
theorem dX10_init_0 : decode cX10_init 0 = .ok (.aload_n 0, 1) := by decide +kernel
theorem dX10_init_1 : decode cX10_init 1 = .ok (.invokespecial 7, 3) := by decide +kernel
theorem dX10_init_4 : decode cX10_init 4 = .ok (.aload_n 0, 1) := by decide +kernel
theorem dX10_init_5 : decode cX10_init 5 = .ok (.sipush 130, 3) := by decide +kernel
theorem dX10_init_8 : decode cX10_init 8 = .ok (.newarray .int, 2) := by decide +kernel
theorem dX10_init_10 : decode cX10_init 10 = .ok (.putfield 13, 3) := by decide +kernel
theorem dX10_init_13 : decode cX10_init 13 = .ok (.aload_n 0, 1) := by decide +kernel
theorem dX10_init_14 : decode cX10_init 14 = .ok (.bipush 40, 2) := by decide +kernel
theorem dX10_init_16 : decode cX10_init 16 = .ok (.newarray .int, 2) := by decide +kernel
theorem dX10_init_18 : decode cX10_init 18 = .ok (.putfield 17, 3) := by decide +kernel
theorem dX10_init_21 : decode cX10_init 21 = .ok (.aload_n 0, 1) := by decide +kernel
theorem dX10_init_22 : decode cX10_init 22 = .ok (.bipush 40, 2) := by decide +kernel
theorem dX10_init_24 : decode cX10_init 24 = .ok (.newarray .int, 2) := by decide +kernel
theorem dX10_init_26 : decode cX10_init 26 = .ok (.putfield 20, 3) := by decide +kernel
theorem dX10_init_29 : decode cX10_init 29 = .ok (.aload_n 0, 1) := by decide +kernel
theorem dX10_init_30 : decode cX10_init 30 = .ok (.sipush 2560, 3) := by decide +kernel
theorem dX10_init_33 : decode cX10_init 33 = .ok (.newarray .int, 2) := by decide +kernel
theorem dX10_init_35 : decode cX10_init 35 = .ok (.putfield 23, 3) := by decide +kernel
theorem dX10_init_38 : decode cX10_init 38 = .ok (.aload_n 0, 1) := by decide +kernel
theorem dX10_init_39 : decode cX10_init 39 = .ok (.ldc 26, 2) := by decide +kernel
theorem dX10_init_41 : decode cX10_init 41 = .ok (.newarray .int, 2) := by decide +kernel
theorem dX10_init_43 : decode cX10_init 43 = .ok (.putfield 27, 3) := by decide +kernel
theorem dX10_init_46 : decode cX10_init 46 = .ok (.aload_n 0, 1) := by decide +kernel
theorem dX10_init_47 : decode cX10_init 47 = .ok (.bipush 72, 2) := by decide +kernel
theorem dX10_init_49 : decode cX10_init 49 = .ok (.newarray .int, 2) := by decide +kernel
theorem dX10_init_51 : decode cX10_init 51 = .ok (.putfield 30, 3) := by decide +kernel
theorem dX10_init_54 : decode cX10_init 54 = .ok (.aload_n 0, 1) := by decide +kernel
theorem dX10_init_55 : decode cX10_init 55 = .ok (.bipush 8, 2) := by decide +kernel
theorem dX10_init_57 : decode cX10_init 57 = .ok (.newarray .int, 2) := by decide +kernel
theorem dX10_init_59 : decode cX10_init 59 = .ok (.putfield 33, 3) := by decide +kernel
theorem dX10_init_62 : decode cX10_init 62 = .ok (.aload_n 0, 1) := by decide +kernel
theorem dX10_init_63 : decode cX10_init 63 = .ok (.bipush 40, 2) := by decide +kernel
theorem dX10_init_65 : decode cX10_init 65 = .ok (.newarray .int, 2) := by decide +kernel
theorem dX10_init_67 : decode cX10_init 67 = .ok (.putfield 36, 3) := by decide +kernel
theorem dX10_init_70 : decode cX10_init 70 = .ok (.aload_n 0, 1) := by decide +kernel
theorem dX10_init_71 : decode cX10_init 71 = .ok (.sipush 2600, 3) := by decide +kernel
theorem dX10_init_74 : decode cX10_init 74 = .ok (.newarray .int, 2) := by decide +kernel
theorem dX10_init_76 : decode cX10_init 76 = .ok (.putfield 39, 3) := by decide +kernel
theorem dX10_init_79 : decode cX10_init 79 = .ok (.aload_n 0, 1) := by decide +kernel
theorem dX10_init_80 : decode cX10_init 80 = .ok (.sipush 200, 3) := by decide +kernel
theorem dX10_init_83 : decode cX10_init 83 = .ok (.newarray .int, 2) := by decide +kernel
theorem dX10_init_85 : decode cX10_init 85 = .ok (.putfield 42, 3) := by decide +kernel
theorem dX10_init_88 : decode cX10_init 88 = .ok (.aload_n 0, 1) := by decide +kernel
theorem dX10_init_89 : decode cX10_init 89 = .ok (.sipush 200, 3) := by decide +kernel
theorem dX10_init_92 : decode cX10_init 92 = .ok (.newarray .int, 2) := by decide +kernel
theorem dX10_init_94 : decode cX10_init 94 = .ok (.putfield 45, 3) := by decide +kernel
theorem dX10_init_97 : decode cX10_init 97 = .ok (.aload_n 0, 1) := by decide +kernel
theorem dX10_init_98 : decode cX10_init 98 = .ok (.sipush 200, 3) := by decide +kernel
theorem dX10_init_101 : decode cX10_init 101 = .ok (.newarray .int, 2) := by decide +kernel
theorem dX10_init_103 : decode cX10_init 103 = .ok (.putfield 48, 3) := by decide +kernel
theorem dX10_init_106 : decode cX10_init 106 = .ok (.aload_n 0, 1) := by decide +kernel
theorem dX10_init_107 : decode cX10_init 107 = .ok (.sipush 200, 3) := by decide +kernel
theorem dX10_init_110 : decode cX10_init 110 = .ok (.newarray .int, 2) := by decide +kernel
theorem dX10_init_112 : decode cX10_init 112 = .ok (.putfield 51, 3) := by decide +kernel
theorem dX10_init_115 : decode cX10_init 115 = .ok (.aload_n 0, 1) := by decide +kernel
theorem dX10_init_116 : decode cX10_init 116 = .ok (.iconst (-1), 1) := by decide +kernel
theorem dX10_init_117 : decode cX10_init 117 = .ok (.putfield 54, 3) := by decide +kernel
theorem dX10_init_120 : decode cX10_init 120 = .ok (.aload_n 0, 1) := by decide +kernel
theorem dX10_init_121 : decode cX10_init 121 = .ok (.bipush 64, 2) := by decide +kernel
theorem dX10_init_123 : decode cX10_init 123 = .ok (.newarray .int, 2) := by decide +kernel
theorem dX10_init_125 : decode cX10_init 125 = .ok (.putfield 57, 3) := by decide +kernel
theorem dX10_init_128 : decode cX10_init 128 = .ok (.aload_n 0, 1) := by decide +kernel
theorem dX10_init_129 : decode cX10_init 129 = .ok (.iconst (-1), 1) := by decide +kernel
theorem dX10_init_130 : decode cX10_init 130 = .ok (.putfield 60, 3) := by decide +kernel
theorem dX10_init_133 : decode cX10_init 133 = .ok (.aload_n 0, 1) := by decide +kernel
theorem dX10_init_134 : decode cX10_init 134 = .ok (.bipush 65, 2) := by decide +kernel
theorem dX10_init_136 : decode cX10_init 136 = .ok (.newarray .int, 2) := by decide +kernel
theorem dX10_init_138 : decode cX10_init 138 = .ok (.putfield 63, 3) := by decide +kernel
theorem dX10_init_141 : decode cX10_init 141 = .ok (.aload_n 0, 1) := by decide +kernel
theorem dX10_init_142 : decode cX10_init 142 = .ok (.sipush 200, 3) := by decide +kernel
theorem dX10_init_145 : decode cX10_init 145 = .ok (.newarray .int, 2) := by decide +kernel
theorem dX10_init_147 : decode cX10_init 147 = .ok (.putfield 66, 3) := by decide +kernel
theorem dX10_init_150 : decode cX10_init 150 = .ok (.aload_n 0, 1) := by decide +kernel
theorem dX10_init_151 : decode cX10_init 151 = .ok (.sipush 200, 3) := by decide +kernel
theorem dX10_init_154 : decode cX10_init 154 = .ok (.newarray .int, 2) := by decide +kernel
theorem dX10_init_156 : decode cX10_init 156 = .ok (.putfield 69, 3) := by decide +kernel
theorem dX10_init_159 : decode cX10_init 159 = .ok (.aload_n 0, 1) := by decide +kernel
theorem dX10_init_160 : decode cX10_init 160 = .ok (.bipush 64, 2) := by decide +kernel
theorem dX10_init_162 : decode cX10_init 162 = .ok (.newarray .int, 2) := by decide +kernel
theorem dX10_init_164 : decode cX10_init 164 = .ok (.putfield 72, 3) := by decide +kernel
theorem dX10_init_167 : decode cX10_init 167 = .ok (.aload_n 0, 1) := by decide +kernel
theorem dX10_init_168 : decode cX10_init 168 = .ok (.iload_n 1, 1) := by decide +kernel
theorem dX10_init_169 : decode cX10_init 169 = .ok (.bipush 16, 2) := by decide +kernel
theorem dX10_init_171 : decode cX10_init 171 = .ok (.if_icmp .ne 8, 3) := by decide +kernel
theorem dX10_init_174 : decode cX10_init 174 = .ok (.bipush 16, 2) := by decide +kernel
theorem dX10_init_176 : decode cX10_init 176 = .ok (.goto 5, 3) := by decide +kernel
theorem dX10_init_179 : decode cX10_init 179 = .ok (.bipush 8, 2) := by decide +kernel
theorem dX10_init_181 : decode cX10_init 181 = .ok (.putfield 75, 3) := by decide +kernel
theorem dX10_init_184 : decode cX10_init 184 = .ok (.aload_n 0, 1) := by decide +kernel
theorem dX10_init_185 : decode cX10_init 185 = .ok (.iconst 1, 1) := by decide +kernel
theorem dX10_init_186 : decode cX10_init 186 = .ok (.aload_n 0, 1) := by decide +kernel
theorem dX10_init_187 : decode cX10_init 187 = .ok (.getfield 75, 3) := by decide +kernel
theorem dX10_init_190 : decode cX10_init 190 = .ok (.ishl, 1) := by decide +kernel
theorem dX10_init_191 : decode cX10_init 191 = .ok (.putfield 78, 3) := by decide +kernel
theorem dX10_init_194 : decode cX10_init 194 = .ok (.aload_n 0, 1) := by decide +kernel
theorem dX10_init_195 : decode cX10_init 195 = .ok (.iload_n 2, 1) := by decide +kernel
theorem dX10_init_196 : decode cX10_init 196 = .ok (.aload_n 0, 1) := by decide +kernel
theorem dX10_init_197 : decode cX10_init 197 = .ok (.getfield 78, 3) := by decide +kernel
theorem dX10_init_200 : decode cX10_init 200 = .ok (.iconst 1, 1) := by decide +kernel
theorem dX10_init_201 : decode cX10_init 201 = .ok (.isub, 1) := by decide +kernel
theorem dX10_init_202 : decode cX10_init 202 = .ok (.iand, 1) := by decide +kernel
theorem dX10_init_203 : decode cX10_init 203 = .ok (.putfield 81, 3) := by decide +kernel
theorem dX10_init_206 : decode cX10_init 206 = .ok (.aload_n 0, 1) := by decide +kernel
theorem dX10_init_207 : decode cX10_init 207 = .ok (.aload_n 0, 1) := by decide +kernel
theorem dX10_init_208 : decode cX10_init 208 = .ok (.getfield 78, 3) := by decide +kernel
theorem dX10_init_211 : decode cX10_init 211 = .ok (.aload_n 0, 1) := by decide +kernel
theorem dX10_init_212 : decode cX10_init 212 = .ok (.getfield 81, 3) := by decide +kernel
theorem dX10_init_215 : decode cX10_init 215 = .ok (.ior, 1) := by decide +kernel
theorem dX10_init_216 : decode cX10_init 216 = .ok (.invokevirtual 84, 3) := by decide +kernel
theorem dX10_init_219 : decode cX10_init 219 = .ok (.ifCond .ne 23, 3) := by decide +kernel
theorem dX10_init_222 : decode cX10_init 222 = .ok (.aload_n 0, 1) := by decide +kernel
theorem dX10_init_223 : decode cX10_init 223 = .ok (.aload_n 0, 1) := by decide +kernel
theorem dX10_init_224 : decode cX10_init 224 = .ok (.getfield 81, 3) := by decide +kernel
theorem dX10_init_227 : decode cX10_init 227 = .ok (.iconst 1, 1) := by decide +kernel
theorem dX10_init_228 : decode cX10_init 228 = .ok (.iadd, 1) := by decide +kernel
theorem dX10_init_229 : decode cX10_init 229 = .ok (.aload_n 0, 1) := by decide +kernel
theorem dX10_init_230 : decode cX10_init 230 = .ok (.getfield 78, 3) := by decide +kernel
theorem dX10_init_233 : decode cX10_init 233 = .ok (.iconst 1, 1) := by decide +kernel
theorem dX10_init_234 : decode cX10_init 234 = .ok (.isub, 1) := by decide +kernel
theorem dX10_init_235 : decode cX10_init 235 = .ok (.iand, 1) := by decide +kernel
theorem dX10_init_236 : decode cX10_init 236 = .ok (.putfield 81, 3) := by decide +kernel
theorem dX10_init_239 : decode cX10_init 239 = .ok (.goto (-33), 3) := by decide +kernel
theorem dX10_init_242 : decode cX10_init 242 = .ok (.aload_n 0, 1) := by decide +kernel
theorem dX10_init_243 : decode cX10_init 243 = .ok (.iconst 2, 1) := by decide +kernel
theorem dX10_init_244 : decode cX10_init 244 = .ok (.putfield 88, 3) := by decide +kernel
theorem dX10_init_247 : decode cX10_init 247 = .ok (.aload_n 0, 1) := by decide +kernel
theorem dX10_init_248 : decode cX10_init 248 = .ok (.aload_n 0, 1) := by decide +kernel
theorem dX10_init_249 : decode cX10_init 249 = .ok (.getfield 88, 3) := by decide +kernel
theorem dX10_init_252 : decode cX10_init 252 = .ok (.invokevirtual 91, 3) := by decide +kernel
theorem dX10_init_255 : decode cX10_init 255 = .ok (.aload_n 0, 1) := by decide +kernel
theorem dX10_init_256 : decode cX10_init 256 = .ok (.getfield 78, 3) := by decide +kernel
theorem dX10_init_259 : decode cX10_init 259 = .ok (.iconst 1, 1) := by decide +kernel
theorem dX10_init_260 : decode cX10_init 260 = .ok (.isub, 1) := by decide +kernel
theorem dX10_init_261 : decode cX10_init 261 = .ok (.if_icmp .eq 16, 3) := by decide +kernel
theorem dX10_init_264 : decode cX10_init 264 = .ok (.aload_n 0, 1) := by decide +kernel
theorem dX10_init_265 : decode cX10_init 265 = .ok (.dup, 1) := by decide +kernel
theorem dX10_init_266 : decode cX10_init 266 = .ok (.getfield 88, 3) := by decide +kernel
theorem dX10_init_269 : decode cX10_init 269 = .ok (.iconst 1, 1) := by decide +kernel
theorem dX10_init_270 : decode cX10_init 270 = .ok (.iadd, 1) := by decide +kernel
theorem dX10_init_271 : decode cX10_init 271 = .ok (.putfield 88, 3) := by decide +kernel
theorem dX10_init_274 : decode cX10_init 274 = .ok (.goto (-27), 3) := by decide +kernel
theorem dX10_init_277 : decode cX10_init 277 = .ok (.return_, 1) := by decide +kernel
theorem dX10_isPrime_0 : decode cX10_isPrime 0 = .ok (.iconst 1, 1) := by decide +kernel
theorem dX10_isPrime_1 : decode cX10_isPrime 1 = .ok (.istore_n 2, 1) := by decide +kernel
theorem dX10_isPrime_2 : decode cX10_isPrime 2 = .ok (.iconst 2, 1) := by decide +kernel
theorem dX10_isPrime_3 : decode cX10_isPrime 3 = .ok (.istore_n 3, 1) := by decide +kernel
theorem dX10_isPrime_4 : decode cX10_isPrime 4 = .ok (.iload_n 3, 1) := by decide +kernel
theorem dX10_isPrime_5 : decode cX10_isPrime 5 = .ok (.iconst 2, 1) := by decide +kernel
theorem dX10_isPrime_6 : decode cX10_isPrime 6 = .ok (.aload_n 0, 1) := by decide +kernel
theorem dX10_isPrime_7 : decode cX10_isPrime 7 = .ok (.getfield 75, 3) := by decide +kernel
theorem dX10_isPrime_10 : decode cX10_isPrime 10 = .ok (.iconst 2, 1) := by decide +kernel
theorem dX10_isPrime_11 : decode cX10_isPrime 11 = .ok (.idiv, 1) := by decide +kernel
theorem dX10_isPrime_12 : decode cX10_isPrime 12 = .ok (.ishl, 1) := by decide +kernel
theorem dX10_isPrime_13 : decode cX10_isPrime 13 = .ok (.if_icmp .ge 27, 3) := by decide +kernel
theorem dX10_isPrime_16 : decode cX10_isPrime 16 = .ok (.iload_n 2, 1) := by decide +kernel
theorem dX10_isPrime_17 : decode cX10_isPrime 17 = .ok (.ifCond .eq 23, 3) := by decide +kernel
theorem dX10_isPrime_20 : decode cX10_isPrime 20 = .ok (.iload_n 1, 1) := by decide +kernel
theorem dX10_isPrime_21 : decode cX10_isPrime 21 = .ok (.iload_n 3, 1) := by decide +kernel
theorem dX10_isPrime_22 : decode cX10_isPrime 22 = .ok (.invokestatic 95, 3) := by decide +kernel
theorem dX10_isPrime_25 : decode cX10_isPrime 25 = .ok (.ifCond .eq 7, 3) := by decide +kernel
theorem dX10_isPrime_28 : decode cX10_isPrime 28 = .ok (.iconst 1, 1) := by decide +kernel
theorem dX10_isPrime_29 : decode cX10_isPrime 29 = .ok (.goto 4, 3) := by decide +kernel
theorem dX10_isPrime_32 : decode cX10_isPrime 32 = .ok (.iconst 0, 1) := by decide +kernel
theorem dX10_isPrime_33 : decode cX10_isPrime 33 = .ok (.istore_n 2, 1) := by decide +kernel
theorem dX10_isPrime_34 : decode cX10_isPrime 34 = .ok (.iinc 3 1, 3) := by decide +kernel
theorem dX10_isPrime_37 : decode cX10_isPrime 37 = .ok (.goto (-33), 3) := by decide +kernel
theorem dX10_isPrime_40 : decode cX10_isPrime 40 = .ok (.iload_n 2, 1) := by decide +kernel
theorem dX10_isPrime_41 : decode cX10_isPrime 41 = .ok (.ireturn, 1) := by decide +kernel
theorem dX10_degreeOf_0 : decode cX10_degreeOf 0 = .ok (.iconst (-1), 1) := by decide +kernel
theorem dX10_degreeOf_1 : decode cX10_degreeOf 1 = .ok (.istore_n 1, 1) := by decide +kernel
theorem dX10_degreeOf_2 : decode cX10_degreeOf 2 = .ok (.iconst 0, 1) := by decide +kernel
theorem dX10_degreeOf_3 : decode cX10_degreeOf 3 = .ok (.istore_n 2, 1) := by decide +kernel
theorem dX10_degreeOf_4 : decode cX10_degreeOf 4 = .ok (.iload_n 2, 1) := by decide +kernel
theorem dX10_degreeOf_5 : decode cX10_degreeOf 5 = .ok (.bipush 31, 2) := by decide +kernel
theorem dX10_degreeOf_7 : decode cX10_degreeOf 7 = .ok (.if_icmp .ge 20, 3) := by decide +kernel
theorem dX10_degreeOf_10 : decode cX10_degreeOf 10 = .ok (.iload_n 0, 1) := by decide +kernel
theorem dX10_degreeOf_11 : decode cX10_degreeOf 11 = .ok (.iload_n 2, 1) := by decide +kernel
theorem dX10_degreeOf_12 : decode cX10_degreeOf 12 = .ok (.ishr, 1) := by decide +kernel
theorem dX10_degreeOf_13 : decode cX10_degreeOf 13 = .ok (.iconst 1, 1) := by decide +kernel
theorem dX10_degreeOf_14 : decode cX10_degreeOf 14 = .ok (.iand, 1) := by decide +kernel
theorem dX10_degreeOf_15 : decode cX10_degreeOf 15 = .ok (.iconst 1, 1) := by decide +kernel
theorem dX10_degreeOf_16 : decode cX10_degreeOf 16 = .ok (.if_icmp .ne 5, 3) := by decide +kernel
theorem dX10_degreeOf_19 : decode cX10_degreeOf 19 = .ok (.iload_n 2, 1) := by decide +kernel
theorem dX10_degreeOf_20 : decode cX10_degreeOf 20 = .ok (.istore_n 1, 1) := by decide +kernel
theorem dX10_degreeOf_21 : decode cX10_degreeOf 21 = .ok (.iinc 2 1, 3) := by decide +kernel
theorem dX10_degreeOf_24 : decode cX10_degreeOf 24 = .ok (.goto (-20), 3) := by decide +kernel
theorem dX10_degreeOf_27 : decode cX10_degreeOf 27 = .ok (.iload_n 1, 1) := by decide +kernel
theorem dX10_degreeOf_28 : decode cX10_degreeOf 28 = .ok (.ireturn, 1) := by decide +kernel
theorem dX10_restOf_0 : decode cX10_restOf 0 = .ok (.iload_n 0, 1) := by decide +kernel
theorem dX10_restOf_1 : decode cX10_restOf 1 = .ok (.istore_n 2, 1) := by decide +kernel
theorem dX10_restOf_2 : decode cX10_restOf 2 = .ok (.iload_n 1, 1) := by decide +kernel
theorem dX10_restOf_3 : decode cX10_restOf 3 = .ok (.invokestatic 99, 3) := by decide +kernel
theorem dX10_restOf_6 : decode cX10_restOf 6 = .ok (.istore_n 3, 1) := by decide +kernel
theorem dX10_restOf_7 : decode cX10_restOf 7 = .ok (.bipush 16, 2) := by decide +kernel
theorem dX10_restOf_9 : decode cX10_restOf 9 = .ok (.istore 4, 2) := by decide +kernel
theorem dX10_restOf_11 : decode cX10_restOf 11 = .ok (.iload 4, 2) := by decide +kernel
theorem dX10_restOf_13 : decode cX10_restOf 13 = .ok (.iload_n 3, 1) := by decide +kernel
theorem dX10_restOf_14 : decode cX10_restOf 14 = .ok (.if_icmp .lt 28, 3) := by decide +kernel
theorem dX10_restOf_17 : decode cX10_restOf 17 = .ok (.iload_n 2, 1) := by decide +kernel
theorem dX10_restOf_18 : decode cX10_restOf 18 = .ok (.iload 4, 2) := by decide +kernel
theorem dX10_restOf_20 : decode cX10_restOf 20 = .ok (.ishr, 1) := by decide +kernel
theorem dX10_restOf_21 : decode cX10_restOf 21 = .ok (.iconst 1, 1) := by decide +kernel
theorem dX10_restOf_22 : decode cX10_restOf 22 = .ok (.iand, 1) := by decide +kernel
theorem dX10_restOf_23 : decode cX10_restOf 23 = .ok (.iconst 1, 1) := by decide +kernel
theorem dX10_restOf_24 : decode cX10_restOf 24 = .ok (.if_icmp .ne 12, 3) := by decide +kernel
theorem dX10_restOf_27 : decode cX10_restOf 27 = .ok (.iload_n 2, 1) := by decide +kernel
theorem dX10_restOf_28 : decode cX10_restOf 28 = .ok (.iload_n 1, 1) := by decide +kernel
theorem dX10_restOf_29 : decode cX10_restOf 29 = .ok (.iload 4, 2) := by decide +kernel
theorem dX10_restOf_31 : decode cX10_restOf 31 = .ok (.iload_n 3, 1) := by decide +kernel
theorem dX10_restOf_32 : decode cX10_restOf 32 = .ok (.isub, 1) := by decide +kernel
theorem dX10_restOf_33 : decode cX10_restOf 33 = .ok (.ishl, 1) := by decide +kernel
theorem dX10_restOf_34 : decode cX10_restOf 34 = .ok (.ixor, 1) := by decide +kernel
theorem dX10_restOf_35 : decode cX10_restOf 35 = .ok (.istore_n 2, 1) := by decide +kernel
theorem dX10_restOf_36 : decode cX10_restOf 36 = .ok (.iinc 4 (-1), 3) := by decide +kernel
theorem dX10_restOf_39 : decode cX10_restOf 39 = .ok (.goto (-28), 3) := by decide +kernel
theorem dX10_restOf_42 : decode cX10_restOf 42 = .ok (.iload_n 2, 1) := by decide +kernel
theorem dX10_restOf_43 : decode cX10_restOf 43 = .ok (.ireturn, 1) := by decide +kernel
theorem dX10_isMember_0 : decode cX10_isMember 0 = .ok (.iload_n 1, 1) := by decide +kernel
theorem dX10_isMember_1 : decode cX10_isMember 1 = .ok (.ifCond .lt 15, 3) := by decide +kernel
theorem dX10_isMember_4 : decode cX10_isMember 4 = .ok (.iload_n 1, 1) := by decide +kernel
theorem dX10_isMember_5 : decode cX10_isMember 5 = .ok (.aload_n 0, 1) := by decide +kernel
theorem dX10_isMember_6 : decode cX10_isMember 6 = .ok (.getfield 78, 3) := by decide +kernel
theorem dX10_isMember_9 : decode cX10_isMember 9 = .ok (.if_icmp .ge 7, 3) := by decide +kernel
theorem dX10_isMember_12 : decode cX10_isMember 12 = .ok (.iconst 1, 1) := by decide +kernel
theorem dX10_isMember_13 : decode cX10_isMember 13 = .ok (.goto 4, 3) := by decide +kernel
theorem dX10_isMember_16 : decode cX10_isMember 16 = .ok (.iconst 0, 1) := by decide +kernel
theorem dX10_isMember_17 : decode cX10_isMember 17 = .ok (.ireturn, 1) := by decide +kernel
theorem dX10_mul_0 : decode cX10_mul 0 = .ok (.iconst 0, 1) := by decide +kernel
theorem dX10_mul_1 : decode cX10_mul 1 = .ok (.istore_n 3, 1) := by decide +kernel
theorem dX10_mul_2 : decode cX10_mul 2 = .ok (.iload_n 1, 1) := by decide +kernel
theorem dX10_mul_3 : decode cX10_mul 3 = .ok (.istore 4, 2) := by decide +kernel
theorem dX10_mul_5 : decode cX10_mul 5 = .ok (.iload_n 2, 1) := by decide +kernel
theorem dX10_mul_6 : decode cX10_mul 6 = .ok (.istore 5, 2) := by decide +kernel
theorem dX10_mul_8 : decode cX10_mul 8 = .ok (.iload 5, 2) := by decide +kernel
theorem dX10_mul_10 : decode cX10_mul 10 = .ok (.ifCond .le 55, 3) := by decide +kernel
theorem dX10_mul_13 : decode cX10_mul 13 = .ok (.iload 5, 2) := by decide +kernel
theorem dX10_mul_15 : decode cX10_mul 15 = .ok (.iconst 1, 1) := by decide +kernel
theorem dX10_mul_16 : decode cX10_mul 16 = .ok (.iand, 1) := by decide +kernel
theorem dX10_mul_17 : decode cX10_mul 17 = .ok (.iconst 1, 1) := by decide +kernel
theorem dX10_mul_18 : decode cX10_mul 18 = .ok (.if_icmp .ne 8, 3) := by decide +kernel
theorem dX10_mul_21 : decode cX10_mul 21 = .ok (.iload_n 3, 1) := by decide +kernel
theorem dX10_mul_22 : decode cX10_mul 22 = .ok (.iload 4, 2) := by decide +kernel
theorem dX10_mul_24 : decode cX10_mul 24 = .ok (.ixor, 1) := by decide +kernel
theorem dX10_mul_25 : decode cX10_mul 25 = .ok (.istore_n 3, 1) := by decide +kernel
theorem dX10_mul_26 : decode cX10_mul 26 = .ok (.iload 4, 2) := by decide +kernel
theorem dX10_mul_28 : decode cX10_mul 28 = .ok (.iconst 1, 1) := by decide +kernel
theorem dX10_mul_29 : decode cX10_mul 29 = .ok (.ishl, 1) := by decide +kernel
theorem dX10_mul_30 : decode cX10_mul 30 = .ok (.istore 4, 2) := by decide +kernel
theorem dX10_mul_32 : decode cX10_mul 32 = .ok (.iload 4, 2) := by decide +kernel
theorem dX10_mul_34 : decode cX10_mul 34 = .ok (.aload_n 0, 1) := by decide +kernel
theorem dX10_mul_35 : decode cX10_mul 35 = .ok (.getfield 78, 3) := by decide +kernel
theorem dX10_mul_38 : decode cX10_mul 38 = .ok (.iand, 1) := by decide +kernel
theorem dX10_mul_39 : decode cX10_mul 39 = .ok (.ifCond .eq 17, 3) := by decide +kernel
theorem dX10_mul_42 : decode cX10_mul 42 = .ok (.iload 4, 2) := by decide +kernel
theorem dX10_mul_44 : decode cX10_mul 44 = .ok (.aload_n 0, 1) := by decide +kernel
theorem dX10_mul_45 : decode cX10_mul 45 = .ok (.getfield 78, 3) := by decide +kernel
theorem dX10_mul_48 : decode cX10_mul 48 = .ok (.aload_n 0, 1) := by decide +kernel
theorem dX10_mul_49 : decode cX10_mul 49 = .ok (.getfield 81, 3) := by decide +kernel
theorem dX10_mul_52 : decode cX10_mul 52 = .ok (.ior, 1) := by decide +kernel
theorem dX10_mul_53 : decode cX10_mul 53 = .ok (.ixor, 1) := by decide +kernel
theorem dX10_mul_54 : decode cX10_mul 54 = .ok (.istore 4, 2) := by decide +kernel
theorem dX10_mul_56 : decode cX10_mul 56 = .ok (.iload 5, 2) := by decide +kernel
theorem dX10_mul_58 : decode cX10_mul 58 = .ok (.iconst 1, 1) := by decide +kernel
theorem dX10_mul_59 : decode cX10_mul 59 = .ok (.ishr, 1) := by decide +kernel
theorem dX10_mul_60 : decode cX10_mul 60 = .ok (.istore 5, 2) := by decide +kernel
theorem dX10_mul_62 : decode cX10_mul 62 = .ok (.goto (-54), 3) := by decide +kernel
theorem dX10_mul_65 : decode cX10_mul 65 = .ok (.iload_n 3, 1) := by decide +kernel
theorem dX10_mul_66 : decode cX10_mul 66 = .ok (.ireturn, 1) := by decide +kernel
theorem dX10_raised_0 : decode cX10_raised 0 = .ok (.iconst 1, 1) := by decide +kernel
theorem dX10_raised_1 : decode cX10_raised 1 = .ok (.istore_n 3, 1) := by decide +kernel
theorem dX10_raised_2 : decode cX10_raised 2 = .ok (.iload_n 1, 1) := by decide +kernel
theorem dX10_raised_3 : decode cX10_raised 3 = .ok (.istore 4, 2) := by decide +kernel
theorem dX10_raised_5 : decode cX10_raised 5 = .ok (.iload_n 2, 1) := by decide +kernel
theorem dX10_raised_6 : decode cX10_raised 6 = .ok (.istore 5, 2) := by decide +kernel
theorem dX10_raised_8 : decode cX10_raised 8 = .ok (.iload 5, 2) := by decide +kernel
theorem dX10_raised_10 : decode cX10_raised 10 = .ok (.ifCond .le 38, 3) := by decide +kernel
theorem dX10_raised_13 : decode cX10_raised 13 = .ok (.iload 5, 2) := by decide +kernel
theorem dX10_raised_15 : decode cX10_raised 15 = .ok (.iconst 1, 1) := by decide +kernel
theorem dX10_raised_16 : decode cX10_raised 16 = .ok (.iand, 1) := by decide +kernel
theorem dX10_raised_17 : decode cX10_raised 17 = .ok (.iconst 1, 1) := by decide +kernel
theorem dX10_raised_18 : decode cX10_raised 18 = .ok (.if_icmp .ne 11, 3) := by decide +kernel
theorem dX10_raised_21 : decode cX10_raised 21 = .ok (.aload_n 0, 1) := by decide +kernel
theorem dX10_raised_22 : decode cX10_raised 22 = .ok (.iload_n 3, 1) := by decide +kernel
theorem dX10_raised_23 : decode cX10_raised 23 = .ok (.iload 4, 2) := by decide +kernel
theorem dX10_raised_25 : decode cX10_raised 25 = .ok (.invokevirtual 102, 3) := by decide +kernel
theorem dX10_raised_28 : decode cX10_raised 28 = .ok (.istore_n 3, 1) := by decide +kernel
theorem dX10_raised_29 : decode cX10_raised 29 = .ok (.aload_n 0, 1) := by decide +kernel
theorem dX10_raised_30 : decode cX10_raised 30 = .ok (.iload 4, 2) := by decide +kernel
theorem dX10_raised_32 : decode cX10_raised 32 = .ok (.iload 4, 2) := by decide +kernel
theorem dX10_raised_34 : decode cX10_raised 34 = .ok (.invokevirtual 102, 3) := by decide +kernel
theorem dX10_raised_37 : decode cX10_raised 37 = .ok (.istore 4, 2) := by decide +kernel
theorem dX10_raised_39 : decode cX10_raised 39 = .ok (.iload 5, 2) := by decide +kernel
theorem dX10_raised_41 : decode cX10_raised 41 = .ok (.iconst 1, 1) := by decide +kernel
theorem dX10_raised_42 : decode cX10_raised 42 = .ok (.ishr, 1) := by decide +kernel
theorem dX10_raised_43 : decode cX10_raised 43 = .ok (.istore 5, 2) := by decide +kernel
theorem dX10_raised_45 : decode cX10_raised 45 = .ok (.goto (-37), 3) := by decide +kernel
theorem dX10_raised_48 : decode cX10_raised 48 = .ok (.iload_n 3, 1) := by decide +kernel
theorem dX10_raised_49 : decode cX10_raised 49 = .ok (.ireturn, 1) := by decide +kernel
theorem dX10_inverse_0 : decode cX10_inverse 0 = .ok (.aload_n 0, 1) := by decide +kernel
theorem dX10_inverse_1 : decode cX10_inverse 1 = .ok (.iload_n 1, 1) := by decide +kernel
theorem dX10_inverse_2 : decode cX10_inverse 2 = .ok (.aload_n 0, 1) := by decide +kernel
theorem dX10_inverse_3 : decode cX10_inverse 3 = .ok (.getfield 78, 3) := by decide +kernel
theorem dX10_inverse_6 : decode cX10_inverse 6 = .ok (.iconst 2, 1) := by decide +kernel
theorem dX10_inverse_7 : decode cX10_inverse 7 = .ok (.isub, 1) := by decide +kernel
theorem dX10_inverse_8 : decode cX10_inverse 8 = .ok (.invokevirtual 105, 3) := by decide +kernel
theorem dX10_inverse_11 : decode cX10_inverse 11 = .ok (.ireturn, 1) := by decide +kernel
theorem dX10_factor_0 : decode cX10_factor 0 = .ok (.iload_n 0, 1) := by decide +kernel
theorem dX10_factor_1 : decode cX10_factor 1 = .ok (.ifCond .ne 7, 3) := by decide +kernel
theorem dX10_factor_4 : decode cX10_factor 4 = .ok (.iconst 3, 1) := by decide +kernel
theorem dX10_factor_5 : decode cX10_factor 5 = .ok (.goto 25, 3) := by decide +kernel
theorem dX10_factor_8 : decode cX10_factor 8 = .ok (.iload_n 0, 1) := by decide +kernel
theorem dX10_factor_9 : decode cX10_factor 9 = .ok (.iconst 1, 1) := by decide +kernel
theorem dX10_factor_10 : decode cX10_factor 10 = .ok (.if_icmp .ne 7, 3) := by decide +kernel
theorem dX10_factor_13 : decode cX10_factor 13 = .ok (.iconst 5, 1) := by decide +kernel
theorem dX10_factor_14 : decode cX10_factor 14 = .ok (.goto 16, 3) := by decide +kernel
theorem dX10_factor_17 : decode cX10_factor 17 = .ok (.iload_n 0, 1) := by decide +kernel
theorem dX10_factor_18 : decode cX10_factor 18 = .ok (.iconst 2, 1) := by decide +kernel
theorem dX10_factor_19 : decode cX10_factor 19 = .ok (.if_icmp .ne 8, 3) := by decide +kernel
theorem dX10_factor_22 : decode cX10_factor 22 = .ok (.bipush 17, 2) := by decide +kernel
theorem dX10_factor_24 : decode cX10_factor 24 = .ok (.goto 6, 3) := by decide +kernel
theorem dX10_factor_27 : decode cX10_factor 27 = .ok (.sipush 257, 3) := by decide +kernel
theorem dX10_factor_30 : decode cX10_factor 30 = .ok (.ireturn, 1) := by decide +kernel
theorem dX10_factors_0 : decode cX10_factors 0 = .ok (.aload_n 0, 1) := by decide +kernel
theorem dX10_factors_1 : decode cX10_factors 1 = .ok (.getfield 75, 3) := by decide +kernel
theorem dX10_factors_4 : decode cX10_factors 4 = .ok (.bipush 8, 2) := by decide +kernel
theorem dX10_factors_6 : decode cX10_factors 6 = .ok (.if_icmp .ne 7, 3) := by decide +kernel
theorem dX10_factors_9 : decode cX10_factors 9 = .ok (.iconst 3, 1) := by decide +kernel
theorem dX10_factors_10 : decode cX10_factors 10 = .ok (.goto 4, 3) := by decide +kernel
theorem dX10_factors_13 : decode cX10_factors 13 = .ok (.iconst 4, 1) := by decide +kernel
theorem dX10_factors_14 : decode cX10_factors 14 = .ok (.ireturn, 1) := by decide +kernel
theorem dX10_orderOf_0 : decode cX10_orderOf 0 = .ok (.aload_n 0, 1) := by decide +kernel
theorem dX10_orderOf_1 : decode cX10_orderOf 1 = .ok (.getfield 78, 3) := by decide +kernel
theorem dX10_orderOf_4 : decode cX10_orderOf 4 = .ok (.iconst 1, 1) := by decide +kernel
theorem dX10_orderOf_5 : decode cX10_orderOf 5 = .ok (.isub, 1) := by decide +kernel
theorem dX10_orderOf_6 : decode cX10_orderOf 6 = .ok (.istore_n 2, 1) := by decide +kernel
theorem dX10_orderOf_7 : decode cX10_orderOf 7 = .ok (.iconst 0, 1) := by decide +kernel
theorem dX10_orderOf_8 : decode cX10_orderOf 8 = .ok (.istore_n 3, 1) := by decide +kernel
theorem dX10_orderOf_9 : decode cX10_orderOf 9 = .ok (.iload_n 3, 1) := by decide +kernel
theorem dX10_orderOf_10 : decode cX10_orderOf 10 = .ok (.aload_n 0, 1) := by decide +kernel
theorem dX10_orderOf_11 : decode cX10_orderOf 11 = .ok (.invokevirtual 108, 3) := by decide +kernel
theorem dX10_orderOf_14 : decode cX10_orderOf 14 = .ok (.if_icmp .ge 31, 3) := by decide +kernel
theorem dX10_orderOf_17 : decode cX10_orderOf 17 = .ok (.aload_n 0, 1) := by decide +kernel
theorem dX10_orderOf_18 : decode cX10_orderOf 18 = .ok (.iload_n 1, 1) := by decide +kernel
theorem dX10_orderOf_19 : decode cX10_orderOf 19 = .ok (.iload_n 2, 1) := by decide +kernel
theorem dX10_orderOf_20 : decode cX10_orderOf 20 = .ok (.iload_n 3, 1) := by decide +kernel
theorem dX10_orderOf_21 : decode cX10_orderOf 21 = .ok (.invokestatic 112, 3) := by decide +kernel
theorem dX10_orderOf_24 : decode cX10_orderOf 24 = .ok (.idiv, 1) := by decide +kernel
theorem dX10_orderOf_25 : decode cX10_orderOf 25 = .ok (.invokevirtual 105, 3) := by decide +kernel
theorem dX10_orderOf_28 : decode cX10_orderOf 28 = .ok (.iconst 1, 1) := by decide +kernel
theorem dX10_orderOf_29 : decode cX10_orderOf 29 = .ok (.if_icmp .ne 10, 3) := by decide +kernel
theorem dX10_orderOf_32 : decode cX10_orderOf 32 = .ok (.iload_n 2, 1) := by decide +kernel
theorem dX10_orderOf_33 : decode cX10_orderOf 33 = .ok (.iload_n 3, 1) := by decide +kernel
theorem dX10_orderOf_34 : decode cX10_orderOf 34 = .ok (.invokestatic 112, 3) := by decide +kernel
theorem dX10_orderOf_37 : decode cX10_orderOf 37 = .ok (.idiv, 1) := by decide +kernel
theorem dX10_orderOf_38 : decode cX10_orderOf 38 = .ok (.istore_n 2, 1) := by decide +kernel
theorem dX10_orderOf_39 : decode cX10_orderOf 39 = .ok (.iinc 3 1, 3) := by decide +kernel
theorem dX10_orderOf_42 : decode cX10_orderOf 42 = .ok (.goto (-33), 3) := by decide +kernel
theorem dX10_orderOf_45 : decode cX10_orderOf 45 = .ok (.iload_n 2, 1) := by decide +kernel
theorem dX10_orderOf_46 : decode cX10_orderOf 46 = .ok (.ireturn, 1) := by decide +kernel
theorem dX10_poly_0 : decode cX10_poly 0 = .ok (.aload_n 0, 1) := by decide +kernel
theorem dX10_poly_1 : decode cX10_poly 1 = .ok (.iconst 0, 1) := by decide +kernel
theorem dX10_poly_2 : decode cX10_poly 2 = .ok (.putfield 1, 3) := by decide +kernel
theorem dX10_poly_5 : decode cX10_poly 5 = .ok (.aload_n 0, 1) := by decide +kernel
theorem dX10_poly_6 : decode cX10_poly 6 = .ok (.getfield 81, 3) := by decide +kernel
theorem dX10_poly_9 : decode cX10_poly 9 = .ok (.ireturn, 1) := by decide +kernel
theorem dX10_generator_0 : decode cX10_generator 0 = .ok (.aload_n 0, 1) := by decide +kernel
theorem dX10_generator_1 : decode cX10_generator 1 = .ok (.iconst 0, 1) := by decide +kernel
theorem dX10_generator_2 : decode cX10_generator 2 = .ok (.putfield 1, 3) := by decide +kernel
theorem dX10_generator_5 : decode cX10_generator 5 = .ok (.aload_n 0, 1) := by decide +kernel
theorem dX10_generator_6 : decode cX10_generator 6 = .ok (.getfield 88, 3) := by decide +kernel
theorem dX10_generator_9 : decode cX10_generator 9 = .ok (.ireturn, 1) := by decide +kernel
theorem dX10_product_0 : decode cX10_product 0 = .ok (.aload_n 0, 1) := by decide +kernel
theorem dX10_product_1 : decode cX10_product 1 = .ok (.iconst 0, 1) := by decide +kernel
theorem dX10_product_2 : decode cX10_product 2 = .ok (.putfield 1, 3) := by decide +kernel
theorem dX10_product_5 : decode cX10_product 5 = .ok (.aload_n 0, 1) := by decide +kernel
theorem dX10_product_6 : decode cX10_product 6 = .ok (.iload_n 1, 1) := by decide +kernel
theorem dX10_product_7 : decode cX10_product 7 = .ok (.invokevirtual 115, 3) := by decide +kernel
theorem dX10_product_10 : decode cX10_product 10 = .ok (.ifCond .eq 20, 3) := by decide +kernel
theorem dX10_product_13 : decode cX10_product 13 = .ok (.aload_n 0, 1) := by decide +kernel
theorem dX10_product_14 : decode cX10_product 14 = .ok (.iload_n 2, 1) := by decide +kernel
theorem dX10_product_15 : decode cX10_product 15 = .ok (.invokevirtual 115, 3) := by decide +kernel
theorem dX10_product_18 : decode cX10_product 18 = .ok (.ifCond .eq 12, 3) := by decide +kernel
theorem dX10_product_21 : decode cX10_product 21 = .ok (.aload_n 0, 1) := by decide +kernel
theorem dX10_product_22 : decode cX10_product 22 = .ok (.iload_n 1, 1) := by decide +kernel
theorem dX10_product_23 : decode cX10_product 23 = .ok (.iload_n 2, 1) := by decide +kernel
theorem dX10_product_24 : decode cX10_product 24 = .ok (.invokevirtual 102, 3) := by decide +kernel
theorem dX10_product_27 : decode cX10_product 27 = .ok (.goto 8, 3) := by decide +kernel
theorem dX10_product_30 : decode cX10_product 30 = .ok (.aload_n 0, 1) := by decide +kernel
theorem dX10_product_31 : decode cX10_product 31 = .ok (.iconst 1, 1) := by decide +kernel
theorem dX10_product_32 : decode cX10_product 32 = .ok (.invokevirtual 118, 3) := by decide +kernel
theorem dX10_product_35 : decode cX10_product 35 = .ok (.ireturn, 1) := by decide +kernel
theorem dX10_quotient_0 : decode cX10_quotient 0 = .ok (.aload_n 0, 1) := by decide +kernel
theorem dX10_quotient_1 : decode cX10_quotient 1 = .ok (.iconst 0, 1) := by decide +kernel
theorem dX10_quotient_2 : decode cX10_quotient 2 = .ok (.putfield 1, 3) := by decide +kernel
theorem dX10_quotient_5 : decode cX10_quotient 5 = .ok (.aload_n 0, 1) := by decide +kernel
theorem dX10_quotient_6 : decode cX10_quotient 6 = .ok (.iload_n 1, 1) := by decide +kernel
theorem dX10_quotient_7 : decode cX10_quotient 7 = .ok (.invokevirtual 115, 3) := by decide +kernel
theorem dX10_quotient_10 : decode cX10_quotient 10 = .ok (.ifCond .eq 11, 3) := by decide +kernel
theorem dX10_quotient_13 : decode cX10_quotient 13 = .ok (.aload_n 0, 1) := by decide +kernel
theorem dX10_quotient_14 : decode cX10_quotient 14 = .ok (.iload_n 2, 1) := by decide +kernel
theorem dX10_quotient_15 : decode cX10_quotient 15 = .ok (.invokevirtual 115, 3) := by decide +kernel
theorem dX10_quotient_18 : decode cX10_quotient 18 = .ok (.ifCond .ne 9, 3) := by decide +kernel
theorem dX10_quotient_21 : decode cX10_quotient 21 = .ok (.aload_n 0, 1) := by decide +kernel
theorem dX10_quotient_22 : decode cX10_quotient 22 = .ok (.iconst 1, 1) := by decide +kernel
theorem dX10_quotient_23 : decode cX10_quotient 23 = .ok (.invokevirtual 118, 3) := by decide +kernel
theorem dX10_quotient_26 : decode cX10_quotient 26 = .ok (.ireturn, 1) := by decide +kernel
theorem dX10_quotient_27 : decode cX10_quotient 27 = .ok (.iload_n 2, 1) := by decide +kernel
theorem dX10_quotient_28 : decode cX10_quotient 28 = .ok (.ifCond .ne 11, 3) := by decide +kernel
theorem dX10_quotient_31 : decode cX10_quotient 31 = .ok (.aload_n 0, 1) := by decide +kernel
theorem dX10_quotient_32 : decode cX10_quotient 32 = .ok (.iconst 2, 1) := by decide +kernel
theorem dX10_quotient_33 : decode cX10_quotient 33 = .ok (.invokevirtual 118, 3) := by decide +kernel
theorem dX10_quotient_36 : decode cX10_quotient 36 = .ok (.goto 13, 3) := by decide +kernel
theorem dX10_quotient_39 : decode cX10_quotient 39 = .ok (.aload_n 0, 1) := by decide +kernel
theorem dX10_quotient_40 : decode cX10_quotient 40 = .ok (.iload_n 1, 1) := by decide +kernel
theorem dX10_quotient_41 : decode cX10_quotient 41 = .ok (.aload_n 0, 1) := by decide +kernel
theorem dX10_quotient_42 : decode cX10_quotient 42 = .ok (.iload_n 2, 1) := by decide +kernel
theorem dX10_quotient_43 : decode cX10_quotient 43 = .ok (.invokevirtual 121, 3) := by decide +kernel
theorem dX10_quotient_46 : decode cX10_quotient 46 = .ok (.invokevirtual 102, 3) := by decide +kernel
theorem dX10_quotient_49 : decode cX10_quotient 49 = .ok (.ireturn, 1) := by decide +kernel
theorem dX10_power_0 : decode cX10_power 0 = .ok (.aload_n 0, 1) := by decide +kernel
theorem dX10_power_1 : decode cX10_power 1 = .ok (.iconst 0, 1) := by decide +kernel
theorem dX10_power_2 : decode cX10_power 2 = .ok (.putfield 1, 3) := by decide +kernel
theorem dX10_power_5 : decode cX10_power 5 = .ok (.aload_n 0, 1) := by decide +kernel
theorem dX10_power_6 : decode cX10_power 6 = .ok (.iload_n 1, 1) := by decide +kernel
theorem dX10_power_7 : decode cX10_power 7 = .ok (.invokevirtual 115, 3) := by decide +kernel
theorem dX10_power_10 : decode cX10_power 10 = .ok (.ifCond .ne 9, 3) := by decide +kernel
theorem dX10_power_13 : decode cX10_power 13 = .ok (.aload_n 0, 1) := by decide +kernel
theorem dX10_power_14 : decode cX10_power 14 = .ok (.iconst 1, 1) := by decide +kernel
theorem dX10_power_15 : decode cX10_power 15 = .ok (.invokevirtual 118, 3) := by decide +kernel
theorem dX10_power_18 : decode cX10_power 18 = .ok (.ireturn, 1) := by decide +kernel
theorem dX10_power_19 : decode cX10_power 19 = .ok (.iload_n 1, 1) := by decide +kernel
theorem dX10_power_20 : decode cX10_power 20 = .ok (.ifCond .ne 29, 3) := by decide +kernel
theorem dX10_power_23 : decode cX10_power 23 = .ok (.lload_n 2, 1) := by decide +kernel
theorem dX10_power_24 : decode cX10_power 24 = .ok (.lconst 0, 1) := by decide +kernel
theorem dX10_power_25 : decode cX10_power 25 = .ok (.lcmp, 1) := by decide +kernel
theorem dX10_power_26 : decode cX10_power 26 = .ok (.ifCond .ge 11, 3) := by decide +kernel
theorem dX10_power_29 : decode cX10_power 29 = .ok (.aload_n 0, 1) := by decide +kernel
theorem dX10_power_30 : decode cX10_power 30 = .ok (.iconst 2, 1) := by decide +kernel
theorem dX10_power_31 : decode cX10_power 31 = .ok (.invokevirtual 118, 3) := by decide +kernel
theorem dX10_power_34 : decode cX10_power 34 = .ok (.goto 14, 3) := by decide +kernel
theorem dX10_power_37 : decode cX10_power 37 = .ok (.lload_n 2, 1) := by decide +kernel
theorem dX10_power_38 : decode cX10_power 38 = .ok (.lconst 0, 1) := by decide +kernel
theorem dX10_power_39 : decode cX10_power 39 = .ok (.lcmp, 1) := by decide +kernel
theorem dX10_power_40 : decode cX10_power 40 = .ok (.ifCond .ne 7, 3) := by decide +kernel
theorem dX10_power_43 : decode cX10_power 43 = .ok (.iconst 1, 1) := by decide +kernel
theorem dX10_power_44 : decode cX10_power 44 = .ok (.goto 4, 3) := by decide +kernel
theorem dX10_power_47 : decode cX10_power 47 = .ok (.iconst 0, 1) := by decide +kernel
theorem dX10_power_48 : decode cX10_power 48 = .ok (.ireturn, 1) := by decide +kernel
theorem dX10_power_49 : decode cX10_power 49 = .ok (.lload_n 2, 1) := by decide +kernel
theorem dX10_power_50 : decode cX10_power 50 = .ok (.aload_n 0, 1) := by decide +kernel
theorem dX10_power_51 : decode cX10_power 51 = .ok (.getfield 78, 3) := by decide +kernel
theorem dX10_power_54 : decode cX10_power 54 = .ok (.iconst 1, 1) := by decide +kernel
theorem dX10_power_55 : decode cX10_power 55 = .ok (.isub, 1) := by decide +kernel
theorem dX10_power_56 : decode cX10_power 56 = .ok (.i2l, 1) := by decide +kernel
theorem dX10_power_57 : decode cX10_power 57 = .ok (.lrem, 1) := by decide +kernel
theorem dX10_power_58 : decode cX10_power 58 = .ok (.lstore 4, 2) := by decide +kernel
theorem dX10_power_60 : decode cX10_power 60 = .ok (.aload_n 0, 1) := by decide +kernel
theorem dX10_power_61 : decode cX10_power 61 = .ok (.iload_n 1, 1) := by decide +kernel
theorem dX10_power_62 : decode cX10_power 62 = .ok (.lload 4, 2) := by decide +kernel
theorem dX10_power_64 : decode cX10_power 64 = .ok (.lconst 0, 1) := by decide +kernel
theorem dX10_power_65 : decode cX10_power 65 = .ok (.lcmp, 1) := by decide +kernel
theorem dX10_power_66 : decode cX10_power 66 = .ok (.ifCond .ge 16, 3) := by decide +kernel
theorem dX10_power_69 : decode cX10_power 69 = .ok (.lload 4, 2) := by decide +kernel
theorem dX10_power_71 : decode cX10_power 71 = .ok (.aload_n 0, 1) := by decide +kernel
theorem dX10_power_72 : decode cX10_power 72 = .ok (.getfield 78, 3) := by decide +kernel
theorem dX10_power_75 : decode cX10_power 75 = .ok (.i2l, 1) := by decide +kernel
theorem dX10_power_76 : decode cX10_power 76 = .ok (.ladd, 1) := by decide +kernel
theorem dX10_power_77 : decode cX10_power 77 = .ok (.lconst 1, 1) := by decide +kernel
theorem dX10_power_78 : decode cX10_power 78 = .ok (.lsub, 1) := by decide +kernel
theorem dX10_power_79 : decode cX10_power 79 = .ok (.goto 5, 3) := by decide +kernel
theorem dX10_power_82 : decode cX10_power 82 = .ok (.lload 4, 2) := by decide +kernel
theorem dX10_power_84 : decode cX10_power 84 = .ok (.l2i, 1) := by decide +kernel
theorem dX10_power_85 : decode cX10_power 85 = .ok (.invokevirtual 105, 3) := by decide +kernel
theorem dX10_power_88 : decode cX10_power 88 = .ok (.ireturn, 1) := by decide +kernel
theorem dX10_log_0 : decode cX10_log 0 = .ok (.aload_n 0, 1) := by decide +kernel
theorem dX10_log_1 : decode cX10_log 1 = .ok (.iconst 0, 1) := by decide +kernel
theorem dX10_log_2 : decode cX10_log 2 = .ok (.putfield 1, 3) := by decide +kernel
theorem dX10_log_5 : decode cX10_log 5 = .ok (.aload_n 0, 1) := by decide +kernel
theorem dX10_log_6 : decode cX10_log 6 = .ok (.iload_n 1, 1) := by decide +kernel
theorem dX10_log_7 : decode cX10_log 7 = .ok (.invokevirtual 115, 3) := by decide +kernel
theorem dX10_log_10 : decode cX10_log 10 = .ok (.ifCond .ne 9, 3) := by decide +kernel
theorem dX10_log_13 : decode cX10_log 13 = .ok (.aload_n 0, 1) := by decide +kernel
theorem dX10_log_14 : decode cX10_log 14 = .ok (.iconst 1, 1) := by decide +kernel
theorem dX10_log_15 : decode cX10_log 15 = .ok (.invokevirtual 118, 3) := by decide +kernel
theorem dX10_log_18 : decode cX10_log 18 = .ok (.ireturn, 1) := by decide +kernel
theorem dX10_log_19 : decode cX10_log 19 = .ok (.iload_n 1, 1) := by decide +kernel
theorem dX10_log_20 : decode cX10_log 20 = .ok (.ifCond .ne 9, 3) := by decide +kernel
theorem dX10_log_23 : decode cX10_log 23 = .ok (.aload_n 0, 1) := by decide +kernel
theorem dX10_log_24 : decode cX10_log 24 = .ok (.iconst 2, 1) := by decide +kernel
theorem dX10_log_25 : decode cX10_log 25 = .ok (.invokevirtual 118, 3) := by decide +kernel
theorem dX10_log_28 : decode cX10_log 28 = .ok (.ireturn, 1) := by decide +kernel
theorem dX10_log_29 : decode cX10_log 29 = .ok (.aload_n 0, 1) := by decide +kernel
theorem dX10_log_30 : decode cX10_log 30 = .ok (.getfield 78, 3) := by decide +kernel
theorem dX10_log_33 : decode cX10_log 33 = .ok (.iconst 1, 1) := by decide +kernel
theorem dX10_log_34 : decode cX10_log 34 = .ok (.isub, 1) := by decide +kernel
theorem dX10_log_35 : decode cX10_log 35 = .ok (.istore_n 2, 1) := by decide +kernel
theorem dX10_log_36 : decode cX10_log 36 = .ok (.iconst 0, 1) := by decide +kernel
theorem dX10_log_37 : decode cX10_log 37 = .ok (.istore_n 3, 1) := by decide +kernel
theorem dX10_log_38 : decode cX10_log 38 = .ok (.iconst 1, 1) := by decide +kernel
theorem dX10_log_39 : decode cX10_log 39 = .ok (.istore 4, 2) := by decide +kernel
theorem dX10_log_41 : decode cX10_log 41 = .ok (.iconst 0, 1) := by decide +kernel
theorem dX10_log_42 : decode cX10_log 42 = .ok (.istore 5, 2) := by decide +kernel
theorem dX10_log_44 : decode cX10_log 44 = .ok (.iload 5, 2) := by decide +kernel
theorem dX10_log_46 : decode cX10_log 46 = .ok (.aload_n 0, 1) := by decide +kernel
theorem dX10_log_47 : decode cX10_log 47 = .ok (.invokevirtual 108, 3) := by decide +kernel
theorem dX10_log_50 : decode cX10_log 50 = .ok (.if_icmp .ge 94, 3) := by decide +kernel
theorem dX10_log_53 : decode cX10_log 53 = .ok (.iload 5, 2) := by decide +kernel
theorem dX10_log_55 : decode cX10_log 55 = .ok (.invokestatic 112, 3) := by decide +kernel
theorem dX10_log_58 : decode cX10_log 58 = .ok (.istore 6, 2) := by decide +kernel
theorem dX10_log_60 : decode cX10_log 60 = .ok (.aload_n 0, 1) := by decide +kernel
theorem dX10_log_61 : decode cX10_log 61 = .ok (.iload_n 1, 1) := by decide +kernel
theorem dX10_log_62 : decode cX10_log 62 = .ok (.iload_n 2, 1) := by decide +kernel
theorem dX10_log_63 : decode cX10_log 63 = .ok (.iload 6, 2) := by decide +kernel
theorem dX10_log_65 : decode cX10_log 65 = .ok (.idiv, 1) := by decide +kernel
theorem dX10_log_66 : decode cX10_log 66 = .ok (.invokevirtual 105, 3) := by decide +kernel
theorem dX10_log_69 : decode cX10_log 69 = .ok (.istore 7, 2) := by decide +kernel
theorem dX10_log_71 : decode cX10_log 71 = .ok (.aload_n 0, 1) := by decide +kernel
theorem dX10_log_72 : decode cX10_log 72 = .ok (.aload_n 0, 1) := by decide +kernel
theorem dX10_log_73 : decode cX10_log 73 = .ok (.getfield 88, 3) := by decide +kernel
theorem dX10_log_76 : decode cX10_log 76 = .ok (.iload_n 2, 1) := by decide +kernel
theorem dX10_log_77 : decode cX10_log 77 = .ok (.iload 6, 2) := by decide +kernel
theorem dX10_log_79 : decode cX10_log 79 = .ok (.idiv, 1) := by decide +kernel
theorem dX10_log_80 : decode cX10_log 80 = .ok (.invokevirtual 105, 3) := by decide +kernel
theorem dX10_log_83 : decode cX10_log 83 = .ok (.istore 8, 2) := by decide +kernel
theorem dX10_log_85 : decode cX10_log 85 = .ok (.iconst 0, 1) := by decide +kernel
theorem dX10_log_86 : decode cX10_log 86 = .ok (.istore 9, 2) := by decide +kernel
theorem dX10_log_88 : decode cX10_log 88 = .ok (.iconst 1, 1) := by decide +kernel
theorem dX10_log_89 : decode cX10_log 89 = .ok (.istore 10, 2) := by decide +kernel
theorem dX10_log_91 : decode cX10_log 91 = .ok (.iload 10, 2) := by decide +kernel
theorem dX10_log_93 : decode cX10_log 93 = .ok (.iload 7, 2) := by decide +kernel
theorem dX10_log_95 : decode cX10_log 95 = .ok (.if_icmp .eq 19, 3) := by decide +kernel
theorem dX10_log_98 : decode cX10_log 98 = .ok (.aload_n 0, 1) := by decide +kernel
theorem dX10_log_99 : decode cX10_log 99 = .ok (.iload 10, 2) := by decide +kernel
theorem dX10_log_101 : decode cX10_log 101 = .ok (.iload 8, 2) := by decide +kernel
theorem dX10_log_103 : decode cX10_log 103 = .ok (.invokevirtual 102, 3) := by decide +kernel
theorem dX10_log_106 : decode cX10_log 106 = .ok (.istore 10, 2) := by decide +kernel
theorem dX10_log_108 : decode cX10_log 108 = .ok (.iinc 9 1, 3) := by decide +kernel
theorem dX10_log_111 : decode cX10_log 111 = .ok (.goto (-20), 3) := by decide +kernel
theorem dX10_log_114 : decode cX10_log 114 = .ok (.iload_n 3, 1) := by decide +kernel
theorem dX10_log_115 : decode cX10_log 115 = .ok (.iload 6, 2) := by decide +kernel
theorem dX10_log_117 : decode cX10_log 117 = .ok (.irem, 1) := by decide +kernel
theorem dX10_log_118 : decode cX10_log 118 = .ok (.iload 9, 2) := by decide +kernel
theorem dX10_log_120 : decode cX10_log 120 = .ok (.if_icmp .eq 11, 3) := by decide +kernel
theorem dX10_log_123 : decode cX10_log 123 = .ok (.iload_n 3, 1) := by decide +kernel
theorem dX10_log_124 : decode cX10_log 124 = .ok (.iload 4, 2) := by decide +kernel
theorem dX10_log_126 : decode cX10_log 126 = .ok (.iadd, 1) := by decide +kernel
theorem dX10_log_127 : decode cX10_log 127 = .ok (.istore_n 3, 1) := by decide +kernel
theorem dX10_log_128 : decode cX10_log 128 = .ok (.goto (-14), 3) := by decide +kernel
theorem dX10_log_131 : decode cX10_log 131 = .ok (.iload 4, 2) := by decide +kernel
theorem dX10_log_133 : decode cX10_log 133 = .ok (.iload 6, 2) := by decide +kernel
theorem dX10_log_135 : decode cX10_log 135 = .ok (.imul, 1) := by decide +kernel
theorem dX10_log_136 : decode cX10_log 136 = .ok (.istore 4, 2) := by decide +kernel
theorem dX10_log_138 : decode cX10_log 138 = .ok (.iinc 5 1, 3) := by decide +kernel
theorem dX10_log_141 : decode cX10_log 141 = .ok (.goto (-97), 3) := by decide +kernel
theorem dX10_log_144 : decode cX10_log 144 = .ok (.iload_n 3, 1) := by decide +kernel
theorem dX10_log_145 : decode cX10_log 145 = .ok (.ireturn, 1) := by decide +kernel
theorem dX10_order_0 : decode cX10_order 0 = .ok (.aload_n 0, 1) := by decide +kernel
theorem dX10_order_1 : decode cX10_order 1 = .ok (.iconst 0, 1) := by decide +kernel
theorem dX10_order_2 : decode cX10_order 2 = .ok (.putfield 1, 3) := by decide +kernel
theorem dX10_order_5 : decode cX10_order 5 = .ok (.aload_n 0, 1) := by decide +kernel
theorem dX10_order_6 : decode cX10_order 6 = .ok (.iload_n 1, 1) := by decide +kernel
theorem dX10_order_7 : decode cX10_order 7 = .ok (.invokevirtual 115, 3) := by decide +kernel
theorem dX10_order_10 : decode cX10_order 10 = .ok (.ifCond .ne 9, 3) := by decide +kernel
theorem dX10_order_13 : decode cX10_order 13 = .ok (.aload_n 0, 1) := by decide +kernel
theorem dX10_order_14 : decode cX10_order 14 = .ok (.iconst 1, 1) := by decide +kernel
theorem dX10_order_15 : decode cX10_order 15 = .ok (.invokevirtual 118, 3) := by decide +kernel
theorem dX10_order_18 : decode cX10_order 18 = .ok (.ireturn, 1) := by decide +kernel
theorem dX10_order_19 : decode cX10_order 19 = .ok (.iload_n 1, 1) := by decide +kernel
theorem dX10_order_20 : decode cX10_order 20 = .ok (.ifCond .ne 7, 3) := by decide +kernel
theorem dX10_order_23 : decode cX10_order 23 = .ok (.iconst 0, 1) := by decide +kernel
theorem dX10_order_24 : decode cX10_order 24 = .ok (.goto 8, 3) := by decide +kernel
theorem dX10_order_27 : decode cX10_order 27 = .ok (.aload_n 0, 1) := by decide +kernel
theorem dX10_order_28 : decode cX10_order 28 = .ok (.iload_n 1, 1) := by decide +kernel
theorem dX10_order_29 : decode cX10_order 29 = .ok (.invokevirtual 91, 3) := by decide +kernel
theorem dX10_order_32 : decode cX10_order 32 = .ok (.ireturn, 1) := by decide +kernel
theorem dX10_put_0 : decode cX10_put 0 = .ok (.aload_n 0, 1) := by decide +kernel
theorem dX10_put_1 : decode cX10_put 1 = .ok (.iconst 0, 1) := by decide +kernel
theorem dX10_put_2 : decode cX10_put 2 = .ok (.putfield 1, 3) := by decide +kernel
theorem dX10_put_5 : decode cX10_put 5 = .ok (.aload_n 0, 1) := by decide +kernel
theorem dX10_put_6 : decode cX10_put 6 = .ok (.iload_n 1, 1) := by decide +kernel
theorem dX10_put_7 : decode cX10_put 7 = .ok (.invokevirtual 115, 3) := by decide +kernel
theorem dX10_put_10 : decode cX10_put 10 = .ok (.ifCond .ne 9, 3) := by decide +kernel
theorem dX10_put_13 : decode cX10_put 13 = .ok (.aload_n 0, 1) := by decide +kernel
theorem dX10_put_14 : decode cX10_put 14 = .ok (.iconst 1, 1) := by decide +kernel
theorem dX10_put_15 : decode cX10_put 15 = .ok (.invokevirtual 118, 3) := by decide +kernel
theorem dX10_put_18 : decode cX10_put 18 = .ok (.ireturn, 1) := by decide +kernel
theorem dX10_put_19 : decode cX10_put 19 = .ok (.aload_n 0, 1) := by decide +kernel
theorem dX10_put_20 : decode cX10_put 20 = .ok (.getfield 124, 3) := by decide +kernel
theorem dX10_put_23 : decode cX10_put 23 = .ok (.sipush 130, 3) := by decide +kernel
theorem dX10_put_26 : decode cX10_put 26 = .ok (.if_icmp .ne 9, 3) := by decide +kernel
theorem dX10_put_29 : decode cX10_put 29 = .ok (.aload_n 0, 1) := by decide +kernel
theorem dX10_put_30 : decode cX10_put 30 = .ok (.iconst 2, 1) := by decide +kernel
theorem dX10_put_31 : decode cX10_put 31 = .ok (.invokevirtual 118, 3) := by decide +kernel
theorem dX10_put_34 : decode cX10_put 34 = .ok (.ireturn, 1) := by decide +kernel
theorem dX10_put_35 : decode cX10_put 35 = .ok (.aload_n 0, 1) := by decide +kernel
theorem dX10_put_36 : decode cX10_put 36 = .ok (.getfield 13, 3) := by decide +kernel
theorem dX10_put_39 : decode cX10_put 39 = .ok (.aload_n 0, 1) := by decide +kernel
theorem dX10_put_40 : decode cX10_put 40 = .ok (.getfield 124, 3) := by decide +kernel
theorem dX10_put_43 : decode cX10_put 43 = .ok (.iload_n 1, 1) := by decide +kernel
theorem dX10_put_44 : decode cX10_put 44 = .ok (.iastore, 1) := by decide +kernel
theorem dX10_put_45 : decode cX10_put 45 = .ok (.aload_n 0, 1) := by decide +kernel
theorem dX10_put_46 : decode cX10_put 46 = .ok (.dup, 1) := by decide +kernel
theorem dX10_put_47 : decode cX10_put 47 = .ok (.getfield 124, 3) := by decide +kernel
theorem dX10_put_50 : decode cX10_put 50 = .ok (.iconst 1, 1) := by decide +kernel
theorem dX10_put_51 : decode cX10_put 51 = .ok (.iadd, 1) := by decide +kernel
theorem dX10_put_52 : decode cX10_put 52 = .ok (.putfield 124, 3) := by decide +kernel
theorem dX10_put_55 : decode cX10_put 55 = .ok (.aload_n 0, 1) := by decide +kernel
theorem dX10_put_56 : decode cX10_put 56 = .ok (.getfield 124, 3) := by decide +kernel
theorem dX10_put_59 : decode cX10_put 59 = .ok (.ireturn, 1) := by decide +kernel
theorem dX10_row_0 : decode cX10_row 0 = .ok (.aload_n 0, 1) := by decide +kernel
theorem dX10_row_1 : decode cX10_row 1 = .ok (.iconst 0, 1) := by decide +kernel
theorem dX10_row_2 : decode cX10_row 2 = .ok (.putfield 1, 3) := by decide +kernel
theorem dX10_row_5 : decode cX10_row 5 = .ok (.iload_n 1, 1) := by decide +kernel
theorem dX10_row_6 : decode cX10_row 6 = .ok (.ifCond .ge 11, 3) := by decide +kernel
theorem dX10_row_9 : decode cX10_row 9 = .ok (.aload_n 0, 1) := by decide +kernel
theorem dX10_row_10 : decode cX10_row 10 = .ok (.iconst 1, 1) := by decide +kernel
theorem dX10_row_11 : decode cX10_row 11 = .ok (.invokevirtual 118, 3) := by decide +kernel
theorem dX10_row_14 : decode cX10_row 14 = .ok (.goto 21, 3) := by decide +kernel
theorem dX10_row_17 : decode cX10_row 17 = .ok (.iload_n 1, 1) := by decide +kernel
theorem dX10_row_18 : decode cX10_row 18 = .ok (.aload_n 0, 1) := by decide +kernel
theorem dX10_row_19 : decode cX10_row 19 = .ok (.getfield 124, 3) := by decide +kernel
theorem dX10_row_22 : decode cX10_row 22 = .ok (.if_icmp .ge 12, 3) := by decide +kernel
theorem dX10_row_25 : decode cX10_row 25 = .ok (.aload_n 0, 1) := by decide +kernel
theorem dX10_row_26 : decode cX10_row 26 = .ok (.getfield 13, 3) := by decide +kernel
theorem dX10_row_29 : decode cX10_row 29 = .ok (.iload_n 1, 1) := by decide +kernel
theorem dX10_row_30 : decode cX10_row 30 = .ok (.iaload, 1) := by decide +kernel
theorem dX10_row_31 : decode cX10_row 31 = .ok (.goto 4, 3) := by decide +kernel
theorem dX10_row_34 : decode cX10_row 34 = .ok (.iconst (-1), 1) := by decide +kernel
theorem dX10_row_35 : decode cX10_row 35 = .ok (.ireturn, 1) := by decide +kernel
theorem dX10_drop_0 : decode cX10_drop 0 = .ok (.aload_n 0, 1) := by decide +kernel
theorem dX10_drop_1 : decode cX10_drop 1 = .ok (.iconst 0, 1) := by decide +kernel
theorem dX10_drop_2 : decode cX10_drop 2 = .ok (.putfield 1, 3) := by decide +kernel
theorem dX10_drop_5 : decode cX10_drop 5 = .ok (.aload_n 0, 1) := by decide +kernel
theorem dX10_drop_6 : decode cX10_drop 6 = .ok (.getfield 124, 3) := by decide +kernel
theorem dX10_drop_9 : decode cX10_drop 9 = .ok (.istore_n 1, 1) := by decide +kernel
theorem dX10_drop_10 : decode cX10_drop 10 = .ok (.aload_n 0, 1) := by decide +kernel
theorem dX10_drop_11 : decode cX10_drop 11 = .ok (.iconst 0, 1) := by decide +kernel
theorem dX10_drop_12 : decode cX10_drop 12 = .ok (.putfield 124, 3) := by decide +kernel
theorem dX10_drop_15 : decode cX10_drop 15 = .ok (.iload_n 1, 1) := by decide +kernel
theorem dX10_drop_16 : decode cX10_drop 16 = .ok (.ireturn, 1) := by decide +kernel
theorem dX10_hasAlike_0 : decode cX10_hasAlike 0 = .ok (.iconst 0, 1) := by decide +kernel
theorem dX10_hasAlike_1 : decode cX10_hasAlike 1 = .ok (.istore_n 3, 1) := by decide +kernel
theorem dX10_hasAlike_2 : decode cX10_hasAlike 2 = .ok (.iload_n 1, 1) := by decide +kernel
theorem dX10_hasAlike_3 : decode cX10_hasAlike 3 = .ok (.istore 4, 2) := by decide +kernel
theorem dX10_hasAlike_5 : decode cX10_hasAlike 5 = .ok (.iload 4, 2) := by decide +kernel
theorem dX10_hasAlike_7 : decode cX10_hasAlike 7 = .ok (.aload_n 0, 1) := by decide +kernel
theorem dX10_hasAlike_8 : decode cX10_hasAlike 8 = .ok (.getfield 124, 3) := by decide +kernel
theorem dX10_hasAlike_11 : decode cX10_hasAlike 11 = .ok (.if_icmp .ge 56, 3) := by decide +kernel
theorem dX10_hasAlike_14 : decode cX10_hasAlike 14 = .ok (.iload_n 1, 1) := by decide +kernel
theorem dX10_hasAlike_15 : decode cX10_hasAlike 15 = .ok (.istore 5, 2) := by decide +kernel
theorem dX10_hasAlike_17 : decode cX10_hasAlike 17 = .ok (.iload 5, 2) := by decide +kernel
theorem dX10_hasAlike_19 : decode cX10_hasAlike 19 = .ok (.iload 4, 2) := by decide +kernel
theorem dX10_hasAlike_21 : decode cX10_hasAlike 21 = .ok (.if_icmp .ge 37, 3) := by decide +kernel
theorem dX10_hasAlike_24 : decode cX10_hasAlike 24 = .ok (.iload_n 3, 1) := by decide +kernel
theorem dX10_hasAlike_25 : decode cX10_hasAlike 25 = .ok (.aload_n 0, 1) := by decide +kernel
theorem dX10_hasAlike_26 : decode cX10_hasAlike 26 = .ok (.getfield 13, 3) := by decide +kernel
theorem dX10_hasAlike_29 : decode cX10_hasAlike 29 = .ok (.iload 4, 2) := by decide +kernel
theorem dX10_hasAlike_31 : decode cX10_hasAlike 31 = .ok (.iaload, 1) := by decide +kernel
theorem dX10_hasAlike_32 : decode cX10_hasAlike 32 = .ok (.aload_n 0, 1) := by decide +kernel
theorem dX10_hasAlike_33 : decode cX10_hasAlike 33 = .ok (.getfield 13, 3) := by decide +kernel
theorem dX10_hasAlike_36 : decode cX10_hasAlike 36 = .ok (.iload 5, 2) := by decide +kernel
theorem dX10_hasAlike_38 : decode cX10_hasAlike 38 = .ok (.iaload, 1) := by decide +kernel
theorem dX10_hasAlike_39 : decode cX10_hasAlike 39 = .ok (.if_icmp .ne 7, 3) := by decide +kernel
theorem dX10_hasAlike_42 : decode cX10_hasAlike 42 = .ok (.iconst 1, 1) := by decide +kernel
theorem dX10_hasAlike_43 : decode cX10_hasAlike 43 = .ok (.goto 4, 3) := by decide +kernel
theorem dX10_hasAlike_46 : decode cX10_hasAlike 46 = .ok (.iconst 0, 1) := by decide +kernel
theorem dX10_hasAlike_47 : decode cX10_hasAlike 47 = .ok (.ior, 1) := by decide +kernel
theorem dX10_hasAlike_48 : decode cX10_hasAlike 48 = .ok (.istore_n 3, 1) := by decide +kernel
theorem dX10_hasAlike_49 : decode cX10_hasAlike 49 = .ok (.iload 5, 2) := by decide +kernel
theorem dX10_hasAlike_51 : decode cX10_hasAlike 51 = .ok (.iload_n 2, 1) := by decide +kernel
theorem dX10_hasAlike_52 : decode cX10_hasAlike 52 = .ok (.iadd, 1) := by decide +kernel
theorem dX10_hasAlike_53 : decode cX10_hasAlike 53 = .ok (.istore 5, 2) := by decide +kernel
theorem dX10_hasAlike_55 : decode cX10_hasAlike 55 = .ok (.goto (-38), 3) := by decide +kernel
theorem dX10_hasAlike_58 : decode cX10_hasAlike 58 = .ok (.iload 4, 2) := by decide +kernel
theorem dX10_hasAlike_60 : decode cX10_hasAlike 60 = .ok (.iload_n 2, 1) := by decide +kernel
theorem dX10_hasAlike_61 : decode cX10_hasAlike 61 = .ok (.iadd, 1) := by decide +kernel
theorem dX10_hasAlike_62 : decode cX10_hasAlike 62 = .ok (.istore 4, 2) := by decide +kernel
theorem dX10_hasAlike_64 : decode cX10_hasAlike 64 = .ok (.goto (-59), 3) := by decide +kernel
theorem dX10_hasAlike_67 : decode cX10_hasAlike 67 = .ok (.iload_n 3, 1) := by decide +kernel
theorem dX10_hasAlike_68 : decode cX10_hasAlike 68 = .ok (.ireturn, 1) := by decide +kernel
theorem dX10_isSize_0 : decode cX10_isSize 0 = .ok (.iload_n 0, 1) := by decide +kernel
theorem dX10_isSize_1 : decode cX10_isSize 1 = .ok (.iconst 1, 1) := by decide +kernel
theorem dX10_isSize_2 : decode cX10_isSize 2 = .ok (.if_icmp .lt 13, 3) := by decide +kernel
theorem dX10_isSize_5 : decode cX10_isSize 5 = .ok (.iload_n 0, 1) := by decide +kernel
theorem dX10_isSize_6 : decode cX10_isSize 6 = .ok (.bipush 8, 2) := by decide +kernel
theorem dX10_isSize_8 : decode cX10_isSize 8 = .ok (.if_icmp .gt 7, 3) := by decide +kernel
theorem dX10_isSize_11 : decode cX10_isSize 11 = .ok (.iconst 1, 1) := by decide +kernel
theorem dX10_isSize_12 : decode cX10_isSize 12 = .ok (.goto 4, 3) := by decide +kernel
theorem dX10_isSize_15 : decode cX10_isSize 15 = .ok (.iconst 0, 1) := by decide +kernel
theorem dX10_isSize_16 : decode cX10_isSize 16 = .ok (.ireturn, 1) := by decide +kernel
theorem dX10_isMatrix_0 : decode cX10_isMatrix 0 = .ok (.iload_n 1, 1) := by decide +kernel
theorem dX10_isMatrix_1 : decode cX10_isMatrix 1 = .ok (.ifCond .lt 15, 3) := by decide +kernel
theorem dX10_isMatrix_4 : decode cX10_isMatrix 4 = .ok (.iload_n 1, 1) := by decide +kernel
theorem dX10_isMatrix_5 : decode cX10_isMatrix 5 = .ok (.aload_n 0, 1) := by decide +kernel
theorem dX10_isMatrix_6 : decode cX10_isMatrix 6 = .ok (.getfield 127, 3) := by decide +kernel
theorem dX10_isMatrix_9 : decode cX10_isMatrix 9 = .ok (.if_icmp .ge 7, 3) := by decide +kernel
theorem dX10_isMatrix_12 : decode cX10_isMatrix 12 = .ok (.iconst 1, 1) := by decide +kernel
theorem dX10_isMatrix_13 : decode cX10_isMatrix 13 = .ok (.goto 4, 3) := by decide +kernel
theorem dX10_isMatrix_16 : decode cX10_isMatrix 16 = .ok (.iconst 0, 1) := by decide +kernel
theorem dX10_isMatrix_17 : decode cX10_isMatrix 17 = .ok (.ireturn, 1) := by decide +kernel
theorem dX10_at_0 : decode cX10_at 0 = .ok (.bipush 64, 2) := by decide +kernel
theorem dX10_at_2 : decode cX10_at 2 = .ok (.iload_n 1, 1) := by decide +kernel
theorem dX10_at_3 : decode cX10_at 3 = .ok (.imul, 1) := by decide +kernel
theorem dX10_at_4 : decode cX10_at 4 = .ok (.bipush 8, 2) := by decide +kernel
theorem dX10_at_6 : decode cX10_at 6 = .ok (.iload_n 2, 1) := by decide +kernel
theorem dX10_at_7 : decode cX10_at 7 = .ok (.imul, 1) := by decide +kernel
theorem dX10_at_8 : decode cX10_at 8 = .ok (.iadd, 1) := by decide +kernel
theorem dX10_at_9 : decode cX10_at 9 = .ok (.iload_n 3, 1) := by decide +kernel
theorem dX10_at_10 : decode cX10_at 10 = .ok (.iadd, 1) := by decide +kernel
theorem dX10_at_11 : decode cX10_at 11 = .ok (.ireturn, 1) := by decide +kernel
theorem dX10_made_0 : decode cX10_made 0 = .ok (.aload_n 0, 1) := by decide +kernel
theorem dX10_made_1 : decode cX10_made 1 = .ok (.getfield 17, 3) := by decide +kernel
theorem dX10_made_4 : decode cX10_made 4 = .ok (.aload_n 0, 1) := by decide +kernel
theorem dX10_made_5 : decode cX10_made 5 = .ok (.getfield 127, 3) := by decide +kernel
theorem dX10_made_8 : decode cX10_made 8 = .ok (.iload_n 1, 1) := by decide +kernel
theorem dX10_made_9 : decode cX10_made 9 = .ok (.iastore, 1) := by decide +kernel
theorem dX10_made_10 : decode cX10_made 10 = .ok (.aload_n 0, 1) := by decide +kernel
theorem dX10_made_11 : decode cX10_made 11 = .ok (.getfield 20, 3) := by decide +kernel
theorem dX10_made_14 : decode cX10_made 14 = .ok (.aload_n 0, 1) := by decide +kernel
theorem dX10_made_15 : decode cX10_made 15 = .ok (.getfield 127, 3) := by decide +kernel
theorem dX10_made_18 : decode cX10_made 18 = .ok (.iload_n 2, 1) := by decide +kernel
theorem dX10_made_19 : decode cX10_made 19 = .ok (.iastore, 1) := by decide +kernel
theorem dX10_made_20 : decode cX10_made 20 = .ok (.iconst 0, 1) := by decide +kernel
theorem dX10_made_21 : decode cX10_made 21 = .ok (.istore_n 3, 1) := by decide +kernel
theorem dX10_made_22 : decode cX10_made 22 = .ok (.iload_n 3, 1) := by decide +kernel
theorem dX10_made_23 : decode cX10_made 23 = .ok (.bipush 64, 2) := by decide +kernel
theorem dX10_made_25 : decode cX10_made 25 = .ok (.if_icmp .ge 24, 3) := by decide +kernel
theorem dX10_made_28 : decode cX10_made 28 = .ok (.aload_n 0, 1) := by decide +kernel
theorem dX10_made_29 : decode cX10_made 29 = .ok (.getfield 23, 3) := by decide +kernel
theorem dX10_made_32 : decode cX10_made 32 = .ok (.bipush 64, 2) := by decide +kernel
theorem dX10_made_34 : decode cX10_made 34 = .ok (.aload_n 0, 1) := by decide +kernel
theorem dX10_made_35 : decode cX10_made 35 = .ok (.getfield 127, 3) := by decide +kernel
theorem dX10_made_38 : decode cX10_made 38 = .ok (.imul, 1) := by decide +kernel
theorem dX10_made_39 : decode cX10_made 39 = .ok (.iload_n 3, 1) := by decide +kernel
theorem dX10_made_40 : decode cX10_made 40 = .ok (.iadd, 1) := by decide +kernel
theorem dX10_made_41 : decode cX10_made 41 = .ok (.iconst 0, 1) := by decide +kernel
theorem dX10_made_42 : decode cX10_made 42 = .ok (.iastore, 1) := by decide +kernel
theorem dX10_made_43 : decode cX10_made 43 = .ok (.iinc 3 1, 3) := by decide +kernel
theorem dX10_made_46 : decode cX10_made 46 = .ok (.goto (-24), 3) := by decide +kernel
theorem dX10_made_49 : decode cX10_made 49 = .ok (.aload_n 0, 1) := by decide +kernel
theorem dX10_made_50 : decode cX10_made 50 = .ok (.dup, 1) := by decide +kernel
theorem dX10_made_51 : decode cX10_made 51 = .ok (.getfield 127, 3) := by decide +kernel
theorem dX10_made_54 : decode cX10_made 54 = .ok (.iconst 1, 1) := by decide +kernel
theorem dX10_made_55 : decode cX10_made 55 = .ok (.iadd, 1) := by decide +kernel
theorem dX10_made_56 : decode cX10_made 56 = .ok (.putfield 127, 3) := by decide +kernel
theorem dX10_made_59 : decode cX10_made 59 = .ok (.aload_n 0, 1) := by decide +kernel
theorem dX10_made_60 : decode cX10_made 60 = .ok (.getfield 127, 3) := by decide +kernel
theorem dX10_made_63 : decode cX10_made 63 = .ok (.iconst 1, 1) := by decide +kernel
theorem dX10_made_64 : decode cX10_made 64 = .ok (.isub, 1) := by decide +kernel
theorem dX10_made_65 : decode cX10_made 65 = .ok (.ireturn, 1) := by decide +kernel
theorem dX10_matrix_0 : decode cX10_matrix 0 = .ok (.aload_n 0, 1) := by decide +kernel
theorem dX10_matrix_1 : decode cX10_matrix 1 = .ok (.iconst 0, 1) := by decide +kernel
theorem dX10_matrix_2 : decode cX10_matrix 2 = .ok (.putfield 1, 3) := by decide +kernel
theorem dX10_matrix_5 : decode cX10_matrix 5 = .ok (.iload_n 1, 1) := by decide +kernel
theorem dX10_matrix_6 : decode cX10_matrix 6 = .ok (.invokestatic 130, 3) := by decide +kernel
theorem dX10_matrix_9 : decode cX10_matrix 9 = .ok (.ifCond .eq 10, 3) := by decide +kernel
theorem dX10_matrix_12 : decode cX10_matrix 12 = .ok (.iload_n 2, 1) := by decide +kernel
theorem dX10_matrix_13 : decode cX10_matrix 13 = .ok (.invokestatic 130, 3) := by decide +kernel
theorem dX10_matrix_16 : decode cX10_matrix 16 = .ok (.ifCond .ne 9, 3) := by decide +kernel
theorem dX10_matrix_19 : decode cX10_matrix 19 = .ok (.aload_n 0, 1) := by decide +kernel
theorem dX10_matrix_20 : decode cX10_matrix 20 = .ok (.iconst 1, 1) := by decide +kernel
theorem dX10_matrix_21 : decode cX10_matrix 21 = .ok (.invokevirtual 118, 3) := by decide +kernel
theorem dX10_matrix_24 : decode cX10_matrix 24 = .ok (.ireturn, 1) := by decide +kernel
theorem dX10_matrix_25 : decode cX10_matrix 25 = .ok (.aload_n 0, 1) := by decide +kernel
theorem dX10_matrix_26 : decode cX10_matrix 26 = .ok (.getfield 127, 3) := by decide +kernel
theorem dX10_matrix_29 : decode cX10_matrix 29 = .ok (.bipush 40, 2) := by decide +kernel
theorem dX10_matrix_31 : decode cX10_matrix 31 = .ok (.if_icmp .ne 11, 3) := by decide +kernel
theorem dX10_matrix_34 : decode cX10_matrix 34 = .ok (.aload_n 0, 1) := by decide +kernel
theorem dX10_matrix_35 : decode cX10_matrix 35 = .ok (.iconst 2, 1) := by decide +kernel
theorem dX10_matrix_36 : decode cX10_matrix 36 = .ok (.invokevirtual 118, 3) := by decide +kernel
theorem dX10_matrix_39 : decode cX10_matrix 39 = .ok (.goto 9, 3) := by decide +kernel
theorem dX10_matrix_42 : decode cX10_matrix 42 = .ok (.aload_n 0, 1) := by decide +kernel
theorem dX10_matrix_43 : decode cX10_matrix 43 = .ok (.iload_n 1, 1) := by decide +kernel
theorem dX10_matrix_44 : decode cX10_matrix 44 = .ok (.iload_n 2, 1) := by decide +kernel
theorem dX10_matrix_45 : decode cX10_matrix 45 = .ok (.invokevirtual 133, 3) := by decide +kernel
theorem dX10_matrix_48 : decode cX10_matrix 48 = .ok (.ireturn, 1) := by decide +kernel
theorem dX10_powers_0 : decode cX10_powers 0 = .ok (.aload_n 0, 1) := by decide +kernel
theorem dX10_powers_1 : decode cX10_powers 1 = .ok (.iconst 0, 1) := by decide +kernel
theorem dX10_powers_2 : decode cX10_powers 2 = .ok (.putfield 1, 3) := by decide +kernel
theorem dX10_powers_5 : decode cX10_powers 5 = .ok (.iload_n 1, 1) := by decide +kernel
theorem dX10_powers_6 : decode cX10_powers 6 = .ok (.invokestatic 130, 3) := by decide +kernel
theorem dX10_powers_9 : decode cX10_powers 9 = .ok (.ifCond .eq 10, 3) := by decide +kernel
theorem dX10_powers_12 : decode cX10_powers 12 = .ok (.iload_n 2, 1) := by decide +kernel
theorem dX10_powers_13 : decode cX10_powers 13 = .ok (.invokestatic 130, 3) := by decide +kernel
theorem dX10_powers_16 : decode cX10_powers 16 = .ok (.ifCond .ne 9, 3) := by decide +kernel
theorem dX10_powers_19 : decode cX10_powers 19 = .ok (.aload_n 0, 1) := by decide +kernel
theorem dX10_powers_20 : decode cX10_powers 20 = .ok (.iconst 1, 1) := by decide +kernel
theorem dX10_powers_21 : decode cX10_powers 21 = .ok (.invokevirtual 118, 3) := by decide +kernel
theorem dX10_powers_24 : decode cX10_powers 24 = .ok (.ireturn, 1) := by decide +kernel
theorem dX10_powers_25 : decode cX10_powers 25 = .ok (.aload_n 0, 1) := by decide +kernel
theorem dX10_powers_26 : decode cX10_powers 26 = .ok (.getfield 124, 3) := by decide +kernel
theorem dX10_powers_29 : decode cX10_powers 29 = .ok (.iload_n 1, 1) := by decide +kernel
theorem dX10_powers_30 : decode cX10_powers 30 = .ok (.if_icmp .ne 12, 3) := by decide +kernel
theorem dX10_powers_33 : decode cX10_powers 33 = .ok (.aload_n 0, 1) := by decide +kernel
theorem dX10_powers_34 : decode cX10_powers 34 = .ok (.iconst 0, 1) := by decide +kernel
theorem dX10_powers_35 : decode cX10_powers 35 = .ok (.iconst 1, 1) := by decide +kernel
theorem dX10_powers_36 : decode cX10_powers 36 = .ok (.invokevirtual 136, 3) := by decide +kernel
theorem dX10_powers_39 : decode cX10_powers 39 = .ok (.ifCond .eq 9, 3) := by decide +kernel
theorem dX10_powers_42 : decode cX10_powers 42 = .ok (.aload_n 0, 1) := by decide +kernel
theorem dX10_powers_43 : decode cX10_powers 43 = .ok (.iconst 2, 1) := by decide +kernel
theorem dX10_powers_44 : decode cX10_powers 44 = .ok (.invokevirtual 118, 3) := by decide +kernel
theorem dX10_powers_47 : decode cX10_powers 47 = .ok (.ireturn, 1) := by decide +kernel
theorem dX10_powers_48 : decode cX10_powers 48 = .ok (.aload_n 0, 1) := by decide +kernel
theorem dX10_powers_49 : decode cX10_powers 49 = .ok (.getfield 127, 3) := by decide +kernel
theorem dX10_powers_52 : decode cX10_powers 52 = .ok (.bipush 40, 2) := by decide +kernel
theorem dX10_powers_54 : decode cX10_powers 54 = .ok (.if_icmp .ne 9, 3) := by decide +kernel
theorem dX10_powers_57 : decode cX10_powers 57 = .ok (.aload_n 0, 1) := by decide +kernel
theorem dX10_powers_58 : decode cX10_powers 58 = .ok (.iconst 3, 1) := by decide +kernel
theorem dX10_powers_59 : decode cX10_powers 59 = .ok (.invokevirtual 118, 3) := by decide +kernel
theorem dX10_powers_62 : decode cX10_powers 62 = .ok (.ireturn, 1) := by decide +kernel
theorem dX10_powers_63 : decode cX10_powers 63 = .ok (.aload_n 0, 1) := by decide +kernel
theorem dX10_powers_64 : decode cX10_powers 64 = .ok (.iload_n 1, 1) := by decide +kernel
theorem dX10_powers_65 : decode cX10_powers 65 = .ok (.iload_n 2, 1) := by decide +kernel
theorem dX10_powers_66 : decode cX10_powers 66 = .ok (.invokevirtual 133, 3) := by decide +kernel
theorem dX10_powers_69 : decode cX10_powers 69 = .ok (.istore_n 3, 1) := by decide +kernel
theorem dX10_powers_70 : decode cX10_powers 70 = .ok (.iconst 0, 1) := by decide +kernel
theorem dX10_powers_71 : decode cX10_powers 71 = .ok (.istore 4, 2) := by decide +kernel
theorem dX10_powers_73 : decode cX10_powers 73 = .ok (.iload 4, 2) := by decide +kernel
theorem dX10_powers_75 : decode cX10_powers 75 = .ok (.iload_n 1, 1) := by decide +kernel
theorem dX10_powers_76 : decode cX10_powers 76 = .ok (.if_icmp .ge 74, 3) := by decide +kernel
theorem dX10_powers_79 : decode cX10_powers 79 = .ok (.iconst 0, 1) := by decide +kernel
theorem dX10_powers_80 : decode cX10_powers 80 = .ok (.istore 5, 2) := by decide +kernel
theorem dX10_powers_82 : decode cX10_powers 82 = .ok (.iload 5, 2) := by decide +kernel
theorem dX10_powers_84 : decode cX10_powers 84 = .ok (.iload_n 2, 1) := by decide +kernel
theorem dX10_powers_85 : decode cX10_powers 85 = .ok (.if_icmp .ge 59, 3) := by decide +kernel
theorem dX10_powers_88 : decode cX10_powers 88 = .ok (.aload_n 0, 1) := by decide +kernel
theorem dX10_powers_89 : decode cX10_powers 89 = .ok (.getfield 23, 3) := by decide +kernel
theorem dX10_powers_92 : decode cX10_powers 92 = .ok (.aload_n 0, 1) := by decide +kernel
theorem dX10_powers_93 : decode cX10_powers 93 = .ok (.iload_n 3, 1) := by decide +kernel
theorem dX10_powers_94 : decode cX10_powers 94 = .ok (.iload 4, 2) := by decide +kernel
theorem dX10_powers_96 : decode cX10_powers 96 = .ok (.iload 5, 2) := by decide +kernel
theorem dX10_powers_98 : decode cX10_powers 98 = .ok (.invokevirtual 140, 3) := by decide +kernel
theorem dX10_powers_101 : decode cX10_powers 101 = .ok (.iload 5, 2) := by decide +kernel
theorem dX10_powers_103 : decode cX10_powers 103 = .ok (.ifCond .ne 7, 3) := by decide +kernel
theorem dX10_powers_106 : decode cX10_powers 106 = .ok (.iconst 1, 1) := by decide +kernel
theorem dX10_powers_107 : decode cX10_powers 107 = .ok (.goto 30, 3) := by decide +kernel
theorem dX10_powers_110 : decode cX10_powers 110 = .ok (.aload_n 0, 1) := by decide +kernel
theorem dX10_powers_111 : decode cX10_powers 111 = .ok (.aload_n 0, 1) := by decide +kernel
theorem dX10_powers_112 : decode cX10_powers 112 = .ok (.getfield 23, 3) := by decide +kernel
theorem dX10_powers_115 : decode cX10_powers 115 = .ok (.aload_n 0, 1) := by decide +kernel
theorem dX10_powers_116 : decode cX10_powers 116 = .ok (.iload_n 3, 1) := by decide +kernel
theorem dX10_powers_117 : decode cX10_powers 117 = .ok (.iload 4, 2) := by decide +kernel
theorem dX10_powers_119 : decode cX10_powers 119 = .ok (.iload 5, 2) := by decide +kernel
theorem dX10_powers_121 : decode cX10_powers 121 = .ok (.iconst 1, 1) := by decide +kernel
theorem dX10_powers_122 : decode cX10_powers 122 = .ok (.isub, 1) := by decide +kernel
theorem dX10_powers_123 : decode cX10_powers 123 = .ok (.invokevirtual 140, 3) := by decide +kernel
theorem dX10_powers_126 : decode cX10_powers 126 = .ok (.iaload, 1) := by decide +kernel
theorem dX10_powers_127 : decode cX10_powers 127 = .ok (.aload_n 0, 1) := by decide +kernel
theorem dX10_powers_128 : decode cX10_powers 128 = .ok (.getfield 13, 3) := by decide +kernel
theorem dX10_powers_131 : decode cX10_powers 131 = .ok (.iload 4, 2) := by decide +kernel
theorem dX10_powers_133 : decode cX10_powers 133 = .ok (.iaload, 1) := by decide +kernel
theorem dX10_powers_134 : decode cX10_powers 134 = .ok (.invokevirtual 102, 3) := by decide +kernel
theorem dX10_powers_137 : decode cX10_powers 137 = .ok (.iastore, 1) := by decide +kernel
theorem dX10_powers_138 : decode cX10_powers 138 = .ok (.iinc 5 1, 3) := by decide +kernel
theorem dX10_powers_141 : decode cX10_powers 141 = .ok (.goto (-59), 3) := by decide +kernel
theorem dX10_powers_144 : decode cX10_powers 144 = .ok (.iinc 4 1, 3) := by decide +kernel
theorem dX10_powers_147 : decode cX10_powers 147 = .ok (.goto (-74), 3) := by decide +kernel
theorem dX10_powers_150 : decode cX10_powers 150 = .ok (.aload_n 0, 1) := by decide +kernel
theorem dX10_powers_151 : decode cX10_powers 151 = .ok (.iconst 0, 1) := by decide +kernel
theorem dX10_powers_152 : decode cX10_powers 152 = .ok (.putfield 124, 3) := by decide +kernel
theorem dX10_powers_155 : decode cX10_powers 155 = .ok (.iload_n 3, 1) := by decide +kernel
theorem dX10_powers_156 : decode cX10_powers 156 = .ok (.ireturn, 1) := by decide +kernel
theorem dX10_sums_0 : decode cX10_sums 0 = .ok (.aload_n 0, 1) := by decide +kernel
theorem dX10_sums_1 : decode cX10_sums 1 = .ok (.iconst 0, 1) := by decide +kernel
theorem dX10_sums_2 : decode cX10_sums 2 = .ok (.putfield 1, 3) := by decide +kernel
theorem dX10_sums_5 : decode cX10_sums 5 = .ok (.iload_n 1, 1) := by decide +kernel
theorem dX10_sums_6 : decode cX10_sums 6 = .ok (.invokestatic 130, 3) := by decide +kernel
theorem dX10_sums_9 : decode cX10_sums 9 = .ok (.ifCond .eq 10, 3) := by decide +kernel
theorem dX10_sums_12 : decode cX10_sums 12 = .ok (.iload_n 2, 1) := by decide +kernel
theorem dX10_sums_13 : decode cX10_sums 13 = .ok (.invokestatic 130, 3) := by decide +kernel
theorem dX10_sums_16 : decode cX10_sums 16 = .ok (.ifCond .ne 9, 3) := by decide +kernel
theorem dX10_sums_19 : decode cX10_sums 19 = .ok (.aload_n 0, 1) := by decide +kernel
theorem dX10_sums_20 : decode cX10_sums 20 = .ok (.iconst 1, 1) := by decide +kernel
theorem dX10_sums_21 : decode cX10_sums 21 = .ok (.invokevirtual 118, 3) := by decide +kernel
theorem dX10_sums_24 : decode cX10_sums 24 = .ok (.ireturn, 1) := by decide +kernel
theorem dX10_sums_25 : decode cX10_sums 25 = .ok (.aload_n 0, 1) := by decide +kernel
theorem dX10_sums_26 : decode cX10_sums 26 = .ok (.getfield 124, 3) := by decide +kernel
theorem dX10_sums_29 : decode cX10_sums 29 = .ok (.iload_n 1, 1) := by decide +kernel
theorem dX10_sums_30 : decode cX10_sums 30 = .ok (.iload_n 2, 1) := by decide +kernel
theorem dX10_sums_31 : decode cX10_sums 31 = .ok (.iadd, 1) := by decide +kernel
theorem dX10_sums_32 : decode cX10_sums 32 = .ok (.if_icmp .ne 12, 3) := by decide +kernel
theorem dX10_sums_35 : decode cX10_sums 35 = .ok (.aload_n 0, 1) := by decide +kernel
theorem dX10_sums_36 : decode cX10_sums 36 = .ok (.iconst 0, 1) := by decide +kernel
theorem dX10_sums_37 : decode cX10_sums 37 = .ok (.iconst 1, 1) := by decide +kernel
theorem dX10_sums_38 : decode cX10_sums 38 = .ok (.invokevirtual 136, 3) := by decide +kernel
theorem dX10_sums_41 : decode cX10_sums 41 = .ok (.ifCond .eq 9, 3) := by decide +kernel
theorem dX10_sums_44 : decode cX10_sums 44 = .ok (.aload_n 0, 1) := by decide +kernel
theorem dX10_sums_45 : decode cX10_sums 45 = .ok (.iconst 2, 1) := by decide +kernel
theorem dX10_sums_46 : decode cX10_sums 46 = .ok (.invokevirtual 118, 3) := by decide +kernel
theorem dX10_sums_49 : decode cX10_sums 49 = .ok (.ireturn, 1) := by decide +kernel
theorem dX10_sums_50 : decode cX10_sums 50 = .ok (.aload_n 0, 1) := by decide +kernel
theorem dX10_sums_51 : decode cX10_sums 51 = .ok (.getfield 127, 3) := by decide +kernel
theorem dX10_sums_54 : decode cX10_sums 54 = .ok (.bipush 40, 2) := by decide +kernel
theorem dX10_sums_56 : decode cX10_sums 56 = .ok (.if_icmp .ne 9, 3) := by decide +kernel
theorem dX10_sums_59 : decode cX10_sums 59 = .ok (.aload_n 0, 1) := by decide +kernel
theorem dX10_sums_60 : decode cX10_sums 60 = .ok (.iconst 3, 1) := by decide +kernel
theorem dX10_sums_61 : decode cX10_sums 61 = .ok (.invokevirtual 118, 3) := by decide +kernel
theorem dX10_sums_64 : decode cX10_sums 64 = .ok (.ireturn, 1) := by decide +kernel
theorem dX10_sums_65 : decode cX10_sums 65 = .ok (.aload_n 0, 1) := by decide +kernel
theorem dX10_sums_66 : decode cX10_sums 66 = .ok (.iload_n 1, 1) := by decide +kernel
theorem dX10_sums_67 : decode cX10_sums 67 = .ok (.iload_n 2, 1) := by decide +kernel
theorem dX10_sums_68 : decode cX10_sums 68 = .ok (.invokevirtual 133, 3) := by decide +kernel
theorem dX10_sums_71 : decode cX10_sums 71 = .ok (.istore_n 3, 1) := by decide +kernel
theorem dX10_sums_72 : decode cX10_sums 72 = .ok (.iconst 0, 1) := by decide +kernel
theorem dX10_sums_73 : decode cX10_sums 73 = .ok (.istore 4, 2) := by decide +kernel
theorem dX10_sums_75 : decode cX10_sums 75 = .ok (.iload 4, 2) := by decide +kernel
theorem dX10_sums_77 : decode cX10_sums 77 = .ok (.iload_n 1, 1) := by decide +kernel
theorem dX10_sums_78 : decode cX10_sums 78 = .ok (.if_icmp .ge 59, 3) := by decide +kernel
theorem dX10_sums_81 : decode cX10_sums 81 = .ok (.iconst 0, 1) := by decide +kernel
theorem dX10_sums_82 : decode cX10_sums 82 = .ok (.istore 5, 2) := by decide +kernel
theorem dX10_sums_84 : decode cX10_sums 84 = .ok (.iload 5, 2) := by decide +kernel
theorem dX10_sums_86 : decode cX10_sums 86 = .ok (.iload_n 2, 1) := by decide +kernel
theorem dX10_sums_87 : decode cX10_sums 87 = .ok (.if_icmp .ge 44, 3) := by decide +kernel
theorem dX10_sums_90 : decode cX10_sums 90 = .ok (.aload_n 0, 1) := by decide +kernel
theorem dX10_sums_91 : decode cX10_sums 91 = .ok (.getfield 23, 3) := by decide +kernel
theorem dX10_sums_94 : decode cX10_sums 94 = .ok (.aload_n 0, 1) := by decide +kernel
theorem dX10_sums_95 : decode cX10_sums 95 = .ok (.iload_n 3, 1) := by decide +kernel
theorem dX10_sums_96 : decode cX10_sums 96 = .ok (.iload 4, 2) := by decide +kernel
theorem dX10_sums_98 : decode cX10_sums 98 = .ok (.iload 5, 2) := by decide +kernel
theorem dX10_sums_100 : decode cX10_sums 100 = .ok (.invokevirtual 140, 3) := by decide +kernel
theorem dX10_sums_103 : decode cX10_sums 103 = .ok (.aload_n 0, 1) := by decide +kernel
theorem dX10_sums_104 : decode cX10_sums 104 = .ok (.aload_n 0, 1) := by decide +kernel
theorem dX10_sums_105 : decode cX10_sums 105 = .ok (.getfield 13, 3) := by decide +kernel
theorem dX10_sums_108 : decode cX10_sums 108 = .ok (.iload 4, 2) := by decide +kernel
theorem dX10_sums_110 : decode cX10_sums 110 = .ok (.iaload, 1) := by decide +kernel
theorem dX10_sums_111 : decode cX10_sums 111 = .ok (.aload_n 0, 1) := by decide +kernel
theorem dX10_sums_112 : decode cX10_sums 112 = .ok (.getfield 13, 3) := by decide +kernel
theorem dX10_sums_115 : decode cX10_sums 115 = .ok (.iload_n 1, 1) := by decide +kernel
theorem dX10_sums_116 : decode cX10_sums 116 = .ok (.iload 5, 2) := by decide +kernel
theorem dX10_sums_118 : decode cX10_sums 118 = .ok (.iadd, 1) := by decide +kernel
theorem dX10_sums_119 : decode cX10_sums 119 = .ok (.iaload, 1) := by decide +kernel
theorem dX10_sums_120 : decode cX10_sums 120 = .ok (.ixor, 1) := by decide +kernel
theorem dX10_sums_121 : decode cX10_sums 121 = .ok (.invokevirtual 121, 3) := by decide +kernel
theorem dX10_sums_124 : decode cX10_sums 124 = .ok (.iastore, 1) := by decide +kernel
theorem dX10_sums_125 : decode cX10_sums 125 = .ok (.iinc 5 1, 3) := by decide +kernel
theorem dX10_sums_128 : decode cX10_sums 128 = .ok (.goto (-44), 3) := by decide +kernel
theorem dX10_sums_131 : decode cX10_sums 131 = .ok (.iinc 4 1, 3) := by decide +kernel
theorem dX10_sums_134 : decode cX10_sums 134 = .ok (.goto (-59), 3) := by decide +kernel
theorem dX10_sums_137 : decode cX10_sums 137 = .ok (.aload_n 0, 1) := by decide +kernel
theorem dX10_sums_138 : decode cX10_sums 138 = .ok (.iconst 0, 1) := by decide +kernel
theorem dX10_sums_139 : decode cX10_sums 139 = .ok (.putfield 124, 3) := by decide +kernel
theorem dX10_sums_142 : decode cX10_sums 142 = .ok (.iload_n 3, 1) := by decide +kernel
theorem dX10_sums_143 : decode cX10_sums 143 = .ok (.ireturn, 1) := by decide +kernel
theorem dX10_size_0 : decode cX10_size 0 = .ok (.aload_n 0, 1) := by decide +kernel
theorem dX10_size_1 : decode cX10_size 1 = .ok (.iconst 0, 1) := by decide +kernel
theorem dX10_size_2 : decode cX10_size 2 = .ok (.putfield 1, 3) := by decide +kernel
theorem dX10_size_5 : decode cX10_size 5 = .ok (.aload_n 0, 1) := by decide +kernel
theorem dX10_size_6 : decode cX10_size 6 = .ok (.iload_n 1, 1) := by decide +kernel
theorem dX10_size_7 : decode cX10_size 7 = .ok (.invokevirtual 144, 3) := by decide +kernel
theorem dX10_size_10 : decode cX10_size 10 = .ok (.ifCond .ne 9, 3) := by decide +kernel
theorem dX10_size_13 : decode cX10_size 13 = .ok (.aload_n 0, 1) := by decide +kernel
theorem dX10_size_14 : decode cX10_size 14 = .ok (.iconst 1, 1) := by decide +kernel
theorem dX10_size_15 : decode cX10_size 15 = .ok (.invokevirtual 118, 3) := by decide +kernel
theorem dX10_size_18 : decode cX10_size 18 = .ok (.ireturn, 1) := by decide +kernel
theorem dX10_size_19 : decode cX10_size 19 = .ok (.iload_n 2, 1) := by decide +kernel
theorem dX10_size_20 : decode cX10_size 20 = .ok (.ifCond .ne 12, 3) := by decide +kernel
theorem dX10_size_23 : decode cX10_size 23 = .ok (.aload_n 0, 1) := by decide +kernel
theorem dX10_size_24 : decode cX10_size 24 = .ok (.getfield 17, 3) := by decide +kernel
theorem dX10_size_27 : decode cX10_size 27 = .ok (.iload_n 1, 1) := by decide +kernel
theorem dX10_size_28 : decode cX10_size 28 = .ok (.iaload, 1) := by decide +kernel
theorem dX10_size_29 : decode cX10_size 29 = .ok (.goto 22, 3) := by decide +kernel
theorem dX10_size_32 : decode cX10_size 32 = .ok (.iload_n 2, 1) := by decide +kernel
theorem dX10_size_33 : decode cX10_size 33 = .ok (.iconst 1, 1) := by decide +kernel
theorem dX10_size_34 : decode cX10_size 34 = .ok (.if_icmp .ne 12, 3) := by decide +kernel
theorem dX10_size_37 : decode cX10_size 37 = .ok (.aload_n 0, 1) := by decide +kernel
theorem dX10_size_38 : decode cX10_size 38 = .ok (.getfield 20, 3) := by decide +kernel
theorem dX10_size_41 : decode cX10_size 41 = .ok (.iload_n 1, 1) := by decide +kernel
theorem dX10_size_42 : decode cX10_size 42 = .ok (.iaload, 1) := by decide +kernel
theorem dX10_size_43 : decode cX10_size 43 = .ok (.goto 8, 3) := by decide +kernel
theorem dX10_size_46 : decode cX10_size 46 = .ok (.aload_n 0, 1) := by decide +kernel
theorem dX10_size_47 : decode cX10_size 47 = .ok (.iconst 2, 1) := by decide +kernel
theorem dX10_size_48 : decode cX10_size 48 = .ok (.invokevirtual 118, 3) := by decide +kernel
theorem dX10_size_51 : decode cX10_size 51 = .ok (.ireturn, 1) := by decide +kernel
theorem dX10_isCell_0 : decode cX10_isCell 0 = .ok (.aload_n 0, 1) := by decide +kernel
theorem dX10_isCell_1 : decode cX10_isCell 1 = .ok (.iload_n 1, 1) := by decide +kernel
theorem dX10_isCell_2 : decode cX10_isCell 2 = .ok (.invokevirtual 144, 3) := by decide +kernel
theorem dX10_isCell_5 : decode cX10_isCell 5 = .ok (.ifCond .eq 35, 3) := by decide +kernel
theorem dX10_isCell_8 : decode cX10_isCell 8 = .ok (.iload_n 2, 1) := by decide +kernel
theorem dX10_isCell_9 : decode cX10_isCell 9 = .ok (.ifCond .lt 31, 3) := by decide +kernel
theorem dX10_isCell_12 : decode cX10_isCell 12 = .ok (.iload_n 3, 1) := by decide +kernel
theorem dX10_isCell_13 : decode cX10_isCell 13 = .ok (.ifCond .lt 27, 3) := by decide +kernel
theorem dX10_isCell_16 : decode cX10_isCell 16 = .ok (.iload_n 2, 1) := by decide +kernel
theorem dX10_isCell_17 : decode cX10_isCell 17 = .ok (.aload_n 0, 1) := by decide +kernel
theorem dX10_isCell_18 : decode cX10_isCell 18 = .ok (.getfield 17, 3) := by decide +kernel
theorem dX10_isCell_21 : decode cX10_isCell 21 = .ok (.iload_n 1, 1) := by decide +kernel
theorem dX10_isCell_22 : decode cX10_isCell 22 = .ok (.iaload, 1) := by decide +kernel
theorem dX10_isCell_23 : decode cX10_isCell 23 = .ok (.if_icmp .ge 17, 3) := by decide +kernel
theorem dX10_isCell_26 : decode cX10_isCell 26 = .ok (.iload_n 3, 1) := by decide +kernel
theorem dX10_isCell_27 : decode cX10_isCell 27 = .ok (.aload_n 0, 1) := by decide +kernel
theorem dX10_isCell_28 : decode cX10_isCell 28 = .ok (.getfield 20, 3) := by decide +kernel
theorem dX10_isCell_31 : decode cX10_isCell 31 = .ok (.iload_n 1, 1) := by decide +kernel
theorem dX10_isCell_32 : decode cX10_isCell 32 = .ok (.iaload, 1) := by decide +kernel
theorem dX10_isCell_33 : decode cX10_isCell 33 = .ok (.if_icmp .ge 7, 3) := by decide +kernel
theorem dX10_isCell_36 : decode cX10_isCell 36 = .ok (.iconst 1, 1) := by decide +kernel
theorem dX10_isCell_37 : decode cX10_isCell 37 = .ok (.goto 4, 3) := by decide +kernel
theorem dX10_isCell_40 : decode cX10_isCell 40 = .ok (.iconst 0, 1) := by decide +kernel
theorem dX10_isCell_41 : decode cX10_isCell 41 = .ok (.ireturn, 1) := by decide +kernel
theorem dX10_cell_0 : decode cX10_cell 0 = .ok (.aload_n 0, 1) := by decide +kernel
theorem dX10_cell_1 : decode cX10_cell 1 = .ok (.iconst 0, 1) := by decide +kernel
theorem dX10_cell_2 : decode cX10_cell 2 = .ok (.putfield 1, 3) := by decide +kernel
theorem dX10_cell_5 : decode cX10_cell 5 = .ok (.aload_n 0, 1) := by decide +kernel
theorem dX10_cell_6 : decode cX10_cell 6 = .ok (.iload_n 1, 1) := by decide +kernel
theorem dX10_cell_7 : decode cX10_cell 7 = .ok (.iload_n 2, 1) := by decide +kernel
theorem dX10_cell_8 : decode cX10_cell 8 = .ok (.iload_n 3, 1) := by decide +kernel
theorem dX10_cell_9 : decode cX10_cell 9 = .ok (.invokevirtual 147, 3) := by decide +kernel
theorem dX10_cell_12 : decode cX10_cell 12 = .ok (.ifCond .eq 18, 3) := by decide +kernel
theorem dX10_cell_15 : decode cX10_cell 15 = .ok (.aload_n 0, 1) := by decide +kernel
theorem dX10_cell_16 : decode cX10_cell 16 = .ok (.getfield 23, 3) := by decide +kernel
theorem dX10_cell_19 : decode cX10_cell 19 = .ok (.aload_n 0, 1) := by decide +kernel
theorem dX10_cell_20 : decode cX10_cell 20 = .ok (.iload_n 1, 1) := by decide +kernel
theorem dX10_cell_21 : decode cX10_cell 21 = .ok (.iload_n 2, 1) := by decide +kernel
theorem dX10_cell_22 : decode cX10_cell 22 = .ok (.iload_n 3, 1) := by decide +kernel
theorem dX10_cell_23 : decode cX10_cell 23 = .ok (.invokevirtual 140, 3) := by decide +kernel
theorem dX10_cell_26 : decode cX10_cell 26 = .ok (.iaload, 1) := by decide +kernel
theorem dX10_cell_27 : decode cX10_cell 27 = .ok (.goto 8, 3) := by decide +kernel
theorem dX10_cell_30 : decode cX10_cell 30 = .ok (.aload_n 0, 1) := by decide +kernel
theorem dX10_cell_31 : decode cX10_cell 31 = .ok (.iconst 1, 1) := by decide +kernel
theorem dX10_cell_32 : decode cX10_cell 32 = .ok (.invokevirtual 118, 3) := by decide +kernel
theorem dX10_cell_35 : decode cX10_cell 35 = .ok (.ireturn, 1) := by decide +kernel
theorem dX10_set_0 : decode cX10_set 0 = .ok (.aload_n 0, 1) := by decide +kernel
theorem dX10_set_1 : decode cX10_set 1 = .ok (.iconst 0, 1) := by decide +kernel
theorem dX10_set_2 : decode cX10_set 2 = .ok (.putfield 1, 3) := by decide +kernel
theorem dX10_set_5 : decode cX10_set 5 = .ok (.aload_n 0, 1) := by decide +kernel
theorem dX10_set_6 : decode cX10_set 6 = .ok (.iload_n 1, 1) := by decide +kernel
theorem dX10_set_7 : decode cX10_set 7 = .ok (.iload_n 2, 1) := by decide +kernel
theorem dX10_set_8 : decode cX10_set 8 = .ok (.iload_n 3, 1) := by decide +kernel
theorem dX10_set_9 : decode cX10_set 9 = .ok (.invokevirtual 147, 3) := by decide +kernel
theorem dX10_set_12 : decode cX10_set 12 = .ok (.ifCond .ne 9, 3) := by decide +kernel
theorem dX10_set_15 : decode cX10_set 15 = .ok (.aload_n 0, 1) := by decide +kernel
theorem dX10_set_16 : decode cX10_set 16 = .ok (.iconst 1, 1) := by decide +kernel
theorem dX10_set_17 : decode cX10_set 17 = .ok (.invokevirtual 118, 3) := by decide +kernel
theorem dX10_set_20 : decode cX10_set 20 = .ok (.ireturn, 1) := by decide +kernel
theorem dX10_set_21 : decode cX10_set 21 = .ok (.aload_n 0, 1) := by decide +kernel
theorem dX10_set_22 : decode cX10_set 22 = .ok (.iload 4, 2) := by decide +kernel
theorem dX10_set_24 : decode cX10_set 24 = .ok (.invokevirtual 115, 3) := by decide +kernel
theorem dX10_set_27 : decode cX10_set 27 = .ok (.ifCond .ne 9, 3) := by decide +kernel
theorem dX10_set_30 : decode cX10_set 30 = .ok (.aload_n 0, 1) := by decide +kernel
theorem dX10_set_31 : decode cX10_set 31 = .ok (.iconst 2, 1) := by decide +kernel
theorem dX10_set_32 : decode cX10_set 32 = .ok (.invokevirtual 118, 3) := by decide +kernel
theorem dX10_set_35 : decode cX10_set 35 = .ok (.ireturn, 1) := by decide +kernel
theorem dX10_set_36 : decode cX10_set 36 = .ok (.aload_n 0, 1) := by decide +kernel
theorem dX10_set_37 : decode cX10_set 37 = .ok (.getfield 23, 3) := by decide +kernel
theorem dX10_set_40 : decode cX10_set 40 = .ok (.aload_n 0, 1) := by decide +kernel
theorem dX10_set_41 : decode cX10_set 41 = .ok (.iload_n 1, 1) := by decide +kernel
theorem dX10_set_42 : decode cX10_set 42 = .ok (.iload_n 2, 1) := by decide +kernel
theorem dX10_set_43 : decode cX10_set 43 = .ok (.iload_n 3, 1) := by decide +kernel
theorem dX10_set_44 : decode cX10_set 44 = .ok (.invokevirtual 140, 3) := by decide +kernel
theorem dX10_set_47 : decode cX10_set 47 = .ok (.iaload, 1) := by decide +kernel
theorem dX10_set_48 : decode cX10_set 48 = .ok (.istore 5, 2) := by decide +kernel
theorem dX10_set_50 : decode cX10_set 50 = .ok (.aload_n 0, 1) := by decide +kernel
theorem dX10_set_51 : decode cX10_set 51 = .ok (.getfield 23, 3) := by decide +kernel
theorem dX10_set_54 : decode cX10_set 54 = .ok (.aload_n 0, 1) := by decide +kernel
theorem dX10_set_55 : decode cX10_set 55 = .ok (.iload_n 1, 1) := by decide +kernel
theorem dX10_set_56 : decode cX10_set 56 = .ok (.iload_n 2, 1) := by decide +kernel
theorem dX10_set_57 : decode cX10_set 57 = .ok (.iload_n 3, 1) := by decide +kernel
theorem dX10_set_58 : decode cX10_set 58 = .ok (.invokevirtual 140, 3) := by decide +kernel
theorem dX10_set_61 : decode cX10_set 61 = .ok (.iload 4, 2) := by decide +kernel
theorem dX10_set_63 : decode cX10_set 63 = .ok (.iastore, 1) := by decide +kernel
theorem dX10_set_64 : decode cX10_set 64 = .ok (.iload 5, 2) := by decide +kernel
theorem dX10_set_66 : decode cX10_set 66 = .ok (.ireturn, 1) := by decide +kernel
theorem dX10_times_0 : decode cX10_times 0 = .ok (.aload_n 0, 1) := by decide +kernel
theorem dX10_times_1 : decode cX10_times 1 = .ok (.iconst 0, 1) := by decide +kernel
theorem dX10_times_2 : decode cX10_times 2 = .ok (.putfield 1, 3) := by decide +kernel
theorem dX10_times_5 : decode cX10_times 5 = .ok (.aload_n 0, 1) := by decide +kernel
theorem dX10_times_6 : decode cX10_times 6 = .ok (.iload_n 1, 1) := by decide +kernel
theorem dX10_times_7 : decode cX10_times 7 = .ok (.invokevirtual 144, 3) := by decide +kernel
theorem dX10_times_10 : decode cX10_times 10 = .ok (.ifCond .eq 11, 3) := by decide +kernel
theorem dX10_times_13 : decode cX10_times 13 = .ok (.aload_n 0, 1) := by decide +kernel
theorem dX10_times_14 : decode cX10_times 14 = .ok (.iload_n 2, 1) := by decide +kernel
theorem dX10_times_15 : decode cX10_times 15 = .ok (.invokevirtual 144, 3) := by decide +kernel
theorem dX10_times_18 : decode cX10_times 18 = .ok (.ifCond .ne 9, 3) := by decide +kernel
theorem dX10_times_21 : decode cX10_times 21 = .ok (.aload_n 0, 1) := by decide +kernel
theorem dX10_times_22 : decode cX10_times 22 = .ok (.iconst 1, 1) := by decide +kernel
theorem dX10_times_23 : decode cX10_times 23 = .ok (.invokevirtual 118, 3) := by decide +kernel
theorem dX10_times_26 : decode cX10_times 26 = .ok (.ireturn, 1) := by decide +kernel
theorem dX10_times_27 : decode cX10_times 27 = .ok (.aload_n 0, 1) := by decide +kernel
theorem dX10_times_28 : decode cX10_times 28 = .ok (.getfield 20, 3) := by decide +kernel
theorem dX10_times_31 : decode cX10_times 31 = .ok (.iload_n 1, 1) := by decide +kernel
theorem dX10_times_32 : decode cX10_times 32 = .ok (.iaload, 1) := by decide +kernel
theorem dX10_times_33 : decode cX10_times 33 = .ok (.aload_n 0, 1) := by decide +kernel
theorem dX10_times_34 : decode cX10_times 34 = .ok (.getfield 17, 3) := by decide +kernel
theorem dX10_times_37 : decode cX10_times 37 = .ok (.iload_n 2, 1) := by decide +kernel
theorem dX10_times_38 : decode cX10_times 38 = .ok (.iaload, 1) := by decide +kernel
theorem dX10_times_39 : decode cX10_times 39 = .ok (.if_icmp .eq 9, 3) := by decide +kernel
theorem dX10_times_42 : decode cX10_times 42 = .ok (.aload_n 0, 1) := by decide +kernel
theorem dX10_times_43 : decode cX10_times 43 = .ok (.iconst 2, 1) := by decide +kernel
theorem dX10_times_44 : decode cX10_times 44 = .ok (.invokevirtual 118, 3) := by decide +kernel
theorem dX10_times_47 : decode cX10_times 47 = .ok (.ireturn, 1) := by decide +kernel
theorem dX10_times_48 : decode cX10_times 48 = .ok (.aload_n 0, 1) := by decide +kernel
theorem dX10_times_49 : decode cX10_times 49 = .ok (.getfield 127, 3) := by decide +kernel
theorem dX10_times_52 : decode cX10_times 52 = .ok (.bipush 40, 2) := by decide +kernel
theorem dX10_times_54 : decode cX10_times 54 = .ok (.if_icmp .ne 9, 3) := by decide +kernel
theorem dX10_times_57 : decode cX10_times 57 = .ok (.aload_n 0, 1) := by decide +kernel
theorem dX10_times_58 : decode cX10_times 58 = .ok (.iconst 3, 1) := by decide +kernel
theorem dX10_times_59 : decode cX10_times 59 = .ok (.invokevirtual 118, 3) := by decide +kernel
theorem dX10_times_62 : decode cX10_times 62 = .ok (.ireturn, 1) := by decide +kernel
theorem dX10_times_63 : decode cX10_times 63 = .ok (.aload_n 0, 1) := by decide +kernel
theorem dX10_times_64 : decode cX10_times 64 = .ok (.aload_n 0, 1) := by decide +kernel
theorem dX10_times_65 : decode cX10_times 65 = .ok (.getfield 17, 3) := by decide +kernel
theorem dX10_times_68 : decode cX10_times 68 = .ok (.iload_n 1, 1) := by decide +kernel
theorem dX10_times_69 : decode cX10_times 69 = .ok (.iaload, 1) := by decide +kernel
theorem dX10_times_70 : decode cX10_times 70 = .ok (.aload_n 0, 1) := by decide +kernel
theorem dX10_times_71 : decode cX10_times 71 = .ok (.getfield 20, 3) := by decide +kernel
theorem dX10_times_74 : decode cX10_times 74 = .ok (.iload_n 2, 1) := by decide +kernel
theorem dX10_times_75 : decode cX10_times 75 = .ok (.iaload, 1) := by decide +kernel
theorem dX10_times_76 : decode cX10_times 76 = .ok (.invokevirtual 133, 3) := by decide +kernel
theorem dX10_times_79 : decode cX10_times 79 = .ok (.istore_n 3, 1) := by decide +kernel
theorem dX10_times_80 : decode cX10_times 80 = .ok (.iconst 0, 1) := by decide +kernel
theorem dX10_times_81 : decode cX10_times 81 = .ok (.istore 4, 2) := by decide +kernel
theorem dX10_times_83 : decode cX10_times 83 = .ok (.iload 4, 2) := by decide +kernel
theorem dX10_times_85 : decode cX10_times 85 = .ok (.aload_n 0, 1) := by decide +kernel
theorem dX10_times_86 : decode cX10_times 86 = .ok (.getfield 17, 3) := by decide +kernel
theorem dX10_times_89 : decode cX10_times 89 = .ok (.iload_n 1, 1) := by decide +kernel
theorem dX10_times_90 : decode cX10_times 90 = .ok (.iaload, 1) := by decide +kernel
theorem dX10_times_91 : decode cX10_times 91 = .ok (.if_icmp .ge 105, 3) := by decide +kernel
theorem dX10_times_94 : decode cX10_times 94 = .ok (.iconst 0, 1) := by decide +kernel
theorem dX10_times_95 : decode cX10_times 95 = .ok (.istore 5, 2) := by decide +kernel
theorem dX10_times_97 : decode cX10_times 97 = .ok (.iload 5, 2) := by decide +kernel
theorem dX10_times_99 : decode cX10_times 99 = .ok (.aload_n 0, 1) := by decide +kernel
theorem dX10_times_100 : decode cX10_times 100 = .ok (.getfield 20, 3) := by decide +kernel
theorem dX10_times_103 : decode cX10_times 103 = .ok (.iload_n 2, 1) := by decide +kernel
theorem dX10_times_104 : decode cX10_times 104 = .ok (.iaload, 1) := by decide +kernel
theorem dX10_times_105 : decode cX10_times 105 = .ok (.if_icmp .ge 85, 3) := by decide +kernel
theorem dX10_times_108 : decode cX10_times 108 = .ok (.iconst 0, 1) := by decide +kernel
theorem dX10_times_109 : decode cX10_times 109 = .ok (.istore 6, 2) := by decide +kernel
theorem dX10_times_111 : decode cX10_times 111 = .ok (.iconst 0, 1) := by decide +kernel
theorem dX10_times_112 : decode cX10_times 112 = .ok (.istore 7, 2) := by decide +kernel
theorem dX10_times_114 : decode cX10_times 114 = .ok (.iload 7, 2) := by decide +kernel
theorem dX10_times_116 : decode cX10_times 116 = .ok (.aload_n 0, 1) := by decide +kernel
theorem dX10_times_117 : decode cX10_times 117 = .ok (.getfield 20, 3) := by decide +kernel
theorem dX10_times_120 : decode cX10_times 120 = .ok (.iload_n 1, 1) := by decide +kernel
theorem dX10_times_121 : decode cX10_times 121 = .ok (.iaload, 1) := by decide +kernel
theorem dX10_times_122 : decode cX10_times 122 = .ok (.if_icmp .ge 46, 3) := by decide +kernel
theorem dX10_times_125 : decode cX10_times 125 = .ok (.iload 6, 2) := by decide +kernel
theorem dX10_times_127 : decode cX10_times 127 = .ok (.aload_n 0, 1) := by decide +kernel
theorem dX10_times_128 : decode cX10_times 128 = .ok (.aload_n 0, 1) := by decide +kernel
theorem dX10_times_129 : decode cX10_times 129 = .ok (.getfield 23, 3) := by decide +kernel
theorem dX10_times_132 : decode cX10_times 132 = .ok (.aload_n 0, 1) := by decide +kernel
theorem dX10_times_133 : decode cX10_times 133 = .ok (.iload_n 1, 1) := by decide +kernel
theorem dX10_times_134 : decode cX10_times 134 = .ok (.iload 4, 2) := by decide +kernel
theorem dX10_times_136 : decode cX10_times 136 = .ok (.iload 7, 2) := by decide +kernel
theorem dX10_times_138 : decode cX10_times 138 = .ok (.invokevirtual 140, 3) := by decide +kernel
theorem dX10_times_141 : decode cX10_times 141 = .ok (.iaload, 1) := by decide +kernel
theorem dX10_times_142 : decode cX10_times 142 = .ok (.aload_n 0, 1) := by decide +kernel
theorem dX10_times_143 : decode cX10_times 143 = .ok (.getfield 23, 3) := by decide +kernel
theorem dX10_times_146 : decode cX10_times 146 = .ok (.aload_n 0, 1) := by decide +kernel
theorem dX10_times_147 : decode cX10_times 147 = .ok (.iload_n 2, 1) := by decide +kernel
theorem dX10_times_148 : decode cX10_times 148 = .ok (.iload 7, 2) := by decide +kernel
theorem dX10_times_150 : decode cX10_times 150 = .ok (.iload 5, 2) := by decide +kernel
theorem dX10_times_152 : decode cX10_times 152 = .ok (.invokevirtual 140, 3) := by decide +kernel
theorem dX10_times_155 : decode cX10_times 155 = .ok (.iaload, 1) := by decide +kernel
theorem dX10_times_156 : decode cX10_times 156 = .ok (.invokevirtual 102, 3) := by decide +kernel
theorem dX10_times_159 : decode cX10_times 159 = .ok (.ixor, 1) := by decide +kernel
theorem dX10_times_160 : decode cX10_times 160 = .ok (.istore 6, 2) := by decide +kernel
theorem dX10_times_162 : decode cX10_times 162 = .ok (.iinc 7 1, 3) := by decide +kernel
theorem dX10_times_165 : decode cX10_times 165 = .ok (.goto (-51), 3) := by decide +kernel
theorem dX10_times_168 : decode cX10_times 168 = .ok (.aload_n 0, 1) := by decide +kernel
theorem dX10_times_169 : decode cX10_times 169 = .ok (.getfield 23, 3) := by decide +kernel
theorem dX10_times_172 : decode cX10_times 172 = .ok (.aload_n 0, 1) := by decide +kernel
theorem dX10_times_173 : decode cX10_times 173 = .ok (.iload_n 3, 1) := by decide +kernel
theorem dX10_times_174 : decode cX10_times 174 = .ok (.iload 4, 2) := by decide +kernel
theorem dX10_times_176 : decode cX10_times 176 = .ok (.iload 5, 2) := by decide +kernel
theorem dX10_times_178 : decode cX10_times 178 = .ok (.invokevirtual 140, 3) := by decide +kernel
theorem dX10_times_181 : decode cX10_times 181 = .ok (.iload 6, 2) := by decide +kernel
theorem dX10_times_183 : decode cX10_times 183 = .ok (.iastore, 1) := by decide +kernel
theorem dX10_times_184 : decode cX10_times 184 = .ok (.iinc 5 1, 3) := by decide +kernel
theorem dX10_times_187 : decode cX10_times 187 = .ok (.goto (-90), 3) := by decide +kernel
theorem dX10_times_190 : decode cX10_times 190 = .ok (.iinc 4 1, 3) := by decide +kernel
theorem dX10_times_193 : decode cX10_times 193 = .ok (.goto (-110), 3) := by decide +kernel
theorem dX10_times_196 : decode cX10_times 196 = .ok (.iload_n 3, 1) := by decide +kernel
theorem dX10_times_197 : decode cX10_times 197 = .ok (.ireturn, 1) := by decide +kernel
theorem dX10_bitsOf_0 : decode cX10_bitsOf 0 = .ok (.iconst 0, 1) := by decide +kernel
theorem dX10_bitsOf_1 : decode cX10_bitsOf 1 = .ok (.istore_n 1, 1) := by decide +kernel
theorem dX10_bitsOf_2 : decode cX10_bitsOf 2 = .ok (.iconst 0, 1) := by decide +kernel
theorem dX10_bitsOf_3 : decode cX10_bitsOf 3 = .ok (.istore_n 2, 1) := by decide +kernel
theorem dX10_bitsOf_4 : decode cX10_bitsOf 4 = .ok (.iload_n 2, 1) := by decide +kernel
theorem dX10_bitsOf_5 : decode cX10_bitsOf 5 = .ok (.bipush 8, 2) := by decide +kernel
theorem dX10_bitsOf_7 : decode cX10_bitsOf 7 = .ok (.if_icmp .ge 17, 3) := by decide +kernel
theorem dX10_bitsOf_10 : decode cX10_bitsOf 10 = .ok (.iload_n 1, 1) := by decide +kernel
theorem dX10_bitsOf_11 : decode cX10_bitsOf 11 = .ok (.iload_n 0, 1) := by decide +kernel
theorem dX10_bitsOf_12 : decode cX10_bitsOf 12 = .ok (.iload_n 2, 1) := by decide +kernel
theorem dX10_bitsOf_13 : decode cX10_bitsOf 13 = .ok (.ishr, 1) := by decide +kernel
theorem dX10_bitsOf_14 : decode cX10_bitsOf 14 = .ok (.iconst 1, 1) := by decide +kernel
theorem dX10_bitsOf_15 : decode cX10_bitsOf 15 = .ok (.iand, 1) := by decide +kernel
theorem dX10_bitsOf_16 : decode cX10_bitsOf 16 = .ok (.iadd, 1) := by decide +kernel
theorem dX10_bitsOf_17 : decode cX10_bitsOf 17 = .ok (.istore_n 1, 1) := by decide +kernel
theorem dX10_bitsOf_18 : decode cX10_bitsOf 18 = .ok (.iinc 2 1, 3) := by decide +kernel
theorem dX10_bitsOf_21 : decode cX10_bitsOf 21 = .ok (.goto (-17), 3) := by decide +kernel
theorem dX10_bitsOf_24 : decode cX10_bitsOf 24 = .ok (.iload_n 1, 1) := by decide +kernel
theorem dX10_bitsOf_25 : decode cX10_bitsOf 25 = .ok (.ireturn, 1) := by decide +kernel
theorem dX10_minors_0 : decode cX10_minors 0 = .ok (.iconst 0, 1) := by decide +kernel
theorem dX10_minors_1 : decode cX10_minors 1 = .ok (.istore_n 2, 1) := by decide +kernel
theorem dX10_minors_2 : decode cX10_minors 2 = .ok (.iload_n 2, 1) := by decide +kernel
theorem dX10_minors_3 : decode cX10_minors 3 = .ok (.iconst 1, 1) := by decide +kernel
theorem dX10_minors_4 : decode cX10_minors 4 = .ok (.aload_n 0, 1) := by decide +kernel
theorem dX10_minors_5 : decode cX10_minors 5 = .ok (.getfield 17, 3) := by decide +kernel
theorem dX10_minors_8 : decode cX10_minors 8 = .ok (.iload_n 1, 1) := by decide +kernel
theorem dX10_minors_9 : decode cX10_minors 9 = .ok (.iaload, 1) := by decide +kernel
theorem dX10_minors_10 : decode cX10_minors 10 = .ok (.ishl, 1) := by decide +kernel
theorem dX10_minors_11 : decode cX10_minors 11 = .ok (.if_icmp .ge 156, 3) := by decide +kernel
theorem dX10_minors_14 : decode cX10_minors 14 = .ok (.iload_n 2, 1) := by decide +kernel
theorem dX10_minors_15 : decode cX10_minors 15 = .ok (.invokestatic 99, 3) := by decide +kernel
theorem dX10_minors_18 : decode cX10_minors 18 = .ok (.istore_n 3, 1) := by decide +kernel
theorem dX10_minors_19 : decode cX10_minors 19 = .ok (.iconst 0, 1) := by decide +kernel
theorem dX10_minors_20 : decode cX10_minors 20 = .ok (.istore 4, 2) := by decide +kernel
theorem dX10_minors_22 : decode cX10_minors 22 = .ok (.iload 4, 2) := by decide +kernel
theorem dX10_minors_24 : decode cX10_minors 24 = .ok (.iconst 1, 1) := by decide +kernel
theorem dX10_minors_25 : decode cX10_minors 25 = .ok (.aload_n 0, 1) := by decide +kernel
theorem dX10_minors_26 : decode cX10_minors 26 = .ok (.getfield 20, 3) := by decide +kernel
theorem dX10_minors_29 : decode cX10_minors 29 = .ok (.iload_n 1, 1) := by decide +kernel
theorem dX10_minors_30 : decode cX10_minors 30 = .ok (.iaload, 1) := by decide +kernel
theorem dX10_minors_31 : decode cX10_minors 31 = .ok (.ishl, 1) := by decide +kernel
theorem dX10_minors_32 : decode cX10_minors 32 = .ok (.if_icmp .ge 129, 3) := by decide +kernel
theorem dX10_minors_35 : decode cX10_minors 35 = .ok (.iload_n 2, 1) := by decide +kernel
theorem dX10_minors_36 : decode cX10_minors 36 = .ok (.ifCond .ne 12, 3) := by decide +kernel
theorem dX10_minors_39 : decode cX10_minors 39 = .ok (.iload 4, 2) := by decide +kernel
theorem dX10_minors_41 : decode cX10_minors 41 = .ok (.ifCond .ne 7, 3) := by decide +kernel
theorem dX10_minors_44 : decode cX10_minors 44 = .ok (.iconst 1, 1) := by decide +kernel
theorem dX10_minors_45 : decode cX10_minors 45 = .ok (.goto 4, 3) := by decide +kernel
theorem dX10_minors_48 : decode cX10_minors 48 = .ok (.iconst 0, 1) := by decide +kernel
theorem dX10_minors_49 : decode cX10_minors 49 = .ok (.istore 5, 2) := by decide +kernel
theorem dX10_minors_51 : decode cX10_minors 51 = .ok (.iload_n 2, 1) := by decide +kernel
theorem dX10_minors_52 : decode cX10_minors 52 = .ok (.ifCond .eq 89, 3) := by decide +kernel
theorem dX10_minors_55 : decode cX10_minors 55 = .ok (.iload_n 2, 1) := by decide +kernel
theorem dX10_minors_56 : decode cX10_minors 56 = .ok (.invokestatic 151, 3) := by decide +kernel
theorem dX10_minors_59 : decode cX10_minors 59 = .ok (.iload 4, 2) := by decide +kernel
theorem dX10_minors_61 : decode cX10_minors 61 = .ok (.invokestatic 151, 3) := by decide +kernel
theorem dX10_minors_64 : decode cX10_minors 64 = .ok (.if_icmp .ne 77, 3) := by decide +kernel
theorem dX10_minors_67 : decode cX10_minors 67 = .ok (.iconst 0, 1) := by decide +kernel
theorem dX10_minors_68 : decode cX10_minors 68 = .ok (.istore 6, 2) := by decide +kernel
theorem dX10_minors_70 : decode cX10_minors 70 = .ok (.iload 6, 2) := by decide +kernel
theorem dX10_minors_72 : decode cX10_minors 72 = .ok (.aload_n 0, 1) := by decide +kernel
theorem dX10_minors_73 : decode cX10_minors 73 = .ok (.getfield 20, 3) := by decide +kernel
theorem dX10_minors_76 : decode cX10_minors 76 = .ok (.iload_n 1, 1) := by decide +kernel
theorem dX10_minors_77 : decode cX10_minors 77 = .ok (.iaload, 1) := by decide +kernel
theorem dX10_minors_78 : decode cX10_minors 78 = .ok (.if_icmp .ge 63, 3) := by decide +kernel
theorem dX10_minors_81 : decode cX10_minors 81 = .ok (.iload 4, 2) := by decide +kernel
theorem dX10_minors_83 : decode cX10_minors 83 = .ok (.iload 6, 2) := by decide +kernel
theorem dX10_minors_85 : decode cX10_minors 85 = .ok (.ishr, 1) := by decide +kernel
theorem dX10_minors_86 : decode cX10_minors 86 = .ok (.iconst 1, 1) := by decide +kernel
theorem dX10_minors_87 : decode cX10_minors 87 = .ok (.iand, 1) := by decide +kernel
theorem dX10_minors_88 : decode cX10_minors 88 = .ok (.iconst 1, 1) := by decide +kernel
theorem dX10_minors_89 : decode cX10_minors 89 = .ok (.if_icmp .ne 46, 3) := by decide +kernel
theorem dX10_minors_92 : decode cX10_minors 92 = .ok (.iload 5, 2) := by decide +kernel
theorem dX10_minors_94 : decode cX10_minors 94 = .ok (.aload_n 0, 1) := by decide +kernel
theorem dX10_minors_95 : decode cX10_minors 95 = .ok (.aload_n 0, 1) := by decide +kernel
theorem dX10_minors_96 : decode cX10_minors 96 = .ok (.getfield 23, 3) := by decide +kernel
theorem dX10_minors_99 : decode cX10_minors 99 = .ok (.aload_n 0, 1) := by decide +kernel
theorem dX10_minors_100 : decode cX10_minors 100 = .ok (.iload_n 1, 1) := by decide +kernel
theorem dX10_minors_101 : decode cX10_minors 101 = .ok (.iload_n 3, 1) := by decide +kernel
theorem dX10_minors_102 : decode cX10_minors 102 = .ok (.iload 6, 2) := by decide +kernel
theorem dX10_minors_104 : decode cX10_minors 104 = .ok (.invokevirtual 140, 3) := by decide +kernel
theorem dX10_minors_107 : decode cX10_minors 107 = .ok (.iaload, 1) := by decide +kernel
theorem dX10_minors_108 : decode cX10_minors 108 = .ok (.aload_n 0, 1) := by decide +kernel
theorem dX10_minors_109 : decode cX10_minors 109 = .ok (.getfield 27, 3) := by decide +kernel
theorem dX10_minors_112 : decode cX10_minors 112 = .ok (.iload_n 2, 1) := by decide +kernel
theorem dX10_minors_113 : decode cX10_minors 113 = .ok (.iconst 1, 1) := by decide +kernel
theorem dX10_minors_114 : decode cX10_minors 114 = .ok (.iload_n 3, 1) := by decide +kernel
theorem dX10_minors_115 : decode cX10_minors 115 = .ok (.ishl, 1) := by decide +kernel
theorem dX10_minors_116 : decode cX10_minors 116 = .ok (.ixor, 1) := by decide +kernel
theorem dX10_minors_117 : decode cX10_minors 117 = .ok (.bipush 8, 2) := by decide +kernel
theorem dX10_minors_119 : decode cX10_minors 119 = .ok (.ishl, 1) := by decide +kernel
theorem dX10_minors_120 : decode cX10_minors 120 = .ok (.iload 4, 2) := by decide +kernel
theorem dX10_minors_122 : decode cX10_minors 122 = .ok (.iconst 1, 1) := by decide +kernel
theorem dX10_minors_123 : decode cX10_minors 123 = .ok (.iload 6, 2) := by decide +kernel
theorem dX10_minors_125 : decode cX10_minors 125 = .ok (.ishl, 1) := by decide +kernel
theorem dX10_minors_126 : decode cX10_minors 126 = .ok (.ixor, 1) := by decide +kernel
theorem dX10_minors_127 : decode cX10_minors 127 = .ok (.ior, 1) := by decide +kernel
theorem dX10_minors_128 : decode cX10_minors 128 = .ok (.iaload, 1) := by decide +kernel
theorem dX10_minors_129 : decode cX10_minors 129 = .ok (.invokevirtual 102, 3) := by decide +kernel
theorem dX10_minors_132 : decode cX10_minors 132 = .ok (.ixor, 1) := by decide +kernel
theorem dX10_minors_133 : decode cX10_minors 133 = .ok (.istore 5, 2) := by decide +kernel
theorem dX10_minors_135 : decode cX10_minors 135 = .ok (.iinc 6 1, 3) := by decide +kernel
theorem dX10_minors_138 : decode cX10_minors 138 = .ok (.goto (-68), 3) := by decide +kernel
theorem dX10_minors_141 : decode cX10_minors 141 = .ok (.aload_n 0, 1) := by decide +kernel
theorem dX10_minors_142 : decode cX10_minors 142 = .ok (.getfield 27, 3) := by decide +kernel
theorem dX10_minors_145 : decode cX10_minors 145 = .ok (.iload_n 2, 1) := by decide +kernel
theorem dX10_minors_146 : decode cX10_minors 146 = .ok (.bipush 8, 2) := by decide +kernel
theorem dX10_minors_148 : decode cX10_minors 148 = .ok (.ishl, 1) := by decide +kernel
theorem dX10_minors_149 : decode cX10_minors 149 = .ok (.iload 4, 2) := by decide +kernel
theorem dX10_minors_151 : decode cX10_minors 151 = .ok (.ior, 1) := by decide +kernel
theorem dX10_minors_152 : decode cX10_minors 152 = .ok (.iload 5, 2) := by decide +kernel
theorem dX10_minors_154 : decode cX10_minors 154 = .ok (.iastore, 1) := by decide +kernel
theorem dX10_minors_155 : decode cX10_minors 155 = .ok (.iinc 4 1, 3) := by decide +kernel
theorem dX10_minors_158 : decode cX10_minors 158 = .ok (.goto (-136), 3) := by decide +kernel
theorem dX10_minors_161 : decode cX10_minors 161 = .ok (.iinc 2 1, 3) := by decide +kernel
theorem dX10_minors_164 : decode cX10_minors 164 = .ok (.goto (-162), 3) := by decide +kernel
theorem dX10_minors_167 : decode cX10_minors 167 = .ok (.return_, 1) := by decide +kernel
theorem dX10_singular_0 : decode cX10_singular 0 = .ok (.aload_n 0, 1) := by decide +kernel
theorem dX10_singular_1 : decode cX10_singular 1 = .ok (.iconst 0, 1) := by decide +kernel
theorem dX10_singular_2 : decode cX10_singular 2 = .ok (.putfield 1, 3) := by decide +kernel
theorem dX10_singular_5 : decode cX10_singular 5 = .ok (.aload_n 0, 1) := by decide +kernel
theorem dX10_singular_6 : decode cX10_singular 6 = .ok (.iload_n 1, 1) := by decide +kernel
theorem dX10_singular_7 : decode cX10_singular 7 = .ok (.invokevirtual 144, 3) := by decide +kernel
theorem dX10_singular_10 : decode cX10_singular 10 = .ok (.ifCond .ne 9, 3) := by decide +kernel
theorem dX10_singular_13 : decode cX10_singular 13 = .ok (.aload_n 0, 1) := by decide +kernel
theorem dX10_singular_14 : decode cX10_singular 14 = .ok (.iconst 1, 1) := by decide +kernel
theorem dX10_singular_15 : decode cX10_singular 15 = .ok (.invokevirtual 118, 3) := by decide +kernel
theorem dX10_singular_18 : decode cX10_singular 18 = .ok (.ireturn, 1) := by decide +kernel
theorem dX10_singular_19 : decode cX10_singular 19 = .ok (.aload_n 0, 1) := by decide +kernel
theorem dX10_singular_20 : decode cX10_singular 20 = .ok (.iload_n 1, 1) := by decide +kernel
theorem dX10_singular_21 : decode cX10_singular 21 = .ok (.invokevirtual 154, 3) := by decide +kernel
theorem dX10_singular_24 : decode cX10_singular 24 = .ok (.iconst 0, 1) := by decide +kernel
theorem dX10_singular_25 : decode cX10_singular 25 = .ok (.istore_n 2, 1) := by decide +kernel
theorem dX10_singular_26 : decode cX10_singular 26 = .ok (.iconst 1, 1) := by decide +kernel
theorem dX10_singular_27 : decode cX10_singular 27 = .ok (.istore_n 3, 1) := by decide +kernel
theorem dX10_singular_28 : decode cX10_singular 28 = .ok (.iload_n 3, 1) := by decide +kernel
theorem dX10_singular_29 : decode cX10_singular 29 = .ok (.iconst 1, 1) := by decide +kernel
theorem dX10_singular_30 : decode cX10_singular 30 = .ok (.aload_n 0, 1) := by decide +kernel
theorem dX10_singular_31 : decode cX10_singular 31 = .ok (.getfield 17, 3) := by decide +kernel
theorem dX10_singular_34 : decode cX10_singular 34 = .ok (.iload_n 1, 1) := by decide +kernel
theorem dX10_singular_35 : decode cX10_singular 35 = .ok (.iaload, 1) := by decide +kernel
theorem dX10_singular_36 : decode cX10_singular 36 = .ok (.ishl, 1) := by decide +kernel
theorem dX10_singular_37 : decode cX10_singular 37 = .ok (.if_icmp .ge 66, 3) := by decide +kernel
theorem dX10_singular_40 : decode cX10_singular 40 = .ok (.iconst 1, 1) := by decide +kernel
theorem dX10_singular_41 : decode cX10_singular 41 = .ok (.istore 4, 2) := by decide +kernel
theorem dX10_singular_43 : decode cX10_singular 43 = .ok (.iload 4, 2) := by decide +kernel
theorem dX10_singular_45 : decode cX10_singular 45 = .ok (.iconst 1, 1) := by decide +kernel
theorem dX10_singular_46 : decode cX10_singular 46 = .ok (.aload_n 0, 1) := by decide +kernel
theorem dX10_singular_47 : decode cX10_singular 47 = .ok (.getfield 20, 3) := by decide +kernel
theorem dX10_singular_50 : decode cX10_singular 50 = .ok (.iload_n 1, 1) := by decide +kernel
theorem dX10_singular_51 : decode cX10_singular 51 = .ok (.iaload, 1) := by decide +kernel
theorem dX10_singular_52 : decode cX10_singular 52 = .ok (.ishl, 1) := by decide +kernel
theorem dX10_singular_53 : decode cX10_singular 53 = .ok (.if_icmp .ge 44, 3) := by decide +kernel
theorem dX10_singular_56 : decode cX10_singular 56 = .ok (.iload_n 2, 1) := by decide +kernel
theorem dX10_singular_57 : decode cX10_singular 57 = .ok (.iload_n 3, 1) := by decide +kernel
theorem dX10_singular_58 : decode cX10_singular 58 = .ok (.invokestatic 151, 3) := by decide +kernel
theorem dX10_singular_61 : decode cX10_singular 61 = .ok (.iload 4, 2) := by decide +kernel
theorem dX10_singular_63 : decode cX10_singular 63 = .ok (.invokestatic 151, 3) := by decide +kernel
theorem dX10_singular_66 : decode cX10_singular 66 = .ok (.if_icmp .ne 22, 3) := by decide +kernel
theorem dX10_singular_69 : decode cX10_singular 69 = .ok (.aload_n 0, 1) := by decide +kernel
theorem dX10_singular_70 : decode cX10_singular 70 = .ok (.getfield 27, 3) := by decide +kernel
theorem dX10_singular_73 : decode cX10_singular 73 = .ok (.iload_n 3, 1) := by decide +kernel
theorem dX10_singular_74 : decode cX10_singular 74 = .ok (.bipush 8, 2) := by decide +kernel
theorem dX10_singular_76 : decode cX10_singular 76 = .ok (.ishl, 1) := by decide +kernel
theorem dX10_singular_77 : decode cX10_singular 77 = .ok (.iload 4, 2) := by decide +kernel
theorem dX10_singular_79 : decode cX10_singular 79 = .ok (.ior, 1) := by decide +kernel
theorem dX10_singular_80 : decode cX10_singular 80 = .ok (.iaload, 1) := by decide +kernel
theorem dX10_singular_81 : decode cX10_singular 81 = .ok (.ifCond .ne 7, 3) := by decide +kernel
theorem dX10_singular_84 : decode cX10_singular 84 = .ok (.iconst 1, 1) := by decide +kernel
theorem dX10_singular_85 : decode cX10_singular 85 = .ok (.goto 4, 3) := by decide +kernel
theorem dX10_singular_88 : decode cX10_singular 88 = .ok (.iconst 0, 1) := by decide +kernel
theorem dX10_singular_89 : decode cX10_singular 89 = .ok (.iadd, 1) := by decide +kernel
theorem dX10_singular_90 : decode cX10_singular 90 = .ok (.istore_n 2, 1) := by decide +kernel
theorem dX10_singular_91 : decode cX10_singular 91 = .ok (.iinc 4 1, 3) := by decide +kernel
theorem dX10_singular_94 : decode cX10_singular 94 = .ok (.goto (-51), 3) := by decide +kernel
theorem dX10_singular_97 : decode cX10_singular 97 = .ok (.iinc 3 1, 3) := by decide +kernel
theorem dX10_singular_100 : decode cX10_singular 100 = .ok (.goto (-72), 3) := by decide +kernel
theorem dX10_singular_103 : decode cX10_singular 103 = .ok (.iload_n 2, 1) := by decide +kernel
theorem dX10_singular_104 : decode cX10_singular 104 = .ok (.ireturn, 1) := by decide +kernel
theorem dX10_determinant_0 : decode cX10_determinant 0 = .ok (.aload_n 0, 1) := by decide +kernel
theorem dX10_determinant_1 : decode cX10_determinant 1 = .ok (.iconst 0, 1) := by decide +kernel
theorem dX10_determinant_2 : decode cX10_determinant 2 = .ok (.putfield 1, 3) := by decide +kernel
theorem dX10_determinant_5 : decode cX10_determinant 5 = .ok (.aload_n 0, 1) := by decide +kernel
theorem dX10_determinant_6 : decode cX10_determinant 6 = .ok (.iload_n 1, 1) := by decide +kernel
theorem dX10_determinant_7 : decode cX10_determinant 7 = .ok (.invokevirtual 144, 3) := by decide +kernel
theorem dX10_determinant_10 : decode cX10_determinant 10 = .ok (.ifCond .ne 9, 3) := by decide +kernel
theorem dX10_determinant_13 : decode cX10_determinant 13 = .ok (.aload_n 0, 1) := by decide +kernel
theorem dX10_determinant_14 : decode cX10_determinant 14 = .ok (.iconst 1, 1) := by decide +kernel
theorem dX10_determinant_15 : decode cX10_determinant 15 = .ok (.invokevirtual 118, 3) := by decide +kernel
theorem dX10_determinant_18 : decode cX10_determinant 18 = .ok (.ireturn, 1) := by decide +kernel
theorem dX10_determinant_19 : decode cX10_determinant 19 = .ok (.aload_n 0, 1) := by decide +kernel
theorem dX10_determinant_20 : decode cX10_determinant 20 = .ok (.getfield 17, 3) := by decide +kernel
theorem dX10_determinant_23 : decode cX10_determinant 23 = .ok (.iload_n 1, 1) := by decide +kernel
theorem dX10_determinant_24 : decode cX10_determinant 24 = .ok (.iaload, 1) := by decide +kernel
theorem dX10_determinant_25 : decode cX10_determinant 25 = .ok (.aload_n 0, 1) := by decide +kernel
theorem dX10_determinant_26 : decode cX10_determinant 26 = .ok (.getfield 20, 3) := by decide +kernel
theorem dX10_determinant_29 : decode cX10_determinant 29 = .ok (.iload_n 1, 1) := by decide +kernel
theorem dX10_determinant_30 : decode cX10_determinant 30 = .ok (.iaload, 1) := by decide +kernel
theorem dX10_determinant_31 : decode cX10_determinant 31 = .ok (.if_icmp .eq 9, 3) := by decide +kernel
theorem dX10_determinant_34 : decode cX10_determinant 34 = .ok (.aload_n 0, 1) := by decide +kernel
theorem dX10_determinant_35 : decode cX10_determinant 35 = .ok (.iconst 2, 1) := by decide +kernel
theorem dX10_determinant_36 : decode cX10_determinant 36 = .ok (.invokevirtual 118, 3) := by decide +kernel
theorem dX10_determinant_39 : decode cX10_determinant 39 = .ok (.ireturn, 1) := by decide +kernel
theorem dX10_determinant_40 : decode cX10_determinant 40 = .ok (.aload_n 0, 1) := by decide +kernel
theorem dX10_determinant_41 : decode cX10_determinant 41 = .ok (.iload_n 1, 1) := by decide +kernel
theorem dX10_determinant_42 : decode cX10_determinant 42 = .ok (.invokevirtual 154, 3) := by decide +kernel
theorem dX10_determinant_45 : decode cX10_determinant 45 = .ok (.iconst 1, 1) := by decide +kernel
theorem dX10_determinant_46 : decode cX10_determinant 46 = .ok (.aload_n 0, 1) := by decide +kernel
theorem dX10_determinant_47 : decode cX10_determinant 47 = .ok (.getfield 17, 3) := by decide +kernel
theorem dX10_determinant_50 : decode cX10_determinant 50 = .ok (.iload_n 1, 1) := by decide +kernel
theorem dX10_determinant_51 : decode cX10_determinant 51 = .ok (.iaload, 1) := by decide +kernel
theorem dX10_determinant_52 : decode cX10_determinant 52 = .ok (.ishl, 1) := by decide +kernel
theorem dX10_determinant_53 : decode cX10_determinant 53 = .ok (.iconst 1, 1) := by decide +kernel
theorem dX10_determinant_54 : decode cX10_determinant 54 = .ok (.isub, 1) := by decide +kernel
theorem dX10_determinant_55 : decode cX10_determinant 55 = .ok (.istore_n 2, 1) := by decide +kernel
theorem dX10_determinant_56 : decode cX10_determinant 56 = .ok (.aload_n 0, 1) := by decide +kernel
theorem dX10_determinant_57 : decode cX10_determinant 57 = .ok (.getfield 27, 3) := by decide +kernel
theorem dX10_determinant_60 : decode cX10_determinant 60 = .ok (.iload_n 2, 1) := by decide +kernel
theorem dX10_determinant_61 : decode cX10_determinant 61 = .ok (.bipush 8, 2) := by decide +kernel
theorem dX10_determinant_63 : decode cX10_determinant 63 = .ok (.ishl, 1) := by decide +kernel
theorem dX10_determinant_64 : decode cX10_determinant 64 = .ok (.iload_n 2, 1) := by decide +kernel
theorem dX10_determinant_65 : decode cX10_determinant 65 = .ok (.ior, 1) := by decide +kernel
theorem dX10_determinant_66 : decode cX10_determinant 66 = .ok (.iaload, 1) := by decide +kernel
theorem dX10_determinant_67 : decode cX10_determinant 67 = .ok (.ireturn, 1) := by decide +kernel
theorem dX10_invert_0 : decode cX10_invert 0 = .ok (.aload_n 0, 1) := by decide +kernel
theorem dX10_invert_1 : decode cX10_invert 1 = .ok (.iconst 0, 1) := by decide +kernel
theorem dX10_invert_2 : decode cX10_invert 2 = .ok (.putfield 1, 3) := by decide +kernel
theorem dX10_invert_5 : decode cX10_invert 5 = .ok (.aload_n 0, 1) := by decide +kernel
theorem dX10_invert_6 : decode cX10_invert 6 = .ok (.iload_n 1, 1) := by decide +kernel
theorem dX10_invert_7 : decode cX10_invert 7 = .ok (.invokevirtual 144, 3) := by decide +kernel
theorem dX10_invert_10 : decode cX10_invert 10 = .ok (.ifCond .ne 9, 3) := by decide +kernel
theorem dX10_invert_13 : decode cX10_invert 13 = .ok (.aload_n 0, 1) := by decide +kernel
theorem dX10_invert_14 : decode cX10_invert 14 = .ok (.iconst 1, 1) := by decide +kernel
theorem dX10_invert_15 : decode cX10_invert 15 = .ok (.invokevirtual 118, 3) := by decide +kernel
theorem dX10_invert_18 : decode cX10_invert 18 = .ok (.ireturn, 1) := by decide +kernel
theorem dX10_invert_19 : decode cX10_invert 19 = .ok (.aload_n 0, 1) := by decide +kernel
theorem dX10_invert_20 : decode cX10_invert 20 = .ok (.getfield 17, 3) := by decide +kernel
theorem dX10_invert_23 : decode cX10_invert 23 = .ok (.iload_n 1, 1) := by decide +kernel
theorem dX10_invert_24 : decode cX10_invert 24 = .ok (.iaload, 1) := by decide +kernel
theorem dX10_invert_25 : decode cX10_invert 25 = .ok (.aload_n 0, 1) := by decide +kernel
theorem dX10_invert_26 : decode cX10_invert 26 = .ok (.getfield 20, 3) := by decide +kernel
theorem dX10_invert_29 : decode cX10_invert 29 = .ok (.iload_n 1, 1) := by decide +kernel
theorem dX10_invert_30 : decode cX10_invert 30 = .ok (.iaload, 1) := by decide +kernel
theorem dX10_invert_31 : decode cX10_invert 31 = .ok (.if_icmp .eq 9, 3) := by decide +kernel
theorem dX10_invert_34 : decode cX10_invert 34 = .ok (.aload_n 0, 1) := by decide +kernel
theorem dX10_invert_35 : decode cX10_invert 35 = .ok (.iconst 2, 1) := by decide +kernel
theorem dX10_invert_36 : decode cX10_invert 36 = .ok (.invokevirtual 118, 3) := by decide +kernel
theorem dX10_invert_39 : decode cX10_invert 39 = .ok (.ireturn, 1) := by decide +kernel
theorem dX10_invert_40 : decode cX10_invert 40 = .ok (.aload_n 0, 1) := by decide +kernel
theorem dX10_invert_41 : decode cX10_invert 41 = .ok (.getfield 127, 3) := by decide +kernel
theorem dX10_invert_44 : decode cX10_invert 44 = .ok (.bipush 40, 2) := by decide +kernel
theorem dX10_invert_46 : decode cX10_invert 46 = .ok (.if_icmp .ne 9, 3) := by decide +kernel
theorem dX10_invert_49 : decode cX10_invert 49 = .ok (.aload_n 0, 1) := by decide +kernel
theorem dX10_invert_50 : decode cX10_invert 50 = .ok (.iconst 3, 1) := by decide +kernel
theorem dX10_invert_51 : decode cX10_invert 51 = .ok (.invokevirtual 118, 3) := by decide +kernel
theorem dX10_invert_54 : decode cX10_invert 54 = .ok (.ireturn, 1) := by decide +kernel
theorem dX10_invert_55 : decode cX10_invert 55 = .ok (.aload_n 0, 1) := by decide +kernel
theorem dX10_invert_56 : decode cX10_invert 56 = .ok (.iload_n 1, 1) := by decide +kernel
theorem dX10_invert_57 : decode cX10_invert 57 = .ok (.invokevirtual 154, 3) := by decide +kernel
theorem dX10_invert_60 : decode cX10_invert 60 = .ok (.aload_n 0, 1) := by decide +kernel
theorem dX10_invert_61 : decode cX10_invert 61 = .ok (.getfield 17, 3) := by decide +kernel
theorem dX10_invert_64 : decode cX10_invert 64 = .ok (.iload_n 1, 1) := by decide +kernel
theorem dX10_invert_65 : decode cX10_invert 65 = .ok (.iaload, 1) := by decide +kernel
theorem dX10_invert_66 : decode cX10_invert 66 = .ok (.istore_n 2, 1) := by decide +kernel
theorem dX10_invert_67 : decode cX10_invert 67 = .ok (.iconst 1, 1) := by decide +kernel
theorem dX10_invert_68 : decode cX10_invert 68 = .ok (.iload_n 2, 1) := by decide +kernel
theorem dX10_invert_69 : decode cX10_invert 69 = .ok (.ishl, 1) := by decide +kernel
theorem dX10_invert_70 : decode cX10_invert 70 = .ok (.iconst 1, 1) := by decide +kernel
theorem dX10_invert_71 : decode cX10_invert 71 = .ok (.isub, 1) := by decide +kernel
theorem dX10_invert_72 : decode cX10_invert 72 = .ok (.istore_n 3, 1) := by decide +kernel
theorem dX10_invert_73 : decode cX10_invert 73 = .ok (.aload_n 0, 1) := by decide +kernel
theorem dX10_invert_74 : decode cX10_invert 74 = .ok (.getfield 27, 3) := by decide +kernel
theorem dX10_invert_77 : decode cX10_invert 77 = .ok (.iload_n 3, 1) := by decide +kernel
theorem dX10_invert_78 : decode cX10_invert 78 = .ok (.bipush 8, 2) := by decide +kernel
theorem dX10_invert_80 : decode cX10_invert 80 = .ok (.ishl, 1) := by decide +kernel
theorem dX10_invert_81 : decode cX10_invert 81 = .ok (.iload_n 3, 1) := by decide +kernel
theorem dX10_invert_82 : decode cX10_invert 82 = .ok (.ior, 1) := by decide +kernel
theorem dX10_invert_83 : decode cX10_invert 83 = .ok (.iaload, 1) := by decide +kernel
theorem dX10_invert_84 : decode cX10_invert 84 = .ok (.istore 4, 2) := by decide +kernel
theorem dX10_invert_86 : decode cX10_invert 86 = .ok (.iload 4, 2) := by decide +kernel
theorem dX10_invert_88 : decode cX10_invert 88 = .ok (.ifCond .ne 5, 3) := by decide +kernel
theorem dX10_invert_91 : decode cX10_invert 91 = .ok (.iconst (-1), 1) := by decide +kernel
theorem dX10_invert_92 : decode cX10_invert 92 = .ok (.ireturn, 1) := by decide +kernel
theorem dX10_invert_93 : decode cX10_invert 93 = .ok (.aload_n 0, 1) := by decide +kernel
theorem dX10_invert_94 : decode cX10_invert 94 = .ok (.iload_n 2, 1) := by decide +kernel
theorem dX10_invert_95 : decode cX10_invert 95 = .ok (.iload_n 2, 1) := by decide +kernel
theorem dX10_invert_96 : decode cX10_invert 96 = .ok (.invokevirtual 133, 3) := by decide +kernel
theorem dX10_invert_99 : decode cX10_invert 99 = .ok (.istore 5, 2) := by decide +kernel
theorem dX10_invert_101 : decode cX10_invert 101 = .ok (.iconst 0, 1) := by decide +kernel
theorem dX10_invert_102 : decode cX10_invert 102 = .ok (.istore 6, 2) := by decide +kernel
theorem dX10_invert_104 : decode cX10_invert 104 = .ok (.iload 6, 2) := by decide +kernel
theorem dX10_invert_106 : decode cX10_invert 106 = .ok (.iload_n 2, 1) := by decide +kernel
theorem dX10_invert_107 : decode cX10_invert 107 = .ok (.if_icmp .ge 70, 3) := by decide +kernel
theorem dX10_invert_110 : decode cX10_invert 110 = .ok (.iconst 0, 1) := by decide +kernel
theorem dX10_invert_111 : decode cX10_invert 111 = .ok (.istore 7, 2) := by decide +kernel
theorem dX10_invert_113 : decode cX10_invert 113 = .ok (.iload 7, 2) := by decide +kernel
theorem dX10_invert_115 : decode cX10_invert 115 = .ok (.iload_n 2, 1) := by decide +kernel
theorem dX10_invert_116 : decode cX10_invert 116 = .ok (.if_icmp .ge 55, 3) := by decide +kernel
theorem dX10_invert_119 : decode cX10_invert 119 = .ok (.aload_n 0, 1) := by decide +kernel
theorem dX10_invert_120 : decode cX10_invert 120 = .ok (.getfield 23, 3) := by decide +kernel
theorem dX10_invert_123 : decode cX10_invert 123 = .ok (.aload_n 0, 1) := by decide +kernel
theorem dX10_invert_124 : decode cX10_invert 124 = .ok (.iload 5, 2) := by decide +kernel
theorem dX10_invert_126 : decode cX10_invert 126 = .ok (.iload 6, 2) := by decide +kernel
theorem dX10_invert_128 : decode cX10_invert 128 = .ok (.iload 7, 2) := by decide +kernel
theorem dX10_invert_130 : decode cX10_invert 130 = .ok (.invokevirtual 140, 3) := by decide +kernel
theorem dX10_invert_133 : decode cX10_invert 133 = .ok (.aload_n 0, 1) := by decide +kernel
theorem dX10_invert_134 : decode cX10_invert 134 = .ok (.aload_n 0, 1) := by decide +kernel
theorem dX10_invert_135 : decode cX10_invert 135 = .ok (.iload 4, 2) := by decide +kernel
theorem dX10_invert_137 : decode cX10_invert 137 = .ok (.invokevirtual 121, 3) := by decide +kernel
theorem dX10_invert_140 : decode cX10_invert 140 = .ok (.aload_n 0, 1) := by decide +kernel
theorem dX10_invert_141 : decode cX10_invert 141 = .ok (.getfield 27, 3) := by decide +kernel
theorem dX10_invert_144 : decode cX10_invert 144 = .ok (.iload_n 3, 1) := by decide +kernel
theorem dX10_invert_145 : decode cX10_invert 145 = .ok (.iconst 1, 1) := by decide +kernel
theorem dX10_invert_146 : decode cX10_invert 146 = .ok (.iload 7, 2) := by decide +kernel
theorem dX10_invert_148 : decode cX10_invert 148 = .ok (.ishl, 1) := by decide +kernel
theorem dX10_invert_149 : decode cX10_invert 149 = .ok (.ixor, 1) := by decide +kernel
theorem dX10_invert_150 : decode cX10_invert 150 = .ok (.bipush 8, 2) := by decide +kernel
theorem dX10_invert_152 : decode cX10_invert 152 = .ok (.ishl, 1) := by decide +kernel
theorem dX10_invert_153 : decode cX10_invert 153 = .ok (.iload_n 3, 1) := by decide +kernel
theorem dX10_invert_154 : decode cX10_invert 154 = .ok (.iconst 1, 1) := by decide +kernel
theorem dX10_invert_155 : decode cX10_invert 155 = .ok (.iload 6, 2) := by decide +kernel
theorem dX10_invert_157 : decode cX10_invert 157 = .ok (.ishl, 1) := by decide +kernel
theorem dX10_invert_158 : decode cX10_invert 158 = .ok (.ixor, 1) := by decide +kernel
theorem dX10_invert_159 : decode cX10_invert 159 = .ok (.ior, 1) := by decide +kernel
theorem dX10_invert_160 : decode cX10_invert 160 = .ok (.iaload, 1) := by decide +kernel
theorem dX10_invert_161 : decode cX10_invert 161 = .ok (.invokevirtual 102, 3) := by decide +kernel
theorem dX10_invert_164 : decode cX10_invert 164 = .ok (.iastore, 1) := by decide +kernel
theorem dX10_invert_165 : decode cX10_invert 165 = .ok (.iinc 7 1, 3) := by decide +kernel
theorem dX10_invert_168 : decode cX10_invert 168 = .ok (.goto (-55), 3) := by decide +kernel
theorem dX10_invert_171 : decode cX10_invert 171 = .ok (.iinc 6 1, 3) := by decide +kernel
theorem dX10_invert_174 : decode cX10_invert 174 = .ok (.goto (-70), 3) := by decide +kernel
theorem dX10_invert_177 : decode cX10_invert 177 = .ok (.iload 5, 2) := by decide +kernel
theorem dX10_invert_179 : decode cX10_invert 179 = .ok (.ireturn, 1) := by decide +kernel
theorem dX10_rank_0 : decode cX10_rank 0 = .ok (.aload_n 0, 1) := by decide +kernel
theorem dX10_rank_1 : decode cX10_rank 1 = .ok (.iconst 0, 1) := by decide +kernel
theorem dX10_rank_2 : decode cX10_rank 2 = .ok (.putfield 1, 3) := by decide +kernel
theorem dX10_rank_5 : decode cX10_rank 5 = .ok (.aload_n 0, 1) := by decide +kernel
theorem dX10_rank_6 : decode cX10_rank 6 = .ok (.iload_n 1, 1) := by decide +kernel
theorem dX10_rank_7 : decode cX10_rank 7 = .ok (.invokevirtual 144, 3) := by decide +kernel
theorem dX10_rank_10 : decode cX10_rank 10 = .ok (.ifCond .ne 9, 3) := by decide +kernel
theorem dX10_rank_13 : decode cX10_rank 13 = .ok (.aload_n 0, 1) := by decide +kernel
theorem dX10_rank_14 : decode cX10_rank 14 = .ok (.iconst 1, 1) := by decide +kernel
theorem dX10_rank_15 : decode cX10_rank 15 = .ok (.invokevirtual 118, 3) := by decide +kernel
theorem dX10_rank_18 : decode cX10_rank 18 = .ok (.ireturn, 1) := by decide +kernel
theorem dX10_rank_19 : decode cX10_rank 19 = .ok (.aload_n 0, 1) := by decide +kernel
theorem dX10_rank_20 : decode cX10_rank 20 = .ok (.iload_n 1, 1) := by decide +kernel
theorem dX10_rank_21 : decode cX10_rank 21 = .ok (.invokevirtual 154, 3) := by decide +kernel
theorem dX10_rank_24 : decode cX10_rank 24 = .ok (.iconst 0, 1) := by decide +kernel
theorem dX10_rank_25 : decode cX10_rank 25 = .ok (.istore_n 2, 1) := by decide +kernel
theorem dX10_rank_26 : decode cX10_rank 26 = .ok (.iconst 0, 1) := by decide +kernel
theorem dX10_rank_27 : decode cX10_rank 27 = .ok (.istore_n 3, 1) := by decide +kernel
theorem dX10_rank_28 : decode cX10_rank 28 = .ok (.iload_n 3, 1) := by decide +kernel
theorem dX10_rank_29 : decode cX10_rank 29 = .ok (.iconst 1, 1) := by decide +kernel
theorem dX10_rank_30 : decode cX10_rank 30 = .ok (.aload_n 0, 1) := by decide +kernel
theorem dX10_rank_31 : decode cX10_rank 31 = .ok (.getfield 17, 3) := by decide +kernel
theorem dX10_rank_34 : decode cX10_rank 34 = .ok (.iload_n 1, 1) := by decide +kernel
theorem dX10_rank_35 : decode cX10_rank 35 = .ok (.iaload, 1) := by decide +kernel
theorem dX10_rank_36 : decode cX10_rank 36 = .ok (.ishl, 1) := by decide +kernel
theorem dX10_rank_37 : decode cX10_rank 37 = .ok (.if_icmp .ge 59, 3) := by decide +kernel
theorem dX10_rank_40 : decode cX10_rank 40 = .ok (.iconst 0, 1) := by decide +kernel
theorem dX10_rank_41 : decode cX10_rank 41 = .ok (.istore 4, 2) := by decide +kernel
theorem dX10_rank_43 : decode cX10_rank 43 = .ok (.iload 4, 2) := by decide +kernel
theorem dX10_rank_45 : decode cX10_rank 45 = .ok (.iconst 1, 1) := by decide +kernel
theorem dX10_rank_46 : decode cX10_rank 46 = .ok (.aload_n 0, 1) := by decide +kernel
theorem dX10_rank_47 : decode cX10_rank 47 = .ok (.getfield 20, 3) := by decide +kernel
theorem dX10_rank_50 : decode cX10_rank 50 = .ok (.iload_n 1, 1) := by decide +kernel
theorem dX10_rank_51 : decode cX10_rank 51 = .ok (.iaload, 1) := by decide +kernel
theorem dX10_rank_52 : decode cX10_rank 52 = .ok (.ishl, 1) := by decide +kernel
theorem dX10_rank_53 : decode cX10_rank 53 = .ok (.if_icmp .ge 37, 3) := by decide +kernel
theorem dX10_rank_56 : decode cX10_rank 56 = .ok (.aload_n 0, 1) := by decide +kernel
theorem dX10_rank_57 : decode cX10_rank 57 = .ok (.getfield 27, 3) := by decide +kernel
theorem dX10_rank_60 : decode cX10_rank 60 = .ok (.iload_n 3, 1) := by decide +kernel
theorem dX10_rank_61 : decode cX10_rank 61 = .ok (.bipush 8, 2) := by decide +kernel
theorem dX10_rank_63 : decode cX10_rank 63 = .ok (.ishl, 1) := by decide +kernel
theorem dX10_rank_64 : decode cX10_rank 64 = .ok (.iload 4, 2) := by decide +kernel
theorem dX10_rank_66 : decode cX10_rank 66 = .ok (.ior, 1) := by decide +kernel
theorem dX10_rank_67 : decode cX10_rank 67 = .ok (.iaload, 1) := by decide +kernel
theorem dX10_rank_68 : decode cX10_rank 68 = .ok (.ifCond .eq 16, 3) := by decide +kernel
theorem dX10_rank_71 : decode cX10_rank 71 = .ok (.iload_n 3, 1) := by decide +kernel
theorem dX10_rank_72 : decode cX10_rank 72 = .ok (.invokestatic 151, 3) := by decide +kernel
theorem dX10_rank_75 : decode cX10_rank 75 = .ok (.iload_n 2, 1) := by decide +kernel
theorem dX10_rank_76 : decode cX10_rank 76 = .ok (.if_icmp .le 8, 3) := by decide +kernel
theorem dX10_rank_79 : decode cX10_rank 79 = .ok (.iload_n 3, 1) := by decide +kernel
theorem dX10_rank_80 : decode cX10_rank 80 = .ok (.invokestatic 151, 3) := by decide +kernel
theorem dX10_rank_83 : decode cX10_rank 83 = .ok (.istore_n 2, 1) := by decide +kernel
theorem dX10_rank_84 : decode cX10_rank 84 = .ok (.iinc 4 1, 3) := by decide +kernel
theorem dX10_rank_87 : decode cX10_rank 87 = .ok (.goto (-44), 3) := by decide +kernel
theorem dX10_rank_90 : decode cX10_rank 90 = .ok (.iinc 3 1, 3) := by decide +kernel
theorem dX10_rank_93 : decode cX10_rank 93 = .ok (.goto (-65), 3) := by decide +kernel
theorem dX10_rank_96 : decode cX10_rank 96 = .ok (.iload_n 2, 1) := by decide +kernel
theorem dX10_rank_97 : decode cX10_rank 97 = .ok (.ireturn, 1) := by decide +kernel
theorem dX10_solve_0 : decode cX10_solve 0 = .ok (.aload_n 0, 1) := by decide +kernel
theorem dX10_solve_1 : decode cX10_solve 1 = .ok (.iconst 0, 1) := by decide +kernel
theorem dX10_solve_2 : decode cX10_solve 2 = .ok (.putfield 1, 3) := by decide +kernel
theorem dX10_solve_5 : decode cX10_solve 5 = .ok (.aload_n 0, 1) := by decide +kernel
theorem dX10_solve_6 : decode cX10_solve 6 = .ok (.iload_n 1, 1) := by decide +kernel
theorem dX10_solve_7 : decode cX10_solve 7 = .ok (.invokevirtual 144, 3) := by decide +kernel
theorem dX10_solve_10 : decode cX10_solve 10 = .ok (.ifCond .ne 9, 3) := by decide +kernel
theorem dX10_solve_13 : decode cX10_solve 13 = .ok (.aload_n 0, 1) := by decide +kernel
theorem dX10_solve_14 : decode cX10_solve 14 = .ok (.iconst 1, 1) := by decide +kernel
theorem dX10_solve_15 : decode cX10_solve 15 = .ok (.invokevirtual 118, 3) := by decide +kernel
theorem dX10_solve_18 : decode cX10_solve 18 = .ok (.ireturn, 1) := by decide +kernel
theorem dX10_solve_19 : decode cX10_solve 19 = .ok (.aload_n 0, 1) := by decide +kernel
theorem dX10_solve_20 : decode cX10_solve 20 = .ok (.getfield 124, 3) := by decide +kernel
theorem dX10_solve_23 : decode cX10_solve 23 = .ok (.aload_n 0, 1) := by decide +kernel
theorem dX10_solve_24 : decode cX10_solve 24 = .ok (.getfield 17, 3) := by decide +kernel
theorem dX10_solve_27 : decode cX10_solve 27 = .ok (.iload_n 1, 1) := by decide +kernel
theorem dX10_solve_28 : decode cX10_solve 28 = .ok (.iaload, 1) := by decide +kernel
theorem dX10_solve_29 : decode cX10_solve 29 = .ok (.if_icmp .eq 9, 3) := by decide +kernel
theorem dX10_solve_32 : decode cX10_solve 32 = .ok (.aload_n 0, 1) := by decide +kernel
theorem dX10_solve_33 : decode cX10_solve 33 = .ok (.iconst 2, 1) := by decide +kernel
theorem dX10_solve_34 : decode cX10_solve 34 = .ok (.invokevirtual 118, 3) := by decide +kernel
theorem dX10_solve_37 : decode cX10_solve 37 = .ok (.ireturn, 1) := by decide +kernel
theorem dX10_solve_38 : decode cX10_solve 38 = .ok (.aload_n 0, 1) := by decide +kernel
theorem dX10_solve_39 : decode cX10_solve 39 = .ok (.getfield 17, 3) := by decide +kernel
theorem dX10_solve_42 : decode cX10_solve 42 = .ok (.iload_n 1, 1) := by decide +kernel
theorem dX10_solve_43 : decode cX10_solve 43 = .ok (.iaload, 1) := by decide +kernel
theorem dX10_solve_44 : decode cX10_solve 44 = .ok (.istore_n 2, 1) := by decide +kernel
theorem dX10_solve_45 : decode cX10_solve 45 = .ok (.aload_n 0, 1) := by decide +kernel
theorem dX10_solve_46 : decode cX10_solve 46 = .ok (.getfield 20, 3) := by decide +kernel
theorem dX10_solve_49 : decode cX10_solve 49 = .ok (.iload_n 1, 1) := by decide +kernel
theorem dX10_solve_50 : decode cX10_solve 50 = .ok (.iaload, 1) := by decide +kernel
theorem dX10_solve_51 : decode cX10_solve 51 = .ok (.istore_n 3, 1) := by decide +kernel
theorem dX10_solve_52 : decode cX10_solve 52 = .ok (.iconst 0, 1) := by decide +kernel
theorem dX10_solve_53 : decode cX10_solve 53 = .ok (.istore 4, 2) := by decide +kernel
theorem dX10_solve_55 : decode cX10_solve 55 = .ok (.iload 4, 2) := by decide +kernel
theorem dX10_solve_57 : decode cX10_solve 57 = .ok (.iload_n 2, 1) := by decide +kernel
theorem dX10_solve_58 : decode cX10_solve 58 = .ok (.if_icmp .ge 67, 3) := by decide +kernel
theorem dX10_solve_61 : decode cX10_solve 61 = .ok (.iconst 0, 1) := by decide +kernel
theorem dX10_solve_62 : decode cX10_solve 62 = .ok (.istore 5, 2) := by decide +kernel
theorem dX10_solve_64 : decode cX10_solve 64 = .ok (.iload 5, 2) := by decide +kernel
theorem dX10_solve_66 : decode cX10_solve 66 = .ok (.iload_n 3, 1) := by decide +kernel
theorem dX10_solve_67 : decode cX10_solve 67 = .ok (.if_icmp .gt 52, 3) := by decide +kernel
theorem dX10_solve_70 : decode cX10_solve 70 = .ok (.aload_n 0, 1) := by decide +kernel
theorem dX10_solve_71 : decode cX10_solve 71 = .ok (.getfield 30, 3) := by decide +kernel
theorem dX10_solve_74 : decode cX10_solve 74 = .ok (.bipush 9, 2) := by decide +kernel
theorem dX10_solve_76 : decode cX10_solve 76 = .ok (.iload 4, 2) := by decide +kernel
theorem dX10_solve_78 : decode cX10_solve 78 = .ok (.imul, 1) := by decide +kernel
theorem dX10_solve_79 : decode cX10_solve 79 = .ok (.iload 5, 2) := by decide +kernel
theorem dX10_solve_81 : decode cX10_solve 81 = .ok (.iadd, 1) := by decide +kernel
theorem dX10_solve_82 : decode cX10_solve 82 = .ok (.iload 5, 2) := by decide +kernel
theorem dX10_solve_84 : decode cX10_solve 84 = .ok (.iload_n 3, 1) := by decide +kernel
theorem dX10_solve_85 : decode cX10_solve 85 = .ok (.if_icmp .ge 20, 3) := by decide +kernel
theorem dX10_solve_88 : decode cX10_solve 88 = .ok (.aload_n 0, 1) := by decide +kernel
theorem dX10_solve_89 : decode cX10_solve 89 = .ok (.getfield 23, 3) := by decide +kernel
theorem dX10_solve_92 : decode cX10_solve 92 = .ok (.aload_n 0, 1) := by decide +kernel
theorem dX10_solve_93 : decode cX10_solve 93 = .ok (.iload_n 1, 1) := by decide +kernel
theorem dX10_solve_94 : decode cX10_solve 94 = .ok (.iload 4, 2) := by decide +kernel
theorem dX10_solve_96 : decode cX10_solve 96 = .ok (.iload 5, 2) := by decide +kernel
theorem dX10_solve_98 : decode cX10_solve 98 = .ok (.invokevirtual 140, 3) := by decide +kernel
theorem dX10_solve_101 : decode cX10_solve 101 = .ok (.iaload, 1) := by decide +kernel
theorem dX10_solve_102 : decode cX10_solve 102 = .ok (.goto 10, 3) := by decide +kernel
theorem dX10_solve_105 : decode cX10_solve 105 = .ok (.aload_n 0, 1) := by decide +kernel
theorem dX10_solve_106 : decode cX10_solve 106 = .ok (.getfield 13, 3) := by decide +kernel
theorem dX10_solve_109 : decode cX10_solve 109 = .ok (.iload 4, 2) := by decide +kernel
theorem dX10_solve_111 : decode cX10_solve 111 = .ok (.iaload, 1) := by decide +kernel
theorem dX10_solve_112 : decode cX10_solve 112 = .ok (.iastore, 1) := by decide +kernel
theorem dX10_solve_113 : decode cX10_solve 113 = .ok (.iinc 5 1, 3) := by decide +kernel
theorem dX10_solve_116 : decode cX10_solve 116 = .ok (.goto (-52), 3) := by decide +kernel
theorem dX10_solve_119 : decode cX10_solve 119 = .ok (.iinc 4 1, 3) := by decide +kernel
theorem dX10_solve_122 : decode cX10_solve 122 = .ok (.goto (-67), 3) := by decide +kernel
theorem dX10_solve_125 : decode cX10_solve 125 = .ok (.iconst 0, 1) := by decide +kernel
theorem dX10_solve_126 : decode cX10_solve 126 = .ok (.istore 4, 2) := by decide +kernel
theorem dX10_solve_128 : decode cX10_solve 128 = .ok (.iconst 0, 1) := by decide +kernel
theorem dX10_solve_129 : decode cX10_solve 129 = .ok (.istore 5, 2) := by decide +kernel
theorem dX10_solve_131 : decode cX10_solve 131 = .ok (.iload 5, 2) := by decide +kernel
theorem dX10_solve_133 : decode cX10_solve 133 = .ok (.iload_n 3, 1) := by decide +kernel
theorem dX10_solve_134 : decode cX10_solve 134 = .ok (.if_icmp .ge 255, 3) := by decide +kernel
theorem dX10_solve_137 : decode cX10_solve 137 = .ok (.iload 4, 2) := by decide +kernel
theorem dX10_solve_139 : decode cX10_solve 139 = .ok (.istore 6, 2) := by decide +kernel
theorem dX10_solve_141 : decode cX10_solve 141 = .ok (.iload 6, 2) := by decide +kernel
theorem dX10_solve_143 : decode cX10_solve 143 = .ok (.iload_n 2, 1) := by decide +kernel
theorem dX10_solve_144 : decode cX10_solve 144 = .ok (.if_icmp .ge 25, 3) := by decide +kernel
theorem dX10_solve_147 : decode cX10_solve 147 = .ok (.aload_n 0, 1) := by decide +kernel
theorem dX10_solve_148 : decode cX10_solve 148 = .ok (.getfield 30, 3) := by decide +kernel
theorem dX10_solve_151 : decode cX10_solve 151 = .ok (.bipush 9, 2) := by decide +kernel
theorem dX10_solve_153 : decode cX10_solve 153 = .ok (.iload 6, 2) := by decide +kernel
theorem dX10_solve_155 : decode cX10_solve 155 = .ok (.imul, 1) := by decide +kernel
theorem dX10_solve_156 : decode cX10_solve 156 = .ok (.iload 5, 2) := by decide +kernel
theorem dX10_solve_158 : decode cX10_solve 158 = .ok (.iadd, 1) := by decide +kernel
theorem dX10_solve_159 : decode cX10_solve 159 = .ok (.iaload, 1) := by decide +kernel
theorem dX10_solve_160 : decode cX10_solve 160 = .ok (.ifCond .ne 9, 3) := by decide +kernel
theorem dX10_solve_163 : decode cX10_solve 163 = .ok (.iinc 6 1, 3) := by decide +kernel
theorem dX10_solve_166 : decode cX10_solve 166 = .ok (.goto (-25), 3) := by decide +kernel
theorem dX10_solve_169 : decode cX10_solve 169 = .ok (.aload_n 0, 1) := by decide +kernel
theorem dX10_solve_170 : decode cX10_solve 170 = .ok (.getfield 33, 3) := by decide +kernel
theorem dX10_solve_173 : decode cX10_solve 173 = .ok (.iload 5, 2) := by decide +kernel
theorem dX10_solve_175 : decode cX10_solve 175 = .ok (.iload 6, 2) := by decide +kernel
theorem dX10_solve_177 : decode cX10_solve 177 = .ok (.iload_n 2, 1) := by decide +kernel
theorem dX10_solve_178 : decode cX10_solve 178 = .ok (.if_icmp .ge 8, 3) := by decide +kernel
theorem dX10_solve_181 : decode cX10_solve 181 = .ok (.iload 4, 2) := by decide +kernel
theorem dX10_solve_183 : decode cX10_solve 183 = .ok (.goto 4, 3) := by decide +kernel
theorem dX10_solve_186 : decode cX10_solve 186 = .ok (.iconst (-1), 1) := by decide +kernel
theorem dX10_solve_187 : decode cX10_solve 187 = .ok (.iastore, 1) := by decide +kernel
theorem dX10_solve_188 : decode cX10_solve 188 = .ok (.iload 6, 2) := by decide +kernel
theorem dX10_solve_190 : decode cX10_solve 190 = .ok (.iload_n 2, 1) := by decide +kernel
theorem dX10_solve_191 : decode cX10_solve 191 = .ok (.if_icmp .ne 6, 3) := by decide +kernel
theorem dX10_solve_194 : decode cX10_solve 194 = .ok (.goto 189, 3) := by decide +kernel
theorem dX10_solve_197 : decode cX10_solve 197 = .ok (.aload_n 0, 1) := by decide +kernel
theorem dX10_solve_198 : decode cX10_solve 198 = .ok (.aload_n 0, 1) := by decide +kernel
theorem dX10_solve_199 : decode cX10_solve 199 = .ok (.getfield 30, 3) := by decide +kernel
theorem dX10_solve_202 : decode cX10_solve 202 = .ok (.bipush 9, 2) := by decide +kernel
theorem dX10_solve_204 : decode cX10_solve 204 = .ok (.iload 6, 2) := by decide +kernel
theorem dX10_solve_206 : decode cX10_solve 206 = .ok (.imul, 1) := by decide +kernel
theorem dX10_solve_207 : decode cX10_solve 207 = .ok (.iload 5, 2) := by decide +kernel
theorem dX10_solve_209 : decode cX10_solve 209 = .ok (.iadd, 1) := by decide +kernel
theorem dX10_solve_210 : decode cX10_solve 210 = .ok (.iaload, 1) := by decide +kernel
theorem dX10_solve_211 : decode cX10_solve 211 = .ok (.invokevirtual 121, 3) := by decide +kernel
theorem dX10_solve_214 : decode cX10_solve 214 = .ok (.istore 7, 2) := by decide +kernel
theorem dX10_solve_216 : decode cX10_solve 216 = .ok (.iconst 0, 1) := by decide +kernel
theorem dX10_solve_217 : decode cX10_solve 217 = .ok (.istore 8, 2) := by decide +kernel
theorem dX10_solve_219 : decode cX10_solve 219 = .ok (.iload 8, 2) := by decide +kernel
theorem dX10_solve_221 : decode cX10_solve 221 = .ok (.iload_n 3, 1) := by decide +kernel
theorem dX10_solve_222 : decode cX10_solve 222 = .ok (.if_icmp .gt 71, 3) := by decide +kernel
theorem dX10_solve_225 : decode cX10_solve 225 = .ok (.aload_n 0, 1) := by decide +kernel
theorem dX10_solve_226 : decode cX10_solve 226 = .ok (.getfield 30, 3) := by decide +kernel
theorem dX10_solve_229 : decode cX10_solve 229 = .ok (.bipush 9, 2) := by decide +kernel
theorem dX10_solve_231 : decode cX10_solve 231 = .ok (.iload 6, 2) := by decide +kernel
theorem dX10_solve_233 : decode cX10_solve 233 = .ok (.imul, 1) := by decide +kernel
theorem dX10_solve_234 : decode cX10_solve 234 = .ok (.iload 8, 2) := by decide +kernel
theorem dX10_solve_236 : decode cX10_solve 236 = .ok (.iadd, 1) := by decide +kernel
theorem dX10_solve_237 : decode cX10_solve 237 = .ok (.iaload, 1) := by decide +kernel
theorem dX10_solve_238 : decode cX10_solve 238 = .ok (.istore 9, 2) := by decide +kernel
theorem dX10_solve_240 : decode cX10_solve 240 = .ok (.aload_n 0, 1) := by decide +kernel
theorem dX10_solve_241 : decode cX10_solve 241 = .ok (.getfield 30, 3) := by decide +kernel
theorem dX10_solve_244 : decode cX10_solve 244 = .ok (.bipush 9, 2) := by decide +kernel
theorem dX10_solve_246 : decode cX10_solve 246 = .ok (.iload 6, 2) := by decide +kernel
theorem dX10_solve_248 : decode cX10_solve 248 = .ok (.imul, 1) := by decide +kernel
theorem dX10_solve_249 : decode cX10_solve 249 = .ok (.iload 8, 2) := by decide +kernel
theorem dX10_solve_251 : decode cX10_solve 251 = .ok (.iadd, 1) := by decide +kernel
theorem dX10_solve_252 : decode cX10_solve 252 = .ok (.aload_n 0, 1) := by decide +kernel
theorem dX10_solve_253 : decode cX10_solve 253 = .ok (.getfield 30, 3) := by decide +kernel
theorem dX10_solve_256 : decode cX10_solve 256 = .ok (.bipush 9, 2) := by decide +kernel
theorem dX10_solve_258 : decode cX10_solve 258 = .ok (.iload 4, 2) := by decide +kernel
theorem dX10_solve_260 : decode cX10_solve 260 = .ok (.imul, 1) := by decide +kernel
theorem dX10_solve_261 : decode cX10_solve 261 = .ok (.iload 8, 2) := by decide +kernel
theorem dX10_solve_263 : decode cX10_solve 263 = .ok (.iadd, 1) := by decide +kernel
theorem dX10_solve_264 : decode cX10_solve 264 = .ok (.iaload, 1) := by decide +kernel
theorem dX10_solve_265 : decode cX10_solve 265 = .ok (.iastore, 1) := by decide +kernel
theorem dX10_solve_266 : decode cX10_solve 266 = .ok (.aload_n 0, 1) := by decide +kernel
theorem dX10_solve_267 : decode cX10_solve 267 = .ok (.getfield 30, 3) := by decide +kernel
theorem dX10_solve_270 : decode cX10_solve 270 = .ok (.bipush 9, 2) := by decide +kernel
theorem dX10_solve_272 : decode cX10_solve 272 = .ok (.iload 4, 2) := by decide +kernel
theorem dX10_solve_274 : decode cX10_solve 274 = .ok (.imul, 1) := by decide +kernel
theorem dX10_solve_275 : decode cX10_solve 275 = .ok (.iload 8, 2) := by decide +kernel
theorem dX10_solve_277 : decode cX10_solve 277 = .ok (.iadd, 1) := by decide +kernel
theorem dX10_solve_278 : decode cX10_solve 278 = .ok (.aload_n 0, 1) := by decide +kernel
theorem dX10_solve_279 : decode cX10_solve 279 = .ok (.iload 9, 2) := by decide +kernel
theorem dX10_solve_281 : decode cX10_solve 281 = .ok (.iload 7, 2) := by decide +kernel
theorem dX10_solve_283 : decode cX10_solve 283 = .ok (.invokevirtual 102, 3) := by decide +kernel
theorem dX10_solve_286 : decode cX10_solve 286 = .ok (.iastore, 1) := by decide +kernel
theorem dX10_solve_287 : decode cX10_solve 287 = .ok (.iinc 8 1, 3) := by decide +kernel
theorem dX10_solve_290 : decode cX10_solve 290 = .ok (.goto (-71), 3) := by decide +kernel
theorem dX10_solve_293 : decode cX10_solve 293 = .ok (.iconst 0, 1) := by decide +kernel
theorem dX10_solve_294 : decode cX10_solve 294 = .ok (.istore 8, 2) := by decide +kernel
theorem dX10_solve_296 : decode cX10_solve 296 = .ok (.iload 8, 2) := by decide +kernel
theorem dX10_solve_298 : decode cX10_solve 298 = .ok (.iload_n 2, 1) := by decide +kernel
theorem dX10_solve_299 : decode cX10_solve 299 = .ok (.if_icmp .ge 81, 3) := by decide +kernel
theorem dX10_solve_302 : decode cX10_solve 302 = .ok (.aload_n 0, 1) := by decide +kernel
theorem dX10_solve_303 : decode cX10_solve 303 = .ok (.getfield 30, 3) := by decide +kernel
theorem dX10_solve_306 : decode cX10_solve 306 = .ok (.bipush 9, 2) := by decide +kernel
theorem dX10_solve_308 : decode cX10_solve 308 = .ok (.iload 8, 2) := by decide +kernel
theorem dX10_solve_310 : decode cX10_solve 310 = .ok (.imul, 1) := by decide +kernel
theorem dX10_solve_311 : decode cX10_solve 311 = .ok (.iload 5, 2) := by decide +kernel
theorem dX10_solve_313 : decode cX10_solve 313 = .ok (.iadd, 1) := by decide +kernel
theorem dX10_solve_314 : decode cX10_solve 314 = .ok (.iaload, 1) := by decide +kernel
theorem dX10_solve_315 : decode cX10_solve 315 = .ok (.istore 9, 2) := by decide +kernel
theorem dX10_solve_317 : decode cX10_solve 317 = .ok (.iconst 0, 1) := by decide +kernel
theorem dX10_solve_318 : decode cX10_solve 318 = .ok (.istore 10, 2) := by decide +kernel
theorem dX10_solve_320 : decode cX10_solve 320 = .ok (.iload 10, 2) := by decide +kernel
theorem dX10_solve_322 : decode cX10_solve 322 = .ok (.iload_n 3, 1) := by decide +kernel
theorem dX10_solve_323 : decode cX10_solve 323 = .ok (.if_icmp .gt 51, 3) := by decide +kernel
theorem dX10_solve_326 : decode cX10_solve 326 = .ok (.iload 8, 2) := by decide +kernel
theorem dX10_solve_328 : decode cX10_solve 328 = .ok (.iload 4, 2) := by decide +kernel
theorem dX10_solve_330 : decode cX10_solve 330 = .ok (.if_icmp .eq 44, 3) := by decide +kernel
theorem dX10_solve_333 : decode cX10_solve 333 = .ok (.aload_n 0, 1) := by decide +kernel
theorem dX10_solve_334 : decode cX10_solve 334 = .ok (.getfield 30, 3) := by decide +kernel
theorem dX10_solve_337 : decode cX10_solve 337 = .ok (.bipush 9, 2) := by decide +kernel
theorem dX10_solve_339 : decode cX10_solve 339 = .ok (.iload 8, 2) := by decide +kernel
theorem dX10_solve_341 : decode cX10_solve 341 = .ok (.imul, 1) := by decide +kernel
theorem dX10_solve_342 : decode cX10_solve 342 = .ok (.iload 10, 2) := by decide +kernel
theorem dX10_solve_344 : decode cX10_solve 344 = .ok (.iadd, 1) := by decide +kernel
theorem dX10_solve_345 : decode cX10_solve 345 = .ok (.dup2, 1) := by decide +kernel
theorem dX10_solve_346 : decode cX10_solve 346 = .ok (.iaload, 1) := by decide +kernel
theorem dX10_solve_347 : decode cX10_solve 347 = .ok (.aload_n 0, 1) := by decide +kernel
theorem dX10_solve_348 : decode cX10_solve 348 = .ok (.iload 9, 2) := by decide +kernel
theorem dX10_solve_350 : decode cX10_solve 350 = .ok (.aload_n 0, 1) := by decide +kernel
theorem dX10_solve_351 : decode cX10_solve 351 = .ok (.getfield 30, 3) := by decide +kernel
theorem dX10_solve_354 : decode cX10_solve 354 = .ok (.bipush 9, 2) := by decide +kernel
theorem dX10_solve_356 : decode cX10_solve 356 = .ok (.iload 4, 2) := by decide +kernel
theorem dX10_solve_358 : decode cX10_solve 358 = .ok (.imul, 1) := by decide +kernel
theorem dX10_solve_359 : decode cX10_solve 359 = .ok (.iload 10, 2) := by decide +kernel
theorem dX10_solve_361 : decode cX10_solve 361 = .ok (.iadd, 1) := by decide +kernel
theorem dX10_solve_362 : decode cX10_solve 362 = .ok (.iaload, 1) := by decide +kernel
theorem dX10_solve_363 : decode cX10_solve 363 = .ok (.invokevirtual 102, 3) := by decide +kernel
theorem dX10_solve_366 : decode cX10_solve 366 = .ok (.ixor, 1) := by decide +kernel
theorem dX10_solve_367 : decode cX10_solve 367 = .ok (.iastore, 1) := by decide +kernel
theorem dX10_solve_368 : decode cX10_solve 368 = .ok (.iinc 10 1, 3) := by decide +kernel
theorem dX10_solve_371 : decode cX10_solve 371 = .ok (.goto (-51), 3) := by decide +kernel
theorem dX10_solve_374 : decode cX10_solve 374 = .ok (.iinc 8 1, 3) := by decide +kernel
theorem dX10_solve_377 : decode cX10_solve 377 = .ok (.goto (-81), 3) := by decide +kernel
theorem dX10_solve_380 : decode cX10_solve 380 = .ok (.iinc 4 1, 3) := by decide +kernel
theorem dX10_solve_383 : decode cX10_solve 383 = .ok (.iinc 5 1, 3) := by decide +kernel
theorem dX10_solve_386 : decode cX10_solve 386 = .ok (.goto (-255), 3) := by decide +kernel
theorem dX10_solve_389 : decode cX10_solve 389 = .ok (.aload_n 0, 1) := by decide +kernel
theorem dX10_solve_390 : decode cX10_solve 390 = .ok (.iconst 0, 1) := by decide +kernel
theorem dX10_solve_391 : decode cX10_solve 391 = .ok (.putfield 124, 3) := by decide +kernel
theorem dX10_solve_394 : decode cX10_solve 394 = .ok (.iload 4, 2) := by decide +kernel
theorem dX10_solve_396 : decode cX10_solve 396 = .ok (.istore 5, 2) := by decide +kernel
theorem dX10_solve_398 : decode cX10_solve 398 = .ok (.iload 5, 2) := by decide +kernel
theorem dX10_solve_400 : decode cX10_solve 400 = .ok (.iload_n 2, 1) := by decide +kernel
theorem dX10_solve_401 : decode cX10_solve 401 = .ok (.if_icmp .ge 26, 3) := by decide +kernel
theorem dX10_solve_404 : decode cX10_solve 404 = .ok (.aload_n 0, 1) := by decide +kernel
theorem dX10_solve_405 : decode cX10_solve 405 = .ok (.getfield 30, 3) := by decide +kernel
theorem dX10_solve_408 : decode cX10_solve 408 = .ok (.bipush 9, 2) := by decide +kernel
theorem dX10_solve_410 : decode cX10_solve 410 = .ok (.iload 5, 2) := by decide +kernel
theorem dX10_solve_412 : decode cX10_solve 412 = .ok (.imul, 1) := by decide +kernel
theorem dX10_solve_413 : decode cX10_solve 413 = .ok (.iload_n 3, 1) := by decide +kernel
theorem dX10_solve_414 : decode cX10_solve 414 = .ok (.iadd, 1) := by decide +kernel
theorem dX10_solve_415 : decode cX10_solve 415 = .ok (.iaload, 1) := by decide +kernel
theorem dX10_solve_416 : decode cX10_solve 416 = .ok (.ifCond .eq 5, 3) := by decide +kernel
theorem dX10_solve_419 : decode cX10_solve 419 = .ok (.iconst (-1), 1) := by decide +kernel
theorem dX10_solve_420 : decode cX10_solve 420 = .ok (.ireturn, 1) := by decide +kernel
theorem dX10_solve_421 : decode cX10_solve 421 = .ok (.iinc 5 1, 3) := by decide +kernel
theorem dX10_solve_424 : decode cX10_solve 424 = .ok (.goto (-26), 3) := by decide +kernel
theorem dX10_solve_427 : decode cX10_solve 427 = .ok (.iconst 0, 1) := by decide +kernel
theorem dX10_solve_428 : decode cX10_solve 428 = .ok (.istore 5, 2) := by decide +kernel
theorem dX10_solve_430 : decode cX10_solve 430 = .ok (.iload 5, 2) := by decide +kernel
theorem dX10_solve_432 : decode cX10_solve 432 = .ok (.iload_n 3, 1) := by decide +kernel
theorem dX10_solve_433 : decode cX10_solve 433 = .ok (.if_icmp .ge 48, 3) := by decide +kernel
theorem dX10_solve_436 : decode cX10_solve 436 = .ok (.aload_n 0, 1) := by decide +kernel
theorem dX10_solve_437 : decode cX10_solve 437 = .ok (.getfield 13, 3) := by decide +kernel
theorem dX10_solve_440 : decode cX10_solve 440 = .ok (.iload 5, 2) := by decide +kernel
theorem dX10_solve_442 : decode cX10_solve 442 = .ok (.aload_n 0, 1) := by decide +kernel
theorem dX10_solve_443 : decode cX10_solve 443 = .ok (.getfield 33, 3) := by decide +kernel
theorem dX10_solve_446 : decode cX10_solve 446 = .ok (.iload 5, 2) := by decide +kernel
theorem dX10_solve_448 : decode cX10_solve 448 = .ok (.iaload, 1) := by decide +kernel
theorem dX10_solve_449 : decode cX10_solve 449 = .ok (.iconst (-1), 1) := by decide +kernel
theorem dX10_solve_450 : decode cX10_solve 450 = .ok (.if_icmp .ne 7, 3) := by decide +kernel
theorem dX10_solve_453 : decode cX10_solve 453 = .ok (.iconst 0, 1) := by decide +kernel
theorem dX10_solve_454 : decode cX10_solve 454 = .ok (.goto 20, 3) := by decide +kernel
theorem dX10_solve_457 : decode cX10_solve 457 = .ok (.aload_n 0, 1) := by decide +kernel
theorem dX10_solve_458 : decode cX10_solve 458 = .ok (.getfield 30, 3) := by decide +kernel
theorem dX10_solve_461 : decode cX10_solve 461 = .ok (.bipush 9, 2) := by decide +kernel
theorem dX10_solve_463 : decode cX10_solve 463 = .ok (.aload_n 0, 1) := by decide +kernel
theorem dX10_solve_464 : decode cX10_solve 464 = .ok (.getfield 33, 3) := by decide +kernel
theorem dX10_solve_467 : decode cX10_solve 467 = .ok (.iload 5, 2) := by decide +kernel
theorem dX10_solve_469 : decode cX10_solve 469 = .ok (.iaload, 1) := by decide +kernel
theorem dX10_solve_470 : decode cX10_solve 470 = .ok (.imul, 1) := by decide +kernel
theorem dX10_solve_471 : decode cX10_solve 471 = .ok (.iload_n 3, 1) := by decide +kernel
theorem dX10_solve_472 : decode cX10_solve 472 = .ok (.iadd, 1) := by decide +kernel
theorem dX10_solve_473 : decode cX10_solve 473 = .ok (.iaload, 1) := by decide +kernel
theorem dX10_solve_474 : decode cX10_solve 474 = .ok (.iastore, 1) := by decide +kernel
theorem dX10_solve_475 : decode cX10_solve 475 = .ok (.iinc 5 1, 3) := by decide +kernel
theorem dX10_solve_478 : decode cX10_solve 478 = .ok (.goto (-48), 3) := by decide +kernel
theorem dX10_solve_481 : decode cX10_solve 481 = .ok (.aload_n 0, 1) := by decide +kernel
theorem dX10_solve_482 : decode cX10_solve 482 = .ok (.iload_n 3, 1) := by decide +kernel
theorem dX10_solve_483 : decode cX10_solve 483 = .ok (.putfield 124, 3) := by decide +kernel
theorem dX10_solve_486 : decode cX10_solve 486 = .ok (.iload_n 3, 1) := by decide +kernel
theorem dX10_solve_487 : decode cX10_solve 487 = .ok (.iload 4, 2) := by decide +kernel
theorem dX10_solve_489 : decode cX10_solve 489 = .ok (.isub, 1) := by decide +kernel
theorem dX10_solve_490 : decode cX10_solve 490 = .ok (.ireturn, 1) := by decide +kernel
theorem dX10_isPolynomial_0 : decode cX10_isPolynomial 0 = .ok (.iload_n 1, 1) := by decide +kernel
theorem dX10_isPolynomial_1 : decode cX10_isPolynomial 1 = .ok (.ifCond .lt 15, 3) := by decide +kernel
theorem dX10_isPolynomial_4 : decode cX10_isPolynomial 4 = .ok (.iload_n 1, 1) := by decide +kernel
theorem dX10_isPolynomial_5 : decode cX10_isPolynomial 5 = .ok (.aload_n 0, 1) := by decide +kernel
theorem dX10_isPolynomial_6 : decode cX10_isPolynomial 6 = .ok (.getfield 158, 3) := by decide +kernel
theorem dX10_isPolynomial_9 : decode cX10_isPolynomial 9 = .ok (.if_icmp .ge 7, 3) := by decide +kernel
theorem dX10_isPolynomial_12 : decode cX10_isPolynomial 12 = .ok (.iconst 1, 1) := by decide +kernel
theorem dX10_isPolynomial_13 : decode cX10_isPolynomial 13 = .ok (.goto 4, 3) := by decide +kernel
theorem dX10_isPolynomial_16 : decode cX10_isPolynomial 16 = .ok (.iconst 0, 1) := by decide +kernel
theorem dX10_isPolynomial_17 : decode cX10_isPolynomial 17 = .ok (.ireturn, 1) := by decide +kernel
theorem dX10_high_0 : decode cX10_high 0 = .ok (.sipush 199, 3) := by decide +kernel
theorem dX10_high_3 : decode cX10_high 3 = .ok (.istore_n 1, 1) := by decide +kernel
theorem dX10_high_4 : decode cX10_high 4 = .ok (.iload_n 1, 1) := by decide +kernel
theorem dX10_high_5 : decode cX10_high 5 = .ok (.ifCond .lt 15, 3) := by decide +kernel
theorem dX10_high_8 : decode cX10_high 8 = .ok (.aload_n 0, 1) := by decide +kernel
theorem dX10_high_9 : decode cX10_high 9 = .ok (.iload_n 1, 1) := by decide +kernel
theorem dX10_high_10 : decode cX10_high 10 = .ok (.iaload, 1) := by decide +kernel
theorem dX10_high_11 : decode cX10_high 11 = .ok (.ifCond .ne 9, 3) := by decide +kernel
theorem dX10_high_14 : decode cX10_high 14 = .ok (.iinc 1 (-1), 3) := by decide +kernel
theorem dX10_high_17 : decode cX10_high 17 = .ok (.goto (-13), 3) := by decide +kernel
theorem dX10_high_20 : decode cX10_high 20 = .ok (.iload_n 1, 1) := by decide +kernel
theorem dX10_high_21 : decode cX10_high 21 = .ok (.ireturn, 1) := by decide +kernel
theorem dX10_nothing_0 : decode cX10_nothing 0 = .ok (.iconst 0, 1) := by decide +kernel
theorem dX10_nothing_1 : decode cX10_nothing 1 = .ok (.istore_n 1, 1) := by decide +kernel
theorem dX10_nothing_2 : decode cX10_nothing 2 = .ok (.iload_n 1, 1) := by decide +kernel
theorem dX10_nothing_3 : decode cX10_nothing 3 = .ok (.sipush 200, 3) := by decide +kernel
theorem dX10_nothing_6 : decode cX10_nothing 6 = .ok (.if_icmp .ge 13, 3) := by decide +kernel
theorem dX10_nothing_9 : decode cX10_nothing 9 = .ok (.aload_n 0, 1) := by decide +kernel
theorem dX10_nothing_10 : decode cX10_nothing 10 = .ok (.iload_n 1, 1) := by decide +kernel
theorem dX10_nothing_11 : decode cX10_nothing 11 = .ok (.iconst 0, 1) := by decide +kernel
theorem dX10_nothing_12 : decode cX10_nothing 12 = .ok (.iastore, 1) := by decide +kernel
theorem dX10_nothing_13 : decode cX10_nothing 13 = .ok (.iinc 1 1, 3) := by decide +kernel
theorem dX10_nothing_16 : decode cX10_nothing 16 = .ok (.goto (-14), 3) := by decide +kernel
theorem dX10_nothing_19 : decode cX10_nothing 19 = .ok (.return_, 1) := by decide +kernel
theorem dX10_copy_0 : decode cX10_copy 0 = .ok (.iconst 0, 1) := by decide +kernel
theorem dX10_copy_1 : decode cX10_copy 1 = .ok (.istore_n 2, 1) := by decide +kernel
theorem dX10_copy_2 : decode cX10_copy 2 = .ok (.iload_n 2, 1) := by decide +kernel
theorem dX10_copy_3 : decode cX10_copy 3 = .ok (.sipush 200, 3) := by decide +kernel
theorem dX10_copy_6 : decode cX10_copy 6 = .ok (.if_icmp .ge 15, 3) := by decide +kernel
theorem dX10_copy_9 : decode cX10_copy 9 = .ok (.aload_n 0, 1) := by decide +kernel
theorem dX10_copy_10 : decode cX10_copy 10 = .ok (.iload_n 2, 1) := by decide +kernel
theorem dX10_copy_11 : decode cX10_copy 11 = .ok (.aload_n 1, 1) := by decide +kernel
theorem dX10_copy_12 : decode cX10_copy 12 = .ok (.iload_n 2, 1) := by decide +kernel
theorem dX10_copy_13 : decode cX10_copy 13 = .ok (.iaload, 1) := by decide +kernel
theorem dX10_copy_14 : decode cX10_copy 14 = .ok (.iastore, 1) := by decide +kernel
theorem dX10_copy_15 : decode cX10_copy 15 = .ok (.iinc 2 1, 3) := by decide +kernel
theorem dX10_copy_18 : decode cX10_copy 18 = .ok (.goto (-16), 3) := by decide +kernel
theorem dX10_copy_21 : decode cX10_copy 21 = .ok (.return_, 1) := by decide +kernel
theorem dX10_load_0 : decode cX10_load 0 = .ok (.aload_n 1, 1) := by decide +kernel
theorem dX10_load_1 : decode cX10_load 1 = .ok (.invokestatic 161, 3) := by decide +kernel
theorem dX10_load_4 : decode cX10_load 4 = .ok (.iconst 0, 1) := by decide +kernel
theorem dX10_load_5 : decode cX10_load 5 = .ok (.istore_n 3, 1) := by decide +kernel
theorem dX10_load_6 : decode cX10_load 6 = .ok (.iload_n 3, 1) := by decide +kernel
theorem dX10_load_7 : decode cX10_load 7 = .ok (.bipush 65, 2) := by decide +kernel
theorem dX10_load_9 : decode cX10_load 9 = .ok (.if_icmp .ge 23, 3) := by decide +kernel
theorem dX10_load_12 : decode cX10_load 12 = .ok (.aload_n 1, 1) := by decide +kernel
theorem dX10_load_13 : decode cX10_load 13 = .ok (.iload_n 3, 1) := by decide +kernel
theorem dX10_load_14 : decode cX10_load 14 = .ok (.aload_n 0, 1) := by decide +kernel
theorem dX10_load_15 : decode cX10_load 15 = .ok (.getfield 39, 3) := by decide +kernel
theorem dX10_load_18 : decode cX10_load 18 = .ok (.bipush 65, 2) := by decide +kernel
theorem dX10_load_20 : decode cX10_load 20 = .ok (.iload_n 2, 1) := by decide +kernel
theorem dX10_load_21 : decode cX10_load 21 = .ok (.imul, 1) := by decide +kernel
theorem dX10_load_22 : decode cX10_load 22 = .ok (.iload_n 3, 1) := by decide +kernel
theorem dX10_load_23 : decode cX10_load 23 = .ok (.iadd, 1) := by decide +kernel
theorem dX10_load_24 : decode cX10_load 24 = .ok (.iaload, 1) := by decide +kernel
theorem dX10_load_25 : decode cX10_load 25 = .ok (.iastore, 1) := by decide +kernel
theorem dX10_load_26 : decode cX10_load 26 = .ok (.iinc 3 1, 3) := by decide +kernel
theorem dX10_load_29 : decode cX10_load 29 = .ok (.goto (-23), 3) := by decide +kernel
theorem dX10_load_32 : decode cX10_load 32 = .ok (.return_, 1) := by decide +kernel
theorem dX10_kept_0 : decode cX10_kept 0 = .ok (.aload_n 0, 1) := by decide +kernel
theorem dX10_kept_1 : decode cX10_kept 1 = .ok (.getfield 36, 3) := by decide +kernel
theorem dX10_kept_4 : decode cX10_kept 4 = .ok (.aload_n 0, 1) := by decide +kernel
theorem dX10_kept_5 : decode cX10_kept 5 = .ok (.getfield 158, 3) := by decide +kernel
theorem dX10_kept_8 : decode cX10_kept 8 = .ok (.aload_n 1, 1) := by decide +kernel
theorem dX10_kept_9 : decode cX10_kept 9 = .ok (.invokestatic 165, 3) := by decide +kernel
theorem dX10_kept_12 : decode cX10_kept 12 = .ok (.iastore, 1) := by decide +kernel
theorem dX10_kept_13 : decode cX10_kept 13 = .ok (.iconst 0, 1) := by decide +kernel
theorem dX10_kept_14 : decode cX10_kept 14 = .ok (.istore_n 2, 1) := by decide +kernel
theorem dX10_kept_15 : decode cX10_kept 15 = .ok (.iload_n 2, 1) := by decide +kernel
theorem dX10_kept_16 : decode cX10_kept 16 = .ok (.bipush 65, 2) := by decide +kernel
theorem dX10_kept_18 : decode cX10_kept 18 = .ok (.if_icmp .ge 26, 3) := by decide +kernel
theorem dX10_kept_21 : decode cX10_kept 21 = .ok (.aload_n 0, 1) := by decide +kernel
theorem dX10_kept_22 : decode cX10_kept 22 = .ok (.getfield 39, 3) := by decide +kernel
theorem dX10_kept_25 : decode cX10_kept 25 = .ok (.bipush 65, 2) := by decide +kernel
theorem dX10_kept_27 : decode cX10_kept 27 = .ok (.aload_n 0, 1) := by decide +kernel
theorem dX10_kept_28 : decode cX10_kept 28 = .ok (.getfield 158, 3) := by decide +kernel
theorem dX10_kept_31 : decode cX10_kept 31 = .ok (.imul, 1) := by decide +kernel
theorem dX10_kept_32 : decode cX10_kept 32 = .ok (.iload_n 2, 1) := by decide +kernel
theorem dX10_kept_33 : decode cX10_kept 33 = .ok (.iadd, 1) := by decide +kernel
theorem dX10_kept_34 : decode cX10_kept 34 = .ok (.aload_n 1, 1) := by decide +kernel
theorem dX10_kept_35 : decode cX10_kept 35 = .ok (.iload_n 2, 1) := by decide +kernel
theorem dX10_kept_36 : decode cX10_kept 36 = .ok (.iaload, 1) := by decide +kernel
theorem dX10_kept_37 : decode cX10_kept 37 = .ok (.iastore, 1) := by decide +kernel
theorem dX10_kept_38 : decode cX10_kept 38 = .ok (.iinc 2 1, 3) := by decide +kernel
theorem dX10_kept_41 : decode cX10_kept 41 = .ok (.goto (-26), 3) := by decide +kernel
theorem dX10_kept_44 : decode cX10_kept 44 = .ok (.aload_n 0, 1) := by decide +kernel
theorem dX10_kept_45 : decode cX10_kept 45 = .ok (.dup, 1) := by decide +kernel
theorem dX10_kept_46 : decode cX10_kept 46 = .ok (.getfield 158, 3) := by decide +kernel
theorem dX10_kept_49 : decode cX10_kept 49 = .ok (.iconst 1, 1) := by decide +kernel
theorem dX10_kept_50 : decode cX10_kept 50 = .ok (.iadd, 1) := by decide +kernel
theorem dX10_kept_51 : decode cX10_kept 51 = .ok (.putfield 158, 3) := by decide +kernel
theorem dX10_kept_54 : decode cX10_kept 54 = .ok (.aload_n 0, 1) := by decide +kernel
theorem dX10_kept_55 : decode cX10_kept 55 = .ok (.getfield 158, 3) := by decide +kernel
theorem dX10_kept_58 : decode cX10_kept 58 = .ok (.iconst 1, 1) := by decide +kernel
theorem dX10_kept_59 : decode cX10_kept 59 = .ok (.isub, 1) := by decide +kernel
theorem dX10_kept_60 : decode cX10_kept 60 = .ok (.ireturn, 1) := by decide +kernel
theorem dX10_at__0 : decode cX10_at_ 0 = .ok (.iconst 0, 1) := by decide +kernel
theorem dX10_at__1 : decode cX10_at_ 1 = .ok (.istore_n 3, 1) := by decide +kernel
theorem dX10_at__2 : decode cX10_at_ 2 = .ok (.aload_n 1, 1) := by decide +kernel
theorem dX10_at__3 : decode cX10_at_ 3 = .ok (.invokestatic 165, 3) := by decide +kernel
theorem dX10_at__6 : decode cX10_at_ 6 = .ok (.istore 4, 2) := by decide +kernel
theorem dX10_at__8 : decode cX10_at_ 8 = .ok (.iload 4, 2) := by decide +kernel
theorem dX10_at__10 : decode cX10_at_ 10 = .ok (.ifCond .lt 21, 3) := by decide +kernel
theorem dX10_at__13 : decode cX10_at_ 13 = .ok (.aload_n 0, 1) := by decide +kernel
theorem dX10_at__14 : decode cX10_at_ 14 = .ok (.iload_n 3, 1) := by decide +kernel
theorem dX10_at__15 : decode cX10_at_ 15 = .ok (.iload_n 2, 1) := by decide +kernel
theorem dX10_at__16 : decode cX10_at_ 16 = .ok (.invokevirtual 102, 3) := by decide +kernel
theorem dX10_at__19 : decode cX10_at_ 19 = .ok (.aload_n 1, 1) := by decide +kernel
theorem dX10_at__20 : decode cX10_at_ 20 = .ok (.iload 4, 2) := by decide +kernel
theorem dX10_at__22 : decode cX10_at_ 22 = .ok (.iaload, 1) := by decide +kernel
theorem dX10_at__23 : decode cX10_at_ 23 = .ok (.ixor, 1) := by decide +kernel
theorem dX10_at__24 : decode cX10_at_ 24 = .ok (.istore_n 3, 1) := by decide +kernel
theorem dX10_at__25 : decode cX10_at_ 25 = .ok (.iinc 4 (-1), 3) := by decide +kernel
theorem dX10_at__28 : decode cX10_at_ 28 = .ok (.goto (-20), 3) := by decide +kernel
theorem dX10_at__31 : decode cX10_at_ 31 = .ok (.iload_n 3, 1) := by decide +kernel
theorem dX10_at__32 : decode cX10_at_ 32 = .ok (.ireturn, 1) := by decide +kernel
theorem dX10_polynomial_0 : decode cX10_polynomial 0 = .ok (.aload_n 0, 1) := by decide +kernel
theorem dX10_polynomial_1 : decode cX10_polynomial 1 = .ok (.iconst 0, 1) := by decide +kernel
theorem dX10_polynomial_2 : decode cX10_polynomial 2 = .ok (.putfield 1, 3) := by decide +kernel
theorem dX10_polynomial_5 : decode cX10_polynomial 5 = .ok (.aload_n 0, 1) := by decide +kernel
theorem dX10_polynomial_6 : decode cX10_polynomial 6 = .ok (.getfield 42, 3) := by decide +kernel
theorem dX10_polynomial_9 : decode cX10_polynomial 9 = .ok (.invokestatic 161, 3) := by decide +kernel
theorem dX10_polynomial_12 : decode cX10_polynomial 12 = .ok (.iconst 0, 1) := by decide +kernel
theorem dX10_polynomial_13 : decode cX10_polynomial 13 = .ok (.istore_n 1, 1) := by decide +kernel
theorem dX10_polynomial_14 : decode cX10_polynomial 14 = .ok (.iload_n 1, 1) := by decide +kernel
theorem dX10_polynomial_15 : decode cX10_polynomial 15 = .ok (.aload_n 0, 1) := by decide +kernel
theorem dX10_polynomial_16 : decode cX10_polynomial 16 = .ok (.getfield 124, 3) := by decide +kernel
theorem dX10_polynomial_19 : decode cX10_polynomial 19 = .ok (.if_icmp .ge 21, 3) := by decide +kernel
theorem dX10_polynomial_22 : decode cX10_polynomial 22 = .ok (.aload_n 0, 1) := by decide +kernel
theorem dX10_polynomial_23 : decode cX10_polynomial 23 = .ok (.getfield 42, 3) := by decide +kernel
theorem dX10_polynomial_26 : decode cX10_polynomial 26 = .ok (.iload_n 1, 1) := by decide +kernel
theorem dX10_polynomial_27 : decode cX10_polynomial 27 = .ok (.aload_n 0, 1) := by decide +kernel
theorem dX10_polynomial_28 : decode cX10_polynomial 28 = .ok (.getfield 13, 3) := by decide +kernel
theorem dX10_polynomial_31 : decode cX10_polynomial 31 = .ok (.iload_n 1, 1) := by decide +kernel
theorem dX10_polynomial_32 : decode cX10_polynomial 32 = .ok (.iaload, 1) := by decide +kernel
theorem dX10_polynomial_33 : decode cX10_polynomial 33 = .ok (.iastore, 1) := by decide +kernel
theorem dX10_polynomial_34 : decode cX10_polynomial 34 = .ok (.iinc 1 1, 3) := by decide +kernel
theorem dX10_polynomial_37 : decode cX10_polynomial 37 = .ok (.goto (-23), 3) := by decide +kernel
theorem dX10_polynomial_40 : decode cX10_polynomial 40 = .ok (.aload_n 0, 1) := by decide +kernel
theorem dX10_polynomial_41 : decode cX10_polynomial 41 = .ok (.getfield 158, 3) := by decide +kernel
theorem dX10_polynomial_44 : decode cX10_polynomial 44 = .ok (.bipush 40, 2) := by decide +kernel
theorem dX10_polynomial_46 : decode cX10_polynomial 46 = .ok (.if_icmp .eq 15, 3) := by decide +kernel
theorem dX10_polynomial_49 : decode cX10_polynomial 49 = .ok (.aload_n 0, 1) := by decide +kernel
theorem dX10_polynomial_50 : decode cX10_polynomial 50 = .ok (.getfield 42, 3) := by decide +kernel
theorem dX10_polynomial_53 : decode cX10_polynomial 53 = .ok (.invokestatic 165, 3) := by decide +kernel
theorem dX10_polynomial_56 : decode cX10_polynomial 56 = .ok (.bipush 65, 2) := by decide +kernel
theorem dX10_polynomial_58 : decode cX10_polynomial 58 = .ok (.if_icmp .lt 9, 3) := by decide +kernel
theorem dX10_polynomial_61 : decode cX10_polynomial 61 = .ok (.aload_n 0, 1) := by decide +kernel
theorem dX10_polynomial_62 : decode cX10_polynomial 62 = .ok (.iconst 1, 1) := by decide +kernel
theorem dX10_polynomial_63 : decode cX10_polynomial 63 = .ok (.invokevirtual 118, 3) := by decide +kernel
theorem dX10_polynomial_66 : decode cX10_polynomial 66 = .ok (.ireturn, 1) := by decide +kernel
theorem dX10_polynomial_67 : decode cX10_polynomial 67 = .ok (.aload_n 0, 1) := by decide +kernel
theorem dX10_polynomial_68 : decode cX10_polynomial 68 = .ok (.iconst 0, 1) := by decide +kernel
theorem dX10_polynomial_69 : decode cX10_polynomial 69 = .ok (.putfield 124, 3) := by decide +kernel
theorem dX10_polynomial_72 : decode cX10_polynomial 72 = .ok (.aload_n 0, 1) := by decide +kernel
theorem dX10_polynomial_73 : decode cX10_polynomial 73 = .ok (.aload_n 0, 1) := by decide +kernel
theorem dX10_polynomial_74 : decode cX10_polynomial 74 = .ok (.getfield 42, 3) := by decide +kernel
theorem dX10_polynomial_77 : decode cX10_polynomial 77 = .ok (.invokevirtual 169, 3) := by decide +kernel
theorem dX10_polynomial_80 : decode cX10_polynomial 80 = .ok (.ireturn, 1) := by decide +kernel
theorem dX10_point_0 : decode cX10_point 0 = .ok (.aload_n 0, 1) := by decide +kernel
theorem dX10_point_1 : decode cX10_point 1 = .ok (.iload_n 2, 1) := by decide +kernel
theorem dX10_point_2 : decode cX10_point 2 = .ok (.aload_n 0, 1) := by decide +kernel
theorem dX10_point_3 : decode cX10_point 3 = .ok (.aload_n 0, 1) := by decide +kernel
theorem dX10_point_4 : decode cX10_point 4 = .ok (.getfield 42, 3) := by decide +kernel
theorem dX10_point_7 : decode cX10_point 7 = .ok (.iload_n 1, 1) := by decide +kernel
theorem dX10_point_8 : decode cX10_point 8 = .ok (.invokevirtual 172, 3) := by decide +kernel
theorem dX10_point_11 : decode cX10_point 11 = .ok (.ixor, 1) := by decide +kernel
theorem dX10_point_12 : decode cX10_point 12 = .ok (.aload_n 0, 1) := by decide +kernel
theorem dX10_point_13 : decode cX10_point 13 = .ok (.aload_n 0, 1) := by decide +kernel
theorem dX10_point_14 : decode cX10_point 14 = .ok (.aload_n 0, 1) := by decide +kernel
theorem dX10_point_15 : decode cX10_point 15 = .ok (.getfield 45, 3) := by decide +kernel
theorem dX10_point_18 : decode cX10_point 18 = .ok (.iload_n 1, 1) := by decide +kernel
theorem dX10_point_19 : decode cX10_point 19 = .ok (.invokevirtual 172, 3) := by decide +kernel
theorem dX10_point_22 : decode cX10_point 22 = .ok (.invokevirtual 121, 3) := by decide +kernel
theorem dX10_point_25 : decode cX10_point 25 = .ok (.invokevirtual 102, 3) := by decide +kernel
theorem dX10_point_28 : decode cX10_point 28 = .ok (.istore_n 3, 1) := by decide +kernel
theorem dX10_point_29 : decode cX10_point 29 = .ok (.aload_n 0, 1) := by decide +kernel
theorem dX10_point_30 : decode cX10_point 30 = .ok (.getfield 45, 3) := by decide +kernel
theorem dX10_point_33 : decode cX10_point 33 = .ok (.invokestatic 165, 3) := by decide +kernel
theorem dX10_point_36 : decode cX10_point 36 = .ok (.istore 4, 2) := by decide +kernel
theorem dX10_point_38 : decode cX10_point 38 = .ok (.iconst 0, 1) := by decide +kernel
theorem dX10_point_39 : decode cX10_point 39 = .ok (.istore 5, 2) := by decide +kernel
theorem dX10_point_41 : decode cX10_point 41 = .ok (.iload 5, 2) := by decide +kernel
theorem dX10_point_43 : decode cX10_point 43 = .ok (.iload 4, 2) := by decide +kernel
theorem dX10_point_45 : decode cX10_point 45 = .ok (.if_icmp .gt 31, 3) := by decide +kernel
theorem dX10_point_48 : decode cX10_point 48 = .ok (.aload_n 0, 1) := by decide +kernel
theorem dX10_point_49 : decode cX10_point 49 = .ok (.getfield 42, 3) := by decide +kernel
theorem dX10_point_52 : decode cX10_point 52 = .ok (.iload 5, 2) := by decide +kernel
theorem dX10_point_54 : decode cX10_point 54 = .ok (.dup2, 1) := by decide +kernel
theorem dX10_point_55 : decode cX10_point 55 = .ok (.iaload, 1) := by decide +kernel
theorem dX10_point_56 : decode cX10_point 56 = .ok (.aload_n 0, 1) := by decide +kernel
theorem dX10_point_57 : decode cX10_point 57 = .ok (.iload_n 3, 1) := by decide +kernel
theorem dX10_point_58 : decode cX10_point 58 = .ok (.aload_n 0, 1) := by decide +kernel
theorem dX10_point_59 : decode cX10_point 59 = .ok (.getfield 45, 3) := by decide +kernel
theorem dX10_point_62 : decode cX10_point 62 = .ok (.iload 5, 2) := by decide +kernel
theorem dX10_point_64 : decode cX10_point 64 = .ok (.iaload, 1) := by decide +kernel
theorem dX10_point_65 : decode cX10_point 65 = .ok (.invokevirtual 102, 3) := by decide +kernel
theorem dX10_point_68 : decode cX10_point 68 = .ok (.ixor, 1) := by decide +kernel
theorem dX10_point_69 : decode cX10_point 69 = .ok (.iastore, 1) := by decide +kernel
theorem dX10_point_70 : decode cX10_point 70 = .ok (.iinc 5 1, 3) := by decide +kernel
theorem dX10_point_73 : decode cX10_point 73 = .ok (.goto (-32), 3) := by decide +kernel
theorem dX10_point_76 : decode cX10_point 76 = .ok (.iload 4, 2) := by decide +kernel
theorem dX10_point_78 : decode cX10_point 78 = .ok (.iconst 1, 1) := by decide +kernel
theorem dX10_point_79 : decode cX10_point 79 = .ok (.iadd, 1) := by decide +kernel
theorem dX10_point_80 : decode cX10_point 80 = .ok (.istore 5, 2) := by decide +kernel
theorem dX10_point_82 : decode cX10_point 82 = .ok (.iload 5, 2) := by decide +kernel
theorem dX10_point_84 : decode cX10_point 84 = .ok (.ifCond .lt 47, 3) := by decide +kernel
theorem dX10_point_87 : decode cX10_point 87 = .ok (.aload_n 0, 1) := by decide +kernel
theorem dX10_point_88 : decode cX10_point 88 = .ok (.getfield 45, 3) := by decide +kernel
theorem dX10_point_91 : decode cX10_point 91 = .ok (.iload 5, 2) := by decide +kernel
theorem dX10_point_93 : decode cX10_point 93 = .ok (.iload 5, 2) := by decide +kernel
theorem dX10_point_95 : decode cX10_point 95 = .ok (.ifCond .le 15, 3) := by decide +kernel
theorem dX10_point_98 : decode cX10_point 98 = .ok (.aload_n 0, 1) := by decide +kernel
theorem dX10_point_99 : decode cX10_point 99 = .ok (.getfield 45, 3) := by decide +kernel
theorem dX10_point_102 : decode cX10_point 102 = .ok (.iload 5, 2) := by decide +kernel
theorem dX10_point_104 : decode cX10_point 104 = .ok (.iconst 1, 1) := by decide +kernel
theorem dX10_point_105 : decode cX10_point 105 = .ok (.isub, 1) := by decide +kernel
theorem dX10_point_106 : decode cX10_point 106 = .ok (.iaload, 1) := by decide +kernel
theorem dX10_point_107 : decode cX10_point 107 = .ok (.goto 4, 3) := by decide +kernel
theorem dX10_point_110 : decode cX10_point 110 = .ok (.iconst 0, 1) := by decide +kernel
theorem dX10_point_111 : decode cX10_point 111 = .ok (.aload_n 0, 1) := by decide +kernel
theorem dX10_point_112 : decode cX10_point 112 = .ok (.iload_n 1, 1) := by decide +kernel
theorem dX10_point_113 : decode cX10_point 113 = .ok (.aload_n 0, 1) := by decide +kernel
theorem dX10_point_114 : decode cX10_point 114 = .ok (.getfield 45, 3) := by decide +kernel
theorem dX10_point_117 : decode cX10_point 117 = .ok (.iload 5, 2) := by decide +kernel
theorem dX10_point_119 : decode cX10_point 119 = .ok (.iaload, 1) := by decide +kernel
theorem dX10_point_120 : decode cX10_point 120 = .ok (.invokevirtual 102, 3) := by decide +kernel
theorem dX10_point_123 : decode cX10_point 123 = .ok (.ixor, 1) := by decide +kernel
theorem dX10_point_124 : decode cX10_point 124 = .ok (.iastore, 1) := by decide +kernel
theorem dX10_point_125 : decode cX10_point 125 = .ok (.iinc 5 (-1), 3) := by decide +kernel
theorem dX10_point_128 : decode cX10_point 128 = .ok (.goto (-46), 3) := by decide +kernel
theorem dX10_point_131 : decode cX10_point 131 = .ok (.return_, 1) := by decide +kernel
theorem dX10_begin_0 : decode cX10_begin 0 = .ok (.aload_n 0, 1) := by decide +kernel
theorem dX10_begin_1 : decode cX10_begin 1 = .ok (.getfield 42, 3) := by decide +kernel
theorem dX10_begin_4 : decode cX10_begin 4 = .ok (.invokestatic 161, 3) := by decide +kernel
theorem dX10_begin_7 : decode cX10_begin 7 = .ok (.aload_n 0, 1) := by decide +kernel
theorem dX10_begin_8 : decode cX10_begin 8 = .ok (.getfield 45, 3) := by decide +kernel
theorem dX10_begin_11 : decode cX10_begin 11 = .ok (.invokestatic 161, 3) := by decide +kernel
theorem dX10_begin_14 : decode cX10_begin 14 = .ok (.aload_n 0, 1) := by decide +kernel
theorem dX10_begin_15 : decode cX10_begin 15 = .ok (.getfield 45, 3) := by decide +kernel
theorem dX10_begin_18 : decode cX10_begin 18 = .ok (.iconst 0, 1) := by decide +kernel
theorem dX10_begin_19 : decode cX10_begin 19 = .ok (.iconst 1, 1) := by decide +kernel
theorem dX10_begin_20 : decode cX10_begin 20 = .ok (.iastore, 1) := by decide +kernel
theorem dX10_begin_21 : decode cX10_begin 21 = .ok (.return_, 1) := by decide +kernel
theorem dX10_through_0 : decode cX10_through 0 = .ok (.aload_n 0, 1) := by decide +kernel
theorem dX10_through_1 : decode cX10_through 1 = .ok (.iconst 0, 1) := by decide +kernel
theorem dX10_through_2 : decode cX10_through 2 = .ok (.putfield 1, 3) := by decide +kernel
theorem dX10_through_5 : decode cX10_through 5 = .ok (.aload_n 0, 1) := by decide +kernel
theorem dX10_through_6 : decode cX10_through 6 = .ok (.getfield 124, 3) := by decide +kernel
theorem dX10_through_9 : decode cX10_through 9 = .ok (.iconst 2, 1) := by decide +kernel
theorem dX10_through_10 : decode cX10_through 10 = .ok (.irem, 1) := by decide +kernel
theorem dX10_through_11 : decode cX10_through 11 = .ok (.iconst 1, 1) := by decide +kernel
theorem dX10_through_12 : decode cX10_through 12 = .ok (.if_icmp .eq 12, 3) := by decide +kernel
theorem dX10_through_15 : decode cX10_through 15 = .ok (.aload_n 0, 1) := by decide +kernel
theorem dX10_through_16 : decode cX10_through 16 = .ok (.iconst 0, 1) := by decide +kernel
theorem dX10_through_17 : decode cX10_through 17 = .ok (.iconst 2, 1) := by decide +kernel
theorem dX10_through_18 : decode cX10_through 18 = .ok (.invokevirtual 136, 3) := by decide +kernel
theorem dX10_through_21 : decode cX10_through 21 = .ok (.ifCond .eq 9, 3) := by decide +kernel
theorem dX10_through_24 : decode cX10_through 24 = .ok (.aload_n 0, 1) := by decide +kernel
theorem dX10_through_25 : decode cX10_through 25 = .ok (.iconst 1, 1) := by decide +kernel
theorem dX10_through_26 : decode cX10_through 26 = .ok (.invokevirtual 118, 3) := by decide +kernel
theorem dX10_through_29 : decode cX10_through 29 = .ok (.ireturn, 1) := by decide +kernel
theorem dX10_through_30 : decode cX10_through 30 = .ok (.aload_n 0, 1) := by decide +kernel
theorem dX10_through_31 : decode cX10_through 31 = .ok (.getfield 158, 3) := by decide +kernel
theorem dX10_through_34 : decode cX10_through 34 = .ok (.bipush 40, 2) := by decide +kernel
theorem dX10_through_36 : decode cX10_through 36 = .ok (.if_icmp .ne 9, 3) := by decide +kernel
theorem dX10_through_39 : decode cX10_through 39 = .ok (.aload_n 0, 1) := by decide +kernel
theorem dX10_through_40 : decode cX10_through 40 = .ok (.iconst 2, 1) := by decide +kernel
theorem dX10_through_41 : decode cX10_through 41 = .ok (.invokevirtual 118, 3) := by decide +kernel
theorem dX10_through_44 : decode cX10_through 44 = .ok (.ireturn, 1) := by decide +kernel
theorem dX10_through_45 : decode cX10_through 45 = .ok (.aload_n 0, 1) := by decide +kernel
theorem dX10_through_46 : decode cX10_through 46 = .ok (.invokevirtual 175, 3) := by decide +kernel
theorem dX10_through_49 : decode cX10_through 49 = .ok (.iconst 0, 1) := by decide +kernel
theorem dX10_through_50 : decode cX10_through 50 = .ok (.istore_n 1, 1) := by decide +kernel
theorem dX10_through_51 : decode cX10_through 51 = .ok (.iload_n 1, 1) := by decide +kernel
theorem dX10_through_52 : decode cX10_through 52 = .ok (.aload_n 0, 1) := by decide +kernel
theorem dX10_through_53 : decode cX10_through 53 = .ok (.getfield 124, 3) := by decide +kernel
theorem dX10_through_56 : decode cX10_through 56 = .ok (.if_icmp .ge 27, 3) := by decide +kernel
theorem dX10_through_59 : decode cX10_through 59 = .ok (.aload_n 0, 1) := by decide +kernel
theorem dX10_through_60 : decode cX10_through 60 = .ok (.aload_n 0, 1) := by decide +kernel
theorem dX10_through_61 : decode cX10_through 61 = .ok (.getfield 13, 3) := by decide +kernel
theorem dX10_through_64 : decode cX10_through 64 = .ok (.iload_n 1, 1) := by decide +kernel
theorem dX10_through_65 : decode cX10_through 65 = .ok (.iaload, 1) := by decide +kernel
theorem dX10_through_66 : decode cX10_through 66 = .ok (.aload_n 0, 1) := by decide +kernel
theorem dX10_through_67 : decode cX10_through 67 = .ok (.getfield 13, 3) := by decide +kernel
theorem dX10_through_70 : decode cX10_through 70 = .ok (.iload_n 1, 1) := by decide +kernel
theorem dX10_through_71 : decode cX10_through 71 = .ok (.iconst 1, 1) := by decide +kernel
theorem dX10_through_72 : decode cX10_through 72 = .ok (.iadd, 1) := by decide +kernel
theorem dX10_through_73 : decode cX10_through 73 = .ok (.iaload, 1) := by decide +kernel
theorem dX10_through_74 : decode cX10_through 74 = .ok (.invokevirtual 178, 3) := by decide +kernel
theorem dX10_through_77 : decode cX10_through 77 = .ok (.iinc 1 2, 3) := by decide +kernel
theorem dX10_through_80 : decode cX10_through 80 = .ok (.goto (-29), 3) := by decide +kernel
theorem dX10_through_83 : decode cX10_through 83 = .ok (.aload_n 0, 1) := by decide +kernel
theorem dX10_through_84 : decode cX10_through 84 = .ok (.iconst 0, 1) := by decide +kernel
theorem dX10_through_85 : decode cX10_through 85 = .ok (.putfield 124, 3) := by decide +kernel
theorem dX10_through_88 : decode cX10_through 88 = .ok (.aload_n 0, 1) := by decide +kernel
theorem dX10_through_89 : decode cX10_through 89 = .ok (.aload_n 0, 1) := by decide +kernel
theorem dX10_through_90 : decode cX10_through 90 = .ok (.getfield 42, 3) := by decide +kernel
theorem dX10_through_93 : decode cX10_through 93 = .ok (.invokevirtual 169, 3) := by decide +kernel
theorem dX10_through_96 : decode cX10_through 96 = .ok (.ireturn, 1) := by decide +kernel
theorem dX10_degree_0 : decode cX10_degree 0 = .ok (.aload_n 0, 1) := by decide +kernel
theorem dX10_degree_1 : decode cX10_degree 1 = .ok (.iconst 0, 1) := by decide +kernel
theorem dX10_degree_2 : decode cX10_degree 2 = .ok (.putfield 1, 3) := by decide +kernel
theorem dX10_degree_5 : decode cX10_degree 5 = .ok (.aload_n 0, 1) := by decide +kernel
theorem dX10_degree_6 : decode cX10_degree 6 = .ok (.iload_n 1, 1) := by decide +kernel
theorem dX10_degree_7 : decode cX10_degree 7 = .ok (.invokevirtual 182, 3) := by decide +kernel
theorem dX10_degree_10 : decode cX10_degree 10 = .ok (.ifCond .eq 12, 3) := by decide +kernel
theorem dX10_degree_13 : decode cX10_degree 13 = .ok (.aload_n 0, 1) := by decide +kernel
theorem dX10_degree_14 : decode cX10_degree 14 = .ok (.getfield 36, 3) := by decide +kernel
theorem dX10_degree_17 : decode cX10_degree 17 = .ok (.iload_n 1, 1) := by decide +kernel
theorem dX10_degree_18 : decode cX10_degree 18 = .ok (.iaload, 1) := by decide +kernel
theorem dX10_degree_19 : decode cX10_degree 19 = .ok (.goto 8, 3) := by decide +kernel
theorem dX10_degree_22 : decode cX10_degree 22 = .ok (.aload_n 0, 1) := by decide +kernel
theorem dX10_degree_23 : decode cX10_degree 23 = .ok (.iconst 1, 1) := by decide +kernel
theorem dX10_degree_24 : decode cX10_degree 24 = .ok (.invokevirtual 118, 3) := by decide +kernel
theorem dX10_degree_27 : decode cX10_degree 27 = .ok (.ireturn, 1) := by decide +kernel
theorem dX10_coefficient_0 : decode cX10_coefficient 0 = .ok (.aload_n 0, 1) := by decide +kernel
theorem dX10_coefficient_1 : decode cX10_coefficient 1 = .ok (.iconst 0, 1) := by decide +kernel
theorem dX10_coefficient_2 : decode cX10_coefficient 2 = .ok (.putfield 1, 3) := by decide +kernel
theorem dX10_coefficient_5 : decode cX10_coefficient 5 = .ok (.aload_n 0, 1) := by decide +kernel
theorem dX10_coefficient_6 : decode cX10_coefficient 6 = .ok (.iload_n 1, 1) := by decide +kernel
theorem dX10_coefficient_7 : decode cX10_coefficient 7 = .ok (.invokevirtual 182, 3) := by decide +kernel
theorem dX10_coefficient_10 : decode cX10_coefficient 10 = .ok (.ifCond .eq 7, 3) := by decide +kernel
theorem dX10_coefficient_13 : decode cX10_coefficient 13 = .ok (.iload_n 2, 1) := by decide +kernel
theorem dX10_coefficient_14 : decode cX10_coefficient 14 = .ok (.ifCond .ge 9, 3) := by decide +kernel
theorem dX10_coefficient_17 : decode cX10_coefficient 17 = .ok (.aload_n 0, 1) := by decide +kernel
theorem dX10_coefficient_18 : decode cX10_coefficient 18 = .ok (.iconst 1, 1) := by decide +kernel
theorem dX10_coefficient_19 : decode cX10_coefficient 19 = .ok (.invokevirtual 118, 3) := by decide +kernel
theorem dX10_coefficient_22 : decode cX10_coefficient 22 = .ok (.ireturn, 1) := by decide +kernel
theorem dX10_coefficient_23 : decode cX10_coefficient 23 = .ok (.iload_n 2, 1) := by decide +kernel
theorem dX10_coefficient_24 : decode cX10_coefficient 24 = .ok (.bipush 65, 2) := by decide +kernel
theorem dX10_coefficient_26 : decode cX10_coefficient 26 = .ok (.if_icmp .ge 17, 3) := by decide +kernel
theorem dX10_coefficient_29 : decode cX10_coefficient 29 = .ok (.aload_n 0, 1) := by decide +kernel
theorem dX10_coefficient_30 : decode cX10_coefficient 30 = .ok (.getfield 39, 3) := by decide +kernel
theorem dX10_coefficient_33 : decode cX10_coefficient 33 = .ok (.bipush 65, 2) := by decide +kernel
theorem dX10_coefficient_35 : decode cX10_coefficient 35 = .ok (.iload_n 1, 1) := by decide +kernel
theorem dX10_coefficient_36 : decode cX10_coefficient 36 = .ok (.imul, 1) := by decide +kernel
theorem dX10_coefficient_37 : decode cX10_coefficient 37 = .ok (.iload_n 2, 1) := by decide +kernel
theorem dX10_coefficient_38 : decode cX10_coefficient 38 = .ok (.iadd, 1) := by decide +kernel
theorem dX10_coefficient_39 : decode cX10_coefficient 39 = .ok (.iaload, 1) := by decide +kernel
theorem dX10_coefficient_40 : decode cX10_coefficient 40 = .ok (.goto 4, 3) := by decide +kernel
theorem dX10_coefficient_43 : decode cX10_coefficient 43 = .ok (.iconst 0, 1) := by decide +kernel
theorem dX10_coefficient_44 : decode cX10_coefficient 44 = .ok (.ireturn, 1) := by decide +kernel
theorem dX10_value_0 : decode cX10_value 0 = .ok (.aload_n 0, 1) := by decide +kernel
theorem dX10_value_1 : decode cX10_value 1 = .ok (.iconst 0, 1) := by decide +kernel
theorem dX10_value_2 : decode cX10_value 2 = .ok (.putfield 1, 3) := by decide +kernel
theorem dX10_value_5 : decode cX10_value 5 = .ok (.aload_n 0, 1) := by decide +kernel
theorem dX10_value_6 : decode cX10_value 6 = .ok (.iload_n 1, 1) := by decide +kernel
theorem dX10_value_7 : decode cX10_value 7 = .ok (.invokevirtual 182, 3) := by decide +kernel
theorem dX10_value_10 : decode cX10_value 10 = .ok (.ifCond .ne 9, 3) := by decide +kernel
theorem dX10_value_13 : decode cX10_value 13 = .ok (.aload_n 0, 1) := by decide +kernel
theorem dX10_value_14 : decode cX10_value 14 = .ok (.iconst 1, 1) := by decide +kernel
theorem dX10_value_15 : decode cX10_value 15 = .ok (.invokevirtual 118, 3) := by decide +kernel
theorem dX10_value_18 : decode cX10_value 18 = .ok (.ireturn, 1) := by decide +kernel
theorem dX10_value_19 : decode cX10_value 19 = .ok (.aload_n 0, 1) := by decide +kernel
theorem dX10_value_20 : decode cX10_value 20 = .ok (.iload_n 2, 1) := by decide +kernel
theorem dX10_value_21 : decode cX10_value 21 = .ok (.invokevirtual 115, 3) := by decide +kernel
theorem dX10_value_24 : decode cX10_value 24 = .ok (.ifCond .ne 9, 3) := by decide +kernel
theorem dX10_value_27 : decode cX10_value 27 = .ok (.aload_n 0, 1) := by decide +kernel
theorem dX10_value_28 : decode cX10_value 28 = .ok (.iconst 2, 1) := by decide +kernel
theorem dX10_value_29 : decode cX10_value 29 = .ok (.invokevirtual 118, 3) := by decide +kernel
theorem dX10_value_32 : decode cX10_value 32 = .ok (.ireturn, 1) := by decide +kernel
theorem dX10_value_33 : decode cX10_value 33 = .ok (.aload_n 0, 1) := by decide +kernel
theorem dX10_value_34 : decode cX10_value 34 = .ok (.aload_n 0, 1) := by decide +kernel
theorem dX10_value_35 : decode cX10_value 35 = .ok (.getfield 42, 3) := by decide +kernel
theorem dX10_value_38 : decode cX10_value 38 = .ok (.iload_n 1, 1) := by decide +kernel
theorem dX10_value_39 : decode cX10_value 39 = .ok (.invokevirtual 185, 3) := by decide +kernel
theorem dX10_value_42 : decode cX10_value 42 = .ok (.aload_n 0, 1) := by decide +kernel
theorem dX10_value_43 : decode cX10_value 43 = .ok (.aload_n 0, 1) := by decide +kernel
theorem dX10_value_44 : decode cX10_value 44 = .ok (.getfield 42, 3) := by decide +kernel
theorem dX10_value_47 : decode cX10_value 47 = .ok (.iload_n 2, 1) := by decide +kernel
theorem dX10_value_48 : decode cX10_value 48 = .ok (.invokevirtual 172, 3) := by decide +kernel
theorem dX10_value_51 : decode cX10_value 51 = .ok (.ireturn, 1) := by decide +kernel
theorem dX10_plus_0 : decode cX10_plus 0 = .ok (.aload_n 0, 1) := by decide +kernel
theorem dX10_plus_1 : decode cX10_plus 1 = .ok (.iconst 0, 1) := by decide +kernel
theorem dX10_plus_2 : decode cX10_plus 2 = .ok (.putfield 1, 3) := by decide +kernel
theorem dX10_plus_5 : decode cX10_plus 5 = .ok (.aload_n 0, 1) := by decide +kernel
theorem dX10_plus_6 : decode cX10_plus 6 = .ok (.iload_n 1, 1) := by decide +kernel
theorem dX10_plus_7 : decode cX10_plus 7 = .ok (.invokevirtual 182, 3) := by decide +kernel
theorem dX10_plus_10 : decode cX10_plus 10 = .ok (.ifCond .eq 11, 3) := by decide +kernel
theorem dX10_plus_13 : decode cX10_plus 13 = .ok (.aload_n 0, 1) := by decide +kernel
theorem dX10_plus_14 : decode cX10_plus 14 = .ok (.iload_n 2, 1) := by decide +kernel
theorem dX10_plus_15 : decode cX10_plus 15 = .ok (.invokevirtual 182, 3) := by decide +kernel
theorem dX10_plus_18 : decode cX10_plus 18 = .ok (.ifCond .ne 9, 3) := by decide +kernel
theorem dX10_plus_21 : decode cX10_plus 21 = .ok (.aload_n 0, 1) := by decide +kernel
theorem dX10_plus_22 : decode cX10_plus 22 = .ok (.iconst 1, 1) := by decide +kernel
theorem dX10_plus_23 : decode cX10_plus 23 = .ok (.invokevirtual 118, 3) := by decide +kernel
theorem dX10_plus_26 : decode cX10_plus 26 = .ok (.ireturn, 1) := by decide +kernel
theorem dX10_plus_27 : decode cX10_plus 27 = .ok (.aload_n 0, 1) := by decide +kernel
theorem dX10_plus_28 : decode cX10_plus 28 = .ok (.getfield 158, 3) := by decide +kernel
theorem dX10_plus_31 : decode cX10_plus 31 = .ok (.bipush 40, 2) := by decide +kernel
theorem dX10_plus_33 : decode cX10_plus 33 = .ok (.if_icmp .ne 9, 3) := by decide +kernel
theorem dX10_plus_36 : decode cX10_plus 36 = .ok (.aload_n 0, 1) := by decide +kernel
theorem dX10_plus_37 : decode cX10_plus 37 = .ok (.iconst 2, 1) := by decide +kernel
theorem dX10_plus_38 : decode cX10_plus 38 = .ok (.invokevirtual 118, 3) := by decide +kernel
theorem dX10_plus_41 : decode cX10_plus 41 = .ok (.ireturn, 1) := by decide +kernel
theorem dX10_plus_42 : decode cX10_plus 42 = .ok (.aload_n 0, 1) := by decide +kernel
theorem dX10_plus_43 : decode cX10_plus 43 = .ok (.aload_n 0, 1) := by decide +kernel
theorem dX10_plus_44 : decode cX10_plus 44 = .ok (.getfield 42, 3) := by decide +kernel
theorem dX10_plus_47 : decode cX10_plus 47 = .ok (.iload_n 1, 1) := by decide +kernel
theorem dX10_plus_48 : decode cX10_plus 48 = .ok (.invokevirtual 185, 3) := by decide +kernel
theorem dX10_plus_51 : decode cX10_plus 51 = .ok (.aload_n 0, 1) := by decide +kernel
theorem dX10_plus_52 : decode cX10_plus 52 = .ok (.aload_n 0, 1) := by decide +kernel
theorem dX10_plus_53 : decode cX10_plus 53 = .ok (.getfield 45, 3) := by decide +kernel
theorem dX10_plus_56 : decode cX10_plus 56 = .ok (.iload_n 2, 1) := by decide +kernel
theorem dX10_plus_57 : decode cX10_plus 57 = .ok (.invokevirtual 185, 3) := by decide +kernel
theorem dX10_plus_60 : decode cX10_plus 60 = .ok (.iconst 0, 1) := by decide +kernel
theorem dX10_plus_61 : decode cX10_plus 61 = .ok (.istore_n 3, 1) := by decide +kernel
theorem dX10_plus_62 : decode cX10_plus 62 = .ok (.iload_n 3, 1) := by decide +kernel
theorem dX10_plus_63 : decode cX10_plus 63 = .ok (.bipush 65, 2) := by decide +kernel
theorem dX10_plus_65 : decode cX10_plus 65 = .ok (.if_icmp .ge 24, 3) := by decide +kernel
theorem dX10_plus_68 : decode cX10_plus 68 = .ok (.aload_n 0, 1) := by decide +kernel
theorem dX10_plus_69 : decode cX10_plus 69 = .ok (.getfield 42, 3) := by decide +kernel
theorem dX10_plus_72 : decode cX10_plus 72 = .ok (.iload_n 3, 1) := by decide +kernel
theorem dX10_plus_73 : decode cX10_plus 73 = .ok (.dup2, 1) := by decide +kernel
theorem dX10_plus_74 : decode cX10_plus 74 = .ok (.iaload, 1) := by decide +kernel
theorem dX10_plus_75 : decode cX10_plus 75 = .ok (.aload_n 0, 1) := by decide +kernel
theorem dX10_plus_76 : decode cX10_plus 76 = .ok (.getfield 45, 3) := by decide +kernel
theorem dX10_plus_79 : decode cX10_plus 79 = .ok (.iload_n 3, 1) := by decide +kernel
theorem dX10_plus_80 : decode cX10_plus 80 = .ok (.iaload, 1) := by decide +kernel
theorem dX10_plus_81 : decode cX10_plus 81 = .ok (.ixor, 1) := by decide +kernel
theorem dX10_plus_82 : decode cX10_plus 82 = .ok (.iastore, 1) := by decide +kernel
theorem dX10_plus_83 : decode cX10_plus 83 = .ok (.iinc 3 1, 3) := by decide +kernel
theorem dX10_plus_86 : decode cX10_plus 86 = .ok (.goto (-24), 3) := by decide +kernel
theorem dX10_plus_89 : decode cX10_plus 89 = .ok (.aload_n 0, 1) := by decide +kernel
theorem dX10_plus_90 : decode cX10_plus 90 = .ok (.aload_n 0, 1) := by decide +kernel
theorem dX10_plus_91 : decode cX10_plus 91 = .ok (.getfield 42, 3) := by decide +kernel
theorem dX10_plus_94 : decode cX10_plus 94 = .ok (.invokevirtual 169, 3) := by decide +kernel
theorem dX10_plus_97 : decode cX10_plus 97 = .ok (.ireturn, 1) := by decide +kernel
theorem dX10_multiply_0 : decode cX10_multiply 0 = .ok (.aload_n 0, 1) := by decide +kernel
theorem dX10_multiply_1 : decode cX10_multiply 1 = .ok (.iconst 0, 1) := by decide +kernel
theorem dX10_multiply_2 : decode cX10_multiply 2 = .ok (.putfield 1, 3) := by decide +kernel
theorem dX10_multiply_5 : decode cX10_multiply 5 = .ok (.aload_n 0, 1) := by decide +kernel
theorem dX10_multiply_6 : decode cX10_multiply 6 = .ok (.iload_n 1, 1) := by decide +kernel
theorem dX10_multiply_7 : decode cX10_multiply 7 = .ok (.invokevirtual 182, 3) := by decide +kernel
theorem dX10_multiply_10 : decode cX10_multiply 10 = .ok (.ifCond .eq 11, 3) := by decide +kernel
theorem dX10_multiply_13 : decode cX10_multiply 13 = .ok (.aload_n 0, 1) := by decide +kernel
theorem dX10_multiply_14 : decode cX10_multiply 14 = .ok (.iload_n 2, 1) := by decide +kernel
theorem dX10_multiply_15 : decode cX10_multiply 15 = .ok (.invokevirtual 182, 3) := by decide +kernel
theorem dX10_multiply_18 : decode cX10_multiply 18 = .ok (.ifCond .ne 9, 3) := by decide +kernel
theorem dX10_multiply_21 : decode cX10_multiply 21 = .ok (.aload_n 0, 1) := by decide +kernel
theorem dX10_multiply_22 : decode cX10_multiply 22 = .ok (.iconst 1, 1) := by decide +kernel
theorem dX10_multiply_23 : decode cX10_multiply 23 = .ok (.invokevirtual 118, 3) := by decide +kernel
theorem dX10_multiply_26 : decode cX10_multiply 26 = .ok (.ireturn, 1) := by decide +kernel
theorem dX10_multiply_27 : decode cX10_multiply 27 = .ok (.aload_n 0, 1) := by decide +kernel
theorem dX10_multiply_28 : decode cX10_multiply 28 = .ok (.aload_n 0, 1) := by decide +kernel
theorem dX10_multiply_29 : decode cX10_multiply 29 = .ok (.getfield 42, 3) := by decide +kernel
theorem dX10_multiply_32 : decode cX10_multiply 32 = .ok (.iload_n 1, 1) := by decide +kernel
theorem dX10_multiply_33 : decode cX10_multiply 33 = .ok (.invokevirtual 185, 3) := by decide +kernel
theorem dX10_multiply_36 : decode cX10_multiply 36 = .ok (.aload_n 0, 1) := by decide +kernel
theorem dX10_multiply_37 : decode cX10_multiply 37 = .ok (.aload_n 0, 1) := by decide +kernel
theorem dX10_multiply_38 : decode cX10_multiply 38 = .ok (.getfield 45, 3) := by decide +kernel
theorem dX10_multiply_41 : decode cX10_multiply 41 = .ok (.iload_n 2, 1) := by decide +kernel
theorem dX10_multiply_42 : decode cX10_multiply 42 = .ok (.invokevirtual 185, 3) := by decide +kernel
theorem dX10_multiply_45 : decode cX10_multiply 45 = .ok (.aload_n 0, 1) := by decide +kernel
theorem dX10_multiply_46 : decode cX10_multiply 46 = .ok (.getfield 48, 3) := by decide +kernel
theorem dX10_multiply_49 : decode cX10_multiply 49 = .ok (.invokestatic 161, 3) := by decide +kernel
theorem dX10_multiply_52 : decode cX10_multiply 52 = .ok (.iconst 0, 1) := by decide +kernel
theorem dX10_multiply_53 : decode cX10_multiply 53 = .ok (.istore_n 3, 1) := by decide +kernel
theorem dX10_multiply_54 : decode cX10_multiply 54 = .ok (.iload_n 3, 1) := by decide +kernel
theorem dX10_multiply_55 : decode cX10_multiply 55 = .ok (.bipush 65, 2) := by decide +kernel
theorem dX10_multiply_57 : decode cX10_multiply 57 = .ok (.if_icmp .ge 63, 3) := by decide +kernel
theorem dX10_multiply_60 : decode cX10_multiply 60 = .ok (.iconst 0, 1) := by decide +kernel
theorem dX10_multiply_61 : decode cX10_multiply 61 = .ok (.istore 4, 2) := by decide +kernel
theorem dX10_multiply_63 : decode cX10_multiply 63 = .ok (.iload 4, 2) := by decide +kernel
theorem dX10_multiply_65 : decode cX10_multiply 65 = .ok (.bipush 65, 2) := by decide +kernel
theorem dX10_multiply_67 : decode cX10_multiply 67 = .ok (.if_icmp .ge 47, 3) := by decide +kernel
theorem dX10_multiply_70 : decode cX10_multiply 70 = .ok (.aload_n 0, 1) := by decide +kernel
theorem dX10_multiply_71 : decode cX10_multiply 71 = .ok (.getfield 42, 3) := by decide +kernel
theorem dX10_multiply_74 : decode cX10_multiply 74 = .ok (.iload_n 3, 1) := by decide +kernel
theorem dX10_multiply_75 : decode cX10_multiply 75 = .ok (.iaload, 1) := by decide +kernel
theorem dX10_multiply_76 : decode cX10_multiply 76 = .ok (.ifCond .eq 38, 3) := by decide +kernel
theorem dX10_multiply_79 : decode cX10_multiply 79 = .ok (.aload_n 0, 1) := by decide +kernel
theorem dX10_multiply_80 : decode cX10_multiply 80 = .ok (.getfield 48, 3) := by decide +kernel
theorem dX10_multiply_83 : decode cX10_multiply 83 = .ok (.iload_n 3, 1) := by decide +kernel
theorem dX10_multiply_84 : decode cX10_multiply 84 = .ok (.iload 4, 2) := by decide +kernel
theorem dX10_multiply_86 : decode cX10_multiply 86 = .ok (.iadd, 1) := by decide +kernel
theorem dX10_multiply_87 : decode cX10_multiply 87 = .ok (.dup2, 1) := by decide +kernel
theorem dX10_multiply_88 : decode cX10_multiply 88 = .ok (.iaload, 1) := by decide +kernel
theorem dX10_multiply_89 : decode cX10_multiply 89 = .ok (.aload_n 0, 1) := by decide +kernel
theorem dX10_multiply_90 : decode cX10_multiply 90 = .ok (.aload_n 0, 1) := by decide +kernel
theorem dX10_multiply_91 : decode cX10_multiply 91 = .ok (.getfield 42, 3) := by decide +kernel
theorem dX10_multiply_94 : decode cX10_multiply 94 = .ok (.iload_n 3, 1) := by decide +kernel
theorem dX10_multiply_95 : decode cX10_multiply 95 = .ok (.iaload, 1) := by decide +kernel
theorem dX10_multiply_96 : decode cX10_multiply 96 = .ok (.aload_n 0, 1) := by decide +kernel
theorem dX10_multiply_97 : decode cX10_multiply 97 = .ok (.getfield 45, 3) := by decide +kernel
theorem dX10_multiply_100 : decode cX10_multiply 100 = .ok (.iload 4, 2) := by decide +kernel
theorem dX10_multiply_102 : decode cX10_multiply 102 = .ok (.iaload, 1) := by decide +kernel
theorem dX10_multiply_103 : decode cX10_multiply 103 = .ok (.invokevirtual 102, 3) := by decide +kernel
theorem dX10_multiply_106 : decode cX10_multiply 106 = .ok (.ixor, 1) := by decide +kernel
theorem dX10_multiply_107 : decode cX10_multiply 107 = .ok (.iastore, 1) := by decide +kernel
theorem dX10_multiply_108 : decode cX10_multiply 108 = .ok (.iinc 4 1, 3) := by decide +kernel
theorem dX10_multiply_111 : decode cX10_multiply 111 = .ok (.goto (-48), 3) := by decide +kernel
theorem dX10_multiply_114 : decode cX10_multiply 114 = .ok (.iinc 3 1, 3) := by decide +kernel
theorem dX10_multiply_117 : decode cX10_multiply 117 = .ok (.goto (-63), 3) := by decide +kernel
theorem dX10_multiply_120 : decode cX10_multiply 120 = .ok (.aload_n 0, 1) := by decide +kernel
theorem dX10_multiply_121 : decode cX10_multiply 121 = .ok (.getfield 158, 3) := by decide +kernel
theorem dX10_multiply_124 : decode cX10_multiply 124 = .ok (.bipush 40, 2) := by decide +kernel
theorem dX10_multiply_126 : decode cX10_multiply 126 = .ok (.if_icmp .eq 15, 3) := by decide +kernel
theorem dX10_multiply_129 : decode cX10_multiply 129 = .ok (.aload_n 0, 1) := by decide +kernel
theorem dX10_multiply_130 : decode cX10_multiply 130 = .ok (.getfield 48, 3) := by decide +kernel
theorem dX10_multiply_133 : decode cX10_multiply 133 = .ok (.invokestatic 165, 3) := by decide +kernel
theorem dX10_multiply_136 : decode cX10_multiply 136 = .ok (.bipush 65, 2) := by decide +kernel
theorem dX10_multiply_138 : decode cX10_multiply 138 = .ok (.if_icmp .lt 9, 3) := by decide +kernel
theorem dX10_multiply_141 : decode cX10_multiply 141 = .ok (.aload_n 0, 1) := by decide +kernel
theorem dX10_multiply_142 : decode cX10_multiply 142 = .ok (.iconst 2, 1) := by decide +kernel
theorem dX10_multiply_143 : decode cX10_multiply 143 = .ok (.invokevirtual 118, 3) := by decide +kernel
theorem dX10_multiply_146 : decode cX10_multiply 146 = .ok (.ireturn, 1) := by decide +kernel
theorem dX10_multiply_147 : decode cX10_multiply 147 = .ok (.aload_n 0, 1) := by decide +kernel
theorem dX10_multiply_148 : decode cX10_multiply 148 = .ok (.aload_n 0, 1) := by decide +kernel
theorem dX10_multiply_149 : decode cX10_multiply 149 = .ok (.getfield 48, 3) := by decide +kernel
theorem dX10_multiply_152 : decode cX10_multiply 152 = .ok (.invokevirtual 169, 3) := by decide +kernel
theorem dX10_multiply_155 : decode cX10_multiply 155 = .ok (.ireturn, 1) := by decide +kernel
theorem dX10_split_0 : decode cX10_split 0 = .ok (.aload_n 0, 1) := by decide +kernel
theorem dX10_split_1 : decode cX10_split 1 = .ok (.getfield 48, 3) := by decide +kernel
theorem dX10_split_4 : decode cX10_split 4 = .ok (.invokestatic 161, 3) := by decide +kernel
theorem dX10_split_7 : decode cX10_split 7 = .ok (.aload_n 2, 1) := by decide +kernel
theorem dX10_split_8 : decode cX10_split 8 = .ok (.invokestatic 165, 3) := by decide +kernel
theorem dX10_split_11 : decode cX10_split 11 = .ok (.istore_n 3, 1) := by decide +kernel
theorem dX10_split_12 : decode cX10_split 12 = .ok (.aload_n 0, 1) := by decide +kernel
theorem dX10_split_13 : decode cX10_split 13 = .ok (.aload_n 2, 1) := by decide +kernel
theorem dX10_split_14 : decode cX10_split 14 = .ok (.iload_n 3, 1) := by decide +kernel
theorem dX10_split_15 : decode cX10_split 15 = .ok (.iaload, 1) := by decide +kernel
theorem dX10_split_16 : decode cX10_split 16 = .ok (.invokevirtual 121, 3) := by decide +kernel
theorem dX10_split_19 : decode cX10_split 19 = .ok (.istore 4, 2) := by decide +kernel
theorem dX10_split_21 : decode cX10_split 21 = .ok (.aload_n 1, 1) := by decide +kernel
theorem dX10_split_22 : decode cX10_split 22 = .ok (.invokestatic 165, 3) := by decide +kernel
theorem dX10_split_25 : decode cX10_split 25 = .ok (.istore 5, 2) := by decide +kernel
theorem dX10_split_27 : decode cX10_split 27 = .ok (.iload 5, 2) := by decide +kernel
theorem dX10_split_29 : decode cX10_split 29 = .ok (.iload_n 3, 1) := by decide +kernel
theorem dX10_split_30 : decode cX10_split 30 = .ok (.if_icmp .lt 74, 3) := by decide +kernel
theorem dX10_split_33 : decode cX10_split 33 = .ok (.aload_n 0, 1) := by decide +kernel
theorem dX10_split_34 : decode cX10_split 34 = .ok (.aload_n 1, 1) := by decide +kernel
theorem dX10_split_35 : decode cX10_split 35 = .ok (.iload 5, 2) := by decide +kernel
theorem dX10_split_37 : decode cX10_split 37 = .ok (.iaload, 1) := by decide +kernel
theorem dX10_split_38 : decode cX10_split 38 = .ok (.iload 4, 2) := by decide +kernel
theorem dX10_split_40 : decode cX10_split 40 = .ok (.invokevirtual 102, 3) := by decide +kernel
theorem dX10_split_43 : decode cX10_split 43 = .ok (.istore 6, 2) := by decide +kernel
theorem dX10_split_45 : decode cX10_split 45 = .ok (.aload_n 0, 1) := by decide +kernel
theorem dX10_split_46 : decode cX10_split 46 = .ok (.getfield 48, 3) := by decide +kernel
theorem dX10_split_49 : decode cX10_split 49 = .ok (.iload 5, 2) := by decide +kernel
theorem dX10_split_51 : decode cX10_split 51 = .ok (.iload_n 3, 1) := by decide +kernel
theorem dX10_split_52 : decode cX10_split 52 = .ok (.isub, 1) := by decide +kernel
theorem dX10_split_53 : decode cX10_split 53 = .ok (.iload 6, 2) := by decide +kernel
theorem dX10_split_55 : decode cX10_split 55 = .ok (.iastore, 1) := by decide +kernel
theorem dX10_split_56 : decode cX10_split 56 = .ok (.iconst 0, 1) := by decide +kernel
theorem dX10_split_57 : decode cX10_split 57 = .ok (.istore 7, 2) := by decide +kernel
theorem dX10_split_59 : decode cX10_split 59 = .ok (.iload 7, 2) := by decide +kernel
theorem dX10_split_61 : decode cX10_split 61 = .ok (.iload_n 3, 1) := by decide +kernel
theorem dX10_split_62 : decode cX10_split 62 = .ok (.if_icmp .gt 36, 3) := by decide +kernel
theorem dX10_split_65 : decode cX10_split 65 = .ok (.iload 6, 2) := by decide +kernel
theorem dX10_split_67 : decode cX10_split 67 = .ok (.ifCond .eq 31, 3) := by decide +kernel
theorem dX10_split_70 : decode cX10_split 70 = .ok (.aload_n 1, 1) := by decide +kernel
theorem dX10_split_71 : decode cX10_split 71 = .ok (.iload 5, 2) := by decide +kernel
theorem dX10_split_73 : decode cX10_split 73 = .ok (.iload_n 3, 1) := by decide +kernel
theorem dX10_split_74 : decode cX10_split 74 = .ok (.isub, 1) := by decide +kernel
theorem dX10_split_75 : decode cX10_split 75 = .ok (.iload 7, 2) := by decide +kernel
theorem dX10_split_77 : decode cX10_split 77 = .ok (.iadd, 1) := by decide +kernel
theorem dX10_split_78 : decode cX10_split 78 = .ok (.dup2, 1) := by decide +kernel
theorem dX10_split_79 : decode cX10_split 79 = .ok (.iaload, 1) := by decide +kernel
theorem dX10_split_80 : decode cX10_split 80 = .ok (.aload_n 0, 1) := by decide +kernel
theorem dX10_split_81 : decode cX10_split 81 = .ok (.iload 6, 2) := by decide +kernel
theorem dX10_split_83 : decode cX10_split 83 = .ok (.aload_n 2, 1) := by decide +kernel
theorem dX10_split_84 : decode cX10_split 84 = .ok (.iload 7, 2) := by decide +kernel
theorem dX10_split_86 : decode cX10_split 86 = .ok (.iaload, 1) := by decide +kernel
theorem dX10_split_87 : decode cX10_split 87 = .ok (.invokevirtual 102, 3) := by decide +kernel
theorem dX10_split_90 : decode cX10_split 90 = .ok (.ixor, 1) := by decide +kernel
theorem dX10_split_91 : decode cX10_split 91 = .ok (.iastore, 1) := by decide +kernel
theorem dX10_split_92 : decode cX10_split 92 = .ok (.iinc 7 1, 3) := by decide +kernel
theorem dX10_split_95 : decode cX10_split 95 = .ok (.goto (-36), 3) := by decide +kernel
theorem dX10_split_98 : decode cX10_split 98 = .ok (.iinc 5 (-1), 3) := by decide +kernel
theorem dX10_split_101 : decode cX10_split 101 = .ok (.goto (-74), 3) := by decide +kernel
theorem dX10_split_104 : decode cX10_split 104 = .ok (.return_, 1) := by decide +kernel
theorem dX10_divide_0 : decode cX10_divide 0 = .ok (.aload_n 0, 1) := by decide +kernel
theorem dX10_divide_1 : decode cX10_divide 1 = .ok (.iconst 0, 1) := by decide +kernel
theorem dX10_divide_2 : decode cX10_divide 2 = .ok (.putfield 1, 3) := by decide +kernel
theorem dX10_divide_5 : decode cX10_divide 5 = .ok (.aload_n 0, 1) := by decide +kernel
theorem dX10_divide_6 : decode cX10_divide 6 = .ok (.iload_n 1, 1) := by decide +kernel
theorem dX10_divide_7 : decode cX10_divide 7 = .ok (.invokevirtual 182, 3) := by decide +kernel
theorem dX10_divide_10 : decode cX10_divide 10 = .ok (.ifCond .eq 11, 3) := by decide +kernel
theorem dX10_divide_13 : decode cX10_divide 13 = .ok (.aload_n 0, 1) := by decide +kernel
theorem dX10_divide_14 : decode cX10_divide 14 = .ok (.iload_n 2, 1) := by decide +kernel
theorem dX10_divide_15 : decode cX10_divide 15 = .ok (.invokevirtual 182, 3) := by decide +kernel
theorem dX10_divide_18 : decode cX10_divide 18 = .ok (.ifCond .ne 9, 3) := by decide +kernel
theorem dX10_divide_21 : decode cX10_divide 21 = .ok (.aload_n 0, 1) := by decide +kernel
theorem dX10_divide_22 : decode cX10_divide 22 = .ok (.iconst 1, 1) := by decide +kernel
theorem dX10_divide_23 : decode cX10_divide 23 = .ok (.invokevirtual 118, 3) := by decide +kernel
theorem dX10_divide_26 : decode cX10_divide 26 = .ok (.ireturn, 1) := by decide +kernel
theorem dX10_divide_27 : decode cX10_divide 27 = .ok (.aload_n 0, 1) := by decide +kernel
theorem dX10_divide_28 : decode cX10_divide 28 = .ok (.getfield 36, 3) := by decide +kernel
theorem dX10_divide_31 : decode cX10_divide 31 = .ok (.iload_n 2, 1) := by decide +kernel
theorem dX10_divide_32 : decode cX10_divide 32 = .ok (.iaload, 1) := by decide +kernel
theorem dX10_divide_33 : decode cX10_divide 33 = .ok (.iconst (-1), 1) := by decide +kernel
theorem dX10_divide_34 : decode cX10_divide 34 = .ok (.if_icmp .ne 9, 3) := by decide +kernel
theorem dX10_divide_37 : decode cX10_divide 37 = .ok (.aload_n 0, 1) := by decide +kernel
theorem dX10_divide_38 : decode cX10_divide 38 = .ok (.iconst 2, 1) := by decide +kernel
theorem dX10_divide_39 : decode cX10_divide 39 = .ok (.invokevirtual 118, 3) := by decide +kernel
theorem dX10_divide_42 : decode cX10_divide 42 = .ok (.ireturn, 1) := by decide +kernel
theorem dX10_divide_43 : decode cX10_divide 43 = .ok (.aload_n 0, 1) := by decide +kernel
theorem dX10_divide_44 : decode cX10_divide 44 = .ok (.getfield 158, 3) := by decide +kernel
theorem dX10_divide_47 : decode cX10_divide 47 = .ok (.bipush 40, 2) := by decide +kernel
theorem dX10_divide_49 : decode cX10_divide 49 = .ok (.if_icmp .ne 9, 3) := by decide +kernel
theorem dX10_divide_52 : decode cX10_divide 52 = .ok (.aload_n 0, 1) := by decide +kernel
theorem dX10_divide_53 : decode cX10_divide 53 = .ok (.iconst 3, 1) := by decide +kernel
theorem dX10_divide_54 : decode cX10_divide 54 = .ok (.invokevirtual 118, 3) := by decide +kernel
theorem dX10_divide_57 : decode cX10_divide 57 = .ok (.ireturn, 1) := by decide +kernel
theorem dX10_divide_58 : decode cX10_divide 58 = .ok (.aload_n 0, 1) := by decide +kernel
theorem dX10_divide_59 : decode cX10_divide 59 = .ok (.aload_n 0, 1) := by decide +kernel
theorem dX10_divide_60 : decode cX10_divide 60 = .ok (.getfield 42, 3) := by decide +kernel
theorem dX10_divide_63 : decode cX10_divide 63 = .ok (.iload_n 1, 1) := by decide +kernel
theorem dX10_divide_64 : decode cX10_divide 64 = .ok (.invokevirtual 185, 3) := by decide +kernel
theorem dX10_divide_67 : decode cX10_divide 67 = .ok (.aload_n 0, 1) := by decide +kernel
theorem dX10_divide_68 : decode cX10_divide 68 = .ok (.aload_n 0, 1) := by decide +kernel
theorem dX10_divide_69 : decode cX10_divide 69 = .ok (.getfield 45, 3) := by decide +kernel
theorem dX10_divide_72 : decode cX10_divide 72 = .ok (.iload_n 2, 1) := by decide +kernel
theorem dX10_divide_73 : decode cX10_divide 73 = .ok (.invokevirtual 185, 3) := by decide +kernel
theorem dX10_divide_76 : decode cX10_divide 76 = .ok (.aload_n 0, 1) := by decide +kernel
theorem dX10_divide_77 : decode cX10_divide 77 = .ok (.aload_n 0, 1) := by decide +kernel
theorem dX10_divide_78 : decode cX10_divide 78 = .ok (.getfield 42, 3) := by decide +kernel
theorem dX10_divide_81 : decode cX10_divide 81 = .ok (.aload_n 0, 1) := by decide +kernel
theorem dX10_divide_82 : decode cX10_divide 82 = .ok (.getfield 45, 3) := by decide +kernel
theorem dX10_divide_85 : decode cX10_divide 85 = .ok (.invokevirtual 189, 3) := by decide +kernel
theorem dX10_divide_88 : decode cX10_divide 88 = .ok (.iload_n 3, 1) := by decide +kernel
theorem dX10_divide_89 : decode cX10_divide 89 = .ok (.ifCond .eq 14, 3) := by decide +kernel
theorem dX10_divide_92 : decode cX10_divide 92 = .ok (.aload_n 0, 1) := by decide +kernel
theorem dX10_divide_93 : decode cX10_divide 93 = .ok (.aload_n 0, 1) := by decide +kernel
theorem dX10_divide_94 : decode cX10_divide 94 = .ok (.getfield 42, 3) := by decide +kernel
theorem dX10_divide_97 : decode cX10_divide 97 = .ok (.invokevirtual 169, 3) := by decide +kernel
theorem dX10_divide_100 : decode cX10_divide 100 = .ok (.goto 11, 3) := by decide +kernel
theorem dX10_divide_103 : decode cX10_divide 103 = .ok (.aload_n 0, 1) := by decide +kernel
theorem dX10_divide_104 : decode cX10_divide 104 = .ok (.aload_n 0, 1) := by decide +kernel
theorem dX10_divide_105 : decode cX10_divide 105 = .ok (.getfield 48, 3) := by decide +kernel
theorem dX10_divide_108 : decode cX10_divide 108 = .ok (.invokevirtual 169, 3) := by decide +kernel
theorem dX10_divide_111 : decode cX10_divide 111 = .ok (.ireturn, 1) := by decide +kernel
theorem dX10_divisor_0 : decode cX10_divisor 0 = .ok (.aload_n 2, 1) := by decide +kernel
theorem dX10_divisor_1 : decode cX10_divisor 1 = .ok (.invokestatic 165, 3) := by decide +kernel
theorem dX10_divisor_4 : decode cX10_divisor 4 = .ok (.ifCond .lt 33, 3) := by decide +kernel
theorem dX10_divisor_7 : decode cX10_divisor 7 = .ok (.aload_n 0, 1) := by decide +kernel
theorem dX10_divisor_8 : decode cX10_divisor 8 = .ok (.aload_n 1, 1) := by decide +kernel
theorem dX10_divisor_9 : decode cX10_divisor 9 = .ok (.aload_n 2, 1) := by decide +kernel
theorem dX10_divisor_10 : decode cX10_divisor 10 = .ok (.invokevirtual 189, 3) := by decide +kernel
theorem dX10_divisor_13 : decode cX10_divisor 13 = .ok (.aload_n 0, 1) := by decide +kernel
theorem dX10_divisor_14 : decode cX10_divisor 14 = .ok (.getfield 51, 3) := by decide +kernel
theorem dX10_divisor_17 : decode cX10_divisor 17 = .ok (.aload_n 1, 1) := by decide +kernel
theorem dX10_divisor_18 : decode cX10_divisor 18 = .ok (.invokestatic 193, 3) := by decide +kernel
theorem dX10_divisor_21 : decode cX10_divisor 21 = .ok (.aload_n 1, 1) := by decide +kernel
theorem dX10_divisor_22 : decode cX10_divisor 22 = .ok (.aload_n 2, 1) := by decide +kernel
theorem dX10_divisor_23 : decode cX10_divisor 23 = .ok (.invokestatic 193, 3) := by decide +kernel
theorem dX10_divisor_26 : decode cX10_divisor 26 = .ok (.aload_n 2, 1) := by decide +kernel
theorem dX10_divisor_27 : decode cX10_divisor 27 = .ok (.aload_n 0, 1) := by decide +kernel
theorem dX10_divisor_28 : decode cX10_divisor 28 = .ok (.getfield 51, 3) := by decide +kernel
theorem dX10_divisor_31 : decode cX10_divisor 31 = .ok (.invokestatic 193, 3) := by decide +kernel
theorem dX10_divisor_34 : decode cX10_divisor 34 = .ok (.goto (-34), 3) := by decide +kernel
theorem dX10_divisor_37 : decode cX10_divisor 37 = .ok (.aload_n 1, 1) := by decide +kernel
theorem dX10_divisor_38 : decode cX10_divisor 38 = .ok (.invokestatic 165, 3) := by decide +kernel
theorem dX10_divisor_41 : decode cX10_divisor 41 = .ok (.istore_n 3, 1) := by decide +kernel
theorem dX10_divisor_42 : decode cX10_divisor 42 = .ok (.iload_n 3, 1) := by decide +kernel
theorem dX10_divisor_43 : decode cX10_divisor 43 = .ok (.ifCond .ge 7, 3) := by decide +kernel
theorem dX10_divisor_46 : decode cX10_divisor 46 = .ok (.iconst 0, 1) := by decide +kernel
theorem dX10_divisor_47 : decode cX10_divisor 47 = .ok (.goto 10, 3) := by decide +kernel
theorem dX10_divisor_50 : decode cX10_divisor 50 = .ok (.aload_n 0, 1) := by decide +kernel
theorem dX10_divisor_51 : decode cX10_divisor 51 = .ok (.aload_n 1, 1) := by decide +kernel
theorem dX10_divisor_52 : decode cX10_divisor 52 = .ok (.iload_n 3, 1) := by decide +kernel
theorem dX10_divisor_53 : decode cX10_divisor 53 = .ok (.iaload, 1) := by decide +kernel
theorem dX10_divisor_54 : decode cX10_divisor 54 = .ok (.invokevirtual 121, 3) := by decide +kernel
theorem dX10_divisor_57 : decode cX10_divisor 57 = .ok (.istore 4, 2) := by decide +kernel
theorem dX10_divisor_59 : decode cX10_divisor 59 = .ok (.iconst 0, 1) := by decide +kernel
theorem dX10_divisor_60 : decode cX10_divisor 60 = .ok (.istore 5, 2) := by decide +kernel
theorem dX10_divisor_62 : decode cX10_divisor 62 = .ok (.iload 5, 2) := by decide +kernel
theorem dX10_divisor_64 : decode cX10_divisor 64 = .ok (.iload_n 3, 1) := by decide +kernel
theorem dX10_divisor_65 : decode cX10_divisor 65 = .ok (.if_icmp .gt 23, 3) := by decide +kernel
theorem dX10_divisor_68 : decode cX10_divisor 68 = .ok (.aload_n 1, 1) := by decide +kernel
theorem dX10_divisor_69 : decode cX10_divisor 69 = .ok (.iload 5, 2) := by decide +kernel
theorem dX10_divisor_71 : decode cX10_divisor 71 = .ok (.aload_n 0, 1) := by decide +kernel
theorem dX10_divisor_72 : decode cX10_divisor 72 = .ok (.aload_n 1, 1) := by decide +kernel
theorem dX10_divisor_73 : decode cX10_divisor 73 = .ok (.iload 5, 2) := by decide +kernel
theorem dX10_divisor_75 : decode cX10_divisor 75 = .ok (.iaload, 1) := by decide +kernel
theorem dX10_divisor_76 : decode cX10_divisor 76 = .ok (.iload 4, 2) := by decide +kernel
theorem dX10_divisor_78 : decode cX10_divisor 78 = .ok (.invokevirtual 102, 3) := by decide +kernel
theorem dX10_divisor_81 : decode cX10_divisor 81 = .ok (.iastore, 1) := by decide +kernel
theorem dX10_divisor_82 : decode cX10_divisor 82 = .ok (.iinc 5 1, 3) := by decide +kernel
theorem dX10_divisor_85 : decode cX10_divisor 85 = .ok (.goto (-23), 3) := by decide +kernel
theorem dX10_divisor_88 : decode cX10_divisor 88 = .ok (.return_, 1) := by decide +kernel
theorem dX10_common_0 : decode cX10_common 0 = .ok (.aload_n 0, 1) := by decide +kernel
theorem dX10_common_1 : decode cX10_common 1 = .ok (.iconst 0, 1) := by decide +kernel
theorem dX10_common_2 : decode cX10_common 2 = .ok (.putfield 1, 3) := by decide +kernel
theorem dX10_common_5 : decode cX10_common 5 = .ok (.aload_n 0, 1) := by decide +kernel
theorem dX10_common_6 : decode cX10_common 6 = .ok (.iload_n 1, 1) := by decide +kernel
theorem dX10_common_7 : decode cX10_common 7 = .ok (.invokevirtual 182, 3) := by decide +kernel
theorem dX10_common_10 : decode cX10_common 10 = .ok (.ifCond .eq 11, 3) := by decide +kernel
theorem dX10_common_13 : decode cX10_common 13 = .ok (.aload_n 0, 1) := by decide +kernel
theorem dX10_common_14 : decode cX10_common 14 = .ok (.iload_n 2, 1) := by decide +kernel
theorem dX10_common_15 : decode cX10_common 15 = .ok (.invokevirtual 182, 3) := by decide +kernel
theorem dX10_common_18 : decode cX10_common 18 = .ok (.ifCond .ne 9, 3) := by decide +kernel
theorem dX10_common_21 : decode cX10_common 21 = .ok (.aload_n 0, 1) := by decide +kernel
theorem dX10_common_22 : decode cX10_common 22 = .ok (.iconst 1, 1) := by decide +kernel
end
section
theorem dX10_common_23 : decode cX10_common 23 = .ok (.invokevirtual 118, 3) := by decide +kernel
theorem dX10_common_26 : decode cX10_common 26 = .ok (.ireturn, 1) := by decide +kernel
theorem dX10_common_27 : decode cX10_common 27 = .ok (.aload_n 0, 1) := by decide +kernel
theorem dX10_common_28 : decode cX10_common 28 = .ok (.getfield 158, 3) := by decide +kernel
theorem dX10_common_31 : decode cX10_common 31 = .ok (.bipush 40, 2) := by decide +kernel
theorem dX10_common_33 : decode cX10_common 33 = .ok (.if_icmp .ne 9, 3) := by decide +kernel
theorem dX10_common_36 : decode cX10_common 36 = .ok (.aload_n 0, 1) := by decide +kernel
theorem dX10_common_37 : decode cX10_common 37 = .ok (.iconst 2, 1) := by decide +kernel
theorem dX10_common_38 : decode cX10_common 38 = .ok (.invokevirtual 118, 3) := by decide +kernel
theorem dX10_common_41 : decode cX10_common 41 = .ok (.ireturn, 1) := by decide +kernel
theorem dX10_common_42 : decode cX10_common 42 = .ok (.aload_n 0, 1) := by decide +kernel
theorem dX10_common_43 : decode cX10_common 43 = .ok (.aload_n 0, 1) := by decide +kernel
theorem dX10_common_44 : decode cX10_common 44 = .ok (.getfield 42, 3) := by decide +kernel
theorem dX10_common_47 : decode cX10_common 47 = .ok (.iload_n 1, 1) := by decide +kernel
theorem dX10_common_48 : decode cX10_common 48 = .ok (.invokevirtual 185, 3) := by decide +kernel
theorem dX10_common_51 : decode cX10_common 51 = .ok (.aload_n 0, 1) := by decide +kernel
theorem dX10_common_52 : decode cX10_common 52 = .ok (.aload_n 0, 1) := by decide +kernel
theorem dX10_common_53 : decode cX10_common 53 = .ok (.getfield 45, 3) := by decide +kernel
theorem dX10_common_56 : decode cX10_common 56 = .ok (.iload_n 2, 1) := by decide +kernel
theorem dX10_common_57 : decode cX10_common 57 = .ok (.invokevirtual 185, 3) := by decide +kernel
theorem dX10_common_60 : decode cX10_common 60 = .ok (.aload_n 0, 1) := by decide +kernel
theorem dX10_common_61 : decode cX10_common 61 = .ok (.aload_n 0, 1) := by decide +kernel
theorem dX10_common_62 : decode cX10_common 62 = .ok (.getfield 42, 3) := by decide +kernel
theorem dX10_common_65 : decode cX10_common 65 = .ok (.aload_n 0, 1) := by decide +kernel
theorem dX10_common_66 : decode cX10_common 66 = .ok (.getfield 45, 3) := by decide +kernel
theorem dX10_common_69 : decode cX10_common 69 = .ok (.invokevirtual 196, 3) := by decide +kernel
theorem dX10_common_72 : decode cX10_common 72 = .ok (.aload_n 0, 1) := by decide +kernel
theorem dX10_common_73 : decode cX10_common 73 = .ok (.aload_n 0, 1) := by decide +kernel
theorem dX10_common_74 : decode cX10_common 74 = .ok (.getfield 42, 3) := by decide +kernel
theorem dX10_common_77 : decode cX10_common 77 = .ok (.invokevirtual 169, 3) := by decide +kernel
theorem dX10_common_80 : decode cX10_common 80 = .ok (.ireturn, 1) := by decide +kernel
theorem dX10_root_0 : decode cX10_root 0 = .ok (.aload_n 0, 1) := by decide +kernel
theorem dX10_root_1 : decode cX10_root 1 = .ok (.iconst 0, 1) := by decide +kernel
theorem dX10_root_2 : decode cX10_root 2 = .ok (.putfield 1, 3) := by decide +kernel
theorem dX10_root_5 : decode cX10_root 5 = .ok (.aload_n 0, 1) := by decide +kernel
theorem dX10_root_6 : decode cX10_root 6 = .ok (.iload_n 1, 1) := by decide +kernel
theorem dX10_root_7 : decode cX10_root 7 = .ok (.invokevirtual 182, 3) := by decide +kernel
theorem dX10_root_10 : decode cX10_root 10 = .ok (.ifCond .eq 7, 3) := by decide +kernel
theorem dX10_root_13 : decode cX10_root 13 = .ok (.iload_n 2, 1) := by decide +kernel
theorem dX10_root_14 : decode cX10_root 14 = .ok (.ifCond .ge 9, 3) := by decide +kernel
theorem dX10_root_17 : decode cX10_root 17 = .ok (.aload_n 0, 1) := by decide +kernel
theorem dX10_root_18 : decode cX10_root 18 = .ok (.iconst 1, 1) := by decide +kernel
theorem dX10_root_19 : decode cX10_root 19 = .ok (.invokevirtual 118, 3) := by decide +kernel
theorem dX10_root_22 : decode cX10_root 22 = .ok (.ireturn, 1) := by decide +kernel
theorem dX10_root_23 : decode cX10_root 23 = .ok (.aload_n 0, 1) := by decide +kernel
theorem dX10_root_24 : decode cX10_root 24 = .ok (.getfield 36, 3) := by decide +kernel
theorem dX10_root_27 : decode cX10_root 27 = .ok (.iload_n 1, 1) := by decide +kernel
theorem dX10_root_28 : decode cX10_root 28 = .ok (.iaload, 1) := by decide +kernel
theorem dX10_root_29 : decode cX10_root 29 = .ok (.iconst (-1), 1) := by decide +kernel
theorem dX10_root_30 : decode cX10_root 30 = .ok (.if_icmp .ne 17, 3) := by decide +kernel
theorem dX10_root_33 : decode cX10_root 33 = .ok (.iload_n 2, 1) := by decide +kernel
theorem dX10_root_34 : decode cX10_root 34 = .ok (.aload_n 0, 1) := by decide +kernel
theorem dX10_root_35 : decode cX10_root 35 = .ok (.getfield 78, 3) := by decide +kernel
theorem dX10_root_38 : decode cX10_root 38 = .ok (.if_icmp .ge 7, 3) := by decide +kernel
theorem dX10_root_41 : decode cX10_root 41 = .ok (.iload_n 2, 1) := by decide +kernel
theorem dX10_root_42 : decode cX10_root 42 = .ok (.goto 4, 3) := by decide +kernel
theorem dX10_root_45 : decode cX10_root 45 = .ok (.iconst (-1), 1) := by decide +kernel
theorem dX10_root_46 : decode cX10_root 46 = .ok (.ireturn, 1) := by decide +kernel
theorem dX10_root_47 : decode cX10_root 47 = .ok (.aload_n 0, 1) := by decide +kernel
theorem dX10_root_48 : decode cX10_root 48 = .ok (.getfield 54, 3) := by decide +kernel
theorem dX10_root_51 : decode cX10_root 51 = .ok (.iload_n 1, 1) := by decide +kernel
theorem dX10_root_52 : decode cX10_root 52 = .ok (.if_icmp .eq 83, 3) := by decide +kernel
theorem dX10_root_55 : decode cX10_root 55 = .ok (.aload_n 0, 1) := by decide +kernel
theorem dX10_root_56 : decode cX10_root 56 = .ok (.iload_n 1, 1) := by decide +kernel
theorem dX10_root_57 : decode cX10_root 57 = .ok (.putfield 54, 3) := by decide +kernel
theorem dX10_root_60 : decode cX10_root 60 = .ok (.aload_n 0, 1) := by decide +kernel
theorem dX10_root_61 : decode cX10_root 61 = .ok (.iconst 0, 1) := by decide +kernel
theorem dX10_root_62 : decode cX10_root 62 = .ok (.putfield 199, 3) := by decide +kernel
theorem dX10_root_65 : decode cX10_root 65 = .ok (.aload_n 0, 1) := by decide +kernel
theorem dX10_root_66 : decode cX10_root 66 = .ok (.aload_n 0, 1) := by decide +kernel
theorem dX10_root_67 : decode cX10_root 67 = .ok (.getfield 42, 3) := by decide +kernel
theorem dX10_root_70 : decode cX10_root 70 = .ok (.iload_n 1, 1) := by decide +kernel
theorem dX10_root_71 : decode cX10_root 71 = .ok (.invokevirtual 185, 3) := by decide +kernel
theorem dX10_root_74 : decode cX10_root 74 = .ok (.iconst 0, 1) := by decide +kernel
theorem dX10_root_75 : decode cX10_root 75 = .ok (.istore_n 3, 1) := by decide +kernel
theorem dX10_root_76 : decode cX10_root 76 = .ok (.iload_n 3, 1) := by decide +kernel
theorem dX10_root_77 : decode cX10_root 77 = .ok (.aload_n 0, 1) := by decide +kernel
theorem dX10_root_78 : decode cX10_root 78 = .ok (.getfield 78, 3) := by decide +kernel
theorem dX10_root_81 : decode cX10_root 81 = .ok (.if_icmp .ge 54, 3) := by decide +kernel
theorem dX10_root_84 : decode cX10_root 84 = .ok (.aload_n 0, 1) := by decide +kernel
theorem dX10_root_85 : decode cX10_root 85 = .ok (.getfield 199, 3) := by decide +kernel
theorem dX10_root_88 : decode cX10_root 88 = .ok (.aload_n 0, 1) := by decide +kernel
theorem dX10_root_89 : decode cX10_root 89 = .ok (.getfield 36, 3) := by decide +kernel
theorem dX10_root_92 : decode cX10_root 92 = .ok (.iload_n 1, 1) := by decide +kernel
theorem dX10_root_93 : decode cX10_root 93 = .ok (.iaload, 1) := by decide +kernel
theorem dX10_root_94 : decode cX10_root 94 = .ok (.if_icmp .ge 41, 3) := by decide +kernel
theorem dX10_root_97 : decode cX10_root 97 = .ok (.aload_n 0, 1) := by decide +kernel
theorem dX10_root_98 : decode cX10_root 98 = .ok (.aload_n 0, 1) := by decide +kernel
theorem dX10_root_99 : decode cX10_root 99 = .ok (.getfield 42, 3) := by decide +kernel
theorem dX10_root_102 : decode cX10_root 102 = .ok (.iload_n 3, 1) := by decide +kernel
theorem dX10_root_103 : decode cX10_root 103 = .ok (.invokevirtual 172, 3) := by decide +kernel
theorem dX10_root_106 : decode cX10_root 106 = .ok (.ifCond .ne 23, 3) := by decide +kernel
theorem dX10_root_109 : decode cX10_root 109 = .ok (.aload_n 0, 1) := by decide +kernel
theorem dX10_root_110 : decode cX10_root 110 = .ok (.getfield 57, 3) := by decide +kernel
theorem dX10_root_113 : decode cX10_root 113 = .ok (.aload_n 0, 1) := by decide +kernel
theorem dX10_root_114 : decode cX10_root 114 = .ok (.getfield 199, 3) := by decide +kernel
theorem dX10_root_117 : decode cX10_root 117 = .ok (.iload_n 3, 1) := by decide +kernel
theorem dX10_root_118 : decode cX10_root 118 = .ok (.iastore, 1) := by decide +kernel
theorem dX10_root_119 : decode cX10_root 119 = .ok (.aload_n 0, 1) := by decide +kernel
theorem dX10_root_120 : decode cX10_root 120 = .ok (.dup, 1) := by decide +kernel
theorem dX10_root_121 : decode cX10_root 121 = .ok (.getfield 199, 3) := by decide +kernel
theorem dX10_root_124 : decode cX10_root 124 = .ok (.iconst 1, 1) := by decide +kernel
theorem dX10_root_125 : decode cX10_root 125 = .ok (.iadd, 1) := by decide +kernel
theorem dX10_root_126 : decode cX10_root 126 = .ok (.putfield 199, 3) := by decide +kernel
theorem dX10_root_129 : decode cX10_root 129 = .ok (.iinc 3 1, 3) := by decide +kernel
theorem dX10_root_132 : decode cX10_root 132 = .ok (.goto (-56), 3) := by decide +kernel
theorem dX10_root_135 : decode cX10_root 135 = .ok (.iload_n 2, 1) := by decide +kernel
theorem dX10_root_136 : decode cX10_root 136 = .ok (.aload_n 0, 1) := by decide +kernel
theorem dX10_root_137 : decode cX10_root 137 = .ok (.getfield 199, 3) := by decide +kernel
theorem dX10_root_140 : decode cX10_root 140 = .ok (.if_icmp .ge 12, 3) := by decide +kernel
theorem dX10_root_143 : decode cX10_root 143 = .ok (.aload_n 0, 1) := by decide +kernel
theorem dX10_root_144 : decode cX10_root 144 = .ok (.getfield 57, 3) := by decide +kernel
theorem dX10_root_147 : decode cX10_root 147 = .ok (.iload_n 2, 1) := by decide +kernel
theorem dX10_root_148 : decode cX10_root 148 = .ok (.iaload, 1) := by decide +kernel
theorem dX10_root_149 : decode cX10_root 149 = .ok (.goto 4, 3) := by decide +kernel
theorem dX10_root_152 : decode cX10_root 152 = .ok (.iconst (-1), 1) := by decide +kernel
theorem dX10_root_153 : decode cX10_root 153 = .ok (.ireturn, 1) := by decide +kernel
theorem dX10_often_0 : decode cX10_often 0 = .ok (.aload_n 0, 1) := by decide +kernel
theorem dX10_often_1 : decode cX10_often 1 = .ok (.iconst 0, 1) := by decide +kernel
theorem dX10_often_2 : decode cX10_often 2 = .ok (.putfield 1, 3) := by decide +kernel
theorem dX10_often_5 : decode cX10_often 5 = .ok (.aload_n 0, 1) := by decide +kernel
theorem dX10_often_6 : decode cX10_often 6 = .ok (.iload_n 1, 1) := by decide +kernel
theorem dX10_often_7 : decode cX10_often 7 = .ok (.invokevirtual 182, 3) := by decide +kernel
theorem dX10_often_10 : decode cX10_often 10 = .ok (.ifCond .ne 9, 3) := by decide +kernel
theorem dX10_often_13 : decode cX10_often 13 = .ok (.aload_n 0, 1) := by decide +kernel
theorem dX10_often_14 : decode cX10_often 14 = .ok (.iconst 1, 1) := by decide +kernel
theorem dX10_often_15 : decode cX10_often 15 = .ok (.invokevirtual 118, 3) := by decide +kernel
theorem dX10_often_18 : decode cX10_often 18 = .ok (.ireturn, 1) := by decide +kernel
theorem dX10_often_19 : decode cX10_often 19 = .ok (.aload_n 0, 1) := by decide +kernel
theorem dX10_often_20 : decode cX10_often 20 = .ok (.iload_n 2, 1) := by decide +kernel
theorem dX10_often_21 : decode cX10_often 21 = .ok (.invokevirtual 115, 3) := by decide +kernel
theorem dX10_often_24 : decode cX10_often 24 = .ok (.ifCond .ne 9, 3) := by decide +kernel
theorem dX10_often_27 : decode cX10_often 27 = .ok (.aload_n 0, 1) := by decide +kernel
theorem dX10_often_28 : decode cX10_often 28 = .ok (.iconst 2, 1) := by decide +kernel
theorem dX10_often_29 : decode cX10_often 29 = .ok (.invokevirtual 118, 3) := by decide +kernel
theorem dX10_often_32 : decode cX10_often 32 = .ok (.ireturn, 1) := by decide +kernel
theorem dX10_often_33 : decode cX10_often 33 = .ok (.aload_n 0, 1) := by decide +kernel
theorem dX10_often_34 : decode cX10_often 34 = .ok (.getfield 36, 3) := by decide +kernel
theorem dX10_often_37 : decode cX10_often 37 = .ok (.iload_n 1, 1) := by decide +kernel
theorem dX10_often_38 : decode cX10_often 38 = .ok (.iaload, 1) := by decide +kernel
theorem dX10_often_39 : decode cX10_often 39 = .ok (.iconst (-1), 1) := by decide +kernel
theorem dX10_often_40 : decode cX10_often 40 = .ok (.if_icmp .ne 5, 3) := by decide +kernel
theorem dX10_often_43 : decode cX10_often 43 = .ok (.iconst (-1), 1) := by decide +kernel
theorem dX10_often_44 : decode cX10_often 44 = .ok (.ireturn, 1) := by decide +kernel
theorem dX10_often_45 : decode cX10_often 45 = .ok (.aload_n 0, 1) := by decide +kernel
theorem dX10_often_46 : decode cX10_often 46 = .ok (.aload_n 0, 1) := by decide +kernel
theorem dX10_often_47 : decode cX10_often 47 = .ok (.getfield 42, 3) := by decide +kernel
theorem dX10_often_50 : decode cX10_often 50 = .ok (.iload_n 1, 1) := by decide +kernel
theorem dX10_often_51 : decode cX10_often 51 = .ok (.invokevirtual 185, 3) := by decide +kernel
theorem dX10_often_54 : decode cX10_often 54 = .ok (.iconst 0, 1) := by decide +kernel
theorem dX10_often_55 : decode cX10_often 55 = .ok (.istore_n 3, 1) := by decide +kernel
theorem dX10_often_56 : decode cX10_often 56 = .ok (.aload_n 0, 1) := by decide +kernel
theorem dX10_often_57 : decode cX10_often 57 = .ok (.aload_n 0, 1) := by decide +kernel
theorem dX10_often_58 : decode cX10_often 58 = .ok (.getfield 42, 3) := by decide +kernel
theorem dX10_often_61 : decode cX10_often 61 = .ok (.iload_n 2, 1) := by decide +kernel
theorem dX10_often_62 : decode cX10_often 62 = .ok (.invokevirtual 172, 3) := by decide +kernel
theorem dX10_often_65 : decode cX10_often 65 = .ok (.ifCond .ne 53, 3) := by decide +kernel
theorem dX10_often_68 : decode cX10_often 68 = .ok (.aload_n 0, 1) := by decide +kernel
theorem dX10_often_69 : decode cX10_often 69 = .ok (.getfield 45, 3) := by decide +kernel
theorem dX10_often_72 : decode cX10_often 72 = .ok (.invokestatic 161, 3) := by decide +kernel
theorem dX10_often_75 : decode cX10_often 75 = .ok (.aload_n 0, 1) := by decide +kernel
theorem dX10_often_76 : decode cX10_often 76 = .ok (.getfield 45, 3) := by decide +kernel
theorem dX10_often_79 : decode cX10_often 79 = .ok (.iconst 0, 1) := by decide +kernel
theorem dX10_often_80 : decode cX10_often 80 = .ok (.iload_n 2, 1) := by decide +kernel
theorem dX10_often_81 : decode cX10_often 81 = .ok (.iastore, 1) := by decide +kernel
theorem dX10_often_82 : decode cX10_often 82 = .ok (.aload_n 0, 1) := by decide +kernel
theorem dX10_often_83 : decode cX10_often 83 = .ok (.getfield 45, 3) := by decide +kernel
theorem dX10_often_86 : decode cX10_often 86 = .ok (.iconst 1, 1) := by decide +kernel
theorem dX10_often_87 : decode cX10_often 87 = .ok (.iconst 1, 1) := by decide +kernel
theorem dX10_often_88 : decode cX10_often 88 = .ok (.iastore, 1) := by decide +kernel
theorem dX10_often_89 : decode cX10_often 89 = .ok (.aload_n 0, 1) := by decide +kernel
theorem dX10_often_90 : decode cX10_often 90 = .ok (.aload_n 0, 1) := by decide +kernel
theorem dX10_often_91 : decode cX10_often 91 = .ok (.getfield 42, 3) := by decide +kernel
theorem dX10_often_94 : decode cX10_often 94 = .ok (.aload_n 0, 1) := by decide +kernel
theorem dX10_often_95 : decode cX10_often 95 = .ok (.getfield 45, 3) := by decide +kernel
theorem dX10_often_98 : decode cX10_often 98 = .ok (.invokevirtual 189, 3) := by decide +kernel
theorem dX10_often_101 : decode cX10_often 101 = .ok (.aload_n 0, 1) := by decide +kernel
theorem dX10_often_102 : decode cX10_often 102 = .ok (.getfield 42, 3) := by decide +kernel
theorem dX10_often_105 : decode cX10_often 105 = .ok (.aload_n 0, 1) := by decide +kernel
theorem dX10_often_106 : decode cX10_often 106 = .ok (.getfield 48, 3) := by decide +kernel
theorem dX10_often_109 : decode cX10_often 109 = .ok (.invokestatic 193, 3) := by decide +kernel
theorem dX10_often_112 : decode cX10_often 112 = .ok (.iinc 3 1, 3) := by decide +kernel
theorem dX10_often_115 : decode cX10_often 115 = .ok (.goto (-59), 3) := by decide +kernel
theorem dX10_often_118 : decode cX10_often 118 = .ok (.iload_n 3, 1) := by decide +kernel
theorem dX10_often_119 : decode cX10_often 119 = .ok (.ireturn, 1) := by decide +kernel
theorem dX10_square_0 : decode cX10_square 0 = .ok (.bipush 65, 2) := by decide +kernel
theorem dX10_square_2 : decode cX10_square 2 = .ok (.istore_n 2, 1) := by decide +kernel
theorem dX10_square_3 : decode cX10_square 3 = .ok (.iload_n 2, 1) := by decide +kernel
theorem dX10_square_4 : decode cX10_square 4 = .ok (.ifCond .lt 36, 3) := by decide +kernel
theorem dX10_square_7 : decode cX10_square 7 = .ok (.aload_n 1, 1) := by decide +kernel
theorem dX10_square_8 : decode cX10_square 8 = .ok (.iconst 2, 1) := by decide +kernel
theorem dX10_square_9 : decode cX10_square 9 = .ok (.iload_n 2, 1) := by decide +kernel
theorem dX10_square_10 : decode cX10_square 10 = .ok (.imul, 1) := by decide +kernel
theorem dX10_square_11 : decode cX10_square 11 = .ok (.aload_n 0, 1) := by decide +kernel
theorem dX10_square_12 : decode cX10_square 12 = .ok (.aload_n 1, 1) := by decide +kernel
theorem dX10_square_13 : decode cX10_square 13 = .ok (.iload_n 2, 1) := by decide +kernel
theorem dX10_square_14 : decode cX10_square 14 = .ok (.iaload, 1) := by decide +kernel
theorem dX10_square_15 : decode cX10_square 15 = .ok (.aload_n 1, 1) := by decide +kernel
theorem dX10_square_16 : decode cX10_square 16 = .ok (.iload_n 2, 1) := by decide +kernel
theorem dX10_square_17 : decode cX10_square 17 = .ok (.iaload, 1) := by decide +kernel
theorem dX10_square_18 : decode cX10_square 18 = .ok (.invokevirtual 102, 3) := by decide +kernel
theorem dX10_square_21 : decode cX10_square 21 = .ok (.iastore, 1) := by decide +kernel
theorem dX10_square_22 : decode cX10_square 22 = .ok (.iload_n 2, 1) := by decide +kernel
theorem dX10_square_23 : decode cX10_square 23 = .ok (.ifCond .le 11, 3) := by decide +kernel
theorem dX10_square_26 : decode cX10_square 26 = .ok (.aload_n 1, 1) := by decide +kernel
theorem dX10_square_27 : decode cX10_square 27 = .ok (.iconst 2, 1) := by decide +kernel
theorem dX10_square_28 : decode cX10_square 28 = .ok (.iload_n 2, 1) := by decide +kernel
theorem dX10_square_29 : decode cX10_square 29 = .ok (.imul, 1) := by decide +kernel
theorem dX10_square_30 : decode cX10_square 30 = .ok (.iconst 1, 1) := by decide +kernel
theorem dX10_square_31 : decode cX10_square 31 = .ok (.isub, 1) := by decide +kernel
theorem dX10_square_32 : decode cX10_square 32 = .ok (.iconst 0, 1) := by decide +kernel
theorem dX10_square_33 : decode cX10_square 33 = .ok (.iastore, 1) := by decide +kernel
theorem dX10_square_34 : decode cX10_square 34 = .ok (.iinc 2 (-1), 3) := by decide +kernel
theorem dX10_square_37 : decode cX10_square 37 = .ok (.goto (-34), 3) := by decide +kernel
theorem dX10_square_40 : decode cX10_square 40 = .ok (.aload_n 0, 1) := by decide +kernel
theorem dX10_square_41 : decode cX10_square 41 = .ok (.aload_n 1, 1) := by decide +kernel
theorem dX10_square_42 : decode cX10_square 42 = .ok (.aload_n 0, 1) := by decide +kernel
theorem dX10_square_43 : decode cX10_square 43 = .ok (.getfield 66, 3) := by decide +kernel
theorem dX10_square_46 : decode cX10_square 46 = .ok (.invokevirtual 189, 3) := by decide +kernel
theorem dX10_square_49 : decode cX10_square 49 = .ok (.return_, 1) := by decide +kernel
theorem dX10_lookAtParts_0 : decode cX10_lookAtParts 0 = .ok (.iconst 0, 1) := by decide +kernel
theorem dX10_lookAtParts_1 : decode cX10_lookAtParts 1 = .ok (.istore_n 2, 1) := by decide +kernel
theorem dX10_lookAtParts_2 : decode cX10_lookAtParts 2 = .ok (.iload_n 2, 1) := by decide +kernel
theorem dX10_lookAtParts_3 : decode cX10_lookAtParts 3 = .ok (.bipush 65, 2) := by decide +kernel
theorem dX10_lookAtParts_5 : decode cX10_lookAtParts 5 = .ok (.if_icmp .ge 16, 3) := by decide +kernel
theorem dX10_lookAtParts_8 : decode cX10_lookAtParts 8 = .ok (.aload_n 0, 1) := by decide +kernel
theorem dX10_lookAtParts_9 : decode cX10_lookAtParts 9 = .ok (.getfield 63, 3) := by decide +kernel
theorem dX10_lookAtParts_12 : decode cX10_lookAtParts 12 = .ok (.iload_n 2, 1) := by decide +kernel
theorem dX10_lookAtParts_13 : decode cX10_lookAtParts 13 = .ok (.iconst 0, 1) := by decide +kernel
theorem dX10_lookAtParts_14 : decode cX10_lookAtParts 14 = .ok (.iastore, 1) := by decide +kernel
theorem dX10_lookAtParts_15 : decode cX10_lookAtParts 15 = .ok (.iinc 2 1, 3) := by decide +kernel
theorem dX10_lookAtParts_18 : decode cX10_lookAtParts 18 = .ok (.goto (-16), 3) := by decide +kernel
theorem dX10_lookAtParts_21 : decode cX10_lookAtParts 21 = .ok (.aload_n 0, 1) := by decide +kernel
theorem dX10_lookAtParts_22 : decode cX10_lookAtParts 22 = .ok (.aload_n 0, 1) := by decide +kernel
theorem dX10_lookAtParts_23 : decode cX10_lookAtParts 23 = .ok (.getfield 66, 3) := by decide +kernel
theorem dX10_lookAtParts_26 : decode cX10_lookAtParts 26 = .ok (.iload_n 1, 1) := by decide +kernel
theorem dX10_lookAtParts_27 : decode cX10_lookAtParts 27 = .ok (.invokevirtual 185, 3) := by decide +kernel
theorem dX10_lookAtParts_30 : decode cX10_lookAtParts 30 = .ok (.aload_n 0, 1) := by decide +kernel
theorem dX10_lookAtParts_31 : decode cX10_lookAtParts 31 = .ok (.getfield 69, 3) := by decide +kernel
theorem dX10_lookAtParts_34 : decode cX10_lookAtParts 34 = .ok (.invokestatic 161, 3) := by decide +kernel
theorem dX10_lookAtParts_37 : decode cX10_lookAtParts 37 = .ok (.aload_n 0, 1) := by decide +kernel
theorem dX10_lookAtParts_38 : decode cX10_lookAtParts 38 = .ok (.getfield 69, 3) := by decide +kernel
theorem dX10_lookAtParts_41 : decode cX10_lookAtParts 41 = .ok (.iconst 1, 1) := by decide +kernel
theorem dX10_lookAtParts_42 : decode cX10_lookAtParts 42 = .ok (.iconst 1, 1) := by decide +kernel
theorem dX10_lookAtParts_43 : decode cX10_lookAtParts 43 = .ok (.iastore, 1) := by decide +kernel
theorem dX10_lookAtParts_44 : decode cX10_lookAtParts 44 = .ok (.aload_n 0, 1) := by decide +kernel
theorem dX10_lookAtParts_45 : decode cX10_lookAtParts 45 = .ok (.aload_n 0, 1) := by decide +kernel
theorem dX10_lookAtParts_46 : decode cX10_lookAtParts 46 = .ok (.getfield 69, 3) := by decide +kernel
theorem dX10_lookAtParts_49 : decode cX10_lookAtParts 49 = .ok (.aload_n 0, 1) := by decide +kernel
theorem dX10_lookAtParts_50 : decode cX10_lookAtParts 50 = .ok (.getfield 66, 3) := by decide +kernel
theorem dX10_lookAtParts_53 : decode cX10_lookAtParts 53 = .ok (.invokevirtual 189, 3) := by decide +kernel
theorem dX10_lookAtParts_56 : decode cX10_lookAtParts 56 = .ok (.iconst 1, 1) := by decide +kernel
theorem dX10_lookAtParts_57 : decode cX10_lookAtParts 57 = .ok (.istore_n 2, 1) := by decide +kernel
theorem dX10_lookAtParts_58 : decode cX10_lookAtParts 58 = .ok (.aload_n 0, 1) := by decide +kernel
theorem dX10_lookAtParts_59 : decode cX10_lookAtParts 59 = .ok (.getfield 66, 3) := by decide +kernel
theorem dX10_lookAtParts_62 : decode cX10_lookAtParts 62 = .ok (.invokestatic 165, 3) := by decide +kernel
theorem dX10_lookAtParts_65 : decode cX10_lookAtParts 65 = .ok (.ifCond .le 182, 3) := by decide +kernel
theorem dX10_lookAtParts_68 : decode cX10_lookAtParts 68 = .ok (.iconst 0, 1) := by decide +kernel
theorem dX10_lookAtParts_69 : decode cX10_lookAtParts 69 = .ok (.istore_n 3, 1) := by decide +kernel
theorem dX10_lookAtParts_70 : decode cX10_lookAtParts 70 = .ok (.iload_n 3, 1) := by decide +kernel
theorem dX10_lookAtParts_71 : decode cX10_lookAtParts 71 = .ok (.aload_n 0, 1) := by decide +kernel
theorem dX10_lookAtParts_72 : decode cX10_lookAtParts 72 = .ok (.getfield 75, 3) := by decide +kernel
theorem dX10_lookAtParts_75 : decode cX10_lookAtParts 75 = .ok (.if_icmp .ge 17, 3) := by decide +kernel
theorem dX10_lookAtParts_78 : decode cX10_lookAtParts 78 = .ok (.aload_n 0, 1) := by decide +kernel
theorem dX10_lookAtParts_79 : decode cX10_lookAtParts 79 = .ok (.aload_n 0, 1) := by decide +kernel
theorem dX10_lookAtParts_80 : decode cX10_lookAtParts 80 = .ok (.getfield 69, 3) := by decide +kernel
theorem dX10_lookAtParts_83 : decode cX10_lookAtParts 83 = .ok (.invokevirtual 202, 3) := by decide +kernel
theorem dX10_lookAtParts_86 : decode cX10_lookAtParts 86 = .ok (.iinc 3 1, 3) := by decide +kernel
theorem dX10_lookAtParts_89 : decode cX10_lookAtParts 89 = .ok (.goto (-19), 3) := by decide +kernel
theorem dX10_lookAtParts_92 : decode cX10_lookAtParts 92 = .ok (.iconst 1, 1) := by decide +kernel
theorem dX10_lookAtParts_93 : decode cX10_lookAtParts 93 = .ok (.istore_n 3, 1) := by decide +kernel
theorem dX10_lookAtParts_94 : decode cX10_lookAtParts 94 = .ok (.iload_n 3, 1) := by decide +kernel
theorem dX10_lookAtParts_95 : decode cX10_lookAtParts 95 = .ok (.ifCond .eq 146, 3) := by decide +kernel
theorem dX10_lookAtParts_98 : decode cX10_lookAtParts 98 = .ok (.aload_n 0, 1) := by decide +kernel
theorem dX10_lookAtParts_99 : decode cX10_lookAtParts 99 = .ok (.getfield 66, 3) := by decide +kernel
theorem dX10_lookAtParts_102 : decode cX10_lookAtParts 102 = .ok (.invokestatic 165, 3) := by decide +kernel
theorem dX10_lookAtParts_105 : decode cX10_lookAtParts 105 = .ok (.ifCond .le 136, 3) := by decide +kernel
theorem dX10_lookAtParts_108 : decode cX10_lookAtParts 108 = .ok (.aload_n 0, 1) := by decide +kernel
theorem dX10_lookAtParts_109 : decode cX10_lookAtParts 109 = .ok (.getfield 42, 3) := by decide +kernel
theorem dX10_lookAtParts_112 : decode cX10_lookAtParts 112 = .ok (.aload_n 0, 1) := by decide +kernel
theorem dX10_lookAtParts_113 : decode cX10_lookAtParts 113 = .ok (.getfield 66, 3) := by decide +kernel
theorem dX10_lookAtParts_116 : decode cX10_lookAtParts 116 = .ok (.invokestatic 193, 3) := by decide +kernel
theorem dX10_lookAtParts_119 : decode cX10_lookAtParts 119 = .ok (.aload_n 0, 1) := by decide +kernel
theorem dX10_lookAtParts_120 : decode cX10_lookAtParts 120 = .ok (.getfield 45, 3) := by decide +kernel
theorem dX10_lookAtParts_123 : decode cX10_lookAtParts 123 = .ok (.aload_n 0, 1) := by decide +kernel
theorem dX10_lookAtParts_124 : decode cX10_lookAtParts 124 = .ok (.getfield 69, 3) := by decide +kernel
theorem dX10_lookAtParts_127 : decode cX10_lookAtParts 127 = .ok (.invokestatic 193, 3) := by decide +kernel
theorem dX10_lookAtParts_130 : decode cX10_lookAtParts 130 = .ok (.aload_n 0, 1) := by decide +kernel
theorem dX10_lookAtParts_131 : decode cX10_lookAtParts 131 = .ok (.getfield 45, 3) := by decide +kernel
theorem dX10_lookAtParts_134 : decode cX10_lookAtParts 134 = .ok (.iconst 1, 1) := by decide +kernel
theorem dX10_lookAtParts_135 : decode cX10_lookAtParts 135 = .ok (.dup2, 1) := by decide +kernel
theorem dX10_lookAtParts_136 : decode cX10_lookAtParts 136 = .ok (.iaload, 1) := by decide +kernel
theorem dX10_lookAtParts_137 : decode cX10_lookAtParts 137 = .ok (.iconst 1, 1) := by decide +kernel
theorem dX10_lookAtParts_138 : decode cX10_lookAtParts 138 = .ok (.ixor, 1) := by decide +kernel
theorem dX10_lookAtParts_139 : decode cX10_lookAtParts 139 = .ok (.iastore, 1) := by decide +kernel
theorem dX10_lookAtParts_140 : decode cX10_lookAtParts 140 = .ok (.aload_n 0, 1) := by decide +kernel
theorem dX10_lookAtParts_141 : decode cX10_lookAtParts 141 = .ok (.aload_n 0, 1) := by decide +kernel
theorem dX10_lookAtParts_142 : decode cX10_lookAtParts 142 = .ok (.getfield 42, 3) := by decide +kernel
theorem dX10_lookAtParts_145 : decode cX10_lookAtParts 145 = .ok (.aload_n 0, 1) := by decide +kernel
theorem dX10_lookAtParts_146 : decode cX10_lookAtParts 146 = .ok (.getfield 45, 3) := by decide +kernel
theorem dX10_lookAtParts_149 : decode cX10_lookAtParts 149 = .ok (.invokevirtual 196, 3) := by decide +kernel
theorem dX10_lookAtParts_152 : decode cX10_lookAtParts 152 = .ok (.aload_n 0, 1) := by decide +kernel
theorem dX10_lookAtParts_153 : decode cX10_lookAtParts 153 = .ok (.getfield 42, 3) := by decide +kernel
theorem dX10_lookAtParts_156 : decode cX10_lookAtParts 156 = .ok (.invokestatic 165, 3) := by decide +kernel
theorem dX10_lookAtParts_159 : decode cX10_lookAtParts 159 = .ok (.ifCond .le 7, 3) := by decide +kernel
theorem dX10_lookAtParts_162 : decode cX10_lookAtParts 162 = .ok (.iconst 1, 1) := by decide +kernel
theorem dX10_lookAtParts_163 : decode cX10_lookAtParts 163 = .ok (.goto 4, 3) := by decide +kernel
theorem dX10_lookAtParts_166 : decode cX10_lookAtParts 166 = .ok (.iconst 0, 1) := by decide +kernel
theorem dX10_lookAtParts_167 : decode cX10_lookAtParts 167 = .ok (.istore_n 3, 1) := by decide +kernel
theorem dX10_lookAtParts_168 : decode cX10_lookAtParts 168 = .ok (.iload_n 3, 1) := by decide +kernel
theorem dX10_lookAtParts_169 : decode cX10_lookAtParts 169 = .ok (.ifCond .ne 6, 3) := by decide +kernel
theorem dX10_lookAtParts_172 : decode cX10_lookAtParts 172 = .ok (.goto (-78), 3) := by decide +kernel
theorem dX10_lookAtParts_175 : decode cX10_lookAtParts 175 = .ok (.aload_n 0, 1) := by decide +kernel
theorem dX10_lookAtParts_176 : decode cX10_lookAtParts 176 = .ok (.getfield 63, 3) := by decide +kernel
theorem dX10_lookAtParts_179 : decode cX10_lookAtParts 179 = .ok (.iload_n 2, 1) := by decide +kernel
theorem dX10_lookAtParts_180 : decode cX10_lookAtParts 180 = .ok (.dup2, 1) := by decide +kernel
theorem dX10_lookAtParts_181 : decode cX10_lookAtParts 181 = .ok (.iaload, 1) := by decide +kernel
theorem dX10_lookAtParts_182 : decode cX10_lookAtParts 182 = .ok (.aload_n 0, 1) := by decide +kernel
theorem dX10_lookAtParts_183 : decode cX10_lookAtParts 183 = .ok (.getfield 42, 3) := by decide +kernel
theorem dX10_lookAtParts_186 : decode cX10_lookAtParts 186 = .ok (.invokestatic 165, 3) := by decide +kernel
theorem dX10_lookAtParts_189 : decode cX10_lookAtParts 189 = .ok (.iload_n 2, 1) := by decide +kernel
theorem dX10_lookAtParts_190 : decode cX10_lookAtParts 190 = .ok (.idiv, 1) := by decide +kernel
theorem dX10_lookAtParts_191 : decode cX10_lookAtParts 191 = .ok (.iadd, 1) := by decide +kernel
theorem dX10_lookAtParts_192 : decode cX10_lookAtParts 192 = .ok (.iastore, 1) := by decide +kernel
theorem dX10_lookAtParts_193 : decode cX10_lookAtParts 193 = .ok (.aload_n 0, 1) := by decide +kernel
theorem dX10_lookAtParts_194 : decode cX10_lookAtParts 194 = .ok (.aload_n 0, 1) := by decide +kernel
theorem dX10_lookAtParts_195 : decode cX10_lookAtParts 195 = .ok (.getfield 66, 3) := by decide +kernel
theorem dX10_lookAtParts_198 : decode cX10_lookAtParts 198 = .ok (.aload_n 0, 1) := by decide +kernel
theorem dX10_lookAtParts_199 : decode cX10_lookAtParts 199 = .ok (.getfield 42, 3) := by decide +kernel
theorem dX10_lookAtParts_202 : decode cX10_lookAtParts 202 = .ok (.invokevirtual 189, 3) := by decide +kernel
theorem dX10_lookAtParts_205 : decode cX10_lookAtParts 205 = .ok (.aload_n 0, 1) := by decide +kernel
theorem dX10_lookAtParts_206 : decode cX10_lookAtParts 206 = .ok (.getfield 66, 3) := by decide +kernel
theorem dX10_lookAtParts_209 : decode cX10_lookAtParts 209 = .ok (.aload_n 0, 1) := by decide +kernel
theorem dX10_lookAtParts_210 : decode cX10_lookAtParts 210 = .ok (.getfield 48, 3) := by decide +kernel
theorem dX10_lookAtParts_213 : decode cX10_lookAtParts 213 = .ok (.invokestatic 193, 3) := by decide +kernel
theorem dX10_lookAtParts_216 : decode cX10_lookAtParts 216 = .ok (.aload_n 0, 1) := by decide +kernel
theorem dX10_lookAtParts_217 : decode cX10_lookAtParts 217 = .ok (.getfield 66, 3) := by decide +kernel
theorem dX10_lookAtParts_220 : decode cX10_lookAtParts 220 = .ok (.invokestatic 165, 3) := by decide +kernel
theorem dX10_lookAtParts_223 : decode cX10_lookAtParts 223 = .ok (.ifCond .le (-129), 3) := by decide +kernel
theorem dX10_lookAtParts_226 : decode cX10_lookAtParts 226 = .ok (.aload_n 0, 1) := by decide +kernel
theorem dX10_lookAtParts_227 : decode cX10_lookAtParts 227 = .ok (.aload_n 0, 1) := by decide +kernel
theorem dX10_lookAtParts_228 : decode cX10_lookAtParts 228 = .ok (.getfield 69, 3) := by decide +kernel
theorem dX10_lookAtParts_231 : decode cX10_lookAtParts 231 = .ok (.aload_n 0, 1) := by decide +kernel
theorem dX10_lookAtParts_232 : decode cX10_lookAtParts 232 = .ok (.getfield 66, 3) := by decide +kernel
theorem dX10_lookAtParts_235 : decode cX10_lookAtParts 235 = .ok (.invokevirtual 189, 3) := by decide +kernel
theorem dX10_lookAtParts_238 : decode cX10_lookAtParts 238 = .ok (.goto (-144), 3) := by decide +kernel
theorem dX10_lookAtParts_241 : decode cX10_lookAtParts 241 = .ok (.iinc 2 1, 3) := by decide +kernel
theorem dX10_lookAtParts_244 : decode cX10_lookAtParts 244 = .ok (.goto (-186), 3) := by decide +kernel
theorem dX10_lookAtParts_247 : decode cX10_lookAtParts 247 = .ok (.return_, 1) := by decide +kernel
theorem dX10_parts_0 : decode cX10_parts 0 = .ok (.aload_n 0, 1) := by decide +kernel
theorem dX10_parts_1 : decode cX10_parts 1 = .ok (.iconst 0, 1) := by decide +kernel
theorem dX10_parts_2 : decode cX10_parts 2 = .ok (.putfield 1, 3) := by decide +kernel
theorem dX10_parts_5 : decode cX10_parts 5 = .ok (.aload_n 0, 1) := by decide +kernel
theorem dX10_parts_6 : decode cX10_parts 6 = .ok (.iload_n 1, 1) := by decide +kernel
theorem dX10_parts_7 : decode cX10_parts 7 = .ok (.invokevirtual 182, 3) := by decide +kernel
theorem dX10_parts_10 : decode cX10_parts 10 = .ok (.ifCond .ne 9, 3) := by decide +kernel
theorem dX10_parts_13 : decode cX10_parts 13 = .ok (.aload_n 0, 1) := by decide +kernel
theorem dX10_parts_14 : decode cX10_parts 14 = .ok (.iconst 1, 1) := by decide +kernel
theorem dX10_parts_15 : decode cX10_parts 15 = .ok (.invokevirtual 118, 3) := by decide +kernel
theorem dX10_parts_18 : decode cX10_parts 18 = .ok (.ireturn, 1) := by decide +kernel
theorem dX10_parts_19 : decode cX10_parts 19 = .ok (.iload_n 2, 1) := by decide +kernel
theorem dX10_parts_20 : decode cX10_parts 20 = .ok (.iconst 1, 1) := by decide +kernel
theorem dX10_parts_21 : decode cX10_parts 21 = .ok (.if_icmp .lt 9, 3) := by decide +kernel
theorem dX10_parts_24 : decode cX10_parts 24 = .ok (.iload_n 2, 1) := by decide +kernel
theorem dX10_parts_25 : decode cX10_parts 25 = .ok (.bipush 64, 2) := by decide +kernel
theorem dX10_parts_27 : decode cX10_parts 27 = .ok (.if_icmp .le 9, 3) := by decide +kernel
theorem dX10_parts_30 : decode cX10_parts 30 = .ok (.aload_n 0, 1) := by decide +kernel
theorem dX10_parts_31 : decode cX10_parts 31 = .ok (.iconst 2, 1) := by decide +kernel
theorem dX10_parts_32 : decode cX10_parts 32 = .ok (.invokevirtual 118, 3) := by decide +kernel
theorem dX10_parts_35 : decode cX10_parts 35 = .ok (.ireturn, 1) := by decide +kernel
theorem dX10_parts_36 : decode cX10_parts 36 = .ok (.aload_n 0, 1) := by decide +kernel
theorem dX10_parts_37 : decode cX10_parts 37 = .ok (.getfield 36, 3) := by decide +kernel
theorem dX10_parts_40 : decode cX10_parts 40 = .ok (.iload_n 1, 1) := by decide +kernel
theorem dX10_parts_41 : decode cX10_parts 41 = .ok (.iaload, 1) := by decide +kernel
theorem dX10_parts_42 : decode cX10_parts 42 = .ok (.iconst (-1), 1) := by decide +kernel
theorem dX10_parts_43 : decode cX10_parts 43 = .ok (.if_icmp .ne 5, 3) := by decide +kernel
theorem dX10_parts_46 : decode cX10_parts 46 = .ok (.iconst (-1), 1) := by decide +kernel
theorem dX10_parts_47 : decode cX10_parts 47 = .ok (.ireturn, 1) := by decide +kernel
theorem dX10_parts_48 : decode cX10_parts 48 = .ok (.aload_n 0, 1) := by decide +kernel
theorem dX10_parts_49 : decode cX10_parts 49 = .ok (.getfield 60, 3) := by decide +kernel
theorem dX10_parts_52 : decode cX10_parts 52 = .ok (.iload_n 1, 1) := by decide +kernel
theorem dX10_parts_53 : decode cX10_parts 53 = .ok (.if_icmp .eq 13, 3) := by decide +kernel
theorem dX10_parts_56 : decode cX10_parts 56 = .ok (.aload_n 0, 1) := by decide +kernel
theorem dX10_parts_57 : decode cX10_parts 57 = .ok (.iload_n 1, 1) := by decide +kernel
theorem dX10_parts_58 : decode cX10_parts 58 = .ok (.putfield 60, 3) := by decide +kernel
theorem dX10_parts_61 : decode cX10_parts 61 = .ok (.aload_n 0, 1) := by decide +kernel
theorem dX10_parts_62 : decode cX10_parts 62 = .ok (.iload_n 1, 1) := by decide +kernel
theorem dX10_parts_63 : decode cX10_parts 63 = .ok (.invokevirtual 205, 3) := by decide +kernel
theorem dX10_parts_66 : decode cX10_parts 66 = .ok (.aload_n 0, 1) := by decide +kernel
theorem dX10_parts_67 : decode cX10_parts 67 = .ok (.getfield 63, 3) := by decide +kernel
theorem dX10_parts_70 : decode cX10_parts 70 = .ok (.iload_n 2, 1) := by decide +kernel
theorem dX10_parts_71 : decode cX10_parts 71 = .ok (.iaload, 1) := by decide +kernel
theorem dX10_parts_72 : decode cX10_parts 72 = .ok (.ireturn, 1) := by decide +kernel
theorem dX10_span_0 : decode cX10_span 0 = .ok (.aload_n 0, 1) := by decide +kernel
theorem dX10_span_1 : decode cX10_span 1 = .ok (.iconst 0, 1) := by decide +kernel
theorem dX10_span_2 : decode cX10_span 2 = .ok (.putfield 1, 3) := by decide +kernel
theorem dX10_span_5 : decode cX10_span 5 = .ok (.iconst 1, 1) := by decide +kernel
theorem dX10_span_6 : decode cX10_span 6 = .ok (.istore_n 1, 1) := by decide +kernel
theorem dX10_span_7 : decode cX10_span 7 = .ok (.aload_n 0, 1) := by decide +kernel
theorem dX10_span_8 : decode cX10_span 8 = .ok (.getfield 124, 3) := by decide +kernel
theorem dX10_span_11 : decode cX10_span 11 = .ok (.bipush 6, 2) := by decide +kernel
theorem dX10_span_13 : decode cX10_span 13 = .ok (.if_icmp .gt 7, 3) := by decide +kernel
theorem dX10_span_16 : decode cX10_span 16 = .ok (.iconst 1, 1) := by decide +kernel
theorem dX10_span_17 : decode cX10_span 17 = .ok (.goto 4, 3) := by decide +kernel
theorem dX10_span_20 : decode cX10_span 20 = .ok (.iconst 0, 1) := by decide +kernel
theorem dX10_span_21 : decode cX10_span 21 = .ok (.istore_n 2, 1) := by decide +kernel
theorem dX10_span_22 : decode cX10_span 22 = .ok (.iconst 0, 1) := by decide +kernel
theorem dX10_span_23 : decode cX10_span 23 = .ok (.istore_n 3, 1) := by decide +kernel
theorem dX10_span_24 : decode cX10_span 24 = .ok (.iload_n 3, 1) := by decide +kernel
theorem dX10_span_25 : decode cX10_span 25 = .ok (.aload_n 0, 1) := by decide +kernel
theorem dX10_span_26 : decode cX10_span 26 = .ok (.getfield 124, 3) := by decide +kernel
theorem dX10_span_29 : decode cX10_span 29 = .ok (.if_icmp .ge 126, 3) := by decide +kernel
theorem dX10_span_32 : decode cX10_span 32 = .ok (.iload_n 2, 1) := by decide +kernel
theorem dX10_span_33 : decode cX10_span 33 = .ok (.ifCond .eq 122, 3) := by decide +kernel
theorem dX10_span_36 : decode cX10_span 36 = .ok (.iconst 0, 1) := by decide +kernel
theorem dX10_span_37 : decode cX10_span 37 = .ok (.istore 4, 2) := by decide +kernel
theorem dX10_span_39 : decode cX10_span 39 = .ok (.iload 4, 2) := by decide +kernel
theorem dX10_span_41 : decode cX10_span 41 = .ok (.iload_n 1, 1) := by decide +kernel
theorem dX10_span_42 : decode cX10_span 42 = .ok (.if_icmp .ge 37, 3) := by decide +kernel
theorem dX10_span_45 : decode cX10_span 45 = .ok (.iload_n 3, 1) := by decide +kernel
theorem dX10_span_46 : decode cX10_span 46 = .ok (.ifCond .le 33, 3) := by decide +kernel
theorem dX10_span_49 : decode cX10_span 49 = .ok (.iload_n 2, 1) := by decide +kernel
theorem dX10_span_50 : decode cX10_span 50 = .ok (.aload_n 0, 1) := by decide +kernel
theorem dX10_span_51 : decode cX10_span 51 = .ok (.getfield 51, 3) := by decide +kernel
theorem dX10_span_54 : decode cX10_span 54 = .ok (.iload 4, 2) := by decide +kernel
theorem dX10_span_56 : decode cX10_span 56 = .ok (.iaload, 1) := by decide +kernel
theorem dX10_span_57 : decode cX10_span 57 = .ok (.aload_n 0, 1) := by decide +kernel
theorem dX10_span_58 : decode cX10_span 58 = .ok (.getfield 13, 3) := by decide +kernel
theorem dX10_span_61 : decode cX10_span 61 = .ok (.iload_n 3, 1) := by decide +kernel
theorem dX10_span_62 : decode cX10_span 62 = .ok (.iaload, 1) := by decide +kernel
theorem dX10_span_63 : decode cX10_span 63 = .ok (.if_icmp .eq 7, 3) := by decide +kernel
theorem dX10_span_66 : decode cX10_span 66 = .ok (.iconst 1, 1) := by decide +kernel
theorem dX10_span_67 : decode cX10_span 67 = .ok (.goto 4, 3) := by decide +kernel
theorem dX10_span_70 : decode cX10_span 70 = .ok (.iconst 0, 1) := by decide +kernel
theorem dX10_span_71 : decode cX10_span 71 = .ok (.iand, 1) := by decide +kernel
theorem dX10_span_72 : decode cX10_span 72 = .ok (.istore_n 2, 1) := by decide +kernel
theorem dX10_span_73 : decode cX10_span 73 = .ok (.iinc 4 1, 3) := by decide +kernel
theorem dX10_span_76 : decode cX10_span 76 = .ok (.goto (-37), 3) := by decide +kernel
theorem dX10_span_79 : decode cX10_span 79 = .ok (.iload_n 2, 1) := by decide +kernel
theorem dX10_span_80 : decode cX10_span 80 = .ok (.aload_n 0, 1) := by decide +kernel
theorem dX10_span_81 : decode cX10_span 81 = .ok (.getfield 13, 3) := by decide +kernel
theorem dX10_span_84 : decode cX10_span 84 = .ok (.iload_n 3, 1) := by decide +kernel
theorem dX10_span_85 : decode cX10_span 85 = .ok (.iaload, 1) := by decide +kernel
theorem dX10_span_86 : decode cX10_span 86 = .ok (.ifCond .eq 7, 3) := by decide +kernel
theorem dX10_span_89 : decode cX10_span 89 = .ok (.iconst 1, 1) := by decide +kernel
theorem dX10_span_90 : decode cX10_span 90 = .ok (.goto 4, 3) := by decide +kernel
theorem dX10_span_93 : decode cX10_span 93 = .ok (.iconst 0, 1) := by decide +kernel
theorem dX10_span_94 : decode cX10_span 94 = .ok (.iand, 1) := by decide +kernel
theorem dX10_span_95 : decode cX10_span 95 = .ok (.istore_n 2, 1) := by decide +kernel
theorem dX10_span_96 : decode cX10_span 96 = .ok (.iload_n 3, 1) := by decide +kernel
theorem dX10_span_97 : decode cX10_span 97 = .ok (.ifCond .ne 10, 3) := by decide +kernel
theorem dX10_span_100 : decode cX10_span 100 = .ok (.aload_n 0, 1) := by decide +kernel
theorem dX10_span_101 : decode cX10_span 101 = .ok (.getfield 51, 3) := by decide +kernel
theorem dX10_span_104 : decode cX10_span 104 = .ok (.iconst 0, 1) := by decide +kernel
theorem dX10_span_105 : decode cX10_span 105 = .ok (.iconst 0, 1) := by decide +kernel
theorem dX10_span_106 : decode cX10_span 106 = .ok (.iastore, 1) := by decide +kernel
theorem dX10_span_107 : decode cX10_span 107 = .ok (.iconst 0, 1) := by decide +kernel
theorem dX10_span_108 : decode cX10_span 108 = .ok (.istore 4, 2) := by decide +kernel
theorem dX10_span_110 : decode cX10_span 110 = .ok (.iload 4, 2) := by decide +kernel
theorem dX10_span_112 : decode cX10_span 112 = .ok (.iload_n 1, 1) := by decide +kernel
theorem dX10_span_113 : decode cX10_span 113 = .ok (.if_icmp .ge 32, 3) := by decide +kernel
theorem dX10_span_116 : decode cX10_span 116 = .ok (.aload_n 0, 1) := by decide +kernel
theorem dX10_span_117 : decode cX10_span 117 = .ok (.getfield 51, 3) := by decide +kernel
theorem dX10_span_120 : decode cX10_span 120 = .ok (.iload_n 1, 1) := by decide +kernel
theorem dX10_span_121 : decode cX10_span 121 = .ok (.iload 4, 2) := by decide +kernel
theorem dX10_span_123 : decode cX10_span 123 = .ok (.iadd, 1) := by decide +kernel
theorem dX10_span_124 : decode cX10_span 124 = .ok (.aload_n 0, 1) := by decide +kernel
theorem dX10_span_125 : decode cX10_span 125 = .ok (.getfield 51, 3) := by decide +kernel
theorem dX10_span_128 : decode cX10_span 128 = .ok (.iload 4, 2) := by decide +kernel
theorem dX10_span_130 : decode cX10_span 130 = .ok (.iaload, 1) := by decide +kernel
theorem dX10_span_131 : decode cX10_span 131 = .ok (.aload_n 0, 1) := by decide +kernel
theorem dX10_span_132 : decode cX10_span 132 = .ok (.getfield 13, 3) := by decide +kernel
theorem dX10_span_135 : decode cX10_span 135 = .ok (.iload_n 3, 1) := by decide +kernel
theorem dX10_span_136 : decode cX10_span 136 = .ok (.iaload, 1) := by decide +kernel
theorem dX10_span_137 : decode cX10_span 137 = .ok (.ixor, 1) := by decide +kernel
theorem dX10_span_138 : decode cX10_span 138 = .ok (.iastore, 1) := by decide +kernel
theorem dX10_span_139 : decode cX10_span 139 = .ok (.iinc 4 1, 3) := by decide +kernel
theorem dX10_span_142 : decode cX10_span 142 = .ok (.goto (-32), 3) := by decide +kernel
theorem dX10_span_145 : decode cX10_span 145 = .ok (.iload_n 1, 1) := by decide +kernel
theorem dX10_span_146 : decode cX10_span 146 = .ok (.iconst 2, 1) := by decide +kernel
theorem dX10_span_147 : decode cX10_span 147 = .ok (.imul, 1) := by decide +kernel
theorem dX10_span_148 : decode cX10_span 148 = .ok (.istore_n 1, 1) := by decide +kernel
theorem dX10_span_149 : decode cX10_span 149 = .ok (.iinc 3 1, 3) := by decide +kernel
theorem dX10_span_152 : decode cX10_span 152 = .ok (.goto (-128), 3) := by decide +kernel
theorem dX10_span_155 : decode cX10_span 155 = .ok (.iload_n 2, 1) := by decide +kernel
theorem dX10_span_156 : decode cX10_span 156 = .ok (.ifCond .ne 9, 3) := by decide +kernel
theorem dX10_span_159 : decode cX10_span 159 = .ok (.aload_n 0, 1) := by decide +kernel
theorem dX10_span_160 : decode cX10_span 160 = .ok (.iconst 1, 1) := by decide +kernel
theorem dX10_span_161 : decode cX10_span 161 = .ok (.invokevirtual 118, 3) := by decide +kernel
theorem dX10_span_164 : decode cX10_span 164 = .ok (.ireturn, 1) := by decide +kernel
theorem dX10_span_165 : decode cX10_span 165 = .ok (.aload_n 0, 1) := by decide +kernel
theorem dX10_span_166 : decode cX10_span 166 = .ok (.getfield 124, 3) := by decide +kernel
theorem dX10_span_169 : decode cX10_span 169 = .ok (.ifCond .ne 10, 3) := by decide +kernel
theorem dX10_span_172 : decode cX10_span 172 = .ok (.aload_n 0, 1) := by decide +kernel
theorem dX10_span_173 : decode cX10_span 173 = .ok (.getfield 51, 3) := by decide +kernel
theorem dX10_span_176 : decode cX10_span 176 = .ok (.iconst 0, 1) := by decide +kernel
theorem dX10_span_177 : decode cX10_span 177 = .ok (.iconst 0, 1) := by decide +kernel
theorem dX10_span_178 : decode cX10_span 178 = .ok (.iastore, 1) := by decide +kernel
theorem dX10_span_179 : decode cX10_span 179 = .ok (.iconst 0, 1) := by decide +kernel
theorem dX10_span_180 : decode cX10_span 180 = .ok (.istore_n 3, 1) := by decide +kernel
theorem dX10_span_181 : decode cX10_span 181 = .ok (.iload_n 3, 1) := by decide +kernel
theorem dX10_span_182 : decode cX10_span 182 = .ok (.iload_n 1, 1) := by decide +kernel
theorem dX10_span_183 : decode cX10_span 183 = .ok (.if_icmp .ge 21, 3) := by decide +kernel
theorem dX10_span_186 : decode cX10_span 186 = .ok (.aload_n 0, 1) := by decide +kernel
theorem dX10_span_187 : decode cX10_span 187 = .ok (.getfield 72, 3) := by decide +kernel
theorem dX10_span_190 : decode cX10_span 190 = .ok (.iload_n 3, 1) := by decide +kernel
theorem dX10_span_191 : decode cX10_span 191 = .ok (.aload_n 0, 1) := by decide +kernel
theorem dX10_span_192 : decode cX10_span 192 = .ok (.getfield 51, 3) := by decide +kernel
theorem dX10_span_195 : decode cX10_span 195 = .ok (.iload_n 3, 1) := by decide +kernel
theorem dX10_span_196 : decode cX10_span 196 = .ok (.iaload, 1) := by decide +kernel
theorem dX10_span_197 : decode cX10_span 197 = .ok (.iastore, 1) := by decide +kernel
theorem dX10_span_198 : decode cX10_span 198 = .ok (.iinc 3 1, 3) := by decide +kernel
theorem dX10_span_201 : decode cX10_span 201 = .ok (.goto (-20), 3) := by decide +kernel
theorem dX10_span_204 : decode cX10_span 204 = .ok (.aload_n 0, 1) := by decide +kernel
theorem dX10_span_205 : decode cX10_span 205 = .ok (.iload_n 1, 1) := by decide +kernel
theorem dX10_span_206 : decode cX10_span 206 = .ok (.putfield 208, 3) := by decide +kernel
theorem dX10_span_209 : decode cX10_span 209 = .ok (.aload_n 0, 1) := by decide +kernel
theorem dX10_span_210 : decode cX10_span 210 = .ok (.iconst 0, 1) := by decide +kernel
theorem dX10_span_211 : decode cX10_span 211 = .ok (.putfield 124, 3) := by decide +kernel
theorem dX10_span_214 : decode cX10_span 214 = .ok (.iload_n 1, 1) := by decide +kernel
theorem dX10_span_215 : decode cX10_span 215 = .ok (.ireturn, 1) := by decide +kernel
theorem dX10_forth_0 : decode cX10_forth 0 = .ok (.aload_n 0, 1) := by decide +kernel
theorem dX10_forth_1 : decode cX10_forth 1 = .ok (.iconst 0, 1) := by decide +kernel
theorem dX10_forth_2 : decode cX10_forth 2 = .ok (.putfield 1, 3) := by decide +kernel
theorem dX10_forth_5 : decode cX10_forth 5 = .ok (.aload_n 0, 1) := by decide +kernel
theorem dX10_forth_6 : decode cX10_forth 6 = .ok (.iload_n 1, 1) := by decide +kernel
theorem dX10_forth_7 : decode cX10_forth 7 = .ok (.invokevirtual 182, 3) := by decide +kernel
theorem dX10_forth_10 : decode cX10_forth 10 = .ok (.ifCond .ne 9, 3) := by decide +kernel
theorem dX10_forth_13 : decode cX10_forth 13 = .ok (.aload_n 0, 1) := by decide +kernel
theorem dX10_forth_14 : decode cX10_forth 14 = .ok (.iconst 1, 1) := by decide +kernel
theorem dX10_forth_15 : decode cX10_forth 15 = .ok (.invokevirtual 118, 3) := by decide +kernel
theorem dX10_forth_18 : decode cX10_forth 18 = .ok (.ireturn, 1) := by decide +kernel
theorem dX10_forth_19 : decode cX10_forth 19 = .ok (.aload_n 0, 1) := by decide +kernel
theorem dX10_forth_20 : decode cX10_forth 20 = .ok (.getfield 208, 3) := by decide +kernel
theorem dX10_forth_23 : decode cX10_forth 23 = .ok (.ifCond .ne 9, 3) := by decide +kernel
theorem dX10_forth_26 : decode cX10_forth 26 = .ok (.aload_n 0, 1) := by decide +kernel
theorem dX10_forth_27 : decode cX10_forth 27 = .ok (.iconst 2, 1) := by decide +kernel
theorem dX10_forth_28 : decode cX10_forth 28 = .ok (.invokevirtual 118, 3) := by decide +kernel
theorem dX10_forth_31 : decode cX10_forth 31 = .ok (.ireturn, 1) := by decide +kernel
theorem dX10_forth_32 : decode cX10_forth 32 = .ok (.aload_n 0, 1) := by decide +kernel
theorem dX10_forth_33 : decode cX10_forth 33 = .ok (.aload_n 0, 1) := by decide +kernel
theorem dX10_forth_34 : decode cX10_forth 34 = .ok (.getfield 42, 3) := by decide +kernel
theorem dX10_forth_37 : decode cX10_forth 37 = .ok (.iload_n 1, 1) := by decide +kernel
theorem dX10_forth_38 : decode cX10_forth 38 = .ok (.invokevirtual 185, 3) := by decide +kernel
theorem dX10_forth_41 : decode cX10_forth 41 = .ok (.iconst 0, 1) := by decide +kernel
theorem dX10_forth_42 : decode cX10_forth 42 = .ok (.istore_n 2, 1) := by decide +kernel
theorem dX10_forth_43 : decode cX10_forth 43 = .ok (.iload_n 2, 1) := by decide +kernel
theorem dX10_forth_44 : decode cX10_forth 44 = .ok (.aload_n 0, 1) := by decide +kernel
theorem dX10_forth_45 : decode cX10_forth 45 = .ok (.getfield 208, 3) := by decide +kernel
theorem dX10_forth_48 : decode cX10_forth 48 = .ok (.if_icmp .ge 29, 3) := by decide +kernel
theorem dX10_forth_51 : decode cX10_forth 51 = .ok (.aload_n 0, 1) := by decide +kernel
theorem dX10_forth_52 : decode cX10_forth 52 = .ok (.getfield 13, 3) := by decide +kernel
theorem dX10_forth_55 : decode cX10_forth 55 = .ok (.iload_n 2, 1) := by decide +kernel
theorem dX10_forth_56 : decode cX10_forth 56 = .ok (.aload_n 0, 1) := by decide +kernel
theorem dX10_forth_57 : decode cX10_forth 57 = .ok (.aload_n 0, 1) := by decide +kernel
theorem dX10_forth_58 : decode cX10_forth 58 = .ok (.getfield 42, 3) := by decide +kernel
theorem dX10_forth_61 : decode cX10_forth 61 = .ok (.aload_n 0, 1) := by decide +kernel
theorem dX10_forth_62 : decode cX10_forth 62 = .ok (.getfield 72, 3) := by decide +kernel
theorem dX10_forth_65 : decode cX10_forth 65 = .ok (.iload_n 2, 1) := by decide +kernel
theorem dX10_forth_66 : decode cX10_forth 66 = .ok (.iaload, 1) := by decide +kernel
theorem dX10_forth_67 : decode cX10_forth 67 = .ok (.invokevirtual 172, 3) := by decide +kernel
theorem dX10_forth_70 : decode cX10_forth 70 = .ok (.iastore, 1) := by decide +kernel
theorem dX10_forth_71 : decode cX10_forth 71 = .ok (.iinc 2 1, 3) := by decide +kernel
theorem dX10_forth_74 : decode cX10_forth 74 = .ok (.goto (-31), 3) := by decide +kernel
theorem dX10_forth_77 : decode cX10_forth 77 = .ok (.aload_n 0, 1) := by decide +kernel
theorem dX10_forth_78 : decode cX10_forth 78 = .ok (.aload_n 0, 1) := by decide +kernel
theorem dX10_forth_79 : decode cX10_forth 79 = .ok (.getfield 208, 3) := by decide +kernel
theorem dX10_forth_82 : decode cX10_forth 82 = .ok (.putfield 124, 3) := by decide +kernel
theorem dX10_forth_85 : decode cX10_forth 85 = .ok (.aload_n 0, 1) := by decide +kernel
theorem dX10_forth_86 : decode cX10_forth 86 = .ok (.getfield 124, 3) := by decide +kernel
theorem dX10_forth_89 : decode cX10_forth 89 = .ok (.ireturn, 1) := by decide +kernel
theorem dX10_back_0 : decode cX10_back 0 = .ok (.aload_n 0, 1) := by decide +kernel
theorem dX10_back_1 : decode cX10_back 1 = .ok (.iconst 0, 1) := by decide +kernel
theorem dX10_back_2 : decode cX10_back 2 = .ok (.putfield 1, 3) := by decide +kernel
theorem dX10_back_5 : decode cX10_back 5 = .ok (.aload_n 0, 1) := by decide +kernel
theorem dX10_back_6 : decode cX10_back 6 = .ok (.getfield 208, 3) := by decide +kernel
theorem dX10_back_9 : decode cX10_back 9 = .ok (.ifCond .eq 14, 3) := by decide +kernel
theorem dX10_back_12 : decode cX10_back 12 = .ok (.aload_n 0, 1) := by decide +kernel
theorem dX10_back_13 : decode cX10_back 13 = .ok (.getfield 124, 3) := by decide +kernel
theorem dX10_back_16 : decode cX10_back 16 = .ok (.aload_n 0, 1) := by decide +kernel
theorem dX10_back_17 : decode cX10_back 17 = .ok (.getfield 208, 3) := by decide +kernel
theorem dX10_back_20 : decode cX10_back 20 = .ok (.if_icmp .eq 9, 3) := by decide +kernel
theorem dX10_back_23 : decode cX10_back 23 = .ok (.aload_n 0, 1) := by decide +kernel
theorem dX10_back_24 : decode cX10_back 24 = .ok (.iconst 1, 1) := by decide +kernel
theorem dX10_back_25 : decode cX10_back 25 = .ok (.invokevirtual 118, 3) := by decide +kernel
theorem dX10_back_28 : decode cX10_back 28 = .ok (.ireturn, 1) := by decide +kernel
theorem dX10_back_29 : decode cX10_back 29 = .ok (.aload_n 0, 1) := by decide +kernel
theorem dX10_back_30 : decode cX10_back 30 = .ok (.getfield 158, 3) := by decide +kernel
theorem dX10_back_33 : decode cX10_back 33 = .ok (.bipush 40, 2) := by decide +kernel
theorem dX10_back_35 : decode cX10_back 35 = .ok (.if_icmp .ne 9, 3) := by decide +kernel
theorem dX10_back_38 : decode cX10_back 38 = .ok (.aload_n 0, 1) := by decide +kernel
theorem dX10_back_39 : decode cX10_back 39 = .ok (.iconst 2, 1) := by decide +kernel
theorem dX10_back_40 : decode cX10_back 40 = .ok (.invokevirtual 118, 3) := by decide +kernel
theorem dX10_back_43 : decode cX10_back 43 = .ok (.ireturn, 1) := by decide +kernel
theorem dX10_back_44 : decode cX10_back 44 = .ok (.aload_n 0, 1) := by decide +kernel
theorem dX10_back_45 : decode cX10_back 45 = .ok (.invokevirtual 175, 3) := by decide +kernel
theorem dX10_back_48 : decode cX10_back 48 = .ok (.iconst 0, 1) := by decide +kernel
theorem dX10_back_49 : decode cX10_back 49 = .ok (.istore_n 1, 1) := by decide +kernel
theorem dX10_back_50 : decode cX10_back 50 = .ok (.iload_n 1, 1) := by decide +kernel
theorem dX10_back_51 : decode cX10_back 51 = .ok (.aload_n 0, 1) := by decide +kernel
theorem dX10_back_52 : decode cX10_back 52 = .ok (.getfield 208, 3) := by decide +kernel
theorem dX10_back_55 : decode cX10_back 55 = .ok (.if_icmp .ge 25, 3) := by decide +kernel
theorem dX10_back_58 : decode cX10_back 58 = .ok (.aload_n 0, 1) := by decide +kernel
theorem dX10_back_59 : decode cX10_back 59 = .ok (.aload_n 0, 1) := by decide +kernel
theorem dX10_back_60 : decode cX10_back 60 = .ok (.getfield 72, 3) := by decide +kernel
theorem dX10_back_63 : decode cX10_back 63 = .ok (.iload_n 1, 1) := by decide +kernel
theorem dX10_back_64 : decode cX10_back 64 = .ok (.iaload, 1) := by decide +kernel
theorem dX10_back_65 : decode cX10_back 65 = .ok (.aload_n 0, 1) := by decide +kernel
theorem dX10_back_66 : decode cX10_back 66 = .ok (.getfield 13, 3) := by decide +kernel
theorem dX10_back_69 : decode cX10_back 69 = .ok (.iload_n 1, 1) := by decide +kernel
theorem dX10_back_70 : decode cX10_back 70 = .ok (.iaload, 1) := by decide +kernel
theorem dX10_back_71 : decode cX10_back 71 = .ok (.invokevirtual 178, 3) := by decide +kernel
theorem dX10_back_74 : decode cX10_back 74 = .ok (.iinc 1 1, 3) := by decide +kernel
theorem dX10_back_77 : decode cX10_back 77 = .ok (.goto (-27), 3) := by decide +kernel
theorem dX10_back_80 : decode cX10_back 80 = .ok (.aload_n 0, 1) := by decide +kernel
theorem dX10_back_81 : decode cX10_back 81 = .ok (.iconst 0, 1) := by decide +kernel
theorem dX10_back_82 : decode cX10_back 82 = .ok (.putfield 124, 3) := by decide +kernel
theorem dX10_back_85 : decode cX10_back 85 = .ok (.aload_n 0, 1) := by decide +kernel
theorem dX10_back_86 : decode cX10_back 86 = .ok (.aload_n 0, 1) := by decide +kernel
theorem dX10_back_87 : decode cX10_back 87 = .ok (.getfield 42, 3) := by decide +kernel
theorem dX10_back_90 : decode cX10_back 90 = .ok (.invokevirtual 169, 3) := by decide +kernel
theorem dX10_back_93 : decode cX10_back 93 = .ok (.ireturn, 1) := by decide +kernel
theorem dX10_told_0 : decode cX10_told 0 = .ok (.aload_n 0, 1) := by decide +kernel
theorem dX10_told_1 : decode cX10_told 1 = .ok (.iconst 0, 1) := by decide +kernel
theorem dX10_told_2 : decode cX10_told 2 = .ok (.putfield 1, 3) := by decide +kernel
theorem dX10_told_5 : decode cX10_told 5 = .ok (.iload_n 1, 1) := by decide +kernel
theorem dX10_told_6 : decode cX10_told 6 = .ok (.ifCond .ne 10, 3) := by decide +kernel
theorem dX10_told_9 : decode cX10_told 9 = .ok (.aload_n 0, 1) := by decide +kernel
theorem dX10_told_10 : decode cX10_told 10 = .ok (.getfield 124, 3) := by decide +kernel
theorem dX10_told_13 : decode cX10_told 13 = .ok (.goto 44, 3) := by decide +kernel
theorem dX10_told_16 : decode cX10_told 16 = .ok (.iload_n 1, 1) := by decide +kernel
theorem dX10_told_17 : decode cX10_told 17 = .ok (.iconst 1, 1) := by decide +kernel
theorem dX10_told_18 : decode cX10_told 18 = .ok (.if_icmp .ne 10, 3) := by decide +kernel
theorem dX10_told_21 : decode cX10_told 21 = .ok (.aload_n 0, 1) := by decide +kernel
theorem dX10_told_22 : decode cX10_told 22 = .ok (.getfield 127, 3) := by decide +kernel
theorem dX10_told_25 : decode cX10_told 25 = .ok (.goto 32, 3) := by decide +kernel
theorem dX10_told_28 : decode cX10_told 28 = .ok (.iload_n 1, 1) := by decide +kernel
theorem dX10_told_29 : decode cX10_told 29 = .ok (.iconst 2, 1) := by decide +kernel
theorem dX10_told_30 : decode cX10_told 30 = .ok (.if_icmp .ne 10, 3) := by decide +kernel
theorem dX10_told_33 : decode cX10_told 33 = .ok (.aload_n 0, 1) := by decide +kernel
theorem dX10_told_34 : decode cX10_told 34 = .ok (.getfield 158, 3) := by decide +kernel
theorem dX10_told_37 : decode cX10_told 37 = .ok (.goto 20, 3) := by decide +kernel
theorem dX10_told_40 : decode cX10_told 40 = .ok (.iload_n 1, 1) := by decide +kernel
theorem dX10_told_41 : decode cX10_told 41 = .ok (.iconst 3, 1) := by decide +kernel
theorem dX10_told_42 : decode cX10_told 42 = .ok (.if_icmp .ne 10, 3) := by decide +kernel
theorem dX10_told_45 : decode cX10_told 45 = .ok (.aload_n 0, 1) := by decide +kernel
theorem dX10_told_46 : decode cX10_told 46 = .ok (.getfield 208, 3) := by decide +kernel
theorem dX10_told_49 : decode cX10_told 49 = .ok (.goto 8, 3) := by decide +kernel
theorem dX10_told_52 : decode cX10_told 52 = .ok (.aload_n 0, 1) := by decide +kernel
theorem dX10_told_53 : decode cX10_told 53 = .ok (.iconst 1, 1) := by decide +kernel
theorem dX10_told_54 : decode cX10_told 54 = .ok (.invokevirtual 118, 3) := by decide +kernel
theorem dX10_told_57 : decode cX10_told 57 = .ok (.ireturn, 1) := by decide +kernel
theorem dJx00060_init_a7421_0 : decode cJx00060_init_a7421 0 = .ok (.aload_n 0, 1) := by decide +kernel
theorem dJx00060_init_a7421_1 : decode cJx00060_init_a7421 1 = .ok (.aload_n 1, 1) := by decide +kernel
theorem dJx00060_init_a7421_2 : decode cJx00060_init_a7421 2 = .ok (.invokespecial 7, 3) := by decide +kernel
theorem dJx00060_init_a7421_5 : decode cJx00060_init_a7421 5 = .ok (.return_, 1) := by decide +kernel
theorem dJ6_numberOfLeadingZeros_0f7a4_0 : decode cJ6_numberOfLeadingZeros_0f7a4 0 = .ok (.iload_n 0, 1) := by decide +kernel
theorem dJ6_numberOfLeadingZeros_0f7a4_1 : decode cJ6_numberOfLeadingZeros_0f7a4 1 = .ok (.ifCond .gt 14, 3) := by decide +kernel
theorem dJ6_numberOfLeadingZeros_0f7a4_4 : decode cJ6_numberOfLeadingZeros_0f7a4 4 = .ok (.iload_n 0, 1) := by decide +kernel
theorem dJ6_numberOfLeadingZeros_0f7a4_5 : decode cJ6_numberOfLeadingZeros_0f7a4 5 = .ok (.ifCond .ne 8, 3) := by decide +kernel
theorem dJ6_numberOfLeadingZeros_0f7a4_8 : decode cJ6_numberOfLeadingZeros_0f7a4 8 = .ok (.bipush 32, 2) := by decide +kernel
theorem dJ6_numberOfLeadingZeros_0f7a4_10 : decode cJ6_numberOfLeadingZeros_0f7a4 10 = .ok (.goto 4, 3) := by decide +kernel
theorem dJ6_numberOfLeadingZeros_0f7a4_13 : decode cJ6_numberOfLeadingZeros_0f7a4 13 = .ok (.iconst 0, 1) := by decide +kernel
theorem dJ6_numberOfLeadingZeros_0f7a4_14 : decode cJ6_numberOfLeadingZeros_0f7a4 14 = .ok (.ireturn, 1) := by decide +kernel
theorem dJ6_numberOfLeadingZeros_0f7a4_15 : decode cJ6_numberOfLeadingZeros_0f7a4 15 = .ok (.bipush 31, 2) := by decide +kernel
theorem dJ6_numberOfLeadingZeros_0f7a4_17 : decode cJ6_numberOfLeadingZeros_0f7a4 17 = .ok (.istore_n 1, 1) := by decide +kernel
theorem dJ6_numberOfLeadingZeros_0f7a4_18 : decode cJ6_numberOfLeadingZeros_0f7a4 18 = .ok (.iload_n 0, 1) := by decide +kernel
theorem dJ6_numberOfLeadingZeros_0f7a4_19 : decode cJ6_numberOfLeadingZeros_0f7a4 19 = .ok (.ldc_w 264, 3) := by decide +kernel
theorem dJ6_numberOfLeadingZeros_0f7a4_22 : decode cJ6_numberOfLeadingZeros_0f7a4 22 = .ok (.if_icmp .lt 11, 3) := by decide +kernel
theorem dJ6_numberOfLeadingZeros_0f7a4_25 : decode cJ6_numberOfLeadingZeros_0f7a4 25 = .ok (.iinc 1 (-16), 3) := by decide +kernel
theorem dJ6_numberOfLeadingZeros_0f7a4_28 : decode cJ6_numberOfLeadingZeros_0f7a4 28 = .ok (.iload_n 0, 1) := by decide +kernel
theorem dJ6_numberOfLeadingZeros_0f7a4_29 : decode cJ6_numberOfLeadingZeros_0f7a4 29 = .ok (.bipush 16, 2) := by decide +kernel
theorem dJ6_numberOfLeadingZeros_0f7a4_31 : decode cJ6_numberOfLeadingZeros_0f7a4 31 = .ok (.iushr, 1) := by decide +kernel
theorem dJ6_numberOfLeadingZeros_0f7a4_32 : decode cJ6_numberOfLeadingZeros_0f7a4 32 = .ok (.istore_n 0, 1) := by decide +kernel
theorem dJ6_numberOfLeadingZeros_0f7a4_33 : decode cJ6_numberOfLeadingZeros_0f7a4 33 = .ok (.iload_n 0, 1) := by decide +kernel
theorem dJ6_numberOfLeadingZeros_0f7a4_34 : decode cJ6_numberOfLeadingZeros_0f7a4 34 = .ok (.sipush 256, 3) := by decide +kernel
theorem dJ6_numberOfLeadingZeros_0f7a4_37 : decode cJ6_numberOfLeadingZeros_0f7a4 37 = .ok (.if_icmp .lt 11, 3) := by decide +kernel
theorem dJ6_numberOfLeadingZeros_0f7a4_40 : decode cJ6_numberOfLeadingZeros_0f7a4 40 = .ok (.iinc 1 (-8), 3) := by decide +kernel
theorem dJ6_numberOfLeadingZeros_0f7a4_43 : decode cJ6_numberOfLeadingZeros_0f7a4 43 = .ok (.iload_n 0, 1) := by decide +kernel
theorem dJ6_numberOfLeadingZeros_0f7a4_44 : decode cJ6_numberOfLeadingZeros_0f7a4 44 = .ok (.bipush 8, 2) := by decide +kernel
theorem dJ6_numberOfLeadingZeros_0f7a4_46 : decode cJ6_numberOfLeadingZeros_0f7a4 46 = .ok (.iushr, 1) := by decide +kernel
theorem dJ6_numberOfLeadingZeros_0f7a4_47 : decode cJ6_numberOfLeadingZeros_0f7a4 47 = .ok (.istore_n 0, 1) := by decide +kernel
theorem dJ6_numberOfLeadingZeros_0f7a4_48 : decode cJ6_numberOfLeadingZeros_0f7a4 48 = .ok (.iload_n 0, 1) := by decide +kernel
theorem dJ6_numberOfLeadingZeros_0f7a4_49 : decode cJ6_numberOfLeadingZeros_0f7a4 49 = .ok (.bipush 16, 2) := by decide +kernel
theorem dJ6_numberOfLeadingZeros_0f7a4_51 : decode cJ6_numberOfLeadingZeros_0f7a4 51 = .ok (.if_icmp .lt 10, 3) := by decide +kernel
theorem dJ6_numberOfLeadingZeros_0f7a4_54 : decode cJ6_numberOfLeadingZeros_0f7a4 54 = .ok (.iinc 1 (-4), 3) := by decide +kernel
theorem dJ6_numberOfLeadingZeros_0f7a4_57 : decode cJ6_numberOfLeadingZeros_0f7a4 57 = .ok (.iload_n 0, 1) := by decide +kernel
theorem dJ6_numberOfLeadingZeros_0f7a4_58 : decode cJ6_numberOfLeadingZeros_0f7a4 58 = .ok (.iconst 4, 1) := by decide +kernel
theorem dJ6_numberOfLeadingZeros_0f7a4_59 : decode cJ6_numberOfLeadingZeros_0f7a4 59 = .ok (.iushr, 1) := by decide +kernel
theorem dJ6_numberOfLeadingZeros_0f7a4_60 : decode cJ6_numberOfLeadingZeros_0f7a4 60 = .ok (.istore_n 0, 1) := by decide +kernel
theorem dJ6_numberOfLeadingZeros_0f7a4_61 : decode cJ6_numberOfLeadingZeros_0f7a4 61 = .ok (.iload_n 0, 1) := by decide +kernel
theorem dJ6_numberOfLeadingZeros_0f7a4_62 : decode cJ6_numberOfLeadingZeros_0f7a4 62 = .ok (.iconst 4, 1) := by decide +kernel
theorem dJ6_numberOfLeadingZeros_0f7a4_63 : decode cJ6_numberOfLeadingZeros_0f7a4 63 = .ok (.if_icmp .lt 10, 3) := by decide +kernel
theorem dJ6_numberOfLeadingZeros_0f7a4_66 : decode cJ6_numberOfLeadingZeros_0f7a4 66 = .ok (.iinc 1 (-2), 3) := by decide +kernel
theorem dJ6_numberOfLeadingZeros_0f7a4_69 : decode cJ6_numberOfLeadingZeros_0f7a4 69 = .ok (.iload_n 0, 1) := by decide +kernel
theorem dJ6_numberOfLeadingZeros_0f7a4_70 : decode cJ6_numberOfLeadingZeros_0f7a4 70 = .ok (.iconst 2, 1) := by decide +kernel
theorem dJ6_numberOfLeadingZeros_0f7a4_71 : decode cJ6_numberOfLeadingZeros_0f7a4 71 = .ok (.iushr, 1) := by decide +kernel
theorem dJ6_numberOfLeadingZeros_0f7a4_72 : decode cJ6_numberOfLeadingZeros_0f7a4 72 = .ok (.istore_n 0, 1) := by decide +kernel
theorem dJ6_numberOfLeadingZeros_0f7a4_73 : decode cJ6_numberOfLeadingZeros_0f7a4 73 = .ok (.iload_n 1, 1) := by decide +kernel
theorem dJ6_numberOfLeadingZeros_0f7a4_74 : decode cJ6_numberOfLeadingZeros_0f7a4 74 = .ok (.iload_n 0, 1) := by decide +kernel
theorem dJ6_numberOfLeadingZeros_0f7a4_75 : decode cJ6_numberOfLeadingZeros_0f7a4 75 = .ok (.iconst 1, 1) := by decide +kernel
theorem dJ6_numberOfLeadingZeros_0f7a4_76 : decode cJ6_numberOfLeadingZeros_0f7a4 76 = .ok (.iushr, 1) := by decide +kernel
theorem dJ6_numberOfLeadingZeros_0f7a4_77 : decode cJ6_numberOfLeadingZeros_0f7a4 77 = .ok (.isub, 1) := by decide +kernel
theorem dJ6_numberOfLeadingZeros_0f7a4_78 : decode cJ6_numberOfLeadingZeros_0f7a4 78 = .ok (.ireturn, 1) := by decide +kernel
theorem dJ6_numberOfTrailingZeros_0f7a4_0 : decode cJ6_numberOfTrailingZeros_0f7a4 0 = .ok (.iload_n 0, 1) := by decide +kernel
theorem dJ6_numberOfTrailingZeros_0f7a4_1 : decode cJ6_numberOfTrailingZeros_0f7a4 1 = .ok (.iconst (-1), 1) := by decide +kernel
theorem dJ6_numberOfTrailingZeros_0f7a4_2 : decode cJ6_numberOfTrailingZeros_0f7a4 2 = .ok (.ixor, 1) := by decide +kernel
theorem dJ6_numberOfTrailingZeros_0f7a4_3 : decode cJ6_numberOfTrailingZeros_0f7a4 3 = .ok (.iload_n 0, 1) := by decide +kernel
theorem dJ6_numberOfTrailingZeros_0f7a4_4 : decode cJ6_numberOfTrailingZeros_0f7a4 4 = .ok (.iconst 1, 1) := by decide +kernel
theorem dJ6_numberOfTrailingZeros_0f7a4_5 : decode cJ6_numberOfTrailingZeros_0f7a4 5 = .ok (.isub, 1) := by decide +kernel
theorem dJ6_numberOfTrailingZeros_0f7a4_6 : decode cJ6_numberOfTrailingZeros_0f7a4 6 = .ok (.iand, 1) := by decide +kernel
theorem dJ6_numberOfTrailingZeros_0f7a4_7 : decode cJ6_numberOfTrailingZeros_0f7a4 7 = .ok (.istore_n 0, 1) := by decide +kernel
theorem dJ6_numberOfTrailingZeros_0f7a4_8 : decode cJ6_numberOfTrailingZeros_0f7a4 8 = .ok (.iload_n 0, 1) := by decide +kernel
theorem dJ6_numberOfTrailingZeros_0f7a4_9 : decode cJ6_numberOfTrailingZeros_0f7a4 9 = .ok (.ifCond .gt 8, 3) := by decide +kernel
theorem dJ6_numberOfTrailingZeros_0f7a4_12 : decode cJ6_numberOfTrailingZeros_0f7a4 12 = .ok (.iload_n 0, 1) := by decide +kernel
theorem dJ6_numberOfTrailingZeros_0f7a4_13 : decode cJ6_numberOfTrailingZeros_0f7a4 13 = .ok (.bipush 32, 2) := by decide +kernel
theorem dJ6_numberOfTrailingZeros_0f7a4_15 : decode cJ6_numberOfTrailingZeros_0f7a4 15 = .ok (.iand, 1) := by decide +kernel
theorem dJ6_numberOfTrailingZeros_0f7a4_16 : decode cJ6_numberOfTrailingZeros_0f7a4 16 = .ok (.ireturn, 1) := by decide +kernel
theorem dJ6_numberOfTrailingZeros_0f7a4_17 : decode cJ6_numberOfTrailingZeros_0f7a4 17 = .ok (.iconst 1, 1) := by decide +kernel
theorem dJ6_numberOfTrailingZeros_0f7a4_18 : decode cJ6_numberOfTrailingZeros_0f7a4 18 = .ok (.istore_n 1, 1) := by decide +kernel
theorem dJ6_numberOfTrailingZeros_0f7a4_19 : decode cJ6_numberOfTrailingZeros_0f7a4 19 = .ok (.iload_n 0, 1) := by decide +kernel
theorem dJ6_numberOfTrailingZeros_0f7a4_20 : decode cJ6_numberOfTrailingZeros_0f7a4 20 = .ok (.ldc_w 264, 3) := by decide +kernel
theorem dJ6_numberOfTrailingZeros_0f7a4_23 : decode cJ6_numberOfTrailingZeros_0f7a4 23 = .ok (.if_icmp .le 11, 3) := by decide +kernel
theorem dJ6_numberOfTrailingZeros_0f7a4_26 : decode cJ6_numberOfTrailingZeros_0f7a4 26 = .ok (.iinc 1 16, 3) := by decide +kernel
theorem dJ6_numberOfTrailingZeros_0f7a4_29 : decode cJ6_numberOfTrailingZeros_0f7a4 29 = .ok (.iload_n 0, 1) := by decide +kernel
theorem dJ6_numberOfTrailingZeros_0f7a4_30 : decode cJ6_numberOfTrailingZeros_0f7a4 30 = .ok (.bipush 16, 2) := by decide +kernel
theorem dJ6_numberOfTrailingZeros_0f7a4_32 : decode cJ6_numberOfTrailingZeros_0f7a4 32 = .ok (.iushr, 1) := by decide +kernel
theorem dJ6_numberOfTrailingZeros_0f7a4_33 : decode cJ6_numberOfTrailingZeros_0f7a4 33 = .ok (.istore_n 0, 1) := by decide +kernel
theorem dJ6_numberOfTrailingZeros_0f7a4_34 : decode cJ6_numberOfTrailingZeros_0f7a4 34 = .ok (.iload_n 0, 1) := by decide +kernel
theorem dJ6_numberOfTrailingZeros_0f7a4_35 : decode cJ6_numberOfTrailingZeros_0f7a4 35 = .ok (.sipush 256, 3) := by decide +kernel
theorem dJ6_numberOfTrailingZeros_0f7a4_38 : decode cJ6_numberOfTrailingZeros_0f7a4 38 = .ok (.if_icmp .le 11, 3) := by decide +kernel
theorem dJ6_numberOfTrailingZeros_0f7a4_41 : decode cJ6_numberOfTrailingZeros_0f7a4 41 = .ok (.iinc 1 8, 3) := by decide +kernel
theorem dJ6_numberOfTrailingZeros_0f7a4_44 : decode cJ6_numberOfTrailingZeros_0f7a4 44 = .ok (.iload_n 0, 1) := by decide +kernel
theorem dJ6_numberOfTrailingZeros_0f7a4_45 : decode cJ6_numberOfTrailingZeros_0f7a4 45 = .ok (.bipush 8, 2) := by decide +kernel
theorem dJ6_numberOfTrailingZeros_0f7a4_47 : decode cJ6_numberOfTrailingZeros_0f7a4 47 = .ok (.iushr, 1) := by decide +kernel
theorem dJ6_numberOfTrailingZeros_0f7a4_48 : decode cJ6_numberOfTrailingZeros_0f7a4 48 = .ok (.istore_n 0, 1) := by decide +kernel
theorem dJ6_numberOfTrailingZeros_0f7a4_49 : decode cJ6_numberOfTrailingZeros_0f7a4 49 = .ok (.iload_n 0, 1) := by decide +kernel
theorem dJ6_numberOfTrailingZeros_0f7a4_50 : decode cJ6_numberOfTrailingZeros_0f7a4 50 = .ok (.bipush 16, 2) := by decide +kernel
theorem dJ6_numberOfTrailingZeros_0f7a4_52 : decode cJ6_numberOfTrailingZeros_0f7a4 52 = .ok (.if_icmp .le 10, 3) := by decide +kernel
theorem dJ6_numberOfTrailingZeros_0f7a4_55 : decode cJ6_numberOfTrailingZeros_0f7a4 55 = .ok (.iinc 1 4, 3) := by decide +kernel
theorem dJ6_numberOfTrailingZeros_0f7a4_58 : decode cJ6_numberOfTrailingZeros_0f7a4 58 = .ok (.iload_n 0, 1) := by decide +kernel
theorem dJ6_numberOfTrailingZeros_0f7a4_59 : decode cJ6_numberOfTrailingZeros_0f7a4 59 = .ok (.iconst 4, 1) := by decide +kernel
theorem dJ6_numberOfTrailingZeros_0f7a4_60 : decode cJ6_numberOfTrailingZeros_0f7a4 60 = .ok (.iushr, 1) := by decide +kernel
theorem dJ6_numberOfTrailingZeros_0f7a4_61 : decode cJ6_numberOfTrailingZeros_0f7a4 61 = .ok (.istore_n 0, 1) := by decide +kernel
theorem dJ6_numberOfTrailingZeros_0f7a4_62 : decode cJ6_numberOfTrailingZeros_0f7a4 62 = .ok (.iload_n 0, 1) := by decide +kernel
theorem dJ6_numberOfTrailingZeros_0f7a4_63 : decode cJ6_numberOfTrailingZeros_0f7a4 63 = .ok (.iconst 4, 1) := by decide +kernel
theorem dJ6_numberOfTrailingZeros_0f7a4_64 : decode cJ6_numberOfTrailingZeros_0f7a4 64 = .ok (.if_icmp .le 10, 3) := by decide +kernel
theorem dJ6_numberOfTrailingZeros_0f7a4_67 : decode cJ6_numberOfTrailingZeros_0f7a4 67 = .ok (.iinc 1 2, 3) := by decide +kernel
theorem dJ6_numberOfTrailingZeros_0f7a4_70 : decode cJ6_numberOfTrailingZeros_0f7a4 70 = .ok (.iload_n 0, 1) := by decide +kernel
theorem dJ6_numberOfTrailingZeros_0f7a4_71 : decode cJ6_numberOfTrailingZeros_0f7a4 71 = .ok (.iconst 2, 1) := by decide +kernel
theorem dJ6_numberOfTrailingZeros_0f7a4_72 : decode cJ6_numberOfTrailingZeros_0f7a4 72 = .ok (.iushr, 1) := by decide +kernel
theorem dJ6_numberOfTrailingZeros_0f7a4_73 : decode cJ6_numberOfTrailingZeros_0f7a4 73 = .ok (.istore_n 0, 1) := by decide +kernel
theorem dJ6_numberOfTrailingZeros_0f7a4_74 : decode cJ6_numberOfTrailingZeros_0f7a4 74 = .ok (.iload_n 1, 1) := by decide +kernel
theorem dJ6_numberOfTrailingZeros_0f7a4_75 : decode cJ6_numberOfTrailingZeros_0f7a4 75 = .ok (.iload_n 0, 1) := by decide +kernel
theorem dJ6_numberOfTrailingZeros_0f7a4_76 : decode cJ6_numberOfTrailingZeros_0f7a4 76 = .ok (.iconst 1, 1) := by decide +kernel
theorem dJ6_numberOfTrailingZeros_0f7a4_77 : decode cJ6_numberOfTrailingZeros_0f7a4 77 = .ok (.iushr, 1) := by decide +kernel
theorem dJ6_numberOfTrailingZeros_0f7a4_78 : decode cJ6_numberOfTrailingZeros_0f7a4 78 = .ok (.iadd, 1) := by decide +kernel
theorem dJ6_numberOfTrailingZeros_0f7a4_79 : decode cJ6_numberOfTrailingZeros_0f7a4 79 = .ok (.ireturn, 1) := by decide +kernel
theorem dJ6_bitCount_0f7a4_0 : decode cJ6_bitCount_0f7a4 0 = .ok (.iload_n 0, 1) := by decide +kernel
theorem dJ6_bitCount_0f7a4_1 : decode cJ6_bitCount_0f7a4 1 = .ok (.iload_n 0, 1) := by decide +kernel
theorem dJ6_bitCount_0f7a4_2 : decode cJ6_bitCount_0f7a4 2 = .ok (.iconst 1, 1) := by decide +kernel
theorem dJ6_bitCount_0f7a4_3 : decode cJ6_bitCount_0f7a4 3 = .ok (.iushr, 1) := by decide +kernel
theorem dJ6_bitCount_0f7a4_4 : decode cJ6_bitCount_0f7a4 4 = .ok (.ldc_w 265, 3) := by decide +kernel
theorem dJ6_bitCount_0f7a4_7 : decode cJ6_bitCount_0f7a4 7 = .ok (.iand, 1) := by decide +kernel
theorem dJ6_bitCount_0f7a4_8 : decode cJ6_bitCount_0f7a4 8 = .ok (.isub, 1) := by decide +kernel
theorem dJ6_bitCount_0f7a4_9 : decode cJ6_bitCount_0f7a4 9 = .ok (.istore_n 0, 1) := by decide +kernel
theorem dJ6_bitCount_0f7a4_10 : decode cJ6_bitCount_0f7a4 10 = .ok (.iload_n 0, 1) := by decide +kernel
theorem dJ6_bitCount_0f7a4_11 : decode cJ6_bitCount_0f7a4 11 = .ok (.ldc_w 266, 3) := by decide +kernel
theorem dJ6_bitCount_0f7a4_14 : decode cJ6_bitCount_0f7a4 14 = .ok (.iand, 1) := by decide +kernel
theorem dJ6_bitCount_0f7a4_15 : decode cJ6_bitCount_0f7a4 15 = .ok (.iload_n 0, 1) := by decide +kernel
theorem dJ6_bitCount_0f7a4_16 : decode cJ6_bitCount_0f7a4 16 = .ok (.iconst 2, 1) := by decide +kernel
theorem dJ6_bitCount_0f7a4_17 : decode cJ6_bitCount_0f7a4 17 = .ok (.iushr, 1) := by decide +kernel
theorem dJ6_bitCount_0f7a4_18 : decode cJ6_bitCount_0f7a4 18 = .ok (.ldc_w 266, 3) := by decide +kernel
theorem dJ6_bitCount_0f7a4_21 : decode cJ6_bitCount_0f7a4 21 = .ok (.iand, 1) := by decide +kernel
theorem dJ6_bitCount_0f7a4_22 : decode cJ6_bitCount_0f7a4 22 = .ok (.iadd, 1) := by decide +kernel
theorem dJ6_bitCount_0f7a4_23 : decode cJ6_bitCount_0f7a4 23 = .ok (.istore_n 0, 1) := by decide +kernel
theorem dJ6_bitCount_0f7a4_24 : decode cJ6_bitCount_0f7a4 24 = .ok (.iload_n 0, 1) := by decide +kernel
theorem dJ6_bitCount_0f7a4_25 : decode cJ6_bitCount_0f7a4 25 = .ok (.iload_n 0, 1) := by decide +kernel
theorem dJ6_bitCount_0f7a4_26 : decode cJ6_bitCount_0f7a4 26 = .ok (.iconst 4, 1) := by decide +kernel
theorem dJ6_bitCount_0f7a4_27 : decode cJ6_bitCount_0f7a4 27 = .ok (.iushr, 1) := by decide +kernel
theorem dJ6_bitCount_0f7a4_28 : decode cJ6_bitCount_0f7a4 28 = .ok (.iadd, 1) := by decide +kernel
theorem dJ6_bitCount_0f7a4_29 : decode cJ6_bitCount_0f7a4 29 = .ok (.ldc_w 267, 3) := by decide +kernel
theorem dJ6_bitCount_0f7a4_32 : decode cJ6_bitCount_0f7a4 32 = .ok (.iand, 1) := by decide +kernel
theorem dJ6_bitCount_0f7a4_33 : decode cJ6_bitCount_0f7a4 33 = .ok (.istore_n 0, 1) := by decide +kernel
theorem dJ6_bitCount_0f7a4_34 : decode cJ6_bitCount_0f7a4 34 = .ok (.iload_n 0, 1) := by decide +kernel
theorem dJ6_bitCount_0f7a4_35 : decode cJ6_bitCount_0f7a4 35 = .ok (.iload_n 0, 1) := by decide +kernel
theorem dJ6_bitCount_0f7a4_36 : decode cJ6_bitCount_0f7a4 36 = .ok (.bipush 8, 2) := by decide +kernel
theorem dJ6_bitCount_0f7a4_38 : decode cJ6_bitCount_0f7a4 38 = .ok (.iushr, 1) := by decide +kernel
theorem dJ6_bitCount_0f7a4_39 : decode cJ6_bitCount_0f7a4 39 = .ok (.iadd, 1) := by decide +kernel
theorem dJ6_bitCount_0f7a4_40 : decode cJ6_bitCount_0f7a4 40 = .ok (.istore_n 0, 1) := by decide +kernel
theorem dJ6_bitCount_0f7a4_41 : decode cJ6_bitCount_0f7a4 41 = .ok (.iload_n 0, 1) := by decide +kernel
theorem dJ6_bitCount_0f7a4_42 : decode cJ6_bitCount_0f7a4 42 = .ok (.iload_n 0, 1) := by decide +kernel
theorem dJ6_bitCount_0f7a4_43 : decode cJ6_bitCount_0f7a4 43 = .ok (.bipush 16, 2) := by decide +kernel
theorem dJ6_bitCount_0f7a4_45 : decode cJ6_bitCount_0f7a4 45 = .ok (.iushr, 1) := by decide +kernel
theorem dJ6_bitCount_0f7a4_46 : decode cJ6_bitCount_0f7a4 46 = .ok (.iadd, 1) := by decide +kernel
theorem dJ6_bitCount_0f7a4_47 : decode cJ6_bitCount_0f7a4 47 = .ok (.istore_n 0, 1) := by decide +kernel
theorem dJ6_bitCount_0f7a4_48 : decode cJ6_bitCount_0f7a4 48 = .ok (.iload_n 0, 1) := by decide +kernel
theorem dJ6_bitCount_0f7a4_49 : decode cJ6_bitCount_0f7a4 49 = .ok (.bipush 63, 2) := by decide +kernel
theorem dJ6_bitCount_0f7a4_51 : decode cJ6_bitCount_0f7a4 51 = .ok (.iand, 1) := by decide +kernel
theorem dJ6_bitCount_0f7a4_52 : decode cJ6_bitCount_0f7a4 52 = .ok (.ireturn, 1) := by decide +kernel
theorem dJ9_max_7cf53_0 : decode cJ9_max_7cf53 0 = .ok (.iload_n 0, 1) := by decide +kernel
theorem dJ9_max_7cf53_1 : decode cJ9_max_7cf53 1 = .ok (.iload_n 1, 1) := by decide +kernel
theorem dJ9_max_7cf53_2 : decode cJ9_max_7cf53 2 = .ok (.if_icmp .lt 7, 3) := by decide +kernel
theorem dJ9_max_7cf53_5 : decode cJ9_max_7cf53 5 = .ok (.iload_n 0, 1) := by decide +kernel
theorem dJ9_max_7cf53_6 : decode cJ9_max_7cf53 6 = .ok (.goto 4, 3) := by decide +kernel
theorem dJ9_max_7cf53_9 : decode cJ9_max_7cf53 9 = .ok (.iload_n 1, 1) := by decide +kernel
theorem dJ9_max_7cf53_10 : decode cJ9_max_7cf53 10 = .ok (.ireturn, 1) := by decide +kernel
theorem dL_cell_0 : decode cL_cell 0 = .ok (.iload_n 1, 1) := by decide +kernel
theorem dL_cell_1 : decode cL_cell 1 = .ok (.aload_n 0, 1) := by decide +kernel
theorem dL_cell_2 : decode cL_cell 2 = .ok (.arraylength, 1) := by decide +kernel
theorem dL_cell_3 : decode cL_cell 3 = .ok (.if_icmp .ge 9, 3) := by decide +kernel
theorem dL_cell_6 : decode cL_cell 6 = .ok (.aload_n 0, 1) := by decide +kernel
theorem dL_cell_7 : decode cL_cell 7 = .ok (.iload_n 1, 1) := by decide +kernel
theorem dL_cell_8 : decode cL_cell 8 = .ok (.iaload, 1) := by decide +kernel
theorem dL_cell_9 : decode cL_cell 9 = .ok (.goto 4, 3) := by decide +kernel
theorem dL_cell_12 : decode cL_cell 12 = .ok (.iconst 0, 1) := by decide +kernel
theorem dL_cell_13 : decode cL_cell 13 = .ok (.ireturn, 1) := by decide +kernel
theorem dL_product_0 : decode cL_product 0 = .ok (.aload_n 3, 1) := by decide +kernel
theorem dL_product_1 : decode cL_product 1 = .ok (.iconst 0, 1) := by decide +kernel
theorem dL_product_2 : decode cL_product 2 = .ok (.aload_n 0, 1) := by decide +kernel
theorem dL_product_3 : decode cL_product 3 = .ok (.iload_n 1, 1) := by decide +kernel
theorem dL_product_4 : decode cL_product 4 = .ok (.iload_n 2, 1) := by decide +kernel
theorem dL_product_5 : decode cL_product 5 = .ok (.invokevirtual 7, 3) := by decide +kernel
theorem dL_product_8 : decode cL_product 8 = .ok (.i2l, 1) := by decide +kernel
theorem dL_product_9 : decode cL_product 9 = .ok (.lastore, 1) := by decide +kernel
theorem dL_product_10 : decode cL_product 10 = .ok (.goto 7, 3) := by decide +kernel
theorem dL_product_13 : decode cL_product 13 = .ok (.astore 4, 2) := by decide +kernel
theorem dL_product_15 : decode cL_product 15 = .ok (.iconst 1, 1) := by decide +kernel
theorem dL_product_16 : decode cL_product 16 = .ok (.ireturn, 1) := by decide +kernel
theorem dL_product_17 : decode cL_product 17 = .ok (.iconst 0, 1) := by decide +kernel
theorem dL_product_18 : decode cL_product 18 = .ok (.ireturn, 1) := by decide +kernel
theorem dL_quotient_0 : decode cL_quotient 0 = .ok (.aload_n 3, 1) := by decide +kernel
theorem dL_quotient_1 : decode cL_quotient 1 = .ok (.iconst 0, 1) := by decide +kernel
theorem dL_quotient_2 : decode cL_quotient 2 = .ok (.aload_n 0, 1) := by decide +kernel
theorem dL_quotient_3 : decode cL_quotient 3 = .ok (.iload_n 1, 1) := by decide +kernel
theorem dL_quotient_4 : decode cL_quotient 4 = .ok (.iload_n 2, 1) := by decide +kernel
theorem dL_quotient_5 : decode cL_quotient 5 = .ok (.invokevirtual 15, 3) := by decide +kernel
theorem dL_quotient_8 : decode cL_quotient 8 = .ok (.i2l, 1) := by decide +kernel
theorem dL_quotient_9 : decode cL_quotient 9 = .ok (.lastore, 1) := by decide +kernel
theorem dL_quotient_10 : decode cL_quotient 10 = .ok (.goto 11, 3) := by decide +kernel
theorem dL_quotient_13 : decode cL_quotient 13 = .ok (.astore 4, 2) := by decide +kernel
theorem dL_quotient_15 : decode cL_quotient 15 = .ok (.iconst 1, 1) := by decide +kernel
theorem dL_quotient_16 : decode cL_quotient 16 = .ok (.ireturn, 1) := by decide +kernel
theorem dL_quotient_17 : decode cL_quotient 17 = .ok (.astore 4, 2) := by decide +kernel
theorem dL_quotient_19 : decode cL_quotient 19 = .ok (.iconst 2, 1) := by decide +kernel
theorem dL_quotient_20 : decode cL_quotient 20 = .ok (.ireturn, 1) := by decide +kernel
theorem dL_quotient_21 : decode cL_quotient 21 = .ok (.iconst 0, 1) := by decide +kernel
theorem dL_quotient_22 : decode cL_quotient 22 = .ok (.ireturn, 1) := by decide +kernel
theorem dL_power_0 : decode cL_power 0 = .ok (.aload 4, 2) := by decide +kernel
theorem dL_power_2 : decode cL_power 2 = .ok (.iconst 0, 1) := by decide +kernel
theorem dL_power_3 : decode cL_power 3 = .ok (.aload_n 0, 1) := by decide +kernel
theorem dL_power_4 : decode cL_power 4 = .ok (.iload_n 1, 1) := by decide +kernel
theorem dL_power_5 : decode cL_power 5 = .ok (.lload_n 2, 1) := by decide +kernel
theorem dL_power_6 : decode cL_power 6 = .ok (.invokevirtual 20, 3) := by decide +kernel
theorem dL_power_9 : decode cL_power 9 = .ok (.i2l, 1) := by decide +kernel
theorem dL_power_10 : decode cL_power 10 = .ok (.lastore, 1) := by decide +kernel
theorem dL_power_11 : decode cL_power 11 = .ok (.goto 11, 3) := by decide +kernel
theorem dL_power_14 : decode cL_power 14 = .ok (.astore 5, 2) := by decide +kernel
theorem dL_power_16 : decode cL_power 16 = .ok (.iconst 1, 1) := by decide +kernel
theorem dL_power_17 : decode cL_power 17 = .ok (.ireturn, 1) := by decide +kernel
theorem dL_power_18 : decode cL_power 18 = .ok (.astore 5, 2) := by decide +kernel
theorem dL_power_20 : decode cL_power 20 = .ok (.iconst 2, 1) := by decide +kernel
theorem dL_power_21 : decode cL_power 21 = .ok (.ireturn, 1) := by decide +kernel
theorem dL_power_22 : decode cL_power 22 = .ok (.iconst 0, 1) := by decide +kernel
theorem dL_power_23 : decode cL_power 23 = .ok (.ireturn, 1) := by decide +kernel
theorem dL_log_0 : decode cL_log 0 = .ok (.aload_n 2, 1) := by decide +kernel
theorem dL_log_1 : decode cL_log 1 = .ok (.iconst 0, 1) := by decide +kernel
theorem dL_log_2 : decode cL_log 2 = .ok (.aload_n 0, 1) := by decide +kernel
theorem dL_log_3 : decode cL_log 3 = .ok (.iload_n 1, 1) := by decide +kernel
theorem dL_log_4 : decode cL_log 4 = .ok (.invokevirtual 24, 3) := by decide +kernel
theorem dL_log_7 : decode cL_log 7 = .ok (.i2l, 1) := by decide +kernel
theorem dL_log_8 : decode cL_log 8 = .ok (.lastore, 1) := by decide +kernel
theorem dL_log_9 : decode cL_log 9 = .ok (.goto 9, 3) := by decide +kernel
theorem dL_log_12 : decode cL_log 12 = .ok (.astore_n 3, 1) := by decide +kernel
theorem dL_log_13 : decode cL_log 13 = .ok (.iconst 1, 1) := by decide +kernel
theorem dL_log_14 : decode cL_log 14 = .ok (.ireturn, 1) := by decide +kernel
theorem dL_log_15 : decode cL_log 15 = .ok (.astore_n 3, 1) := by decide +kernel
theorem dL_log_16 : decode cL_log 16 = .ok (.iconst 2, 1) := by decide +kernel
theorem dL_log_17 : decode cL_log 17 = .ok (.ireturn, 1) := by decide +kernel
theorem dL_log_18 : decode cL_log 18 = .ok (.iconst 0, 1) := by decide +kernel
theorem dL_log_19 : decode cL_log 19 = .ok (.ireturn, 1) := by decide +kernel
theorem dL_order_0 : decode cL_order 0 = .ok (.aload_n 2, 1) := by decide +kernel
theorem dL_order_1 : decode cL_order 1 = .ok (.iconst 0, 1) := by decide +kernel
theorem dL_order_2 : decode cL_order 2 = .ok (.aload_n 0, 1) := by decide +kernel
theorem dL_order_3 : decode cL_order 3 = .ok (.iload_n 1, 1) := by decide +kernel
theorem dL_order_4 : decode cL_order 4 = .ok (.invokevirtual 30, 3) := by decide +kernel
theorem dL_order_7 : decode cL_order 7 = .ok (.i2l, 1) := by decide +kernel
theorem dL_order_8 : decode cL_order 8 = .ok (.lastore, 1) := by decide +kernel
theorem dL_order_9 : decode cL_order 9 = .ok (.goto 6, 3) := by decide +kernel
theorem dL_order_12 : decode cL_order 12 = .ok (.astore_n 3, 1) := by decide +kernel
theorem dL_order_13 : decode cL_order 13 = .ok (.iconst 1, 1) := by decide +kernel
theorem dL_order_14 : decode cL_order 14 = .ok (.ireturn, 1) := by decide +kernel
theorem dL_order_15 : decode cL_order 15 = .ok (.iconst 0, 1) := by decide +kernel
theorem dL_order_16 : decode cL_order 16 = .ok (.ireturn, 1) := by decide +kernel
theorem dL_put_0 : decode cL_put 0 = .ok (.aload_n 2, 1) := by decide +kernel
theorem dL_put_1 : decode cL_put 1 = .ok (.iconst 0, 1) := by decide +kernel
theorem dL_put_2 : decode cL_put 2 = .ok (.aload_n 0, 1) := by decide +kernel
theorem dL_put_3 : decode cL_put 3 = .ok (.iload_n 1, 1) := by decide +kernel
theorem dL_put_4 : decode cL_put 4 = .ok (.invokevirtual 33, 3) := by decide +kernel
theorem dL_put_7 : decode cL_put 7 = .ok (.i2l, 1) := by decide +kernel
theorem dL_put_8 : decode cL_put 8 = .ok (.lastore, 1) := by decide +kernel
theorem dL_put_9 : decode cL_put 9 = .ok (.goto 9, 3) := by decide +kernel
theorem dL_put_12 : decode cL_put 12 = .ok (.astore_n 3, 1) := by decide +kernel
theorem dL_put_13 : decode cL_put 13 = .ok (.iconst 1, 1) := by decide +kernel
theorem dL_put_14 : decode cL_put 14 = .ok (.ireturn, 1) := by decide +kernel
theorem dL_put_15 : decode cL_put 15 = .ok (.astore_n 3, 1) := by decide +kernel
theorem dL_put_16 : decode cL_put 16 = .ok (.iconst 2, 1) := by decide +kernel
theorem dL_put_17 : decode cL_put 17 = .ok (.ireturn, 1) := by decide +kernel
theorem dL_put_18 : decode cL_put 18 = .ok (.iconst 0, 1) := by decide +kernel
theorem dL_put_19 : decode cL_put 19 = .ok (.ireturn, 1) := by decide +kernel
theorem dL_row_0 : decode cL_row 0 = .ok (.aload_n 2, 1) := by decide +kernel
theorem dL_row_1 : decode cL_row 1 = .ok (.iconst 0, 1) := by decide +kernel
theorem dL_row_2 : decode cL_row 2 = .ok (.aload_n 0, 1) := by decide +kernel
theorem dL_row_3 : decode cL_row 3 = .ok (.iload_n 1, 1) := by decide +kernel
theorem dL_row_4 : decode cL_row 4 = .ok (.invokevirtual 38, 3) := by decide +kernel
theorem dL_row_7 : decode cL_row 7 = .ok (.i2l, 1) := by decide +kernel
theorem dL_row_8 : decode cL_row 8 = .ok (.lastore, 1) := by decide +kernel
theorem dL_row_9 : decode cL_row 9 = .ok (.goto 6, 3) := by decide +kernel
theorem dL_row_12 : decode cL_row 12 = .ok (.astore_n 3, 1) := by decide +kernel
theorem dL_row_13 : decode cL_row 13 = .ok (.iconst 1, 1) := by decide +kernel
theorem dL_row_14 : decode cL_row 14 = .ok (.ireturn, 1) := by decide +kernel
theorem dL_row_15 : decode cL_row 15 = .ok (.iconst 0, 1) := by decide +kernel
theorem dL_row_16 : decode cL_row 16 = .ok (.ireturn, 1) := by decide +kernel
theorem dL_matrix_0 : decode cL_matrix 0 = .ok (.aload_n 3, 1) := by decide +kernel
theorem dL_matrix_1 : decode cL_matrix 1 = .ok (.iconst 0, 1) := by decide +kernel
theorem dL_matrix_2 : decode cL_matrix 2 = .ok (.aload_n 0, 1) := by decide +kernel
theorem dL_matrix_3 : decode cL_matrix 3 = .ok (.iload_n 1, 1) := by decide +kernel
theorem dL_matrix_4 : decode cL_matrix 4 = .ok (.iload_n 2, 1) := by decide +kernel
theorem dL_matrix_5 : decode cL_matrix 5 = .ok (.invokevirtual 43, 3) := by decide +kernel
theorem dL_matrix_8 : decode cL_matrix 8 = .ok (.i2l, 1) := by decide +kernel
theorem dL_matrix_9 : decode cL_matrix 9 = .ok (.lastore, 1) := by decide +kernel
theorem dL_matrix_10 : decode cL_matrix 10 = .ok (.goto 11, 3) := by decide +kernel
theorem dL_matrix_13 : decode cL_matrix 13 = .ok (.astore 4, 2) := by decide +kernel
theorem dL_matrix_15 : decode cL_matrix 15 = .ok (.iconst 1, 1) := by decide +kernel
theorem dL_matrix_16 : decode cL_matrix 16 = .ok (.ireturn, 1) := by decide +kernel
theorem dL_matrix_17 : decode cL_matrix 17 = .ok (.astore 4, 2) := by decide +kernel
theorem dL_matrix_19 : decode cL_matrix 19 = .ok (.iconst 2, 1) := by decide +kernel
theorem dL_matrix_20 : decode cL_matrix 20 = .ok (.ireturn, 1) := by decide +kernel
theorem dL_matrix_21 : decode cL_matrix 21 = .ok (.iconst 0, 1) := by decide +kernel
theorem dL_matrix_22 : decode cL_matrix 22 = .ok (.ireturn, 1) := by decide +kernel
theorem dL_powers_0 : decode cL_powers 0 = .ok (.aload_n 3, 1) := by decide +kernel
theorem dL_powers_1 : decode cL_powers 1 = .ok (.iconst 0, 1) := by decide +kernel
theorem dL_powers_2 : decode cL_powers 2 = .ok (.aload_n 0, 1) := by decide +kernel
theorem dL_powers_3 : decode cL_powers 3 = .ok (.iload_n 1, 1) := by decide +kernel
theorem dL_powers_4 : decode cL_powers 4 = .ok (.iload_n 2, 1) := by decide +kernel
theorem dL_powers_5 : decode cL_powers 5 = .ok (.invokevirtual 46, 3) := by decide +kernel
theorem dL_powers_8 : decode cL_powers 8 = .ok (.i2l, 1) := by decide +kernel
theorem dL_powers_9 : decode cL_powers 9 = .ok (.lastore, 1) := by decide +kernel
theorem dL_powers_10 : decode cL_powers 10 = .ok (.goto 15, 3) := by decide +kernel
theorem dL_powers_13 : decode cL_powers 13 = .ok (.astore 4, 2) := by decide +kernel
theorem dL_powers_15 : decode cL_powers 15 = .ok (.iconst 1, 1) := by decide +kernel
theorem dL_powers_16 : decode cL_powers 16 = .ok (.ireturn, 1) := by decide +kernel
theorem dL_powers_17 : decode cL_powers 17 = .ok (.astore 4, 2) := by decide +kernel
theorem dL_powers_19 : decode cL_powers 19 = .ok (.iconst 2, 1) := by decide +kernel
theorem dL_powers_20 : decode cL_powers 20 = .ok (.ireturn, 1) := by decide +kernel
theorem dL_powers_21 : decode cL_powers 21 = .ok (.astore 4, 2) := by decide +kernel
theorem dL_powers_23 : decode cL_powers 23 = .ok (.iconst 3, 1) := by decide +kernel
theorem dL_powers_24 : decode cL_powers 24 = .ok (.ireturn, 1) := by decide +kernel
theorem dL_powers_25 : decode cL_powers 25 = .ok (.iconst 0, 1) := by decide +kernel
theorem dL_powers_26 : decode cL_powers 26 = .ok (.ireturn, 1) := by decide +kernel
theorem dL_sums_0 : decode cL_sums 0 = .ok (.aload_n 3, 1) := by decide +kernel
theorem dL_sums_1 : decode cL_sums 1 = .ok (.iconst 0, 1) := by decide +kernel
theorem dL_sums_2 : decode cL_sums 2 = .ok (.aload_n 0, 1) := by decide +kernel
theorem dL_sums_3 : decode cL_sums 3 = .ok (.iload_n 1, 1) := by decide +kernel
theorem dL_sums_4 : decode cL_sums 4 = .ok (.iload_n 2, 1) := by decide +kernel
theorem dL_sums_5 : decode cL_sums 5 = .ok (.invokevirtual 51, 3) := by decide +kernel
theorem dL_sums_8 : decode cL_sums 8 = .ok (.i2l, 1) := by decide +kernel
theorem dL_sums_9 : decode cL_sums 9 = .ok (.lastore, 1) := by decide +kernel
theorem dL_sums_10 : decode cL_sums 10 = .ok (.goto 15, 3) := by decide +kernel
theorem dL_sums_13 : decode cL_sums 13 = .ok (.astore 4, 2) := by decide +kernel
theorem dL_sums_15 : decode cL_sums 15 = .ok (.iconst 1, 1) := by decide +kernel
theorem dL_sums_16 : decode cL_sums 16 = .ok (.ireturn, 1) := by decide +kernel
theorem dL_sums_17 : decode cL_sums 17 = .ok (.astore 4, 2) := by decide +kernel
theorem dL_sums_19 : decode cL_sums 19 = .ok (.iconst 2, 1) := by decide +kernel
theorem dL_sums_20 : decode cL_sums 20 = .ok (.ireturn, 1) := by decide +kernel
theorem dL_sums_21 : decode cL_sums 21 = .ok (.astore 4, 2) := by decide +kernel
theorem dL_sums_23 : decode cL_sums 23 = .ok (.iconst 3, 1) := by decide +kernel
theorem dL_sums_24 : decode cL_sums 24 = .ok (.ireturn, 1) := by decide +kernel
theorem dL_sums_25 : decode cL_sums 25 = .ok (.iconst 0, 1) := by decide +kernel
theorem dL_sums_26 : decode cL_sums 26 = .ok (.ireturn, 1) := by decide +kernel
theorem dL_size_0 : decode cL_size 0 = .ok (.aload_n 3, 1) := by decide +kernel
theorem dL_size_1 : decode cL_size 1 = .ok (.iconst 0, 1) := by decide +kernel
theorem dL_size_2 : decode cL_size 2 = .ok (.aload_n 0, 1) := by decide +kernel
theorem dL_size_3 : decode cL_size 3 = .ok (.iload_n 1, 1) := by decide +kernel
theorem dL_size_4 : decode cL_size 4 = .ok (.iload_n 2, 1) := by decide +kernel
theorem dL_size_5 : decode cL_size 5 = .ok (.invokevirtual 54, 3) := by decide +kernel
theorem dL_size_8 : decode cL_size 8 = .ok (.i2l, 1) := by decide +kernel
theorem dL_size_9 : decode cL_size 9 = .ok (.lastore, 1) := by decide +kernel
theorem dL_size_10 : decode cL_size 10 = .ok (.goto 11, 3) := by decide +kernel
theorem dL_size_13 : decode cL_size 13 = .ok (.astore 4, 2) := by decide +kernel
theorem dL_size_15 : decode cL_size 15 = .ok (.iconst 1, 1) := by decide +kernel
theorem dL_size_16 : decode cL_size 16 = .ok (.ireturn, 1) := by decide +kernel
theorem dL_size_17 : decode cL_size 17 = .ok (.astore 4, 2) := by decide +kernel
theorem dL_size_19 : decode cL_size 19 = .ok (.iconst 2, 1) := by decide +kernel
theorem dL_size_20 : decode cL_size 20 = .ok (.ireturn, 1) := by decide +kernel
theorem dL_size_21 : decode cL_size 21 = .ok (.iconst 0, 1) := by decide +kernel
theorem dL_size_22 : decode cL_size 22 = .ok (.ireturn, 1) := by decide +kernel
theorem dL_cell__0 : decode cL_cell_ 0 = .ok (.aload 4, 2) := by decide +kernel
theorem dL_cell__2 : decode cL_cell_ 2 = .ok (.iconst 0, 1) := by decide +kernel
theorem dL_cell__3 : decode cL_cell_ 3 = .ok (.aload_n 0, 1) := by decide +kernel
theorem dL_cell__4 : decode cL_cell_ 4 = .ok (.iload_n 1, 1) := by decide +kernel
theorem dL_cell__5 : decode cL_cell_ 5 = .ok (.iload_n 2, 1) := by decide +kernel
theorem dL_cell__6 : decode cL_cell_ 6 = .ok (.iload_n 3, 1) := by decide +kernel
theorem dL_cell__7 : decode cL_cell_ 7 = .ok (.invokevirtual 57, 3) := by decide +kernel
theorem dL_cell__10 : decode cL_cell_ 10 = .ok (.i2l, 1) := by decide +kernel
theorem dL_cell__11 : decode cL_cell_ 11 = .ok (.lastore, 1) := by decide +kernel
theorem dL_cell__12 : decode cL_cell_ 12 = .ok (.goto 7, 3) := by decide +kernel
theorem dL_cell__15 : decode cL_cell_ 15 = .ok (.astore 5, 2) := by decide +kernel
theorem dL_cell__17 : decode cL_cell_ 17 = .ok (.iconst 1, 1) := by decide +kernel
theorem dL_cell__18 : decode cL_cell_ 18 = .ok (.ireturn, 1) := by decide +kernel
theorem dL_cell__19 : decode cL_cell_ 19 = .ok (.iconst 0, 1) := by decide +kernel
theorem dL_cell__20 : decode cL_cell_ 20 = .ok (.ireturn, 1) := by decide +kernel
theorem dL_set_0 : decode cL_set 0 = .ok (.aload 5, 2) := by decide +kernel
theorem dL_set_2 : decode cL_set 2 = .ok (.iconst 0, 1) := by decide +kernel
theorem dL_set_3 : decode cL_set 3 = .ok (.aload_n 0, 1) := by decide +kernel
theorem dL_set_4 : decode cL_set 4 = .ok (.iload_n 1, 1) := by decide +kernel
theorem dL_set_5 : decode cL_set 5 = .ok (.iload_n 2, 1) := by decide +kernel
theorem dL_set_6 : decode cL_set 6 = .ok (.iload_n 3, 1) := by decide +kernel
theorem dL_set_7 : decode cL_set 7 = .ok (.iload 4, 2) := by decide +kernel
theorem dL_set_9 : decode cL_set 9 = .ok (.invokevirtual 61, 3) := by decide +kernel
theorem dL_set_12 : decode cL_set 12 = .ok (.i2l, 1) := by decide +kernel
theorem dL_set_13 : decode cL_set 13 = .ok (.lastore, 1) := by decide +kernel
theorem dL_set_14 : decode cL_set 14 = .ok (.goto 11, 3) := by decide +kernel
theorem dL_set_17 : decode cL_set 17 = .ok (.astore 6, 2) := by decide +kernel
theorem dL_set_19 : decode cL_set 19 = .ok (.iconst 1, 1) := by decide +kernel
theorem dL_set_20 : decode cL_set 20 = .ok (.ireturn, 1) := by decide +kernel
theorem dL_set_21 : decode cL_set 21 = .ok (.astore 6, 2) := by decide +kernel
theorem dL_set_23 : decode cL_set 23 = .ok (.iconst 2, 1) := by decide +kernel
theorem dL_set_24 : decode cL_set 24 = .ok (.ireturn, 1) := by decide +kernel
theorem dL_set_25 : decode cL_set 25 = .ok (.iconst 0, 1) := by decide +kernel
theorem dL_set_26 : decode cL_set 26 = .ok (.ireturn, 1) := by decide +kernel
theorem dL_times_0 : decode cL_times 0 = .ok (.aload_n 3, 1) := by decide +kernel
theorem dL_times_1 : decode cL_times 1 = .ok (.iconst 0, 1) := by decide +kernel
theorem dL_times_2 : decode cL_times 2 = .ok (.aload_n 0, 1) := by decide +kernel
theorem dL_times_3 : decode cL_times 3 = .ok (.iload_n 1, 1) := by decide +kernel
theorem dL_times_4 : decode cL_times 4 = .ok (.iload_n 2, 1) := by decide +kernel
theorem dL_times_5 : decode cL_times 5 = .ok (.invokevirtual 65, 3) := by decide +kernel
theorem dL_times_8 : decode cL_times 8 = .ok (.i2l, 1) := by decide +kernel
theorem dL_times_9 : decode cL_times 9 = .ok (.lastore, 1) := by decide +kernel
theorem dL_times_10 : decode cL_times 10 = .ok (.goto 15, 3) := by decide +kernel
theorem dL_times_13 : decode cL_times 13 = .ok (.astore 4, 2) := by decide +kernel
theorem dL_times_15 : decode cL_times 15 = .ok (.iconst 1, 1) := by decide +kernel
theorem dL_times_16 : decode cL_times 16 = .ok (.ireturn, 1) := by decide +kernel
theorem dL_times_17 : decode cL_times 17 = .ok (.astore 4, 2) := by decide +kernel
theorem dL_times_19 : decode cL_times 19 = .ok (.iconst 2, 1) := by decide +kernel
theorem dL_times_20 : decode cL_times 20 = .ok (.ireturn, 1) := by decide +kernel
theorem dL_times_21 : decode cL_times 21 = .ok (.astore 4, 2) := by decide +kernel
theorem dL_times_23 : decode cL_times 23 = .ok (.iconst 3, 1) := by decide +kernel
theorem dL_times_24 : decode cL_times 24 = .ok (.ireturn, 1) := by decide +kernel
theorem dL_times_25 : decode cL_times 25 = .ok (.iconst 0, 1) := by decide +kernel
theorem dL_times_26 : decode cL_times 26 = .ok (.ireturn, 1) := by decide +kernel
theorem dL_invert_0 : decode cL_invert 0 = .ok (.aload_n 2, 1) := by decide +kernel
theorem dL_invert_1 : decode cL_invert 1 = .ok (.iconst 0, 1) := by decide +kernel
theorem dL_invert_2 : decode cL_invert 2 = .ok (.aload_n 0, 1) := by decide +kernel
theorem dL_invert_3 : decode cL_invert 3 = .ok (.iload_n 1, 1) := by decide +kernel
theorem dL_invert_4 : decode cL_invert 4 = .ok (.invokevirtual 68, 3) := by decide +kernel
theorem dL_invert_7 : decode cL_invert 7 = .ok (.i2l, 1) := by decide +kernel
theorem dL_invert_8 : decode cL_invert 8 = .ok (.lastore, 1) := by decide +kernel
theorem dL_invert_9 : decode cL_invert 9 = .ok (.goto 12, 3) := by decide +kernel
theorem dL_invert_12 : decode cL_invert 12 = .ok (.astore_n 3, 1) := by decide +kernel
theorem dL_invert_13 : decode cL_invert 13 = .ok (.iconst 1, 1) := by decide +kernel
theorem dL_invert_14 : decode cL_invert 14 = .ok (.ireturn, 1) := by decide +kernel
theorem dL_invert_15 : decode cL_invert 15 = .ok (.astore_n 3, 1) := by decide +kernel
theorem dL_invert_16 : decode cL_invert 16 = .ok (.iconst 2, 1) := by decide +kernel
theorem dL_invert_17 : decode cL_invert 17 = .ok (.ireturn, 1) := by decide +kernel
theorem dL_invert_18 : decode cL_invert 18 = .ok (.astore_n 3, 1) := by decide +kernel
theorem dL_invert_19 : decode cL_invert 19 = .ok (.iconst 3, 1) := by decide +kernel
theorem dL_invert_20 : decode cL_invert 20 = .ok (.ireturn, 1) := by decide +kernel
theorem dL_invert_21 : decode cL_invert 21 = .ok (.iconst 0, 1) := by decide +kernel
theorem dL_invert_22 : decode cL_invert 22 = .ok (.ireturn, 1) := by decide +kernel
theorem dL_rank_0 : decode cL_rank 0 = .ok (.aload_n 2, 1) := by decide +kernel
theorem dL_rank_1 : decode cL_rank 1 = .ok (.iconst 0, 1) := by decide +kernel
theorem dL_rank_2 : decode cL_rank 2 = .ok (.aload_n 0, 1) := by decide +kernel
theorem dL_rank_3 : decode cL_rank 3 = .ok (.iload_n 1, 1) := by decide +kernel
theorem dL_rank_4 : decode cL_rank 4 = .ok (.invokevirtual 71, 3) := by decide +kernel
theorem dL_rank_7 : decode cL_rank 7 = .ok (.i2l, 1) := by decide +kernel
theorem dL_rank_8 : decode cL_rank 8 = .ok (.lastore, 1) := by decide +kernel
theorem dL_rank_9 : decode cL_rank 9 = .ok (.goto 6, 3) := by decide +kernel
theorem dL_rank_12 : decode cL_rank 12 = .ok (.astore_n 3, 1) := by decide +kernel
theorem dL_rank_13 : decode cL_rank 13 = .ok (.iconst 1, 1) := by decide +kernel
theorem dL_rank_14 : decode cL_rank 14 = .ok (.ireturn, 1) := by decide +kernel
theorem dL_rank_15 : decode cL_rank 15 = .ok (.iconst 0, 1) := by decide +kernel
theorem dL_rank_16 : decode cL_rank 16 = .ok (.ireturn, 1) := by decide +kernel
theorem dL_determinant_0 : decode cL_determinant 0 = .ok (.aload_n 2, 1) := by decide +kernel
theorem dL_determinant_1 : decode cL_determinant 1 = .ok (.iconst 0, 1) := by decide +kernel
theorem dL_determinant_2 : decode cL_determinant 2 = .ok (.aload_n 0, 1) := by decide +kernel
theorem dL_determinant_3 : decode cL_determinant 3 = .ok (.iload_n 1, 1) := by decide +kernel
theorem dL_determinant_4 : decode cL_determinant 4 = .ok (.invokevirtual 74, 3) := by decide +kernel
theorem dL_determinant_7 : decode cL_determinant 7 = .ok (.i2l, 1) := by decide +kernel
theorem dL_determinant_8 : decode cL_determinant 8 = .ok (.lastore, 1) := by decide +kernel
theorem dL_determinant_9 : decode cL_determinant 9 = .ok (.goto 9, 3) := by decide +kernel
theorem dL_determinant_12 : decode cL_determinant 12 = .ok (.astore_n 3, 1) := by decide +kernel
theorem dL_determinant_13 : decode cL_determinant 13 = .ok (.iconst 1, 1) := by decide +kernel
theorem dL_determinant_14 : decode cL_determinant 14 = .ok (.ireturn, 1) := by decide +kernel
theorem dL_determinant_15 : decode cL_determinant 15 = .ok (.astore_n 3, 1) := by decide +kernel
theorem dL_determinant_16 : decode cL_determinant 16 = .ok (.iconst 2, 1) := by decide +kernel
theorem dL_determinant_17 : decode cL_determinant 17 = .ok (.ireturn, 1) := by decide +kernel
theorem dL_determinant_18 : decode cL_determinant 18 = .ok (.iconst 0, 1) := by decide +kernel
theorem dL_determinant_19 : decode cL_determinant 19 = .ok (.ireturn, 1) := by decide +kernel
theorem dL_singular_0 : decode cL_singular 0 = .ok (.aload_n 2, 1) := by decide +kernel
theorem dL_singular_1 : decode cL_singular 1 = .ok (.iconst 0, 1) := by decide +kernel
theorem dL_singular_2 : decode cL_singular 2 = .ok (.aload_n 0, 1) := by decide +kernel
theorem dL_singular_3 : decode cL_singular 3 = .ok (.iload_n 1, 1) := by decide +kernel
theorem dL_singular_4 : decode cL_singular 4 = .ok (.invokevirtual 77, 3) := by decide +kernel
theorem dL_singular_7 : decode cL_singular 7 = .ok (.i2l, 1) := by decide +kernel
theorem dL_singular_8 : decode cL_singular 8 = .ok (.lastore, 1) := by decide +kernel
theorem dL_singular_9 : decode cL_singular 9 = .ok (.goto 6, 3) := by decide +kernel
theorem dL_singular_12 : decode cL_singular 12 = .ok (.astore_n 3, 1) := by decide +kernel
theorem dL_singular_13 : decode cL_singular 13 = .ok (.iconst 1, 1) := by decide +kernel
theorem dL_singular_14 : decode cL_singular 14 = .ok (.ireturn, 1) := by decide +kernel
theorem dL_singular_15 : decode cL_singular 15 = .ok (.iconst 0, 1) := by decide +kernel
theorem dL_singular_16 : decode cL_singular 16 = .ok (.ireturn, 1) := by decide +kernel
theorem dL_solve_0 : decode cL_solve 0 = .ok (.aload_n 2, 1) := by decide +kernel
theorem dL_solve_1 : decode cL_solve 1 = .ok (.iconst 0, 1) := by decide +kernel
theorem dL_solve_2 : decode cL_solve 2 = .ok (.aload_n 0, 1) := by decide +kernel
theorem dL_solve_3 : decode cL_solve 3 = .ok (.iload_n 1, 1) := by decide +kernel
theorem dL_solve_4 : decode cL_solve 4 = .ok (.invokevirtual 80, 3) := by decide +kernel
theorem dL_solve_7 : decode cL_solve 7 = .ok (.i2l, 1) := by decide +kernel
theorem dL_solve_8 : decode cL_solve 8 = .ok (.lastore, 1) := by decide +kernel
theorem dL_solve_9 : decode cL_solve 9 = .ok (.goto 9, 3) := by decide +kernel
theorem dL_solve_12 : decode cL_solve 12 = .ok (.astore_n 3, 1) := by decide +kernel
theorem dL_solve_13 : decode cL_solve 13 = .ok (.iconst 1, 1) := by decide +kernel
theorem dL_solve_14 : decode cL_solve 14 = .ok (.ireturn, 1) := by decide +kernel
theorem dL_solve_15 : decode cL_solve 15 = .ok (.astore_n 3, 1) := by decide +kernel
theorem dL_solve_16 : decode cL_solve 16 = .ok (.iconst 2, 1) := by decide +kernel
theorem dL_solve_17 : decode cL_solve 17 = .ok (.ireturn, 1) := by decide +kernel
theorem dL_solve_18 : decode cL_solve 18 = .ok (.iconst 0, 1) := by decide +kernel
theorem dL_solve_19 : decode cL_solve 19 = .ok (.ireturn, 1) := by decide +kernel
theorem dL_polynomial_0 : decode cL_polynomial 0 = .ok (.aload_n 1, 1) := by decide +kernel
theorem dL_polynomial_1 : decode cL_polynomial 1 = .ok (.iconst 0, 1) := by decide +kernel
theorem dL_polynomial_2 : decode cL_polynomial 2 = .ok (.aload_n 0, 1) := by decide +kernel
theorem dL_polynomial_3 : decode cL_polynomial 3 = .ok (.invokevirtual 83, 3) := by decide +kernel
theorem dL_polynomial_6 : decode cL_polynomial 6 = .ok (.i2l, 1) := by decide +kernel
theorem dL_polynomial_7 : decode cL_polynomial 7 = .ok (.lastore, 1) := by decide +kernel
theorem dL_polynomial_8 : decode cL_polynomial 8 = .ok (.goto 6, 3) := by decide +kernel
theorem dL_polynomial_11 : decode cL_polynomial 11 = .ok (.astore_n 2, 1) := by decide +kernel
theorem dL_polynomial_12 : decode cL_polynomial 12 = .ok (.iconst 1, 1) := by decide +kernel
theorem dL_polynomial_13 : decode cL_polynomial 13 = .ok (.ireturn, 1) := by decide +kernel
theorem dL_polynomial_14 : decode cL_polynomial 14 = .ok (.iconst 0, 1) := by decide +kernel
theorem dL_polynomial_15 : decode cL_polynomial 15 = .ok (.ireturn, 1) := by decide +kernel
theorem dL_through_0 : decode cL_through 0 = .ok (.aload_n 1, 1) := by decide +kernel
theorem dL_through_1 : decode cL_through 1 = .ok (.iconst 0, 1) := by decide +kernel
theorem dL_through_2 : decode cL_through 2 = .ok (.aload_n 0, 1) := by decide +kernel
theorem dL_through_3 : decode cL_through 3 = .ok (.invokevirtual 87, 3) := by decide +kernel
theorem dL_through_6 : decode cL_through 6 = .ok (.i2l, 1) := by decide +kernel
theorem dL_through_7 : decode cL_through 7 = .ok (.lastore, 1) := by decide +kernel
theorem dL_through_8 : decode cL_through 8 = .ok (.goto 9, 3) := by decide +kernel
theorem dL_through_11 : decode cL_through 11 = .ok (.astore_n 2, 1) := by decide +kernel
theorem dL_through_12 : decode cL_through 12 = .ok (.iconst 1, 1) := by decide +kernel
theorem dL_through_13 : decode cL_through 13 = .ok (.ireturn, 1) := by decide +kernel
theorem dL_through_14 : decode cL_through 14 = .ok (.astore_n 2, 1) := by decide +kernel
theorem dL_through_15 : decode cL_through 15 = .ok (.iconst 2, 1) := by decide +kernel
theorem dL_through_16 : decode cL_through 16 = .ok (.ireturn, 1) := by decide +kernel
theorem dL_through_17 : decode cL_through 17 = .ok (.iconst 0, 1) := by decide +kernel
theorem dL_through_18 : decode cL_through 18 = .ok (.ireturn, 1) := by decide +kernel
theorem dL_degree_0 : decode cL_degree 0 = .ok (.aload_n 2, 1) := by decide +kernel
theorem dL_degree_1 : decode cL_degree 1 = .ok (.iconst 0, 1) := by decide +kernel
theorem dL_degree_2 : decode cL_degree 2 = .ok (.aload_n 0, 1) := by decide +kernel
theorem dL_degree_3 : decode cL_degree 3 = .ok (.iload_n 1, 1) := by decide +kernel
theorem dL_degree_4 : decode cL_degree 4 = .ok (.invokevirtual 90, 3) := by decide +kernel
theorem dL_degree_7 : decode cL_degree 7 = .ok (.i2l, 1) := by decide +kernel
theorem dL_degree_8 : decode cL_degree 8 = .ok (.lastore, 1) := by decide +kernel
theorem dL_degree_9 : decode cL_degree 9 = .ok (.goto 6, 3) := by decide +kernel
theorem dL_degree_12 : decode cL_degree 12 = .ok (.astore_n 3, 1) := by decide +kernel
theorem dL_degree_13 : decode cL_degree 13 = .ok (.iconst 1, 1) := by decide +kernel
theorem dL_degree_14 : decode cL_degree 14 = .ok (.ireturn, 1) := by decide +kernel
theorem dL_degree_15 : decode cL_degree 15 = .ok (.iconst 0, 1) := by decide +kernel
theorem dL_degree_16 : decode cL_degree 16 = .ok (.ireturn, 1) := by decide +kernel
theorem dL_coefficient_0 : decode cL_coefficient 0 = .ok (.aload_n 3, 1) := by decide +kernel
theorem dL_coefficient_1 : decode cL_coefficient 1 = .ok (.iconst 0, 1) := by decide +kernel
theorem dL_coefficient_2 : decode cL_coefficient 2 = .ok (.aload_n 0, 1) := by decide +kernel
theorem dL_coefficient_3 : decode cL_coefficient 3 = .ok (.iload_n 1, 1) := by decide +kernel
theorem dL_coefficient_4 : decode cL_coefficient 4 = .ok (.iload_n 2, 1) := by decide +kernel
theorem dL_coefficient_5 : decode cL_coefficient 5 = .ok (.invokevirtual 93, 3) := by decide +kernel
theorem dL_coefficient_8 : decode cL_coefficient 8 = .ok (.i2l, 1) := by decide +kernel
theorem dL_coefficient_9 : decode cL_coefficient 9 = .ok (.lastore, 1) := by decide +kernel
theorem dL_coefficient_10 : decode cL_coefficient 10 = .ok (.goto 7, 3) := by decide +kernel
theorem dL_coefficient_13 : decode cL_coefficient 13 = .ok (.astore 4, 2) := by decide +kernel
theorem dL_coefficient_15 : decode cL_coefficient 15 = .ok (.iconst 1, 1) := by decide +kernel
theorem dL_coefficient_16 : decode cL_coefficient 16 = .ok (.ireturn, 1) := by decide +kernel
theorem dL_coefficient_17 : decode cL_coefficient 17 = .ok (.iconst 0, 1) := by decide +kernel
theorem dL_coefficient_18 : decode cL_coefficient 18 = .ok (.ireturn, 1) := by decide +kernel
theorem dL_value_0 : decode cL_value 0 = .ok (.aload_n 3, 1) := by decide +kernel
theorem dL_value_1 : decode cL_value 1 = .ok (.iconst 0, 1) := by decide +kernel
theorem dL_value_2 : decode cL_value 2 = .ok (.aload_n 0, 1) := by decide +kernel
theorem dL_value_3 : decode cL_value 3 = .ok (.iload_n 1, 1) := by decide +kernel
theorem dL_value_4 : decode cL_value 4 = .ok (.iload_n 2, 1) := by decide +kernel
theorem dL_value_5 : decode cL_value 5 = .ok (.invokevirtual 96, 3) := by decide +kernel
theorem dL_value_8 : decode cL_value 8 = .ok (.i2l, 1) := by decide +kernel
theorem dL_value_9 : decode cL_value 9 = .ok (.lastore, 1) := by decide +kernel
theorem dL_value_10 : decode cL_value 10 = .ok (.goto 11, 3) := by decide +kernel
theorem dL_value_13 : decode cL_value 13 = .ok (.astore 4, 2) := by decide +kernel
theorem dL_value_15 : decode cL_value 15 = .ok (.iconst 1, 1) := by decide +kernel
theorem dL_value_16 : decode cL_value 16 = .ok (.ireturn, 1) := by decide +kernel
theorem dL_value_17 : decode cL_value 17 = .ok (.astore 4, 2) := by decide +kernel
theorem dL_value_19 : decode cL_value 19 = .ok (.iconst 2, 1) := by decide +kernel
theorem dL_value_20 : decode cL_value 20 = .ok (.ireturn, 1) := by decide +kernel
theorem dL_value_21 : decode cL_value 21 = .ok (.iconst 0, 1) := by decide +kernel
theorem dL_value_22 : decode cL_value 22 = .ok (.ireturn, 1) := by decide +kernel
theorem dL_plus_0 : decode cL_plus 0 = .ok (.aload_n 3, 1) := by decide +kernel
theorem dL_plus_1 : decode cL_plus 1 = .ok (.iconst 0, 1) := by decide +kernel
theorem dL_plus_2 : decode cL_plus 2 = .ok (.aload_n 0, 1) := by decide +kernel
theorem dL_plus_3 : decode cL_plus 3 = .ok (.iload_n 1, 1) := by decide +kernel
theorem dL_plus_4 : decode cL_plus 4 = .ok (.iload_n 2, 1) := by decide +kernel
theorem dL_plus_5 : decode cL_plus 5 = .ok (.invokevirtual 99, 3) := by decide +kernel
theorem dL_plus_8 : decode cL_plus 8 = .ok (.i2l, 1) := by decide +kernel
theorem dL_plus_9 : decode cL_plus 9 = .ok (.lastore, 1) := by decide +kernel
theorem dL_plus_10 : decode cL_plus 10 = .ok (.goto 11, 3) := by decide +kernel
theorem dL_plus_13 : decode cL_plus 13 = .ok (.astore 4, 2) := by decide +kernel
theorem dL_plus_15 : decode cL_plus 15 = .ok (.iconst 1, 1) := by decide +kernel
theorem dL_plus_16 : decode cL_plus 16 = .ok (.ireturn, 1) := by decide +kernel
theorem dL_plus_17 : decode cL_plus 17 = .ok (.astore 4, 2) := by decide +kernel
theorem dL_plus_19 : decode cL_plus 19 = .ok (.iconst 2, 1) := by decide +kernel
theorem dL_plus_20 : decode cL_plus 20 = .ok (.ireturn, 1) := by decide +kernel
theorem dL_plus_21 : decode cL_plus 21 = .ok (.iconst 0, 1) := by decide +kernel
theorem dL_plus_22 : decode cL_plus 22 = .ok (.ireturn, 1) := by decide +kernel
theorem dL_multiply_0 : decode cL_multiply 0 = .ok (.aload_n 3, 1) := by decide +kernel
theorem dL_multiply_1 : decode cL_multiply 1 = .ok (.iconst 0, 1) := by decide +kernel
theorem dL_multiply_2 : decode cL_multiply 2 = .ok (.aload_n 0, 1) := by decide +kernel
theorem dL_multiply_3 : decode cL_multiply 3 = .ok (.iload_n 1, 1) := by decide +kernel
theorem dL_multiply_4 : decode cL_multiply 4 = .ok (.iload_n 2, 1) := by decide +kernel
theorem dL_multiply_5 : decode cL_multiply 5 = .ok (.invokevirtual 102, 3) := by decide +kernel
theorem dL_multiply_8 : decode cL_multiply 8 = .ok (.i2l, 1) := by decide +kernel
theorem dL_multiply_9 : decode cL_multiply 9 = .ok (.lastore, 1) := by decide +kernel
theorem dL_multiply_10 : decode cL_multiply 10 = .ok (.goto 11, 3) := by decide +kernel
theorem dL_multiply_13 : decode cL_multiply 13 = .ok (.astore 4, 2) := by decide +kernel
theorem dL_multiply_15 : decode cL_multiply 15 = .ok (.iconst 1, 1) := by decide +kernel
theorem dL_multiply_16 : decode cL_multiply 16 = .ok (.ireturn, 1) := by decide +kernel
theorem dL_multiply_17 : decode cL_multiply 17 = .ok (.astore 4, 2) := by decide +kernel
theorem dL_multiply_19 : decode cL_multiply 19 = .ok (.iconst 2, 1) := by decide +kernel
theorem dL_multiply_20 : decode cL_multiply 20 = .ok (.ireturn, 1) := by decide +kernel
theorem dL_multiply_21 : decode cL_multiply 21 = .ok (.iconst 0, 1) := by decide +kernel
theorem dL_multiply_22 : decode cL_multiply 22 = .ok (.ireturn, 1) := by decide +kernel
theorem dL_divide_0 : decode cL_divide 0 = .ok (.aload 4, 2) := by decide +kernel
theorem dL_divide_2 : decode cL_divide 2 = .ok (.iconst 0, 1) := by decide +kernel
theorem dL_divide_3 : decode cL_divide 3 = .ok (.aload_n 0, 1) := by decide +kernel
theorem dL_divide_4 : decode cL_divide 4 = .ok (.iload_n 1, 1) := by decide +kernel
theorem dL_divide_5 : decode cL_divide 5 = .ok (.iload_n 2, 1) := by decide +kernel
theorem dL_divide_6 : decode cL_divide 6 = .ok (.iload_n 3, 1) := by decide +kernel
theorem dL_divide_7 : decode cL_divide 7 = .ok (.invokevirtual 105, 3) := by decide +kernel
theorem dL_divide_10 : decode cL_divide 10 = .ok (.i2l, 1) := by decide +kernel
theorem dL_divide_11 : decode cL_divide 11 = .ok (.lastore, 1) := by decide +kernel
theorem dL_divide_12 : decode cL_divide 12 = .ok (.goto 15, 3) := by decide +kernel
theorem dL_divide_15 : decode cL_divide 15 = .ok (.astore 5, 2) := by decide +kernel
theorem dL_divide_17 : decode cL_divide 17 = .ok (.iconst 1, 1) := by decide +kernel
theorem dL_divide_18 : decode cL_divide 18 = .ok (.ireturn, 1) := by decide +kernel
theorem dL_divide_19 : decode cL_divide 19 = .ok (.astore 5, 2) := by decide +kernel
theorem dL_divide_21 : decode cL_divide 21 = .ok (.iconst 2, 1) := by decide +kernel
theorem dL_divide_22 : decode cL_divide 22 = .ok (.ireturn, 1) := by decide +kernel
theorem dL_divide_23 : decode cL_divide 23 = .ok (.astore 5, 2) := by decide +kernel
theorem dL_divide_25 : decode cL_divide 25 = .ok (.iconst 3, 1) := by decide +kernel
theorem dL_divide_26 : decode cL_divide 26 = .ok (.ireturn, 1) := by decide +kernel
theorem dL_divide_27 : decode cL_divide 27 = .ok (.iconst 0, 1) := by decide +kernel
theorem dL_divide_28 : decode cL_divide 28 = .ok (.ireturn, 1) := by decide +kernel
theorem dL_common_0 : decode cL_common 0 = .ok (.aload_n 3, 1) := by decide +kernel
theorem dL_common_1 : decode cL_common 1 = .ok (.iconst 0, 1) := by decide +kernel
theorem dL_common_2 : decode cL_common 2 = .ok (.aload_n 0, 1) := by decide +kernel
theorem dL_common_3 : decode cL_common 3 = .ok (.iload_n 1, 1) := by decide +kernel
theorem dL_common_4 : decode cL_common 4 = .ok (.iload_n 2, 1) := by decide +kernel
theorem dL_common_5 : decode cL_common 5 = .ok (.invokevirtual 109, 3) := by decide +kernel
theorem dL_common_8 : decode cL_common 8 = .ok (.i2l, 1) := by decide +kernel
theorem dL_common_9 : decode cL_common 9 = .ok (.lastore, 1) := by decide +kernel
theorem dL_common_10 : decode cL_common 10 = .ok (.goto 11, 3) := by decide +kernel
theorem dL_common_13 : decode cL_common 13 = .ok (.astore 4, 2) := by decide +kernel
theorem dL_common_15 : decode cL_common 15 = .ok (.iconst 1, 1) := by decide +kernel
theorem dL_common_16 : decode cL_common 16 = .ok (.ireturn, 1) := by decide +kernel
theorem dL_common_17 : decode cL_common 17 = .ok (.astore 4, 2) := by decide +kernel
theorem dL_common_19 : decode cL_common 19 = .ok (.iconst 2, 1) := by decide +kernel
theorem dL_common_20 : decode cL_common 20 = .ok (.ireturn, 1) := by decide +kernel
theorem dL_common_21 : decode cL_common 21 = .ok (.iconst 0, 1) := by decide +kernel
theorem dL_common_22 : decode cL_common 22 = .ok (.ireturn, 1) := by decide +kernel
theorem dL_root_0 : decode cL_root 0 = .ok (.aload_n 3, 1) := by decide +kernel
theorem dL_root_1 : decode cL_root 1 = .ok (.iconst 0, 1) := by decide +kernel
theorem dL_root_2 : decode cL_root 2 = .ok (.aload_n 0, 1) := by decide +kernel
theorem dL_root_3 : decode cL_root 3 = .ok (.iload_n 1, 1) := by decide +kernel
theorem dL_root_4 : decode cL_root 4 = .ok (.iload_n 2, 1) := by decide +kernel
theorem dL_root_5 : decode cL_root 5 = .ok (.invokevirtual 112, 3) := by decide +kernel
theorem dL_root_8 : decode cL_root 8 = .ok (.i2l, 1) := by decide +kernel
theorem dL_root_9 : decode cL_root 9 = .ok (.lastore, 1) := by decide +kernel
theorem dL_root_10 : decode cL_root 10 = .ok (.goto 7, 3) := by decide +kernel
theorem dL_root_13 : decode cL_root 13 = .ok (.astore 4, 2) := by decide +kernel
theorem dL_root_15 : decode cL_root 15 = .ok (.iconst 1, 1) := by decide +kernel
theorem dL_root_16 : decode cL_root 16 = .ok (.ireturn, 1) := by decide +kernel
theorem dL_root_17 : decode cL_root 17 = .ok (.iconst 0, 1) := by decide +kernel
theorem dL_root_18 : decode cL_root 18 = .ok (.ireturn, 1) := by decide +kernel
theorem dL_often_0 : decode cL_often 0 = .ok (.aload_n 3, 1) := by decide +kernel
theorem dL_often_1 : decode cL_often 1 = .ok (.iconst 0, 1) := by decide +kernel
theorem dL_often_2 : decode cL_often 2 = .ok (.aload_n 0, 1) := by decide +kernel
theorem dL_often_3 : decode cL_often 3 = .ok (.iload_n 1, 1) := by decide +kernel
theorem dL_often_4 : decode cL_often 4 = .ok (.iload_n 2, 1) := by decide +kernel
theorem dL_often_5 : decode cL_often 5 = .ok (.invokevirtual 115, 3) := by decide +kernel
theorem dL_often_8 : decode cL_often 8 = .ok (.i2l, 1) := by decide +kernel
theorem dL_often_9 : decode cL_often 9 = .ok (.lastore, 1) := by decide +kernel
theorem dL_often_10 : decode cL_often 10 = .ok (.goto 11, 3) := by decide +kernel
theorem dL_often_13 : decode cL_often 13 = .ok (.astore 4, 2) := by decide +kernel
theorem dL_often_15 : decode cL_often 15 = .ok (.iconst 1, 1) := by decide +kernel
theorem dL_often_16 : decode cL_often 16 = .ok (.ireturn, 1) := by decide +kernel
theorem dL_often_17 : decode cL_often 17 = .ok (.astore 4, 2) := by decide +kernel
theorem dL_often_19 : decode cL_often 19 = .ok (.iconst 2, 1) := by decide +kernel
theorem dL_often_20 : decode cL_often 20 = .ok (.ireturn, 1) := by decide +kernel
theorem dL_often_21 : decode cL_often 21 = .ok (.iconst 0, 1) := by decide +kernel
theorem dL_often_22 : decode cL_often 22 = .ok (.ireturn, 1) := by decide +kernel
theorem dL_parts_0 : decode cL_parts 0 = .ok (.aload_n 3, 1) := by decide +kernel
theorem dL_parts_1 : decode cL_parts 1 = .ok (.iconst 0, 1) := by decide +kernel
theorem dL_parts_2 : decode cL_parts 2 = .ok (.aload_n 0, 1) := by decide +kernel
theorem dL_parts_3 : decode cL_parts 3 = .ok (.iload_n 1, 1) := by decide +kernel
theorem dL_parts_4 : decode cL_parts 4 = .ok (.iload_n 2, 1) := by decide +kernel
theorem dL_parts_5 : decode cL_parts 5 = .ok (.invokevirtual 118, 3) := by decide +kernel
theorem dL_parts_8 : decode cL_parts 8 = .ok (.i2l, 1) := by decide +kernel
theorem dL_parts_9 : decode cL_parts 9 = .ok (.lastore, 1) := by decide +kernel
theorem dL_parts_10 : decode cL_parts 10 = .ok (.goto 11, 3) := by decide +kernel
theorem dL_parts_13 : decode cL_parts 13 = .ok (.astore 4, 2) := by decide +kernel
theorem dL_parts_15 : decode cL_parts 15 = .ok (.iconst 1, 1) := by decide +kernel
theorem dL_parts_16 : decode cL_parts 16 = .ok (.ireturn, 1) := by decide +kernel
theorem dL_parts_17 : decode cL_parts 17 = .ok (.astore 4, 2) := by decide +kernel
theorem dL_parts_19 : decode cL_parts 19 = .ok (.iconst 2, 1) := by decide +kernel
theorem dL_parts_20 : decode cL_parts 20 = .ok (.ireturn, 1) := by decide +kernel
theorem dL_parts_21 : decode cL_parts 21 = .ok (.iconst 0, 1) := by decide +kernel
theorem dL_parts_22 : decode cL_parts 22 = .ok (.ireturn, 1) := by decide +kernel
theorem dL_span_0 : decode cL_span 0 = .ok (.aload_n 1, 1) := by decide +kernel
theorem dL_span_1 : decode cL_span 1 = .ok (.iconst 0, 1) := by decide +kernel
theorem dL_span_2 : decode cL_span 2 = .ok (.aload_n 0, 1) := by decide +kernel
theorem dL_span_3 : decode cL_span 3 = .ok (.invokevirtual 121, 3) := by decide +kernel
theorem dL_span_6 : decode cL_span 6 = .ok (.i2l, 1) := by decide +kernel
theorem dL_span_7 : decode cL_span 7 = .ok (.lastore, 1) := by decide +kernel
theorem dL_span_8 : decode cL_span 8 = .ok (.goto 6, 3) := by decide +kernel
theorem dL_span_11 : decode cL_span 11 = .ok (.astore_n 2, 1) := by decide +kernel
theorem dL_span_12 : decode cL_span 12 = .ok (.iconst 1, 1) := by decide +kernel
theorem dL_span_13 : decode cL_span 13 = .ok (.ireturn, 1) := by decide +kernel
theorem dL_span_14 : decode cL_span 14 = .ok (.iconst 0, 1) := by decide +kernel
theorem dL_span_15 : decode cL_span 15 = .ok (.ireturn, 1) := by decide +kernel
theorem dL_forth_0 : decode cL_forth 0 = .ok (.aload_n 2, 1) := by decide +kernel
theorem dL_forth_1 : decode cL_forth 1 = .ok (.iconst 0, 1) := by decide +kernel
theorem dL_forth_2 : decode cL_forth 2 = .ok (.aload_n 0, 1) := by decide +kernel
theorem dL_forth_3 : decode cL_forth 3 = .ok (.iload_n 1, 1) := by decide +kernel
theorem dL_forth_4 : decode cL_forth 4 = .ok (.invokevirtual 124, 3) := by decide +kernel
theorem dL_forth_7 : decode cL_forth 7 = .ok (.i2l, 1) := by decide +kernel
theorem dL_forth_8 : decode cL_forth 8 = .ok (.lastore, 1) := by decide +kernel
theorem dL_forth_9 : decode cL_forth 9 = .ok (.goto 9, 3) := by decide +kernel
theorem dL_forth_12 : decode cL_forth 12 = .ok (.astore_n 3, 1) := by decide +kernel
theorem dL_forth_13 : decode cL_forth 13 = .ok (.iconst 1, 1) := by decide +kernel
theorem dL_forth_14 : decode cL_forth 14 = .ok (.ireturn, 1) := by decide +kernel
theorem dL_forth_15 : decode cL_forth 15 = .ok (.astore_n 3, 1) := by decide +kernel
theorem dL_forth_16 : decode cL_forth 16 = .ok (.iconst 2, 1) := by decide +kernel
theorem dL_forth_17 : decode cL_forth 17 = .ok (.ireturn, 1) := by decide +kernel
theorem dL_forth_18 : decode cL_forth 18 = .ok (.iconst 0, 1) := by decide +kernel
theorem dL_forth_19 : decode cL_forth 19 = .ok (.ireturn, 1) := by decide +kernel
theorem dL_back_0 : decode cL_back 0 = .ok (.aload_n 1, 1) := by decide +kernel
theorem dL_back_1 : decode cL_back 1 = .ok (.iconst 0, 1) := by decide +kernel
theorem dL_back_2 : decode cL_back 2 = .ok (.aload_n 0, 1) := by decide +kernel
theorem dL_back_3 : decode cL_back 3 = .ok (.invokevirtual 127, 3) := by decide +kernel
theorem dL_back_6 : decode cL_back 6 = .ok (.i2l, 1) := by decide +kernel
theorem dL_back_7 : decode cL_back 7 = .ok (.lastore, 1) := by decide +kernel
theorem dL_back_8 : decode cL_back 8 = .ok (.goto 9, 3) := by decide +kernel
theorem dL_back_11 : decode cL_back 11 = .ok (.astore_n 2, 1) := by decide +kernel
theorem dL_back_12 : decode cL_back 12 = .ok (.iconst 1, 1) := by decide +kernel
theorem dL_back_13 : decode cL_back 13 = .ok (.ireturn, 1) := by decide +kernel
theorem dL_back_14 : decode cL_back 14 = .ok (.astore_n 2, 1) := by decide +kernel
theorem dL_back_15 : decode cL_back 15 = .ok (.iconst 2, 1) := by decide +kernel
theorem dL_back_16 : decode cL_back 16 = .ok (.ireturn, 1) := by decide +kernel
theorem dL_back_17 : decode cL_back 17 = .ok (.iconst 0, 1) := by decide +kernel
theorem dL_back_18 : decode cL_back 18 = .ok (.ireturn, 1) := by decide +kernel
theorem dL_told_0 : decode cL_told 0 = .ok (.aload_n 2, 1) := by decide +kernel
theorem dL_told_1 : decode cL_told 1 = .ok (.iconst 0, 1) := by decide +kernel
theorem dL_told_2 : decode cL_told 2 = .ok (.aload_n 0, 1) := by decide +kernel
theorem dL_told_3 : decode cL_told 3 = .ok (.iload_n 1, 1) := by decide +kernel
theorem dL_told_4 : decode cL_told 4 = .ok (.invokevirtual 130, 3) := by decide +kernel
theorem dL_told_7 : decode cL_told 7 = .ok (.i2l, 1) := by decide +kernel
theorem dL_told_8 : decode cL_told 8 = .ok (.lastore, 1) := by decide +kernel
theorem dL_told_9 : decode cL_told 9 = .ok (.goto 6, 3) := by decide +kernel
theorem dL_told_12 : decode cL_told 12 = .ok (.astore_n 3, 1) := by decide +kernel
theorem dL_told_13 : decode cL_told 13 = .ok (.iconst 1, 1) := by decide +kernel
theorem dL_told_14 : decode cL_told 14 = .ok (.ireturn, 1) := by decide +kernel
theorem dL_told_15 : decode cL_told 15 = .ok (.iconst 0, 1) := by decide +kernel
theorem dL_told_16 : decode cL_told 16 = .ok (.ireturn, 1) := by decide +kernel
theorem dL_law_0 : decode cL_law 0 = .ok (.new 8, 3) := by decide +kernel
theorem dL_law_3 : decode cL_law 3 = .ok (.dup, 1) := by decide +kernel
theorem dL_law_4 : decode cL_law 4 = .ok (.aload_n 0, 1) := by decide +kernel
theorem dL_law_5 : decode cL_law 5 = .ok (.iconst 0, 1) := by decide +kernel
theorem dL_law_6 : decode cL_law 6 = .ok (.invokestatic 133, 3) := by decide +kernel
theorem dL_law_9 : decode cL_law 9 = .ok (.aload_n 0, 1) := by decide +kernel
theorem dL_law_10 : decode cL_law 10 = .ok (.iconst 1, 1) := by decide +kernel
theorem dL_law_11 : decode cL_law 11 = .ok (.invokestatic 133, 3) := by decide +kernel
theorem dL_law_14 : decode cL_law 14 = .ok (.invokespecial 138, 3) := by decide +kernel
theorem dL_law_17 : decode cL_law 17 = .ok (.astore_n 1, 1) := by decide +kernel
theorem dL_law_18 : decode cL_law 18 = .ok (.new 141, 3) := by decide +kernel
theorem dL_law_21 : decode cL_law 21 = .ok (.dup, 1) := by decide +kernel
theorem dL_law_22 : decode cL_law 22 = .ok (.aload_n 0, 1) := by decide +kernel
theorem dL_law_23 : decode cL_law 23 = .ok (.iconst 0, 1) := by decide +kernel
theorem dL_law_24 : decode cL_law 24 = .ok (.invokestatic 133, 3) := by decide +kernel
theorem dL_law_27 : decode cL_law 27 = .ok (.aload_n 0, 1) := by decide +kernel
theorem dL_law_28 : decode cL_law 28 = .ok (.iconst 1, 1) := by decide +kernel
theorem dL_law_29 : decode cL_law 29 = .ok (.invokestatic 133, 3) := by decide +kernel
theorem dL_law_32 : decode cL_law 32 = .ok (.invokespecial 143, 3) := by decide +kernel
theorem dL_law_35 : decode cL_law 35 = .ok (.astore_n 2, 1) := by decide +kernel
theorem dL_law_36 : decode cL_law 36 = .ok (.iconst 1, 1) := by decide +kernel
theorem dL_law_37 : decode cL_law 37 = .ok (.newarray .long, 2) := by decide +kernel
theorem dL_law_39 : decode cL_law 39 = .ok (.astore_n 3, 1) := by decide +kernel
theorem dL_law_40 : decode cL_law 40 = .ok (.iconst 2, 1) := by decide +kernel
theorem dL_law_41 : decode cL_law 41 = .ok (.istore 4, 2) := by decide +kernel
theorem dL_law_43 : decode cL_law 43 = .ok (.iload 4, 2) := by decide +kernel
theorem dL_law_45 : decode cL_law 45 = .ok (.aload_n 0, 1) := by decide +kernel
theorem dL_law_46 : decode cL_law 46 = .ok (.arraylength, 1) := by decide +kernel
theorem dL_law_47 : decode cL_law 47 = .ok (.iconst 5, 1) := by decide +kernel
theorem dL_law_48 : decode cL_law 48 = .ok (.isub, 1) := by decide +kernel
theorem dL_law_49 : decode cL_law 49 = .ok (.if_icmp .gt 2456, 3) := by decide +kernel
theorem dL_law_52 : decode cL_law 52 = .ok (.aload_n 0, 1) := by decide +kernel
theorem dL_law_53 : decode cL_law 53 = .ok (.iload 4, 2) := by decide +kernel
theorem dL_law_55 : decode cL_law 55 = .ok (.iaload, 1) := by decide +kernel
theorem dL_law_56 : decode cL_law 56 = .ok (.bipush 63, 2) := by decide +kernel
theorem dL_law_58 : decode cL_law 58 = .ok (.iand, 1) := by decide +kernel
theorem dL_law_59 : decode cL_law 59 = .ok (.tableswitch 2440 0 37 #[165, 178, 191, 259, 327, 427, 483, 539, 595, 651, 664, 732, 800, 868, 936, 1016, 1108, 1176, 1232, 1288, 1344, 1400, 1456, 1500, 1544, 1600, 1668, 1736, 1804, 1872, 1968, 2036, 2104, 2172, 2240, 2284, 2340, 2384], 165) := by decide +kernel
theorem dL_law_224 : decode cL_law 224 = .ok (.aload_n 1, 1) := by decide +kernel
theorem dL_law_225 : decode cL_law 225 = .ok (.invokevirtual 144, 3) := by decide +kernel
theorem dL_law_228 : decode cL_law 228 = .ok (.aload_n 2, 1) := by decide +kernel
theorem dL_law_229 : decode cL_law 229 = .ok (.invokevirtual 147, 3) := by decide +kernel
theorem dL_law_232 : decode cL_law 232 = .ok (.if_icmp .eq 2267, 3) := by decide +kernel
theorem dL_law_235 : decode cL_law 235 = .ok (.iconst 0, 1) := by decide +kernel
theorem dL_law_236 : decode cL_law 236 = .ok (.ireturn, 1) := by decide +kernel
theorem dL_law_237 : decode cL_law 237 = .ok (.aload_n 1, 1) := by decide +kernel
theorem dL_law_238 : decode cL_law 238 = .ok (.invokevirtual 148, 3) := by decide +kernel
theorem dL_law_241 : decode cL_law 241 = .ok (.aload_n 2, 1) := by decide +kernel
theorem dL_law_242 : decode cL_law 242 = .ok (.invokevirtual 151, 3) := by decide +kernel
theorem dL_law_245 : decode cL_law 245 = .ok (.if_icmp .eq 2254, 3) := by decide +kernel
theorem dL_law_248 : decode cL_law 248 = .ok (.iconst 0, 1) := by decide +kernel
theorem dL_law_249 : decode cL_law 249 = .ok (.ireturn, 1) := by decide +kernel
theorem dL_law_250 : decode cL_law 250 = .ok (.aload_n 1, 1) := by decide +kernel
theorem dL_law_251 : decode cL_law 251 = .ok (.aload_n 0, 1) := by decide +kernel
theorem dL_law_252 : decode cL_law 252 = .ok (.iload 4, 2) := by decide +kernel
theorem dL_law_254 : decode cL_law 254 = .ok (.iconst 1, 1) := by decide +kernel
theorem dL_law_255 : decode cL_law 255 = .ok (.iadd, 1) := by decide +kernel
theorem dL_law_256 : decode cL_law 256 = .ok (.iaload, 1) := by decide +kernel
theorem dL_law_257 : decode cL_law 257 = .ok (.aload_n 0, 1) := by decide +kernel
theorem dL_law_258 : decode cL_law 258 = .ok (.iload 4, 2) := by decide +kernel
theorem dL_law_260 : decode cL_law 260 = .ok (.iconst 2, 1) := by decide +kernel
theorem dL_law_261 : decode cL_law 261 = .ok (.iadd, 1) := by decide +kernel
theorem dL_law_262 : decode cL_law 262 = .ok (.iaload, 1) := by decide +kernel
theorem dL_law_263 : decode cL_law 263 = .ok (.aload_n 3, 1) := by decide +kernel
theorem dL_law_264 : decode cL_law 264 = .ok (.invokestatic 152, 3) := by decide +kernel
theorem dL_law_267 : decode cL_law 267 = .ok (.istore 5, 2) := by decide +kernel
theorem dL_law_269 : decode cL_law 269 = .ok (.aload_n 2, 1) := by decide +kernel
theorem dL_law_270 : decode cL_law 270 = .ok (.aload_n 0, 1) := by decide +kernel
theorem dL_law_271 : decode cL_law 271 = .ok (.iload 4, 2) := by decide +kernel
theorem dL_law_273 : decode cL_law 273 = .ok (.iconst 1, 1) := by decide +kernel
theorem dL_law_274 : decode cL_law 274 = .ok (.iadd, 1) := by decide +kernel
theorem dL_law_275 : decode cL_law 275 = .ok (.iaload, 1) := by decide +kernel
theorem dL_law_276 : decode cL_law 276 = .ok (.aload_n 0, 1) := by decide +kernel
theorem dL_law_277 : decode cL_law 277 = .ok (.iload 4, 2) := by decide +kernel
theorem dL_law_279 : decode cL_law 279 = .ok (.iconst 2, 1) := by decide +kernel
theorem dL_law_280 : decode cL_law 280 = .ok (.iadd, 1) := by decide +kernel
theorem dL_law_281 : decode cL_law 281 = .ok (.iaload, 1) := by decide +kernel
theorem dL_law_282 : decode cL_law 282 = .ok (.invokevirtual 155, 3) := by decide +kernel
theorem dL_law_285 : decode cL_law 285 = .ok (.istore 6, 2) := by decide +kernel
theorem dL_law_287 : decode cL_law 287 = .ok (.aload_n 2, 1) := by decide +kernel
theorem dL_law_288 : decode cL_law 288 = .ok (.invokevirtual 156, 3) := by decide +kernel
theorem dL_law_291 : decode cL_law 291 = .ok (.iload 5, 2) := by decide +kernel
theorem dL_law_293 : decode cL_law 293 = .ok (.if_icmp .eq 5, 3) := by decide +kernel
theorem dL_law_296 : decode cL_law 296 = .ok (.iconst 0, 1) := by decide +kernel
theorem dL_law_297 : decode cL_law 297 = .ok (.ireturn, 1) := by decide +kernel
theorem dL_law_298 : decode cL_law 298 = .ok (.iload 5, 2) := by decide +kernel
theorem dL_law_300 : decode cL_law 300 = .ok (.ifCond .ne 15, 3) := by decide +kernel
theorem dL_law_303 : decode cL_law 303 = .ok (.aload_n 3, 1) := by decide +kernel
theorem dL_law_304 : decode cL_law 304 = .ok (.iconst 0, 1) := by decide +kernel
theorem dL_law_305 : decode cL_law 305 = .ok (.laload, 1) := by decide +kernel
theorem dL_law_306 : decode cL_law 306 = .ok (.iload 6, 2) := by decide +kernel
theorem dL_law_308 : decode cL_law 308 = .ok (.i2l, 1) := by decide +kernel
theorem dL_law_309 : decode cL_law 309 = .ok (.lcmp, 1) := by decide +kernel
theorem dL_law_310 : decode cL_law 310 = .ok (.ifCond .eq 5, 3) := by decide +kernel
theorem dL_law_313 : decode cL_law 313 = .ok (.iconst 0, 1) := by decide +kernel
theorem dL_law_314 : decode cL_law 314 = .ok (.ireturn, 1) := by decide +kernel
theorem dL_law_315 : decode cL_law 315 = .ok (.goto 2184, 3) := by decide +kernel
theorem dL_law_318 : decode cL_law 318 = .ok (.aload_n 1, 1) := by decide +kernel
theorem dL_law_319 : decode cL_law 319 = .ok (.aload_n 0, 1) := by decide +kernel
theorem dL_law_320 : decode cL_law 320 = .ok (.iload 4, 2) := by decide +kernel
theorem dL_law_322 : decode cL_law 322 = .ok (.iconst 1, 1) := by decide +kernel
theorem dL_law_323 : decode cL_law 323 = .ok (.iadd, 1) := by decide +kernel
theorem dL_law_324 : decode cL_law 324 = .ok (.iaload, 1) := by decide +kernel
theorem dL_law_325 : decode cL_law 325 = .ok (.aload_n 0, 1) := by decide +kernel
theorem dL_law_326 : decode cL_law 326 = .ok (.iload 4, 2) := by decide +kernel
theorem dL_law_328 : decode cL_law 328 = .ok (.iconst 2, 1) := by decide +kernel
theorem dL_law_329 : decode cL_law 329 = .ok (.iadd, 1) := by decide +kernel
theorem dL_law_330 : decode cL_law 330 = .ok (.iaload, 1) := by decide +kernel
theorem dL_law_331 : decode cL_law 331 = .ok (.aload_n 3, 1) := by decide +kernel
theorem dL_law_332 : decode cL_law 332 = .ok (.invokestatic 159, 3) := by decide +kernel
theorem dL_law_335 : decode cL_law 335 = .ok (.istore 5, 2) := by decide +kernel
theorem dL_law_337 : decode cL_law 337 = .ok (.aload_n 2, 1) := by decide +kernel
theorem dL_law_338 : decode cL_law 338 = .ok (.aload_n 0, 1) := by decide +kernel
theorem dL_law_339 : decode cL_law 339 = .ok (.iload 4, 2) := by decide +kernel
theorem dL_law_341 : decode cL_law 341 = .ok (.iconst 1, 1) := by decide +kernel
theorem dL_law_342 : decode cL_law 342 = .ok (.iadd, 1) := by decide +kernel
theorem dL_law_343 : decode cL_law 343 = .ok (.iaload, 1) := by decide +kernel
theorem dL_law_344 : decode cL_law 344 = .ok (.aload_n 0, 1) := by decide +kernel
theorem dL_law_345 : decode cL_law 345 = .ok (.iload 4, 2) := by decide +kernel
theorem dL_law_347 : decode cL_law 347 = .ok (.iconst 2, 1) := by decide +kernel
theorem dL_law_348 : decode cL_law 348 = .ok (.iadd, 1) := by decide +kernel
theorem dL_law_349 : decode cL_law 349 = .ok (.iaload, 1) := by decide +kernel
theorem dL_law_350 : decode cL_law 350 = .ok (.invokevirtual 161, 3) := by decide +kernel
theorem dL_law_353 : decode cL_law 353 = .ok (.istore 6, 2) := by decide +kernel
theorem dL_law_355 : decode cL_law 355 = .ok (.aload_n 2, 1) := by decide +kernel
theorem dL_law_356 : decode cL_law 356 = .ok (.invokevirtual 156, 3) := by decide +kernel
theorem dL_law_359 : decode cL_law 359 = .ok (.iload 5, 2) := by decide +kernel
theorem dL_law_361 : decode cL_law 361 = .ok (.if_icmp .eq 5, 3) := by decide +kernel
theorem dL_law_364 : decode cL_law 364 = .ok (.iconst 0, 1) := by decide +kernel
theorem dL_law_365 : decode cL_law 365 = .ok (.ireturn, 1) := by decide +kernel
theorem dL_law_366 : decode cL_law 366 = .ok (.iload 5, 2) := by decide +kernel
theorem dL_law_368 : decode cL_law 368 = .ok (.ifCond .ne 15, 3) := by decide +kernel
theorem dL_law_371 : decode cL_law 371 = .ok (.aload_n 3, 1) := by decide +kernel
theorem dL_law_372 : decode cL_law 372 = .ok (.iconst 0, 1) := by decide +kernel
theorem dL_law_373 : decode cL_law 373 = .ok (.laload, 1) := by decide +kernel
theorem dL_law_374 : decode cL_law 374 = .ok (.iload 6, 2) := by decide +kernel
theorem dL_law_376 : decode cL_law 376 = .ok (.i2l, 1) := by decide +kernel
theorem dL_law_377 : decode cL_law 377 = .ok (.lcmp, 1) := by decide +kernel
theorem dL_law_378 : decode cL_law 378 = .ok (.ifCond .eq 5, 3) := by decide +kernel
theorem dL_law_381 : decode cL_law 381 = .ok (.iconst 0, 1) := by decide +kernel
theorem dL_law_382 : decode cL_law 382 = .ok (.ireturn, 1) := by decide +kernel
theorem dL_law_383 : decode cL_law 383 = .ok (.goto 2116, 3) := by decide +kernel
theorem dL_law_386 : decode cL_law 386 = .ok (.aload_n 1, 1) := by decide +kernel
theorem dL_law_387 : decode cL_law 387 = .ok (.aload_n 0, 1) := by decide +kernel
theorem dL_law_388 : decode cL_law 388 = .ok (.iload 4, 2) := by decide +kernel
theorem dL_law_390 : decode cL_law 390 = .ok (.iconst 1, 1) := by decide +kernel
theorem dL_law_391 : decode cL_law 391 = .ok (.iadd, 1) := by decide +kernel
theorem dL_law_392 : decode cL_law 392 = .ok (.iaload, 1) := by decide +kernel
theorem dL_law_393 : decode cL_law 393 = .ok (.aload_n 0, 1) := by decide +kernel
theorem dL_law_394 : decode cL_law 394 = .ok (.iload 4, 2) := by decide +kernel
theorem dL_law_396 : decode cL_law 396 = .ok (.iconst 2, 1) := by decide +kernel
theorem dL_law_397 : decode cL_law 397 = .ok (.iadd, 1) := by decide +kernel
theorem dL_law_398 : decode cL_law 398 = .ok (.iaload, 1) := by decide +kernel
theorem dL_law_399 : decode cL_law 399 = .ok (.i2l, 1) := by decide +kernel
theorem dL_law_400 : decode cL_law 400 = .ok (.bipush 32, 2) := by decide +kernel
theorem dL_law_402 : decode cL_law 402 = .ok (.lshl, 1) := by decide +kernel
theorem dL_law_403 : decode cL_law 403 = .ok (.aload_n 0, 1) := by decide +kernel
theorem dL_law_404 : decode cL_law 404 = .ok (.iload 4, 2) := by decide +kernel
theorem dL_law_406 : decode cL_law 406 = .ok (.iconst 3, 1) := by decide +kernel
theorem dL_law_407 : decode cL_law 407 = .ok (.iadd, 1) := by decide +kernel
theorem dL_law_408 : decode cL_law 408 = .ok (.iaload, 1) := by decide +kernel
theorem dL_law_409 : decode cL_law 409 = .ok (.i2l, 1) := by decide +kernel
theorem dL_law_410 : decode cL_law 410 = .ok (.ldc2_w 162, 3) := by decide +kernel
theorem dL_law_413 : decode cL_law 413 = .ok (.land, 1) := by decide +kernel
theorem dL_law_414 : decode cL_law 414 = .ok (.lor, 1) := by decide +kernel
theorem dL_law_415 : decode cL_law 415 = .ok (.aload_n 3, 1) := by decide +kernel
theorem dL_law_416 : decode cL_law 416 = .ok (.invokestatic 164, 3) := by decide +kernel
theorem dL_law_419 : decode cL_law 419 = .ok (.istore 5, 2) := by decide +kernel
theorem dL_law_421 : decode cL_law 421 = .ok (.aload_n 2, 1) := by decide +kernel
theorem dL_law_422 : decode cL_law 422 = .ok (.aload_n 0, 1) := by decide +kernel
theorem dL_law_423 : decode cL_law 423 = .ok (.iload 4, 2) := by decide +kernel
theorem dL_law_425 : decode cL_law 425 = .ok (.iconst 1, 1) := by decide +kernel
theorem dL_law_426 : decode cL_law 426 = .ok (.iadd, 1) := by decide +kernel
theorem dL_law_427 : decode cL_law 427 = .ok (.iaload, 1) := by decide +kernel
theorem dL_law_428 : decode cL_law 428 = .ok (.aload_n 0, 1) := by decide +kernel
theorem dL_law_429 : decode cL_law 429 = .ok (.iload 4, 2) := by decide +kernel
theorem dL_law_431 : decode cL_law 431 = .ok (.iconst 2, 1) := by decide +kernel
theorem dL_law_432 : decode cL_law 432 = .ok (.iadd, 1) := by decide +kernel
theorem dL_law_433 : decode cL_law 433 = .ok (.iaload, 1) := by decide +kernel
theorem dL_law_434 : decode cL_law 434 = .ok (.i2l, 1) := by decide +kernel
theorem dL_law_435 : decode cL_law 435 = .ok (.bipush 32, 2) := by decide +kernel
theorem dL_law_437 : decode cL_law 437 = .ok (.lshl, 1) := by decide +kernel
theorem dL_law_438 : decode cL_law 438 = .ok (.aload_n 0, 1) := by decide +kernel
theorem dL_law_439 : decode cL_law 439 = .ok (.iload 4, 2) := by decide +kernel
theorem dL_law_441 : decode cL_law 441 = .ok (.iconst 3, 1) := by decide +kernel
theorem dL_law_442 : decode cL_law 442 = .ok (.iadd, 1) := by decide +kernel
theorem dL_law_443 : decode cL_law 443 = .ok (.iaload, 1) := by decide +kernel
theorem dL_law_444 : decode cL_law 444 = .ok (.i2l, 1) := by decide +kernel
theorem dL_law_445 : decode cL_law 445 = .ok (.ldc2_w 162, 3) := by decide +kernel
theorem dL_law_448 : decode cL_law 448 = .ok (.land, 1) := by decide +kernel
theorem dL_law_449 : decode cL_law 449 = .ok (.lor, 1) := by decide +kernel
theorem dL_law_450 : decode cL_law 450 = .ok (.invokevirtual 167, 3) := by decide +kernel
theorem dL_law_453 : decode cL_law 453 = .ok (.istore 6, 2) := by decide +kernel
theorem dL_law_455 : decode cL_law 455 = .ok (.aload_n 2, 1) := by decide +kernel
theorem dL_law_456 : decode cL_law 456 = .ok (.invokevirtual 156, 3) := by decide +kernel
theorem dL_law_459 : decode cL_law 459 = .ok (.iload 5, 2) := by decide +kernel
theorem dL_law_461 : decode cL_law 461 = .ok (.if_icmp .eq 5, 3) := by decide +kernel
theorem dL_law_464 : decode cL_law 464 = .ok (.iconst 0, 1) := by decide +kernel
theorem dL_law_465 : decode cL_law 465 = .ok (.ireturn, 1) := by decide +kernel
theorem dL_law_466 : decode cL_law 466 = .ok (.iload 5, 2) := by decide +kernel
theorem dL_law_468 : decode cL_law 468 = .ok (.ifCond .ne 15, 3) := by decide +kernel
theorem dL_law_471 : decode cL_law 471 = .ok (.aload_n 3, 1) := by decide +kernel
theorem dL_law_472 : decode cL_law 472 = .ok (.iconst 0, 1) := by decide +kernel
theorem dL_law_473 : decode cL_law 473 = .ok (.laload, 1) := by decide +kernel
theorem dL_law_474 : decode cL_law 474 = .ok (.iload 6, 2) := by decide +kernel
theorem dL_law_476 : decode cL_law 476 = .ok (.i2l, 1) := by decide +kernel
theorem dL_law_477 : decode cL_law 477 = .ok (.lcmp, 1) := by decide +kernel
theorem dL_law_478 : decode cL_law 478 = .ok (.ifCond .eq 5, 3) := by decide +kernel
theorem dL_law_481 : decode cL_law 481 = .ok (.iconst 0, 1) := by decide +kernel
theorem dL_law_482 : decode cL_law 482 = .ok (.ireturn, 1) := by decide +kernel
theorem dL_law_483 : decode cL_law 483 = .ok (.goto 2016, 3) := by decide +kernel
theorem dL_law_486 : decode cL_law 486 = .ok (.aload_n 1, 1) := by decide +kernel
theorem dL_law_487 : decode cL_law 487 = .ok (.aload_n 0, 1) := by decide +kernel
theorem dL_law_488 : decode cL_law 488 = .ok (.iload 4, 2) := by decide +kernel
theorem dL_law_490 : decode cL_law 490 = .ok (.iconst 1, 1) := by decide +kernel
theorem dL_law_491 : decode cL_law 491 = .ok (.iadd, 1) := by decide +kernel
theorem dL_law_492 : decode cL_law 492 = .ok (.iaload, 1) := by decide +kernel
theorem dL_law_493 : decode cL_law 493 = .ok (.aload_n 3, 1) := by decide +kernel
theorem dL_law_494 : decode cL_law 494 = .ok (.invokestatic 168, 3) := by decide +kernel
theorem dL_law_497 : decode cL_law 497 = .ok (.istore 5, 2) := by decide +kernel
theorem dL_law_499 : decode cL_law 499 = .ok (.aload_n 2, 1) := by decide +kernel
theorem dL_law_500 : decode cL_law 500 = .ok (.aload_n 0, 1) := by decide +kernel
theorem dL_law_501 : decode cL_law 501 = .ok (.iload 4, 2) := by decide +kernel
theorem dL_law_503 : decode cL_law 503 = .ok (.iconst 1, 1) := by decide +kernel
theorem dL_law_504 : decode cL_law 504 = .ok (.iadd, 1) := by decide +kernel
theorem dL_law_505 : decode cL_law 505 = .ok (.iaload, 1) := by decide +kernel
theorem dL_law_506 : decode cL_law 506 = .ok (.invokevirtual 171, 3) := by decide +kernel
theorem dL_law_509 : decode cL_law 509 = .ok (.istore 6, 2) := by decide +kernel
theorem dL_law_511 : decode cL_law 511 = .ok (.aload_n 2, 1) := by decide +kernel
theorem dL_law_512 : decode cL_law 512 = .ok (.invokevirtual 156, 3) := by decide +kernel
theorem dL_law_515 : decode cL_law 515 = .ok (.iload 5, 2) := by decide +kernel
theorem dL_law_517 : decode cL_law 517 = .ok (.if_icmp .eq 5, 3) := by decide +kernel
theorem dL_law_520 : decode cL_law 520 = .ok (.iconst 0, 1) := by decide +kernel
theorem dL_law_521 : decode cL_law 521 = .ok (.ireturn, 1) := by decide +kernel
theorem dL_law_522 : decode cL_law 522 = .ok (.iload 5, 2) := by decide +kernel
theorem dL_law_524 : decode cL_law 524 = .ok (.ifCond .ne 15, 3) := by decide +kernel
theorem dL_law_527 : decode cL_law 527 = .ok (.aload_n 3, 1) := by decide +kernel
theorem dL_law_528 : decode cL_law 528 = .ok (.iconst 0, 1) := by decide +kernel
theorem dL_law_529 : decode cL_law 529 = .ok (.laload, 1) := by decide +kernel
theorem dL_law_530 : decode cL_law 530 = .ok (.iload 6, 2) := by decide +kernel
theorem dL_law_532 : decode cL_law 532 = .ok (.i2l, 1) := by decide +kernel
theorem dL_law_533 : decode cL_law 533 = .ok (.lcmp, 1) := by decide +kernel
theorem dL_law_534 : decode cL_law 534 = .ok (.ifCond .eq 5, 3) := by decide +kernel
theorem dL_law_537 : decode cL_law 537 = .ok (.iconst 0, 1) := by decide +kernel
theorem dL_law_538 : decode cL_law 538 = .ok (.ireturn, 1) := by decide +kernel
theorem dL_law_539 : decode cL_law 539 = .ok (.goto 1960, 3) := by decide +kernel
theorem dL_law_542 : decode cL_law 542 = .ok (.aload_n 1, 1) := by decide +kernel
theorem dL_law_543 : decode cL_law 543 = .ok (.aload_n 0, 1) := by decide +kernel
theorem dL_law_544 : decode cL_law 544 = .ok (.iload 4, 2) := by decide +kernel
theorem dL_law_546 : decode cL_law 546 = .ok (.iconst 1, 1) := by decide +kernel
theorem dL_law_547 : decode cL_law 547 = .ok (.iadd, 1) := by decide +kernel
theorem dL_law_548 : decode cL_law 548 = .ok (.iaload, 1) := by decide +kernel
theorem dL_law_549 : decode cL_law 549 = .ok (.aload_n 3, 1) := by decide +kernel
theorem dL_law_550 : decode cL_law 550 = .ok (.invokestatic 172, 3) := by decide +kernel
theorem dL_law_553 : decode cL_law 553 = .ok (.istore 5, 2) := by decide +kernel
theorem dL_law_555 : decode cL_law 555 = .ok (.aload_n 2, 1) := by decide +kernel
theorem dL_law_556 : decode cL_law 556 = .ok (.aload_n 0, 1) := by decide +kernel
theorem dL_law_557 : decode cL_law 557 = .ok (.iload 4, 2) := by decide +kernel
theorem dL_law_559 : decode cL_law 559 = .ok (.iconst 1, 1) := by decide +kernel
theorem dL_law_560 : decode cL_law 560 = .ok (.iadd, 1) := by decide +kernel
theorem dL_law_561 : decode cL_law 561 = .ok (.iaload, 1) := by decide +kernel
theorem dL_law_562 : decode cL_law 562 = .ok (.invokevirtual 174, 3) := by decide +kernel
theorem dL_law_565 : decode cL_law 565 = .ok (.istore 6, 2) := by decide +kernel
theorem dL_law_567 : decode cL_law 567 = .ok (.aload_n 2, 1) := by decide +kernel
theorem dL_law_568 : decode cL_law 568 = .ok (.invokevirtual 156, 3) := by decide +kernel
theorem dL_law_571 : decode cL_law 571 = .ok (.iload 5, 2) := by decide +kernel
theorem dL_law_573 : decode cL_law 573 = .ok (.if_icmp .eq 5, 3) := by decide +kernel
theorem dL_law_576 : decode cL_law 576 = .ok (.iconst 0, 1) := by decide +kernel
theorem dL_law_577 : decode cL_law 577 = .ok (.ireturn, 1) := by decide +kernel
theorem dL_law_578 : decode cL_law 578 = .ok (.iload 5, 2) := by decide +kernel
theorem dL_law_580 : decode cL_law 580 = .ok (.ifCond .ne 15, 3) := by decide +kernel
theorem dL_law_583 : decode cL_law 583 = .ok (.aload_n 3, 1) := by decide +kernel
theorem dL_law_584 : decode cL_law 584 = .ok (.iconst 0, 1) := by decide +kernel
theorem dL_law_585 : decode cL_law 585 = .ok (.laload, 1) := by decide +kernel
theorem dL_law_586 : decode cL_law 586 = .ok (.iload 6, 2) := by decide +kernel
theorem dL_law_588 : decode cL_law 588 = .ok (.i2l, 1) := by decide +kernel
theorem dL_law_589 : decode cL_law 589 = .ok (.lcmp, 1) := by decide +kernel
theorem dL_law_590 : decode cL_law 590 = .ok (.ifCond .eq 5, 3) := by decide +kernel
theorem dL_law_593 : decode cL_law 593 = .ok (.iconst 0, 1) := by decide +kernel
theorem dL_law_594 : decode cL_law 594 = .ok (.ireturn, 1) := by decide +kernel
theorem dL_law_595 : decode cL_law 595 = .ok (.goto 1904, 3) := by decide +kernel
theorem dL_law_598 : decode cL_law 598 = .ok (.aload_n 1, 1) := by decide +kernel
theorem dL_law_599 : decode cL_law 599 = .ok (.aload_n 0, 1) := by decide +kernel
theorem dL_law_600 : decode cL_law 600 = .ok (.iload 4, 2) := by decide +kernel
theorem dL_law_602 : decode cL_law 602 = .ok (.iconst 1, 1) := by decide +kernel
theorem dL_law_603 : decode cL_law 603 = .ok (.iadd, 1) := by decide +kernel
theorem dL_law_604 : decode cL_law 604 = .ok (.iaload, 1) := by decide +kernel
theorem dL_law_605 : decode cL_law 605 = .ok (.aload_n 3, 1) := by decide +kernel
theorem dL_law_606 : decode cL_law 606 = .ok (.invokestatic 175, 3) := by decide +kernel
theorem dL_law_609 : decode cL_law 609 = .ok (.istore 5, 2) := by decide +kernel
theorem dL_law_611 : decode cL_law 611 = .ok (.aload_n 2, 1) := by decide +kernel
theorem dL_law_612 : decode cL_law 612 = .ok (.aload_n 0, 1) := by decide +kernel
theorem dL_law_613 : decode cL_law 613 = .ok (.iload 4, 2) := by decide +kernel
theorem dL_law_615 : decode cL_law 615 = .ok (.iconst 1, 1) := by decide +kernel
theorem dL_law_616 : decode cL_law 616 = .ok (.iadd, 1) := by decide +kernel
theorem dL_law_617 : decode cL_law 617 = .ok (.iaload, 1) := by decide +kernel
theorem dL_law_618 : decode cL_law 618 = .ok (.invokevirtual 177, 3) := by decide +kernel
theorem dL_law_621 : decode cL_law 621 = .ok (.istore 6, 2) := by decide +kernel
theorem dL_law_623 : decode cL_law 623 = .ok (.aload_n 2, 1) := by decide +kernel
theorem dL_law_624 : decode cL_law 624 = .ok (.invokevirtual 156, 3) := by decide +kernel
theorem dL_law_627 : decode cL_law 627 = .ok (.iload 5, 2) := by decide +kernel
theorem dL_law_629 : decode cL_law 629 = .ok (.if_icmp .eq 5, 3) := by decide +kernel
theorem dL_law_632 : decode cL_law 632 = .ok (.iconst 0, 1) := by decide +kernel
theorem dL_law_633 : decode cL_law 633 = .ok (.ireturn, 1) := by decide +kernel
theorem dL_law_634 : decode cL_law 634 = .ok (.iload 5, 2) := by decide +kernel
theorem dL_law_636 : decode cL_law 636 = .ok (.ifCond .ne 15, 3) := by decide +kernel
theorem dL_law_639 : decode cL_law 639 = .ok (.aload_n 3, 1) := by decide +kernel
theorem dL_law_640 : decode cL_law 640 = .ok (.iconst 0, 1) := by decide +kernel
theorem dL_law_641 : decode cL_law 641 = .ok (.laload, 1) := by decide +kernel
theorem dL_law_642 : decode cL_law 642 = .ok (.iload 6, 2) := by decide +kernel
theorem dL_law_644 : decode cL_law 644 = .ok (.i2l, 1) := by decide +kernel
theorem dL_law_645 : decode cL_law 645 = .ok (.lcmp, 1) := by decide +kernel
theorem dL_law_646 : decode cL_law 646 = .ok (.ifCond .eq 5, 3) := by decide +kernel
theorem dL_law_649 : decode cL_law 649 = .ok (.iconst 0, 1) := by decide +kernel
theorem dL_law_650 : decode cL_law 650 = .ok (.ireturn, 1) := by decide +kernel
theorem dL_law_651 : decode cL_law 651 = .ok (.goto 1848, 3) := by decide +kernel
theorem dL_law_654 : decode cL_law 654 = .ok (.aload_n 1, 1) := by decide +kernel
theorem dL_law_655 : decode cL_law 655 = .ok (.aload_n 0, 1) := by decide +kernel
theorem dL_law_656 : decode cL_law 656 = .ok (.iload 4, 2) := by decide +kernel
theorem dL_law_658 : decode cL_law 658 = .ok (.iconst 1, 1) := by decide +kernel
theorem dL_law_659 : decode cL_law 659 = .ok (.iadd, 1) := by decide +kernel
theorem dL_law_660 : decode cL_law 660 = .ok (.iaload, 1) := by decide +kernel
theorem dL_law_661 : decode cL_law 661 = .ok (.aload_n 3, 1) := by decide +kernel
theorem dL_law_662 : decode cL_law 662 = .ok (.invokestatic 178, 3) := by decide +kernel
theorem dL_law_665 : decode cL_law 665 = .ok (.istore 5, 2) := by decide +kernel
theorem dL_law_667 : decode cL_law 667 = .ok (.aload_n 2, 1) := by decide +kernel
theorem dL_law_668 : decode cL_law 668 = .ok (.aload_n 0, 1) := by decide +kernel
theorem dL_law_669 : decode cL_law 669 = .ok (.iload 4, 2) := by decide +kernel
theorem dL_law_671 : decode cL_law 671 = .ok (.iconst 1, 1) := by decide +kernel
theorem dL_law_672 : decode cL_law 672 = .ok (.iadd, 1) := by decide +kernel
theorem dL_law_673 : decode cL_law 673 = .ok (.iaload, 1) := by decide +kernel
theorem dL_law_674 : decode cL_law 674 = .ok (.invokevirtual 180, 3) := by decide +kernel
theorem dL_law_677 : decode cL_law 677 = .ok (.istore 6, 2) := by decide +kernel
theorem dL_law_679 : decode cL_law 679 = .ok (.aload_n 2, 1) := by decide +kernel
theorem dL_law_680 : decode cL_law 680 = .ok (.invokevirtual 156, 3) := by decide +kernel
theorem dL_law_683 : decode cL_law 683 = .ok (.iload 5, 2) := by decide +kernel
theorem dL_law_685 : decode cL_law 685 = .ok (.if_icmp .eq 5, 3) := by decide +kernel
theorem dL_law_688 : decode cL_law 688 = .ok (.iconst 0, 1) := by decide +kernel
theorem dL_law_689 : decode cL_law 689 = .ok (.ireturn, 1) := by decide +kernel
theorem dL_law_690 : decode cL_law 690 = .ok (.iload 5, 2) := by decide +kernel
theorem dL_law_692 : decode cL_law 692 = .ok (.ifCond .ne 15, 3) := by decide +kernel
theorem dL_law_695 : decode cL_law 695 = .ok (.aload_n 3, 1) := by decide +kernel
theorem dL_law_696 : decode cL_law 696 = .ok (.iconst 0, 1) := by decide +kernel
theorem dL_law_697 : decode cL_law 697 = .ok (.laload, 1) := by decide +kernel
theorem dL_law_698 : decode cL_law 698 = .ok (.iload 6, 2) := by decide +kernel
theorem dL_law_700 : decode cL_law 700 = .ok (.i2l, 1) := by decide +kernel
theorem dL_law_701 : decode cL_law 701 = .ok (.lcmp, 1) := by decide +kernel
theorem dL_law_702 : decode cL_law 702 = .ok (.ifCond .eq 5, 3) := by decide +kernel
theorem dL_law_705 : decode cL_law 705 = .ok (.iconst 0, 1) := by decide +kernel
theorem dL_law_706 : decode cL_law 706 = .ok (.ireturn, 1) := by decide +kernel
theorem dL_law_707 : decode cL_law 707 = .ok (.goto 1792, 3) := by decide +kernel
theorem dL_law_710 : decode cL_law 710 = .ok (.aload_n 1, 1) := by decide +kernel
theorem dL_law_711 : decode cL_law 711 = .ok (.invokevirtual 181, 3) := by decide +kernel
theorem dL_law_714 : decode cL_law 714 = .ok (.aload_n 2, 1) := by decide +kernel
theorem dL_law_715 : decode cL_law 715 = .ok (.invokevirtual 184, 3) := by decide +kernel
theorem dL_law_718 : decode cL_law 718 = .ok (.if_icmp .eq 1781, 3) := by decide +kernel
theorem dL_law_721 : decode cL_law 721 = .ok (.iconst 0, 1) := by decide +kernel
theorem dL_law_722 : decode cL_law 722 = .ok (.ireturn, 1) := by decide +kernel
theorem dL_law_723 : decode cL_law 723 = .ok (.aload_n 1, 1) := by decide +kernel
theorem dL_law_724 : decode cL_law 724 = .ok (.aload_n 0, 1) := by decide +kernel
theorem dL_law_725 : decode cL_law 725 = .ok (.iload 4, 2) := by decide +kernel
theorem dL_law_727 : decode cL_law 727 = .ok (.iconst 1, 1) := by decide +kernel
theorem dL_law_728 : decode cL_law 728 = .ok (.iadd, 1) := by decide +kernel
theorem dL_law_729 : decode cL_law 729 = .ok (.iaload, 1) := by decide +kernel
theorem dL_law_730 : decode cL_law 730 = .ok (.aload_n 0, 1) := by decide +kernel
theorem dL_law_731 : decode cL_law 731 = .ok (.iload 4, 2) := by decide +kernel
theorem dL_law_733 : decode cL_law 733 = .ok (.iconst 2, 1) := by decide +kernel
theorem dL_law_734 : decode cL_law 734 = .ok (.iadd, 1) := by decide +kernel
theorem dL_law_735 : decode cL_law 735 = .ok (.iaload, 1) := by decide +kernel
theorem dL_law_736 : decode cL_law 736 = .ok (.aload_n 3, 1) := by decide +kernel
theorem dL_law_737 : decode cL_law 737 = .ok (.invokestatic 185, 3) := by decide +kernel
theorem dL_law_740 : decode cL_law 740 = .ok (.istore 5, 2) := by decide +kernel
theorem dL_law_742 : decode cL_law 742 = .ok (.aload_n 2, 1) := by decide +kernel
theorem dL_law_743 : decode cL_law 743 = .ok (.aload_n 0, 1) := by decide +kernel
theorem dL_law_744 : decode cL_law 744 = .ok (.iload 4, 2) := by decide +kernel
theorem dL_law_746 : decode cL_law 746 = .ok (.iconst 1, 1) := by decide +kernel
theorem dL_law_747 : decode cL_law 747 = .ok (.iadd, 1) := by decide +kernel
theorem dL_law_748 : decode cL_law 748 = .ok (.iaload, 1) := by decide +kernel
theorem dL_law_749 : decode cL_law 749 = .ok (.aload_n 0, 1) := by decide +kernel
theorem dL_law_750 : decode cL_law 750 = .ok (.iload 4, 2) := by decide +kernel
theorem dL_law_752 : decode cL_law 752 = .ok (.iconst 2, 1) := by decide +kernel
theorem dL_law_753 : decode cL_law 753 = .ok (.iadd, 1) := by decide +kernel
theorem dL_law_754 : decode cL_law 754 = .ok (.iaload, 1) := by decide +kernel
theorem dL_law_755 : decode cL_law 755 = .ok (.invokevirtual 187, 3) := by decide +kernel
theorem dL_law_758 : decode cL_law 758 = .ok (.istore 6, 2) := by decide +kernel
theorem dL_law_760 : decode cL_law 760 = .ok (.aload_n 2, 1) := by decide +kernel
theorem dL_law_761 : decode cL_law 761 = .ok (.invokevirtual 156, 3) := by decide +kernel
theorem dL_law_764 : decode cL_law 764 = .ok (.iload 5, 2) := by decide +kernel
theorem dL_law_766 : decode cL_law 766 = .ok (.if_icmp .eq 5, 3) := by decide +kernel
theorem dL_law_769 : decode cL_law 769 = .ok (.iconst 0, 1) := by decide +kernel
theorem dL_law_770 : decode cL_law 770 = .ok (.ireturn, 1) := by decide +kernel
theorem dL_law_771 : decode cL_law 771 = .ok (.iload 5, 2) := by decide +kernel
theorem dL_law_773 : decode cL_law 773 = .ok (.ifCond .ne 15, 3) := by decide +kernel
theorem dL_law_776 : decode cL_law 776 = .ok (.aload_n 3, 1) := by decide +kernel
theorem dL_law_777 : decode cL_law 777 = .ok (.iconst 0, 1) := by decide +kernel
theorem dL_law_778 : decode cL_law 778 = .ok (.laload, 1) := by decide +kernel
theorem dL_law_779 : decode cL_law 779 = .ok (.iload 6, 2) := by decide +kernel
theorem dL_law_781 : decode cL_law 781 = .ok (.i2l, 1) := by decide +kernel
theorem dL_law_782 : decode cL_law 782 = .ok (.lcmp, 1) := by decide +kernel
theorem dL_law_783 : decode cL_law 783 = .ok (.ifCond .eq 5, 3) := by decide +kernel
theorem dL_law_786 : decode cL_law 786 = .ok (.iconst 0, 1) := by decide +kernel
theorem dL_law_787 : decode cL_law 787 = .ok (.ireturn, 1) := by decide +kernel
theorem dL_law_788 : decode cL_law 788 = .ok (.goto 1711, 3) := by decide +kernel
theorem dL_law_791 : decode cL_law 791 = .ok (.aload_n 1, 1) := by decide +kernel
theorem dL_law_792 : decode cL_law 792 = .ok (.aload_n 0, 1) := by decide +kernel
theorem dL_law_793 : decode cL_law 793 = .ok (.iload 4, 2) := by decide +kernel
theorem dL_law_795 : decode cL_law 795 = .ok (.iconst 1, 1) := by decide +kernel
theorem dL_law_796 : decode cL_law 796 = .ok (.iadd, 1) := by decide +kernel
theorem dL_law_797 : decode cL_law 797 = .ok (.iaload, 1) := by decide +kernel
theorem dL_law_798 : decode cL_law 798 = .ok (.aload_n 0, 1) := by decide +kernel
theorem dL_law_799 : decode cL_law 799 = .ok (.iload 4, 2) := by decide +kernel
theorem dL_law_801 : decode cL_law 801 = .ok (.iconst 2, 1) := by decide +kernel
theorem dL_law_802 : decode cL_law 802 = .ok (.iadd, 1) := by decide +kernel
theorem dL_law_803 : decode cL_law 803 = .ok (.iaload, 1) := by decide +kernel
theorem dL_law_804 : decode cL_law 804 = .ok (.aload_n 3, 1) := by decide +kernel
theorem dL_law_805 : decode cL_law 805 = .ok (.invokestatic 188, 3) := by decide +kernel
theorem dL_law_808 : decode cL_law 808 = .ok (.istore 5, 2) := by decide +kernel
theorem dL_law_810 : decode cL_law 810 = .ok (.aload_n 2, 1) := by decide +kernel
theorem dL_law_811 : decode cL_law 811 = .ok (.aload_n 0, 1) := by decide +kernel
theorem dL_law_812 : decode cL_law 812 = .ok (.iload 4, 2) := by decide +kernel
theorem dL_law_814 : decode cL_law 814 = .ok (.iconst 1, 1) := by decide +kernel
theorem dL_law_815 : decode cL_law 815 = .ok (.iadd, 1) := by decide +kernel
theorem dL_law_816 : decode cL_law 816 = .ok (.iaload, 1) := by decide +kernel
theorem dL_law_817 : decode cL_law 817 = .ok (.aload_n 0, 1) := by decide +kernel
theorem dL_law_818 : decode cL_law 818 = .ok (.iload 4, 2) := by decide +kernel
theorem dL_law_820 : decode cL_law 820 = .ok (.iconst 2, 1) := by decide +kernel
theorem dL_law_821 : decode cL_law 821 = .ok (.iadd, 1) := by decide +kernel
theorem dL_law_822 : decode cL_law 822 = .ok (.iaload, 1) := by decide +kernel
theorem dL_law_823 : decode cL_law 823 = .ok (.invokevirtual 190, 3) := by decide +kernel
theorem dL_law_826 : decode cL_law 826 = .ok (.istore 6, 2) := by decide +kernel
theorem dL_law_828 : decode cL_law 828 = .ok (.aload_n 2, 1) := by decide +kernel
theorem dL_law_829 : decode cL_law 829 = .ok (.invokevirtual 156, 3) := by decide +kernel
theorem dL_law_832 : decode cL_law 832 = .ok (.iload 5, 2) := by decide +kernel
theorem dL_law_834 : decode cL_law 834 = .ok (.if_icmp .eq 5, 3) := by decide +kernel
theorem dL_law_837 : decode cL_law 837 = .ok (.iconst 0, 1) := by decide +kernel
theorem dL_law_838 : decode cL_law 838 = .ok (.ireturn, 1) := by decide +kernel
theorem dL_law_839 : decode cL_law 839 = .ok (.iload 5, 2) := by decide +kernel
theorem dL_law_841 : decode cL_law 841 = .ok (.ifCond .ne 15, 3) := by decide +kernel
theorem dL_law_844 : decode cL_law 844 = .ok (.aload_n 3, 1) := by decide +kernel
theorem dL_law_845 : decode cL_law 845 = .ok (.iconst 0, 1) := by decide +kernel
theorem dL_law_846 : decode cL_law 846 = .ok (.laload, 1) := by decide +kernel
theorem dL_law_847 : decode cL_law 847 = .ok (.iload 6, 2) := by decide +kernel
theorem dL_law_849 : decode cL_law 849 = .ok (.i2l, 1) := by decide +kernel
theorem dL_law_850 : decode cL_law 850 = .ok (.lcmp, 1) := by decide +kernel
theorem dL_law_851 : decode cL_law 851 = .ok (.ifCond .eq 5, 3) := by decide +kernel
theorem dL_law_854 : decode cL_law 854 = .ok (.iconst 0, 1) := by decide +kernel
theorem dL_law_855 : decode cL_law 855 = .ok (.ireturn, 1) := by decide +kernel
theorem dL_law_856 : decode cL_law 856 = .ok (.goto 1643, 3) := by decide +kernel
theorem dL_law_859 : decode cL_law 859 = .ok (.aload_n 1, 1) := by decide +kernel
theorem dL_law_860 : decode cL_law 860 = .ok (.aload_n 0, 1) := by decide +kernel
theorem dL_law_861 : decode cL_law 861 = .ok (.iload 4, 2) := by decide +kernel
theorem dL_law_863 : decode cL_law 863 = .ok (.iconst 1, 1) := by decide +kernel
theorem dL_law_864 : decode cL_law 864 = .ok (.iadd, 1) := by decide +kernel
theorem dL_law_865 : decode cL_law 865 = .ok (.iaload, 1) := by decide +kernel
theorem dL_law_866 : decode cL_law 866 = .ok (.aload_n 0, 1) := by decide +kernel
theorem dL_law_867 : decode cL_law 867 = .ok (.iload 4, 2) := by decide +kernel
theorem dL_law_869 : decode cL_law 869 = .ok (.iconst 2, 1) := by decide +kernel
theorem dL_law_870 : decode cL_law 870 = .ok (.iadd, 1) := by decide +kernel
theorem dL_law_871 : decode cL_law 871 = .ok (.iaload, 1) := by decide +kernel
theorem dL_law_872 : decode cL_law 872 = .ok (.aload_n 3, 1) := by decide +kernel
theorem dL_law_873 : decode cL_law 873 = .ok (.invokestatic 191, 3) := by decide +kernel
theorem dL_law_876 : decode cL_law 876 = .ok (.istore 5, 2) := by decide +kernel
theorem dL_law_878 : decode cL_law 878 = .ok (.aload_n 2, 1) := by decide +kernel
theorem dL_law_879 : decode cL_law 879 = .ok (.aload_n 0, 1) := by decide +kernel
theorem dL_law_880 : decode cL_law 880 = .ok (.iload 4, 2) := by decide +kernel
theorem dL_law_882 : decode cL_law 882 = .ok (.iconst 1, 1) := by decide +kernel
theorem dL_law_883 : decode cL_law 883 = .ok (.iadd, 1) := by decide +kernel
theorem dL_law_884 : decode cL_law 884 = .ok (.iaload, 1) := by decide +kernel
theorem dL_law_885 : decode cL_law 885 = .ok (.aload_n 0, 1) := by decide +kernel
theorem dL_law_886 : decode cL_law 886 = .ok (.iload 4, 2) := by decide +kernel
theorem dL_law_888 : decode cL_law 888 = .ok (.iconst 2, 1) := by decide +kernel
theorem dL_law_889 : decode cL_law 889 = .ok (.iadd, 1) := by decide +kernel
theorem dL_law_890 : decode cL_law 890 = .ok (.iaload, 1) := by decide +kernel
theorem dL_law_891 : decode cL_law 891 = .ok (.invokevirtual 193, 3) := by decide +kernel
theorem dL_law_894 : decode cL_law 894 = .ok (.istore 6, 2) := by decide +kernel
theorem dL_law_896 : decode cL_law 896 = .ok (.aload_n 2, 1) := by decide +kernel
theorem dL_law_897 : decode cL_law 897 = .ok (.invokevirtual 156, 3) := by decide +kernel
theorem dL_law_900 : decode cL_law 900 = .ok (.iload 5, 2) := by decide +kernel
theorem dL_law_902 : decode cL_law 902 = .ok (.if_icmp .eq 5, 3) := by decide +kernel
theorem dL_law_905 : decode cL_law 905 = .ok (.iconst 0, 1) := by decide +kernel
theorem dL_law_906 : decode cL_law 906 = .ok (.ireturn, 1) := by decide +kernel
theorem dL_law_907 : decode cL_law 907 = .ok (.iload 5, 2) := by decide +kernel
theorem dL_law_909 : decode cL_law 909 = .ok (.ifCond .ne 15, 3) := by decide +kernel
theorem dL_law_912 : decode cL_law 912 = .ok (.aload_n 3, 1) := by decide +kernel
theorem dL_law_913 : decode cL_law 913 = .ok (.iconst 0, 1) := by decide +kernel
theorem dL_law_914 : decode cL_law 914 = .ok (.laload, 1) := by decide +kernel
theorem dL_law_915 : decode cL_law 915 = .ok (.iload 6, 2) := by decide +kernel
theorem dL_law_917 : decode cL_law 917 = .ok (.i2l, 1) := by decide +kernel
theorem dL_law_918 : decode cL_law 918 = .ok (.lcmp, 1) := by decide +kernel
theorem dL_law_919 : decode cL_law 919 = .ok (.ifCond .eq 5, 3) := by decide +kernel
theorem dL_law_922 : decode cL_law 922 = .ok (.iconst 0, 1) := by decide +kernel
theorem dL_law_923 : decode cL_law 923 = .ok (.ireturn, 1) := by decide +kernel
theorem dL_law_924 : decode cL_law 924 = .ok (.goto 1575, 3) := by decide +kernel
theorem dL_law_927 : decode cL_law 927 = .ok (.aload_n 1, 1) := by decide +kernel
theorem dL_law_928 : decode cL_law 928 = .ok (.aload_n 0, 1) := by decide +kernel
theorem dL_law_929 : decode cL_law 929 = .ok (.iload 4, 2) := by decide +kernel
theorem dL_law_931 : decode cL_law 931 = .ok (.iconst 1, 1) := by decide +kernel
theorem dL_law_932 : decode cL_law 932 = .ok (.iadd, 1) := by decide +kernel
theorem dL_law_933 : decode cL_law 933 = .ok (.iaload, 1) := by decide +kernel
theorem dL_law_934 : decode cL_law 934 = .ok (.aload_n 0, 1) := by decide +kernel
theorem dL_law_935 : decode cL_law 935 = .ok (.iload 4, 2) := by decide +kernel
theorem dL_law_937 : decode cL_law 937 = .ok (.iconst 2, 1) := by decide +kernel
theorem dL_law_938 : decode cL_law 938 = .ok (.iadd, 1) := by decide +kernel
theorem dL_law_939 : decode cL_law 939 = .ok (.iaload, 1) := by decide +kernel
theorem dL_law_940 : decode cL_law 940 = .ok (.aload_n 3, 1) := by decide +kernel
theorem dL_law_941 : decode cL_law 941 = .ok (.invokestatic 194, 3) := by decide +kernel
theorem dL_law_944 : decode cL_law 944 = .ok (.istore 5, 2) := by decide +kernel
theorem dL_law_946 : decode cL_law 946 = .ok (.aload_n 2, 1) := by decide +kernel
theorem dL_law_947 : decode cL_law 947 = .ok (.aload_n 0, 1) := by decide +kernel
theorem dL_law_948 : decode cL_law 948 = .ok (.iload 4, 2) := by decide +kernel
theorem dL_law_950 : decode cL_law 950 = .ok (.iconst 1, 1) := by decide +kernel
theorem dL_law_951 : decode cL_law 951 = .ok (.iadd, 1) := by decide +kernel
theorem dL_law_952 : decode cL_law 952 = .ok (.iaload, 1) := by decide +kernel
theorem dL_law_953 : decode cL_law 953 = .ok (.aload_n 0, 1) := by decide +kernel
theorem dL_law_954 : decode cL_law 954 = .ok (.iload 4, 2) := by decide +kernel
theorem dL_law_956 : decode cL_law 956 = .ok (.iconst 2, 1) := by decide +kernel
theorem dL_law_957 : decode cL_law 957 = .ok (.iadd, 1) := by decide +kernel
theorem dL_law_958 : decode cL_law 958 = .ok (.iaload, 1) := by decide +kernel
theorem dL_law_959 : decode cL_law 959 = .ok (.invokevirtual 196, 3) := by decide +kernel
theorem dL_law_962 : decode cL_law 962 = .ok (.istore 6, 2) := by decide +kernel
theorem dL_law_964 : decode cL_law 964 = .ok (.aload_n 2, 1) := by decide +kernel
theorem dL_law_965 : decode cL_law 965 = .ok (.invokevirtual 156, 3) := by decide +kernel
theorem dL_law_968 : decode cL_law 968 = .ok (.iload 5, 2) := by decide +kernel
theorem dL_law_970 : decode cL_law 970 = .ok (.if_icmp .eq 5, 3) := by decide +kernel
theorem dL_law_973 : decode cL_law 973 = .ok (.iconst 0, 1) := by decide +kernel
theorem dL_law_974 : decode cL_law 974 = .ok (.ireturn, 1) := by decide +kernel
theorem dL_law_975 : decode cL_law 975 = .ok (.iload 5, 2) := by decide +kernel
theorem dL_law_977 : decode cL_law 977 = .ok (.ifCond .ne 15, 3) := by decide +kernel
theorem dL_law_980 : decode cL_law 980 = .ok (.aload_n 3, 1) := by decide +kernel
theorem dL_law_981 : decode cL_law 981 = .ok (.iconst 0, 1) := by decide +kernel
theorem dL_law_982 : decode cL_law 982 = .ok (.laload, 1) := by decide +kernel
theorem dL_law_983 : decode cL_law 983 = .ok (.iload 6, 2) := by decide +kernel
theorem dL_law_985 : decode cL_law 985 = .ok (.i2l, 1) := by decide +kernel
theorem dL_law_986 : decode cL_law 986 = .ok (.lcmp, 1) := by decide +kernel
theorem dL_law_987 : decode cL_law 987 = .ok (.ifCond .eq 5, 3) := by decide +kernel
theorem dL_law_990 : decode cL_law 990 = .ok (.iconst 0, 1) := by decide +kernel
theorem dL_law_991 : decode cL_law 991 = .ok (.ireturn, 1) := by decide +kernel
theorem dL_law_992 : decode cL_law 992 = .ok (.goto 1507, 3) := by decide +kernel
theorem dL_law_995 : decode cL_law 995 = .ok (.aload_n 1, 1) := by decide +kernel
theorem dL_law_996 : decode cL_law 996 = .ok (.aload_n 0, 1) := by decide +kernel
theorem dL_law_997 : decode cL_law 997 = .ok (.iload 4, 2) := by decide +kernel
theorem dL_law_999 : decode cL_law 999 = .ok (.iconst 1, 1) := by decide +kernel
theorem dL_law_1000 : decode cL_law 1000 = .ok (.iadd, 1) := by decide +kernel
theorem dL_law_1001 : decode cL_law 1001 = .ok (.iaload, 1) := by decide +kernel
theorem dL_law_1002 : decode cL_law 1002 = .ok (.aload_n 0, 1) := by decide +kernel
theorem dL_law_1003 : decode cL_law 1003 = .ok (.iload 4, 2) := by decide +kernel
theorem dL_law_1005 : decode cL_law 1005 = .ok (.iconst 2, 1) := by decide +kernel
theorem dL_law_1006 : decode cL_law 1006 = .ok (.iadd, 1) := by decide +kernel
theorem dL_law_1007 : decode cL_law 1007 = .ok (.iaload, 1) := by decide +kernel
theorem dL_law_1008 : decode cL_law 1008 = .ok (.aload_n 0, 1) := by decide +kernel
theorem dL_law_1009 : decode cL_law 1009 = .ok (.iload 4, 2) := by decide +kernel
theorem dL_law_1011 : decode cL_law 1011 = .ok (.iconst 3, 1) := by decide +kernel
theorem dL_law_1012 : decode cL_law 1012 = .ok (.iadd, 1) := by decide +kernel
theorem dL_law_1013 : decode cL_law 1013 = .ok (.iaload, 1) := by decide +kernel
theorem dL_law_1014 : decode cL_law 1014 = .ok (.aload_n 3, 1) := by decide +kernel
theorem dL_law_1015 : decode cL_law 1015 = .ok (.invokestatic 197, 3) := by decide +kernel
theorem dL_law_1018 : decode cL_law 1018 = .ok (.istore 5, 2) := by decide +kernel
theorem dL_law_1020 : decode cL_law 1020 = .ok (.aload_n 2, 1) := by decide +kernel
theorem dL_law_1021 : decode cL_law 1021 = .ok (.aload_n 0, 1) := by decide +kernel
theorem dL_law_1022 : decode cL_law 1022 = .ok (.iload 4, 2) := by decide +kernel
theorem dL_law_1024 : decode cL_law 1024 = .ok (.iconst 1, 1) := by decide +kernel
theorem dL_law_1025 : decode cL_law 1025 = .ok (.iadd, 1) := by decide +kernel
theorem dL_law_1026 : decode cL_law 1026 = .ok (.iaload, 1) := by decide +kernel
theorem dL_law_1027 : decode cL_law 1027 = .ok (.aload_n 0, 1) := by decide +kernel
theorem dL_law_1028 : decode cL_law 1028 = .ok (.iload 4, 2) := by decide +kernel
theorem dL_law_1030 : decode cL_law 1030 = .ok (.iconst 2, 1) := by decide +kernel
theorem dL_law_1031 : decode cL_law 1031 = .ok (.iadd, 1) := by decide +kernel
theorem dL_law_1032 : decode cL_law 1032 = .ok (.iaload, 1) := by decide +kernel
theorem dL_law_1033 : decode cL_law 1033 = .ok (.aload_n 0, 1) := by decide +kernel
theorem dL_law_1034 : decode cL_law 1034 = .ok (.iload 4, 2) := by decide +kernel
theorem dL_law_1036 : decode cL_law 1036 = .ok (.iconst 3, 1) := by decide +kernel
theorem dL_law_1037 : decode cL_law 1037 = .ok (.iadd, 1) := by decide +kernel
theorem dL_law_1038 : decode cL_law 1038 = .ok (.iaload, 1) := by decide +kernel
theorem dL_law_1039 : decode cL_law 1039 = .ok (.invokevirtual 200, 3) := by decide +kernel
theorem dL_law_1042 : decode cL_law 1042 = .ok (.istore 6, 2) := by decide +kernel
theorem dL_law_1044 : decode cL_law 1044 = .ok (.aload_n 2, 1) := by decide +kernel
theorem dL_law_1045 : decode cL_law 1045 = .ok (.invokevirtual 156, 3) := by decide +kernel
theorem dL_law_1048 : decode cL_law 1048 = .ok (.iload 5, 2) := by decide +kernel
theorem dL_law_1050 : decode cL_law 1050 = .ok (.if_icmp .eq 5, 3) := by decide +kernel
theorem dL_law_1053 : decode cL_law 1053 = .ok (.iconst 0, 1) := by decide +kernel
theorem dL_law_1054 : decode cL_law 1054 = .ok (.ireturn, 1) := by decide +kernel
theorem dL_law_1055 : decode cL_law 1055 = .ok (.iload 5, 2) := by decide +kernel
theorem dL_law_1057 : decode cL_law 1057 = .ok (.ifCond .ne 15, 3) := by decide +kernel
theorem dL_law_1060 : decode cL_law 1060 = .ok (.aload_n 3, 1) := by decide +kernel
theorem dL_law_1061 : decode cL_law 1061 = .ok (.iconst 0, 1) := by decide +kernel
theorem dL_law_1062 : decode cL_law 1062 = .ok (.laload, 1) := by decide +kernel
theorem dL_law_1063 : decode cL_law 1063 = .ok (.iload 6, 2) := by decide +kernel
theorem dL_law_1065 : decode cL_law 1065 = .ok (.i2l, 1) := by decide +kernel
theorem dL_law_1066 : decode cL_law 1066 = .ok (.lcmp, 1) := by decide +kernel
theorem dL_law_1067 : decode cL_law 1067 = .ok (.ifCond .eq 5, 3) := by decide +kernel
theorem dL_law_1070 : decode cL_law 1070 = .ok (.iconst 0, 1) := by decide +kernel
theorem dL_law_1071 : decode cL_law 1071 = .ok (.ireturn, 1) := by decide +kernel
theorem dL_law_1072 : decode cL_law 1072 = .ok (.goto 1427, 3) := by decide +kernel
theorem dL_law_1075 : decode cL_law 1075 = .ok (.aload_n 1, 1) := by decide +kernel
theorem dL_law_1076 : decode cL_law 1076 = .ok (.aload_n 0, 1) := by decide +kernel
theorem dL_law_1077 : decode cL_law 1077 = .ok (.iload 4, 2) := by decide +kernel
theorem dL_law_1079 : decode cL_law 1079 = .ok (.iconst 1, 1) := by decide +kernel
theorem dL_law_1080 : decode cL_law 1080 = .ok (.iadd, 1) := by decide +kernel
theorem dL_law_1081 : decode cL_law 1081 = .ok (.iaload, 1) := by decide +kernel
theorem dL_law_1082 : decode cL_law 1082 = .ok (.aload_n 0, 1) := by decide +kernel
theorem dL_law_1083 : decode cL_law 1083 = .ok (.iload 4, 2) := by decide +kernel
theorem dL_law_1085 : decode cL_law 1085 = .ok (.iconst 2, 1) := by decide +kernel
theorem dL_law_1086 : decode cL_law 1086 = .ok (.iadd, 1) := by decide +kernel
theorem dL_law_1087 : decode cL_law 1087 = .ok (.iaload, 1) := by decide +kernel
theorem dL_law_1088 : decode cL_law 1088 = .ok (.aload_n 0, 1) := by decide +kernel
theorem dL_law_1089 : decode cL_law 1089 = .ok (.iload 4, 2) := by decide +kernel
theorem dL_law_1091 : decode cL_law 1091 = .ok (.iconst 3, 1) := by decide +kernel
theorem dL_law_1092 : decode cL_law 1092 = .ok (.iadd, 1) := by decide +kernel
theorem dL_law_1093 : decode cL_law 1093 = .ok (.iaload, 1) := by decide +kernel
theorem dL_law_1094 : decode cL_law 1094 = .ok (.aload_n 0, 1) := by decide +kernel
theorem dL_law_1095 : decode cL_law 1095 = .ok (.iload 4, 2) := by decide +kernel
theorem dL_law_1097 : decode cL_law 1097 = .ok (.iconst 4, 1) := by decide +kernel
theorem dL_law_1098 : decode cL_law 1098 = .ok (.iadd, 1) := by decide +kernel
theorem dL_law_1099 : decode cL_law 1099 = .ok (.iaload, 1) := by decide +kernel
theorem dL_law_1100 : decode cL_law 1100 = .ok (.aload_n 3, 1) := by decide +kernel
theorem dL_law_1101 : decode cL_law 1101 = .ok (.invokestatic 201, 3) := by decide +kernel
theorem dL_law_1104 : decode cL_law 1104 = .ok (.istore 5, 2) := by decide +kernel
theorem dL_law_1106 : decode cL_law 1106 = .ok (.aload_n 2, 1) := by decide +kernel
theorem dL_law_1107 : decode cL_law 1107 = .ok (.aload_n 0, 1) := by decide +kernel
theorem dL_law_1108 : decode cL_law 1108 = .ok (.iload 4, 2) := by decide +kernel
theorem dL_law_1110 : decode cL_law 1110 = .ok (.iconst 1, 1) := by decide +kernel
theorem dL_law_1111 : decode cL_law 1111 = .ok (.iadd, 1) := by decide +kernel
theorem dL_law_1112 : decode cL_law 1112 = .ok (.iaload, 1) := by decide +kernel
theorem dL_law_1113 : decode cL_law 1113 = .ok (.aload_n 0, 1) := by decide +kernel
theorem dL_law_1114 : decode cL_law 1114 = .ok (.iload 4, 2) := by decide +kernel
theorem dL_law_1116 : decode cL_law 1116 = .ok (.iconst 2, 1) := by decide +kernel
theorem dL_law_1117 : decode cL_law 1117 = .ok (.iadd, 1) := by decide +kernel
theorem dL_law_1118 : decode cL_law 1118 = .ok (.iaload, 1) := by decide +kernel
theorem dL_law_1119 : decode cL_law 1119 = .ok (.aload_n 0, 1) := by decide +kernel
theorem dL_law_1120 : decode cL_law 1120 = .ok (.iload 4, 2) := by decide +kernel
theorem dL_law_1122 : decode cL_law 1122 = .ok (.iconst 3, 1) := by decide +kernel
theorem dL_law_1123 : decode cL_law 1123 = .ok (.iadd, 1) := by decide +kernel
theorem dL_law_1124 : decode cL_law 1124 = .ok (.iaload, 1) := by decide +kernel
theorem dL_law_1125 : decode cL_law 1125 = .ok (.aload_n 0, 1) := by decide +kernel
theorem dL_law_1126 : decode cL_law 1126 = .ok (.iload 4, 2) := by decide +kernel
theorem dL_law_1128 : decode cL_law 1128 = .ok (.iconst 4, 1) := by decide +kernel
theorem dL_law_1129 : decode cL_law 1129 = .ok (.iadd, 1) := by decide +kernel
theorem dL_law_1130 : decode cL_law 1130 = .ok (.iaload, 1) := by decide +kernel
theorem dL_law_1131 : decode cL_law 1131 = .ok (.invokevirtual 204, 3) := by decide +kernel
theorem dL_law_1134 : decode cL_law 1134 = .ok (.istore 6, 2) := by decide +kernel
theorem dL_law_1136 : decode cL_law 1136 = .ok (.aload_n 2, 1) := by decide +kernel
theorem dL_law_1137 : decode cL_law 1137 = .ok (.invokevirtual 156, 3) := by decide +kernel
theorem dL_law_1140 : decode cL_law 1140 = .ok (.iload 5, 2) := by decide +kernel
theorem dL_law_1142 : decode cL_law 1142 = .ok (.if_icmp .eq 5, 3) := by decide +kernel
theorem dL_law_1145 : decode cL_law 1145 = .ok (.iconst 0, 1) := by decide +kernel
theorem dL_law_1146 : decode cL_law 1146 = .ok (.ireturn, 1) := by decide +kernel
theorem dL_law_1147 : decode cL_law 1147 = .ok (.iload 5, 2) := by decide +kernel
theorem dL_law_1149 : decode cL_law 1149 = .ok (.ifCond .ne 15, 3) := by decide +kernel
theorem dL_law_1152 : decode cL_law 1152 = .ok (.aload_n 3, 1) := by decide +kernel
theorem dL_law_1153 : decode cL_law 1153 = .ok (.iconst 0, 1) := by decide +kernel
theorem dL_law_1154 : decode cL_law 1154 = .ok (.laload, 1) := by decide +kernel
theorem dL_law_1155 : decode cL_law 1155 = .ok (.iload 6, 2) := by decide +kernel
theorem dL_law_1157 : decode cL_law 1157 = .ok (.i2l, 1) := by decide +kernel
theorem dL_law_1158 : decode cL_law 1158 = .ok (.lcmp, 1) := by decide +kernel
theorem dL_law_1159 : decode cL_law 1159 = .ok (.ifCond .eq 5, 3) := by decide +kernel
theorem dL_law_1162 : decode cL_law 1162 = .ok (.iconst 0, 1) := by decide +kernel
theorem dL_law_1163 : decode cL_law 1163 = .ok (.ireturn, 1) := by decide +kernel
theorem dL_law_1164 : decode cL_law 1164 = .ok (.goto 1335, 3) := by decide +kernel
theorem dL_law_1167 : decode cL_law 1167 = .ok (.aload_n 1, 1) := by decide +kernel
theorem dL_law_1168 : decode cL_law 1168 = .ok (.aload_n 0, 1) := by decide +kernel
theorem dL_law_1169 : decode cL_law 1169 = .ok (.iload 4, 2) := by decide +kernel
theorem dL_law_1171 : decode cL_law 1171 = .ok (.iconst 1, 1) := by decide +kernel
theorem dL_law_1172 : decode cL_law 1172 = .ok (.iadd, 1) := by decide +kernel
theorem dL_law_1173 : decode cL_law 1173 = .ok (.iaload, 1) := by decide +kernel
theorem dL_law_1174 : decode cL_law 1174 = .ok (.aload_n 0, 1) := by decide +kernel
theorem dL_law_1175 : decode cL_law 1175 = .ok (.iload 4, 2) := by decide +kernel
theorem dL_law_1177 : decode cL_law 1177 = .ok (.iconst 2, 1) := by decide +kernel
theorem dL_law_1178 : decode cL_law 1178 = .ok (.iadd, 1) := by decide +kernel
theorem dL_law_1179 : decode cL_law 1179 = .ok (.iaload, 1) := by decide +kernel
theorem dL_law_1180 : decode cL_law 1180 = .ok (.aload_n 3, 1) := by decide +kernel
theorem dL_law_1181 : decode cL_law 1181 = .ok (.invokestatic 205, 3) := by decide +kernel
theorem dL_law_1184 : decode cL_law 1184 = .ok (.istore 5, 2) := by decide +kernel
theorem dL_law_1186 : decode cL_law 1186 = .ok (.aload_n 2, 1) := by decide +kernel
theorem dL_law_1187 : decode cL_law 1187 = .ok (.aload_n 0, 1) := by decide +kernel
theorem dL_law_1188 : decode cL_law 1188 = .ok (.iload 4, 2) := by decide +kernel
theorem dL_law_1190 : decode cL_law 1190 = .ok (.iconst 1, 1) := by decide +kernel
theorem dL_law_1191 : decode cL_law 1191 = .ok (.iadd, 1) := by decide +kernel
theorem dL_law_1192 : decode cL_law 1192 = .ok (.iaload, 1) := by decide +kernel
theorem dL_law_1193 : decode cL_law 1193 = .ok (.aload_n 0, 1) := by decide +kernel
theorem dL_law_1194 : decode cL_law 1194 = .ok (.iload 4, 2) := by decide +kernel
theorem dL_law_1196 : decode cL_law 1196 = .ok (.iconst 2, 1) := by decide +kernel
theorem dL_law_1197 : decode cL_law 1197 = .ok (.iadd, 1) := by decide +kernel
theorem dL_law_1198 : decode cL_law 1198 = .ok (.iaload, 1) := by decide +kernel
theorem dL_law_1199 : decode cL_law 1199 = .ok (.invokevirtual 207, 3) := by decide +kernel
theorem dL_law_1202 : decode cL_law 1202 = .ok (.istore 6, 2) := by decide +kernel
theorem dL_law_1204 : decode cL_law 1204 = .ok (.aload_n 2, 1) := by decide +kernel
theorem dL_law_1205 : decode cL_law 1205 = .ok (.invokevirtual 156, 3) := by decide +kernel
theorem dL_law_1208 : decode cL_law 1208 = .ok (.iload 5, 2) := by decide +kernel
theorem dL_law_1210 : decode cL_law 1210 = .ok (.if_icmp .eq 5, 3) := by decide +kernel
theorem dL_law_1213 : decode cL_law 1213 = .ok (.iconst 0, 1) := by decide +kernel
theorem dL_law_1214 : decode cL_law 1214 = .ok (.ireturn, 1) := by decide +kernel
theorem dL_law_1215 : decode cL_law 1215 = .ok (.iload 5, 2) := by decide +kernel
theorem dL_law_1217 : decode cL_law 1217 = .ok (.ifCond .ne 15, 3) := by decide +kernel
theorem dL_law_1220 : decode cL_law 1220 = .ok (.aload_n 3, 1) := by decide +kernel
theorem dL_law_1221 : decode cL_law 1221 = .ok (.iconst 0, 1) := by decide +kernel
theorem dL_law_1222 : decode cL_law 1222 = .ok (.laload, 1) := by decide +kernel
theorem dL_law_1223 : decode cL_law 1223 = .ok (.iload 6, 2) := by decide +kernel
theorem dL_law_1225 : decode cL_law 1225 = .ok (.i2l, 1) := by decide +kernel
theorem dL_law_1226 : decode cL_law 1226 = .ok (.lcmp, 1) := by decide +kernel
theorem dL_law_1227 : decode cL_law 1227 = .ok (.ifCond .eq 5, 3) := by decide +kernel
theorem dL_law_1230 : decode cL_law 1230 = .ok (.iconst 0, 1) := by decide +kernel
theorem dL_law_1231 : decode cL_law 1231 = .ok (.ireturn, 1) := by decide +kernel
theorem dL_law_1232 : decode cL_law 1232 = .ok (.goto 1267, 3) := by decide +kernel
theorem dL_law_1235 : decode cL_law 1235 = .ok (.aload_n 1, 1) := by decide +kernel
theorem dL_law_1236 : decode cL_law 1236 = .ok (.aload_n 0, 1) := by decide +kernel
theorem dL_law_1237 : decode cL_law 1237 = .ok (.iload 4, 2) := by decide +kernel
theorem dL_law_1239 : decode cL_law 1239 = .ok (.iconst 1, 1) := by decide +kernel
theorem dL_law_1240 : decode cL_law 1240 = .ok (.iadd, 1) := by decide +kernel
theorem dL_law_1241 : decode cL_law 1241 = .ok (.iaload, 1) := by decide +kernel
theorem dL_law_1242 : decode cL_law 1242 = .ok (.aload_n 3, 1) := by decide +kernel
theorem dL_law_1243 : decode cL_law 1243 = .ok (.invokestatic 208, 3) := by decide +kernel
theorem dL_law_1246 : decode cL_law 1246 = .ok (.istore 5, 2) := by decide +kernel
theorem dL_law_1248 : decode cL_law 1248 = .ok (.aload_n 2, 1) := by decide +kernel
theorem dL_law_1249 : decode cL_law 1249 = .ok (.aload_n 0, 1) := by decide +kernel
theorem dL_law_1250 : decode cL_law 1250 = .ok (.iload 4, 2) := by decide +kernel
theorem dL_law_1252 : decode cL_law 1252 = .ok (.iconst 1, 1) := by decide +kernel
theorem dL_law_1253 : decode cL_law 1253 = .ok (.iadd, 1) := by decide +kernel
theorem dL_law_1254 : decode cL_law 1254 = .ok (.iaload, 1) := by decide +kernel
theorem dL_law_1255 : decode cL_law 1255 = .ok (.invokevirtual 210, 3) := by decide +kernel
theorem dL_law_1258 : decode cL_law 1258 = .ok (.istore 6, 2) := by decide +kernel
theorem dL_law_1260 : decode cL_law 1260 = .ok (.aload_n 2, 1) := by decide +kernel
theorem dL_law_1261 : decode cL_law 1261 = .ok (.invokevirtual 156, 3) := by decide +kernel
theorem dL_law_1264 : decode cL_law 1264 = .ok (.iload 5, 2) := by decide +kernel
theorem dL_law_1266 : decode cL_law 1266 = .ok (.if_icmp .eq 5, 3) := by decide +kernel
theorem dL_law_1269 : decode cL_law 1269 = .ok (.iconst 0, 1) := by decide +kernel
theorem dL_law_1270 : decode cL_law 1270 = .ok (.ireturn, 1) := by decide +kernel
theorem dL_law_1271 : decode cL_law 1271 = .ok (.iload 5, 2) := by decide +kernel
theorem dL_law_1273 : decode cL_law 1273 = .ok (.ifCond .ne 15, 3) := by decide +kernel
theorem dL_law_1276 : decode cL_law 1276 = .ok (.aload_n 3, 1) := by decide +kernel
theorem dL_law_1277 : decode cL_law 1277 = .ok (.iconst 0, 1) := by decide +kernel
theorem dL_law_1278 : decode cL_law 1278 = .ok (.laload, 1) := by decide +kernel
theorem dL_law_1279 : decode cL_law 1279 = .ok (.iload 6, 2) := by decide +kernel
theorem dL_law_1281 : decode cL_law 1281 = .ok (.i2l, 1) := by decide +kernel
theorem dL_law_1282 : decode cL_law 1282 = .ok (.lcmp, 1) := by decide +kernel
theorem dL_law_1283 : decode cL_law 1283 = .ok (.ifCond .eq 5, 3) := by decide +kernel
theorem dL_law_1286 : decode cL_law 1286 = .ok (.iconst 0, 1) := by decide +kernel
theorem dL_law_1287 : decode cL_law 1287 = .ok (.ireturn, 1) := by decide +kernel
theorem dL_law_1288 : decode cL_law 1288 = .ok (.goto 1211, 3) := by decide +kernel
theorem dL_law_1291 : decode cL_law 1291 = .ok (.aload_n 1, 1) := by decide +kernel
theorem dL_law_1292 : decode cL_law 1292 = .ok (.aload_n 0, 1) := by decide +kernel
theorem dL_law_1293 : decode cL_law 1293 = .ok (.iload 4, 2) := by decide +kernel
theorem dL_law_1295 : decode cL_law 1295 = .ok (.iconst 1, 1) := by decide +kernel
theorem dL_law_1296 : decode cL_law 1296 = .ok (.iadd, 1) := by decide +kernel
theorem dL_law_1297 : decode cL_law 1297 = .ok (.iaload, 1) := by decide +kernel
theorem dL_law_1298 : decode cL_law 1298 = .ok (.aload_n 3, 1) := by decide +kernel
theorem dL_law_1299 : decode cL_law 1299 = .ok (.invokestatic 211, 3) := by decide +kernel
theorem dL_law_1302 : decode cL_law 1302 = .ok (.istore 5, 2) := by decide +kernel
theorem dL_law_1304 : decode cL_law 1304 = .ok (.aload_n 2, 1) := by decide +kernel
theorem dL_law_1305 : decode cL_law 1305 = .ok (.aload_n 0, 1) := by decide +kernel
theorem dL_law_1306 : decode cL_law 1306 = .ok (.iload 4, 2) := by decide +kernel
theorem dL_law_1308 : decode cL_law 1308 = .ok (.iconst 1, 1) := by decide +kernel
theorem dL_law_1309 : decode cL_law 1309 = .ok (.iadd, 1) := by decide +kernel
theorem dL_law_1310 : decode cL_law 1310 = .ok (.iaload, 1) := by decide +kernel
theorem dL_law_1311 : decode cL_law 1311 = .ok (.invokevirtual 213, 3) := by decide +kernel
theorem dL_law_1314 : decode cL_law 1314 = .ok (.istore 6, 2) := by decide +kernel
theorem dL_law_1316 : decode cL_law 1316 = .ok (.aload_n 2, 1) := by decide +kernel
theorem dL_law_1317 : decode cL_law 1317 = .ok (.invokevirtual 156, 3) := by decide +kernel
theorem dL_law_1320 : decode cL_law 1320 = .ok (.iload 5, 2) := by decide +kernel
theorem dL_law_1322 : decode cL_law 1322 = .ok (.if_icmp .eq 5, 3) := by decide +kernel
theorem dL_law_1325 : decode cL_law 1325 = .ok (.iconst 0, 1) := by decide +kernel
theorem dL_law_1326 : decode cL_law 1326 = .ok (.ireturn, 1) := by decide +kernel
theorem dL_law_1327 : decode cL_law 1327 = .ok (.iload 5, 2) := by decide +kernel
theorem dL_law_1329 : decode cL_law 1329 = .ok (.ifCond .ne 15, 3) := by decide +kernel
theorem dL_law_1332 : decode cL_law 1332 = .ok (.aload_n 3, 1) := by decide +kernel
theorem dL_law_1333 : decode cL_law 1333 = .ok (.iconst 0, 1) := by decide +kernel
theorem dL_law_1334 : decode cL_law 1334 = .ok (.laload, 1) := by decide +kernel
theorem dL_law_1335 : decode cL_law 1335 = .ok (.iload 6, 2) := by decide +kernel
theorem dL_law_1337 : decode cL_law 1337 = .ok (.i2l, 1) := by decide +kernel
theorem dL_law_1338 : decode cL_law 1338 = .ok (.lcmp, 1) := by decide +kernel
theorem dL_law_1339 : decode cL_law 1339 = .ok (.ifCond .eq 5, 3) := by decide +kernel
theorem dL_law_1342 : decode cL_law 1342 = .ok (.iconst 0, 1) := by decide +kernel
theorem dL_law_1343 : decode cL_law 1343 = .ok (.ireturn, 1) := by decide +kernel
theorem dL_law_1344 : decode cL_law 1344 = .ok (.goto 1155, 3) := by decide +kernel
theorem dL_law_1347 : decode cL_law 1347 = .ok (.aload_n 1, 1) := by decide +kernel
theorem dL_law_1348 : decode cL_law 1348 = .ok (.aload_n 0, 1) := by decide +kernel
theorem dL_law_1349 : decode cL_law 1349 = .ok (.iload 4, 2) := by decide +kernel
theorem dL_law_1351 : decode cL_law 1351 = .ok (.iconst 1, 1) := by decide +kernel
theorem dL_law_1352 : decode cL_law 1352 = .ok (.iadd, 1) := by decide +kernel
theorem dL_law_1353 : decode cL_law 1353 = .ok (.iaload, 1) := by decide +kernel
theorem dL_law_1354 : decode cL_law 1354 = .ok (.aload_n 3, 1) := by decide +kernel
theorem dL_law_1355 : decode cL_law 1355 = .ok (.invokestatic 214, 3) := by decide +kernel
theorem dL_law_1358 : decode cL_law 1358 = .ok (.istore 5, 2) := by decide +kernel
theorem dL_law_1360 : decode cL_law 1360 = .ok (.aload_n 2, 1) := by decide +kernel
theorem dL_law_1361 : decode cL_law 1361 = .ok (.aload_n 0, 1) := by decide +kernel
theorem dL_law_1362 : decode cL_law 1362 = .ok (.iload 4, 2) := by decide +kernel
theorem dL_law_1364 : decode cL_law 1364 = .ok (.iconst 1, 1) := by decide +kernel
theorem dL_law_1365 : decode cL_law 1365 = .ok (.iadd, 1) := by decide +kernel
theorem dL_law_1366 : decode cL_law 1366 = .ok (.iaload, 1) := by decide +kernel
theorem dL_law_1367 : decode cL_law 1367 = .ok (.invokevirtual 216, 3) := by decide +kernel
theorem dL_law_1370 : decode cL_law 1370 = .ok (.istore 6, 2) := by decide +kernel
theorem dL_law_1372 : decode cL_law 1372 = .ok (.aload_n 2, 1) := by decide +kernel
theorem dL_law_1373 : decode cL_law 1373 = .ok (.invokevirtual 156, 3) := by decide +kernel
theorem dL_law_1376 : decode cL_law 1376 = .ok (.iload 5, 2) := by decide +kernel
theorem dL_law_1378 : decode cL_law 1378 = .ok (.if_icmp .eq 5, 3) := by decide +kernel
theorem dL_law_1381 : decode cL_law 1381 = .ok (.iconst 0, 1) := by decide +kernel
theorem dL_law_1382 : decode cL_law 1382 = .ok (.ireturn, 1) := by decide +kernel
theorem dL_law_1383 : decode cL_law 1383 = .ok (.iload 5, 2) := by decide +kernel
theorem dL_law_1385 : decode cL_law 1385 = .ok (.ifCond .ne 15, 3) := by decide +kernel
theorem dL_law_1388 : decode cL_law 1388 = .ok (.aload_n 3, 1) := by decide +kernel
theorem dL_law_1389 : decode cL_law 1389 = .ok (.iconst 0, 1) := by decide +kernel
theorem dL_law_1390 : decode cL_law 1390 = .ok (.laload, 1) := by decide +kernel
theorem dL_law_1391 : decode cL_law 1391 = .ok (.iload 6, 2) := by decide +kernel
theorem dL_law_1393 : decode cL_law 1393 = .ok (.i2l, 1) := by decide +kernel
theorem dL_law_1394 : decode cL_law 1394 = .ok (.lcmp, 1) := by decide +kernel
theorem dL_law_1395 : decode cL_law 1395 = .ok (.ifCond .eq 5, 3) := by decide +kernel
theorem dL_law_1398 : decode cL_law 1398 = .ok (.iconst 0, 1) := by decide +kernel
theorem dL_law_1399 : decode cL_law 1399 = .ok (.ireturn, 1) := by decide +kernel
theorem dL_law_1400 : decode cL_law 1400 = .ok (.goto 1099, 3) := by decide +kernel
theorem dL_law_1403 : decode cL_law 1403 = .ok (.aload_n 1, 1) := by decide +kernel
theorem dL_law_1404 : decode cL_law 1404 = .ok (.aload_n 0, 1) := by decide +kernel
theorem dL_law_1405 : decode cL_law 1405 = .ok (.iload 4, 2) := by decide +kernel
theorem dL_law_1407 : decode cL_law 1407 = .ok (.iconst 1, 1) := by decide +kernel
theorem dL_law_1408 : decode cL_law 1408 = .ok (.iadd, 1) := by decide +kernel
theorem dL_law_1409 : decode cL_law 1409 = .ok (.iaload, 1) := by decide +kernel
theorem dL_law_1410 : decode cL_law 1410 = .ok (.aload_n 3, 1) := by decide +kernel
theorem dL_law_1411 : decode cL_law 1411 = .ok (.invokestatic 217, 3) := by decide +kernel
theorem dL_law_1414 : decode cL_law 1414 = .ok (.istore 5, 2) := by decide +kernel
theorem dL_law_1416 : decode cL_law 1416 = .ok (.aload_n 2, 1) := by decide +kernel
theorem dL_law_1417 : decode cL_law 1417 = .ok (.aload_n 0, 1) := by decide +kernel
theorem dL_law_1418 : decode cL_law 1418 = .ok (.iload 4, 2) := by decide +kernel
theorem dL_law_1420 : decode cL_law 1420 = .ok (.iconst 1, 1) := by decide +kernel
theorem dL_law_1421 : decode cL_law 1421 = .ok (.iadd, 1) := by decide +kernel
theorem dL_law_1422 : decode cL_law 1422 = .ok (.iaload, 1) := by decide +kernel
theorem dL_law_1423 : decode cL_law 1423 = .ok (.invokevirtual 219, 3) := by decide +kernel
theorem dL_law_1426 : decode cL_law 1426 = .ok (.istore 6, 2) := by decide +kernel
theorem dL_law_1428 : decode cL_law 1428 = .ok (.aload_n 2, 1) := by decide +kernel
theorem dL_law_1429 : decode cL_law 1429 = .ok (.invokevirtual 156, 3) := by decide +kernel
theorem dL_law_1432 : decode cL_law 1432 = .ok (.iload 5, 2) := by decide +kernel
theorem dL_law_1434 : decode cL_law 1434 = .ok (.if_icmp .eq 5, 3) := by decide +kernel
theorem dL_law_1437 : decode cL_law 1437 = .ok (.iconst 0, 1) := by decide +kernel
theorem dL_law_1438 : decode cL_law 1438 = .ok (.ireturn, 1) := by decide +kernel
theorem dL_law_1439 : decode cL_law 1439 = .ok (.iload 5, 2) := by decide +kernel
theorem dL_law_1441 : decode cL_law 1441 = .ok (.ifCond .ne 15, 3) := by decide +kernel
theorem dL_law_1444 : decode cL_law 1444 = .ok (.aload_n 3, 1) := by decide +kernel
theorem dL_law_1445 : decode cL_law 1445 = .ok (.iconst 0, 1) := by decide +kernel
theorem dL_law_1446 : decode cL_law 1446 = .ok (.laload, 1) := by decide +kernel
theorem dL_law_1447 : decode cL_law 1447 = .ok (.iload 6, 2) := by decide +kernel
theorem dL_law_1449 : decode cL_law 1449 = .ok (.i2l, 1) := by decide +kernel
theorem dL_law_1450 : decode cL_law 1450 = .ok (.lcmp, 1) := by decide +kernel
theorem dL_law_1451 : decode cL_law 1451 = .ok (.ifCond .eq 5, 3) := by decide +kernel
theorem dL_law_1454 : decode cL_law 1454 = .ok (.iconst 0, 1) := by decide +kernel
theorem dL_law_1455 : decode cL_law 1455 = .ok (.ireturn, 1) := by decide +kernel
theorem dL_law_1456 : decode cL_law 1456 = .ok (.goto 1043, 3) := by decide +kernel
theorem dL_law_1459 : decode cL_law 1459 = .ok (.aload_n 1, 1) := by decide +kernel
theorem dL_law_1460 : decode cL_law 1460 = .ok (.aload_n 0, 1) := by decide +kernel
theorem dL_law_1461 : decode cL_law 1461 = .ok (.iload 4, 2) := by decide +kernel
theorem dL_law_1463 : decode cL_law 1463 = .ok (.iconst 1, 1) := by decide +kernel
theorem dL_law_1464 : decode cL_law 1464 = .ok (.iadd, 1) := by decide +kernel
theorem dL_law_1465 : decode cL_law 1465 = .ok (.iaload, 1) := by decide +kernel
theorem dL_law_1466 : decode cL_law 1466 = .ok (.aload_n 3, 1) := by decide +kernel
theorem dL_law_1467 : decode cL_law 1467 = .ok (.invokestatic 220, 3) := by decide +kernel
theorem dL_law_1470 : decode cL_law 1470 = .ok (.istore 5, 2) := by decide +kernel
theorem dL_law_1472 : decode cL_law 1472 = .ok (.aload_n 2, 1) := by decide +kernel
theorem dL_law_1473 : decode cL_law 1473 = .ok (.aload_n 0, 1) := by decide +kernel
theorem dL_law_1474 : decode cL_law 1474 = .ok (.iload 4, 2) := by decide +kernel
theorem dL_law_1476 : decode cL_law 1476 = .ok (.iconst 1, 1) := by decide +kernel
theorem dL_law_1477 : decode cL_law 1477 = .ok (.iadd, 1) := by decide +kernel
theorem dL_law_1478 : decode cL_law 1478 = .ok (.iaload, 1) := by decide +kernel
theorem dL_law_1479 : decode cL_law 1479 = .ok (.invokevirtual 222, 3) := by decide +kernel
theorem dL_law_1482 : decode cL_law 1482 = .ok (.istore 6, 2) := by decide +kernel
theorem dL_law_1484 : decode cL_law 1484 = .ok (.aload_n 2, 1) := by decide +kernel
theorem dL_law_1485 : decode cL_law 1485 = .ok (.invokevirtual 156, 3) := by decide +kernel
theorem dL_law_1488 : decode cL_law 1488 = .ok (.iload 5, 2) := by decide +kernel
theorem dL_law_1490 : decode cL_law 1490 = .ok (.if_icmp .eq 5, 3) := by decide +kernel
theorem dL_law_1493 : decode cL_law 1493 = .ok (.iconst 0, 1) := by decide +kernel
theorem dL_law_1494 : decode cL_law 1494 = .ok (.ireturn, 1) := by decide +kernel
theorem dL_law_1495 : decode cL_law 1495 = .ok (.iload 5, 2) := by decide +kernel
theorem dL_law_1497 : decode cL_law 1497 = .ok (.ifCond .ne 15, 3) := by decide +kernel
theorem dL_law_1500 : decode cL_law 1500 = .ok (.aload_n 3, 1) := by decide +kernel
theorem dL_law_1501 : decode cL_law 1501 = .ok (.iconst 0, 1) := by decide +kernel
theorem dL_law_1502 : decode cL_law 1502 = .ok (.laload, 1) := by decide +kernel
theorem dL_law_1503 : decode cL_law 1503 = .ok (.iload 6, 2) := by decide +kernel
theorem dL_law_1505 : decode cL_law 1505 = .ok (.i2l, 1) := by decide +kernel
theorem dL_law_1506 : decode cL_law 1506 = .ok (.lcmp, 1) := by decide +kernel
theorem dL_law_1507 : decode cL_law 1507 = .ok (.ifCond .eq 5, 3) := by decide +kernel
theorem dL_law_1510 : decode cL_law 1510 = .ok (.iconst 0, 1) := by decide +kernel
theorem dL_law_1511 : decode cL_law 1511 = .ok (.ireturn, 1) := by decide +kernel
theorem dL_law_1512 : decode cL_law 1512 = .ok (.goto 987, 3) := by decide +kernel
theorem dL_law_1515 : decode cL_law 1515 = .ok (.aload_n 1, 1) := by decide +kernel
theorem dL_law_1516 : decode cL_law 1516 = .ok (.aload_n 3, 1) := by decide +kernel
theorem dL_law_1517 : decode cL_law 1517 = .ok (.invokestatic 223, 3) := by decide +kernel
theorem dL_law_1520 : decode cL_law 1520 = .ok (.istore 5, 2) := by decide +kernel
theorem dL_law_1522 : decode cL_law 1522 = .ok (.aload_n 2, 1) := by decide +kernel
theorem dL_law_1523 : decode cL_law 1523 = .ok (.invokevirtual 226, 3) := by decide +kernel
theorem dL_law_1526 : decode cL_law 1526 = .ok (.istore 6, 2) := by decide +kernel
theorem dL_law_1528 : decode cL_law 1528 = .ok (.aload_n 2, 1) := by decide +kernel
theorem dL_law_1529 : decode cL_law 1529 = .ok (.invokevirtual 156, 3) := by decide +kernel
theorem dL_law_1532 : decode cL_law 1532 = .ok (.iload 5, 2) := by decide +kernel
theorem dL_law_1534 : decode cL_law 1534 = .ok (.if_icmp .eq 5, 3) := by decide +kernel
theorem dL_law_1537 : decode cL_law 1537 = .ok (.iconst 0, 1) := by decide +kernel
theorem dL_law_1538 : decode cL_law 1538 = .ok (.ireturn, 1) := by decide +kernel
theorem dL_law_1539 : decode cL_law 1539 = .ok (.iload 5, 2) := by decide +kernel
theorem dL_law_1541 : decode cL_law 1541 = .ok (.ifCond .ne 15, 3) := by decide +kernel
theorem dL_law_1544 : decode cL_law 1544 = .ok (.aload_n 3, 1) := by decide +kernel
theorem dL_law_1545 : decode cL_law 1545 = .ok (.iconst 0, 1) := by decide +kernel
theorem dL_law_1546 : decode cL_law 1546 = .ok (.laload, 1) := by decide +kernel
theorem dL_law_1547 : decode cL_law 1547 = .ok (.iload 6, 2) := by decide +kernel
theorem dL_law_1549 : decode cL_law 1549 = .ok (.i2l, 1) := by decide +kernel
theorem dL_law_1550 : decode cL_law 1550 = .ok (.lcmp, 1) := by decide +kernel
theorem dL_law_1551 : decode cL_law 1551 = .ok (.ifCond .eq 5, 3) := by decide +kernel
theorem dL_law_1554 : decode cL_law 1554 = .ok (.iconst 0, 1) := by decide +kernel
theorem dL_law_1555 : decode cL_law 1555 = .ok (.ireturn, 1) := by decide +kernel
theorem dL_law_1556 : decode cL_law 1556 = .ok (.goto 943, 3) := by decide +kernel
theorem dL_law_1559 : decode cL_law 1559 = .ok (.aload_n 1, 1) := by decide +kernel
theorem dL_law_1560 : decode cL_law 1560 = .ok (.aload_n 3, 1) := by decide +kernel
theorem dL_law_1561 : decode cL_law 1561 = .ok (.invokestatic 227, 3) := by decide +kernel
theorem dL_law_1564 : decode cL_law 1564 = .ok (.istore 5, 2) := by decide +kernel
theorem dL_law_1566 : decode cL_law 1566 = .ok (.aload_n 2, 1) := by decide +kernel
theorem dL_law_1567 : decode cL_law 1567 = .ok (.invokevirtual 229, 3) := by decide +kernel
theorem dL_law_1570 : decode cL_law 1570 = .ok (.istore 6, 2) := by decide +kernel
theorem dL_law_1572 : decode cL_law 1572 = .ok (.aload_n 2, 1) := by decide +kernel
theorem dL_law_1573 : decode cL_law 1573 = .ok (.invokevirtual 156, 3) := by decide +kernel
theorem dL_law_1576 : decode cL_law 1576 = .ok (.iload 5, 2) := by decide +kernel
theorem dL_law_1578 : decode cL_law 1578 = .ok (.if_icmp .eq 5, 3) := by decide +kernel
theorem dL_law_1581 : decode cL_law 1581 = .ok (.iconst 0, 1) := by decide +kernel
theorem dL_law_1582 : decode cL_law 1582 = .ok (.ireturn, 1) := by decide +kernel
theorem dL_law_1583 : decode cL_law 1583 = .ok (.iload 5, 2) := by decide +kernel
theorem dL_law_1585 : decode cL_law 1585 = .ok (.ifCond .ne 15, 3) := by decide +kernel
theorem dL_law_1588 : decode cL_law 1588 = .ok (.aload_n 3, 1) := by decide +kernel
theorem dL_law_1589 : decode cL_law 1589 = .ok (.iconst 0, 1) := by decide +kernel
theorem dL_law_1590 : decode cL_law 1590 = .ok (.laload, 1) := by decide +kernel
theorem dL_law_1591 : decode cL_law 1591 = .ok (.iload 6, 2) := by decide +kernel
theorem dL_law_1593 : decode cL_law 1593 = .ok (.i2l, 1) := by decide +kernel
theorem dL_law_1594 : decode cL_law 1594 = .ok (.lcmp, 1) := by decide +kernel
theorem dL_law_1595 : decode cL_law 1595 = .ok (.ifCond .eq 5, 3) := by decide +kernel
theorem dL_law_1598 : decode cL_law 1598 = .ok (.iconst 0, 1) := by decide +kernel
theorem dL_law_1599 : decode cL_law 1599 = .ok (.ireturn, 1) := by decide +kernel
theorem dL_law_1600 : decode cL_law 1600 = .ok (.goto 899, 3) := by decide +kernel
theorem dL_law_1603 : decode cL_law 1603 = .ok (.aload_n 1, 1) := by decide +kernel
theorem dL_law_1604 : decode cL_law 1604 = .ok (.aload_n 0, 1) := by decide +kernel
theorem dL_law_1605 : decode cL_law 1605 = .ok (.iload 4, 2) := by decide +kernel
theorem dL_law_1607 : decode cL_law 1607 = .ok (.iconst 1, 1) := by decide +kernel
theorem dL_law_1608 : decode cL_law 1608 = .ok (.iadd, 1) := by decide +kernel
theorem dL_law_1609 : decode cL_law 1609 = .ok (.iaload, 1) := by decide +kernel
theorem dL_law_1610 : decode cL_law 1610 = .ok (.aload_n 3, 1) := by decide +kernel
theorem dL_law_1611 : decode cL_law 1611 = .ok (.invokestatic 230, 3) := by decide +kernel
theorem dL_law_1614 : decode cL_law 1614 = .ok (.istore 5, 2) := by decide +kernel
theorem dL_law_1616 : decode cL_law 1616 = .ok (.aload_n 2, 1) := by decide +kernel
theorem dL_law_1617 : decode cL_law 1617 = .ok (.aload_n 0, 1) := by decide +kernel
theorem dL_law_1618 : decode cL_law 1618 = .ok (.iload 4, 2) := by decide +kernel
theorem dL_law_1620 : decode cL_law 1620 = .ok (.iconst 1, 1) := by decide +kernel
theorem dL_law_1621 : decode cL_law 1621 = .ok (.iadd, 1) := by decide +kernel
theorem dL_law_1622 : decode cL_law 1622 = .ok (.iaload, 1) := by decide +kernel
theorem dL_law_1623 : decode cL_law 1623 = .ok (.invokevirtual 232, 3) := by decide +kernel
theorem dL_law_1626 : decode cL_law 1626 = .ok (.istore 6, 2) := by decide +kernel
theorem dL_law_1628 : decode cL_law 1628 = .ok (.aload_n 2, 1) := by decide +kernel
theorem dL_law_1629 : decode cL_law 1629 = .ok (.invokevirtual 156, 3) := by decide +kernel
theorem dL_law_1632 : decode cL_law 1632 = .ok (.iload 5, 2) := by decide +kernel
theorem dL_law_1634 : decode cL_law 1634 = .ok (.if_icmp .eq 5, 3) := by decide +kernel
theorem dL_law_1637 : decode cL_law 1637 = .ok (.iconst 0, 1) := by decide +kernel
theorem dL_law_1638 : decode cL_law 1638 = .ok (.ireturn, 1) := by decide +kernel
theorem dL_law_1639 : decode cL_law 1639 = .ok (.iload 5, 2) := by decide +kernel
theorem dL_law_1641 : decode cL_law 1641 = .ok (.ifCond .ne 15, 3) := by decide +kernel
theorem dL_law_1644 : decode cL_law 1644 = .ok (.aload_n 3, 1) := by decide +kernel
theorem dL_law_1645 : decode cL_law 1645 = .ok (.iconst 0, 1) := by decide +kernel
theorem dL_law_1646 : decode cL_law 1646 = .ok (.laload, 1) := by decide +kernel
theorem dL_law_1647 : decode cL_law 1647 = .ok (.iload 6, 2) := by decide +kernel
theorem dL_law_1649 : decode cL_law 1649 = .ok (.i2l, 1) := by decide +kernel
theorem dL_law_1650 : decode cL_law 1650 = .ok (.lcmp, 1) := by decide +kernel
theorem dL_law_1651 : decode cL_law 1651 = .ok (.ifCond .eq 5, 3) := by decide +kernel
theorem dL_law_1654 : decode cL_law 1654 = .ok (.iconst 0, 1) := by decide +kernel
theorem dL_law_1655 : decode cL_law 1655 = .ok (.ireturn, 1) := by decide +kernel
theorem dL_law_1656 : decode cL_law 1656 = .ok (.goto 843, 3) := by decide +kernel
theorem dL_law_1659 : decode cL_law 1659 = .ok (.aload_n 1, 1) := by decide +kernel
theorem dL_law_1660 : decode cL_law 1660 = .ok (.aload_n 0, 1) := by decide +kernel
theorem dL_law_1661 : decode cL_law 1661 = .ok (.iload 4, 2) := by decide +kernel
theorem dL_law_1663 : decode cL_law 1663 = .ok (.iconst 1, 1) := by decide +kernel
theorem dL_law_1664 : decode cL_law 1664 = .ok (.iadd, 1) := by decide +kernel
theorem dL_law_1665 : decode cL_law 1665 = .ok (.iaload, 1) := by decide +kernel
theorem dL_law_1666 : decode cL_law 1666 = .ok (.aload_n 0, 1) := by decide +kernel
theorem dL_law_1667 : decode cL_law 1667 = .ok (.iload 4, 2) := by decide +kernel
theorem dL_law_1669 : decode cL_law 1669 = .ok (.iconst 2, 1) := by decide +kernel
theorem dL_law_1670 : decode cL_law 1670 = .ok (.iadd, 1) := by decide +kernel
theorem dL_law_1671 : decode cL_law 1671 = .ok (.iaload, 1) := by decide +kernel
theorem dL_law_1672 : decode cL_law 1672 = .ok (.aload_n 3, 1) := by decide +kernel
theorem dL_law_1673 : decode cL_law 1673 = .ok (.invokestatic 233, 3) := by decide +kernel
theorem dL_law_1676 : decode cL_law 1676 = .ok (.istore 5, 2) := by decide +kernel
theorem dL_law_1678 : decode cL_law 1678 = .ok (.aload_n 2, 1) := by decide +kernel
theorem dL_law_1679 : decode cL_law 1679 = .ok (.aload_n 0, 1) := by decide +kernel
theorem dL_law_1680 : decode cL_law 1680 = .ok (.iload 4, 2) := by decide +kernel
theorem dL_law_1682 : decode cL_law 1682 = .ok (.iconst 1, 1) := by decide +kernel
theorem dL_law_1683 : decode cL_law 1683 = .ok (.iadd, 1) := by decide +kernel
theorem dL_law_1684 : decode cL_law 1684 = .ok (.iaload, 1) := by decide +kernel
theorem dL_law_1685 : decode cL_law 1685 = .ok (.aload_n 0, 1) := by decide +kernel
theorem dL_law_1686 : decode cL_law 1686 = .ok (.iload 4, 2) := by decide +kernel
theorem dL_law_1688 : decode cL_law 1688 = .ok (.iconst 2, 1) := by decide +kernel
theorem dL_law_1689 : decode cL_law 1689 = .ok (.iadd, 1) := by decide +kernel
theorem dL_law_1690 : decode cL_law 1690 = .ok (.iaload, 1) := by decide +kernel
theorem dL_law_1691 : decode cL_law 1691 = .ok (.invokevirtual 235, 3) := by decide +kernel
theorem dL_law_1694 : decode cL_law 1694 = .ok (.istore 6, 2) := by decide +kernel
theorem dL_law_1696 : decode cL_law 1696 = .ok (.aload_n 2, 1) := by decide +kernel
theorem dL_law_1697 : decode cL_law 1697 = .ok (.invokevirtual 156, 3) := by decide +kernel
theorem dL_law_1700 : decode cL_law 1700 = .ok (.iload 5, 2) := by decide +kernel
theorem dL_law_1702 : decode cL_law 1702 = .ok (.if_icmp .eq 5, 3) := by decide +kernel
theorem dL_law_1705 : decode cL_law 1705 = .ok (.iconst 0, 1) := by decide +kernel
theorem dL_law_1706 : decode cL_law 1706 = .ok (.ireturn, 1) := by decide +kernel
theorem dL_law_1707 : decode cL_law 1707 = .ok (.iload 5, 2) := by decide +kernel
theorem dL_law_1709 : decode cL_law 1709 = .ok (.ifCond .ne 15, 3) := by decide +kernel
theorem dL_law_1712 : decode cL_law 1712 = .ok (.aload_n 3, 1) := by decide +kernel
theorem dL_law_1713 : decode cL_law 1713 = .ok (.iconst 0, 1) := by decide +kernel
theorem dL_law_1714 : decode cL_law 1714 = .ok (.laload, 1) := by decide +kernel
theorem dL_law_1715 : decode cL_law 1715 = .ok (.iload 6, 2) := by decide +kernel
theorem dL_law_1717 : decode cL_law 1717 = .ok (.i2l, 1) := by decide +kernel
theorem dL_law_1718 : decode cL_law 1718 = .ok (.lcmp, 1) := by decide +kernel
theorem dL_law_1719 : decode cL_law 1719 = .ok (.ifCond .eq 5, 3) := by decide +kernel
theorem dL_law_1722 : decode cL_law 1722 = .ok (.iconst 0, 1) := by decide +kernel
theorem dL_law_1723 : decode cL_law 1723 = .ok (.ireturn, 1) := by decide +kernel
theorem dL_law_1724 : decode cL_law 1724 = .ok (.goto 775, 3) := by decide +kernel
theorem dL_law_1727 : decode cL_law 1727 = .ok (.aload_n 1, 1) := by decide +kernel
theorem dL_law_1728 : decode cL_law 1728 = .ok (.aload_n 0, 1) := by decide +kernel
theorem dL_law_1729 : decode cL_law 1729 = .ok (.iload 4, 2) := by decide +kernel
theorem dL_law_1731 : decode cL_law 1731 = .ok (.iconst 1, 1) := by decide +kernel
theorem dL_law_1732 : decode cL_law 1732 = .ok (.iadd, 1) := by decide +kernel
theorem dL_law_1733 : decode cL_law 1733 = .ok (.iaload, 1) := by decide +kernel
theorem dL_law_1734 : decode cL_law 1734 = .ok (.aload_n 0, 1) := by decide +kernel
theorem dL_law_1735 : decode cL_law 1735 = .ok (.iload 4, 2) := by decide +kernel
theorem dL_law_1737 : decode cL_law 1737 = .ok (.iconst 2, 1) := by decide +kernel
theorem dL_law_1738 : decode cL_law 1738 = .ok (.iadd, 1) := by decide +kernel
theorem dL_law_1739 : decode cL_law 1739 = .ok (.iaload, 1) := by decide +kernel
theorem dL_law_1740 : decode cL_law 1740 = .ok (.aload_n 3, 1) := by decide +kernel
theorem dL_law_1741 : decode cL_law 1741 = .ok (.invokestatic 236, 3) := by decide +kernel
theorem dL_law_1744 : decode cL_law 1744 = .ok (.istore 5, 2) := by decide +kernel
theorem dL_law_1746 : decode cL_law 1746 = .ok (.aload_n 2, 1) := by decide +kernel
theorem dL_law_1747 : decode cL_law 1747 = .ok (.aload_n 0, 1) := by decide +kernel
theorem dL_law_1748 : decode cL_law 1748 = .ok (.iload 4, 2) := by decide +kernel
theorem dL_law_1750 : decode cL_law 1750 = .ok (.iconst 1, 1) := by decide +kernel
theorem dL_law_1751 : decode cL_law 1751 = .ok (.iadd, 1) := by decide +kernel
theorem dL_law_1752 : decode cL_law 1752 = .ok (.iaload, 1) := by decide +kernel
theorem dL_law_1753 : decode cL_law 1753 = .ok (.aload_n 0, 1) := by decide +kernel
theorem dL_law_1754 : decode cL_law 1754 = .ok (.iload 4, 2) := by decide +kernel
theorem dL_law_1756 : decode cL_law 1756 = .ok (.iconst 2, 1) := by decide +kernel
theorem dL_law_1757 : decode cL_law 1757 = .ok (.iadd, 1) := by decide +kernel
theorem dL_law_1758 : decode cL_law 1758 = .ok (.iaload, 1) := by decide +kernel
theorem dL_law_1759 : decode cL_law 1759 = .ok (.invokevirtual 238, 3) := by decide +kernel
theorem dL_law_1762 : decode cL_law 1762 = .ok (.istore 6, 2) := by decide +kernel
theorem dL_law_1764 : decode cL_law 1764 = .ok (.aload_n 2, 1) := by decide +kernel
theorem dL_law_1765 : decode cL_law 1765 = .ok (.invokevirtual 156, 3) := by decide +kernel
theorem dL_law_1768 : decode cL_law 1768 = .ok (.iload 5, 2) := by decide +kernel
theorem dL_law_1770 : decode cL_law 1770 = .ok (.if_icmp .eq 5, 3) := by decide +kernel
theorem dL_law_1773 : decode cL_law 1773 = .ok (.iconst 0, 1) := by decide +kernel
theorem dL_law_1774 : decode cL_law 1774 = .ok (.ireturn, 1) := by decide +kernel
theorem dL_law_1775 : decode cL_law 1775 = .ok (.iload 5, 2) := by decide +kernel
theorem dL_law_1777 : decode cL_law 1777 = .ok (.ifCond .ne 15, 3) := by decide +kernel
theorem dL_law_1780 : decode cL_law 1780 = .ok (.aload_n 3, 1) := by decide +kernel
theorem dL_law_1781 : decode cL_law 1781 = .ok (.iconst 0, 1) := by decide +kernel
theorem dL_law_1782 : decode cL_law 1782 = .ok (.laload, 1) := by decide +kernel
theorem dL_law_1783 : decode cL_law 1783 = .ok (.iload 6, 2) := by decide +kernel
theorem dL_law_1785 : decode cL_law 1785 = .ok (.i2l, 1) := by decide +kernel
theorem dL_law_1786 : decode cL_law 1786 = .ok (.lcmp, 1) := by decide +kernel
theorem dL_law_1787 : decode cL_law 1787 = .ok (.ifCond .eq 5, 3) := by decide +kernel
theorem dL_law_1790 : decode cL_law 1790 = .ok (.iconst 0, 1) := by decide +kernel
theorem dL_law_1791 : decode cL_law 1791 = .ok (.ireturn, 1) := by decide +kernel
theorem dL_law_1792 : decode cL_law 1792 = .ok (.goto 707, 3) := by decide +kernel
theorem dL_law_1795 : decode cL_law 1795 = .ok (.aload_n 1, 1) := by decide +kernel
theorem dL_law_1796 : decode cL_law 1796 = .ok (.aload_n 0, 1) := by decide +kernel
theorem dL_law_1797 : decode cL_law 1797 = .ok (.iload 4, 2) := by decide +kernel
theorem dL_law_1799 : decode cL_law 1799 = .ok (.iconst 1, 1) := by decide +kernel
theorem dL_law_1800 : decode cL_law 1800 = .ok (.iadd, 1) := by decide +kernel
theorem dL_law_1801 : decode cL_law 1801 = .ok (.iaload, 1) := by decide +kernel
theorem dL_law_1802 : decode cL_law 1802 = .ok (.aload_n 0, 1) := by decide +kernel
theorem dL_law_1803 : decode cL_law 1803 = .ok (.iload 4, 2) := by decide +kernel
theorem dL_law_1805 : decode cL_law 1805 = .ok (.iconst 2, 1) := by decide +kernel
theorem dL_law_1806 : decode cL_law 1806 = .ok (.iadd, 1) := by decide +kernel
theorem dL_law_1807 : decode cL_law 1807 = .ok (.iaload, 1) := by decide +kernel
theorem dL_law_1808 : decode cL_law 1808 = .ok (.aload_n 3, 1) := by decide +kernel
theorem dL_law_1809 : decode cL_law 1809 = .ok (.invokestatic 239, 3) := by decide +kernel
theorem dL_law_1812 : decode cL_law 1812 = .ok (.istore 5, 2) := by decide +kernel
theorem dL_law_1814 : decode cL_law 1814 = .ok (.aload_n 2, 1) := by decide +kernel
theorem dL_law_1815 : decode cL_law 1815 = .ok (.aload_n 0, 1) := by decide +kernel
theorem dL_law_1816 : decode cL_law 1816 = .ok (.iload 4, 2) := by decide +kernel
theorem dL_law_1818 : decode cL_law 1818 = .ok (.iconst 1, 1) := by decide +kernel
theorem dL_law_1819 : decode cL_law 1819 = .ok (.iadd, 1) := by decide +kernel
theorem dL_law_1820 : decode cL_law 1820 = .ok (.iaload, 1) := by decide +kernel
theorem dL_law_1821 : decode cL_law 1821 = .ok (.aload_n 0, 1) := by decide +kernel
theorem dL_law_1822 : decode cL_law 1822 = .ok (.iload 4, 2) := by decide +kernel
theorem dL_law_1824 : decode cL_law 1824 = .ok (.iconst 2, 1) := by decide +kernel
theorem dL_law_1825 : decode cL_law 1825 = .ok (.iadd, 1) := by decide +kernel
theorem dL_law_1826 : decode cL_law 1826 = .ok (.iaload, 1) := by decide +kernel
theorem dL_law_1827 : decode cL_law 1827 = .ok (.invokevirtual 241, 3) := by decide +kernel
theorem dL_law_1830 : decode cL_law 1830 = .ok (.istore 6, 2) := by decide +kernel
theorem dL_law_1832 : decode cL_law 1832 = .ok (.aload_n 2, 1) := by decide +kernel
theorem dL_law_1833 : decode cL_law 1833 = .ok (.invokevirtual 156, 3) := by decide +kernel
theorem dL_law_1836 : decode cL_law 1836 = .ok (.iload 5, 2) := by decide +kernel
theorem dL_law_1838 : decode cL_law 1838 = .ok (.if_icmp .eq 5, 3) := by decide +kernel
theorem dL_law_1841 : decode cL_law 1841 = .ok (.iconst 0, 1) := by decide +kernel
theorem dL_law_1842 : decode cL_law 1842 = .ok (.ireturn, 1) := by decide +kernel
theorem dL_law_1843 : decode cL_law 1843 = .ok (.iload 5, 2) := by decide +kernel
theorem dL_law_1845 : decode cL_law 1845 = .ok (.ifCond .ne 15, 3) := by decide +kernel
theorem dL_law_1848 : decode cL_law 1848 = .ok (.aload_n 3, 1) := by decide +kernel
theorem dL_law_1849 : decode cL_law 1849 = .ok (.iconst 0, 1) := by decide +kernel
theorem dL_law_1850 : decode cL_law 1850 = .ok (.laload, 1) := by decide +kernel
theorem dL_law_1851 : decode cL_law 1851 = .ok (.iload 6, 2) := by decide +kernel
theorem dL_law_1853 : decode cL_law 1853 = .ok (.i2l, 1) := by decide +kernel
theorem dL_law_1854 : decode cL_law 1854 = .ok (.lcmp, 1) := by decide +kernel
theorem dL_law_1855 : decode cL_law 1855 = .ok (.ifCond .eq 5, 3) := by decide +kernel
theorem dL_law_1858 : decode cL_law 1858 = .ok (.iconst 0, 1) := by decide +kernel
theorem dL_law_1859 : decode cL_law 1859 = .ok (.ireturn, 1) := by decide +kernel
theorem dL_law_1860 : decode cL_law 1860 = .ok (.goto 639, 3) := by decide +kernel
theorem dL_law_1863 : decode cL_law 1863 = .ok (.aload_n 1, 1) := by decide +kernel
theorem dL_law_1864 : decode cL_law 1864 = .ok (.aload_n 0, 1) := by decide +kernel
theorem dL_law_1865 : decode cL_law 1865 = .ok (.iload 4, 2) := by decide +kernel
theorem dL_law_1867 : decode cL_law 1867 = .ok (.iconst 1, 1) := by decide +kernel
theorem dL_law_1868 : decode cL_law 1868 = .ok (.iadd, 1) := by decide +kernel
theorem dL_law_1869 : decode cL_law 1869 = .ok (.iaload, 1) := by decide +kernel
theorem dL_law_1870 : decode cL_law 1870 = .ok (.aload_n 0, 1) := by decide +kernel
theorem dL_law_1871 : decode cL_law 1871 = .ok (.iload 4, 2) := by decide +kernel
theorem dL_law_1873 : decode cL_law 1873 = .ok (.iconst 2, 1) := by decide +kernel
theorem dL_law_1874 : decode cL_law 1874 = .ok (.iadd, 1) := by decide +kernel
theorem dL_law_1875 : decode cL_law 1875 = .ok (.iaload, 1) := by decide +kernel
theorem dL_law_1876 : decode cL_law 1876 = .ok (.aload_n 3, 1) := by decide +kernel
theorem dL_law_1877 : decode cL_law 1877 = .ok (.invokestatic 242, 3) := by decide +kernel
theorem dL_law_1880 : decode cL_law 1880 = .ok (.istore 5, 2) := by decide +kernel
theorem dL_law_1882 : decode cL_law 1882 = .ok (.aload_n 2, 1) := by decide +kernel
theorem dL_law_1883 : decode cL_law 1883 = .ok (.aload_n 0, 1) := by decide +kernel
theorem dL_law_1884 : decode cL_law 1884 = .ok (.iload 4, 2) := by decide +kernel
theorem dL_law_1886 : decode cL_law 1886 = .ok (.iconst 1, 1) := by decide +kernel
theorem dL_law_1887 : decode cL_law 1887 = .ok (.iadd, 1) := by decide +kernel
theorem dL_law_1888 : decode cL_law 1888 = .ok (.iaload, 1) := by decide +kernel
theorem dL_law_1889 : decode cL_law 1889 = .ok (.aload_n 0, 1) := by decide +kernel
theorem dL_law_1890 : decode cL_law 1890 = .ok (.iload 4, 2) := by decide +kernel
theorem dL_law_1892 : decode cL_law 1892 = .ok (.iconst 2, 1) := by decide +kernel
theorem dL_law_1893 : decode cL_law 1893 = .ok (.iadd, 1) := by decide +kernel
theorem dL_law_1894 : decode cL_law 1894 = .ok (.iaload, 1) := by decide +kernel
theorem dL_law_1895 : decode cL_law 1895 = .ok (.invokevirtual 244, 3) := by decide +kernel
theorem dL_law_1898 : decode cL_law 1898 = .ok (.istore 6, 2) := by decide +kernel
theorem dL_law_1900 : decode cL_law 1900 = .ok (.aload_n 2, 1) := by decide +kernel
theorem dL_law_1901 : decode cL_law 1901 = .ok (.invokevirtual 156, 3) := by decide +kernel
theorem dL_law_1904 : decode cL_law 1904 = .ok (.iload 5, 2) := by decide +kernel
theorem dL_law_1906 : decode cL_law 1906 = .ok (.if_icmp .eq 5, 3) := by decide +kernel
theorem dL_law_1909 : decode cL_law 1909 = .ok (.iconst 0, 1) := by decide +kernel
theorem dL_law_1910 : decode cL_law 1910 = .ok (.ireturn, 1) := by decide +kernel
theorem dL_law_1911 : decode cL_law 1911 = .ok (.iload 5, 2) := by decide +kernel
theorem dL_law_1913 : decode cL_law 1913 = .ok (.ifCond .ne 15, 3) := by decide +kernel
theorem dL_law_1916 : decode cL_law 1916 = .ok (.aload_n 3, 1) := by decide +kernel
theorem dL_law_1917 : decode cL_law 1917 = .ok (.iconst 0, 1) := by decide +kernel
theorem dL_law_1918 : decode cL_law 1918 = .ok (.laload, 1) := by decide +kernel
theorem dL_law_1919 : decode cL_law 1919 = .ok (.iload 6, 2) := by decide +kernel
theorem dL_law_1921 : decode cL_law 1921 = .ok (.i2l, 1) := by decide +kernel
theorem dL_law_1922 : decode cL_law 1922 = .ok (.lcmp, 1) := by decide +kernel
theorem dL_law_1923 : decode cL_law 1923 = .ok (.ifCond .eq 5, 3) := by decide +kernel
theorem dL_law_1926 : decode cL_law 1926 = .ok (.iconst 0, 1) := by decide +kernel
theorem dL_law_1927 : decode cL_law 1927 = .ok (.ireturn, 1) := by decide +kernel
theorem dL_law_1928 : decode cL_law 1928 = .ok (.goto 571, 3) := by decide +kernel
theorem dL_law_1931 : decode cL_law 1931 = .ok (.aload_n 1, 1) := by decide +kernel
theorem dL_law_1932 : decode cL_law 1932 = .ok (.aload_n 0, 1) := by decide +kernel
theorem dL_law_1933 : decode cL_law 1933 = .ok (.iload 4, 2) := by decide +kernel
theorem dL_law_1935 : decode cL_law 1935 = .ok (.iconst 1, 1) := by decide +kernel
theorem dL_law_1936 : decode cL_law 1936 = .ok (.iadd, 1) := by decide +kernel
theorem dL_law_1937 : decode cL_law 1937 = .ok (.iaload, 1) := by decide +kernel
theorem dL_law_1938 : decode cL_law 1938 = .ok (.aload_n 0, 1) := by decide +kernel
theorem dL_law_1939 : decode cL_law 1939 = .ok (.iload 4, 2) := by decide +kernel
theorem dL_law_1941 : decode cL_law 1941 = .ok (.iconst 2, 1) := by decide +kernel
theorem dL_law_1942 : decode cL_law 1942 = .ok (.iadd, 1) := by decide +kernel
theorem dL_law_1943 : decode cL_law 1943 = .ok (.iaload, 1) := by decide +kernel
theorem dL_law_1944 : decode cL_law 1944 = .ok (.aload_n 0, 1) := by decide +kernel
theorem dL_law_1945 : decode cL_law 1945 = .ok (.iload 4, 2) := by decide +kernel
theorem dL_law_1947 : decode cL_law 1947 = .ok (.iconst 3, 1) := by decide +kernel
theorem dL_law_1948 : decode cL_law 1948 = .ok (.iadd, 1) := by decide +kernel
theorem dL_law_1949 : decode cL_law 1949 = .ok (.iaload, 1) := by decide +kernel
theorem dL_law_1950 : decode cL_law 1950 = .ok (.ifCond .eq 7, 3) := by decide +kernel
theorem dL_law_1953 : decode cL_law 1953 = .ok (.iconst 1, 1) := by decide +kernel
theorem dL_law_1954 : decode cL_law 1954 = .ok (.goto 4, 3) := by decide +kernel
theorem dL_law_1957 : decode cL_law 1957 = .ok (.iconst 0, 1) := by decide +kernel
theorem dL_law_1958 : decode cL_law 1958 = .ok (.aload_n 3, 1) := by decide +kernel
theorem dL_law_1959 : decode cL_law 1959 = .ok (.invokestatic 245, 3) := by decide +kernel
theorem dL_law_1962 : decode cL_law 1962 = .ok (.istore 5, 2) := by decide +kernel
theorem dL_law_1964 : decode cL_law 1964 = .ok (.aload_n 2, 1) := by decide +kernel
theorem dL_law_1965 : decode cL_law 1965 = .ok (.aload_n 0, 1) := by decide +kernel
theorem dL_law_1966 : decode cL_law 1966 = .ok (.iload 4, 2) := by decide +kernel
theorem dL_law_1968 : decode cL_law 1968 = .ok (.iconst 1, 1) := by decide +kernel
theorem dL_law_1969 : decode cL_law 1969 = .ok (.iadd, 1) := by decide +kernel
theorem dL_law_1970 : decode cL_law 1970 = .ok (.iaload, 1) := by decide +kernel
theorem dL_law_1971 : decode cL_law 1971 = .ok (.aload_n 0, 1) := by decide +kernel
theorem dL_law_1972 : decode cL_law 1972 = .ok (.iload 4, 2) := by decide +kernel
theorem dL_law_1974 : decode cL_law 1974 = .ok (.iconst 2, 1) := by decide +kernel
theorem dL_law_1975 : decode cL_law 1975 = .ok (.iadd, 1) := by decide +kernel
theorem dL_law_1976 : decode cL_law 1976 = .ok (.iaload, 1) := by decide +kernel
theorem dL_law_1977 : decode cL_law 1977 = .ok (.aload_n 0, 1) := by decide +kernel
theorem dL_law_1978 : decode cL_law 1978 = .ok (.iload 4, 2) := by decide +kernel
theorem dL_law_1980 : decode cL_law 1980 = .ok (.iconst 3, 1) := by decide +kernel
theorem dL_law_1981 : decode cL_law 1981 = .ok (.iadd, 1) := by decide +kernel
theorem dL_law_1982 : decode cL_law 1982 = .ok (.iaload, 1) := by decide +kernel
theorem dL_law_1983 : decode cL_law 1983 = .ok (.ifCond .eq 7, 3) := by decide +kernel
theorem dL_law_1986 : decode cL_law 1986 = .ok (.iconst 1, 1) := by decide +kernel
theorem dL_law_1987 : decode cL_law 1987 = .ok (.goto 4, 3) := by decide +kernel
theorem dL_law_1990 : decode cL_law 1990 = .ok (.iconst 0, 1) := by decide +kernel
theorem dL_law_1991 : decode cL_law 1991 = .ok (.invokevirtual 248, 3) := by decide +kernel
theorem dL_law_1994 : decode cL_law 1994 = .ok (.istore 6, 2) := by decide +kernel
theorem dL_law_1996 : decode cL_law 1996 = .ok (.aload_n 2, 1) := by decide +kernel
theorem dL_law_1997 : decode cL_law 1997 = .ok (.invokevirtual 156, 3) := by decide +kernel
theorem dL_law_2000 : decode cL_law 2000 = .ok (.iload 5, 2) := by decide +kernel
theorem dL_law_2002 : decode cL_law 2002 = .ok (.if_icmp .eq 5, 3) := by decide +kernel
theorem dL_law_2005 : decode cL_law 2005 = .ok (.iconst 0, 1) := by decide +kernel
theorem dL_law_2006 : decode cL_law 2006 = .ok (.ireturn, 1) := by decide +kernel
theorem dL_law_2007 : decode cL_law 2007 = .ok (.iload 5, 2) := by decide +kernel
theorem dL_law_2009 : decode cL_law 2009 = .ok (.ifCond .ne 15, 3) := by decide +kernel
theorem dL_law_2012 : decode cL_law 2012 = .ok (.aload_n 3, 1) := by decide +kernel
theorem dL_law_2013 : decode cL_law 2013 = .ok (.iconst 0, 1) := by decide +kernel
theorem dL_law_2014 : decode cL_law 2014 = .ok (.laload, 1) := by decide +kernel
theorem dL_law_2015 : decode cL_law 2015 = .ok (.iload 6, 2) := by decide +kernel
theorem dL_law_2017 : decode cL_law 2017 = .ok (.i2l, 1) := by decide +kernel
theorem dL_law_2018 : decode cL_law 2018 = .ok (.lcmp, 1) := by decide +kernel
theorem dL_law_2019 : decode cL_law 2019 = .ok (.ifCond .eq 5, 3) := by decide +kernel
theorem dL_law_2022 : decode cL_law 2022 = .ok (.iconst 0, 1) := by decide +kernel
theorem dL_law_2023 : decode cL_law 2023 = .ok (.ireturn, 1) := by decide +kernel
theorem dL_law_2024 : decode cL_law 2024 = .ok (.goto 475, 3) := by decide +kernel
theorem dL_law_2027 : decode cL_law 2027 = .ok (.aload_n 1, 1) := by decide +kernel
theorem dL_law_2028 : decode cL_law 2028 = .ok (.aload_n 0, 1) := by decide +kernel
theorem dL_law_2029 : decode cL_law 2029 = .ok (.iload 4, 2) := by decide +kernel
theorem dL_law_2031 : decode cL_law 2031 = .ok (.iconst 1, 1) := by decide +kernel
theorem dL_law_2032 : decode cL_law 2032 = .ok (.iadd, 1) := by decide +kernel
theorem dL_law_2033 : decode cL_law 2033 = .ok (.iaload, 1) := by decide +kernel
theorem dL_law_2034 : decode cL_law 2034 = .ok (.aload_n 0, 1) := by decide +kernel
theorem dL_law_2035 : decode cL_law 2035 = .ok (.iload 4, 2) := by decide +kernel
theorem dL_law_2037 : decode cL_law 2037 = .ok (.iconst 2, 1) := by decide +kernel
theorem dL_law_2038 : decode cL_law 2038 = .ok (.iadd, 1) := by decide +kernel
theorem dL_law_2039 : decode cL_law 2039 = .ok (.iaload, 1) := by decide +kernel
theorem dL_law_2040 : decode cL_law 2040 = .ok (.aload_n 3, 1) := by decide +kernel
theorem dL_law_2041 : decode cL_law 2041 = .ok (.invokestatic 249, 3) := by decide +kernel
theorem dL_law_2044 : decode cL_law 2044 = .ok (.istore 5, 2) := by decide +kernel
theorem dL_law_2046 : decode cL_law 2046 = .ok (.aload_n 2, 1) := by decide +kernel
theorem dL_law_2047 : decode cL_law 2047 = .ok (.aload_n 0, 1) := by decide +kernel
theorem dL_law_2048 : decode cL_law 2048 = .ok (.iload 4, 2) := by decide +kernel
theorem dL_law_2050 : decode cL_law 2050 = .ok (.iconst 1, 1) := by decide +kernel
theorem dL_law_2051 : decode cL_law 2051 = .ok (.iadd, 1) := by decide +kernel
theorem dL_law_2052 : decode cL_law 2052 = .ok (.iaload, 1) := by decide +kernel
theorem dL_law_2053 : decode cL_law 2053 = .ok (.aload_n 0, 1) := by decide +kernel
theorem dL_law_2054 : decode cL_law 2054 = .ok (.iload 4, 2) := by decide +kernel
theorem dL_law_2056 : decode cL_law 2056 = .ok (.iconst 2, 1) := by decide +kernel
theorem dL_law_2057 : decode cL_law 2057 = .ok (.iadd, 1) := by decide +kernel
theorem dL_law_2058 : decode cL_law 2058 = .ok (.iaload, 1) := by decide +kernel
theorem dL_law_2059 : decode cL_law 2059 = .ok (.invokevirtual 251, 3) := by decide +kernel
theorem dL_law_2062 : decode cL_law 2062 = .ok (.istore 6, 2) := by decide +kernel
theorem dL_law_2064 : decode cL_law 2064 = .ok (.aload_n 2, 1) := by decide +kernel
theorem dL_law_2065 : decode cL_law 2065 = .ok (.invokevirtual 156, 3) := by decide +kernel
theorem dL_law_2068 : decode cL_law 2068 = .ok (.iload 5, 2) := by decide +kernel
theorem dL_law_2070 : decode cL_law 2070 = .ok (.if_icmp .eq 5, 3) := by decide +kernel
theorem dL_law_2073 : decode cL_law 2073 = .ok (.iconst 0, 1) := by decide +kernel
theorem dL_law_2074 : decode cL_law 2074 = .ok (.ireturn, 1) := by decide +kernel
theorem dL_law_2075 : decode cL_law 2075 = .ok (.iload 5, 2) := by decide +kernel
theorem dL_law_2077 : decode cL_law 2077 = .ok (.ifCond .ne 15, 3) := by decide +kernel
theorem dL_law_2080 : decode cL_law 2080 = .ok (.aload_n 3, 1) := by decide +kernel
theorem dL_law_2081 : decode cL_law 2081 = .ok (.iconst 0, 1) := by decide +kernel
theorem dL_law_2082 : decode cL_law 2082 = .ok (.laload, 1) := by decide +kernel
theorem dL_law_2083 : decode cL_law 2083 = .ok (.iload 6, 2) := by decide +kernel
theorem dL_law_2085 : decode cL_law 2085 = .ok (.i2l, 1) := by decide +kernel
theorem dL_law_2086 : decode cL_law 2086 = .ok (.lcmp, 1) := by decide +kernel
theorem dL_law_2087 : decode cL_law 2087 = .ok (.ifCond .eq 5, 3) := by decide +kernel
theorem dL_law_2090 : decode cL_law 2090 = .ok (.iconst 0, 1) := by decide +kernel
theorem dL_law_2091 : decode cL_law 2091 = .ok (.ireturn, 1) := by decide +kernel
theorem dL_law_2092 : decode cL_law 2092 = .ok (.goto 407, 3) := by decide +kernel
theorem dL_law_2095 : decode cL_law 2095 = .ok (.aload_n 1, 1) := by decide +kernel
theorem dL_law_2096 : decode cL_law 2096 = .ok (.aload_n 0, 1) := by decide +kernel
theorem dL_law_2097 : decode cL_law 2097 = .ok (.iload 4, 2) := by decide +kernel
theorem dL_law_2099 : decode cL_law 2099 = .ok (.iconst 1, 1) := by decide +kernel
theorem dL_law_2100 : decode cL_law 2100 = .ok (.iadd, 1) := by decide +kernel
theorem dL_law_2101 : decode cL_law 2101 = .ok (.iaload, 1) := by decide +kernel
theorem dL_law_2102 : decode cL_law 2102 = .ok (.aload_n 0, 1) := by decide +kernel
theorem dL_law_2103 : decode cL_law 2103 = .ok (.iload 4, 2) := by decide +kernel
theorem dL_law_2105 : decode cL_law 2105 = .ok (.iconst 2, 1) := by decide +kernel
theorem dL_law_2106 : decode cL_law 2106 = .ok (.iadd, 1) := by decide +kernel
theorem dL_law_2107 : decode cL_law 2107 = .ok (.iaload, 1) := by decide +kernel
theorem dL_law_2108 : decode cL_law 2108 = .ok (.aload_n 3, 1) := by decide +kernel
theorem dL_law_2109 : decode cL_law 2109 = .ok (.invokestatic 252, 3) := by decide +kernel
theorem dL_law_2112 : decode cL_law 2112 = .ok (.istore 5, 2) := by decide +kernel
theorem dL_law_2114 : decode cL_law 2114 = .ok (.aload_n 2, 1) := by decide +kernel
theorem dL_law_2115 : decode cL_law 2115 = .ok (.aload_n 0, 1) := by decide +kernel
theorem dL_law_2116 : decode cL_law 2116 = .ok (.iload 4, 2) := by decide +kernel
theorem dL_law_2118 : decode cL_law 2118 = .ok (.iconst 1, 1) := by decide +kernel
theorem dL_law_2119 : decode cL_law 2119 = .ok (.iadd, 1) := by decide +kernel
theorem dL_law_2120 : decode cL_law 2120 = .ok (.iaload, 1) := by decide +kernel
theorem dL_law_2121 : decode cL_law 2121 = .ok (.aload_n 0, 1) := by decide +kernel
theorem dL_law_2122 : decode cL_law 2122 = .ok (.iload 4, 2) := by decide +kernel
theorem dL_law_2124 : decode cL_law 2124 = .ok (.iconst 2, 1) := by decide +kernel
theorem dL_law_2125 : decode cL_law 2125 = .ok (.iadd, 1) := by decide +kernel
theorem dL_law_2126 : decode cL_law 2126 = .ok (.iaload, 1) := by decide +kernel
theorem dL_law_2127 : decode cL_law 2127 = .ok (.invokevirtual 254, 3) := by decide +kernel
theorem dL_law_2130 : decode cL_law 2130 = .ok (.istore 6, 2) := by decide +kernel
theorem dL_law_2132 : decode cL_law 2132 = .ok (.aload_n 2, 1) := by decide +kernel
theorem dL_law_2133 : decode cL_law 2133 = .ok (.invokevirtual 156, 3) := by decide +kernel
theorem dL_law_2136 : decode cL_law 2136 = .ok (.iload 5, 2) := by decide +kernel
theorem dL_law_2138 : decode cL_law 2138 = .ok (.if_icmp .eq 5, 3) := by decide +kernel
theorem dL_law_2141 : decode cL_law 2141 = .ok (.iconst 0, 1) := by decide +kernel
theorem dL_law_2142 : decode cL_law 2142 = .ok (.ireturn, 1) := by decide +kernel
theorem dL_law_2143 : decode cL_law 2143 = .ok (.iload 5, 2) := by decide +kernel
theorem dL_law_2145 : decode cL_law 2145 = .ok (.ifCond .ne 15, 3) := by decide +kernel
theorem dL_law_2148 : decode cL_law 2148 = .ok (.aload_n 3, 1) := by decide +kernel
theorem dL_law_2149 : decode cL_law 2149 = .ok (.iconst 0, 1) := by decide +kernel
theorem dL_law_2150 : decode cL_law 2150 = .ok (.laload, 1) := by decide +kernel
theorem dL_law_2151 : decode cL_law 2151 = .ok (.iload 6, 2) := by decide +kernel
theorem dL_law_2153 : decode cL_law 2153 = .ok (.i2l, 1) := by decide +kernel
theorem dL_law_2154 : decode cL_law 2154 = .ok (.lcmp, 1) := by decide +kernel
theorem dL_law_2155 : decode cL_law 2155 = .ok (.ifCond .eq 5, 3) := by decide +kernel
theorem dL_law_2158 : decode cL_law 2158 = .ok (.iconst 0, 1) := by decide +kernel
theorem dL_law_2159 : decode cL_law 2159 = .ok (.ireturn, 1) := by decide +kernel
theorem dL_law_2160 : decode cL_law 2160 = .ok (.goto 339, 3) := by decide +kernel
theorem dL_law_2163 : decode cL_law 2163 = .ok (.aload_n 1, 1) := by decide +kernel
theorem dL_law_2164 : decode cL_law 2164 = .ok (.aload_n 0, 1) := by decide +kernel
theorem dL_law_2165 : decode cL_law 2165 = .ok (.iload 4, 2) := by decide +kernel
theorem dL_law_2167 : decode cL_law 2167 = .ok (.iconst 1, 1) := by decide +kernel
theorem dL_law_2168 : decode cL_law 2168 = .ok (.iadd, 1) := by decide +kernel
theorem dL_law_2169 : decode cL_law 2169 = .ok (.iaload, 1) := by decide +kernel
theorem dL_law_2170 : decode cL_law 2170 = .ok (.aload_n 0, 1) := by decide +kernel
theorem dL_law_2171 : decode cL_law 2171 = .ok (.iload 4, 2) := by decide +kernel
theorem dL_law_2173 : decode cL_law 2173 = .ok (.iconst 2, 1) := by decide +kernel
theorem dL_law_2174 : decode cL_law 2174 = .ok (.iadd, 1) := by decide +kernel
theorem dL_law_2175 : decode cL_law 2175 = .ok (.iaload, 1) := by decide +kernel
theorem dL_law_2176 : decode cL_law 2176 = .ok (.aload_n 3, 1) := by decide +kernel
theorem dL_law_2177 : decode cL_law 2177 = .ok (.invokestatic 255, 3) := by decide +kernel
theorem dL_law_2180 : decode cL_law 2180 = .ok (.istore 5, 2) := by decide +kernel
theorem dL_law_2182 : decode cL_law 2182 = .ok (.aload_n 2, 1) := by decide +kernel
theorem dL_law_2183 : decode cL_law 2183 = .ok (.aload_n 0, 1) := by decide +kernel
theorem dL_law_2184 : decode cL_law 2184 = .ok (.iload 4, 2) := by decide +kernel
theorem dL_law_2186 : decode cL_law 2186 = .ok (.iconst 1, 1) := by decide +kernel
theorem dL_law_2187 : decode cL_law 2187 = .ok (.iadd, 1) := by decide +kernel
theorem dL_law_2188 : decode cL_law 2188 = .ok (.iaload, 1) := by decide +kernel
theorem dL_law_2189 : decode cL_law 2189 = .ok (.aload_n 0, 1) := by decide +kernel
theorem dL_law_2190 : decode cL_law 2190 = .ok (.iload 4, 2) := by decide +kernel
theorem dL_law_2192 : decode cL_law 2192 = .ok (.iconst 2, 1) := by decide +kernel
theorem dL_law_2193 : decode cL_law 2193 = .ok (.iadd, 1) := by decide +kernel
theorem dL_law_2194 : decode cL_law 2194 = .ok (.iaload, 1) := by decide +kernel
theorem dL_law_2195 : decode cL_law 2195 = .ok (.invokevirtual 257, 3) := by decide +kernel
theorem dL_law_2198 : decode cL_law 2198 = .ok (.istore 6, 2) := by decide +kernel
theorem dL_law_2200 : decode cL_law 2200 = .ok (.aload_n 2, 1) := by decide +kernel
theorem dL_law_2201 : decode cL_law 2201 = .ok (.invokevirtual 156, 3) := by decide +kernel
theorem dL_law_2204 : decode cL_law 2204 = .ok (.iload 5, 2) := by decide +kernel
theorem dL_law_2206 : decode cL_law 2206 = .ok (.if_icmp .eq 5, 3) := by decide +kernel
theorem dL_law_2209 : decode cL_law 2209 = .ok (.iconst 0, 1) := by decide +kernel
theorem dL_law_2210 : decode cL_law 2210 = .ok (.ireturn, 1) := by decide +kernel
theorem dL_law_2211 : decode cL_law 2211 = .ok (.iload 5, 2) := by decide +kernel
theorem dL_law_2213 : decode cL_law 2213 = .ok (.ifCond .ne 15, 3) := by decide +kernel
theorem dL_law_2216 : decode cL_law 2216 = .ok (.aload_n 3, 1) := by decide +kernel
theorem dL_law_2217 : decode cL_law 2217 = .ok (.iconst 0, 1) := by decide +kernel
theorem dL_law_2218 : decode cL_law 2218 = .ok (.laload, 1) := by decide +kernel
theorem dL_law_2219 : decode cL_law 2219 = .ok (.iload 6, 2) := by decide +kernel
theorem dL_law_2221 : decode cL_law 2221 = .ok (.i2l, 1) := by decide +kernel
theorem dL_law_2222 : decode cL_law 2222 = .ok (.lcmp, 1) := by decide +kernel
theorem dL_law_2223 : decode cL_law 2223 = .ok (.ifCond .eq 5, 3) := by decide +kernel
theorem dL_law_2226 : decode cL_law 2226 = .ok (.iconst 0, 1) := by decide +kernel
theorem dL_law_2227 : decode cL_law 2227 = .ok (.ireturn, 1) := by decide +kernel
theorem dL_law_2228 : decode cL_law 2228 = .ok (.goto 271, 3) := by decide +kernel
theorem dL_law_2231 : decode cL_law 2231 = .ok (.aload_n 1, 1) := by decide +kernel
theorem dL_law_2232 : decode cL_law 2232 = .ok (.aload_n 0, 1) := by decide +kernel
theorem dL_law_2233 : decode cL_law 2233 = .ok (.iload 4, 2) := by decide +kernel
theorem dL_law_2235 : decode cL_law 2235 = .ok (.iconst 1, 1) := by decide +kernel
theorem dL_law_2236 : decode cL_law 2236 = .ok (.iadd, 1) := by decide +kernel
theorem dL_law_2237 : decode cL_law 2237 = .ok (.iaload, 1) := by decide +kernel
theorem dL_law_2238 : decode cL_law 2238 = .ok (.aload_n 0, 1) := by decide +kernel
theorem dL_law_2239 : decode cL_law 2239 = .ok (.iload 4, 2) := by decide +kernel
theorem dL_law_2241 : decode cL_law 2241 = .ok (.iconst 2, 1) := by decide +kernel
theorem dL_law_2242 : decode cL_law 2242 = .ok (.iadd, 1) := by decide +kernel
theorem dL_law_2243 : decode cL_law 2243 = .ok (.iaload, 1) := by decide +kernel
theorem dL_law_2244 : decode cL_law 2244 = .ok (.aload_n 3, 1) := by decide +kernel
theorem dL_law_2245 : decode cL_law 2245 = .ok (.invokestatic 258, 3) := by decide +kernel
theorem dL_law_2248 : decode cL_law 2248 = .ok (.istore 5, 2) := by decide +kernel
theorem dL_law_2250 : decode cL_law 2250 = .ok (.aload_n 2, 1) := by decide +kernel
theorem dL_law_2251 : decode cL_law 2251 = .ok (.aload_n 0, 1) := by decide +kernel
theorem dL_law_2252 : decode cL_law 2252 = .ok (.iload 4, 2) := by decide +kernel
theorem dL_law_2254 : decode cL_law 2254 = .ok (.iconst 1, 1) := by decide +kernel
theorem dL_law_2255 : decode cL_law 2255 = .ok (.iadd, 1) := by decide +kernel
theorem dL_law_2256 : decode cL_law 2256 = .ok (.iaload, 1) := by decide +kernel
theorem dL_law_2257 : decode cL_law 2257 = .ok (.aload_n 0, 1) := by decide +kernel
theorem dL_law_2258 : decode cL_law 2258 = .ok (.iload 4, 2) := by decide +kernel
theorem dL_law_2260 : decode cL_law 2260 = .ok (.iconst 2, 1) := by decide +kernel
theorem dL_law_2261 : decode cL_law 2261 = .ok (.iadd, 1) := by decide +kernel
theorem dL_law_2262 : decode cL_law 2262 = .ok (.iaload, 1) := by decide +kernel
theorem dL_law_2263 : decode cL_law 2263 = .ok (.invokevirtual 260, 3) := by decide +kernel
theorem dL_law_2266 : decode cL_law 2266 = .ok (.istore 6, 2) := by decide +kernel
theorem dL_law_2268 : decode cL_law 2268 = .ok (.aload_n 2, 1) := by decide +kernel
theorem dL_law_2269 : decode cL_law 2269 = .ok (.invokevirtual 156, 3) := by decide +kernel
theorem dL_law_2272 : decode cL_law 2272 = .ok (.iload 5, 2) := by decide +kernel
theorem dL_law_2274 : decode cL_law 2274 = .ok (.if_icmp .eq 5, 3) := by decide +kernel
theorem dL_law_2277 : decode cL_law 2277 = .ok (.iconst 0, 1) := by decide +kernel
theorem dL_law_2278 : decode cL_law 2278 = .ok (.ireturn, 1) := by decide +kernel
theorem dL_law_2279 : decode cL_law 2279 = .ok (.iload 5, 2) := by decide +kernel
theorem dL_law_2281 : decode cL_law 2281 = .ok (.ifCond .ne 15, 3) := by decide +kernel
theorem dL_law_2284 : decode cL_law 2284 = .ok (.aload_n 3, 1) := by decide +kernel
theorem dL_law_2285 : decode cL_law 2285 = .ok (.iconst 0, 1) := by decide +kernel
theorem dL_law_2286 : decode cL_law 2286 = .ok (.laload, 1) := by decide +kernel
theorem dL_law_2287 : decode cL_law 2287 = .ok (.iload 6, 2) := by decide +kernel
theorem dL_law_2289 : decode cL_law 2289 = .ok (.i2l, 1) := by decide +kernel
theorem dL_law_2290 : decode cL_law 2290 = .ok (.lcmp, 1) := by decide +kernel
theorem dL_law_2291 : decode cL_law 2291 = .ok (.ifCond .eq 5, 3) := by decide +kernel
theorem dL_law_2294 : decode cL_law 2294 = .ok (.iconst 0, 1) := by decide +kernel
theorem dL_law_2295 : decode cL_law 2295 = .ok (.ireturn, 1) := by decide +kernel
theorem dL_law_2296 : decode cL_law 2296 = .ok (.goto 203, 3) := by decide +kernel
theorem dL_law_2299 : decode cL_law 2299 = .ok (.aload_n 1, 1) := by decide +kernel
theorem dL_law_2300 : decode cL_law 2300 = .ok (.aload_n 3, 1) := by decide +kernel
theorem dL_law_2301 : decode cL_law 2301 = .ok (.invokestatic 261, 3) := by decide +kernel
theorem dL_law_2304 : decode cL_law 2304 = .ok (.istore 5, 2) := by decide +kernel
theorem dL_law_2306 : decode cL_law 2306 = .ok (.aload_n 2, 1) := by decide +kernel
theorem dL_law_2307 : decode cL_law 2307 = .ok (.invokevirtual 263, 3) := by decide +kernel
theorem dL_law_2310 : decode cL_law 2310 = .ok (.istore 6, 2) := by decide +kernel
theorem dL_law_2312 : decode cL_law 2312 = .ok (.aload_n 2, 1) := by decide +kernel
theorem dL_law_2313 : decode cL_law 2313 = .ok (.invokevirtual 156, 3) := by decide +kernel
theorem dL_law_2316 : decode cL_law 2316 = .ok (.iload 5, 2) := by decide +kernel
theorem dL_law_2318 : decode cL_law 2318 = .ok (.if_icmp .eq 5, 3) := by decide +kernel
theorem dL_law_2321 : decode cL_law 2321 = .ok (.iconst 0, 1) := by decide +kernel
theorem dL_law_2322 : decode cL_law 2322 = .ok (.ireturn, 1) := by decide +kernel
theorem dL_law_2323 : decode cL_law 2323 = .ok (.iload 5, 2) := by decide +kernel
theorem dL_law_2325 : decode cL_law 2325 = .ok (.ifCond .ne 15, 3) := by decide +kernel
theorem dL_law_2328 : decode cL_law 2328 = .ok (.aload_n 3, 1) := by decide +kernel
theorem dL_law_2329 : decode cL_law 2329 = .ok (.iconst 0, 1) := by decide +kernel
theorem dL_law_2330 : decode cL_law 2330 = .ok (.laload, 1) := by decide +kernel
theorem dL_law_2331 : decode cL_law 2331 = .ok (.iload 6, 2) := by decide +kernel
theorem dL_law_2333 : decode cL_law 2333 = .ok (.i2l, 1) := by decide +kernel
theorem dL_law_2334 : decode cL_law 2334 = .ok (.lcmp, 1) := by decide +kernel
theorem dL_law_2335 : decode cL_law 2335 = .ok (.ifCond .eq 5, 3) := by decide +kernel
theorem dL_law_2338 : decode cL_law 2338 = .ok (.iconst 0, 1) := by decide +kernel
theorem dL_law_2339 : decode cL_law 2339 = .ok (.ireturn, 1) := by decide +kernel
theorem dL_law_2340 : decode cL_law 2340 = .ok (.goto 159, 3) := by decide +kernel
theorem dL_law_2343 : decode cL_law 2343 = .ok (.aload_n 1, 1) := by decide +kernel
theorem dL_law_2344 : decode cL_law 2344 = .ok (.aload_n 0, 1) := by decide +kernel
theorem dL_law_2345 : decode cL_law 2345 = .ok (.iload 4, 2) := by decide +kernel
theorem dL_law_2347 : decode cL_law 2347 = .ok (.iconst 1, 1) := by decide +kernel
theorem dL_law_2348 : decode cL_law 2348 = .ok (.iadd, 1) := by decide +kernel
theorem dL_law_2349 : decode cL_law 2349 = .ok (.iaload, 1) := by decide +kernel
theorem dL_law_2350 : decode cL_law 2350 = .ok (.aload_n 3, 1) := by decide +kernel
theorem dL_law_2351 : decode cL_law 2351 = .ok (.invokestatic 264, 3) := by decide +kernel
theorem dL_law_2354 : decode cL_law 2354 = .ok (.istore 5, 2) := by decide +kernel
theorem dL_law_2356 : decode cL_law 2356 = .ok (.aload_n 2, 1) := by decide +kernel
theorem dL_law_2357 : decode cL_law 2357 = .ok (.aload_n 0, 1) := by decide +kernel
theorem dL_law_2358 : decode cL_law 2358 = .ok (.iload 4, 2) := by decide +kernel
theorem dL_law_2360 : decode cL_law 2360 = .ok (.iconst 1, 1) := by decide +kernel
theorem dL_law_2361 : decode cL_law 2361 = .ok (.iadd, 1) := by decide +kernel
theorem dL_law_2362 : decode cL_law 2362 = .ok (.iaload, 1) := by decide +kernel
theorem dL_law_2363 : decode cL_law 2363 = .ok (.invokevirtual 266, 3) := by decide +kernel
theorem dL_law_2366 : decode cL_law 2366 = .ok (.istore 6, 2) := by decide +kernel
theorem dL_law_2368 : decode cL_law 2368 = .ok (.aload_n 2, 1) := by decide +kernel
theorem dL_law_2369 : decode cL_law 2369 = .ok (.invokevirtual 156, 3) := by decide +kernel
theorem dL_law_2372 : decode cL_law 2372 = .ok (.iload 5, 2) := by decide +kernel
theorem dL_law_2374 : decode cL_law 2374 = .ok (.if_icmp .eq 5, 3) := by decide +kernel
theorem dL_law_2377 : decode cL_law 2377 = .ok (.iconst 0, 1) := by decide +kernel
theorem dL_law_2378 : decode cL_law 2378 = .ok (.ireturn, 1) := by decide +kernel
theorem dL_law_2379 : decode cL_law 2379 = .ok (.iload 5, 2) := by decide +kernel
theorem dL_law_2381 : decode cL_law 2381 = .ok (.ifCond .ne 15, 3) := by decide +kernel
theorem dL_law_2384 : decode cL_law 2384 = .ok (.aload_n 3, 1) := by decide +kernel
theorem dL_law_2385 : decode cL_law 2385 = .ok (.iconst 0, 1) := by decide +kernel
theorem dL_law_2386 : decode cL_law 2386 = .ok (.laload, 1) := by decide +kernel
theorem dL_law_2387 : decode cL_law 2387 = .ok (.iload 6, 2) := by decide +kernel
theorem dL_law_2389 : decode cL_law 2389 = .ok (.i2l, 1) := by decide +kernel
theorem dL_law_2390 : decode cL_law 2390 = .ok (.lcmp, 1) := by decide +kernel
theorem dL_law_2391 : decode cL_law 2391 = .ok (.ifCond .eq 5, 3) := by decide +kernel
theorem dL_law_2394 : decode cL_law 2394 = .ok (.iconst 0, 1) := by decide +kernel
theorem dL_law_2395 : decode cL_law 2395 = .ok (.ireturn, 1) := by decide +kernel
theorem dL_law_2396 : decode cL_law 2396 = .ok (.goto 103, 3) := by decide +kernel
theorem dL_law_2399 : decode cL_law 2399 = .ok (.aload_n 1, 1) := by decide +kernel
theorem dL_law_2400 : decode cL_law 2400 = .ok (.aload_n 3, 1) := by decide +kernel
theorem dL_law_2401 : decode cL_law 2401 = .ok (.invokestatic 267, 3) := by decide +kernel
theorem dL_law_2404 : decode cL_law 2404 = .ok (.istore 5, 2) := by decide +kernel
theorem dL_law_2406 : decode cL_law 2406 = .ok (.aload_n 2, 1) := by decide +kernel
theorem dL_law_2407 : decode cL_law 2407 = .ok (.invokevirtual 269, 3) := by decide +kernel
theorem dL_law_2410 : decode cL_law 2410 = .ok (.istore 6, 2) := by decide +kernel
theorem dL_law_2412 : decode cL_law 2412 = .ok (.aload_n 2, 1) := by decide +kernel
theorem dL_law_2413 : decode cL_law 2413 = .ok (.invokevirtual 156, 3) := by decide +kernel
theorem dL_law_2416 : decode cL_law 2416 = .ok (.iload 5, 2) := by decide +kernel
theorem dL_law_2418 : decode cL_law 2418 = .ok (.if_icmp .eq 5, 3) := by decide +kernel
theorem dL_law_2421 : decode cL_law 2421 = .ok (.iconst 0, 1) := by decide +kernel
theorem dL_law_2422 : decode cL_law 2422 = .ok (.ireturn, 1) := by decide +kernel
theorem dL_law_2423 : decode cL_law 2423 = .ok (.iload 5, 2) := by decide +kernel
theorem dL_law_2425 : decode cL_law 2425 = .ok (.ifCond .ne 15, 3) := by decide +kernel
theorem dL_law_2428 : decode cL_law 2428 = .ok (.aload_n 3, 1) := by decide +kernel
theorem dL_law_2429 : decode cL_law 2429 = .ok (.iconst 0, 1) := by decide +kernel
theorem dL_law_2430 : decode cL_law 2430 = .ok (.laload, 1) := by decide +kernel
theorem dL_law_2431 : decode cL_law 2431 = .ok (.iload 6, 2) := by decide +kernel
theorem dL_law_2433 : decode cL_law 2433 = .ok (.i2l, 1) := by decide +kernel
theorem dL_law_2434 : decode cL_law 2434 = .ok (.lcmp, 1) := by decide +kernel
theorem dL_law_2435 : decode cL_law 2435 = .ok (.ifCond .eq 5, 3) := by decide +kernel
theorem dL_law_2438 : decode cL_law 2438 = .ok (.iconst 0, 1) := by decide +kernel
theorem dL_law_2439 : decode cL_law 2439 = .ok (.ireturn, 1) := by decide +kernel
theorem dL_law_2440 : decode cL_law 2440 = .ok (.goto 59, 3) := by decide +kernel
theorem dL_law_2443 : decode cL_law 2443 = .ok (.aload_n 1, 1) := by decide +kernel
theorem dL_law_2444 : decode cL_law 2444 = .ok (.aload_n 0, 1) := by decide +kernel
theorem dL_law_2445 : decode cL_law 2445 = .ok (.iload 4, 2) := by decide +kernel
theorem dL_law_2447 : decode cL_law 2447 = .ok (.iconst 1, 1) := by decide +kernel
theorem dL_law_2448 : decode cL_law 2448 = .ok (.iadd, 1) := by decide +kernel
theorem dL_law_2449 : decode cL_law 2449 = .ok (.iaload, 1) := by decide +kernel
theorem dL_law_2450 : decode cL_law 2450 = .ok (.aload_n 3, 1) := by decide +kernel
theorem dL_law_2451 : decode cL_law 2451 = .ok (.invokestatic 270, 3) := by decide +kernel
theorem dL_law_2454 : decode cL_law 2454 = .ok (.istore 5, 2) := by decide +kernel
theorem dL_law_2456 : decode cL_law 2456 = .ok (.aload_n 2, 1) := by decide +kernel
theorem dL_law_2457 : decode cL_law 2457 = .ok (.aload_n 0, 1) := by decide +kernel
theorem dL_law_2458 : decode cL_law 2458 = .ok (.iload 4, 2) := by decide +kernel
theorem dL_law_2460 : decode cL_law 2460 = .ok (.iconst 1, 1) := by decide +kernel
theorem dL_law_2461 : decode cL_law 2461 = .ok (.iadd, 1) := by decide +kernel
theorem dL_law_2462 : decode cL_law 2462 = .ok (.iaload, 1) := by decide +kernel
theorem dL_law_2463 : decode cL_law 2463 = .ok (.invokevirtual 272, 3) := by decide +kernel
theorem dL_law_2466 : decode cL_law 2466 = .ok (.istore 6, 2) := by decide +kernel
theorem dL_law_2468 : decode cL_law 2468 = .ok (.aload_n 2, 1) := by decide +kernel
theorem dL_law_2469 : decode cL_law 2469 = .ok (.invokevirtual 156, 3) := by decide +kernel
theorem dL_law_2472 : decode cL_law 2472 = .ok (.iload 5, 2) := by decide +kernel
theorem dL_law_2474 : decode cL_law 2474 = .ok (.if_icmp .eq 5, 3) := by decide +kernel
theorem dL_law_2477 : decode cL_law 2477 = .ok (.iconst 0, 1) := by decide +kernel
theorem dL_law_2478 : decode cL_law 2478 = .ok (.ireturn, 1) := by decide +kernel
theorem dL_law_2479 : decode cL_law 2479 = .ok (.iload 5, 2) := by decide +kernel
theorem dL_law_2481 : decode cL_law 2481 = .ok (.ifCond .ne 15, 3) := by decide +kernel
theorem dL_law_2484 : decode cL_law 2484 = .ok (.aload_n 3, 1) := by decide +kernel
theorem dL_law_2485 : decode cL_law 2485 = .ok (.iconst 0, 1) := by decide +kernel
theorem dL_law_2486 : decode cL_law 2486 = .ok (.laload, 1) := by decide +kernel
theorem dL_law_2487 : decode cL_law 2487 = .ok (.iload 6, 2) := by decide +kernel
theorem dL_law_2489 : decode cL_law 2489 = .ok (.i2l, 1) := by decide +kernel
theorem dL_law_2490 : decode cL_law 2490 = .ok (.lcmp, 1) := by decide +kernel
theorem dL_law_2491 : decode cL_law 2491 = .ok (.ifCond .eq 5, 3) := by decide +kernel
theorem dL_law_2494 : decode cL_law 2494 = .ok (.iconst 0, 1) := by decide +kernel
theorem dL_law_2495 : decode cL_law 2495 = .ok (.ireturn, 1) := by decide +kernel
theorem dL_law_2496 : decode cL_law 2496 = .ok (.goto 3, 3) := by decide +kernel
theorem dL_law_2499 : decode cL_law 2499 = .ok (.iinc 4 5, 3) := by decide +kernel
theorem dL_law_2502 : decode cL_law 2502 = .ok (.goto (-2459), 3) := by decide +kernel
theorem dL_law_2505 : decode cL_law 2505 = .ok (.iconst 1, 1) := by decide +kernel
theorem dL_law_2506 : decode cL_law 2506 = .ok (.ireturn, 1) := by decide +kernel
end
