section
-- ===== PART A: goes FIRST, ahead of the names: the tables' words, and 'selects' of the private methods out of them =====
/-- a private method of a class that the tables say can be made, by its rows of tables_1 -/
def lw_okq (q : MethodName × Nat) : Prop := (q.1.cls ≠ "java/lang/invoke/MethodHandle" ∧ q.1.cls ≠ "java/lang/invoke/VarHandle") ∧ Cond.instantiable q.1.cls q.2 ∈ tables_1 ∧ Cond.privateMethod q.1 ∈ tables_1 ∧ Cond.instanceMethod q.1 ∈ tables_1
theorem lw_p0 : lw_okq (⟨"ByteFields$Field", "leastGenerator", "()I"⟩, 6) := ⟨⟨by decide +kernel, by decide +kernel⟩, List.mem_of_getElem? (i := 64) (by decide +kernel), List.mem_of_getElem? (i := 86) (by decide +kernel), List.mem_of_getElem? (i := 87) (by decide +kernel)⟩
theorem lw_p1 : lw_okq (⟨"ByteFields$Field", "generates", "(I)Z"⟩, 6) := ⟨⟨by decide +kernel, by decide +kernel⟩, List.mem_of_getElem? (i := 64) (by decide +kernel), List.mem_of_getElem? (i := 90) (by decide +kernel), List.mem_of_getElem? (i := 91) (by decide +kernel)⟩
theorem lw_p2 : lw_okq (⟨"ByteFields$Field", "slowPower", "(II)I"⟩, 6) := ⟨⟨by decide +kernel, by decide +kernel⟩, List.mem_of_getElem? (i := 64) (by decide +kernel), List.mem_of_getElem? (i := 96) (by decide +kernel), List.mem_of_getElem? (i := 97) (by decide +kernel)⟩
theorem lw_p3 : lw_okq (⟨"ByteFields$Field", "slowProduct", "(II)I"⟩, 6) := ⟨⟨by decide +kernel, by decide +kernel⟩, List.mem_of_getElem? (i := 64) (by decide +kernel), List.mem_of_getElem? (i := 100) (by decide +kernel), List.mem_of_getElem? (i := 101) (by decide +kernel)⟩
theorem lw_p4 : lw_okq (⟨"ByteFields$Roots", "valueAt", "(II)I"⟩, 7) := ⟨⟨by decide +kernel, by decide +kernel⟩, List.mem_of_getElem? (i := 199) (by decide +kernel), List.mem_of_getElem? (i := 207) (by decide +kernel), List.mem_of_getElem? (i := 208) (by decide +kernel)⟩
theorem lw_p5 : lw_okq (⟨"ByteFields", "needMember", "(I)V"⟩, 17) := ⟨⟨by decide +kernel, by decide +kernel⟩, List.mem_of_getElem? (i := 26) (by decide +kernel), List.mem_of_getElem? (i := 340) (by decide +kernel), List.mem_of_getElem? (i := 341) (by decide +kernel)⟩
theorem lw_p6 : lw_okq (⟨"java/lang/Throwable", "fillInStackTrace", "(I)Ljava/lang/Throwable;"⟩, 6) := ⟨⟨by decide +kernel, by decide +kernel⟩, List.mem_of_getElem? (i := 385) (by decide +kernel), List.mem_of_getElem? (i := 383) (by decide +kernel), List.mem_of_getElem? (i := 384) (by decide +kernel)⟩
theorem lw_p7 : lw_okq (⟨"ByteFields", "needMatrixRoom", "()V"⟩, 17) := ⟨⟨by decide +kernel, by decide +kernel⟩, List.mem_of_getElem? (i := 26) (by decide +kernel), List.mem_of_getElem? (i := 567) (by decide +kernel), List.mem_of_getElem? (i := 568) (by decide +kernel)⟩
theorem lw_p8 : lw_okq (⟨"ByteFields", "keepMatrix", "(LByteFields$Matrix;)I"⟩, 17) := ⟨⟨by decide +kernel, by decide +kernel⟩, List.mem_of_getElem? (i := 26) (by decide +kernel), List.mem_of_getElem? (i := 596) (by decide +kernel), List.mem_of_getElem? (i := 597) (by decide +kernel)⟩
theorem lw_p9 : lw_okq (⟨"ByteFields", "hasAlike", "(I)Z"⟩, 17) := ⟨⟨by decide +kernel, by decide +kernel⟩, List.mem_of_getElem? (i := 26) (by decide +kernel), List.mem_of_getElem? (i := 608) (by decide +kernel), List.mem_of_getElem? (i := 609) (by decide +kernel)⟩
theorem lw_p10 : lw_okq (⟨"ByteFields", "matrixAt", "(I)LByteFields$Matrix;"⟩, 17) := ⟨⟨by decide +kernel, by decide +kernel⟩, List.mem_of_getElem? (i := 26) (by decide +kernel), List.mem_of_getElem? (i := 644) (by decide +kernel), List.mem_of_getElem? (i := 645) (by decide +kernel)⟩
theorem lw_p11 : lw_okq (⟨"ByteFields$Elimination", "rowWithMember", "(I)I"⟩, 7) := ⟨⟨by decide +kernel, by decide +kernel⟩, List.mem_of_getElem? (i := 128) (by decide +kernel), List.mem_of_getElem? (i := 706) (by decide +kernel), List.mem_of_getElem? (i := 707) (by decide +kernel)⟩
theorem lw_p12 : lw_okq (⟨"ByteFields$Elimination", "exchange", "(II)V"⟩, 7) := ⟨⟨by decide +kernel, by decide +kernel⟩, List.mem_of_getElem? (i := 128) (by decide +kernel), List.mem_of_getElem? (i := 710) (by decide +kernel), List.mem_of_getElem? (i := 711) (by decide +kernel)⟩
theorem lw_p13 : lw_okq (⟨"ByteFields$Elimination", "free", "(I)V"⟩, 7) := ⟨⟨by decide +kernel, by decide +kernel⟩, List.mem_of_getElem? (i := 128) (by decide +kernel), List.mem_of_getElem? (i := 715) (by decide +kernel), List.mem_of_getElem? (i := 716) (by decide +kernel)⟩
theorem lw_p14 : lw_okq (⟨"ByteFields$Minors", "addRow", "(LByteFields$Matrix;II)I"⟩, 2) := ⟨⟨by decide +kernel, by decide +kernel⟩, List.mem_of_getElem? (i := 159) (by decide +kernel), List.mem_of_getElem? (i := 763) (by decide +kernel), List.mem_of_getElem? (i := 764) (by decide +kernel)⟩
theorem lw_p15 : lw_okq (⟨"ByteFields$Minors", "expanded", "(LByteFields$Matrix;II[I)I"⟩, 2) := ⟨⟨by decide +kernel, by decide +kernel⟩, List.mem_of_getElem? (i := 159) (by decide +kernel), List.mem_of_getElem? (i := 767) (by decide +kernel), List.mem_of_getElem? (i := 768) (by decide +kernel)⟩
def lw_privs_1 : List (MethodName × Nat) := [(⟨"ByteFields$Field", "leastGenerator", "()I"⟩, 6), (⟨"ByteFields$Field", "generates", "(I)Z"⟩, 6), (⟨"ByteFields$Field", "slowPower", "(II)I"⟩, 6), (⟨"ByteFields$Field", "slowProduct", "(II)I"⟩, 6), (⟨"ByteFields$Roots", "valueAt", "(II)I"⟩, 7), (⟨"ByteFields", "needMember", "(I)V"⟩, 17), (⟨"java/lang/Throwable", "fillInStackTrace", "(I)Ljava/lang/Throwable;"⟩, 6), (⟨"ByteFields", "needMatrixRoom", "()V"⟩, 17), (⟨"ByteFields", "keepMatrix", "(LByteFields$Matrix;)I"⟩, 17), (⟨"ByteFields", "hasAlike", "(I)Z"⟩, 17), (⟨"ByteFields", "matrixAt", "(I)LByteFields$Matrix;"⟩, 17), (⟨"ByteFields$Elimination", "rowWithMember", "(I)I"⟩, 7), (⟨"ByteFields$Elimination", "exchange", "(II)V"⟩, 7), (⟨"ByteFields$Elimination", "free", "(I)V"⟩, 7), (⟨"ByteFields$Minors", "addRow", "(LByteFields$Matrix;II)I"⟩, 2), (⟨"ByteFields$Minors", "expanded", "(LByteFields$Matrix;II[I)I"⟩, 2)]
theorem lw_r1 : ∀ q ∈ lw_privs_1, lw_okq q := List.forall_mem_cons.mpr ⟨lw_p0, List.forall_mem_cons.mpr ⟨lw_p1, List.forall_mem_cons.mpr ⟨lw_p2, List.forall_mem_cons.mpr ⟨lw_p3, List.forall_mem_cons.mpr ⟨lw_p4, List.forall_mem_cons.mpr ⟨lw_p5, List.forall_mem_cons.mpr ⟨lw_p6, List.forall_mem_cons.mpr ⟨lw_p7, List.forall_mem_cons.mpr ⟨lw_p8, List.forall_mem_cons.mpr ⟨lw_p9, List.forall_mem_cons.mpr ⟨lw_p10, List.forall_mem_cons.mpr ⟨lw_p11, List.forall_mem_cons.mpr ⟨lw_p12, List.forall_mem_cons.mpr ⟨lw_p13, List.forall_mem_cons.mpr ⟨lw_p14, List.forall_mem_cons.mpr ⟨lw_p15, fun _ h => absurd h List.not_mem_nil⟩⟩⟩⟩⟩⟩⟩⟩⟩⟩⟩⟩⟩⟩⟩⟩
theorem lw_p16 : lw_okq (⟨"ByteFields", "needPolynomialRoom", "()V"⟩, 17) := ⟨⟨by decide +kernel, by decide +kernel⟩, List.mem_of_getElem? (i := 26) (by decide +kernel), List.mem_of_getElem? (i := 800) (by decide +kernel), List.mem_of_getElem? (i := 801) (by decide +kernel)⟩
theorem lw_p17 : lw_okq (⟨"ByteFields", "keepPolynomial", "(LByteFields$Polynomial;)I"⟩, 17) := ⟨⟨by decide +kernel, by decide +kernel⟩, List.mem_of_getElem? (i := 26) (by decide +kernel), List.mem_of_getElem? (i := 818) (by decide +kernel), List.mem_of_getElem? (i := 819) (by decide +kernel)⟩
theorem lw_p18 : lw_okq (⟨"ByteFields$Interpolation", "multiplyAndAdd", "(LByteFields$Polynomial;II)V"⟩, 3) := ⟨⟨by decide +kernel, by decide +kernel⟩, List.mem_of_getElem? (i := 183) (by decide +kernel), List.mem_of_getElem? (i := 845) (by decide +kernel), List.mem_of_getElem? (i := 846) (by decide +kernel)⟩
theorem lw_p19 : lw_okq (⟨"ByteFields", "polynomialAt", "(I)LByteFields$Polynomial;"⟩, 17) := ⟨⟨by decide +kernel, by decide +kernel⟩, List.mem_of_getElem? (i := 26) (by decide +kernel), List.mem_of_getElem? (i := 858) (by decide +kernel), List.mem_of_getElem? (i := 859) (by decide +kernel)⟩
theorem lw_p20 : lw_okq (⟨"ByteFields", "valueOf", "(LByteFields$Polynomial;I)I"⟩, 17) := ⟨⟨by decide +kernel, by decide +kernel⟩, List.mem_of_getElem? (i := 26) (by decide +kernel), List.mem_of_getElem? (i := 878) (by decide +kernel), List.mem_of_getElem? (i := 879) (by decide +kernel)⟩
theorem lw_p21 : lw_okq (⟨"ByteFields$Division", "divideInPlace", "(LByteFields$Polynomial;LByteFields$Polynomial;)V"⟩, 1) := ⟨⟨by decide +kernel, by decide +kernel⟩, List.mem_of_getElem? (i := 173) (by decide +kernel), List.mem_of_getElem? (i := 918) (by decide +kernel), List.mem_of_getElem? (i := 919) (by decide +kernel)⟩
theorem lw_p22 : lw_okq (⟨"ByteFields$Roots", "makeRests", "(LByteFields$Polynomial;)V"⟩, 7) := ⟨⟨by decide +kernel, by decide +kernel⟩, List.mem_of_getElem? (i := 199) (by decide +kernel), List.mem_of_getElem? (i := 961) (by decide +kernel), List.mem_of_getElem? (i := 962) (by decide +kernel)⟩
theorem lw_p23 : lw_okq (⟨"ByteFields$Roots", "keepLower", "(II)V"⟩, 7) := ⟨⟨by decide +kernel, by decide +kernel⟩, List.mem_of_getElem? (i := 199) (by decide +kernel), List.mem_of_getElem? (i := 977) (by decide +kernel), List.mem_of_getElem? (i := 978) (by decide +kernel)⟩
theorem lw_p24 : lw_okq (⟨"ByteFields$Factors", "takeParts", "(I)I"⟩, 6) := ⟨⟨by decide +kernel, by decide +kernel⟩, List.mem_of_getElem? (i := 238) (by decide +kernel), List.mem_of_getElem? (i := 1014) (by decide +kernel), List.mem_of_getElem? (i := 1015) (by decide +kernel)⟩
theorem lw_p25 : lw_okq (⟨"ByteFields", "hasXorOfAhead", "()Z"⟩, 17) := ⟨⟨by decide +kernel, by decide +kernel⟩, List.mem_of_getElem? (i := 26) (by decide +kernel), List.mem_of_getElem? (i := 1028) (by decide +kernel), List.mem_of_getElem? (i := 1029) (by decide +kernel)⟩
theorem lw_p26 : lw_okq (⟨"ByteFields", "xorOfChosen", "(II)I"⟩, 17) := ⟨⟨by decide +kernel, by decide +kernel⟩, List.mem_of_getElem? (i := 26) (by decide +kernel), List.mem_of_getElem? (i := 1032) (by decide +kernel), List.mem_of_getElem? (i := 1033) (by decide +kernel)⟩
theorem lw_p27 : lw_okq (⟨"ByteFields", "needSpan", "()V"⟩, 17) := ⟨⟨by decide +kernel, by decide +kernel⟩, List.mem_of_getElem? (i := 26) (by decide +kernel), List.mem_of_getElem? (i := 1044) (by decide +kernel), List.mem_of_getElem? (i := 1045) (by decide +kernel)⟩
theorem lw_p28 : lw_okq (⟨"ByteFieldsModel", "isPrime", "(I)Z"⟩, 30) := ⟨⟨by decide +kernel, by decide +kernel⟩, List.mem_of_getElem? (i := 1069) (by decide +kernel), List.mem_of_getElem? (i := 1076) (by decide +kernel), List.mem_of_getElem? (i := 1077) (by decide +kernel)⟩
theorem lw_p29 : lw_okq (⟨"ByteFieldsModel", "orderOf", "(I)I"⟩, 30) := ⟨⟨by decide +kernel, by decide +kernel⟩, List.mem_of_getElem? (i := 1069) (by decide +kernel), List.mem_of_getElem? (i := 1086) (by decide +kernel), List.mem_of_getElem? (i := 1087) (by decide +kernel)⟩
theorem lw_p30 : lw_okq (⟨"ByteFieldsModel", "factors", "()I"⟩, 30) := ⟨⟨by decide +kernel, by decide +kernel⟩, List.mem_of_getElem? (i := 1069) (by decide +kernel), List.mem_of_getElem? (i := 1090) (by decide +kernel), List.mem_of_getElem? (i := 1091) (by decide +kernel)⟩
theorem lw_p31 : lw_okq (⟨"ByteFieldsModel", "raised", "(II)I"⟩, 30) := ⟨⟨by decide +kernel, by decide +kernel⟩, List.mem_of_getElem? (i := 1069) (by decide +kernel), List.mem_of_getElem? (i := 1097) (by decide +kernel), List.mem_of_getElem? (i := 1098) (by decide +kernel)⟩
def lw_privs_2 : List (MethodName × Nat) := [(⟨"ByteFields", "needPolynomialRoom", "()V"⟩, 17), (⟨"ByteFields", "keepPolynomial", "(LByteFields$Polynomial;)I"⟩, 17), (⟨"ByteFields$Interpolation", "multiplyAndAdd", "(LByteFields$Polynomial;II)V"⟩, 3), (⟨"ByteFields", "polynomialAt", "(I)LByteFields$Polynomial;"⟩, 17), (⟨"ByteFields", "valueOf", "(LByteFields$Polynomial;I)I"⟩, 17), (⟨"ByteFields$Division", "divideInPlace", "(LByteFields$Polynomial;LByteFields$Polynomial;)V"⟩, 1), (⟨"ByteFields$Roots", "makeRests", "(LByteFields$Polynomial;)V"⟩, 7), (⟨"ByteFields$Roots", "keepLower", "(II)V"⟩, 7), (⟨"ByteFields$Factors", "takeParts", "(I)I"⟩, 6), (⟨"ByteFields", "hasXorOfAhead", "()Z"⟩, 17), (⟨"ByteFields", "xorOfChosen", "(II)I"⟩, 17), (⟨"ByteFields", "needSpan", "()V"⟩, 17), (⟨"ByteFieldsModel", "isPrime", "(I)Z"⟩, 30), (⟨"ByteFieldsModel", "orderOf", "(I)I"⟩, 30), (⟨"ByteFieldsModel", "factors", "()I"⟩, 30), (⟨"ByteFieldsModel", "raised", "(II)I"⟩, 30)]
theorem lw_r2 : ∀ q ∈ lw_privs_2, lw_okq q := List.forall_mem_cons.mpr ⟨lw_p16, List.forall_mem_cons.mpr ⟨lw_p17, List.forall_mem_cons.mpr ⟨lw_p18, List.forall_mem_cons.mpr ⟨lw_p19, List.forall_mem_cons.mpr ⟨lw_p20, List.forall_mem_cons.mpr ⟨lw_p21, List.forall_mem_cons.mpr ⟨lw_p22, List.forall_mem_cons.mpr ⟨lw_p23, List.forall_mem_cons.mpr ⟨lw_p24, List.forall_mem_cons.mpr ⟨lw_p25, List.forall_mem_cons.mpr ⟨lw_p26, List.forall_mem_cons.mpr ⟨lw_p27, List.forall_mem_cons.mpr ⟨lw_p28, List.forall_mem_cons.mpr ⟨lw_p29, List.forall_mem_cons.mpr ⟨lw_p30, List.forall_mem_cons.mpr ⟨lw_p31, fun _ h => absurd h List.not_mem_nil⟩⟩⟩⟩⟩⟩⟩⟩⟩⟩⟩⟩⟩⟩⟩⟩
theorem lw_p32 : lw_okq (⟨"ByteFieldsModel", "mul", "(II)I"⟩, 30) := ⟨⟨by decide +kernel, by decide +kernel⟩, List.mem_of_getElem? (i := 1069) (by decide +kernel), List.mem_of_getElem? (i := 1101) (by decide +kernel), List.mem_of_getElem? (i := 1102) (by decide +kernel)⟩
theorem lw_p33 : lw_okq (⟨"ByteFieldsModel", "isMember", "(I)Z"⟩, 30) := ⟨⟨by decide +kernel, by decide +kernel⟩, List.mem_of_getElem? (i := 1069) (by decide +kernel), List.mem_of_getElem? (i := 1208) (by decide +kernel), List.mem_of_getElem? (i := 1209) (by decide +kernel)⟩
theorem lw_p34 : lw_okq (⟨"ByteFieldsModel", "fail", "(I)I"⟩, 30) := ⟨⟨by decide +kernel, by decide +kernel⟩, List.mem_of_getElem? (i := 1069) (by decide +kernel), List.mem_of_getElem? (i := 1212) (by decide +kernel), List.mem_of_getElem? (i := 1213) (by decide +kernel)⟩
theorem lw_p35 : lw_okq (⟨"ByteFieldsModel", "inverse", "(I)I"⟩, 30) := ⟨⟨by decide +kernel, by decide +kernel⟩, List.mem_of_getElem? (i := 1069) (by decide +kernel), List.mem_of_getElem? (i := 1220) (by decide +kernel), List.mem_of_getElem? (i := 1221) (by decide +kernel)⟩
theorem lw_p36 : lw_okq (⟨"ByteFieldsModel", "made", "(II)I"⟩, 30) := ⟨⟨by decide +kernel, by decide +kernel⟩, List.mem_of_getElem? (i := 1069) (by decide +kernel), List.mem_of_getElem? (i := 1255) (by decide +kernel), List.mem_of_getElem? (i := 1256) (by decide +kernel)⟩
theorem lw_p37 : lw_okq (⟨"ByteFieldsModel", "hasAlike", "(II)Z"⟩, 30) := ⟨⟨by decide +kernel, by decide +kernel⟩, List.mem_of_getElem? (i := 1069) (by decide +kernel), List.mem_of_getElem? (i := 1263) (by decide +kernel), List.mem_of_getElem? (i := 1264) (by decide +kernel)⟩
theorem lw_p38 : lw_okq (⟨"ByteFieldsModel", "at", "(III)I"⟩, 30) := ⟨⟨by decide +kernel, by decide +kernel⟩, List.mem_of_getElem? (i := 1069) (by decide +kernel), List.mem_of_getElem? (i := 1267) (by decide +kernel), List.mem_of_getElem? (i := 1268) (by decide +kernel)⟩
theorem lw_p39 : lw_okq (⟨"ByteFieldsModel", "isMatrix", "(I)Z"⟩, 30) := ⟨⟨by decide +kernel, by decide +kernel⟩, List.mem_of_getElem? (i := 1069) (by decide +kernel), List.mem_of_getElem? (i := 1279) (by decide +kernel), List.mem_of_getElem? (i := 1280) (by decide +kernel)⟩
theorem lw_p40 : lw_okq (⟨"ByteFieldsModel", "isCell", "(III)Z"⟩, 30) := ⟨⟨by decide +kernel, by decide +kernel⟩, List.mem_of_getElem? (i := 1069) (by decide +kernel), List.mem_of_getElem? (i := 1287) (by decide +kernel), List.mem_of_getElem? (i := 1288) (by decide +kernel)⟩
theorem lw_p41 : lw_okq (⟨"ByteFieldsModel", "minors", "(I)V"⟩, 30) := ⟨⟨by decide +kernel, by decide +kernel⟩, List.mem_of_getElem? (i := 1069) (by decide +kernel), List.mem_of_getElem? (i := 1303) (by decide +kernel), List.mem_of_getElem? (i := 1304) (by decide +kernel)⟩
theorem lw_p42 : lw_okq (⟨"ByteFieldsModel", "kept", "([I)I"⟩, 30) := ⟨⟨by decide +kernel, by decide +kernel⟩, List.mem_of_getElem? (i := 1069) (by decide +kernel), List.mem_of_getElem? (i := 1336) (by decide +kernel), List.mem_of_getElem? (i := 1337) (by decide +kernel)⟩
theorem lw_p43 : lw_okq (⟨"ByteFieldsModel", "begin", "()V"⟩, 30) := ⟨⟨by decide +kernel, by decide +kernel⟩, List.mem_of_getElem? (i := 1069) (by decide +kernel), List.mem_of_getElem? (i := 1344) (by decide +kernel), List.mem_of_getElem? (i := 1345) (by decide +kernel)⟩
theorem lw_p44 : lw_okq (⟨"ByteFieldsModel", "point", "(II)V"⟩, 30) := ⟨⟨by decide +kernel, by decide +kernel⟩, List.mem_of_getElem? (i := 1069) (by decide +kernel), List.mem_of_getElem? (i := 1348) (by decide +kernel), List.mem_of_getElem? (i := 1349) (by decide +kernel)⟩
theorem lw_p45 : lw_okq (⟨"ByteFieldsModel", "at", "([II)I"⟩, 30) := ⟨⟨by decide +kernel, by decide +kernel⟩, List.mem_of_getElem? (i := 1069) (by decide +kernel), List.mem_of_getElem? (i := 1352) (by decide +kernel), List.mem_of_getElem? (i := 1353) (by decide +kernel)⟩
theorem lw_p46 : lw_okq (⟨"ByteFieldsModel", "isPolynomial", "(I)Z"⟩, 30) := ⟨⟨by decide +kernel, by decide +kernel⟩, List.mem_of_getElem? (i := 1069) (by decide +kernel), List.mem_of_getElem? (i := 1360) (by decide +kernel), List.mem_of_getElem? (i := 1361) (by decide +kernel)⟩
theorem lw_p47 : lw_okq (⟨"ByteFieldsModel", "load", "([II)V"⟩, 30) := ⟨⟨by decide +kernel, by decide +kernel⟩, List.mem_of_getElem? (i := 1069) (by decide +kernel), List.mem_of_getElem? (i := 1372) (by decide +kernel), List.mem_of_getElem? (i := 1373) (by decide +kernel)⟩
def lw_privs_3 : List (MethodName × Nat) := [(⟨"ByteFieldsModel", "mul", "(II)I"⟩, 30), (⟨"ByteFieldsModel", "isMember", "(I)Z"⟩, 30), (⟨"ByteFieldsModel", "fail", "(I)I"⟩, 30), (⟨"ByteFieldsModel", "inverse", "(I)I"⟩, 30), (⟨"ByteFieldsModel", "made", "(II)I"⟩, 30), (⟨"ByteFieldsModel", "hasAlike", "(II)Z"⟩, 30), (⟨"ByteFieldsModel", "at", "(III)I"⟩, 30), (⟨"ByteFieldsModel", "isMatrix", "(I)Z"⟩, 30), (⟨"ByteFieldsModel", "isCell", "(III)Z"⟩, 30), (⟨"ByteFieldsModel", "minors", "(I)V"⟩, 30), (⟨"ByteFieldsModel", "kept", "([I)I"⟩, 30), (⟨"ByteFieldsModel", "begin", "()V"⟩, 30), (⟨"ByteFieldsModel", "point", "(II)V"⟩, 30), (⟨"ByteFieldsModel", "at", "([II)I"⟩, 30), (⟨"ByteFieldsModel", "isPolynomial", "(I)Z"⟩, 30), (⟨"ByteFieldsModel", "load", "([II)V"⟩, 30)]
theorem lw_r3 : ∀ q ∈ lw_privs_3, lw_okq q := List.forall_mem_cons.mpr ⟨lw_p32, List.forall_mem_cons.mpr ⟨lw_p33, List.forall_mem_cons.mpr ⟨lw_p34, List.forall_mem_cons.mpr ⟨lw_p35, List.forall_mem_cons.mpr ⟨lw_p36, List.forall_mem_cons.mpr ⟨lw_p37, List.forall_mem_cons.mpr ⟨lw_p38, List.forall_mem_cons.mpr ⟨lw_p39, List.forall_mem_cons.mpr ⟨lw_p40, List.forall_mem_cons.mpr ⟨lw_p41, List.forall_mem_cons.mpr ⟨lw_p42, List.forall_mem_cons.mpr ⟨lw_p43, List.forall_mem_cons.mpr ⟨lw_p44, List.forall_mem_cons.mpr ⟨lw_p45, List.forall_mem_cons.mpr ⟨lw_p46, List.forall_mem_cons.mpr ⟨lw_p47, fun _ h => absurd h List.not_mem_nil⟩⟩⟩⟩⟩⟩⟩⟩⟩⟩⟩⟩⟩⟩⟩⟩
theorem lw_p48 : lw_okq (⟨"ByteFieldsModel", "split", "([I[I)V"⟩, 30) := ⟨⟨by decide +kernel, by decide +kernel⟩, List.mem_of_getElem? (i := 1069) (by decide +kernel), List.mem_of_getElem? (i := 1388) (by decide +kernel), List.mem_of_getElem? (i := 1389) (by decide +kernel)⟩
theorem lw_p49 : lw_okq (⟨"ByteFieldsModel", "divisor", "([I[I)V"⟩, 30) := ⟨⟨by decide +kernel, by decide +kernel⟩, List.mem_of_getElem? (i := 1069) (by decide +kernel), List.mem_of_getElem? (i := 1396) (by decide +kernel), List.mem_of_getElem? (i := 1397) (by decide +kernel)⟩
theorem lw_p50 : lw_okq (⟨"ByteFieldsModel", "lookAtParts", "(I)V"⟩, 30) := ⟨⟨by decide +kernel, by decide +kernel⟩, List.mem_of_getElem? (i := 1069) (by decide +kernel), List.mem_of_getElem? (i := 1415) (by decide +kernel), List.mem_of_getElem? (i := 1416) (by decide +kernel)⟩
theorem lw_p51 : lw_okq (⟨"ByteFieldsModel", "square", "([I)V"⟩, 30) := ⟨⟨by decide +kernel, by decide +kernel⟩, List.mem_of_getElem? (i := 1069) (by decide +kernel), List.mem_of_getElem? (i := 1419) (by decide +kernel), List.mem_of_getElem? (i := 1420) (by decide +kernel)⟩
def lw_privs_4 : List (MethodName × Nat) := [(⟨"ByteFieldsModel", "split", "([I[I)V"⟩, 30), (⟨"ByteFieldsModel", "divisor", "([I[I)V"⟩, 30), (⟨"ByteFieldsModel", "lookAtParts", "(I)V"⟩, 30), (⟨"ByteFieldsModel", "square", "([I)V"⟩, 30)]
theorem lw_r4 : ∀ q ∈ lw_privs_4, lw_okq q := List.forall_mem_cons.mpr ⟨lw_p48, List.forall_mem_cons.mpr ⟨lw_p49, List.forall_mem_cons.mpr ⟨lw_p50, List.forall_mem_cons.mpr ⟨lw_p51, fun _ h => absurd h List.not_mem_nil⟩⟩⟩⟩
def lw_privs : List (MethodName × Nat) := lw_privs_1 ++ (lw_privs_2 ++ (lw_privs_3 ++ (lw_privs_4)))
def lw_tbl : List Cond := k2_sels lw_privs ++ tables_1
theorem lw_privs_ok : ∀ q ∈ lw_privs, lw_okq q := by
  show ∀ q ∈ lw_privs_1 ++ (lw_privs_2 ++ (lw_privs_3 ++ (lw_privs_4))), lw_okq q
  exact List.forall_mem_append.mpr ⟨lw_r1, List.forall_mem_append.mpr ⟨lw_r2, List.forall_mem_append.mpr ⟨lw_r3, lw_r4⟩⟩⟩
end
section
/-! ===== BEGIN words of one list among another's, by their places ===== -/
theorem goodIn_r {big : List Cond} (ws : List Cond) (ps : List Nat) (hp : ws = ps.filterMap (fun i => big[i]?)) (h : ws.all goodWord = true) : GoodIn big ws := by
  intro w hw
  have h1 := List.all_eq_true.mp h w hw
  rw [hp] at hw
  obtain ⟨i, -, hi⟩ := List.mem_filterMap.mp hw
  have hm : w ∈ big := by first | exact List.mem_of_getElem? hi | exact List.getElem?_mem hi
  exact ⟨hm, good_of_word h1⟩
theorem goodIn_app {big a b : List Cond} (ha : GoodIn big a) (hb : GoodIn big b) : GoodIn big (a ++ b) := fun w h => (List.mem_append.mp h).elim (ha w) (hb w)
theorem goodIn_ca {big a b : List Cond} {c : Cond} (ha : GoodIn big (c :: a)) (hb : GoodIn big b) : GoodIn big (c :: (a ++ b)) := fun w h => (List.mem_cons.mp h).elim (fun e => ha w (List.mem_cons.mpr (Or.inl e))) (fun h => (List.mem_append.mp h).elim (fun h => ha w (List.mem_cons.mpr (Or.inr h))) (hb w))
theorem goodIn_sub {big ws : List Cond} (hm : ∀ w ∈ ws, w ∈ big) (h : ws.all goodWord = true) : GoodIn big ws := fun w hw => ⟨hm w hw, good_of_word (List.all_eq_true.mp h w hw)⟩
/-! ===== END ===== -/

/-! ===== BEGIN new T[n][m]: the outer array a place, the inner ones among the pooled ===== -/
/-- f, but v at every address of l -/
def vr_up {α : Type} (f : Nat → α) (l : List Nat) (v : α) : Nat → α := fun a => if a ∈ l then v else f a
theorem vr_up_in {α : Type} {f : Nat → α} {l : List Nat} {v : α} {a : Nat} (h : a ∈ l) : vr_up f l v a = v := if_pos h
theorem vr_up_ne {α : Type} {f : Nat → α} {l : List Nat} {v : α} {a : Nat} (h : a ∉ l) : vr_up f l v a = f a := if_neg h
theorem vr_rows {L l : List Nat} {f : Nat → va_E} {e : va_E} (h : ∀ a, a ∈ l → a ∉ L) : va_pl L f ++ l.map (fun a => (a, e)) = va_pl (L ++ l) (vr_up f l e) := by
  unfold va_pl
  rw [List.map_append]
  congr 1
  · apply List.map_congr_left
    intro a ha
    rw [vr_up_ne (fun q => h a q ha)]
  · apply List.map_congr_left
    intro a ha
    rw [vr_up_in ha]
theorem vr_lay {X rows : va_W} {x : Nat × va_E} {pl : va_W} {D : va_G} {cl : List vw_C} {H : Heap} (hP : va_P D cl (((X ++ pl) ++ [x]) ++ rows) H) : va_P D cl ((X ++ [x]) ++ (pl ++ rows)) H := by
  rw [List.append_assoc (X ++ pl)] at hP
  have h := va_P.swap hP
  rw [← List.append_assoc X] at h
  have h2 := va_P.swap h
  rw [List.append_assoc (X ++ [x])] at h2
  exact h2
theorem vr_layD {X rows : va_W} {x : Nat × va_E} {pl : va_W} {A : Nat → Prop} (hD : va_D A (((X ++ pl) ++ [x]) ++ rows)) : va_D A ((X ++ [x]) ++ (pl ++ rows)) := by
  rw [List.append_assoc (X ++ pl)] at hD
  have h := va_D.swap hD
  rw [← List.append_assoc X] at h
  have h2 := va_D.swap h
  rw [List.append_assoc (X ++ [x])] at h2
  exact h2
theorem vr_outer (c : ClassId) (N h0 : Nat) : ∀ i : Nat, Jvm.Free.Multi.outerC c N h0 i = arrV c N (fun j => va_rf (if j < i then some (h0 + 1 + j) else none))
  | 0 => by
    show ({ cls := c, slots := Array.replicate N .null, vm := .none } : Cell) = _
    rw [arrV_new]
    refine congrArg (arrV c N) (funext fun j => ?_)
    simp [va_rf]
  | i + 1 => by
    show (Jvm.Free.Multi.outerC c N h0 i).setSlot i (.ref (h0 + 1 + i)) = _
    rw [vr_outer c N h0 i, arrV_store]
    refine congrArg (arrV c N) (funext fun j => ?_)
    by_cases e : j = i
    · subst e
      simp [updV, va_rf]
    · by_cases h : j < i
      · simp [updV, e, h, Nat.lt_succ_of_lt h]
      · simp [updV, e, h, show ¬ j < i + 1 by omega]
/-! ===== BEGIN exceptions that leave a method, and their catching by the caller (launches without stack traces) ===== -/
section VXA
/-! The laws vx_back, vx_callV, vx_callS, vx_callSW, vx_throw0, vx_throwS follow proofs of the library, with one case more: JvmDerived/Free/Laws.lean (Back.of_free), Shelf42/LK1.lean (callV, callS), Shelf/KitTraced.lean (throwNew0V, throwNewS). -/
/-- where a method has thrown q: the class by its name, the cell, what was written, the world -/
def vx_T (XC : String → State → State → Prop) (st : State) (q : Addr) (t : State) (mc ms : Nat) (free : Addr → Prop) : Prop :=
  ∃ (E : String) (ce : Cell) (L : List Loc), XC E st t ∧ t.heap[q]? = some ce ∧ ce.vm = .none ∧ st.vm.findClass E = some ce.cls ∧ st.WarmedH t.vm ∧ st.sameButNew ({ t with vm := st.vm } : State) L mc ms ∧ ∀ z ∈ L, free z.base
def vx_Q (Qc : Array Value → State → Outcome → State → Prop) (XC : String → State → State → Prop) (mc ms : Nat) (free : Addr → Prop) : Array Value → State → Outcome → State → Prop := fun a st o t =>
  (Qc a st o t ∧ ∃ L, FrameEnd st o t L mc ms ∧ ∀ q ∈ L, free q.base) ∨ ∃ q, o = .threw q ∧ vx_T XC st q t mc ms free
/-- a callee that returns or throws -/
def vx_Met (l : Launch) (y : MethodName) (ws : List Cond) (rm : Room) (Pc : Array Value → State → Prop) (Qc : Array Value → State → Outcome → State → Prop) (XC : String → State → State → Prop) (mc ms : Nat) (free : Addr → Prop) : Prop :=
  MetFree l y (headSpec ws rm) Pc (fun _ _ _ _ _ => True) (vx_Q Qc XC mc ms free)
def vx_Post (XC : String → State → State → Prop) (mc ms : Nat) (free : Addr → Prop) : Pt → Array Value → Addr → Pt → Prop := fun A a q B =>
  ∃ (g : JFrame) (mk : MethodId) (t : State) (L : List Loc) (E : String) (ce : Cell), B.U.heap = t.heap ∧ B.U.vm = t.vm ∧ XC E (A.U.calling g mk a) t ∧ t.heap[q]? = some ce ∧ ce.vm = .none ∧ A.U.vm.findClass E = some ce.cls ∧ B.locs = A.locs ++ L ∧ (∀ z ∈ L, free z.base) ∧ B.cells = A.cells + mc ∧ B.slots = A.slots + ms
def vx_Back (l : Launch) (R : Room) (p : Program) (e : Env) (below : List Frame) (s : State) (sargs : Array Value) (y : MethodName) (len W9 : Nat)
    (Pre : Pt → Array Value → Prop) (Post : Pt → Array Value → Option Value → Pt → Prop) (PostX : Pt → Array Value → Addr → Pt → Prop) : Prop :=
  ∀ (m : MethodId) (meth : Method) (c : Code) (A : Pt) (g : JFrame) (ig : Instr) (mk : MethodId) (a : Array Value),
    Stand p l e R s m sargs below meth c A.U A.locs A.cells A.slots → g.method = m → g.locals.size = c.maxLocals → decode c.code g.pc = .ok (ig, len) →
    2 * g.monitorRoom + (g.stack.map fun v => v.category).sum ≤ W9 → A.U.methodNamed? y = some mk → Pre A a →
    (∃ (v : Option Value) (B : Pt), Stand p l e R s m sargs below meth c B.U B.locs B.cells B.slots ∧ Post A a v B ∧
      Steps p.tables e below (doInvoke e (A.U.setTop g) [] mk a).1 (B.U.setTop { g with pc := g.pc + len, stack := v.toList ++ g.stack })) ∨
    (∃ (q : Addr) (B : Pt), Stand p l e R s m sargs below meth c B.U B.locs B.cells B.slots ∧ PostX A a q B ∧
      Steps p.tables e below (doInvoke e (A.U.setTop g) [] mk a).1 ((B.U.setTop g).pushFrame (.throwing q)))
section Payer
variable {l : Launch} {R : Room} {p : Program} {e : Env} {below : List Frame} {s : State} {sargs : Array Value} {y : MethodName} {len W9 : Nat}
theorem vx_back {ws : List Cond} {rm : Room} {Pc : Array Value → State → Prop} {Qc : Array Value → State → Outcome → State → Prop} {XC : String → State → State → Prop} {mc ms : Nat} {free : Addr → Prop} {bytes : ByteArray} {maxL : Nat} {ret : Option FieldType}
    (hM : vx_Met l y ws rm Pc Qc XC mc ms free) (hblind : FrameBlind Pc) (hrc : rm.cells = mc) (hrs : rm.slots = ms)
    (hframes : rm.frames + 1 ≤ R.frames) (hlocals : W9 + (maxL + 11) + rm.locals ≤ R.locals)
    (hws : ∀ w ∈ ws, ∀ a' U, s.WarmedH U.vm → w.before a' U = true) (hcode : Cond.code y bytes maxL ret ∈ ws) (hinit : ∀ a' U, s.WarmedH U.vm → (Cond.initialized y.cls).before a' U = true) :
    vx_Back l R p e below s sargs y len W9 (PreOf R mc ms Pc) (PostOf Qc mc ms free) (vx_Post XC mc ms free) := by
  intro m meth c A g ig mk a X hg hsize hdg hW hn hp
  have h1 : (headSpec ws rm).pre.before a A.U = true := atoms_intro fun w hw => hws w hw _ _ X.warmed
  have h2 : (Cond.code y bytes maxL ret).before a A.U = true := hws _ hcode _ _ X.warmed
  have h3 : (Cond.initialized y.cls).before a A.U = true := hinit _ _ X.warmed
  have h4 : A.cells + (headSpec ws rm).room.cells ≤ R.cells := by rw [show (headSpec ws rm).room.cells = mc from hrc]; exact hp.1
  have h5 : A.slots + (headSpec ws rm).room.slots ≤ R.slots := by rw [show (headSpec ws rm).room.slots = ms from hrs]; exact hp.2.1
  have hPc : Pc a (A.U.calling g mk a) := hblind _ _ _ _ hp.2.2
  obtain ⟨U, Ls, c0, s0⟩ := A
  dsimp only [Pt.U, Pt.locs, Pt.cells, Pt.slots] at h1 h2 h3 h4 h5 X hn hPc ⊢
  obtain ⟨methY, cY, hmY, hcY, -, hlY, -, -, -, -⟩ := Cond.code_spec hn h2
  obtain ⟨kY, hkY, -⟩ := className_of_methodNamed hn
  have hinitY : kY.init = .initialized := Cond.initialized_spec (findClass_of_methodNamed hn) hkY h3
  have h : At U g.method c below := by rw [hg]; exact X.here
  have hlocals9 : W9 + (maxL + 11) + (headSpec ws rm).room.locals ≤ R.locals := hlocals
  have happ : (headSpec ws rm).appliesLoose y e.platform (U.calling g mk a) = true :=
    Spec.appliesLoose_calling (g := g) h hdg hn hkY hinitY
      (X.room_calling (g := g) (R' := (headSpec ws rm).room) hsize hmY hcY hframes (by rw [hlY]; omega) h4 h5) h1
  obtain ⟨mid, hmid⟩ := h.above
  have hfr : (U.setTop g).frames = (.java g :: mid) ++ below := by rw [State.frames_setTop' g h.top, hmid]; rfl
  obtain ⟨o, s₂, hsteps, -, hend, hq⟩ := Steps.callFree hM p X.admits X.cas X.clock (acts := []) hfr happ hPc trivial
  have hq' : vx_Q Qc XC mc ms free a (U.calling g mk a) o s₂ := hq
  rw [State.frames_setTop' g h.top] at hend
  obtain ⟨g₀, hg0⟩ := Option.isSome_iff_exists.mp h.top
  obtain ⟨r, hr⟩ := State.topJava?_eq_some.mp hg0
  have hr' : (({ U with heap := s₂.heap, slotsUsed := s₂.slotsUsed } : State).setVm s₂.vm).frames = .java g₀ :: r := hr
  rcases hq' with ⟨hqc, L, hfe, hL⟩ | ⟨q, rfl, E, ce, L, hx, hce, hcv, hcl, hW₂, hsm, hL⟩
  · obtain ⟨⟨v, rfl⟩, hW₂, e2, q2, q3, q4, q5, q6⟩ := id hfe
    have e3 : s₂ = ({ (U.calling g mk a).setFrames s₂.frames with heap := s₂.heap, slotsUsed := s₂.slotsUsed } : State).setVm s₂.vm := by
      have : s₂ = ({ s₂ with vm := (U.calling g mk a).vm } : State).setVm s₂.vm := rfl
      rw [e2] at this
      exact this
    obtain ⟨c₂, i₂, len₂, hc₂, hd₂, hf₂⟩ := hend
    have hW' : U.WarmedH s₂.vm := hW₂
    have hcc : c₂ = c := by
      have h1 : s₂.code? g.method = U.code? g.method := by
        rw [State.code?_eq, State.code?_eq, hW'.alike.method?]
      exact Option.some.inj (hc₂.symm.trans (h1.trans h.code))
    subst hcc
    have hlen : len₂ = len := by rw [hdg] at hd₂; cases hd₂; rfl
    subst hlen
    have hs₂ : s₂ = (({ U with heap := s₂.heap, slotsUsed := s₂.slotsUsed } : State).setVm s₂.vm).setTop { g with pc := g.pc + len₂, stack := v.toList ++ g.stack } := by
      refine e3.trans ?_
      rw [hf₂, State.calling_eq h.top, State.setFrames_setFrames, State.setTop_of_frames _ hr', hr]
      rfl
    have hsame : U.sameButNew ({ U with heap := s₂.heap, slotsUsed := s₂.slotsUsed } : State) L mc ms := by
      refine ⟨?_, q2, q3, q4, q5, q6⟩
      obtain ⟨t, ht, -⟩ := State.frames_cons hr
      show ({ U with heap := s₂.heap, slotsUsed := s₂.slotsUsed } : State) = { U.setFrames U.frames with heap := s₂.heap, slotsUsed := s₂.slotsUsed }
      rw [State.setFrames_self ht]
    subst hg
    refine Or.inl ⟨v, ⟨(({ U with heap := s₂.heap, slotsUsed := s₂.slotsUsed } : State).setVm s₂.vm), Ls ++ L, c0 + mc, s0 + ms⟩,
      ⟨X.admits, X.cas, X.clock, X.frames, X.room, X.hears, X.method, X.code, (X.here.setHeapUsed s₂.heap s₂.slotsUsed).setVm hW'.alike, X.tail, State.WarmedH.trans X.warmed hW', X.limits, X.bytes, X.same.trans (hsame.setVm s.vm)⟩,
      ⟨g, mk, s₂, L, rfl, rfl, hqc, rfl, hL, rfl, rfl⟩, ?_⟩
    show Steps p.tables e below _ ((({ U with heap := s₂.heap, slotsUsed := s₂.slotsUsed } : State).setVm s₂.vm).setTop { g with pc := g.pc + len₂, stack := v.toList ++ g.stack })
    rw [← hs₂]
    exact hsteps
  · obtain ⟨e2, q2, q3, q4, q5, q6⟩ := id hsm
    have e3 : s₂ = ({ (U.calling g mk a).setFrames s₂.frames with heap := s₂.heap, slotsUsed := s₂.slotsUsed } : State).setVm s₂.vm := by
      have : s₂ = ({ s₂ with vm := (U.calling g mk a).vm } : State).setVm s₂.vm := rfl
      rw [e2] at this
      exact this
    have hf₂ : s₂.frames = .throwing q :: .java g :: U.frames.tail := hend
    have hW' : U.WarmedH s₂.vm := hW₂
    have hs₂ : s₂ = ((({ U with heap := s₂.heap, slotsUsed := s₂.slotsUsed } : State).setVm s₂.vm).setTop g).pushFrame (.throwing q) := by
      refine e3.trans ?_
      rw [hf₂, State.calling_eq h.top, State.setFrames_setFrames, State.pushFrame, State.frames_setTop _ hr', State.setTop_of_frames _ hr', State.setFrames_setFrames, hr]
      rfl
    have hsame : U.sameButNew ({ U with heap := s₂.heap, slotsUsed := s₂.slotsUsed } : State) L mc ms := by
      refine ⟨?_, q2, q3, q4, q5, q6⟩
      obtain ⟨t, ht, -⟩ := State.frames_cons hr
      show ({ U with heap := s₂.heap, slotsUsed := s₂.slotsUsed } : State) = { U.setFrames U.frames with heap := s₂.heap, slotsUsed := s₂.slotsUsed }
      rw [State.setFrames_self ht]
    subst hg
    refine Or.inr ⟨q, ⟨(({ U with heap := s₂.heap, slotsUsed := s₂.slotsUsed } : State).setVm s₂.vm), Ls ++ L, c0 + mc, s0 + ms⟩,
      ⟨X.admits, X.cas, X.clock, X.frames, X.room, X.hears, X.method, X.code, (X.here.setHeapUsed s₂.heap s₂.slotsUsed).setVm hW'.alike, X.tail, State.WarmedH.trans X.warmed hW', X.limits, X.bytes, X.same.trans (hsame.setVm s.vm)⟩,
      ⟨g, mk, s₂, L, E, ce, rfl, rfl, hx, hce, hcv, hcl, rfl, hL, rfl, rfl⟩, ?_⟩
    show Steps p.tables e below _ (((({ U with heap := s₂.heap, slotsUsed := s₂.slotsUsed } : State).setVm s₂.vm).setTop g).pushFrame (.throwing q))
    rw [← hs₂]
    exact hsteps
end Payer
section Calls
variable {p : Program} {l : Launch} {e : Env} {R : Room} {s : State} {m : MethodId} {args : Array Value} {below : List Frame} {meth : Method} {c : Code} {T : State} {locs : List Loc} {cells slots : Nat}
theorem vx_callV (X : Stand p l e R s m args below meth c T locs cells slots) (hexec : p.tables.exec = Jvm.exec) {own C : String} {index : Nat} {y : MethodName} {bytes : ByteArray} {maxL : Nat} {ret : Option FieldType}
    (hown : s.vm.findClass own = some m.cls) (hlink : (Cond.methodLink own index y).before args s = true) (hinst : (Cond.instanceMethod y).before args s = true) (hsel : (Cond.selects C y y).before args s = true)
    (hcode : (Cond.code y bytes maxL ret).before args s = true) (hy : y.cls ≠ "java/lang/invoke/MethodHandle" ∧ y.cls ≠ "java/lang/invoke/VarHandle")
    {W9 : Nat} {Pre : Pt → Array Value → Prop} {Post : Pt → Array Value → Option Value → Pt → Prop} {PostX : Pt → Array Value → Addr → Pt → Prop} (hK : vx_Back l R p e below s args y 3 W9 Pre Post PostX)
    {b : Addr} {cellB : Cell} (hcell : T.heap[b]? = some cellB) (hobj : cellB.vm.isStatics = false) (hcls : s.vm.findClass C = some cellB.cls)
    {g : JFrame} (hg : g.method = m) (hsize : g.locals.size = c.maxLocals) {argsL rest : List Value} (hlen : ∀ sig, parseMethodDescriptor y.desc = some sig → argsL.length = sig.parameters.length)
    (hstack : g.stack = argsL.reverse ++ .ref b :: rest) (hW : 2 * g.monitorRoom + (rest.map fun v => v.category).sum ≤ W9) (hdg : decode c.code g.pc = .ok (.invokevirtual index, 3))
    (hpre : ∀ vm₁, s.WarmedH vm₁ → Pre ⟨T.setVm vm₁, locs, cells, slots⟩ (Value.ref b :: argsL).toArray) :
    (∃ (v : Option Value) (vm₁ : Vm) (B : Pt), s.WarmedH vm₁ ∧ Stand p l e R s m args below meth c B.U B.locs B.cells B.slots ∧ Post ⟨T.setVm vm₁, locs, cells, slots⟩ (Value.ref b :: argsL).toArray v B ∧
      ∀ target, Steps p.tables e below (B.U.setTop { g with pc := g.pc + 3, stack := v.toList ++ rest }) target → Steps p.tables e below (T.setTop g) target) ∨
    (∃ (q : Addr) (vm₁ : Vm) (B : Pt), s.WarmedH vm₁ ∧ Stand p l e R s m args below meth c B.U B.locs B.cells B.slots ∧ PostX ⟨T.setVm vm₁, locs, cells, slots⟩ (Value.ref b :: argsL).toArray q B ∧
      Steps p.tables e below (T.setTop g) ((B.U.setTop { g with stack := rest }).pushFrame (.throwing q))) := by
  obtain ⟨mk, methM, hnamed, hmethM, hstM, habM⟩ := Cond.instanceMethod_spec hinst
  obtain ⟨methM', cM, hmethM', -, -, -, -, -, -, hsigM⟩ := Cond.code_spec hnamed hcode
  cases hmethM.symm.trans hmethM'
  obtain ⟨c2, r2, m2, q1, q2, q3, q4, kP, hkP, hkPi⟩ := Cond.selects_spec hsel
  cases hcls.symm.trans q1
  cases (State.methodFound?_of_named hnamed hy).symm.trans q2
  cases hnamed.symm.trans q3
  have hselP : selectMethod e.platform s.vm cellB.cls mk = .method mk := by rw [Launch.admits_selectMethod X.admits]; exact q4
  obtain ⟨vm₁, X₁, hstep₁⟩ := X.invokevirtual hexec hown hlink hnamed hmethM hstM hkP hkPi hy (a := b) (cell := cellB) hcell
    (fun z h => by rw [h] at hobj; cases hobj) hselP hmethM habM hkP hkPi (g := g) hg (argsL := argsL) (rest := rest) (hlen _ hsigM) hstack hdg
  rcases hK m meth c ⟨T.setVm vm₁, locs, cells, slots⟩ { g with stack := rest } (.invokevirtual index) mk (Value.ref b :: argsL).toArray X₁ hg hsize hdg hW (X₁.named hnamed) (hpre vm₁ X₁.warmed) with ⟨v, B, X', hpost, hsteps⟩ | ⟨q, B, X', hpost, hsteps⟩
  · exact Or.inl ⟨v, vm₁, B, X₁.warmed, X', hpost, fun target h => hstep₁ _ fun acts => by rw [doInvoke_state]; exact hsteps.trans h⟩
  · exact Or.inr ⟨q, vm₁, B, X₁.warmed, X', hpost, hstep₁ _ fun acts => by rw [doInvoke_state]; exact hsteps⟩
theorem vx_callS (X : Stand p l e R s m args below meth c T locs cells slots) (hexec : p.tables.exec = Jvm.exec) {own : String} {index : Nat} {y : MethodName} {bytes : ByteArray} {maxL : Nat} {ret : Option FieldType}
    (hown : s.vm.findClass own = some m.cls) (hlink : (Cond.methodLink own index y).before args s = true) (hstat : (Cond.static y).before args s = true) (hinit : (Cond.initialized y.cls).before args s = true)
    (hcode : (Cond.code y bytes maxL ret).before args s = true) (hy : y.cls ≠ "java/lang/invoke/MethodHandle" ∧ y.cls ≠ "java/lang/invoke/VarHandle")
    {W9 : Nat} {Pre : Pt → Array Value → Prop} {Post : Pt → Array Value → Option Value → Pt → Prop} {PostX : Pt → Array Value → Addr → Pt → Prop} (hK : vx_Back l R p e below s args y 3 W9 Pre Post PostX)
    {g : JFrame} (hg : g.method = m) (hsize : g.locals.size = c.maxLocals) {argsL rest : List Value} (hlen : ∀ sig, parseMethodDescriptor y.desc = some sig → argsL.length = sig.parameters.length)
    (hstack : g.stack = argsL.reverse ++ rest) (hW : 2 * g.monitorRoom + (rest.map fun v => v.category).sum ≤ W9) (hdg : decode c.code g.pc = .ok (.invokestatic index, 3))
    (hpre : ∀ vm₁, s.WarmedH vm₁ → Pre ⟨T.setVm vm₁, locs, cells, slots⟩ argsL.toArray) :
    (∃ (v : Option Value) (vm₁ : Vm) (B : Pt), s.WarmedH vm₁ ∧ Stand p l e R s m args below meth c B.U B.locs B.cells B.slots ∧ Post ⟨T.setVm vm₁, locs, cells, slots⟩ argsL.toArray v B ∧
      ∀ target, Steps p.tables e below (B.U.setTop { g with pc := g.pc + 3, stack := v.toList ++ rest }) target → Steps p.tables e below (T.setTop g) target) ∨
    (∃ (q : Addr) (vm₁ : Vm) (B : Pt), s.WarmedH vm₁ ∧ Stand p l e R s m args below meth c B.U B.locs B.cells B.slots ∧ PostX ⟨T.setVm vm₁, locs, cells, slots⟩ argsL.toArray q B ∧
      Steps p.tables e below (T.setTop g) ((B.U.setTop { g with stack := rest }).pushFrame (.throwing q))) := by
  obtain ⟨mk, hnamed⟩ := Cond.code_named hcode
  obtain ⟨methM, cM, hmethM, -, -, -, -, -, -, hsigM⟩ := Cond.code_spec hnamed hcode
  have hstatic : methM.isStatic = true := Cond.static_spec hnamed hmethM hstat
  obtain ⟨kP, hkP, -⟩ := className_of_methodNamed hnamed
  have hinitP : kP.init = .initialized := Cond.initialized_spec (findClass_of_methodNamed hnamed) hkP hinit
  obtain ⟨vm₁, X₁, hstep₁⟩ := X.invokestatic hexec hown hlink hnamed hmethM hstatic hkP hinitP hy (g := g) hg (argsL := argsL) (rest := rest) (hlen _ hsigM) hstack hdg
  rcases hK m meth c ⟨T.setVm vm₁, locs, cells, slots⟩ { g with stack := rest } (.invokestatic index) mk argsL.toArray X₁ hg hsize hdg hW (X₁.named hnamed) (hpre vm₁ X₁.warmed) with ⟨v, B, X', hpost, hsteps⟩ | ⟨q, B, X', hpost, hsteps⟩
  · exact Or.inl ⟨v, vm₁, B, X₁.warmed, X', hpost, fun target h => hstep₁ _ fun acts => by rw [doInvoke_state]; exact hsteps.trans h⟩
  · exact Or.inr ⟨q, vm₁, B, X₁.warmed, X', hpost, hstep₁ _ fun acts => by rw [doInvoke_state]; exact hsteps⟩
end Calls
theorem vx_cls {s : State} {T : State} {vm₁ : Vm} {E : String} {k : ClassId} (hW : s.WarmedH vm₁) (h : (T.setVm vm₁).vm.findClass E = some k) : s.vm.findClass E = some k := by
  have h1 : vm₁.findClass E = some k := h
  rw [hW.alike.findClass] at h1
  exact h1
/-- the method's frame g, with q thrown over it -/
def vx_W (p : Program) (l : Launch) (e : Env) (R : Room) (s : State) (m : MethodId) (args : Array Value) (below : List Frame) (meth : Method) (c : Code) (H : Heap) (locs : List Loc) (cells slots : Nat) (Q : State → Prop) (g : JFrame) (q : Addr) : Prop :=
  ∀ T : State, T.heap = H → Stand p l e R s m args below meth c T locs cells slots → ∃ t, Steps p.tables e below ((T.setTop g).pushFrame (.throwing q)) t ∧ Q t
def vx_Run (p : Program) (l : Launch) (e : Env) (R : Room) (s : State) (m : MethodId) (args : Array Value) (below : List Frame) (meth : Method) (c : Code) (H : Heap) (locs : List Loc) (cells slots mc ms : Nat) (g : JFrame) (rest : List Value) (Qa : State → Outcome → State → Prop) (XC : String → State → State → Prop) (free : Addr → Prop) : Prop :=
  ∀ T : State, T.heap = H → Stand p l e R s m args below meth c T locs cells slots →
    (∃ (v : Option Value) (st₀ t T' : State) (L : List Loc), st₀.heap = H ∧ Stand p l e R s m args below meth c T' (locs ++ L) (cells + mc) (slots + ms) ∧ (∀ q ∈ L, free q.base) ∧ T'.heap = t.heap ∧ T'.vm = t.vm ∧ Qa st₀ (.returned v) t ∧
      Goes p e below T g T' { g with pc := g.pc + 3, stack := v.toList ++ rest }) ∨
    (∃ (q : Addr) (st₀ t T' : State) (L : List Loc) (E : String) (ce : Cell), st₀.heap = H ∧ Stand p l e R s m args below meth c T' (locs ++ L) (cells + mc) (slots + ms) ∧ (∀ z ∈ L, free z.base) ∧ T'.heap = t.heap ∧ T'.vm = t.vm ∧ XC E st₀ t ∧ t.heap[q]? = some ce ∧ ce.vm = .none ∧ s.vm.findClass E = some ce.cls ∧
      Steps p.tables e below (T.setTop g) ((T'.setTop { g with stack := rest }).pushFrame (.throwing q)))
def vx_X {S : Type} (px : S → Prop) (B : String → S → State → Prop) (A : Nat → Prop) : String → State → State → Prop := fun E st t => ∃ u : S, px u ∧ B E u t ∧ va_F A st t
section Runs
variable {p : Program} {l : Launch} {e : Env} {R : Room} {s : State} {m : MethodId} {args : Array Value} {below : List Frame} {meth : Method} {c : Code} {H : Heap} {locs : List Loc} {cells slots : Nat}
variable {y : MethodName} {bytes cc : ByteArray} {maxL nL mc ms n index : Nat} {ret : Option FieldType} {ws : List Cond} {rm : Room} {Pc : Array Value → State → Prop} {Qc : Array Value → State → Outcome → State → Prop} {XC : String → State → State → Prop} {free : Addr → Prop} {Ts : List Cond} {own C : String} {b : Addr} {As rest : List Value} {g : JFrame}
theorem vx_callBack (cb : CallB R s args own index y bytes maxL ret ws rm mc ms n) (hM : vx_Met l y ws rm Pc Qc XC mc ms free) (hbl : FrameBlind Pc) : vx_Back l R p e below s args y 3 8 (PreOf R mc ms Pc) (PostOf Qc mc ms free) (vx_Post XC mc ms free) := by
  obtain ⟨hrc, hrs, hfr, hlo, hws, hcw, -, hini, -⟩ := cb
  exact vx_back (bytes := bytes) (maxL := maxL) (ret := ret) hM hbl hrc hrs hfr hlo hws hcw (fun a' U hW => word_at hW (Or.inl (by first | rfl | simp [Cond.onTables, Cond.keeps, Cond.steady])) hini)
theorem vx_runV (S : CallFix p m c cc nL s args Ts own) (hM : vx_Met l y ws rm Pc Qc XC mc ms free) (cw : CallW R s args own C index y bytes maxL ret ws rm mc ms n) (hp : PreV s H C b Pc As)
    (hg : g.method = m) (hn : As.length = n) (hsize : g.locals.size = nL) (hstack : g.stack = As.reverse ++ .ref b :: rest) (hW : 2 * g.monitorRoom + (rest.map fun v => v.category).sum ≤ 8) (hdg : decode cc g.pc = .ok (.invokevirtual index, 3)) (hf : cells + mc ≤ R.cells ∧ slots + ms ≤ R.slots) :
    vx_Run p l e R s m args below meth c H locs cells slots mc ms g rest (Qc (Value.ref b :: As).toArray) XC free := by
  have hK : vx_Back l R p e below s args y 3 8 (PreOf R mc ms Pc) (PostOf Qc mc ms free) (vx_Post XC mc ms free) := vx_callBack cw.1 hM hp.1
  obtain ⟨⟨-, -, -, -, -, -, hcode, -, hy, hlen, hl⟩, hin, hse⟩ := cw
  obtain ⟨hx, hb, hml, ho, -⟩ := S
  obtain ⟨-, ⟨cellB, hcB, hoB, hclB⟩, hPc⟩ := hp
  intro T hT X
  rcases vx_callV X hx (C := C) (bytes := bytes) (maxL := maxL) (ret := ret) ho hl hin hse hcode hy hK (by rw [hT]; exact hcB) hoB hclB hg (hsize.trans hml.symm) (argsL := As) (rest := rest) (fun sig h => hn.trans (hlen sig h)) hstack hW (by rw [hb]; exact hdg)
    (fun vm₁ hW₁ => ⟨hf.1, hf.2, hPc (T.setVm vm₁) hT hW₁⟩) with ⟨v, vm₁, ⟨U', l2, c2, s2⟩, hW₁, X', ⟨g', mk, t, L, e1, e2, hq, h1, hL, h2, h3⟩, st⟩ | ⟨q, vm₁, ⟨U', l2, c2, s2⟩, hW₁, X', ⟨g', mk, t, L, E, ce, e1, e2, hq, hce, hcv, hcl, h1, hL, h2, h3⟩, st⟩
  · dsimp only [Pt.U, Pt.locs, Pt.cells, Pt.slots] at X' e1 e2 h1 h2 h3 st
    subst h1; subst h2; subst h3
    exact Or.inl ⟨v, (T.setVm vm₁).calling g' mk (Value.ref b :: As).toArray, t, U', L, hT, X', hL, e1, e2, hq, st⟩
  · dsimp only [Pt.U, Pt.locs, Pt.cells, Pt.slots] at X' e1 e2 h1 h2 h3 st hcl
    subst h1; subst h2; subst h3
    exact Or.inr ⟨q, (T.setVm vm₁).calling g' mk (Value.ref b :: As).toArray, t, U', L, E, ce, hT, X', hL, e1, e2, hq, hce, hcv, vx_cls hW₁ hcl, st⟩
theorem vx_runS (S : CallFix p m c cc nL s args Ts own) (hM : vx_Met l y ws rm Pc Qc XC mc ms free) (cw : CallB R s args own index y bytes maxL ret ws rm mc ms n ∧ (Cond.static y).before args s = true) (hp : PreS s H Pc As)
    (hg : g.method = m) (hn : As.length = n) (hsize : g.locals.size = nL) (hstack : g.stack = As.reverse ++ rest) (hW : 2 * g.monitorRoom + (rest.map fun v => v.category).sum ≤ 8) (hdg : decode cc g.pc = .ok (.invokestatic index, 3)) (hf : cells + mc ≤ R.cells ∧ slots + ms ≤ R.slots) :
    vx_Run p l e R s m args below meth c H locs cells slots mc ms g rest (Qc As.toArray) XC free := by
  have hK : vx_Back l R p e below s args y 3 8 (PreOf R mc ms Pc) (PostOf Qc mc ms free) (vx_Post XC mc ms free) := vx_callBack cw.1 hM hp.1
  obtain ⟨⟨-, -, -, -, -, -, hcode, hini, hy, hlen, hl⟩, hstt⟩ := cw
  obtain ⟨hx, hb, hml, ho, -⟩ := S
  intro T hT X
  rcases vx_callS X hx (bytes := bytes) (maxL := maxL) (ret := ret) ho hl hstt hini hcode hy hK hg (hsize.trans hml.symm) (argsL := As) (rest := rest) (fun sig h => hn.trans (hlen sig h)) hstack hW (by rw [hb]; exact hdg)
    (fun vm₁ hW₁ => ⟨hf.1, hf.2, hp.2 (T.setVm vm₁) hT hW₁⟩) with ⟨v, vm₁, ⟨U', l2, c2, s2⟩, hW₁, X', ⟨g', mk, t, L, e1, e2, hq, h1, hL, h2, h3⟩, st⟩ | ⟨q, vm₁, ⟨U', l2, c2, s2⟩, hW₁, X', ⟨g', mk, t, L, E, ce, e1, e2, hq, hce, hcv, hcl, h1, hL, h2, h3⟩, st⟩
  · dsimp only [Pt.U, Pt.locs, Pt.cells, Pt.slots] at X' e1 e2 h1 h2 h3 st
    subst h1; subst h2; subst h3
    exact Or.inl ⟨v, (T.setVm vm₁).calling g' mk As.toArray, t, U', L, hT, X', hL, e1, e2, hq, st⟩
  · dsimp only [Pt.U, Pt.locs, Pt.cells, Pt.slots] at X' e1 e2 h1 h2 h3 st hcl
    subst h1; subst h2; subst h3
    exact Or.inr ⟨q, (T.setVm vm₁).calling g' mk As.toArray, t, U', L, E, ce, hT, X', hL, e1, e2, hq, hce, hcv, vx_cls hW₁ hcl, st⟩
end Runs
section Rows
variable {p : Program} {l : Launch} {e : Env} {R : Room} {s : State} {m : MethodId} {args : Array Value} {below : List Frame} {meth : Method} {c : Code} {H : Heap} {locs : List Loc} {cells slots : Nat} {Q : State → Prop}
variable {mc ms : Nat} {free : Addr → Prop} {A0 A1 : Nat → Prop} {H0 : Heap} {a : Array Value} {pc : Nat} {ls : Array Slot} {st0 rest : List Value}
theorem vx_keep {st₀ t T' : State} {L : List Loc} (h0 : st₀.heap = H) (e1 : T'.heap = t.heap) (hS : va_S A0 H0 H locs) (hA : ∀ q, q < H.size → A1 q → A0 q) (hf : ∀ q, free q → A0 q) (hL : ∀ q ∈ L, free q.base) (hF : va_F A1 st₀ t) :
    H.size ≤ T'.heap.size ∧ (∀ q : Nat, q < H.size → ¬ A1 q → T'.heap[q]? = H[q]?) ∧ va_S A0 H0 T'.heap (locs ++ L) := by
  obtain ⟨hz, hk⟩ := hF
  rw [h0] at hz hk
  exact ⟨by rw [e1]; exact hz, fun q h1 h2 => by rw [e1]; exact hk q h1 h2,
    ⟨Nat.le_trans hS.1 (by rw [e1]; exact hz), fun q h1 h2 => by rw [e1, hk q (Nat.lt_of_lt_of_le h1 hS.1) (fun z => h2 (hA q (Nat.lt_of_lt_of_le h1 hS.1) z))]; exact hS.2.1 q h1 h2, fun q hq => by
      rcases List.mem_append.mp hq with h | h
      · exact hS.2.2 q h
      · exact hf _ (hL q h)⟩⟩
theorem vx_calli {S SX : Type} {post : Int32 → S → Prop} {px : SX → Prop} {B : S → State → Prop} {BX : String → SX → State → Prop} {AX : Nat → Prop} (hr : vx_Run p l e R s m args below meth c H locs cells slots mc ms (F0 m pc ls st0) rest (va_Qi post B A1 a) (vx_X px BX AX) free) (hS : va_S A0 H0 H locs) (hA : ∀ q, q < H.size → A1 q → A0 q) (hf : ∀ q, free q → A0 q) (hAX : ∀ q, q < H.size → AX q → A0 q)
    (kx : ∀ (E : String) (ce : Cell) (q9 : Addr) (u : SX) (t : State) (H1 : Heap) (locs1 : List Loc), t.heap = H1 → s.vm.Alike t.vm → px u → BX E u t → H.size ≤ H1.size → (∀ q : Nat, q < H.size → ¬ AX q → H1[q]? = H[q]?) → va_S A0 H0 H1 locs1 → H1[q9]? = some ce → ce.vm = .none → s.vm.findClass E = some ce.cls → vx_W p l e R s m args below meth c H1 locs1 (cells + mc) (slots + ms) Q (F0 m pc ls rest) q9)
    (kk : ∀ (r : Int32) (u : S) (t : State) (H1 : Heap) (locs1 : List Loc), t.heap = H1 → s.vm.Alike t.vm → post r u → B u t → H.size ≤ H1.size → (∀ q : Nat, q < H.size → ¬ A1 q → H1[q]? = H[q]?) → va_S A0 H0 H1 locs1 → W p l e R s m args below meth c H1 locs1 (cells + mc) (slots + ms) Q (F0 m (pc + 3) ls (.int r :: rest))) : W p l e R s m args below meth c H locs cells slots Q (F0 m pc ls st0) := by
  intro T hT X
  rcases hr T hT X with ⟨v, st₀, t, T', L, h0, X', hL, e1, e2, ⟨⟨r, u, hv, hp, hb⟩, hF⟩, st⟩ | ⟨q, st₀, t, T', L, E, ce, h0, X', hL, e1, e2, ⟨u, hp, hb, hF⟩, hce, hcv, hcl, st⟩
  · cases hv
    obtain ⟨k1, k2, k3⟩ := vx_keep h0 e1 hS hA hf hL hF
    obtain ⟨t2, a1, b1⟩ := kk r u t T'.heap (locs ++ L) e1.symm (by rw [← e2]; exact X'.warmed.alike) hp hb k1 k2 k3 T' rfl X'
    exact ⟨t2, st t2 a1, b1⟩
  · obtain ⟨k1, k2, k3⟩ := vx_keep h0 e1 hS hAX hf hL hF
    obtain ⟨t2, a1, b1⟩ := kx E ce q u t T'.heap (locs ++ L) e1.symm (by rw [← e2]; exact X'.warmed.alike) hp hb k1 k2 k3 (by rw [e1]; exact hce) hcv hcl T' rfl X'
    exact ⟨t2, st.trans a1, b1⟩
theorem vx_calll {S SX : Type} {post : Int64 → S → Prop} {px : SX → Prop} {B : S → State → Prop} {BX : String → SX → State → Prop} {AX : Nat → Prop} (hr : vx_Run p l e R s m args below meth c H locs cells slots mc ms (F0 m pc ls st0) rest (va_Ql post B A1 a) (vx_X px BX AX) free) (hS : va_S A0 H0 H locs) (hA : ∀ q, q < H.size → A1 q → A0 q) (hf : ∀ q, free q → A0 q) (hAX : ∀ q, q < H.size → AX q → A0 q)
    (kx : ∀ (E : String) (ce : Cell) (q9 : Addr) (u : SX) (t : State) (H1 : Heap) (locs1 : List Loc), t.heap = H1 → s.vm.Alike t.vm → px u → BX E u t → H.size ≤ H1.size → (∀ q : Nat, q < H.size → ¬ AX q → H1[q]? = H[q]?) → va_S A0 H0 H1 locs1 → H1[q9]? = some ce → ce.vm = .none → s.vm.findClass E = some ce.cls → vx_W p l e R s m args below meth c H1 locs1 (cells + mc) (slots + ms) Q (F0 m pc ls rest) q9)
    (kk : ∀ (r : Int64) (u : S) (t : State) (H1 : Heap) (locs1 : List Loc), t.heap = H1 → s.vm.Alike t.vm → post r u → B u t → H.size ≤ H1.size → (∀ q : Nat, q < H.size → ¬ A1 q → H1[q]? = H[q]?) → va_S A0 H0 H1 locs1 → W p l e R s m args below meth c H1 locs1 (cells + mc) (slots + ms) Q (F0 m (pc + 3) ls (.long r :: rest))) : W p l e R s m args below meth c H locs cells slots Q (F0 m pc ls st0) := by
  intro T hT X
  rcases hr T hT X with ⟨v, st₀, t, T', L, h0, X', hL, e1, e2, ⟨⟨r, u, hv, hp, hb⟩, hF⟩, st⟩ | ⟨q, st₀, t, T', L, E, ce, h0, X', hL, e1, e2, ⟨u, hp, hb, hF⟩, hce, hcv, hcl, st⟩
  · cases hv
    obtain ⟨k1, k2, k3⟩ := vx_keep h0 e1 hS hA hf hL hF
    obtain ⟨t2, a1, b1⟩ := kk r u t T'.heap (locs ++ L) e1.symm (by rw [← e2]; exact X'.warmed.alike) hp hb k1 k2 k3 T' rfl X'
    exact ⟨t2, st t2 a1, b1⟩
  · obtain ⟨k1, k2, k3⟩ := vx_keep h0 e1 hS hAX hf hL hF
    obtain ⟨t2, a1, b1⟩ := kx E ce q u t T'.heap (locs ++ L) e1.symm (by rw [← e2]; exact X'.warmed.alike) hp hb k1 k2 k3 (by rw [e1]; exact hce) hcv hcl T' rfl X'
    exact ⟨t2, st.trans a1, b1⟩
theorem vx_callf {S SX : Type} {post : UInt32 → S → Prop} {px : SX → Prop} {B : S → State → Prop} {BX : String → SX → State → Prop} {AX : Nat → Prop} (hr : vx_Run p l e R s m args below meth c H locs cells slots mc ms (F0 m pc ls st0) rest (va_Qf post B A1 a) (vx_X px BX AX) free) (hS : va_S A0 H0 H locs) (hA : ∀ q, q < H.size → A1 q → A0 q) (hf : ∀ q, free q → A0 q) (hAX : ∀ q, q < H.size → AX q → A0 q)
    (kx : ∀ (E : String) (ce : Cell) (q9 : Addr) (u : SX) (t : State) (H1 : Heap) (locs1 : List Loc), t.heap = H1 → s.vm.Alike t.vm → px u → BX E u t → H.size ≤ H1.size → (∀ q : Nat, q < H.size → ¬ AX q → H1[q]? = H[q]?) → va_S A0 H0 H1 locs1 → H1[q9]? = some ce → ce.vm = .none → s.vm.findClass E = some ce.cls → vx_W p l e R s m args below meth c H1 locs1 (cells + mc) (slots + ms) Q (F0 m pc ls rest) q9)
    (kk : ∀ (r : UInt32) (u : S) (t : State) (H1 : Heap) (locs1 : List Loc), t.heap = H1 → s.vm.Alike t.vm → post r u → B u t → H.size ≤ H1.size → (∀ q : Nat, q < H.size → ¬ A1 q → H1[q]? = H[q]?) → va_S A0 H0 H1 locs1 → W p l e R s m args below meth c H1 locs1 (cells + mc) (slots + ms) Q (F0 m (pc + 3) ls (.float r :: rest))) : W p l e R s m args below meth c H locs cells slots Q (F0 m pc ls st0) := by
  intro T hT X
  rcases hr T hT X with ⟨v, st₀, t, T', L, h0, X', hL, e1, e2, ⟨⟨r, u, hv, hp, hb⟩, hF⟩, st⟩ | ⟨q, st₀, t, T', L, E, ce, h0, X', hL, e1, e2, ⟨u, hp, hb, hF⟩, hce, hcv, hcl, st⟩
  · cases hv
    obtain ⟨k1, k2, k3⟩ := vx_keep h0 e1 hS hA hf hL hF
    obtain ⟨t2, a1, b1⟩ := kk r u t T'.heap (locs ++ L) e1.symm (by rw [← e2]; exact X'.warmed.alike) hp hb k1 k2 k3 T' rfl X'
    exact ⟨t2, st t2 a1, b1⟩
  · obtain ⟨k1, k2, k3⟩ := vx_keep h0 e1 hS hAX hf hL hF
    obtain ⟨t2, a1, b1⟩ := kx E ce q u t T'.heap (locs ++ L) e1.symm (by rw [← e2]; exact X'.warmed.alike) hp hb k1 k2 k3 (by rw [e1]; exact hce) hcv hcl T' rfl X'
    exact ⟨t2, st.trans a1, b1⟩
theorem vx_calld {S SX : Type} {post : UInt64 → S → Prop} {px : SX → Prop} {B : S → State → Prop} {BX : String → SX → State → Prop} {AX : Nat → Prop} (hr : vx_Run p l e R s m args below meth c H locs cells slots mc ms (F0 m pc ls st0) rest (va_Qd post B A1 a) (vx_X px BX AX) free) (hS : va_S A0 H0 H locs) (hA : ∀ q, q < H.size → A1 q → A0 q) (hf : ∀ q, free q → A0 q) (hAX : ∀ q, q < H.size → AX q → A0 q)
    (kx : ∀ (E : String) (ce : Cell) (q9 : Addr) (u : SX) (t : State) (H1 : Heap) (locs1 : List Loc), t.heap = H1 → s.vm.Alike t.vm → px u → BX E u t → H.size ≤ H1.size → (∀ q : Nat, q < H.size → ¬ AX q → H1[q]? = H[q]?) → va_S A0 H0 H1 locs1 → H1[q9]? = some ce → ce.vm = .none → s.vm.findClass E = some ce.cls → vx_W p l e R s m args below meth c H1 locs1 (cells + mc) (slots + ms) Q (F0 m pc ls rest) q9)
    (kk : ∀ (r : UInt64) (u : S) (t : State) (H1 : Heap) (locs1 : List Loc), t.heap = H1 → s.vm.Alike t.vm → post r u → B u t → H.size ≤ H1.size → (∀ q : Nat, q < H.size → ¬ A1 q → H1[q]? = H[q]?) → va_S A0 H0 H1 locs1 → W p l e R s m args below meth c H1 locs1 (cells + mc) (slots + ms) Q (F0 m (pc + 3) ls (.double r :: rest))) : W p l e R s m args below meth c H locs cells slots Q (F0 m pc ls st0) := by
  intro T hT X
  rcases hr T hT X with ⟨v, st₀, t, T', L, h0, X', hL, e1, e2, ⟨⟨r, u, hv, hp, hb⟩, hF⟩, st⟩ | ⟨q, st₀, t, T', L, E, ce, h0, X', hL, e1, e2, ⟨u, hp, hb, hF⟩, hce, hcv, hcl, st⟩
  · cases hv
    obtain ⟨k1, k2, k3⟩ := vx_keep h0 e1 hS hA hf hL hF
    obtain ⟨t2, a1, b1⟩ := kk r u t T'.heap (locs ++ L) e1.symm (by rw [← e2]; exact X'.warmed.alike) hp hb k1 k2 k3 T' rfl X'
    exact ⟨t2, st t2 a1, b1⟩
  · obtain ⟨k1, k2, k3⟩ := vx_keep h0 e1 hS hAX hf hL hF
    obtain ⟨t2, a1, b1⟩ := kx E ce q u t T'.heap (locs ++ L) e1.symm (by rw [← e2]; exact X'.warmed.alike) hp hb k1 k2 k3 (by rw [e1]; exact hce) hcv hcl T' rfl X'
    exact ⟨t2, st.trans a1, b1⟩
theorem vx_callv {S SX : Type} {post : S → Prop} {px : SX → Prop} {B : S → State → Prop} {BX : String → SX → State → Prop} {AX : Nat → Prop} (hr : vx_Run p l e R s m args below meth c H locs cells slots mc ms (F0 m pc ls st0) rest (va_Qv post B A1 a) (vx_X px BX AX) free) (hS : va_S A0 H0 H locs) (hA : ∀ q, q < H.size → A1 q → A0 q) (hf : ∀ q, free q → A0 q) (hAX : ∀ q, q < H.size → AX q → A0 q)
    (kx : ∀ (E : String) (ce : Cell) (q9 : Addr) (u : SX) (t : State) (H1 : Heap) (locs1 : List Loc), t.heap = H1 → s.vm.Alike t.vm → px u → BX E u t → H.size ≤ H1.size → (∀ q : Nat, q < H.size → ¬ AX q → H1[q]? = H[q]?) → va_S A0 H0 H1 locs1 → H1[q9]? = some ce → ce.vm = .none → s.vm.findClass E = some ce.cls → vx_W p l e R s m args below meth c H1 locs1 (cells + mc) (slots + ms) Q (F0 m pc ls rest) q9)
    (kk : ∀ (u : S) (t : State) (H1 : Heap) (locs1 : List Loc), t.heap = H1 → s.vm.Alike t.vm → post u → B u t → H.size ≤ H1.size → (∀ q : Nat, q < H.size → ¬ A1 q → H1[q]? = H[q]?) → va_S A0 H0 H1 locs1 → W p l e R s m args below meth c H1 locs1 (cells + mc) (slots + ms) Q (F0 m (pc + 3) ls (rest))) : W p l e R s m args below meth c H locs cells slots Q (F0 m pc ls st0) := by
  intro T hT X
  rcases hr T hT X with ⟨v, st₀, t, T', L, h0, X', hL, e1, e2, ⟨⟨u, hv, hp, hb⟩, hF⟩, st⟩ | ⟨q, st₀, t, T', L, E, ce, h0, X', hL, e1, e2, ⟨u, hp, hb, hF⟩, hce, hcv, hcl, st⟩
  · cases hv
    obtain ⟨k1, k2, k3⟩ := vx_keep h0 e1 hS hA hf hL hF
    obtain ⟨t2, a1, b1⟩ := kk u t T'.heap (locs ++ L) e1.symm (by rw [← e2]; exact X'.warmed.alike) hp hb k1 k2 k3 T' rfl X'
    exact ⟨t2, st t2 a1, b1⟩
  · obtain ⟨k1, k2, k3⟩ := vx_keep h0 e1 hS hAX hf hL hF
    obtain ⟨t2, a1, b1⟩ := kx E ce q u t T'.heap (locs ++ L) e1.symm (by rw [← e2]; exact X'.warmed.alike) hp hb k1 k2 k3 (by rw [e1]; exact hce) hcv hcl T' rfl X'
    exact ⟨t2, st.trans a1, b1⟩
/-- caught by the row x of this method's table; the rows ahead don't take it -/
theorem vx_catch {own name : String} {E : String} {ce : Cell} {q : Addr} (hown : s.vm.findClass own = some m.cls) (pre : List ExceptionTableEntry) (x : ExceptionTableEntry) (suf : List ExceptionTableEntry) (hsplit : c.exceptionTable.toList = pre ++ x :: suf)
    (hpass : ∀ z ∈ pre, covers z pc = false ∨ (z.catchType ≠ 0 ∧ ∃ nm : String, (Cond.classLink own z.catchType nm).before args s = true ∧ va_Nc E nm s)) (hx : covers x pc = true) (h0 : x.catchType ≠ 0)
    (hlink : (Cond.classLink own x.catchType name).before args s = true) (hcast : (Cond.castable E name).before args s = true) (hcell : H[q]? = some ce) (hv : ce.vm = .none) (hcl : s.vm.findClass E = some ce.cls)
    (kk : W p l e R s m args below meth c H locs cells slots Q (F0 m x.handlerPc ls [.ref q])) : vx_W p l e R s m args below meth c H locs cells slots Q (F0 m pc ls rest) q := by
  intro T hT X
  have hpl : e.platform.magicAccessors = ({} : Platform).magicAccessors := by rw [X.admits.platform]
  obtain ⟨c3, c4, hc3, hc4, hasg⟩ := Cond.castable_spec hcast
  cases Option.some.inj (hc3.symm.trans hcl)
  obtain ⟨c5, hc5, hcl5⟩ := Cond.classLink_spec hown hlink e.platform hpl
  cases Option.some.inj (hc4.symm.trans hc5)
  obtain ⟨vm', X', st⟩ := X.thenCaughtThrough q (g := F0 m pc ls rest) rfl (Steps.refl _) (by rw [hT]; exact hcell) (by rw [hv]; rfl) (by obtain ⟨k9, h9, -⟩ := Vm.findClass_spec hcl; exact ⟨k9, h9⟩) pre x suf hsplit
    (fun z hz => by
      rcases hpass z hz with h | ⟨hz0, nm, hl1, hn1⟩
      · exact Or.inl h
      · obtain ⟨c6, hc6, hcl6⟩ := Cond.classLink_spec hown hl1 e.platform hpl
        obtain ⟨a8, b8, h1, h2, h3⟩ := hn1
        cases Option.some.inj (h1.symm.trans hcl)
        cases Option.some.inj (h2.symm.trans hc6)
        exact Or.inr ⟨hz0, _, hcl6, h3⟩) hx (Or.inr ⟨h0, c4, hcl5, hasg⟩)
  obtain ⟨t, a1, b1⟩ := kk (T.setVm vm') hT X'
  exact ⟨t, st.trans a1, b1⟩
end Rows
section Ends
variable {p : Program} {l : Launch} {e : Env} {R : Room} {s : State} {m : MethodId} {args : Array Value} {below : List Frame} {meth : Method} {c : Code} {H : Heap} {locs : List Loc} {cells slots : Nat} {Q : State → Prop}
variable {mc ms : Nat} {free : Addr → Prop} {A0 A1 : Nat → Prop} {H0 : Heap} {a : Array Value} {ls : Array Slot} {st0 rest : List Value}
variable {Qc : Array Value → State → Outcome → State → Prop} {XC : String → State → State → Prop}
/-- what a body that may throw owes at its end -/
def vx_MQ (below : List Frame) (Qc : Array Value → State → Outcome → State → Prop) (XC : String → State → State → Prop) (a : Array Value) (s : State) (mc ms : Nat) (free : Addr → Prop) : State → Prop := fun t =>
  ∃ o, t.status = .running ∧ Ended t below o ∧ vx_Q Qc XC mc ms free a s o t
theorem vx_ret {g : JFrame} {mc ms : Nat} (k : W p l e R s m args below meth c H locs cells slots (MQ below Qc args s mc ms free) g) : W p l e R s m args below meth c H locs cells slots (vx_MQ below Qc XC args s mc ms free) g := by
  intro T hT X
  obtain ⟨t, a1, o, b1, b2, b3, b4⟩ := k T hT X
  exact ⟨t, a1, o, b1, b2, Or.inl ⟨b3, b4⟩⟩
/-- not caught here: it goes on to the caller -/
theorem vx_widen {g : JFrame} {q : Addr} {k n : Nat} (h1 : cells ≤ k) (h2 : slots ≤ n) (kk : vx_W p l e R s m args below meth c H locs k n Q g q) : vx_W p l e R s m args below meth c H locs cells slots Q g q := fun T hT X => kk T hT (stand_widen X h1 h2)
theorem vx_out {pc : Nat} {E : String} {ce : Cell} {q : Addr} {mc ms : Nat} (hout : ∀ x ∈ c.exceptionTable.toList, covers x pc = false) (hlocks : meth.locks = false) (hcell : H[q]? = some ce) (hv : ce.vm = .none) (hcl : s.vm.findClass E = some ce.cls)
    (hx : ∀ t : State, t.heap = H → s.vm.Alike t.vm → XC E s t) (hf : ∀ z ∈ locs, free z.base) (hc : cells ≤ mc) (hs : slots ≤ ms) :
    vx_W p l e R s m args below meth c H locs cells slots (vx_MQ below Qc XC args s mc ms free) (F0 m pc ls rest) q := by
  intro T hT X
  obtain ⟨st1, hrun, hend, hW, hsm⟩ := X.leaveThrown q (g := F0 m pc ls rest) rfl rfl rfl hout hlocks
  have hcell9 : (T.setFrames (.throwing q :: below)).heap[q]? = some ce := by
    show T.heap[q]? = some ce
    rw [hT]; exact hcell
  exact ⟨_, st1, .threw q, hrun, hend, Or.inr ⟨q, rfl, E, ce, locs, hx _ hT hW.alike, hcell9, hv, hcl, hW, hsm.mono hc hs, hf⟩⟩
theorem vx_frame {U : State} {k n : Nat} (h : s.sameButNew ({ U with vm := s.vm } : State) locs k n) : s.heap.size ≤ U.heap.size ∧ ∀ q : Nat, q < s.heap.size → (∀ z ∈ locs, z.base ≠ q) → U.heap[q]? = s.heap[q]? := by
  obtain ⟨-, h2, -, -, -, h6⟩ := h
  refine ⟨h2, fun q hq hz => ?_⟩
  obtain ⟨c9, e1, e2, e3, e4⟩ := h6 q _ (Array.getElem?_eq_getElem hq)
  have hs : c9.slots = (s.heap[q]).slots := Array.ext_getElem? fun i => e4 i fun hm => hz _ hm rfl
  have h9 : c9 = s.heap[q] := by
    rw [hs] at e2
    exact e2
  have e5 : U.heap[q]? = some c9 := e1
  rw [e5, h9, Array.getElem?_eq_getElem hq]
/-- the words of a throw but the four that speak of the heap -/
def vx_no (w : Cond) : Bool := decide (w ≠ .isRef (.static Bundle.tN "UNASSIGNED_STACK" Bundle.steD)) && decide (w ≠ .isRef (.static Bundle.tN "SUPPRESSED_SENTINEL" Bundle.listD)) && decide (w ≠ .laysStatic Bundle.tN "UNASSIGNED_STACK" Bundle.steD) && decide (w ≠ .laysStatic Bundle.tN "SUPPRESSED_SENTINEL" Bundle.listD)
def vx_at0 (own : String) (ic : Nat) (X : String) (names : List String) : List Cond := (Bundle.ownAtoms0 own ic X names).filter vx_no
def vx_atS (own : String) (ic : Nat) (X : String) (names : List String) : List Cond := (Bundle.ownAtoms own ic X names).filter vx_no
/-- a word that the tables alone decide, or a good one -/
def vx_ot (w : Cond) : Bool := w.onTables || goodWord w
theorem vx_ot_at {args a' : Array Value} {s U : State} {w : Cond} (hW : s.WarmedH U.vm) (hvm : s.vm = U.vm) (hg : vx_ot w = true) (h : w.before args s = true) : w.before a' U = true := by
  simp only [vx_ot, Bool.or_eq_true] at hg
  rcases hg with hg | hg
  · exact va_tabs hg hvm h
  · exact word_at hW (good_of_word hg) h
/-- a list's words: the good ones out of the method's own list, the others by premises of their own -/
theorem vx_hat {args : Array Value} {s : State} {L B : List Cond} (h1 : ∀ w ∈ L.filter goodWord, w.before args s = true) (h2 : ∀ w ∈ L.filter (fun w => !goodWord w), w ∈ B) (h3 : ∀ w ∈ B, w.before args s = true) : ∀ w ∈ L, w.before args s = true := by
  intro w hw
  by_cases g : goodWord w = true
  · exact h1 w (List.mem_filter.mpr ⟨hw, g⟩)
  · refine h3 w (h2 w (List.mem_filter.mpr ⟨hw, ?_⟩))
    show (!goodWord w) = true
    cases hgw : goodWord w
    · rfl
    · exact absurd hgw g
theorem vx_c {args : Array Value} {s : State} {w : Cond} {B : List Cond} (h : w.before args s = true) (t : ∀ w ∈ B, w.before args s = true) : ∀ w' ∈ w :: B, w'.before args s = true := fun w' h' => (List.mem_cons.mp h').elim (fun e => by rw [e]; exact h) (t w')
theorem vx_n {args : Array Value} {s : State} : ∀ w ∈ ([] : List Cond), w.before args s = true := fun _ h => nomatch h
theorem vx_own {args : Array Value} {s : State} {L : List Cond} (h1 : ∀ w ∈ L.filter vx_no, w.before args s = true)
    (hU : (Cond.isRef (.static Bundle.tN "UNASSIGNED_STACK" Bundle.steD)).before args s = true) (hN : (Cond.isRef (.static Bundle.tN "SUPPRESSED_SENTINEL" Bundle.listD)).before args s = true)
    (lU : (Cond.laysStatic Bundle.tN "UNASSIGNED_STACK" Bundle.steD).before args s = true) (lN : (Cond.laysStatic Bundle.tN "SUPPRESSED_SENTINEL" Bundle.listD).before args s = true) : ∀ w ∈ L, w.before args s = true := by
  intro w hw
  by_cases e1 : w = .isRef (.static Bundle.tN "UNASSIGNED_STACK" Bundle.steD)
  · rw [e1]; exact hU
  · by_cases e2 : w = .isRef (.static Bundle.tN "SUPPRESSED_SENTINEL" Bundle.listD)
    · rw [e2]; exact hN
    · by_cases e3 : w = .laysStatic Bundle.tN "UNASSIGNED_STACK" Bundle.steD
      · rw [e3]; exact lU
      · by_cases e4 : w = .laysStatic Bundle.tN "SUPPRESSED_SENTINEL" Bundle.listD
        · rw [e4]; exact lN
        · exact h1 w (List.mem_filter.mpr ⟨hw, by unfold vx_no; rw [decide_eq_true e1, decide_eq_true e2, decide_eq_true e3, decide_eq_true e4]; rfl⟩)
/-- where a static field lies, its class's statics cell in H -/
def vx_L (C n d : String) (A : Nat → Prop) (U : State) (H : Heap) : Prop := ∃ (c : ClassId) (k : Class) (i : Nat) (f : Field) (a : Nat) (cell : Cell), U.vm.findClass C = some c ∧ U.fieldFound? C n d = some (c, k, i, f) ∧ f.isStatic = true ∧ k.statics = some a ∧ H[a]? = some cell ∧ cell.vm.isStatics = true ∧ cell.cls = c ∧ f.slot < cell.slots.size ∧ k.staticTypes[f.slot]? = some f.type ∧ ¬ A a
theorem vx_L.moved {C n d : String} {A : Nat → Prop} {u U : State} {H : Heap} (hvm : u.vm.Alike U.vm) (h : vx_L C n d A u H) : vx_L C n d A U H := by
  obtain ⟨c, k, i, f, a, cell, h1, h2, h3, h4, h5, h6, h7, h8, h9, h10⟩ := h
  obtain ⟨k', hi', he⟩ := State.fieldFound?_setVm hvm h2
  exact ⟨c, k', i, f, a, cell, by rw [hvm.findClass]; exact h1, hi', h3, by rw [he]; exact h4, h5, h6, h7, h8, by rw [he]; exact h9, h10⟩
theorem vx_L.kept {C n d : String} {A : Nat → Prop} {U : State} {H H1 : Heap} (h : vx_L C n d A U H) (hq : ∀ a : Nat, a < H.size → ¬ A a → H1[a]? = H[a]?) : vx_L C n d A U H1 := by
  obtain ⟨c, k, i, f, a, cell, h1, h2, h3, h4, h5, h6, h7, h8, h9, h10⟩ := h
  exact ⟨c, k, i, f, a, cell, h1, h2, h3, h4, by rw [hq a (Array.getElem?_eq_some_iff.mp h5).1 h10]; exact h5, h6, h7, h8, h9, h10⟩
theorem vx_L.narrow {C n d : String} {A B : Nat → Prop} {U : State} {H : Heap} (h : vx_L C n d A U H) (hAB : ∀ q, B q → A q) : vx_L C n d B U H := by
  obtain ⟨c, k, i, f, a, cell, h1, h2, h3, h4, h5, h6, h7, h8, h9, h10⟩ := h
  exact ⟨c, k, i, f, a, cell, h1, h2, h3, h4, h5, h6, h7, h8, h9, fun z => h10 (hAB _ z)⟩
theorem vx_L.word {C n d : String} {A : Nat → Prop} {s : State} {args : Array Value} (h : vx_L C n d A s s.heap) : (Cond.laysStatic C n d).before args s = true := by
  obtain ⟨c, k, i, f, a, cell, h1, h2, h3, h4, h5, h6, h7, h8, h9, -⟩ := h
  show (Cond.laysStatic C n d).holds args s none s [] = true
  exact Cond.laysStatic_of h1 h2 h3 h4 h5 h6 h7 h8 h9
/-- .. and what it holds: null or some reference -/
def vx_Zq (C n d : String) (A : Nat → Prop) (U : State) (H : Heap) : Prop := va_Zq C n d A U H ∧ vx_L C n d A U H
theorem vx_Zq.moved {C n d : String} {A : Nat → Prop} {u U : State} {H : Heap} (hvm : u.vm.Alike U.vm) (h : vx_Zq C n d A u H) : vx_Zq C n d A U H := ⟨va_Zq.moved hvm h.1, vx_L.moved hvm h.2⟩
theorem vx_Zq.kept {C n d : String} {A : Nat → Prop} {U : State} {H H1 : Heap} (h : vx_Zq C n d A U H) (hq : ∀ a : Nat, a < H.size → ¬ A a → H1[a]? = H[a]?) : vx_Zq C n d A U H1 := ⟨va_Zq.kept h.1 hq, vx_L.kept h.2 hq⟩
theorem vx_Zq.narrow {C n d : String} {A B : Nat → Prop} {U : State} {H : Heap} (h : vx_Zq C n d A U H) (hAB : ∀ q, B q → A q) : vx_Zq C n d B U H := ⟨va_Zq.narrow h.1 hAB, vx_L.narrow h.2 hAB⟩
theorem vx_Zqof {args : Array Value} {s : State} {C n d : String} {A : Nat → Prop} (hl : (Cond.laysStatic C n d).before args s = true) (hini : (Cond.initialized C).before args s = true) (h : (Cond.isRef (.static C n d)).before args s = true) (hA : ∀ a : Nat, a < s.heap.size → ¬ A a) : vx_Zq C n d A s s.heap := by
  refine ⟨va_Zqof hl hini h hA, ?_⟩
  obtain ⟨c, k, i, f, a, cell, h1, h2, h3, h4, h5, h6, h7, h8, h9⟩ := Cond.laysStatic_spec hl
  exact ⟨c, k, i, f, a, cell, h1, h2, h3, h4, h5, h6, h7, h8, h9, hA a (Array.getElem?_eq_some_iff.mp h5).1⟩
theorem vx_isRef {C n d : String} {v : Value} {A : Nat → Prop} {s : State} {args : Array Value} (h : va_Z C n d v A s s.heap) (hv : v.isRef = true) : (Cond.isRef (.static C n d)).before args s = true := by
  obtain ⟨cf, kf, fi, f, a, cell, h1, h2, h3, h4, h5, h6, h7, -⟩ := h
  have he : (Term.static C n d).eval args s none [] s = some v := by
    simp [Term.eval, State.fieldNamed?, h1, h2, h4, h5, h6, h7]
  simp only [Cond.before, Cond.holds, Cond.value, he]
  cases v <;> simp_all [Value.isRef]
theorem vx_isRefq {C n d : String} {A : Nat → Prop} {s : State} {args : Array Value} (h : va_Zq C n d A s s.heap) : (Cond.isRef (.static C n d)).before args s = true := by
  rcases h with h | ⟨t, h⟩
  · exact vx_isRef h rfl
  · exact vx_isRef h rfl
/-- the same frame, seen from here: as if the method were called anew in this heap -/
theorem vx_rebase {T : State} (X : Stand p l e R s m args below meth c T locs cells slots) {R' : Room} (hf : R'.frames ≤ R.frames) (hl : R'.locals ≤ R.locals) (hc : cells + R'.cells ≤ R.cells) (hs : slots + R'.slots ≤ R.slots) :
    Stand p l e R' ((T.setVm s.vm).setFrames (.invoking m args :: below)) m args below meth c T [] 0 0 := by
  have htop : (T.setVm s.vm).topJava?.isSome := X.here.top
  have hF : ((T.setVm s.vm).setFrames (.invoking m args :: below)).frames = .invoking m args :: below := State.frames_setFrames _ (State.cur_lt_of_top htop)
  obtain ⟨g₀, hg0⟩ := Option.isSome_iff_exists.mp htop
  obtain ⟨r, hr⟩ := State.topJava?_eq_some.mp hg0
  have hl9 : e.platform.stackLimits (T.setVm s.vm).me = e.platform.stackLimits s.me := X.limits
  have hb9 : (T.setVm s.vm).me.stackBytes = s.me.stackBytes := X.bytes
  refine ⟨X.admits, X.cas, X.clock, hF, ?_, X.hears, X.method, X.code, X.here, X.tail, X.warmed, ?_, ?_, ?_⟩
  · have h := X.room
    have hU : ((T.setVm s.vm).setFrames (.invoking m args :: below)).localsInUse = s.localsInUse := by
      rw [State.localsInUse_invoking hF (meth := meth) (c := c) X.method X.code, State.localsInUse_invoking X.frames X.method X.code]
    simp only [State.hasRoom, Bool.and_eq_true, decide_eq_true_eq] at h ⊢
    obtain ⟨⟨⟨⟨h1, h2, h3, h4, h5, h6⟩, h7⟩, h8⟩, h9⟩ := h
    rw [X.frames, List.length_cons] at h2 h3
    have q1 := X.heapSize
    have q2 := X.used
    simp only [hF, hU, List.length_cons, State.stackLimits_setFrames, State.stackBytes_setFrames, hl9, hb9]
    refine ⟨⟨⟨⟨by omega, by omega, by omega, by omega, by omega, h6⟩, ?_⟩, ?_⟩, X.book⟩
    · show T.heap.size + R'.cells ≤ e.platform.maxCells
      omega
    · show T.slotsUsed + R'.slots ≤ e.platform.maxSlots
      omega
  · rw [State.stackLimits_setFrames]; rfl
  · rw [State.stackBytes_setFrames]; rfl
  · refine ⟨?_, Nat.le_refl _, Nat.le_refl _, ?_, ?_, fun a c9 h9 => ⟨c9, h9, rfl, rfl, fun _ _ => rfl⟩⟩
    · obtain ⟨t, ht, -⟩ := State.frames_cons hr
      show T.setVm s.vm = { ((T.setVm s.vm).setFrames (.invoking m args :: below)).setFrames (T.setVm s.vm).frames with heap := T.heap, slotsUsed := T.slotsUsed }
      rw [State.setFrames_setFrames, State.setFrames_self ht]
      rfl
    · show T.slotsUsed = T.slotsUsed + ((T.heap.toList.drop T.heap.size).map (·.slots.size)).sum
      rw [List.drop_eq_nil_of_le (Nat.le_of_eq Array.length_toList)]
      rfl
    · show ((T.heap.toList.drop T.heap.size).map (·.slots.size)).sum ≤ 0
      rw [List.drop_eq_nil_of_le (Nat.le_of_eq Array.length_toList)]
      exact Nat.le_refl _
/-- 'throw new E()': new; dup; invokespecial; athrow -/
theorem vx_throw0 {cc : ByteArray} {pc : Nat} (hexec : p.tables.exec = Jvm.exec) (hb : c.code = cc) (hl : l.stackTraces = false) {own cls : String} {names : List String} {ik ic mc ms : Nat} {A : Nat → Prop}
    (hown : s.vm.findClass own = some m.cls) (hcls : Bundle.fit cls = true) (hnames : ∀ n ∈ names, Bundle.fit n = true)
    (hk : (Cond.classLink own ik cls).before args s = true) (hini : (Cond.initialized cls).before args s = true) (hat : ∀ w ∈ vx_at0 own ic cls names, w.before args s = true)
    (hgood : ∀ w ∈ Cond.classLink own ik cls :: Cond.initialized cls :: vx_at0 own ic cls names, vx_ot w = true)
    (hU : vx_Zq Bundle.tN "UNASSIGNED_STACK" Bundle.steD A s s.heap) (hN : vx_Zq Bundle.tN "SUPPRESSED_SENTINEL" Bundle.listD A s s.heap) (hS : va_S A s.heap H locs) (hsize : ls.size = c.maxLocals)
    (d0 : decode cc pc = .ok (.new ik, 3)) (d3 : decode cc (pc + 3) = .ok (.dup, 1)) (d4 : decode cc (pc + 4) = .ok (.invokespecial ic, 3)) (d7 : decode cc (pc + 7) = .ok (.athrow, 1))
    (hout : ∀ x ∈ c.exceptionTable.toList, covers x (pc + 7) = false)
    (hRframes : names.length + 3 < R.frames) (hRlocals : (rest.map fun v => v.category).sum + (13 * (names.length + 1) + 42) ≤ R.locals) (hRcells : cells + 1 ≤ R.cells) (hRslots : slots + 6 ≤ R.slots) (hlocks : meth.locks = false)
    (hx : ∀ t : State, s.vm.Alike t.vm → H.size ≤ t.heap.size → (∀ q : Nat, q < H.size → t.heap[q]? = H[q]?) → XC cls s t)
    (hf : ∀ z ∈ locs, free z.base) (hc : cells + 1 ≤ mc) (hs : slots + 6 ≤ ms) :
    W p l e R s m args below meth c H locs cells slots (vx_MQ below Qc XC args s mc ms free) (F0 m pc ls rest) := by
  intro T hT X
  have htr : e.platform.stackTraces = false := (show e.platform.stackTraces = l.stackTraces by rw [X.admits.platform]).trans hl
  have Y := vx_rebase X (R' := { frames := R.frames, locals := R.locals, cells := 1, slots := 6 }) (Nat.le_refl _) (Nat.le_refl _) hRcells hRslots
  obtain ⟨s', hA⟩ : ∃ z, z = (T.setVm s.vm).setFrames (.invoking m args :: below) := ⟨_, rfl⟩
  rw [← hA] at Y
  have hvm : s'.vm = s.vm := by rw [hA]; rfl
  have hhp : s'.heap = H := by rw [hA]; exact hT
  have hW0 : s.WarmedH s'.vm := by rw [hvm]; exact State.WarmedH.refl s
  have hat' : ∀ w ∈ vx_at0 own ic cls names, w.before args s' = true := fun w hw => vx_ot_at hW0 hvm.symm (hgood w (List.mem_cons_of_mem _ (List.mem_cons_of_mem _ hw))) (hat w hw)
  have hk' : (Cond.classLink own ik cls).before args s' = true := vx_ot_at hW0 hvm.symm (hgood _ List.mem_cons_self) hk
  have hini' : (Cond.initialized cls).before args s' = true := vx_ot_at hW0 hvm.symm (hgood _ (List.mem_cons_of_mem _ List.mem_cons_self)) hini
  have hU' : vx_Zq Bundle.tN "UNASSIGNED_STACK" Bundle.steD A s' s'.heap := by rw [hhp]; exact vx_Zq.moved hW0.alike (hU.kept hS.2.1)
  have hN' : vx_Zq Bundle.tN "SUPPRESSED_SENTINEL" Bundle.listD A s' s'.heap := by rw [hhp]; exact vx_Zq.moved hW0.alike (hN.kept hS.2.1)
  have h : ∀ w ∈ Bundle.ownAtoms0 own ic cls names, w.before args s' = true := vx_own hat' (vx_isRefq hU'.1) (vx_isRefq hN'.1) hU'.2.word hN'.2.word
  have hown' : s'.vm.findClass own = some m.cls := by rw [hvm]; exact hown
  have hins : (Cond.instantiable cls 6).before args s' = true := h _ (by simp [Bundle.ownAtoms0])
  obtain ⟨vm₁, cX, kX, hfX, hkX, -, -, X₁, st1⟩ := Y.newCold hexec (own := own) (C := cls) (index := ik) (n := 6) hown' hk' hins hini'
    (g := F0 m pc ls rest) rfl (by rw [hb]; exact d0) (Nat.le_refl _) (Nat.le_refl _)
  generalize hT1 : (T.setVm vm₁).pushCell { cls := cX, slots := kX.instanceTypes.map defaultValue, vm := .none } = T1 at X₁ st1
  have hcat : (Value.ref T.heap.size).category = 1 := rfl
  have hcellA : T1.heap[T.heap.size]? = some (freshCell cX kX) := by rw [← hT1]; exact State.heap_pushCell_size _ _
  have d3' : decode c.code (pc + 3) = .ok (.dup, 1) := by rw [hb]; exact d3
  obtain ⟨U, hsteps, hrun, hend, hW, hsame, ce, hce, hO⟩ := X₁.ctorThrow0 hexec htr (own := own) (cls := cls) (names := names) (ic := ic) hown' hcls hnames h (fun x hx => nomatch hx) hfX hkX hcellA (by rw [hhp, hT]; exact Nat.le_refl _)
    (g := { method := m, pc := pc + 4, locals := ls, stack := .ref T.heap.size :: .ref T.heap.size :: rest, locked := none }) rfl hsize rfl rfl (rest := rest) rfl
    (by rw [hb]; exact d4) (by rw [hb]; exact d7) hout hRframes (by simp only [List.map_cons, List.sum_cons, hcat]; omega) hlocks
  obtain ⟨f1, f2⟩ := vx_frame hsame
  rw [hhp] at f1 f2
  have hWs : s.WarmedH U.vm := State.WarmedH.trans hW0 hW
  have hcl : s.vm.findClass cls = some ce.cls := by
    have h9 := hO.cls
    rw [hvm] at h9
    exact h9
  have hall : s.sameButNew ({ U with vm := s.vm } : State) locs mc ms := by
    subst hA
    obtain ⟨e1, e2⟩ := hsame
    rw [State.setFrames_setFrames] at e1
    have h2 : (T.setVm s.vm).sameButNew ({ U with vm := s.vm } : State) [] (0 + 1) (0 + 6) := ⟨e1, e2⟩
    have h3 := X.same.trans h2
    rw [List.append_nil] at h3
    exact h3.mono hc hs
  refine ⟨U, ?_, .threw T.heap.size, hrun, hend, Or.inr ⟨T.heap.size, rfl, cls, ce, locs, hx U hWs.alike f1 (fun q hq => f2 q hq (fun z hz => nomatch hz)), hce, hO.vm, hcl, hWs, hall, hf⟩⟩
  refine st1 _ ?_
  show Steps p.tables e below (T1.setTop { method := m, pc := pc + 3, locals := ls, stack := .ref T.heap.size :: rest, locked := none }) _
  jvm_step X₁.here [X₁.here.top, hexec, d3', Value.category]
  exact hsteps
/-- 'throw new E("text")': new; dup; ldc; invokespecial; athrow -/
theorem vx_throwS {cc : ByteArray} {pc : Nat} (hexec : p.tables.exec = Jvm.exec) (hb : c.code = cc) (hl : l.stackTraces = false) {own cls text : String} {names : List String} {ik is ic mc ms sa : Nat} {A : Nat → Prop}
    (hown : s.vm.findClass own = some m.cls) (hcls : Bundle.fit cls = true) (hnames : ∀ n ∈ names, Bundle.fit n = true)
    (hk : (Cond.classLink own ik cls).before args s = true) (hini : (Cond.initialized cls).before args s = true) (hstr : vk_R own is text sa s) (hat : ∀ w ∈ vx_atS own ic cls names, w.before args s = true)
    (hgood : ∀ w ∈ Cond.classLink own ik cls :: Cond.initialized cls :: vx_atS own ic cls names, vx_ot w = true)
    (hU : vx_Zq Bundle.tN "UNASSIGNED_STACK" Bundle.steD A s s.heap) (hN : vx_Zq Bundle.tN "SUPPRESSED_SENTINEL" Bundle.listD A s s.heap) (hS : va_S A s.heap H locs) (hsize : ls.size = c.maxLocals)
    (d0 : decode cc pc = .ok (.new ik, 3)) (d3 : decode cc (pc + 3) = .ok (.dup, 1)) (d4 : decode cc (pc + 4) = .ok (.ldc is, 2)) (d6 : decode cc (pc + 6) = .ok (.invokespecial ic, 3)) (d9 : decode cc (pc + 9) = .ok (.athrow, 1))
    (hout : ∀ x ∈ c.exceptionTable.toList, covers x (pc + 9) = false)
    (hRframes : names.length + 3 < R.frames) (hRlocals : (rest.map fun v => v.category).sum + (13 * (names.length + 1) + 43) ≤ R.locals) (hRcells : cells + 1 ≤ R.cells) (hRslots : slots + 6 ≤ R.slots) (hlocks : meth.locks = false)
    (hx : ∀ t : State, s.vm.Alike t.vm → H.size ≤ t.heap.size → (∀ q : Nat, q < H.size → t.heap[q]? = H[q]?) → XC cls s t)
    (hf : ∀ z ∈ locs, free z.base) (hc : cells + 1 ≤ mc) (hs : slots + 6 ≤ ms) :
    W p l e R s m args below meth c H locs cells slots (vx_MQ below Qc XC args s mc ms free) (F0 m pc ls rest) := by
  intro T hT X
  have htr : e.platform.stackTraces = false := (show e.platform.stackTraces = l.stackTraces by rw [X.admits.platform]).trans hl
  have Y := vx_rebase X (R' := { frames := R.frames, locals := R.locals, cells := 1, slots := 6 }) (Nat.le_refl _) (Nat.le_refl _) hRcells hRslots
  obtain ⟨s', hA⟩ : ∃ z, z = (T.setVm s.vm).setFrames (.invoking m args :: below) := ⟨_, rfl⟩
  rw [← hA] at Y
  have hvm : s'.vm = s.vm := by rw [hA]; rfl
  have hhp : s'.heap = H := by rw [hA]; exact hT
  have hW0 : s.WarmedH s'.vm := by rw [hvm]; exact State.WarmedH.refl s
  have hat' : ∀ w ∈ vx_atS own ic cls names, w.before args s' = true := fun w hw => vx_ot_at hW0 hvm.symm (hgood w (List.mem_cons_of_mem _ (List.mem_cons_of_mem _ hw))) (hat w hw)
  have hk' : (Cond.classLink own ik cls).before args s' = true := vx_ot_at hW0 hvm.symm (hgood _ List.mem_cons_self) hk
  have hini' : (Cond.initialized cls).before args s' = true := vx_ot_at hW0 hvm.symm (hgood _ (List.mem_cons_of_mem _ List.mem_cons_self)) hini
  have hU' : vx_Zq Bundle.tN "UNASSIGNED_STACK" Bundle.steD A s' s'.heap := by rw [hhp]; exact vx_Zq.moved hW0.alike (hU.kept hS.2.1)
  have hN' : vx_Zq Bundle.tN "SUPPRESSED_SENTINEL" Bundle.listD A s' s'.heap := by rw [hhp]; exact vx_Zq.moved hW0.alike (hN.kept hS.2.1)
  have h : ∀ w ∈ Bundle.ownAtoms own ic cls names, w.before args s' = true := vx_own hat' (vx_isRefq hU'.1) (vx_isRefq hN'.1) hU'.2.word hN'.2.word
  have hown' : s'.vm.findClass own = some m.cls := by rw [hvm]; exact hown
  have hins : (Cond.instantiable cls 6).before args s' = true := h _ (by simp [Bundle.ownAtoms])
  obtain ⟨vm₁, cX, kX, hfX, hkX, -, -, X₁, st1⟩ := Y.newCold hexec (own := own) (C := cls) (index := ik) (n := 6) hown' hk' hins hini'
    (g := F0 m pc ls rest) rfl (by rw [hb]; exact d0) (Nat.le_refl _) (Nat.le_refl _)
  generalize hT1 : (T.setVm vm₁).pushCell { cls := cX, slots := kX.instanceTypes.map defaultValue, vm := .none } = T1 at X₁ st1
  have hcat : (Value.ref T.heap.size).category = 1 := rfl
  have hcellA : T1.heap[T.heap.size]? = some (freshCell cX kX) := by rw [← hT1]; exact State.heap_pushCell_size _ _
  have d3' : decode c.code (pc + 3) = .ok (.dup, 1) := by rw [hb]; exact d3
  have d4' : decode c.code (pc + 4) = .ok (.ldc is, 2) := by rw [hb]; exact d4
  have hstr' : vk_R own is text sa s' := vk_R.warm hW0 hstr
  obtain ⟨U, hsteps, hrun, hend, hW, hsame, ce, hce, hO⟩ := X₁.ctorThrowS hexec htr (own := own) (cls := cls) (names := names) (ic := ic) hown' hcls hnames h (fun x hx => nomatch hx) hfX hkX hcellA (by rw [hhp, hT]; exact Nat.le_refl _) (msg := .ref sa) rfl
    (g := { method := m, pc := pc + 6, locals := ls, stack := .ref sa :: .ref T.heap.size :: .ref T.heap.size :: rest, locked := none }) rfl hsize rfl rfl (rest := rest) rfl
    (by rw [hb]; exact d6) (by rw [hb]; exact d9) hout hRframes (by simp only [List.map_cons, List.sum_cons, hcat]; omega) hlocks
  obtain ⟨f1, f2⟩ := vx_frame hsame
  rw [hhp] at f1 f2
  have hWs : s.WarmedH U.vm := State.WarmedH.trans hW0 hW
  have hcl : s.vm.findClass cls = some ce.cls := by
    have h9 := hO.cls
    rw [hvm] at h9
    exact h9
  have hall : s.sameButNew ({ U with vm := s.vm } : State) locs mc ms := by
    subst hA
    obtain ⟨e1, e2⟩ := hsame
    rw [State.setFrames_setFrames] at e1
    have h2 : (T.setVm s.vm).sameButNew ({ U with vm := s.vm } : State) [] (0 + 1) (0 + 6) := ⟨e1, e2⟩
    have h3 := X.same.trans h2
    rw [List.append_nil] at h3
    exact h3.mono hc hs
  refine ⟨U, ?_, .threw T.heap.size, hrun, hend, Or.inr ⟨T.heap.size, rfl, cls, ce, locs, hx U hWs.alike f1 (fun q hq => f2 q hq (fun z hz => nomatch hz)), hce, hO.vm, hcl, hWs, hall, hf⟩⟩
  refine st1 _ ?_
  show Steps p.tables e below (T1.setTop { method := m, pc := pc + 3, locals := ls, stack := .ref T.heap.size :: rest, locked := none }) _
  jvm_step X₁.here [X₁.here.top, hexec, d3', Value.category]
  exact X₁.ldcString hexec (own := own) (text := text) (index := is) (a := sa) hown' hstr'.1 hstr'.2
    (g := { method := m, pc := pc + 4, locals := ls, stack := .ref T.heap.size :: .ref T.heap.size :: rest, locked := none }) rfl d4' _ hsteps
/-- 'throw new E("text")', the text by a wide index -/
theorem vx_throwSW {cc : ByteArray} {pc : Nat} (hexec : p.tables.exec = Jvm.exec) (hb : c.code = cc) (hl : l.stackTraces = false) {own cls text : String} {names : List String} {ik is ic mc ms sa : Nat} {A : Nat → Prop}
    (hown : s.vm.findClass own = some m.cls) (hcls : Bundle.fit cls = true) (hnames : ∀ n ∈ names, Bundle.fit n = true)
    (hk : (Cond.classLink own ik cls).before args s = true) (hini : (Cond.initialized cls).before args s = true) (hstr : vk_R own is text sa s) (hat : ∀ w ∈ vx_atS own ic cls names, w.before args s = true)
    (hgood : ∀ w ∈ Cond.classLink own ik cls :: Cond.initialized cls :: vx_atS own ic cls names, vx_ot w = true)
    (hU : vx_Zq Bundle.tN "UNASSIGNED_STACK" Bundle.steD A s s.heap) (hN : vx_Zq Bundle.tN "SUPPRESSED_SENTINEL" Bundle.listD A s s.heap) (hS : va_S A s.heap H locs) (hsize : ls.size = c.maxLocals)
    (d0 : decode cc pc = .ok (.new ik, 3)) (d3 : decode cc (pc + 3) = .ok (.dup, 1)) (d4 : decode cc (pc + 4) = .ok (.ldc_w is, 3)) (d7 : decode cc (pc + 7) = .ok (.invokespecial ic, 3)) (d10 : decode cc (pc + 10) = .ok (.athrow, 1))
    (hout : ∀ x ∈ c.exceptionTable.toList, covers x (pc + 10) = false)
    (hRframes : names.length + 3 < R.frames) (hRlocals : (rest.map fun v => v.category).sum + (13 * (names.length + 1) + 43) ≤ R.locals) (hRcells : cells + 1 ≤ R.cells) (hRslots : slots + 6 ≤ R.slots) (hlocks : meth.locks = false)
    (hx : ∀ t : State, s.vm.Alike t.vm → H.size ≤ t.heap.size → (∀ q : Nat, q < H.size → t.heap[q]? = H[q]?) → XC cls s t)
    (hf : ∀ z ∈ locs, free z.base) (hc : cells + 1 ≤ mc) (hs : slots + 6 ≤ ms) :
    W p l e R s m args below meth c H locs cells slots (vx_MQ below Qc XC args s mc ms free) (F0 m pc ls rest) := by
  intro T hT X
  have htr : e.platform.stackTraces = false := (show e.platform.stackTraces = l.stackTraces by rw [X.admits.platform]).trans hl
  have Y := vx_rebase X (R' := { frames := R.frames, locals := R.locals, cells := 1, slots := 6 }) (Nat.le_refl _) (Nat.le_refl _) hRcells hRslots
  obtain ⟨s', hA⟩ : ∃ z, z = (T.setVm s.vm).setFrames (.invoking m args :: below) := ⟨_, rfl⟩
  rw [← hA] at Y
  have hvm : s'.vm = s.vm := by rw [hA]; rfl
  have hhp : s'.heap = H := by rw [hA]; exact hT
  have hW0 : s.WarmedH s'.vm := by rw [hvm]; exact State.WarmedH.refl s
  have hat' : ∀ w ∈ vx_atS own ic cls names, w.before args s' = true := fun w hw => vx_ot_at hW0 hvm.symm (hgood w (List.mem_cons_of_mem _ (List.mem_cons_of_mem _ hw))) (hat w hw)
  have hk' : (Cond.classLink own ik cls).before args s' = true := vx_ot_at hW0 hvm.symm (hgood _ List.mem_cons_self) hk
  have hini' : (Cond.initialized cls).before args s' = true := vx_ot_at hW0 hvm.symm (hgood _ (List.mem_cons_of_mem _ List.mem_cons_self)) hini
  have hU' : vx_Zq Bundle.tN "UNASSIGNED_STACK" Bundle.steD A s' s'.heap := by rw [hhp]; exact vx_Zq.moved hW0.alike (hU.kept hS.2.1)
  have hN' : vx_Zq Bundle.tN "SUPPRESSED_SENTINEL" Bundle.listD A s' s'.heap := by rw [hhp]; exact vx_Zq.moved hW0.alike (hN.kept hS.2.1)
  have h : ∀ w ∈ Bundle.ownAtoms own ic cls names, w.before args s' = true := vx_own hat' (vx_isRefq hU'.1) (vx_isRefq hN'.1) hU'.2.word hN'.2.word
  have hown' : s'.vm.findClass own = some m.cls := by rw [hvm]; exact hown
  have hins : (Cond.instantiable cls 6).before args s' = true := h _ (by simp [Bundle.ownAtoms])
  obtain ⟨vm₁, cX, kX, hfX, hkX, -, -, X₁, st1⟩ := Y.newCold hexec (own := own) (C := cls) (index := ik) (n := 6) hown' hk' hins hini'
    (g := F0 m pc ls rest) rfl (by rw [hb]; exact d0) (Nat.le_refl _) (Nat.le_refl _)
  generalize hT1 : (T.setVm vm₁).pushCell { cls := cX, slots := kX.instanceTypes.map defaultValue, vm := .none } = T1 at X₁ st1
  have hcat : (Value.ref T.heap.size).category = 1 := rfl
  have hcellA : T1.heap[T.heap.size]? = some (freshCell cX kX) := by rw [← hT1]; exact State.heap_pushCell_size _ _
  have d3' : decode c.code (pc + 3) = .ok (.dup, 1) := by rw [hb]; exact d3
  have d4' : decode c.code (pc + 4) = .ok (.ldc_w is, 3) := by rw [hb]; exact d4
  have hstr' : vk_R own is text sa s' := vk_R.warm hW0 hstr
  obtain ⟨U, hsteps, hrun, hend, hW, hsame, ce, hce, hO⟩ := X₁.ctorThrowS hexec htr (own := own) (cls := cls) (names := names) (ic := ic) hown' hcls hnames h (fun x hx => nomatch hx) hfX hkX hcellA (by rw [hhp, hT]; exact Nat.le_refl _) (msg := .ref sa) rfl
    (g := { method := m, pc := pc + 7, locals := ls, stack := .ref sa :: .ref T.heap.size :: .ref T.heap.size :: rest, locked := none }) rfl hsize rfl rfl (rest := rest) rfl
    (by rw [hb]; exact d7) (by rw [hb]; exact d10) hout hRframes (by simp only [List.map_cons, List.sum_cons, hcat]; omega) hlocks
  obtain ⟨f1, f2⟩ := vx_frame hsame
  rw [hhp] at f1 f2
  have hWs : s.WarmedH U.vm := State.WarmedH.trans hW0 hW
  have hcl : s.vm.findClass cls = some ce.cls := by
    have h9 := hO.cls
    rw [hvm] at h9
    exact h9
  have hall : s.sameButNew ({ U with vm := s.vm } : State) locs mc ms := by
    subst hA
    obtain ⟨e1, e2⟩ := hsame
    rw [State.setFrames_setFrames] at e1
    have h2 : (T.setVm s.vm).sameButNew ({ U with vm := s.vm } : State) [] (0 + 1) (0 + 6) := ⟨e1, e2⟩
    have h3 := X.same.trans h2
    rw [List.append_nil] at h3
    exact h3.mono hc hs
  refine ⟨U, ?_, .threw T.heap.size, hrun, hend, Or.inr ⟨T.heap.size, rfl, cls, ce, locs, hx U hWs.alike f1 (fun q hq => f2 q hq (fun z hz => nomatch hz)), hce, hO.vm, hcl, hWs, hall, hf⟩⟩
  refine st1 _ ?_
  show Steps p.tables e below (T1.setTop { method := m, pc := pc + 3, locals := ls, stack := .ref T.heap.size :: rest, locked := none }) _
  jvm_step X₁.here [X₁.here.top, hexec, d3', Value.category]
  exact X₁.ldcStringW hexec (own := own) (text := text) (index := is) (a := sa) hown' hstr'.1 hstr'.2
    (g := { method := m, pc := pc + 4, locals := ls, stack := .ref T.heap.size :: .ref T.heap.size :: rest, locked := none }) rfl d4' _ hsteps
end Ends
section Bodies
variable {l : Launch}
theorem vx_ofW {y : MethodName} {ws ws' : List Cond} {rm : Room} {Pc : Array Value → State → Prop} {Qc : Array Value → State → Outcome → State → Prop} {XC : String → State → State → Prop} {mc ms : Nat} {free : Addr → Prop} {cc : ByteArray} {maxL : Nat} {ret : Option FieldType}
    (hy : plainName y.cls = true) (hw : ws = Cond.code y cc maxL ret :: ws')
    (body : ∀ p e s m args below meth c s₁, BodyLoose p l y (headSpec ws rm) cc maxL ret e s m args below meth c s₁ → c.maxLocals = maxL → (∀ x ∈ c.exceptionTable.toList, False) → Pc args s →
      W p l e (headSpec ws rm).room s m args below meth c s.heap [] 0 0 (vx_MQ below Qc XC args s mc ms free) (entryFrame m args maxL)) : vx_Met l y ws rm Pc Qc XC mc ms free := by
  refine MetFree.of_bodyS (code := cc) (maxLocals := maxL) (ret := ret) hy ?_ ?_
  · intro args s m h hn
    obtain ⟨meth, c, h1, h2, h3, h4, h5, h6, -, -⟩ := Cond.code_spec hn (atoms_spec (ws := ws) h _ (by rw [hw]; exact List.mem_cons_self))
    exact ⟨meth, c, h1, h2, h3, h4, h5, h6⟩
  · intro p e s m args below meth c s₁ B hml hP _
    have hh0 : s₁.heap = s.heap := by rw [B.state]; rfl
    have ht : ∀ x ∈ c.exceptionTable.toList, False := by
      obtain ⟨meth9, c9, h1, h2, -, -, -, -, h7, -⟩ := Cond.code_spec B.named (atoms_spec (ws := ws) B.pre _ (by rw [hw]; exact List.mem_cons_self))
      cases Option.some.inj (h1.symm.trans B.method)
      cases Option.some.inj (h2.symm.trans (Stand.of_body B).code)
      intro x hx
      rw [Array.isEmpty_iff.mp h7] at hx
      cases hx
    obtain ⟨t, a1, o, b1, b2, b3⟩ := body p e s m args below meth c s₁ B hml ht hP s₁ hh0 (Stand.of_body B)
    exact ⟨t, o, a1, b1, b2, b3⟩
/-- the table of a body with handlers -/
theorem vx_table {p : Program} {x y : MethodName} {S : Spec} {cc bytes : ByteArray} {maxL maxL' : Nat} {ret ret' : Option FieldType} {e : Env} {s s₁ : State} {m : MethodId} {args : Array Value} {below : List Frame} {meth : Method} {c : Code} {hh : List (Nat × Nat × Nat × Nat)}
    (B : BodyLoose p l y S cc maxL ret e s m args below meth c s₁) (h : (Cond.codeWith y bytes maxL' ret' hh).before args s = true) : c.exceptionTable.toList = tableOf hh := by
  obtain ⟨m9, meth9, c9, hn9, h1, h2, -, -, h6, -⟩ := Cond.codeWith_spec h
  cases Option.some.inj (hn9.symm.trans B.named)
  cases Option.some.inj (h1.symm.trans B.method)
  cases Option.some.inj (h2.symm.trans (Stand.of_body B).code)
  rw [← h6, table_eq]
end Bodies
end VXA
/-! ===== END ===== -/
/-! ===== BEGIN a static call of a method with an exception table ===== -/
section VXS
variable {p : Program} {l : Launch} {e : Env} {R : Room} {s : State} {m : MethodId} {args : Array Value} {below : List Frame} {meth : Method} {c : Code} {T : State} {H : Heap} {locs : List Loc} {cells slots : Nat}
abbrev vx_CSW (R : Room) (s : State) (args : Array Value) (own : String) (index : Nat) (y : MethodName) (bytes : ByteArray) (maxL : Nat) (ret : Option FieldType) (hh : List (Nat × Nat × Nat × Nat)) (ws : List Cond) (rm : Room) (mc ms n : Nat) : Prop :=
  (rm.cells = mc ∧ rm.slots = ms ∧ rm.frames + 1 ≤ R.frames ∧ 8 + (maxL + 11) + rm.locals ≤ R.locals ∧ (∀ w ∈ ws, ∀ (a' : Array Value) (U : State), s.WarmedH U.vm → w.before a' U = true) ∧ Cond.codeWith y bytes maxL ret hh ∈ ws) ∧
  (Cond.codeWith y bytes maxL ret hh).before args s = true ∧ (Cond.initialized y.cls).before args s = true ∧ (y.cls ≠ "java/lang/invoke/MethodHandle" ∧ y.cls ≠ "java/lang/invoke/VarHandle") ∧
  (∀ sig, parseMethodDescriptor y.desc = some sig → n = sig.parameters.length) ∧ (Cond.methodLink own index y).before args s = true ∧ (Cond.static y).before args s = true
theorem vx_cwSW {own : String} {index maxL mc ms : Nat} {y : MethodName} {bytes : ByteArray} {ret : Option FieldType} {hh : List (Nat × Nat × Nat × Nat)} {Ts ws ws' : List Cond} {rm : Room} (n : Nat) (ht : ∀ w ∈ Ts, w.before args s = true) (hT : GoodIn Ts (va_wsS own index y ws)) (hw : ws = Cond.codeWith y bytes maxL ret hh :: ws') (hrc : rm.cells = mc) (hrs : rm.slots = ms)
    (hd : y.cls ≠ "java/lang/invoke/MethodHandle" ∧ y.cls ≠ "java/lang/invoke/VarHandle" ∧ (parseMethodDescriptor y.desc).map (fun d => d.parameters.length) = some n) (hR : rm.frames + 1 ≤ R.frames ∧ 8 + (maxL + 11) + rm.locals ≤ R.locals) :
    vx_CSW R s args own index y bytes maxL ret hh ws rm mc ms n := by
  have ok : ∀ w ∈ va_wsS own index y ws, w.before args s = true := fun w h => ht w (hT w h).1
  have hG : GoodIn Ts ws := fun w h => hT w (by unfold va_wsS; exact List.mem_append_right _ h)
  have hc : Cond.codeWith y bytes maxL ret hh ∈ ws := by rw [hw]; exact List.mem_cons_self
  refine ⟨⟨hrc, hrs, hR.1, hR.2, pay_in ht hG, hc⟩, ht _ (hG _ hc).1, ok _ (by simp [va_wsS]), ⟨hd.1, hd.2.1⟩, fun sig h => ?_, ok _ (by simp [va_wsS]), ok _ (by simp [va_wsS])⟩
  have h2 := hd.2.2
  rw [h] at h2
  exact (Option.some.inj h2).symm
theorem vx_callSW (X : Stand p l e R s m args below meth c T locs cells slots) (hexec : p.tables.exec = Jvm.exec) {own : String} {index : Nat} {y : MethodName} {bytes : ByteArray} {maxL : Nat} {ret : Option FieldType} {hh : List (Nat × Nat × Nat × Nat)}
    (hown : s.vm.findClass own = some m.cls) (hlink : (Cond.methodLink own index y).before args s = true) (hstat : (Cond.static y).before args s = true) (hinit : (Cond.initialized y.cls).before args s = true)
    (hcode : (Cond.codeWith y bytes maxL ret hh).before args s = true) (hy : y.cls ≠ "java/lang/invoke/MethodHandle" ∧ y.cls ≠ "java/lang/invoke/VarHandle")
    {W9 : Nat} {Pre : Pt → Array Value → Prop} {Post : Pt → Array Value → Option Value → Pt → Prop} (hK : Back l R p e below s args y 3 W9 Pre Post)
    {g : JFrame} (hg : g.method = m) (hsize : g.locals.size = c.maxLocals) {argsL rest : List Value} (hlen : ∀ sig, parseMethodDescriptor y.desc = some sig → argsL.length = sig.parameters.length)
    (hstack : g.stack = argsL.reverse ++ rest) (hW : 2 * g.monitorRoom + (rest.map fun v => v.category).sum ≤ W9) (hdg : decode c.code g.pc = .ok (.invokestatic index, 3))
    (hpre : ∀ vm₁, s.WarmedH vm₁ → Pre ⟨T.setVm vm₁, locs, cells, slots⟩ argsL.toArray) :
    ∃ (v : Option Value) (vm₁ : Vm) (B : Pt), s.WarmedH vm₁ ∧ Stand p l e R s m args below meth c B.U B.locs B.cells B.slots ∧ Post ⟨T.setVm vm₁, locs, cells, slots⟩ argsL.toArray v B ∧
      ∀ target, Steps p.tables e below (B.U.setTop { g with pc := g.pc + 3, stack := v.toList ++ rest }) target → Steps p.tables e below (T.setTop g) target := by
  obtain ⟨mk, methM, cM, hnamed, hmethM, -, -, -, -, -, -, hsigM⟩ := Cond.codeWith_spec hcode
  have hstatic : methM.isStatic = true := Cond.static_spec hnamed hmethM hstat
  obtain ⟨kP, hkP, -⟩ := className_of_methodNamed hnamed
  have hinitP : kP.init = .initialized := Cond.initialized_spec (findClass_of_methodNamed hnamed) hkP hinit
  obtain ⟨vm₁, X₁, hstep₁⟩ := X.invokestatic hexec hown hlink hnamed hmethM hstatic hkP hinitP hy (g := g) hg (argsL := argsL) (rest := rest) (hlen _ hsigM) hstack hdg
  obtain ⟨v, B, X', hpost, hsteps⟩ := hK m meth c ⟨T.setVm vm₁, locs, cells, slots⟩ { g with stack := rest } (.invokestatic index) mk argsL.toArray X₁ hg hsize hdg hW (X₁.named hnamed) (hpre vm₁ X₁.warmed)
  exact ⟨v, vm₁, B, X₁.warmed, X', hpost, fun target h => hstep₁ _ fun acts => by rw [doInvoke_state]; exact hsteps.trans h⟩
theorem vx_runSW {y : MethodName} {bytes cc : ByteArray} {maxL nL mc ms n index : Nat} {ret : Option FieldType} {hh : List (Nat × Nat × Nat × Nat)} {ws : List Cond} {rm : Room} {Pc : Array Value → State → Prop} {Qc : Array Value → State → Outcome → State → Prop} {free : Addr → Prop} {Ts : List Cond} {own : String} {As rest : List Value} {g : JFrame}
    (S : CallFix p m c cc nL s args Ts own) (hM : Met l y ws rm Pc Qc mc ms free) (cw : vx_CSW R s args own index y bytes maxL ret hh ws rm mc ms n) (hp : PreS s H Pc As)
    (hg : g.method = m) (hn : As.length = n) (hsize : g.locals.size = nL) (hstack : g.stack = As.reverse ++ rest) (hW : 2 * g.monitorRoom + (rest.map fun v => v.category).sum ≤ 8) (hdg : decode cc g.pc = .ok (.invokestatic index, 3)) (hf : cells + mc ≤ R.cells ∧ slots + ms ≤ R.slots) :
    va_Run p l e R s m args below meth c H locs cells slots mc ms g rest (Qc As.toArray) (free) := by
  obtain ⟨⟨hrc, hrs, hfr, hlo, hws, hcw⟩, hcode, hini, hy, hlen, hl, hstt⟩ := cw
  have hK : Back l R p e below s args y 3 8 (PreOf R mc ms Pc) (PostOf Qc mc ms free) := va_backW (hh := hh) (bytes := bytes) (maxL := maxL) (ret := ret) hM hp.1 hrc hrs hfr hlo hws hcw (fun a' U hW => word_at hW (Or.inl (by first | rfl | simp [Cond.onTables, Cond.keeps, Cond.steady])) hini)
  obtain ⟨hx, hb, hml, ho, -⟩ := S
  intro T hT X
  obtain ⟨v, vm₁, ⟨U', l2, c2, s2⟩, hW₁, X', ⟨g', mk, t, L, e1, e2, hq, h1, hL, h2, h3⟩, st⟩ := vx_callSW X hx (hh := hh) (bytes := bytes) (maxL := maxL) (ret := ret) ho hl hstt hini hcode hy hK hg (hsize.trans hml.symm) (argsL := As) (rest := rest) (fun sig h => hn.trans (hlen sig h)) hstack hW (by rw [hb]; exact hdg)
    (fun vm₁ hW₁ => ⟨hf.1, hf.2, hp.2 (T.setVm vm₁) hT hW₁⟩)
  dsimp only [Pt.U, Pt.locs, Pt.cells, Pt.slots] at X' e1 e2 h1 h2 h3 st
  subst h1; subst h2; subst h3
  exact ⟨v, (T.setVm vm₁).calling g' mk As.toArray, t, U', L, hT, X', hL, e1, e2, hq, st⟩
/-- not caught here, past rows that name other classes: it goes on to the caller -/
theorem vx_outP {p : Program} {l : Launch} {e : Env} {R : Room} {s : State} {m : MethodId} {args : Array Value} {below : List Frame} {meth : Method} {c : Code} {H : Heap} {locs : List Loc} {cells slots : Nat} {free : Addr → Prop} {ls : Array Slot} {rest : List Value} {Qc : Array Value → State → Outcome → State → Prop} {XC : String → State → State → Prop}
    {pc : Nat} {own E : String} {ce : Cell} {q : Addr} {mc ms : Nat} (hown : s.vm.findClass own = some m.cls) (hlocks : meth.locks = false)
    (hpass : ∀ z ∈ c.exceptionTable.toList, covers z pc = false ∨ (z.catchType ≠ 0 ∧ ∃ nm : String, (Cond.classLink own z.catchType nm).before args s = true ∧ va_Nc E nm s)) (hcell : H[q]? = some ce) (hv : ce.vm = .none) (hcl : s.vm.findClass E = some ce.cls)
    (hx : ∀ t : State, t.heap = H → s.vm.Alike t.vm → XC E s t) (hf : ∀ z ∈ locs, free z.base) (hc : cells ≤ mc) (hs : slots ≤ ms) :
    vx_W p l e R s m args below meth c H locs cells slots (vx_MQ below Qc XC args s mc ms free) (F0 m pc ls rest) q := by
  intro T hT X
  have hpl : e.platform.magicAccessors = ({} : Platform).magicAccessors := by rw [X.admits.platform]
  obtain ⟨vm', hW', X', st⟩ := X.outThrough hlocks q (g := F0 m pc ls rest) rfl rfl rfl (cell := ce) (by rw [hT]; exact hcell) (by rw [hv]; rfl)
    (by obtain ⟨k9, h9, -⟩ := Vm.findClass_spec hcl; exact ⟨k9, h9⟩) (fun z hz => by
      rcases hpass z hz with h | ⟨hz0, nm, hl1, hn1⟩
      · exact Or.inl h
      · obtain ⟨c6, hc6, hcl6⟩ := Cond.classLink_spec hown hl1 e.platform hpl
        obtain ⟨a8, b8, h1, h2, h3⟩ := hn1
        cases Option.some.inj (h1.symm.trans hcl)
        cases Option.some.inj (h2.symm.trans hc6)
        exact Or.inr ⟨hz0, _, hcl6, h3⟩)
  obtain ⟨g₀, hfr⟩ := X'.frames_eq
  have hcell9 : ((T.setVm vm').setFrames (.throwing q :: below)).heap[q]? = some ce := by
    show T.heap[q]? = some ce
    rw [hT]; exact hcell
  have hend : Ended ((T.setVm vm').setFrames (.throwing q :: below)) below (.threw q) := State.frames_setFrames _ (State.cur_lt_of_frames hfr)
  refine ⟨(T.setVm vm').setFrames (.throwing q :: below), ?_, .threw q, X'.here.running, hend, Or.inr ⟨q, rfl, E, ce, locs, hx _ hT (X'.ends _).1.alike, hcell9, hv, hcl, (X'.ends _).1, (X'.ends _).2.mono hc hs, hf⟩⟩
  rw [X.pushThrowing_eq]
  exact st
/-- a thing of a world lies in the heap -/
theorem vx_lt {D : va_G} {cl : List vw_C} {ws : va_W} {H1 : Heap} (h : va_P D cl ws H1) {k : Nat} {q : Nat × va_E} (hk : ws[k]? = some q) : q.1 < H1.size := (h k q hk).lt
end VXS
/-! ===== END ===== -/
/-! ===== BEGIN methods with a table of their own: called by a name, returning or throwing ===== -/
section VXH
/-! vx_backW, vx_callVX, vx_callSX, vx_callVW, vx_runVW, vx_runVX, vx_runSX, vx_ofWH follow the same proofs as their sisters above (Free/Laws.lean, Shelf42/LK1.lean); vx_outP calls Shelf42/NT130.lean (outThrough). -/
section
variable {l : Launch} {R : Room} {p : Program} {e : Env} {below : List Frame} {s : State} {sargs : Array Value} {y : MethodName} {len W9 : Nat}
theorem vx_backW {ws : List Cond} {rm : Room} {Pc : Array Value → State → Prop} {Qc : Array Value → State → Outcome → State → Prop} {XC : String → State → State → Prop} {mc ms : Nat} {free : Addr → Prop} {bytes : ByteArray} {maxL : Nat} {ret : Option FieldType} {hh : List (Nat × Nat × Nat × Nat)}
    (hM : vx_Met l y ws rm Pc Qc XC mc ms free) (hblind : FrameBlind Pc) (hrc : rm.cells = mc) (hrs : rm.slots = ms)
    (hframes : rm.frames + 1 ≤ R.frames) (hlocals : W9 + (maxL + 11) + rm.locals ≤ R.locals)
    (hws : ∀ w ∈ ws, ∀ a' U, s.WarmedH U.vm → w.before a' U = true) (hcode : Cond.codeWith y bytes maxL ret hh ∈ ws) (hinit : ∀ a' U, s.WarmedH U.vm → (Cond.initialized y.cls).before a' U = true) :
    vx_Back l R p e below s sargs y len W9 (PreOf R mc ms Pc) (PostOf Qc mc ms free) (vx_Post XC mc ms free) := by
  intro m meth c A g ig mk a X hg hsize hdg hW hn hp
  have h1 : (headSpec ws rm).pre.before a A.U = true := atoms_intro fun w hw => hws w hw _ _ X.warmed
  have h2 : (Cond.codeWith y bytes maxL ret hh).before a A.U = true := hws _ hcode _ _ X.warmed
  have h3 : (Cond.initialized y.cls).before a A.U = true := hinit _ _ X.warmed
  have h4 : A.cells + (headSpec ws rm).room.cells ≤ R.cells := by rw [show (headSpec ws rm).room.cells = mc from hrc]; exact hp.1
  have h5 : A.slots + (headSpec ws rm).room.slots ≤ R.slots := by rw [show (headSpec ws rm).room.slots = ms from hrs]; exact hp.2.1
  have hPc : Pc a (A.U.calling g mk a) := hblind _ _ _ _ hp.2.2
  obtain ⟨U, Ls, c0, s0⟩ := A
  dsimp only [Pt.U, Pt.locs, Pt.cells, Pt.slots] at h1 h2 h3 h4 h5 X hn hPc ⊢
  obtain ⟨m9, methY, cY, hn9, hmY, hcY, -, hlY, -⟩ := Cond.codeWith_spec h2
  cases Option.some.inj (hn9.symm.trans hn)
  obtain ⟨kY, hkY, -⟩ := className_of_methodNamed hn
  have hinitY : kY.init = .initialized := Cond.initialized_spec (findClass_of_methodNamed hn) hkY h3
  have h : At U g.method c below := by rw [hg]; exact X.here
  have hlocals9 : W9 + (maxL + 11) + (headSpec ws rm).room.locals ≤ R.locals := hlocals
  have happ : (headSpec ws rm).appliesLoose y e.platform (U.calling g mk a) = true :=
    Spec.appliesLoose_calling (g := g) h hdg hn hkY hinitY
      (X.room_calling (g := g) (R' := (headSpec ws rm).room) hsize hmY hcY hframes (by rw [hlY]; omega) h4 h5) h1
  obtain ⟨mid, hmid⟩ := h.above
  have hfr : (U.setTop g).frames = (.java g :: mid) ++ below := by rw [State.frames_setTop' g h.top, hmid]; rfl
  obtain ⟨o, s₂, hsteps, -, hend, hq⟩ := Steps.callFree hM p X.admits X.cas X.clock (acts := []) hfr happ hPc trivial
  have hq' : vx_Q Qc XC mc ms free a (U.calling g mk a) o s₂ := hq
  rw [State.frames_setTop' g h.top] at hend
  obtain ⟨g₀, hg0⟩ := Option.isSome_iff_exists.mp h.top
  obtain ⟨r, hr⟩ := State.topJava?_eq_some.mp hg0
  have hr' : (({ U with heap := s₂.heap, slotsUsed := s₂.slotsUsed } : State).setVm s₂.vm).frames = .java g₀ :: r := hr
  rcases hq' with ⟨hqc, L, hfe, hL⟩ | ⟨q, rfl, E, ce, L, hx, hce, hcv, hcl, hW₂, hsm, hL⟩
  · obtain ⟨⟨v, rfl⟩, hW₂, e2, q2, q3, q4, q5, q6⟩ := id hfe
    have e3 : s₂ = ({ (U.calling g mk a).setFrames s₂.frames with heap := s₂.heap, slotsUsed := s₂.slotsUsed } : State).setVm s₂.vm := by
      have : s₂ = ({ s₂ with vm := (U.calling g mk a).vm } : State).setVm s₂.vm := rfl
      rw [e2] at this
      exact this
    obtain ⟨c₂, i₂, len₂, hc₂, hd₂, hf₂⟩ := hend
    have hW' : U.WarmedH s₂.vm := hW₂
    have hcc : c₂ = c := by
      have h1 : s₂.code? g.method = U.code? g.method := by
        rw [State.code?_eq, State.code?_eq, hW'.alike.method?]
      exact Option.some.inj (hc₂.symm.trans (h1.trans h.code))
    subst hcc
    have hlen : len₂ = len := by rw [hdg] at hd₂; cases hd₂; rfl
    subst hlen
    have hs₂ : s₂ = (({ U with heap := s₂.heap, slotsUsed := s₂.slotsUsed } : State).setVm s₂.vm).setTop { g with pc := g.pc + len₂, stack := v.toList ++ g.stack } := by
      refine e3.trans ?_
      rw [hf₂, State.calling_eq h.top, State.setFrames_setFrames, State.setTop_of_frames _ hr', hr]
      rfl
    have hsame : U.sameButNew ({ U with heap := s₂.heap, slotsUsed := s₂.slotsUsed } : State) L mc ms := by
      refine ⟨?_, q2, q3, q4, q5, q6⟩
      obtain ⟨t, ht, -⟩ := State.frames_cons hr
      show ({ U with heap := s₂.heap, slotsUsed := s₂.slotsUsed } : State) = { U.setFrames U.frames with heap := s₂.heap, slotsUsed := s₂.slotsUsed }
      rw [State.setFrames_self ht]
    subst hg
    refine Or.inl ⟨v, ⟨(({ U with heap := s₂.heap, slotsUsed := s₂.slotsUsed } : State).setVm s₂.vm), Ls ++ L, c0 + mc, s0 + ms⟩,
      ⟨X.admits, X.cas, X.clock, X.frames, X.room, X.hears, X.method, X.code, (X.here.setHeapUsed s₂.heap s₂.slotsUsed).setVm hW'.alike, X.tail, State.WarmedH.trans X.warmed hW', X.limits, X.bytes, X.same.trans (hsame.setVm s.vm)⟩,
      ⟨g, mk, s₂, L, rfl, rfl, hqc, rfl, hL, rfl, rfl⟩, ?_⟩
    show Steps p.tables e below _ ((({ U with heap := s₂.heap, slotsUsed := s₂.slotsUsed } : State).setVm s₂.vm).setTop { g with pc := g.pc + len₂, stack := v.toList ++ g.stack })
    rw [← hs₂]
    exact hsteps
  · obtain ⟨e2, q2, q3, q4, q5, q6⟩ := id hsm
    have e3 : s₂ = ({ (U.calling g mk a).setFrames s₂.frames with heap := s₂.heap, slotsUsed := s₂.slotsUsed } : State).setVm s₂.vm := by
      have : s₂ = ({ s₂ with vm := (U.calling g mk a).vm } : State).setVm s₂.vm := rfl
      rw [e2] at this
      exact this
    have hf₂ : s₂.frames = .throwing q :: .java g :: U.frames.tail := hend
    have hW' : U.WarmedH s₂.vm := hW₂
    have hs₂ : s₂ = ((({ U with heap := s₂.heap, slotsUsed := s₂.slotsUsed } : State).setVm s₂.vm).setTop g).pushFrame (.throwing q) := by
      refine e3.trans ?_
      rw [hf₂, State.calling_eq h.top, State.setFrames_setFrames, State.pushFrame, State.frames_setTop _ hr', State.setTop_of_frames _ hr', State.setFrames_setFrames, hr]
      rfl
    have hsame : U.sameButNew ({ U with heap := s₂.heap, slotsUsed := s₂.slotsUsed } : State) L mc ms := by
      refine ⟨?_, q2, q3, q4, q5, q6⟩
      obtain ⟨t, ht, -⟩ := State.frames_cons hr
      show ({ U with heap := s₂.heap, slotsUsed := s₂.slotsUsed } : State) = { U.setFrames U.frames with heap := s₂.heap, slotsUsed := s₂.slotsUsed }
      rw [State.setFrames_self ht]
    subst hg
    refine Or.inr ⟨q, ⟨(({ U with heap := s₂.heap, slotsUsed := s₂.slotsUsed } : State).setVm s₂.vm), Ls ++ L, c0 + mc, s0 + ms⟩,
      ⟨X.admits, X.cas, X.clock, X.frames, X.room, X.hears, X.method, X.code, (X.here.setHeapUsed s₂.heap s₂.slotsUsed).setVm hW'.alike, X.tail, State.WarmedH.trans X.warmed hW', X.limits, X.bytes, X.same.trans (hsame.setVm s.vm)⟩,
      ⟨g, mk, s₂, L, E, ce, rfl, rfl, hx, hce, hcv, hcl, rfl, hL, rfl, rfl⟩, ?_⟩
    show Steps p.tables e below _ (((({ U with heap := s₂.heap, slotsUsed := s₂.slotsUsed } : State).setVm s₂.vm).setTop g).pushFrame (.throwing q))
    rw [← hs₂]
    exact hsteps
end
variable {p : Program} {l : Launch} {e : Env} {R : Room} {s : State} {m : MethodId} {args : Array Value} {below : List Frame} {meth : Method} {c : Code} {T : State} {H : Heap} {locs : List Loc} {cells slots : Nat}
theorem vx_callVX (X : Stand p l e R s m args below meth c T locs cells slots) (hexec : p.tables.exec = Jvm.exec) {own C : String} {index : Nat} {y : MethodName} {bytes : ByteArray} {maxL : Nat} {ret : Option FieldType} {hh : List (Nat × Nat × Nat × Nat)}
    (hown : s.vm.findClass own = some m.cls) (hlink : (Cond.methodLink own index y).before args s = true) (hinst : (Cond.instanceMethod y).before args s = true) (hsel : (Cond.selects C y y).before args s = true)
    (hcode : (Cond.codeWith y bytes maxL ret hh).before args s = true) (hy : y.cls ≠ "java/lang/invoke/MethodHandle" ∧ y.cls ≠ "java/lang/invoke/VarHandle")
    {W9 : Nat} {Pre : Pt → Array Value → Prop} {Post : Pt → Array Value → Option Value → Pt → Prop} {PostX : Pt → Array Value → Addr → Pt → Prop} (hK : vx_Back l R p e below s args y 3 W9 Pre Post PostX)
    {b : Addr} {cellB : Cell} (hcell : T.heap[b]? = some cellB) (hobj : cellB.vm.isStatics = false) (hcls : s.vm.findClass C = some cellB.cls)
    {g : JFrame} (hg : g.method = m) (hsize : g.locals.size = c.maxLocals) {argsL rest : List Value} (hlen : ∀ sig, parseMethodDescriptor y.desc = some sig → argsL.length = sig.parameters.length)
    (hstack : g.stack = argsL.reverse ++ .ref b :: rest) (hW : 2 * g.monitorRoom + (rest.map fun v => v.category).sum ≤ W9) (hdg : decode c.code g.pc = .ok (.invokevirtual index, 3))
    (hpre : ∀ vm₁, s.WarmedH vm₁ → Pre ⟨T.setVm vm₁, locs, cells, slots⟩ (Value.ref b :: argsL).toArray) :
    (∃ (v : Option Value) (vm₁ : Vm) (B : Pt), s.WarmedH vm₁ ∧ Stand p l e R s m args below meth c B.U B.locs B.cells B.slots ∧ Post ⟨T.setVm vm₁, locs, cells, slots⟩ (Value.ref b :: argsL).toArray v B ∧
      ∀ target, Steps p.tables e below (B.U.setTop { g with pc := g.pc + 3, stack := v.toList ++ rest }) target → Steps p.tables e below (T.setTop g) target) ∨
    (∃ (q : Addr) (vm₁ : Vm) (B : Pt), s.WarmedH vm₁ ∧ Stand p l e R s m args below meth c B.U B.locs B.cells B.slots ∧ PostX ⟨T.setVm vm₁, locs, cells, slots⟩ (Value.ref b :: argsL).toArray q B ∧
      Steps p.tables e below (T.setTop g) ((B.U.setTop { g with stack := rest }).pushFrame (.throwing q))) := by
  obtain ⟨mk, methM, hnamed, hmethM, hstM, habM⟩ := Cond.instanceMethod_spec hinst
  obtain ⟨m8, methM', cM, hn8, hmethM', -, -, -, -, -, -, hsigM⟩ := Cond.codeWith_spec hcode
  cases Option.some.inj (hn8.symm.trans hnamed)
  cases hmethM.symm.trans hmethM'
  obtain ⟨c2, r2, m2, q1, q2, q3, q4, kP, hkP, hkPi⟩ := Cond.selects_spec hsel
  cases hcls.symm.trans q1
  cases (State.methodFound?_of_named hnamed hy).symm.trans q2
  cases hnamed.symm.trans q3
  have hselP : selectMethod e.platform s.vm cellB.cls mk = .method mk := by rw [Launch.admits_selectMethod X.admits]; exact q4
  obtain ⟨vm₁, X₁, hstep₁⟩ := X.invokevirtual hexec hown hlink hnamed hmethM hstM hkP hkPi hy (a := b) (cell := cellB) hcell
    (fun z h => by rw [h] at hobj; cases hobj) hselP hmethM habM hkP hkPi (g := g) hg (argsL := argsL) (rest := rest) (hlen _ hsigM) hstack hdg
  rcases hK m meth c ⟨T.setVm vm₁, locs, cells, slots⟩ { g with stack := rest } (.invokevirtual index) mk (Value.ref b :: argsL).toArray X₁ hg hsize hdg hW (X₁.named hnamed) (hpre vm₁ X₁.warmed) with ⟨v, B, X', hpost, hsteps⟩ | ⟨q, B, X', hpost, hsteps⟩
  · exact Or.inl ⟨v, vm₁, B, X₁.warmed, X', hpost, fun target h => hstep₁ _ fun acts => by rw [doInvoke_state]; exact hsteps.trans h⟩
  · exact Or.inr ⟨q, vm₁, B, X₁.warmed, X', hpost, hstep₁ _ fun acts => by rw [doInvoke_state]; exact hsteps⟩
theorem vx_callSX (X : Stand p l e R s m args below meth c T locs cells slots) (hexec : p.tables.exec = Jvm.exec) {own : String} {index : Nat} {y : MethodName} {bytes : ByteArray} {maxL : Nat} {ret : Option FieldType} {hh : List (Nat × Nat × Nat × Nat)}
    (hown : s.vm.findClass own = some m.cls) (hlink : (Cond.methodLink own index y).before args s = true) (hstat : (Cond.static y).before args s = true) (hinit : (Cond.initialized y.cls).before args s = true)
    (hcode : (Cond.codeWith y bytes maxL ret hh).before args s = true) (hy : y.cls ≠ "java/lang/invoke/MethodHandle" ∧ y.cls ≠ "java/lang/invoke/VarHandle")
    {W9 : Nat} {Pre : Pt → Array Value → Prop} {Post : Pt → Array Value → Option Value → Pt → Prop} {PostX : Pt → Array Value → Addr → Pt → Prop} (hK : vx_Back l R p e below s args y 3 W9 Pre Post PostX)
    {g : JFrame} (hg : g.method = m) (hsize : g.locals.size = c.maxLocals) {argsL rest : List Value} (hlen : ∀ sig, parseMethodDescriptor y.desc = some sig → argsL.length = sig.parameters.length)
    (hstack : g.stack = argsL.reverse ++ rest) (hW : 2 * g.monitorRoom + (rest.map fun v => v.category).sum ≤ W9) (hdg : decode c.code g.pc = .ok (.invokestatic index, 3))
    (hpre : ∀ vm₁, s.WarmedH vm₁ → Pre ⟨T.setVm vm₁, locs, cells, slots⟩ argsL.toArray) :
    (∃ (v : Option Value) (vm₁ : Vm) (B : Pt), s.WarmedH vm₁ ∧ Stand p l e R s m args below meth c B.U B.locs B.cells B.slots ∧ Post ⟨T.setVm vm₁, locs, cells, slots⟩ argsL.toArray v B ∧
      ∀ target, Steps p.tables e below (B.U.setTop { g with pc := g.pc + 3, stack := v.toList ++ rest }) target → Steps p.tables e below (T.setTop g) target) ∨
    (∃ (q : Addr) (vm₁ : Vm) (B : Pt), s.WarmedH vm₁ ∧ Stand p l e R s m args below meth c B.U B.locs B.cells B.slots ∧ PostX ⟨T.setVm vm₁, locs, cells, slots⟩ argsL.toArray q B ∧
      Steps p.tables e below (T.setTop g) ((B.U.setTop { g with stack := rest }).pushFrame (.throwing q))) := by
  obtain ⟨mk, methM, cM, hnamed, hmethM, -, -, -, -, -, -, hsigM⟩ := Cond.codeWith_spec hcode
  have hstatic : methM.isStatic = true := Cond.static_spec hnamed hmethM hstat
  obtain ⟨kP, hkP, -⟩ := className_of_methodNamed hnamed
  have hinitP : kP.init = .initialized := Cond.initialized_spec (findClass_of_methodNamed hnamed) hkP hinit
  obtain ⟨vm₁, X₁, hstep₁⟩ := X.invokestatic hexec hown hlink hnamed hmethM hstatic hkP hinitP hy (g := g) hg (argsL := argsL) (rest := rest) (hlen _ hsigM) hstack hdg
  rcases hK m meth c ⟨T.setVm vm₁, locs, cells, slots⟩ { g with stack := rest } (.invokestatic index) mk argsL.toArray X₁ hg hsize hdg hW (X₁.named hnamed) (hpre vm₁ X₁.warmed) with ⟨v, B, X', hpost, hsteps⟩ | ⟨q, B, X', hpost, hsteps⟩
  · exact Or.inl ⟨v, vm₁, B, X₁.warmed, X', hpost, fun target h => hstep₁ _ fun acts => by rw [doInvoke_state]; exact hsteps.trans h⟩
  · exact Or.inr ⟨q, vm₁, B, X₁.warmed, X', hpost, hstep₁ _ fun acts => by rw [doInvoke_state]; exact hsteps⟩
theorem vx_callVW (X : Stand p l e R s m args below meth c T locs cells slots) (hexec : p.tables.exec = Jvm.exec) {own C : String} {index : Nat} {y : MethodName} {bytes : ByteArray} {maxL : Nat} {ret : Option FieldType} {hh : List (Nat × Nat × Nat × Nat)}
    (hown : s.vm.findClass own = some m.cls) (hlink : (Cond.methodLink own index y).before args s = true) (hinst : (Cond.instanceMethod y).before args s = true) (hsel : (Cond.selects C y y).before args s = true)
    (hcode : (Cond.codeWith y bytes maxL ret hh).before args s = true) (hy : y.cls ≠ "java/lang/invoke/MethodHandle" ∧ y.cls ≠ "java/lang/invoke/VarHandle")
    {W9 : Nat} {Pre : Pt → Array Value → Prop} {Post : Pt → Array Value → Option Value → Pt → Prop} (hK : Back l R p e below s args y 3 W9 Pre Post)
    {b : Addr} {cellB : Cell} (hcell : T.heap[b]? = some cellB) (hobj : cellB.vm.isStatics = false) (hcls : s.vm.findClass C = some cellB.cls)
    {g : JFrame} (hg : g.method = m) (hsize : g.locals.size = c.maxLocals) {argsL rest : List Value} (hlen : ∀ sig, parseMethodDescriptor y.desc = some sig → argsL.length = sig.parameters.length)
    (hstack : g.stack = argsL.reverse ++ .ref b :: rest) (hW : 2 * g.monitorRoom + (rest.map fun v => v.category).sum ≤ W9) (hdg : decode c.code g.pc = .ok (.invokevirtual index, 3))
    (hpre : ∀ vm₁, s.WarmedH vm₁ → Pre ⟨T.setVm vm₁, locs, cells, slots⟩ (Value.ref b :: argsL).toArray) :
    ∃ (v : Option Value) (vm₁ : Vm) (B : Pt), s.WarmedH vm₁ ∧ Stand p l e R s m args below meth c B.U B.locs B.cells B.slots ∧ Post ⟨T.setVm vm₁, locs, cells, slots⟩ (Value.ref b :: argsL).toArray v B ∧
      ∀ target, Steps p.tables e below (B.U.setTop { g with pc := g.pc + 3, stack := v.toList ++ rest }) target → Steps p.tables e below (T.setTop g) target := by
  obtain ⟨mk, methM, hnamed, hmethM, hstM, habM⟩ := Cond.instanceMethod_spec hinst
  obtain ⟨m8, methM', cM, hn8, hmethM', -, -, -, -, -, -, hsigM⟩ := Cond.codeWith_spec hcode
  cases Option.some.inj (hn8.symm.trans hnamed)
  cases hmethM.symm.trans hmethM'
  obtain ⟨c2, r2, m2, q1, q2, q3, q4, kP, hkP, hkPi⟩ := Cond.selects_spec hsel
  cases hcls.symm.trans q1
  cases (State.methodFound?_of_named hnamed hy).symm.trans q2
  cases hnamed.symm.trans q3
  have hselP : selectMethod e.platform s.vm cellB.cls mk = .method mk := by rw [Launch.admits_selectMethod X.admits]; exact q4
  obtain ⟨vm₁, X₁, hstep₁⟩ := X.invokevirtual hexec hown hlink hnamed hmethM hstM hkP hkPi hy (a := b) (cell := cellB) hcell
    (fun z h => by rw [h] at hobj; cases hobj) hselP hmethM habM hkP hkPi (g := g) hg (argsL := argsL) (rest := rest) (hlen _ hsigM) hstack hdg
  obtain ⟨v, B, X', hpost, hsteps⟩ := hK m meth c ⟨T.setVm vm₁, locs, cells, slots⟩ { g with stack := rest } (.invokevirtual index) mk (Value.ref b :: argsL).toArray X₁ hg hsize hdg hW (X₁.named hnamed) (hpre vm₁ X₁.warmed)
  exact ⟨v, vm₁, B, X₁.warmed, X', hpost, fun target h => hstep₁ _ fun acts => by rw [doInvoke_state]; exact hsteps.trans h⟩
abbrev vx_CVW (R : Room) (s : State) (args : Array Value) (own C : String) (index : Nat) (y : MethodName) (bytes : ByteArray) (maxL : Nat) (ret : Option FieldType) (hh : List (Nat × Nat × Nat × Nat)) (ws : List Cond) (rm : Room) (mc ms n : Nat) : Prop :=
  (rm.cells = mc ∧ rm.slots = ms ∧ rm.frames + 1 ≤ R.frames ∧ 8 + (maxL + 11) + rm.locals ≤ R.locals ∧ (∀ w ∈ ws, ∀ (a' : Array Value) (U : State), s.WarmedH U.vm → w.before a' U = true) ∧ Cond.codeWith y bytes maxL ret hh ∈ ws) ∧
  (Cond.codeWith y bytes maxL ret hh).before args s = true ∧ (Cond.initialized y.cls).before args s = true ∧ (y.cls ≠ "java/lang/invoke/MethodHandle" ∧ y.cls ≠ "java/lang/invoke/VarHandle") ∧
  (∀ sig, parseMethodDescriptor y.desc = some sig → n = sig.parameters.length) ∧ (Cond.methodLink own index y).before args s = true ∧ (Cond.instanceMethod y).before args s = true ∧ (Cond.selects C y y).before args s = true
theorem vx_cwVW {own C : String} {index maxL mc ms : Nat} {y : MethodName} {bytes : ByteArray} {ret : Option FieldType} {hh : List (Nat × Nat × Nat × Nat)} {Ts ws ws' : List Cond} {rm : Room} (n : Nat) (ht : ∀ w ∈ Ts, w.before args s = true) (hT : GoodIn Ts (wsV own index C y ws)) (hw : ws = Cond.codeWith y bytes maxL ret hh :: ws') (hrc : rm.cells = mc) (hrs : rm.slots = ms)
    (hd : y.cls = C ∧ y.cls ≠ "java/lang/invoke/MethodHandle" ∧ y.cls ≠ "java/lang/invoke/VarHandle" ∧ (parseMethodDescriptor y.desc).map (fun d => d.parameters.length) = some n) (hR : rm.frames + 1 ≤ R.frames ∧ 8 + (maxL + 11) + rm.locals ≤ R.locals) :
    vx_CVW R s args own C index y bytes maxL ret hh ws rm mc ms n := by
  obtain ⟨hC, hd⟩ := hd
  subst hC
  have ok : ∀ w ∈ wsV own index y.cls y ws, w.before args s = true := fun w h => ht w (hT w h).1
  have hG : GoodIn Ts ws := fun w h => hT w (by unfold wsV; exact List.mem_append_right _ h)
  have hc : Cond.codeWith y bytes maxL ret hh ∈ ws := by rw [hw]; exact List.mem_cons_self
  refine ⟨⟨hrc, hrs, hR.1, hR.2, pay_in ht hG, hc⟩, ht _ (hG _ hc).1, ok _ (by simp [wsV]), ⟨hd.1, hd.2.1⟩, fun sig h => ?_, ok _ (by simp [wsV]), ok _ (by simp [wsV]), ok _ (by simp [wsV])⟩
  have h2 := hd.2.2
  rw [h] at h2
  exact (Option.some.inj h2).symm
theorem vx_runVW {y : MethodName} {bytes cc : ByteArray} {maxL nL mc ms n index : Nat} {ret : Option FieldType} {hh : List (Nat × Nat × Nat × Nat)} {ws : List Cond} {rm : Room} {Pc : Array Value → State → Prop} {Qc : Array Value → State → Outcome → State → Prop} {free : Addr → Prop} {Ts : List Cond} {own C : String} {b : Addr} {As rest : List Value} {g : JFrame}
    (S : CallFix p m c cc nL s args Ts own) (hM : Met l y ws rm Pc Qc mc ms free) (cw : vx_CVW R s args own C index y bytes maxL ret hh ws rm mc ms n) (hp : PreV s H C b Pc As)
    (hg : g.method = m) (hn : As.length = n) (hsize : g.locals.size = nL) (hstack : g.stack = As.reverse ++ .ref b :: rest) (hW : 2 * g.monitorRoom + (rest.map fun v => v.category).sum ≤ 8) (hdg : decode cc g.pc = .ok (.invokevirtual index, 3)) (hf : cells + mc ≤ R.cells ∧ slots + ms ≤ R.slots) :
    va_Run p l e R s m args below meth c H locs cells slots mc ms g rest (Qc (Value.ref b :: As).toArray) free := by
  obtain ⟨⟨hrc, hrs, hfr, hlo, hws, hcw⟩, hcode, hini, hy, hlen, hl, hin, hse⟩ := cw
  have hK : Back l R p e below s args y 3 8 (PreOf R mc ms Pc) (PostOf Qc mc ms free) := va_backW (hh := hh) (bytes := bytes) (maxL := maxL) (ret := ret) hM hp.1 hrc hrs hfr hlo hws hcw (fun a' U hW => word_at hW (Or.inl (by first | rfl | simp [Cond.onTables, Cond.keeps, Cond.steady])) hini)
  obtain ⟨hx, hb, hml, ho, -⟩ := S
  obtain ⟨-, ⟨cellB, hcB, hoB, hclB⟩, hPc⟩ := hp
  intro T hT X
  obtain ⟨v, vm₁, ⟨U', l2, c2, s2⟩, hW₁, X', ⟨g', mk, t, L, e1, e2, hq, h1, hL, h2, h3⟩, st⟩ := vx_callVW X hx (C := C) (hh := hh) (bytes := bytes) (maxL := maxL) (ret := ret) ho hl hin hse hcode hy hK (by rw [hT]; exact hcB) hoB hclB hg (hsize.trans hml.symm) (argsL := As) (rest := rest) (fun sig h => hn.trans (hlen sig h)) hstack hW (by rw [hb]; exact hdg)
    (fun vm₁ hW₁ => ⟨hf.1, hf.2, hPc (T.setVm vm₁) hT hW₁⟩)
  dsimp only [Pt.U, Pt.locs, Pt.cells, Pt.slots] at X' e1 e2 h1 h2 h3 st
  subst h1; subst h2; subst h3
  exact ⟨v, (T.setVm vm₁).calling g' mk (Value.ref b :: As).toArray, t, U', L, hT, X', hL, e1, e2, hq, st⟩
section
variable {y : MethodName} {bytes cc : ByteArray} {maxL nL mc ms n index : Nat} {ret : Option FieldType} {ws : List Cond} {rm : Room} {Pc : Array Value → State → Prop} {Qc : Array Value → State → Outcome → State → Prop} {XC : String → State → State → Prop} {free : Addr → Prop} {Ts : List Cond} {own C : String} {b : Addr} {As rest : List Value} {g : JFrame}
theorem vx_runVX {hh : List (Nat × Nat × Nat × Nat)} (S : CallFix p m c cc nL s args Ts own) (hM : vx_Met l y ws rm Pc Qc XC mc ms free) (cw : vx_CVW R s args own C index y bytes maxL ret hh ws rm mc ms n) (hp : PreV s H C b Pc As)
    (hg : g.method = m) (hn : As.length = n) (hsize : g.locals.size = nL) (hstack : g.stack = As.reverse ++ .ref b :: rest) (hW : 2 * g.monitorRoom + (rest.map fun v => v.category).sum ≤ 8) (hdg : decode cc g.pc = .ok (.invokevirtual index, 3)) (hf : cells + mc ≤ R.cells ∧ slots + ms ≤ R.slots) :
    vx_Run p l e R s m args below meth c H locs cells slots mc ms g rest (Qc (Value.ref b :: As).toArray) XC free := by
  obtain ⟨⟨hrc, hrs, hfr, hlo, hws, hcw⟩, hcode, hini, hy, hlen, hl, hin, hse⟩ := cw
  have hK : vx_Back l R p e below s args y 3 8 (PreOf R mc ms Pc) (PostOf Qc mc ms free) (vx_Post XC mc ms free) := vx_backW (hh := hh) (bytes := bytes) (maxL := maxL) (ret := ret) hM hp.1 hrc hrs hfr hlo hws hcw (fun a' U hW => word_at hW (Or.inl (by first | rfl | simp [Cond.onTables, Cond.keeps, Cond.steady])) hini)
  obtain ⟨hx, hb, hml, ho, -⟩ := S
  obtain ⟨-, ⟨cellB, hcB, hoB, hclB⟩, hPc⟩ := hp
  intro T hT X
  rcases vx_callVX X hx (C := C) (hh := hh) (bytes := bytes) (maxL := maxL) (ret := ret) ho hl hin hse hcode hy hK (by rw [hT]; exact hcB) hoB hclB hg (hsize.trans hml.symm) (argsL := As) (rest := rest) (fun sig h => hn.trans (hlen sig h)) hstack hW (by rw [hb]; exact hdg)
    (fun vm₁ hW₁ => ⟨hf.1, hf.2, hPc (T.setVm vm₁) hT hW₁⟩) with ⟨v, vm₁, ⟨U', l2, c2, s2⟩, hW₁, X', ⟨g', mk, t, L, e1, e2, hq, h1, hL, h2, h3⟩, st⟩ | ⟨q, vm₁, ⟨U', l2, c2, s2⟩, hW₁, X', ⟨g', mk, t, L, E, ce, e1, e2, hq, hce, hcv, hcl, h1, hL, h2, h3⟩, st⟩
  · dsimp only [Pt.U, Pt.locs, Pt.cells, Pt.slots] at X' e1 e2 h1 h2 h3 st
    subst h1; subst h2; subst h3
    exact Or.inl ⟨v, (T.setVm vm₁).calling g' mk (Value.ref b :: As).toArray, t, U', L, hT, X', hL, e1, e2, hq, st⟩
  · dsimp only [Pt.U, Pt.locs, Pt.cells, Pt.slots] at X' e1 e2 h1 h2 h3 st hcl
    subst h1; subst h2; subst h3
    exact Or.inr ⟨q, (T.setVm vm₁).calling g' mk (Value.ref b :: As).toArray, t, U', L, E, ce, hT, X', hL, e1, e2, hq, hce, hcv, vx_cls hW₁ hcl, st⟩
theorem vx_runSX {hh : List (Nat × Nat × Nat × Nat)} (S : CallFix p m c cc nL s args Ts own) (hM : vx_Met l y ws rm Pc Qc XC mc ms free) (cw : vx_CSW R s args own index y bytes maxL ret hh ws rm mc ms n) (hp : PreS s H Pc As)
    (hg : g.method = m) (hn : As.length = n) (hsize : g.locals.size = nL) (hstack : g.stack = As.reverse ++ rest) (hW : 2 * g.monitorRoom + (rest.map fun v => v.category).sum ≤ 8) (hdg : decode cc g.pc = .ok (.invokestatic index, 3)) (hf : cells + mc ≤ R.cells ∧ slots + ms ≤ R.slots) :
    vx_Run p l e R s m args below meth c H locs cells slots mc ms g rest (Qc As.toArray) XC free := by
  obtain ⟨⟨hrc, hrs, hfr, hlo, hws, hcw⟩, hcode, hini, hy, hlen, hl, hstt⟩ := cw
  have hK : vx_Back l R p e below s args y 3 8 (PreOf R mc ms Pc) (PostOf Qc mc ms free) (vx_Post XC mc ms free) := vx_backW (hh := hh) (bytes := bytes) (maxL := maxL) (ret := ret) hM hp.1 hrc hrs hfr hlo hws hcw (fun a' U hW => word_at hW (Or.inl (by first | rfl | simp [Cond.onTables, Cond.keeps, Cond.steady])) hini)
  obtain ⟨hx, hb, hml, ho, -⟩ := S
  intro T hT X
  rcases vx_callSX X hx (hh := hh) (bytes := bytes) (maxL := maxL) (ret := ret) ho hl hstt hini hcode hy hK hg (hsize.trans hml.symm) (argsL := As) (rest := rest) (fun sig h => hn.trans (hlen sig h)) hstack hW (by rw [hb]; exact hdg)
    (fun vm₁ hW₁ => ⟨hf.1, hf.2, hp.2 (T.setVm vm₁) hT hW₁⟩) with ⟨v, vm₁, ⟨U', l2, c2, s2⟩, hW₁, X', ⟨g', mk, t, L, e1, e2, hq, h1, hL, h2, h3⟩, st⟩ | ⟨q, vm₁, ⟨U', l2, c2, s2⟩, hW₁, X', ⟨g', mk, t, L, E, ce, e1, e2, hq, hce, hcv, hcl, h1, hL, h2, h3⟩, st⟩
  · dsimp only [Pt.U, Pt.locs, Pt.cells, Pt.slots] at X' e1 e2 h1 h2 h3 st
    subst h1; subst h2; subst h3
    exact Or.inl ⟨v, (T.setVm vm₁).calling g' mk As.toArray, t, U', L, hT, X', hL, e1, e2, hq, st⟩
  · dsimp only [Pt.U, Pt.locs, Pt.cells, Pt.slots] at X' e1 e2 h1 h2 h3 st hcl
    subst h1; subst h2; subst h3
    exact Or.inr ⟨q, (T.setVm vm₁).calling g' mk As.toArray, t, U', L, E, ce, hT, X', hL, e1, e2, hq, hce, hcv, vx_cls hW₁ hcl, st⟩
end
end VXH
theorem vx_ofWH {l : Launch} {y : MethodName} {ws ws' : List Cond} {rm : Room} {Pc : Array Value → State → Prop} {Qc : Array Value → State → Outcome → State → Prop} {XC : String → State → State → Prop} {mc ms : Nat} {free : Addr → Prop} {cc : ByteArray} {maxL : Nat} {ret : Option FieldType} {hh : List (Nat × Nat × Nat × Nat)}
    (hy : plainName y.cls = true) (hw : ws = Cond.codeWith y cc maxL ret hh :: ws')
    (body : ∀ p e s m args below meth c s₁, BodyLoose p l y (headSpec ws rm) cc maxL ret e s m args below meth c s₁ → c.maxLocals = maxL → Pc args s →
      W p l e (headSpec ws rm).room s m args below meth c s.heap [] 0 0 (vx_MQ below Qc XC args s mc ms free) (entryFrame m args maxL)) : vx_Met l y ws rm Pc Qc XC mc ms free := by
  refine MetFree.of_bodyS (code := cc) (maxLocals := maxL) (ret := ret) hy ?_ ?_
  · intro args s m h hn
    obtain ⟨m9, meth, c, hn9, h1, h2, h3, h4, -, h5, h6, -⟩ := Cond.codeWith_spec (atoms_spec (ws := ws) h _ (by rw [hw]; exact List.mem_cons_self))
    cases hn.symm.trans hn9
    exact ⟨meth, c, h1, h2, h3, h4, h5, h6⟩
  · intro p e s m args below meth c s₁ B hml hP _
    have hh0 : s₁.heap = s.heap := by rw [B.state]; rfl
    obtain ⟨t, a1, o, b1, b2, b3⟩ := body p e s m args below meth c s₁ B hml hP s₁ hh0 (Stand.of_body B)
    exact ⟨t, o, a1, b1, b2, b3⟩
/-! ===== END ===== -/
end
section
def RX0 : String := "ByteFields$Division"
def TX0 : u_T := fun k => match k with
  | _ => ("ByteFields$Division", "field", "LByteFields$Field;", true)
def tyX0 : Nat → FieldType := fun k => match k with
  | _ => .object "ByteFields$Field"
abbrev wsX00 : List Cond := u_ws RX0 TX0 1
theorem nmX0 : ∀ a, a < 1 → ∀ b, b < 1 → a ≠ b → (TX0 a).2.1 ≠ (TX0 b).2.1 := by decide +kernel
theorem tyX0_ok : ∀ k, k < 1 → parseFieldDescriptor (TX0 k).2.2.1 = some (tyX0 k) := by decide +kernel
abbrev cX0_init : ByteArray := prog_2_method_1_code
def yX0_init : MethodName := ⟨RX0, "<init>", "(LByteFields$Field;)V"⟩
abbrev cX0_toRest : ByteArray := prog_2_method_2_code
def yX0_toRest : MethodName := ⟨RX0, "toRest", "(LByteFields$Polynomial;LByteFields$Polynomial;)V"⟩
abbrev cX0_toQuotient : ByteArray := prog_2_method_3_code
def yX0_toQuotient : MethodName := ⟨RX0, "toQuotient", "(LByteFields$Polynomial;LByteFields$Polynomial;)V"⟩
abbrev cX0_divideInPlace : ByteArray := prog_2_method_4_code
def yX0_divideInPlace : MethodName := ⟨RX0, "divideInPlace", "(LByteFields$Polynomial;LByteFields$Polynomial;)V"⟩
abbrev cX0_toGreatestDivisor : ByteArray := prog_2_method_5_code
def yX0_toGreatestDivisor : MethodName := ⟨RX0, "toGreatestDivisor", "(LByteFields$Polynomial;LByteFields$Polynomial;)V"⟩
abbrev cX0_takeOut : ByteArray := prog_2_method_6_code
def yX0_takeOut : MethodName := ⟨RX0, "takeOut", "(LByteFields$Polynomial;I)Z"⟩
abbrev cX0_toSquareRest : ByteArray := prog_2_method_7_code
def yX0_toSquareRest : MethodName := ⟨RX0, "toSquareRest", "(LByteFields$Polynomial;LByteFields$Polynomial;)V"⟩
def RX1 : String := "ByteFields$Elimination"
def TX1 : u_T := fun k => match k with
  | 0 => ("ByteFields$Elimination", "field", "LByteFields$Field;", true)
  | 1 => ("ByteFields$Elimination", "cells", "[[I", true)
  | 2 => ("ByteFields$Elimination", "pivotRows", "[I", true)
  | 3 => ("ByteFields$Elimination", "height", "I", false)
  | 4 => ("ByteFields$Elimination", "width", "I", false)
  | 5 => ("ByteFields$Elimination", "rank", "I", false)
  | _ => ("ByteFields$Elimination", "pivotProduct", "I", false)
def tyX1 : Nat → FieldType := fun k => match k with
  | 0 => .object "ByteFields$Field"
  | 1 => .array (.array .int)
  | 2 => .array .int
  | 3 => .int
  | 4 => .int
  | 5 => .int
  | _ => .int
abbrev wsX10 : List Cond := u_ws RX1 TX1 7
theorem nmX1 : ∀ a, a < 7 → ∀ b, b < 7 → a ≠ b → (TX1 a).2.1 ≠ (TX1 b).2.1 := by decide +kernel
theorem tyX1_ok : ∀ k, k < 7 → parseFieldDescriptor (TX1 k).2.2.1 = some (tyX1 k) := by decide +kernel
abbrev cX1_init : ByteArray := prog_3_method_1_code
def yX1_init : MethodName := ⟨RX1, "<init>", "(LByteFields$Field;)V"⟩
abbrev cX1_load : ByteArray := prog_3_method_2_code
def yX1_load : MethodName := ⟨RX1, "load", "(LByteFields$Matrix;)V"⟩
abbrev cX1_appendIdentity : ByteArray := prog_3_method_3_code
def yX1_appendIdentity : MethodName := ⟨RX1, "appendIdentity", "()V"⟩
abbrev cX1_appendColumn : ByteArray := prog_3_method_4_code
def yX1_appendColumn : MethodName := ⟨RX1, "appendColumn", "([I)V"⟩
abbrev cX1_reduce : ByteArray := prog_3_method_5_code
def yX1_reduce : MethodName := ⟨RX1, "reduce", "(I)I"⟩
abbrev cX1_rowWithMember : ByteArray := prog_3_method_6_code
def yX1_rowWithMember : MethodName := ⟨RX1, "rowWithMember", "(I)I"⟩
abbrev cX1_exchange : ByteArray := prog_3_method_7_code
def yX1_exchange : MethodName := ⟨RX1, "exchange", "(II)V"⟩
abbrev cX1_free : ByteArray := prog_3_method_8_code
def yX1_free : MethodName := ⟨RX1, "free", "(I)V"⟩
abbrev cX1_leavesOver : ByteArray := prog_3_method_9_code
def yX1_leavesOver : MethodName := ⟨RX1, "leavesOver", "(I)Z"⟩
abbrev cX1_solution : ByteArray := prog_3_method_10_code
def yX1_solution : MethodName := ⟨RX1, "solution", "(II)I"⟩
abbrev cX1_copyAppended : ByteArray := prog_3_method_11_code
def yX1_copyAppended : MethodName := ⟨RX1, "copyAppended", "(LByteFields$Matrix;)V"⟩
def RX2 : String := "ByteFields$Factors"
def TX2 : u_T := fun k => match k with
  | 0 => ("ByteFields$Factors", "field", "LByteFields$Field;", true)
  | 1 => ("ByteFields$Factors", "division", "LByteFields$Division;", true)
  | 2 => ("ByteFields$Factors", "left", "LByteFields$Polynomial;", true)
  | 3 => ("ByteFields$Factors", "power", "LByteFields$Polynomial;", true)
  | 4 => ("ByteFields$Factors", "shared", "LByteFields$Polynomial;", true)
  | _ => ("ByteFields$Factors", "other", "LByteFields$Polynomial;", true)
def tyX2 : Nat → FieldType := fun k => match k with
  | 0 => .object "ByteFields$Field"
  | 1 => .object "ByteFields$Division"
  | 2 => .object "ByteFields$Polynomial"
  | 3 => .object "ByteFields$Polynomial"
  | 4 => .object "ByteFields$Polynomial"
  | _ => .object "ByteFields$Polynomial"
abbrev wsX20 : List Cond := u_ws RX2 TX2 6
theorem nmX2 : ∀ a, a < 6 → ∀ b, b < 6 → a ≠ b → (TX2 a).2.1 ≠ (TX2 b).2.1 := by decide +kernel
theorem tyX2_ok : ∀ k, k < 6 → parseFieldDescriptor (TX2 k).2.2.1 = some (tyX2 k) := by decide +kernel
abbrev cX2_init : ByteArray := prog_4_method_1_code
def yX2_init : MethodName := ⟨RX2, "<init>", "(LByteFields$Field;LByteFields$Division;)V"⟩
abbrev cX2_count : ByteArray := prog_4_method_2_code
def yX2_count : MethodName := ⟨RX2, "count", "(LByteFields$Polynomial;[I)V"⟩
abbrev cX2_takeParts : ByteArray := prog_4_method_3_code
def yX2_takeParts : MethodName := ⟨RX2, "takeParts", "(I)I"⟩
def RX3 : String := "ByteFields$Field"
def TX3 : u_T := fun k => match k with
  | 0 => ("ByteFields$Field", "bits", "I", true)
  | 1 => ("ByteFields$Field", "size", "I", true)
  | 2 => ("ByteFields$Field", "units", "I", true)
  | 3 => ("ByteFields$Field", "poly", "I", true)
  | 4 => ("ByteFields$Field", "generator", "I", true)
  | _ => ("ByteFields$Field", "tables", "[I", true)
def tyX3 : Nat → FieldType := fun k => match k with
  | 0 => .int
  | 1 => .int
  | 2 => .int
  | 3 => .int
  | 4 => .int
  | _ => .array .int
abbrev wsX30 : List Cond := u_ws RX3 TX3 6
theorem nmX3 : ∀ a, a < 6 → ∀ b, b < 6 → a ≠ b → (TX3 a).2.1 ≠ (TX3 b).2.1 := by decide +kernel
theorem tyX3_ok : ∀ k, k < 6 → parseFieldDescriptor (TX3 k).2.2.1 = some (tyX3 k) := by decide +kernel
abbrev cX3_init : ByteArray := prog_5_method_1_code
def yX3_init : MethodName := ⟨RX3, "<init>", "(II)V"⟩
abbrev cX3_firstUnsplit : ByteArray := prog_5_method_2_code
def yX3_firstUnsplit : MethodName := ⟨RX3, "firstUnsplit", "(II)I"⟩
abbrev cX3_splits : ByteArray := prog_5_method_3_code
def yX3_splits : MethodName := ⟨RX3, "splits", "(II)Z"⟩
abbrev cX3_restOfBits : ByteArray := prog_5_method_4_code
def yX3_restOfBits : MethodName := ⟨RX3, "restOfBits", "(II)I"⟩
abbrev cX3_highestBit : ByteArray := prog_5_method_5_code
def yX3_highestBit : MethodName := ⟨RX3, "highestBit", "(I)I"⟩
abbrev cX3_slowProduct : ByteArray := prog_5_method_6_code
def yX3_slowProduct : MethodName := ⟨RX3, "slowProduct", "(II)I"⟩
abbrev cX3_slowPower : ByteArray := prog_5_method_7_code
def yX3_slowPower : MethodName := ⟨RX3, "slowPower", "(II)I"⟩
abbrev cX3_leastGenerator : ByteArray := prog_5_method_8_code
def yX3_leastGenerator : MethodName := ⟨RX3, "leastGenerator", "()I"⟩
abbrev cX3_generates : ByteArray := prog_5_method_9_code
def yX3_generates : MethodName := ⟨RX3, "generates", "(I)Z"⟩
abbrev cX3_logOf : ByteArray := prog_5_method_10_code
def yX3_logOf : MethodName := ⟨RX3, "logOf", "(I)I"⟩
abbrev cX3_mul : ByteArray := prog_5_method_11_code
def yX3_mul : MethodName := ⟨RX3, "mul", "(II)I"⟩
abbrev cX3_inverse : ByteArray := prog_5_method_12_code
def yX3_inverse : MethodName := ⟨RX3, "inverse", "(I)I"⟩
abbrev cX3_ratio : ByteArray := prog_5_method_13_code
def yX3_ratio : MethodName := ⟨RX3, "ratio", "(II)I"⟩
abbrev cX3_raised : ByteArray := prog_5_method_14_code
def yX3_raised : MethodName := ⟨RX3, "raised", "(IJ)I"⟩
abbrev cX3_orderOf : ByteArray := prog_5_method_15_code
def yX3_orderOf : MethodName := ⟨RX3, "orderOf", "(I)I"⟩
abbrev cX3_addMultiple : ByteArray := prog_5_method_16_code
def yX3_addMultiple : MethodName := ⟨RX3, "addMultiple", "([II[IIII)V"⟩
abbrev cX3_scale : ByteArray := prog_5_method_17_code
def yX3_scale : MethodName := ⟨RX3, "scale", "([III)V"⟩
def RX4 : String := "ByteFields$Interpolation"
def TX4 : u_T := fun k => match k with
  | 0 => ("ByteFields$Interpolation", "field", "LByteFields$Field;", true)
  | 1 => ("ByteFields$Interpolation", "xs", "[I", true)
  | _ => ("ByteFields$Interpolation", "ys", "[I", true)
def tyX4 : Nat → FieldType := fun k => match k with
  | 0 => .object "ByteFields$Field"
  | 1 => .array .int
  | _ => .array .int
abbrev wsX40 : List Cond := u_ws RX4 TX4 3
theorem nmX4 : ∀ a, a < 3 → ∀ b, b < 3 → a ≠ b → (TX4 a).2.1 ≠ (TX4 b).2.1 := by decide +kernel
theorem tyX4_ok : ∀ k, k < 3 → parseFieldDescriptor (TX4 k).2.2.1 = some (tyX4 k) := by decide +kernel
abbrev cX4_init : ByteArray := prog_6_method_1_code
def yX4_init : MethodName := ⟨RX4, "<init>", "(LByteFields$Field;)V"⟩
abbrev cX4_take : ByteArray := prog_6_method_2_code
def yX4_take : MethodName := ⟨RX4, "take", "(III)V"⟩
abbrev cX4_run : ByteArray := prog_6_method_3_code
def yX4_run : MethodName := ⟨RX4, "run", "(ILByteFields$Polynomial;)V"⟩
abbrev cX4_multiplyAndAdd : ByteArray := prog_6_method_4_code
def yX4_multiplyAndAdd : MethodName := ⟨RX4, "multiplyAndAdd", "(LByteFields$Polynomial;II)V"⟩
def RX5 : String := "ByteFields$Matrix"
def TX5 : u_T := fun k => match k with
  | 0 => ("ByteFields$Matrix", "rows", "I", true)
  | 1 => ("ByteFields$Matrix", "columns", "I", true)
  | _ => ("ByteFields$Matrix", "cells", "[I", true)
def tyX5 : Nat → FieldType := fun k => match k with
  | 0 => .int
  | 1 => .int
  | _ => .array .int
abbrev wsX50 : List Cond := u_ws RX5 TX5 3
theorem nmX5 : ∀ a, a < 3 → ∀ b, b < 3 → a ≠ b → (TX5 a).2.1 ≠ (TX5 b).2.1 := by decide +kernel
theorem tyX5_ok : ∀ k, k < 3 → parseFieldDescriptor (TX5 k).2.2.1 = some (tyX5 k) := by decide +kernel
abbrev cX5_init : ByteArray := prog_7_method_1_code
def yX5_init : MethodName := ⟨RX5, "<init>", "(II)V"⟩
def RX6 : String := "ByteFields$Minors"
def TX6 : u_T := fun k => match k with
  | 0 => ("ByteFields$Minors", "field", "LByteFields$Field;", true)
  | _ => ("ByteFields$Minors", "values", "[[I", true)
def tyX6 : Nat → FieldType := fun k => match k with
  | 0 => .object "ByteFields$Field"
  | _ => .array (.array .int)
abbrev wsX60 : List Cond := u_ws RX6 TX6 2
theorem nmX6 : ∀ a, a < 2 → ∀ b, b < 2 → a ≠ b → (TX6 a).2.1 ≠ (TX6 b).2.1 := by decide +kernel
theorem tyX6_ok : ∀ k, k < 2 → parseFieldDescriptor (TX6 k).2.2.1 = some (tyX6 k) := by decide +kernel
abbrev cX6_init : ByteArray := prog_8_method_1_code
def yX6_init : MethodName := ⟨RX6, "<init>", "(LByteFields$Field;)V"⟩
abbrev cX6_countZeros : ByteArray := prog_8_method_2_code
def yX6_countZeros : MethodName := ⟨RX6, "countZeros", "(LByteFields$Matrix;)I"⟩
abbrev cX6_addRow : ByteArray := prog_8_method_3_code
def yX6_addRow : MethodName := ⟨RX6, "addRow", "(LByteFields$Matrix;II)I"⟩
abbrev cX6_expanded : ByteArray := prog_8_method_4_code
def yX6_expanded : MethodName := ⟨RX6, "expanded", "(LByteFields$Matrix;II[I)I"⟩
def RX7 : String := "ByteFields$Polynomial"
def TX7 : u_T := fun k => match k with
  | 0 => ("ByteFields$Polynomial", "at", "[I", true)
  | 1 => ("ByteFields$Polynomial", "top", "I", false)
  | _ => ("ByteFields$Polynomial", "partCounts", "[I", false)
def tyX7 : Nat → FieldType := fun k => match k with
  | 0 => .array .int
  | 1 => .int
  | _ => .array .int
abbrev wsX70 : List Cond := u_ws RX7 TX7 3
theorem nmX7 : ∀ a, a < 3 → ∀ b, b < 3 → a ≠ b → (TX7 a).2.1 ≠ (TX7 b).2.1 := by decide +kernel
theorem tyX7_ok : ∀ k, k < 3 → parseFieldDescriptor (TX7 k).2.2.1 = some (tyX7 k) := by decide +kernel
abbrev cX7_init : ByteArray := prog_9_method_1_code
def yX7_init : MethodName := ⟨RX7, "<init>", "(I)V"⟩
abbrev cX7_clear : ByteArray := prog_9_method_2_code
def yX7_clear : MethodName := ⟨RX7, "clear", "()V"⟩
abbrev cX7_load : ByteArray := prog_9_method_3_code
def yX7_load : MethodName := ⟨RX7, "load", "([II)V"⟩
abbrev cX7_copyFrom : ByteArray := prog_9_method_4_code
def yX7_copyFrom : MethodName := ⟨RX7, "copyFrom", "(LByteFields$Polynomial;)V"⟩
abbrev cX7_settle : ByteArray := prog_9_method_5_code
def yX7_settle : MethodName := ⟨RX7, "settle", "(I)V"⟩
abbrev cX7_addScaled : ByteArray := prog_9_method_6_code
def yX7_addScaled : MethodName := ⟨RX7, "addScaled", "(LByteFields$Field;LByteFields$Polynomial;I)V"⟩
abbrev cX7_addMember : ByteArray := prog_9_method_7_code
def yX7_addMember : MethodName := ⟨RX7, "addMember", "(I)V"⟩
abbrev cX7_becomeX : ByteArray := prog_9_method_8_code
def yX7_becomeX : MethodName := ⟨RX7, "becomeX", "()V"⟩
abbrev cX7_shiftDown : ByteArray := prog_9_method_9_code
def yX7_shiftDown : MethodName := ⟨RX7, "shiftDown", "(I)V"⟩
def RX8 : String := "ByteFields$Roots"
def TX8 : u_T := fun k => match k with
  | 0 => ("ByteFields$Roots", "field", "LByteFields$Field;", true)
  | 1 => ("ByteFields$Roots", "division", "LByteFields$Division;", true)
  | 2 => ("ByteFields$Roots", "steps", "[I", true)
  | 3 => ("ByteFields$Roots", "rests", "[LByteFields$Polynomial;", true)
  | 4 => ("ByteFields$Roots", "left", "LByteFields$Polynomial;", true)
  | 5 => ("ByteFields$Roots", "lower", "LByteFields$Polynomial;", true)
  | _ => ("ByteFields$Roots", "other", "LByteFields$Polynomial;", true)
def tyX8 : Nat → FieldType := fun k => match k with
  | 0 => .object "ByteFields$Field"
  | 1 => .object "ByteFields$Division"
  | 2 => .array .int
  | 3 => .array (.object "ByteFields$Polynomial")
  | 4 => .object "ByteFields$Polynomial"
  | 5 => .object "ByteFields$Polynomial"
  | _ => .object "ByteFields$Polynomial"
abbrev wsX80 : List Cond := u_ws RX8 TX8 7
theorem nmX8 : ∀ a, a < 7 → ∀ b, b < 7 → a ≠ b → (TX8 a).2.1 ≠ (TX8 b).2.1 := by decide +kernel
theorem tyX8_ok : ∀ k, k < 7 → parseFieldDescriptor (TX8 k).2.2.1 = some (tyX8 k) := by decide +kernel
abbrev cX8_init : ByteArray := prog_10_method_1_code
def yX8_init : MethodName := ⟨RX8, "<init>", "(LByteFields$Field;LByteFields$Division;)V"⟩
abbrev cX8_valueAt : ByteArray := prog_10_method_2_code
def yX8_valueAt : MethodName := ⟨RX8, "valueAt", "(II)I"⟩
abbrev cX8_makeRests : ByteArray := prog_10_method_3_code
def yX8_makeRests : MethodName := ⟨RX8, "makeRests", "(LByteFields$Polynomial;)V"⟩
abbrev cX8_find : ByteArray := prog_10_method_4_code
def yX8_find : MethodName := ⟨RX8, "find", "(LByteFields$Polynomial;I)I"⟩
abbrev cX8_keepLower : ByteArray := prog_10_method_5_code
def yX8_keepLower : MethodName := ⟨RX8, "keepLower", "(II)V"⟩
def RX9 : String := "ByteFields"
def TX9 : u_T := fun k => match k with
  | 0 => ("ByteFields", "field", "LByteFields$Field;", true)
  | 1 => ("ByteFields", "elimination", "LByteFields$Elimination;", true)
  | 2 => ("ByteFields", "minors", "LByteFields$Minors;", true)
  | 3 => ("ByteFields", "division", "LByteFields$Division;", true)
  | 4 => ("ByteFields", "interpolation", "LByteFields$Interpolation;", true)
  | 5 => ("ByteFields", "roots", "LByteFields$Roots;", true)
  | 6 => ("ByteFields", "factors", "LByteFields$Factors;", true)
  | 7 => ("ByteFields", "work", "LByteFields$Polynomial;", true)
  | 8 => ("ByteFields", "otherWork", "LByteFields$Polynomial;", true)
  | 9 => ("ByteFields", "rowMembers", "[I", true)
  | 10 => ("ByteFields", "inRow", "I", false)
  | 11 => ("ByteFields", "matrices", "[LByteFields$Matrix;", true)
  | 12 => ("ByteFields", "matrixCount", "I", false)
  | 13 => ("ByteFields", "polynomials", "[LByteFields$Polynomial;", true)
  | 14 => ("ByteFields", "polynomialCount", "I", false)
  | 15 => ("ByteFields", "spanMembers", "[I", true)
  | _ => ("ByteFields", "inSpan", "I", false)
def tyX9 : Nat → FieldType := fun k => match k with
  | 0 => .object "ByteFields$Field"
  | 1 => .object "ByteFields$Elimination"
  | 2 => .object "ByteFields$Minors"
  | 3 => .object "ByteFields$Division"
  | 4 => .object "ByteFields$Interpolation"
  | 5 => .object "ByteFields$Roots"
  | 6 => .object "ByteFields$Factors"
  | 7 => .object "ByteFields$Polynomial"
  | 8 => .object "ByteFields$Polynomial"
  | 9 => .array .int
  | 10 => .int
  | 11 => .array (.object "ByteFields$Matrix")
  | 12 => .int
  | 13 => .array (.object "ByteFields$Polynomial")
  | 14 => .int
  | 15 => .array .int
  | _ => .int
abbrev wsX90 : List Cond := u_ws RX9 TX9 17
theorem nmX9 : ∀ a, a < 17 → ∀ b, b < 17 → a ≠ b → (TX9 a).2.1 ≠ (TX9 b).2.1 := by decide +kernel
theorem tyX9_ok : ∀ k, k < 17 → parseFieldDescriptor (TX9 k).2.2.1 = some (tyX9 k) := by decide +kernel
abbrev cX9_init : ByteArray := prog_1_method_1_code
def yX9_init : MethodName := ⟨RX9, "<init>", "(II)V"⟩
abbrev cX9_poly : ByteArray := prog_1_method_2_code
def yX9_poly : MethodName := ⟨RX9, "poly", "()I"⟩
abbrev cX9_generator : ByteArray := prog_1_method_3_code
def yX9_generator : MethodName := ⟨RX9, "generator", "()I"⟩
abbrev cX9_product : ByteArray := prog_1_method_4_code
def yX9_product : MethodName := ⟨RX9, "product", "(II)I"⟩
abbrev cX9_quotient : ByteArray := prog_1_method_5_code
def yX9_quotient : MethodName := ⟨RX9, "quotient", "(II)I"⟩
abbrev cX9_power : ByteArray := prog_1_method_6_code
def yX9_power : MethodName := ⟨RX9, "power", "(IJ)I"⟩
abbrev cX9_log : ByteArray := prog_1_method_7_code
def yX9_log : MethodName := ⟨RX9, "log", "(I)I"⟩
abbrev cX9_order : ByteArray := prog_1_method_8_code
def yX9_order : MethodName := ⟨RX9, "order", "(I)I"⟩
abbrev cX9_put : ByteArray := prog_1_method_9_code
def yX9_put : MethodName := ⟨RX9, "put", "(I)I"⟩
abbrev cX9_row : ByteArray := prog_1_method_10_code
def yX9_row : MethodName := ⟨RX9, "row", "(I)I"⟩
abbrev cX9_drop : ByteArray := prog_1_method_11_code
def yX9_drop : MethodName := ⟨RX9, "drop", "()I"⟩
abbrev cX9_matrix : ByteArray := prog_1_method_12_code
def yX9_matrix : MethodName := ⟨RX9, "matrix", "(II)I"⟩
abbrev cX9_powers : ByteArray := prog_1_method_13_code
def yX9_powers : MethodName := ⟨RX9, "powers", "(II)I"⟩
abbrev cX9_sums : ByteArray := prog_1_method_14_code
def yX9_sums : MethodName := ⟨RX9, "sums", "(II)I"⟩
abbrev cX9_size : ByteArray := prog_1_method_15_code
def yX9_size : MethodName := ⟨RX9, "size", "(II)I"⟩
abbrev cX9_cell : ByteArray := prog_1_method_16_code
def yX9_cell : MethodName := ⟨RX9, "cell", "(III)I"⟩
abbrev cX9_set : ByteArray := prog_1_method_17_code
def yX9_set : MethodName := ⟨RX9, "set", "(IIII)I"⟩
abbrev cX9_times : ByteArray := prog_1_method_18_code
def yX9_times : MethodName := ⟨RX9, "times", "(II)I"⟩
abbrev cX9_invert : ByteArray := prog_1_method_19_code
def yX9_invert : MethodName := ⟨RX9, "invert", "(I)I"⟩
abbrev cX9_rank : ByteArray := prog_1_method_20_code
def yX9_rank : MethodName := ⟨RX9, "rank", "(I)I"⟩
abbrev cX9_determinant : ByteArray := prog_1_method_21_code
def yX9_determinant : MethodName := ⟨RX9, "determinant", "(I)I"⟩
abbrev cX9_singular : ByteArray := prog_1_method_22_code
def yX9_singular : MethodName := ⟨RX9, "singular", "(I)I"⟩
abbrev cX9_solve : ByteArray := prog_1_method_23_code
def yX9_solve : MethodName := ⟨RX9, "solve", "(I)I"⟩
abbrev cX9_polynomial : ByteArray := prog_1_method_24_code
def yX9_polynomial : MethodName := ⟨RX9, "polynomial", "()I"⟩
abbrev cX9_through : ByteArray := prog_1_method_25_code
def yX9_through : MethodName := ⟨RX9, "through", "()I"⟩
abbrev cX9_degree : ByteArray := prog_1_method_26_code
def yX9_degree : MethodName := ⟨RX9, "degree", "(I)I"⟩
abbrev cX9_coefficient : ByteArray := prog_1_method_27_code
def yX9_coefficient : MethodName := ⟨RX9, "coefficient", "(II)I"⟩
abbrev cX9_value : ByteArray := prog_1_method_28_code
def yX9_value : MethodName := ⟨RX9, "value", "(II)I"⟩
abbrev cX9_plus : ByteArray := prog_1_method_29_code
def yX9_plus : MethodName := ⟨RX9, "plus", "(II)I"⟩
abbrev cX9_multiply : ByteArray := prog_1_method_30_code
def yX9_multiply : MethodName := ⟨RX9, "multiply", "(II)I"⟩
abbrev cX9_divide : ByteArray := prog_1_method_31_code
def yX9_divide : MethodName := ⟨RX9, "divide", "(IIZ)I"⟩
abbrev cX9_common : ByteArray := prog_1_method_32_code
def yX9_common : MethodName := ⟨RX9, "common", "(II)I"⟩
abbrev cX9_root : ByteArray := prog_1_method_33_code
def yX9_root : MethodName := ⟨RX9, "root", "(II)I"⟩
abbrev cX9_often : ByteArray := prog_1_method_34_code
def yX9_often : MethodName := ⟨RX9, "often", "(II)I"⟩
abbrev cX9_parts : ByteArray := prog_1_method_35_code
def yX9_parts : MethodName := ⟨RX9, "parts", "(II)I"⟩
abbrev cX9_span : ByteArray := prog_1_method_36_code
def yX9_span : MethodName := ⟨RX9, "span", "()I"⟩
abbrev cX9_forth : ByteArray := prog_1_method_37_code
def yX9_forth : MethodName := ⟨RX9, "forth", "(I)I"⟩
abbrev cX9_back : ByteArray := prog_1_method_38_code
def yX9_back : MethodName := ⟨RX9, "back", "()I"⟩
abbrev cX9_told : ByteArray := prog_1_method_39_code
def yX9_told : MethodName := ⟨RX9, "told", "(I)I"⟩
abbrev cX9_needMember : ByteArray := prog_1_method_40_code
def yX9_needMember : MethodName := ⟨RX9, "needMember", "(I)V"⟩
abbrev cX9_needSides : ByteArray := prog_1_method_41_code
def yX9_needSides : MethodName := ⟨RX9, "needSides", "(II)V"⟩
abbrev cX9_needSquare : ByteArray := prog_1_method_42_code
def yX9_needSquare : MethodName := ⟨RX9, "needSquare", "(LByteFields$Matrix;)V"⟩
abbrev cX9_needMatrixRoom : ByteArray := prog_1_method_43_code
def yX9_needMatrixRoom : MethodName := ⟨RX9, "needMatrixRoom", "()V"⟩
abbrev cX9_needPolynomialRoom : ByteArray := prog_1_method_44_code
def yX9_needPolynomialRoom : MethodName := ⟨RX9, "needPolynomialRoom", "()V"⟩
abbrev cX9_needSpan : ByteArray := prog_1_method_45_code
def yX9_needSpan : MethodName := ⟨RX9, "needSpan", "()V"⟩
abbrev cX9_matrixAt : ByteArray := prog_1_method_46_code
def yX9_matrixAt : MethodName := ⟨RX9, "matrixAt", "(I)LByteFields$Matrix;"⟩
abbrev cX9_placeIn : ByteArray := prog_1_method_47_code
def yX9_placeIn : MethodName := ⟨RX9, "placeIn", "(LByteFields$Matrix;II)I"⟩
abbrev cX9_polynomialAt : ByteArray := prog_1_method_48_code
def yX9_polynomialAt : MethodName := ⟨RX9, "polynomialAt", "(I)LByteFields$Polynomial;"⟩
abbrev cX9_keepMatrix : ByteArray := prog_1_method_49_code
def yX9_keepMatrix : MethodName := ⟨RX9, "keepMatrix", "(LByteFields$Matrix;)I"⟩
abbrev cX9_keepPolynomial : ByteArray := prog_1_method_50_code
def yX9_keepPolynomial : MethodName := ⟨RX9, "keepPolynomial", "(LByteFields$Polynomial;)I"⟩
abbrev cX9_hasAlike : ByteArray := prog_1_method_51_code
def yX9_hasAlike : MethodName := ⟨RX9, "hasAlike", "(I)Z"⟩
abbrev cX9_hasXorOfAhead : ByteArray := prog_1_method_52_code
def yX9_hasXorOfAhead : MethodName := ⟨RX9, "hasXorOfAhead", "()Z"⟩
abbrev cX9_xorOfChosen : ByteArray := prog_1_method_53_code
def yX9_xorOfChosen : MethodName := ⟨RX9, "xorOfChosen", "(II)I"⟩
abbrev cX9_valueOf : ByteArray := prog_1_method_54_code
def yX9_valueOf : MethodName := ⟨RX9, "valueOf", "(LByteFields$Polynomial;I)I"⟩
def RX10 : String := "ByteFieldsModel"
def TX10 : u_T := fun k => match k with
  | 0 => ("ByteFieldsModel", "bits", "I", false)
  | 1 => ("ByteFieldsModel", "poly", "I", false)
  | 2 => ("ByteFieldsModel", "members", "I", false)
  | 3 => ("ByteFieldsModel", "generator", "I", false)
  | 4 => ("ByteFieldsModel", "thrown", "I", false)
  | 5 => ("ByteFieldsModel", "many", "I", false)
  | 6 => ("ByteFieldsModel", "row", "[I", true)
  | 7 => ("ByteFieldsModel", "matrices", "I", false)
  | 8 => ("ByteFieldsModel", "rows", "[I", true)
  | 9 => ("ByteFieldsModel", "columns", "[I", true)
  | 10 => ("ByteFieldsModel", "cells", "[I", true)
  | 11 => ("ByteFieldsModel", "minor", "[I", true)
  | 12 => ("ByteFieldsModel", "work", "[I", true)
  | 13 => ("ByteFieldsModel", "lead", "[I", true)
  | 14 => ("ByteFieldsModel", "polynomials", "I", false)
  | 15 => ("ByteFieldsModel", "degree", "[I", true)
  | 16 => ("ByteFieldsModel", "coefficient", "[I", true)
  | 17 => ("ByteFieldsModel", "one", "[I", true)
  | 18 => ("ByteFieldsModel", "two", "[I", true)
  | 19 => ("ByteFieldsModel", "out", "[I", true)
  | 20 => ("ByteFieldsModel", "third", "[I", true)
  | 21 => ("ByteFieldsModel", "rooted", "I", false)
  | 22 => ("ByteFieldsModel", "roots", "I", false)
  | 23 => ("ByteFieldsModel", "root", "[I", true)
  | 24 => ("ByteFieldsModel", "parted", "I", false)
  | 25 => ("ByteFieldsModel", "parts", "[I", true)
  | 26 => ("ByteFieldsModel", "left", "[I", true)
  | 27 => ("ByteFieldsModel", "power", "[I", true)
  | 28 => ("ByteFieldsModel", "spanned", "I", false)
  | _ => ("ByteFieldsModel", "span", "[I", true)
def tyX10 : Nat → FieldType := fun k => match k with
  | 0 => .int
  | 1 => .int
  | 2 => .int
  | 3 => .int
  | 4 => .int
  | 5 => .int
  | 6 => .array .int
  | 7 => .int
  | 8 => .array .int
  | 9 => .array .int
  | 10 => .array .int
  | 11 => .array .int
  | 12 => .array .int
  | 13 => .array .int
  | 14 => .int
  | 15 => .array .int
  | 16 => .array .int
  | 17 => .array .int
  | 18 => .array .int
  | 19 => .array .int
  | 20 => .array .int
  | 21 => .int
  | 22 => .int
  | 23 => .array .int
  | 24 => .int
  | 25 => .array .int
  | 26 => .array .int
  | 27 => .array .int
  | 28 => .int
  | _ => .array .int
abbrev wsX100 : List Cond := u_ws RX10 TX10 30
theorem nmX10 : ∀ a, a < 30 → ∀ b, b < 30 → a ≠ b → (TX10 a).2.1 ≠ (TX10 b).2.1 := by decide +kernel
theorem tyX10_ok : ∀ k, k < 30 → parseFieldDescriptor (TX10 k).2.2.1 = some (tyX10 k) := by decide +kernel
abbrev cX10_thrown : ByteArray := prog_12_method_1_code
def yX10_thrown : MethodName := ⟨RX10, "thrown", "()I"⟩
abbrev cX10_fail : ByteArray := prog_12_method_2_code
def yX10_fail : MethodName := ⟨RX10, "fail", "(I)I"⟩
abbrev cX10_init : ByteArray := prog_12_method_3_code
def yX10_init : MethodName := ⟨RX10, "<init>", "(II)V"⟩
abbrev cX10_isPrime : ByteArray := prog_12_method_4_code
def yX10_isPrime : MethodName := ⟨RX10, "isPrime", "(I)Z"⟩
abbrev cX10_degreeOf : ByteArray := prog_12_method_5_code
def yX10_degreeOf : MethodName := ⟨RX10, "degreeOf", "(I)I"⟩
abbrev cX10_restOf : ByteArray := prog_12_method_6_code
def yX10_restOf : MethodName := ⟨RX10, "restOf", "(II)I"⟩
abbrev cX10_isMember : ByteArray := prog_12_method_7_code
def yX10_isMember : MethodName := ⟨RX10, "isMember", "(I)Z"⟩
abbrev cX10_mul : ByteArray := prog_12_method_8_code
def yX10_mul : MethodName := ⟨RX10, "mul", "(II)I"⟩
abbrev cX10_raised : ByteArray := prog_12_method_9_code
def yX10_raised : MethodName := ⟨RX10, "raised", "(II)I"⟩
abbrev cX10_inverse : ByteArray := prog_12_method_10_code
def yX10_inverse : MethodName := ⟨RX10, "inverse", "(I)I"⟩
abbrev cX10_factor : ByteArray := prog_12_method_11_code
def yX10_factor : MethodName := ⟨RX10, "factor", "(I)I"⟩
abbrev cX10_factors : ByteArray := prog_12_method_12_code
def yX10_factors : MethodName := ⟨RX10, "factors", "()I"⟩
abbrev cX10_orderOf : ByteArray := prog_12_method_13_code
def yX10_orderOf : MethodName := ⟨RX10, "orderOf", "(I)I"⟩
abbrev cX10_poly : ByteArray := prog_12_method_14_code
def yX10_poly : MethodName := ⟨RX10, "poly", "()I"⟩
abbrev cX10_generator : ByteArray := prog_12_method_15_code
def yX10_generator : MethodName := ⟨RX10, "generator", "()I"⟩
abbrev cX10_product : ByteArray := prog_12_method_16_code
def yX10_product : MethodName := ⟨RX10, "product", "(II)I"⟩
abbrev cX10_quotient : ByteArray := prog_12_method_17_code
def yX10_quotient : MethodName := ⟨RX10, "quotient", "(II)I"⟩
abbrev cX10_power : ByteArray := prog_12_method_18_code
def yX10_power : MethodName := ⟨RX10, "power", "(IJ)I"⟩
abbrev cX10_log : ByteArray := prog_12_method_19_code
def yX10_log : MethodName := ⟨RX10, "log", "(I)I"⟩
abbrev cX10_order : ByteArray := prog_12_method_20_code
def yX10_order : MethodName := ⟨RX10, "order", "(I)I"⟩
abbrev cX10_put : ByteArray := prog_12_method_21_code
def yX10_put : MethodName := ⟨RX10, "put", "(I)I"⟩
abbrev cX10_row : ByteArray := prog_12_method_22_code
def yX10_row : MethodName := ⟨RX10, "row", "(I)I"⟩
abbrev cX10_drop : ByteArray := prog_12_method_23_code
def yX10_drop : MethodName := ⟨RX10, "drop", "()I"⟩
abbrev cX10_hasAlike : ByteArray := prog_12_method_24_code
def yX10_hasAlike : MethodName := ⟨RX10, "hasAlike", "(II)Z"⟩
abbrev cX10_isSize : ByteArray := prog_12_method_25_code
def yX10_isSize : MethodName := ⟨RX10, "isSize", "(I)Z"⟩
abbrev cX10_isMatrix : ByteArray := prog_12_method_26_code
def yX10_isMatrix : MethodName := ⟨RX10, "isMatrix", "(I)Z"⟩
abbrev cX10_at : ByteArray := prog_12_method_27_code
def yX10_at : MethodName := ⟨RX10, "at", "(III)I"⟩
abbrev cX10_made : ByteArray := prog_12_method_28_code
def yX10_made : MethodName := ⟨RX10, "made", "(II)I"⟩
abbrev cX10_matrix : ByteArray := prog_12_method_29_code
def yX10_matrix : MethodName := ⟨RX10, "matrix", "(II)I"⟩
abbrev cX10_powers : ByteArray := prog_12_method_30_code
def yX10_powers : MethodName := ⟨RX10, "powers", "(II)I"⟩
abbrev cX10_sums : ByteArray := prog_12_method_31_code
def yX10_sums : MethodName := ⟨RX10, "sums", "(II)I"⟩
abbrev cX10_size : ByteArray := prog_12_method_32_code
def yX10_size : MethodName := ⟨RX10, "size", "(II)I"⟩
abbrev cX10_isCell : ByteArray := prog_12_method_33_code
def yX10_isCell : MethodName := ⟨RX10, "isCell", "(III)Z"⟩
abbrev cX10_cell : ByteArray := prog_12_method_34_code
def yX10_cell : MethodName := ⟨RX10, "cell", "(III)I"⟩
abbrev cX10_set : ByteArray := prog_12_method_35_code
def yX10_set : MethodName := ⟨RX10, "set", "(IIII)I"⟩
abbrev cX10_times : ByteArray := prog_12_method_36_code
def yX10_times : MethodName := ⟨RX10, "times", "(II)I"⟩
abbrev cX10_bitsOf : ByteArray := prog_12_method_37_code
def yX10_bitsOf : MethodName := ⟨RX10, "bitsOf", "(I)I"⟩
abbrev cX10_minors : ByteArray := prog_12_method_38_code
def yX10_minors : MethodName := ⟨RX10, "minors", "(I)V"⟩
abbrev cX10_singular : ByteArray := prog_12_method_39_code
def yX10_singular : MethodName := ⟨RX10, "singular", "(I)I"⟩
abbrev cX10_determinant : ByteArray := prog_12_method_40_code
def yX10_determinant : MethodName := ⟨RX10, "determinant", "(I)I"⟩
abbrev cX10_invert : ByteArray := prog_12_method_41_code
def yX10_invert : MethodName := ⟨RX10, "invert", "(I)I"⟩
abbrev cX10_rank : ByteArray := prog_12_method_42_code
def yX10_rank : MethodName := ⟨RX10, "rank", "(I)I"⟩
abbrev cX10_solve : ByteArray := prog_12_method_43_code
def yX10_solve : MethodName := ⟨RX10, "solve", "(I)I"⟩
abbrev cX10_isPolynomial : ByteArray := prog_12_method_44_code
def yX10_isPolynomial : MethodName := ⟨RX10, "isPolynomial", "(I)Z"⟩
abbrev cX10_high : ByteArray := prog_12_method_45_code
def yX10_high : MethodName := ⟨RX10, "high", "([I)I"⟩
abbrev cX10_nothing : ByteArray := prog_12_method_46_code
def yX10_nothing : MethodName := ⟨RX10, "nothing", "([I)V"⟩
abbrev cX10_copy : ByteArray := prog_12_method_47_code
def yX10_copy : MethodName := ⟨RX10, "copy", "([I[I)V"⟩
abbrev cX10_load : ByteArray := prog_12_method_48_code
def yX10_load : MethodName := ⟨RX10, "load", "([II)V"⟩
abbrev cX10_kept : ByteArray := prog_12_method_49_code
def yX10_kept : MethodName := ⟨RX10, "kept", "([I)I"⟩
abbrev cX10_at_ : ByteArray := prog_12_method_50_code
def yX10_at_ : MethodName := ⟨RX10, "at", "([II)I"⟩
abbrev cX10_polynomial : ByteArray := prog_12_method_51_code
def yX10_polynomial : MethodName := ⟨RX10, "polynomial", "()I"⟩
abbrev cX10_point : ByteArray := prog_12_method_52_code
def yX10_point : MethodName := ⟨RX10, "point", "(II)V"⟩
abbrev cX10_begin : ByteArray := prog_12_method_53_code
def yX10_begin : MethodName := ⟨RX10, "begin", "()V"⟩
abbrev cX10_through : ByteArray := prog_12_method_54_code
def yX10_through : MethodName := ⟨RX10, "through", "()I"⟩
abbrev cX10_degree : ByteArray := prog_12_method_55_code
def yX10_degree : MethodName := ⟨RX10, "degree", "(I)I"⟩
abbrev cX10_coefficient : ByteArray := prog_12_method_56_code
def yX10_coefficient : MethodName := ⟨RX10, "coefficient", "(II)I"⟩
abbrev cX10_value : ByteArray := prog_12_method_57_code
def yX10_value : MethodName := ⟨RX10, "value", "(II)I"⟩
abbrev cX10_plus : ByteArray := prog_12_method_58_code
def yX10_plus : MethodName := ⟨RX10, "plus", "(II)I"⟩
abbrev cX10_multiply : ByteArray := prog_12_method_59_code
def yX10_multiply : MethodName := ⟨RX10, "multiply", "(II)I"⟩
abbrev cX10_split : ByteArray := prog_12_method_60_code
def yX10_split : MethodName := ⟨RX10, "split", "([I[I)V"⟩
abbrev cX10_divide : ByteArray := prog_12_method_61_code
def yX10_divide : MethodName := ⟨RX10, "divide", "(IIZ)I"⟩
abbrev cX10_divisor : ByteArray := prog_12_method_62_code
def yX10_divisor : MethodName := ⟨RX10, "divisor", "([I[I)V"⟩
abbrev cX10_common : ByteArray := prog_12_method_63_code
def yX10_common : MethodName := ⟨RX10, "common", "(II)I"⟩
abbrev cX10_root : ByteArray := prog_12_method_64_code
def yX10_root : MethodName := ⟨RX10, "root", "(II)I"⟩
abbrev cX10_often : ByteArray := prog_12_method_65_code
def yX10_often : MethodName := ⟨RX10, "often", "(II)I"⟩
abbrev cX10_square : ByteArray := prog_12_method_66_code
def yX10_square : MethodName := ⟨RX10, "square", "([I)V"⟩
abbrev cX10_lookAtParts : ByteArray := prog_12_method_67_code
def yX10_lookAtParts : MethodName := ⟨RX10, "lookAtParts", "(I)V"⟩
abbrev cX10_parts : ByteArray := prog_12_method_68_code
def yX10_parts : MethodName := ⟨RX10, "parts", "(II)I"⟩
abbrev cX10_span : ByteArray := prog_12_method_69_code
def yX10_span : MethodName := ⟨RX10, "span", "()I"⟩
abbrev cX10_forth : ByteArray := prog_12_method_70_code
def yX10_forth : MethodName := ⟨RX10, "forth", "(I)I"⟩
abbrev cX10_back : ByteArray := prog_12_method_71_code
def yX10_back : MethodName := ⟨RX10, "back", "()I"⟩
abbrev cX10_told : ByteArray := prog_12_method_72_code
def yX10_told : MethodName := ⟨RX10, "told", "(I)I"⟩
def RJx00060 : String := "java/lang/ArrayIndexOutOfBoundsException"
def TJx00060 : u_T := fun k => match k with
  | 0 => ("java/lang/Throwable", "backtrace", "Ljava/lang/Object;", false)
  | 1 => ("java/lang/Throwable", "detailMessage", "Ljava/lang/String;", false)
  | 2 => ("java/lang/Throwable", "cause", "Ljava/lang/Throwable;", false)
  | 3 => ("java/lang/Throwable", "stackTrace", "[Ljava/lang/StackTraceElement;", false)
  | 4 => ("java/lang/Throwable", "depth", "I", false)
  | _ => ("java/lang/Throwable", "suppressedExceptions", "Ljava/util/List;", false)
def tyJx00060 : Nat → FieldType := fun k => match k with
  | 0 => .object "java/lang/Object"
  | 1 => .object "java/lang/String"
  | 2 => .object "java/lang/Throwable"
  | 3 => .array (.object "java/lang/StackTraceElement")
  | 4 => .int
  | _ => .object "java/util/List"
abbrev wsJx000600 : List Cond := u_ws RJx00060 TJx00060 6
theorem nmJx00060 : ∀ a, a < 6 → ∀ b, b < 6 → a ≠ b → (TJx00060 a).2.1 ≠ (TJx00060 b).2.1 := by decide +kernel
theorem tyJx00060_ok : ∀ k, k < 6 → parseFieldDescriptor (TJx00060 k).2.2.1 = some (tyJx00060 k) := by decide +kernel
abbrev cJx00060_init_a7421 : ByteArray := prog_14_method_2_code
def yJx00060_init_a7421 : MethodName := ⟨RJx00060, "<init>", "(Ljava/lang/String;)V"⟩
def RJ6 : String := "java/lang/Integer"
def TJ6 : u_T := fun k => match k with
  | _ => ("", "", "", false)
def tyJ6 : Nat → FieldType := fun k => match k with
  | _ => .int
abbrev wsJ60 : List Cond := u_ws RJ6 TJ6 0
theorem nmJ6 : ∀ a, a < 0 → ∀ b, b < 0 → a ≠ b → (TJ6 a).2.1 ≠ (TJ6 b).2.1 := by decide +kernel
theorem tyJ6_ok : ∀ k, k < 0 → parseFieldDescriptor (TJ6 k).2.2.1 = some (tyJ6 k) := by decide +kernel
abbrev cJ6_numberOfLeadingZeros_0f7a4 : ByteArray := prog_19_method_47_code
def yJ6_numberOfLeadingZeros_0f7a4 : MethodName := ⟨RJ6, "numberOfLeadingZeros", "(I)I"⟩
abbrev cJ6_numberOfTrailingZeros_0f7a4 : ByteArray := prog_19_method_48_code
def yJ6_numberOfTrailingZeros_0f7a4 : MethodName := ⟨RJ6, "numberOfTrailingZeros", "(I)I"⟩
abbrev cJ6_bitCount_0f7a4 : ByteArray := prog_19_method_49_code
def yJ6_bitCount_0f7a4 : MethodName := ⟨RJ6, "bitCount", "(I)I"⟩
def RJ9 : String := "java/lang/Math"
def TJ9 : u_T := fun k => match k with
  | _ => ("", "", "", false)
def tyJ9 : Nat → FieldType := fun k => match k with
  | _ => .int
abbrev wsJ90 : List Cond := u_ws RJ9 TJ9 0
theorem nmJ9 : ∀ a, a < 0 → ∀ b, b < 0 → a ≠ b → (TJ9 a).2.1 ≠ (TJ9 b).2.1 := by decide +kernel
theorem tyJ9_ok : ∀ k, k < 0 → parseFieldDescriptor (TJ9 k).2.2.1 = some (tyJ9 k) := by decide +kernel
abbrev cJ9_max_7cf53 : ByteArray := prog_20_method_65_code
def yJ9_max_7cf53 : MethodName := ⟨RJ9, "max", "(II)I"⟩
def RJ0 : String := "java/lang/String"
def TJ0 : u_T := fun k => match k with
  | 0 => ("java/lang/String", "value", "[B", true)
  | _ => ("java/lang/String", "coder", "B", true)
def tyJ0 : Nat → FieldType := fun k => match k with
  | 0 => .array .byte
  | _ => .byte
abbrev wsJ00 : List Cond := u_ws RJ0 TJ0 2
theorem nmJ0 : ∀ a, a < 2 → ∀ b, b < 2 → a ≠ b → (TJ0 a).2.1 ≠ (TJ0 b).2.1 := by decide +kernel
theorem tyJ0_ok : ∀ k, k < 2 → parseFieldDescriptor (TJ0 k).2.2.1 = some (tyJ0 k) := by decide +kernel
def RJ10 : String := "java/lang/System"
def TJ10 : u_T := fun k => match k with
  | _ => ("", "", "", false)
def tyJ10 : Nat → FieldType := fun k => match k with
  | _ => .int
abbrev wsJ100 : List Cond := u_ws RJ10 TJ10 0
theorem nmJ10 : ∀ a, a < 0 → ∀ b, b < 0 → a ≠ b → (TJ10 a).2.1 ≠ (TJ10 b).2.1 := by decide +kernel
theorem tyJ10_ok : ∀ k, k < 0 → parseFieldDescriptor (TJ10 k).2.2.1 = some (tyJ10 k) := by decide +kernel
def RL : String := "ByteFieldsLaw"
abbrev cL_cell : ByteArray := method_2_code
def yL_cell : MethodName := ⟨RL, "cell", "([II)I"⟩
abbrev cL_product : ByteArray := method_3_code
def yL_product : MethodName := ⟨RL, "product", "(LByteFields;II[J)I"⟩
abbrev cL_quotient : ByteArray := method_4_code
def yL_quotient : MethodName := ⟨RL, "quotient", "(LByteFields;II[J)I"⟩
abbrev cL_power : ByteArray := method_5_code
def yL_power : MethodName := ⟨RL, "power", "(LByteFields;IJ[J)I"⟩
abbrev cL_log : ByteArray := method_6_code
def yL_log : MethodName := ⟨RL, "log", "(LByteFields;I[J)I"⟩
abbrev cL_order : ByteArray := method_7_code
def yL_order : MethodName := ⟨RL, "order", "(LByteFields;I[J)I"⟩
abbrev cL_put : ByteArray := method_8_code
def yL_put : MethodName := ⟨RL, "put", "(LByteFields;I[J)I"⟩
abbrev cL_row : ByteArray := method_9_code
def yL_row : MethodName := ⟨RL, "row", "(LByteFields;I[J)I"⟩
abbrev cL_matrix : ByteArray := method_10_code
def yL_matrix : MethodName := ⟨RL, "matrix", "(LByteFields;II[J)I"⟩
abbrev cL_powers : ByteArray := method_11_code
def yL_powers : MethodName := ⟨RL, "powers", "(LByteFields;II[J)I"⟩
abbrev cL_sums : ByteArray := method_12_code
def yL_sums : MethodName := ⟨RL, "sums", "(LByteFields;II[J)I"⟩
abbrev cL_size : ByteArray := method_13_code
def yL_size : MethodName := ⟨RL, "size", "(LByteFields;II[J)I"⟩
abbrev cL_cell_ : ByteArray := method_14_code
def yL_cell_ : MethodName := ⟨RL, "cell", "(LByteFields;III[J)I"⟩
abbrev cL_set : ByteArray := method_15_code
def yL_set : MethodName := ⟨RL, "set", "(LByteFields;IIII[J)I"⟩
abbrev cL_times : ByteArray := method_16_code
def yL_times : MethodName := ⟨RL, "times", "(LByteFields;II[J)I"⟩
abbrev cL_invert : ByteArray := method_17_code
def yL_invert : MethodName := ⟨RL, "invert", "(LByteFields;I[J)I"⟩
abbrev cL_rank : ByteArray := method_18_code
def yL_rank : MethodName := ⟨RL, "rank", "(LByteFields;I[J)I"⟩
abbrev cL_determinant : ByteArray := method_19_code
def yL_determinant : MethodName := ⟨RL, "determinant", "(LByteFields;I[J)I"⟩
abbrev cL_singular : ByteArray := method_20_code
def yL_singular : MethodName := ⟨RL, "singular", "(LByteFields;I[J)I"⟩
abbrev cL_solve : ByteArray := method_21_code
def yL_solve : MethodName := ⟨RL, "solve", "(LByteFields;I[J)I"⟩
abbrev cL_polynomial : ByteArray := method_22_code
def yL_polynomial : MethodName := ⟨RL, "polynomial", "(LByteFields;[J)I"⟩
abbrev cL_through : ByteArray := method_23_code
def yL_through : MethodName := ⟨RL, "through", "(LByteFields;[J)I"⟩
abbrev cL_degree : ByteArray := method_24_code
def yL_degree : MethodName := ⟨RL, "degree", "(LByteFields;I[J)I"⟩
abbrev cL_coefficient : ByteArray := method_25_code
def yL_coefficient : MethodName := ⟨RL, "coefficient", "(LByteFields;II[J)I"⟩
abbrev cL_value : ByteArray := method_26_code
def yL_value : MethodName := ⟨RL, "value", "(LByteFields;II[J)I"⟩
abbrev cL_plus : ByteArray := method_27_code
def yL_plus : MethodName := ⟨RL, "plus", "(LByteFields;II[J)I"⟩
abbrev cL_multiply : ByteArray := method_28_code
def yL_multiply : MethodName := ⟨RL, "multiply", "(LByteFields;II[J)I"⟩
abbrev cL_divide : ByteArray := method_29_code
def yL_divide : MethodName := ⟨RL, "divide", "(LByteFields;IIZ[J)I"⟩
abbrev cL_common : ByteArray := method_30_code
def yL_common : MethodName := ⟨RL, "common", "(LByteFields;II[J)I"⟩
abbrev cL_root : ByteArray := method_31_code
def yL_root : MethodName := ⟨RL, "root", "(LByteFields;II[J)I"⟩
abbrev cL_often : ByteArray := method_32_code
def yL_often : MethodName := ⟨RL, "often", "(LByteFields;II[J)I"⟩
abbrev cL_parts : ByteArray := method_33_code
def yL_parts : MethodName := ⟨RL, "parts", "(LByteFields;II[J)I"⟩
abbrev cL_span : ByteArray := method_34_code
def yL_span : MethodName := ⟨RL, "span", "(LByteFields;[J)I"⟩
abbrev cL_forth : ByteArray := method_35_code
def yL_forth : MethodName := ⟨RL, "forth", "(LByteFields;I[J)I"⟩
abbrev cL_back : ByteArray := method_36_code
def yL_back : MethodName := ⟨RL, "back", "(LByteFields;[J)I"⟩
abbrev cL_told : ByteArray := method_37_code
def yL_told : MethodName := ⟨RL, "told", "(LByteFields;I[J)I"⟩
abbrev cL_law : ByteArray := code
def yL_law : MethodName := ⟨RL, "law", "([I)Z"⟩
abbrev vwCl : List vw_C := [(RJ0, TJ0, 2), (RJx00060, TJx00060, 6), (RX0, TX0, 1), (RX1, TX1, 7), (RX2, TX2, 6), (RX3, TX3, 6), (RX4, TX4, 3), (RX5, TX5, 3), (RX6, TX6, 2), (RX7, TX7, 3), (RX8, TX8, 7), (RX9, TX9, 17), (RX10, TX10, 30)]
end
section
/-! THE CORE: one judgement over an abstract heap, for every method of class, reference and law -/
/-- the abstract heap: its size, and the cells that are known -/
abbrev bw_H : Type := Nat × (Nat → Option va_E)
def bw_up (A : bw_H) (a : Nat) (e : va_E) : bw_H := (A.1, fun b => if b = a then some e else A.2 b)
def bw_nw (A : bw_H) (e : va_E) : bw_H := (A.1 + 1, fun b => if b = A.1 then some e else A.2 b)
/-- what is fixed over a run: class numbers and slots, array classes, the heap at the law's entry, where PRIMES lies, where the script lies, its length and ints -/
abbrev bw_G : Type := va_G × (Nat → ClassId) × Heap × Nat × Nat × Nat × (Nat → Int32)
def bw_lo (g : bw_G) : Nat := g.2.2.1.size
def bw_ty (c : Nat → ClassId) : List (ClassId × FieldType) := [(c 0, .int), (c 1, .long), (c 2, .array .int), (c 3, .object "ByteFields$Matrix"), (c 4, .object "ByteFields$Polynomial")]
def bw_fr (g : bw_G) : Nat → Prop := fun q => bw_lo g ≤ q
/-- the words that every method has: all good ones of the tables -/
def bw_uw : List Cond := lw_tbl.filter goodWord
theorem bw_uwg {w : Cond} (h : w ∈ bw_uw) : goodWord w = true := (List.mem_filter.mp h).2
theorem bw_uwi {w : Cond} (h : w ∈ bw_uw) : w ∈ lw_tbl := (List.mem_filter.mp h).1
def bw_pr (j : Nat) : Int32 := if j = 0 then 3 else if j = 1 then 5 else if j = 2 then 17 else 257
/-- texts of the class: own class, entry, text -/
abbrev bw_S : Type := String × Nat × String
def bw_ss : List bw_S := [("ByteFields", 345, "no member"), ("ByteFields", 109, "a quotient by 0"), ("ByteFields", 117, "a power of 0 below 0"), ("ByteFields", 125, "0 has no log"), ("ByteFields", 140, "the row is full"), ("ByteFields", 145, "a place below 0"), ("ByteFields", 347, "a matrix has 1 to 8 rows and columns"), ("ByteFields", 351, "a matrix too many"), ("ByteFields", 165, "the row must have one member for each row, none alike"), ("ByteFields", 171, "the row must have one member for each row and column, none alike"), ("ByteFields", 357, "no such matrix"), ("ByteFields", 182, "0 asks for the rows, 1 for the columns"), ("ByteFields", 359, "no such row or column"), ("ByteFields", 195, "the sides do not fit"), ("ByteFields", 349, "the matrix is not square"), ("ByteFields", 223, "the row must have one member for each row of the matrix"), ("ByteFields", 235, "the degree is too high"), ("ByteFields", 353, "a polynomial too many"), ("ByteFields", 247, "the row must have pairs, no two of one x"), ("ByteFields", 361, "no such polynomial"), ("ByteFields", 264, "a power below 0"), ("ByteFields", 287, "a quotient by the polynomial 0"), ("ByteFields", 299, "a root below 0"), ("ByteFields", 311, "no degree of a part"), ("ByteFields", 324, "the row must have at most 6, none an xor of those ahead"), ("ByteFields", 355, "there is no span yet"), ("ByteFields", 335, "the row must have one member for each of the span"), ("ByteFields", 343, "nothing that is told")]
/-- what may be caught as what, and what not -/
def bw_fc : Cond → Bool
  | .castable .. => true
  | .declares _ => true
  | _ => false
def bw_fw : List Cond := lw_tbl.filter bw_fc
def bw_nc : List (String × String) := [("java/lang/IllegalArgumentException", "java/lang/IllegalStateException"), ("java/lang/IllegalArgumentException", "java/lang/IndexOutOfBoundsException"), ("java/lang/IllegalArgumentException", "java/lang/ArithmeticException"), ("java/lang/IllegalArgumentException", "java/lang/UnsupportedOperationException"), ("java/lang/IllegalArgumentException", "java/lang/ArrayIndexOutOfBoundsException"), ("java/lang/IllegalStateException", "java/lang/IllegalArgumentException"), ("java/lang/IllegalStateException", "java/lang/IndexOutOfBoundsException"), ("java/lang/IllegalStateException", "java/lang/ArithmeticException"), ("java/lang/IllegalStateException", "java/lang/UnsupportedOperationException"), ("java/lang/IllegalStateException", "java/lang/ArrayIndexOutOfBoundsException"), ("java/lang/IndexOutOfBoundsException", "java/lang/IllegalArgumentException"), ("java/lang/IndexOutOfBoundsException", "java/lang/IllegalStateException"), ("java/lang/IndexOutOfBoundsException", "java/lang/ArithmeticException"), ("java/lang/IndexOutOfBoundsException", "java/lang/UnsupportedOperationException"), ("java/lang/IndexOutOfBoundsException", "java/lang/ArrayIndexOutOfBoundsException"), ("java/lang/ArithmeticException", "java/lang/IllegalArgumentException"), ("java/lang/ArithmeticException", "java/lang/IllegalStateException"), ("java/lang/ArithmeticException", "java/lang/IndexOutOfBoundsException"), ("java/lang/ArithmeticException", "java/lang/UnsupportedOperationException"), ("java/lang/ArithmeticException", "java/lang/ArrayIndexOutOfBoundsException"), ("java/lang/UnsupportedOperationException", "java/lang/IllegalArgumentException"), ("java/lang/UnsupportedOperationException", "java/lang/IllegalStateException"), ("java/lang/UnsupportedOperationException", "java/lang/IndexOutOfBoundsException"), ("java/lang/UnsupportedOperationException", "java/lang/ArithmeticException"), ("java/lang/UnsupportedOperationException", "java/lang/ArrayIndexOutOfBoundsException"), ("java/lang/ArrayIndexOutOfBoundsException", "java/lang/IllegalArgumentException"), ("java/lang/ArrayIndexOutOfBoundsException", "java/lang/IllegalStateException"), ("java/lang/ArrayIndexOutOfBoundsException", "java/lang/ArithmeticException"), ("java/lang/ArrayIndexOutOfBoundsException", "java/lang/UnsupportedOperationException")]
/-- the static facts, at the tables of U -/
def bw_gl (g : bw_G) (U : State) : Prop :=
  va_K g.1 vwCl (bw_ty g.2.1) U ∧
  (va_Z "ByteFields$Field" "PRIMES" "[I" (.ref g.2.2.2.1) (bw_fr g) U g.2.2.1 ∧ va_T .int g.2.2.2.1 4 (fun j => .int (bw_pr j)) (bw_fr g) U g.2.2.1) ∧
  (vx_Zq Bundle.tN "UNASSIGNED_STACK" Bundle.steD (bw_fr g) U g.2.2.1 ∧ vx_Zq Bundle.tN "SUPPRESSED_SENTINEL" Bundle.listD (bw_fr g) U g.2.2.1) ∧
  (∀ x ∈ bw_ss, ∃ sa : Nat, vk_R x.1 x.2.1 x.2.2 sa U) ∧
  (∀ w ∈ bw_fw, w.before #[] U = true) ∧ (∀ x ∈ bw_nc, va_Nc x.1 x.2 U) ∧ va_AO "ByteFields$Matrix" U ∧ va_AO "ByteFields$Polynomial" U ∧ (Cond.arrayOver (.array .int)).before #[] U = true ∧ va_X g.2.2.2.2.1 g.2.2.2.2.2.1 g.2.2.2.2.2.2 U g.2.2.1 ∧ g.2.2.2.2.1 < g.2.2.1.size
theorem bw_AA.moved {u U : State} (hvm : u.vm.Alike U.vm) (h : (Cond.arrayOver (.array .int)).before #[] u = true) : (Cond.arrayOver (.array .int)).before #[] U = true := by
  obtain ⟨comp, c, k, h1, h2, h3, h4, h5⟩ := arrayOverA_spec h
  obtain ⟨k', hk', he⟩ := hvm.2.2 _ _ h3
  have hi : (U.vm.classes.findIdx? fun (x : Class) => match x.kind with | .array component _ => component == comp | _ => false) = some c := by
    rw [hvm.findIdx?_eq _ (fun _ => rfl)]
    exact h2
  have hkind : k'.kind = .array comp (.array .int) := by rw [he]; exact h4
  have f1 : U.vm.findClass (FieldType.array .int).toString = some comp := by rw [hvm.findClass]; exact h1
  have f2 : U.vm.findClass ("[" ++ (FieldType.array .int).toString) = some c := by rw [hvm.findClass]; exact h5
  unfold Cond.before Cond.holds
  simp only [Cond.value]
  rw [f1, Option.bind_some]
  refine (congrArg (fun o : Option Nat => (o.bind (fun c => (U.vm.classes[c]?).map fun (k : Class) => match k.kind with | .array _ ty => decide (ty = FieldType.array .int) && decide (U.vm.findClass ("[" ++ (FieldType.array .int).toString) = some c) | _ => false) == some true)) hi).trans ?_
  simp [hk', hkind, f2]
theorem bw_fw.moved {u U : State} {w : Cond} (hw : w ∈ bw_fw) (hvm : u.vm.Alike U.vm) (h : w.before #[] u = true) : w.before #[] U = true := by
  have hf : bw_fc w = true := (List.mem_filter.mp hw).2
  have hfa : w.faceAtom = true ∧ w.onTables = true := by
    cases w <;> first | exact ⟨rfl, rfl⟩ | (cases hf)
  have h1 := Cond.faceAtom_setVm (args := #[]) hvm w hfa.1 h
  have h2 := Cond.onTables_vm (A := #[]) (A' := #[]) (U := u) (U' := U) U.vm w hfa.2
  rw [h1, State.setVm_self] at h2
  exact h2.symm
theorem bw_fw.use {U : State} {w : Cond} {args : Array Value} (hw : w ∈ bw_fw) (h : w.before #[] U = true) : w.before args U = true := by
  have hf : bw_fc w = true := (List.mem_filter.mp hw).2
  have hfa : w.onTables = true := by
    cases w <;> first | rfl | (cases hf)
  have h2 := Cond.onTables_vm (A := #[]) (A' := args) (U := U) (U' := U) U.vm w hfa
  rw [State.setVm_self] at h2
  rw [← h2]
  exact h
theorem bw_gl.warm {g : bw_G} {s U : State} (hW : s.WarmedH U.vm) (h : bw_gl g s) : bw_gl g U := by
  obtain ⟨h1, ⟨h2, h3⟩, ⟨h4, h5⟩, h6, h7, h8, h9, h10, h11, h12, h13⟩ := h
  refine ⟨va_K.moved hW.alike h1, ⟨va_Z.moved hW.alike h2, va_T.moved hW.alike h3⟩, ⟨vx_Zq.moved hW.alike h4, vx_Zq.moved hW.alike h5⟩, fun x hx => ?_, fun x hx => bw_fw.moved hx hW.alike (h7 x hx), fun x hx => va_Nc.moved hW.alike (h8 x hx), va_AO.moved hW.alike h9, va_AO.moved hW.alike h10, bw_AA.moved hW.alike h11, va_X.moved hW.alike h12, h13⟩
  obtain ⟨sa, h⟩ := h6 x hx
  exact ⟨sa, vk_R.warm hW h⟩
theorem bw_gl.same {g : bw_G} {s U : State} (hv : U.vm = s.vm) (h : bw_gl g s) : bw_gl g U := bw_gl.warm (by rw [hv]; exact State.WarmedH.refl s) h
/-- the heap H is as A says -/
def bw_R (g : bw_G) (A : bw_H) (H : Heap) : Prop :=
  H.size = A.1 ∧ bw_lo g ≤ A.1 ∧ (∀ q : Nat, q < bw_lo g → H[q]? = g.2.2.1[q]?) ∧ ∀ (a : Nat) (e : va_E), A.2 a = some e → bw_lo g ≤ a ∧ va_at g.1 vwCl (a, e) H
/-- name, bytes, locals, answer, table of handlers -/
abbrev bw_M : Type := MethodName × ByteArray × Nat × Option FieldType × List (Nat × Nat × Nat × Nat)
abbrev bw_O : Type := Option Value ⊕ String
def bw_q (g : bw_G) (Q : bw_O → bw_H → Prop) : Array Value → State → Outcome → State → Prop := fun _ _ o t => ∃ (v : Option Value) (A : bw_H), o = .returned v ∧ bw_R g A t.heap ∧ Q (.inl v) A
def bw_x (g : bw_G) (Q : bw_O → bw_H → Prop) : String → State → State → Prop := fun E _ t => ∃ A : bw_H, bw_R g A t.heap ∧ Q (.inr E) A
/-- what a walk of the method k stands on -/
def bw_X (g : bw_G) (k : bw_M) (p : Program) (l : Launch) (s : State) (m : MethodId) (args : Array Value) (meth : Method) (c : Code) : Prop :=
  p.tables.exec = Jvm.exec ∧ c.code = k.2.1 ∧ c.maxLocals = k.2.2.1 ∧ meth.sig.returnType = k.2.2.2.1 ∧ s.vm.findClass k.1.cls = some m.cls ∧ (∀ w ∈ bw_uw, w.before args s = true) ∧ meth.locks = false ∧ meth.name = k.1.name ∧
  c.exceptionTable.toList = tableOf k.2.2.2.2 ∧ l.stackTraces = false ∧ bw_gl g s ∧ (bw_lo g ≤ s.heap.size ∧ ∀ q : Nat, q < bw_lo g → s.heap[q]? = g.2.2.1[q]?)
/-- THE JUDGEMENT: method k, at pc, locals lv, operands st, heap A, comes to an end with Q; cu cells and su slots are made so far -/
def bw_W (g : bw_G) (R : Room) (k : bw_M) (Q : bw_O → bw_H → Prop) (cu su pc : Nat) (lv : List (Nat × Value)) (st : List Value) (A : bw_H) : Prop :=
  ∀ (p : Program) (l : Launch) (e : Env) (s : State) (m : MethodId) (args : Array Value) (below : List Frame) (meth : Method) (c : Code) (H : Heap) (locs : List Loc) (ls : Array Slot),
    bw_X g k p l s m args meth c → bw_R g A H → s.heap.size ≤ H.size → (∀ z ∈ locs, bw_lo g ≤ z.base) → lv_has ls k.2.2.1 lv →
    W p l e R s m args below meth c H locs cu su (vx_MQ below (bw_q g Q) (bw_x g Q) args s R.cells R.slots (bw_fr g)) (F0 m pc ls st)
/-- A CONTRACT: method k from arguments av and heap A ends with Q, in the room R -/
def bw_C (g : bw_G) (R : Room) (k : bw_M) (av : List Value) (A : bw_H) (Q : bw_O → bw_H → Prop) : Prop :=
  ∀ l : Launch, l.stackTraces = false → vx_Met l k.1 (.code k.1 k.2.1 k.2.2.1 k.2.2.2.1 :: bw_uw) R (va_Pc av (fun U => bw_gl g U ∧ bw_R g A U.heap)) (bw_q g Q) (bw_x g Q) R.cells R.slots (bw_fr g)
/-- the same of a method with a table of handlers -/
def bw_CH (g : bw_G) (R : Room) (k : bw_M) (av : List Value) (A : bw_H) (Q : bw_O → bw_H → Prop) : Prop :=
  ∀ l : Launch, l.stackTraces = false → vx_Met l k.1 (.codeWith k.1 k.2.1 k.2.2.1 k.2.2.2.1 k.2.2.2.2 :: bw_uw) R (va_Pc av (fun U => bw_gl g U ∧ bw_R g A U.heap)) (bw_q g Q) (bw_x g Q) R.cells R.slots (bw_fr g)
section BWC
variable {g : bw_G} {R : Room} {k : bw_M} {Q : bw_O → bw_H → Prop} {A : bw_H} {av : List Value}
theorem bw_C.of (hy : plainName k.1.cls = true) (hn : (lg_sl av).length ≤ k.2.2.1) (ht : k.2.2.2.2 = []) (body : bw_W g R k Q 0 0 0 (lv_args 0 av) [] A) : bw_C g R k av A Q := by
  intro l htr
  refine vx_ofW hy rfl ?_
  intro p e s m args below meth c s₁ B hml hnt hP
  obtain ⟨rfl, hgl, hR⟩ := hP
  have hts := atoms_spec (ws := .code k.1 k.2.1 k.2.2.1 k.2.2.2.1 :: bw_uw) B.pre
  rw [lg_entry_eq]
  refine body p l e s m _ below meth c s.heap [] _ ⟨B.exec, B.bytes, hml, B.returns, findClass_of_methodNamed B.named, fun w h => hts w (List.mem_cons_of_mem _ h), B.notSynchronized, (name_of_methodNamed B.named B.method).1, ?_, htr, hgl, ⟨by rw [hR.1]; exact hR.2.1, hR.2.2.1⟩⟩ hR (Nat.le_refl _) (fun z h => by cases h) (lv_entry av hn)
  rw [ht]
  have : c.exceptionTable.toList = [] := List.eq_nil_iff_forall_not_mem.mpr fun x hx => hnt x hx
  rw [this]
  rfl
theorem bw_CH.of (hy : plainName k.1.cls = true) (hn : (lg_sl av).length ≤ k.2.2.1) (body : bw_W g R k Q 0 0 0 (lv_args 0 av) [] A) : bw_CH g R k av A Q := by
  intro l htr
  refine vx_ofWH hy rfl ?_
  intro p e s m args below meth c s₁ B hml hP
  obtain ⟨rfl, hgl, hR⟩ := hP
  have hts := atoms_spec (ws := .codeWith k.1 k.2.1 k.2.2.1 k.2.2.2.1 k.2.2.2.2 :: bw_uw) B.pre
  rw [lg_entry_eq]
  exact body p l e s m _ below meth c s.heap [] _ ⟨B.exec, B.bytes, hml, B.returns, findClass_of_methodNamed B.named, fun w h => hts w (List.mem_cons_of_mem _ h), B.notSynchronized, (name_of_methodNamed B.named B.method).1, vx_table (x := k.1) B (hts _ List.mem_cons_self), htr, hgl, ⟨by rw [hR.1]; exact hR.2.1, hR.2.2.1⟩⟩ hR (Nat.le_refl _) (fun z h => by cases h) (lv_entry av hn)
end BWC
/-! locals -/
def bw_lk : List (Nat × Value) → Nat → Option Value
  | [], _ => none
  | (j, v) :: r, i => if j = i then some v else bw_lk r i
theorem bw_lk_mem : ∀ {lv : List (Nat × Value)} {i : Nat} {v : Value}, bw_lk lv i = some v → (i, v) ∈ lv
  | [], _, _, h => by cases h
  | (j, w) :: r, i, v, h => by
    unfold bw_lk at h
    split at h
    · rename_i e
      cases h
      rw [e]
      exact List.mem_cons_self
    · exact List.mem_cons_of_mem _ (bw_lk_mem h)
theorem bw_lk_at {ls : Array Slot} {n : Nat} {lv : List (Nat × Value)} (hv : lv_has ls n lv) {i : Nat} {v : Value} (h : bw_lk lv i = some v) : ls[i]? = some (.val v) := hv.2.2 (i, v) (bw_lk_mem h)
abbrev bw_st (lv : List (Nat × Value)) (i : Nat) (v : Value) : List (Nat × Value) := (i, v) :: lv.filter (fun q => !(q.1 == i) && !(q.1 + 1 == i && q.2.category == 2))
abbrev bw_st2 (lv : List (Nat × Value)) (i : Nat) (v : Value) : List (Nat × Value) := (i, v) :: lv.filter (fun q => !(q.1 == i) && (!(q.1 == i + 1) && !(q.1 + 1 == i && q.2.category == 2)))
/-- fewer locals are told -/
def bw_sub (lv : List (Nat × Value)) : List (Nat × Value) → Prop
  | [] => True
  | (i, v) :: r => bw_lk lv i = some v ∧ bw_sub lv r
theorem bw_sub.mem {lv : List (Nat × Value)} : ∀ {r : List (Nat × Value)}, bw_sub lv r → ∀ q ∈ r, q ∈ lv
  | [], _, q, h => by cases h
  | (i, v) :: r, hs, q, h => by
    rcases List.mem_cons.mp h with e | h
    · rw [e]; exact bw_lk_mem hs.1
    · exact bw_sub.mem hs.2 q h

section BWR
variable {g : bw_G} {R : Room} {k : bw_M} {Q : bw_O → bw_H → Prop} {cu su pc : Nat} {lv : List (Nat × Value)} {st : List Value} {A : bw_H}
set_option linter.unusedVariables false

theorem bw_iconst {n : Int} (v : Int32) (pc' : Nat) (hd : decode k.2.1 pc = .ok (.iconst n, 1)) (hv0 : Int32.ofInt n = v) (hp : pc + 1 = pc') (kk : bw_W g R k Q cu su pc' lv (.int v :: st) A) : bw_W g R k Q cu su pc lv (st) A := by
  intro p l e s m args below meth c H locs ls hX hR hs hl hv
  subst hp
  exact lv_iconst hX.1 hX.2.1 hd hv0 (kk p l e s m args below meth c H locs ls hX hR hs hl hv)

theorem bw_bipush {n : Int} (v : Int32) (pc' : Nat) (hd : decode k.2.1 pc = .ok (.bipush n, 2)) (hv0 : (Int8.ofInt n).toInt32 = v) (hp : pc + 2 = pc') (kk : bw_W g R k Q cu su pc' lv (.int v :: st) A) : bw_W g R k Q cu su pc lv (st) A := by
  intro p l e s m args below meth c H locs ls hX hR hs hl hv
  subst hp
  exact lv_bipush hX.1 hX.2.1 hd hv0 (kk p l e s m args below meth c H locs ls hX hR hs hl hv)

theorem bw_sipush {n : Int} (v : Int32) (pc' : Nat) (hd : decode k.2.1 pc = .ok (.sipush n, 3)) (hv0 : (Int16.ofInt n).toInt32 = v) (hp : pc + 3 = pc') (kk : bw_W g R k Q cu su pc' lv (.int v :: st) A) : bw_W g R k Q cu su pc lv (st) A := by
  intro p l e s m args below meth c H locs ls hX hR hs hl hv
  subst hp
  exact lv_sipush hX.1 hX.2.1 hd hv0 (kk p l e s m args below meth c H locs ls hX hR hs hl hv)

theorem bw_lconst {n : Fin 2} (v : Int64) (pc' : Nat) (hd : decode k.2.1 pc = .ok (.lconst n, 1)) (hv0 : Int64.ofNat (n : Nat) = v) (hp : pc + 1 = pc') (kk : bw_W g R k Q cu su pc' lv (.long v :: st) A) : bw_W g R k Q cu su pc lv (st) A := by
  intro p l e s m args below meth c H locs ls hX hR hs hl hv
  subst hp
  exact lv_lconst hX.1 hX.2.1 hd hv0 (kk p l e s m args below meth c H locs ls hX hR hs hl hv)

theorem bw_null  (pc' : Nat) (hd : decode k.2.1 pc = .ok (.aconst_null, 1)) (hp : pc + 1 = pc') (kk : bw_W g R k Q cu su pc' lv (.null :: st) A) : bw_W g R k Q cu su pc lv (st) A := by
  intro p l e s m args below meth c H locs ls hX hR hs hl hv
  subst hp
  exact lv_null hX.1 hX.2.1 hd (kk p l e s m args below meth c H locs ls hX hR hs hl hv)

theorem bw_ldc {i : Nat} {v : Int32} (pc' : Nat) (hd : decode k.2.1 pc = .ok (.ldc i, 2)) (hc : Cond.constant k.1.cls i v ∈ bw_uw) (hp : pc + 2 = pc') (kk : bw_W g R k Q cu su pc' lv (.int v :: st) A) : bw_W g R k Q cu su pc lv (st) A := by
  intro p l e s m args below meth c H locs ls hX hR hs hl hv
  subst hp
  exact lv_ldc hX.1 hX.2.1 hX.2.2.2.2.1 (hX.2.2.2.2.2.1 _ hc) hd (kk p l e s m args below meth c H locs ls hX hR hs hl hv)

theorem bw_ldcw {i : Nat} {v : Int32} (pc' : Nat) (hd : decode k.2.1 pc = .ok (.ldc_w i, 3)) (hc : Cond.constant k.1.cls i v ∈ bw_uw) (hp : pc + 3 = pc') (kk : bw_W g R k Q cu su pc' lv (.int v :: st) A) : bw_W g R k Q cu su pc lv (st) A := by
  intro p l e s m args below meth c H locs ls hX hR hs hl hv
  subst hp
  exact lv_ldcw hX.1 hX.2.1 hX.2.2.2.2.1 (hX.2.2.2.2.2.1 _ hc) hd (kk p l e s m args below meth c H locs ls hX hR hs hl hv)

theorem bw_ldc2 {i : Nat} {v : Int64} (pc' : Nat) (hd : decode k.2.1 pc = .ok (.ldc2_w i, 3)) (hc : Cond.constantLong k.1.cls i v ∈ bw_uw) (hp : pc + 3 = pc') (kk : bw_W g R k Q cu su pc' lv (.long v :: st) A) : bw_W g R k Q cu su pc lv (st) A := by
  intro p l e s m args below meth c H locs ls hX hR hs hl hv
  subst hp
  exact lv_ldc2 hX.1 hX.2.1 hX.2.2.2.2.1 (hX.2.2.2.2.2.1 _ hc) hd (kk p l e s m args below meth c H locs ls hX hR hs hl hv)

theorem bw_iload_n {i : Fin 4} {x : Int32} (pc' : Nat) (hd : decode k.2.1 pc = .ok (.iload_n i, 1)) (hx : bw_lk lv (i : Nat) = some (.int x)) (hp : pc + 1 = pc') (kk : bw_W g R k Q cu su pc' lv (.int x :: st) A) : bw_W g R k Q cu su pc lv (st) A := by
  intro p l e s m args below meth c H locs ls hX hR hs hl hv
  subst hp
  exact lv_iload_n hX.1 hX.2.1 hd rfl (bw_lk_at hv hx) (kk p l e s m args below meth c H locs ls hX hR hs hl hv)

theorem bw_iload {i : Nat} {x : Int32} (pc' : Nat) (hd : decode k.2.1 pc = .ok (.iload i, 2)) (hx : bw_lk lv i = some (.int x)) (hp : pc + 2 = pc') (kk : bw_W g R k Q cu su pc' lv (.int x :: st) A) : bw_W g R k Q cu su pc lv (st) A := by
  intro p l e s m args below meth c H locs ls hX hR hs hl hv
  subst hp
  exact lv_iload hX.1 hX.2.1 hd (bw_lk_at hv hx) (kk p l e s m args below meth c H locs ls hX hR hs hl hv)

theorem bw_lload_n {i : Fin 4} {x : Int64} (pc' : Nat) (hd : decode k.2.1 pc = .ok (.lload_n i, 1)) (hx : bw_lk lv (i : Nat) = some (.long x)) (hp : pc + 1 = pc') (kk : bw_W g R k Q cu su pc' lv (.long x :: st) A) : bw_W g R k Q cu su pc lv (st) A := by
  intro p l e s m args below meth c H locs ls hX hR hs hl hv
  subst hp
  exact lv_lload_n hX.1 hX.2.1 hd rfl (bw_lk_at hv hx) (kk p l e s m args below meth c H locs ls hX hR hs hl hv)

theorem bw_lload {i : Nat} {x : Int64} (pc' : Nat) (hd : decode k.2.1 pc = .ok (.lload i, 2)) (hx : bw_lk lv i = some (.long x)) (hp : pc + 2 = pc') (kk : bw_W g R k Q cu su pc' lv (.long x :: st) A) : bw_W g R k Q cu su pc lv (st) A := by
  intro p l e s m args below meth c H locs ls hX hR hs hl hv
  subst hp
  exact lv_lload hX.1 hX.2.1 hd (bw_lk_at hv hx) (kk p l e s m args below meth c H locs ls hX hR hs hl hv)

theorem bw_aload_n {i : Fin 4} {x : Nat} (pc' : Nat) (hd : decode k.2.1 pc = .ok (.aload_n i, 1)) (hx : bw_lk lv (i : Nat) = some (.ref x)) (hp : pc + 1 = pc') (kk : bw_W g R k Q cu su pc' lv (.ref x :: st) A) : bw_W g R k Q cu su pc lv (st) A := by
  intro p l e s m args below meth c H locs ls hX hR hs hl hv
  subst hp
  exact lv_aload_n hX.1 hX.2.1 hd rfl (bw_lk_at hv hx) (kk p l e s m args below meth c H locs ls hX hR hs hl hv)

theorem bw_aload {i : Nat} {x : Nat} (pc' : Nat) (hd : decode k.2.1 pc = .ok (.aload i, 2)) (hx : bw_lk lv i = some (.ref x)) (hp : pc + 2 = pc') (kk : bw_W g R k Q cu su pc' lv (.ref x :: st) A) : bw_W g R k Q cu su pc lv (st) A := by
  intro p l e s m args below meth c H locs ls hX hR hs hl hv
  subst hp
  exact lv_aload hX.1 hX.2.1 hd (bw_lk_at hv hx) (kk p l e s m args below meth c H locs ls hX hR hs hl hv)

theorem bw_aloadN_n {i : Fin 4} (pc' : Nat) (hd : decode k.2.1 pc = .ok (.aload_n i, 1)) (hx : bw_lk lv (i : Nat) = some .null) (hp : pc + 1 = pc') (kk : bw_W g R k Q cu su pc' lv (.null :: st) A) : bw_W g R k Q cu su pc lv (st) A := by
  intro p l e s m args below meth c H locs ls hX hR hs hl hv
  subst hp
  exact lv_aload_nN hX.1 hX.2.1 hd rfl (bw_lk_at hv hx) (kk p l e s m args below meth c H locs ls hX hR hs hl hv)

theorem bw_aloadN {i : Nat} (pc' : Nat) (hd : decode k.2.1 pc = .ok (.aload i, 2)) (hx : bw_lk lv i = some .null) (hp : pc + 2 = pc') (kk : bw_W g R k Q cu su pc' lv (.null :: st) A) : bw_W g R k Q cu su pc lv (st) A := by
  intro p l e s m args below meth c H locs ls hX hR hs hl hv
  subst hp
  exact lv_aloadN hX.1 hX.2.1 hd (bw_lk_at hv hx) (kk p l e s m args below meth c H locs ls hX hR hs hl hv)

theorem bw_istore_n {i : Fin 4} {x : Int32} (pc' : Nat) (hd : decode k.2.1 pc = .ok (.istore_n i, 1)) (hp : pc + 1 = pc') (hn : (i : Nat) < k.2.2.1) (kk : bw_W g R k Q cu su pc' (bw_st lv (i : Nat) (.int x)) st A) : bw_W g R k Q cu su pc lv (.int x :: st) A := by
  intro p l e s m args below meth c H locs ls hX hR hs hl hv
  subst hp
  exact lv_istore_n hX.1 hX.2.1 hd rfl hv hn rfl (fun ls hv => kk p l e s m args below meth c H locs ls hX hR hs hl hv)

theorem bw_istore {i : Nat} {x : Int32} (pc' : Nat) (hd : decode k.2.1 pc = .ok (.istore i, 2)) (hp : pc + 2 = pc') (hn : (i : Nat) < k.2.2.1) (kk : bw_W g R k Q cu su pc' (bw_st lv i (.int x)) st A) : bw_W g R k Q cu su pc lv (.int x :: st) A := by
  intro p l e s m args below meth c H locs ls hX hR hs hl hv
  subst hp
  exact lv_istore hX.1 hX.2.1 hd  hv hn rfl (fun ls hv => kk p l e s m args below meth c H locs ls hX hR hs hl hv)

theorem bw_astore_n {i : Fin 4} {x : Nat} (pc' : Nat) (hd : decode k.2.1 pc = .ok (.astore_n i, 1)) (hp : pc + 1 = pc') (hn : (i : Nat) < k.2.2.1) (kk : bw_W g R k Q cu su pc' (bw_st lv (i : Nat) (.ref x)) st A) : bw_W g R k Q cu su pc lv (.ref x :: st) A := by
  intro p l e s m args below meth c H locs ls hX hR hs hl hv
  subst hp
  exact lv_astore_n hX.1 hX.2.1 hd rfl hv hn rfl (fun ls hv => kk p l e s m args below meth c H locs ls hX hR hs hl hv)

theorem bw_astore {i : Nat} {x : Nat} (pc' : Nat) (hd : decode k.2.1 pc = .ok (.astore i, 2)) (hp : pc + 2 = pc') (hn : (i : Nat) < k.2.2.1) (kk : bw_W g R k Q cu su pc' (bw_st lv i (.ref x)) st A) : bw_W g R k Q cu su pc lv (.ref x :: st) A := by
  intro p l e s m args below meth c H locs ls hX hR hs hl hv
  subst hp
  exact lv_astore hX.1 hX.2.1 hd  hv hn rfl (fun ls hv => kk p l e s m args below meth c H locs ls hX hR hs hl hv)

theorem bw_astoreN_n {i : Fin 4} (pc' : Nat) (hd : decode k.2.1 pc = .ok (.astore_n i, 1)) (hp : pc + 1 = pc') (hn : (i : Nat) < k.2.2.1) (kk : bw_W g R k Q cu su pc' (bw_st lv (i : Nat) .null) st A) : bw_W g R k Q cu su pc lv (.null :: st) A := by
  intro p l e s m args below meth c H locs ls hX hR hs hl hv
  subst hp
  exact lv_astore_nN hX.1 hX.2.1 hd rfl hv hn rfl (fun ls hv => kk p l e s m args below meth c H locs ls hX hR hs hl hv)

theorem bw_astoreN {i : Nat} (pc' : Nat) (hd : decode k.2.1 pc = .ok (.astore i, 2)) (hp : pc + 2 = pc') (hn : (i : Nat) < k.2.2.1) (kk : bw_W g R k Q cu su pc' (bw_st lv i .null) st A) : bw_W g R k Q cu su pc lv (.null :: st) A := by
  intro p l e s m args below meth c H locs ls hX hR hs hl hv
  subst hp
  exact lv_astoreN hX.1 hX.2.1 hd  hv hn rfl (fun ls hv => kk p l e s m args below meth c H locs ls hX hR hs hl hv)

theorem bw_lstore {i : Nat} {x : Int64} (pc' : Nat) (hd : decode k.2.1 pc = .ok (.lstore i, 2)) (hp : pc + 2 = pc') (hn : (i : Nat) + 1 < k.2.2.1) (kk : bw_W g R k Q cu su pc' (bw_st2 lv i (.long x)) st A) : bw_W g R k Q cu su pc lv (.long x :: st) A := by
  intro p l e s m args below meth c H locs ls hX hR hs hl hv
  subst hp
  exact lv_lstore hX.1 hX.2.1 hd  hv hn rfl (fun ls hv => kk p l e s m args below meth c H locs ls hX hR hs hl hv)

theorem bw_lstore_n {i : Fin 4} {x : Int64} (pc' : Nat) (hd : decode k.2.1 pc = .ok (.lstore_n i, 1)) (hp : pc + 1 = pc') (hn : (i : Nat) + 1 < k.2.2.1) (kk : bw_W g R k Q cu su pc' (bw_st2 lv (i : Nat) (.long x)) st A) : bw_W g R k Q cu su pc lv (.long x :: st) A := by
  intro p l e s m args below meth c H locs ls hX hR hs hl hv
  subst hp
  exact lv_lstore_n hX.1 hX.2.1 hd rfl hv hn rfl (fun ls hv => kk p l e s m args below meth c H locs ls hX hR hs hl hv)

theorem bw_iinc {i : Nat} {n : Int} {x : Int32} (v : Int32) (pc' : Nat) (hd : decode k.2.1 pc = .ok (.iinc i n, 3)) (hp : pc + 3 = pc') (hx : bw_lk lv i = some (.int x)) (hv0 : x + Int32.ofInt n = v) (hn : i < k.2.2.1) (kk : bw_W g R k Q cu su pc' (bw_st lv i (.int v)) st A) : bw_W g R k Q cu su pc lv st A := by
  intro p l e s m args below meth c H locs ls hX hR hs hl hv
  subst hp
  obtain ⟨j, hj⟩ := List.getElem?_of_mem (bw_lk_mem hx)
  exact lv_iinc hX.1 hX.2.1 hd hv hj hv0 hn rfl (fun ls hv => kk p l e s m args below meth c H locs ls hX hR hs hl hv)

theorem bw_iadd {x y : Int32} (pc' : Nat) (hd : decode k.2.1 pc = .ok (.iadd, 1)) (hp : pc + 1 = pc') (kk : bw_W g R k Q cu su pc' lv (.int (x + y) :: st) A) : bw_W g R k Q cu su pc lv (.int y :: .int x :: st) A := by
  intro p l e s m args below meth c H locs ls hX hR hs hl hv
  subst hp
  exact lv_iadd hX.1 hX.2.1 hd (kk p l e s m args below meth c H locs ls hX hR hs hl hv)

theorem bw_isub {x y : Int32} (pc' : Nat) (hd : decode k.2.1 pc = .ok (.isub, 1)) (hp : pc + 1 = pc') (kk : bw_W g R k Q cu su pc' lv (.int (x - y) :: st) A) : bw_W g R k Q cu su pc lv (.int y :: .int x :: st) A := by
  intro p l e s m args below meth c H locs ls hX hR hs hl hv
  subst hp
  exact lv_isub hX.1 hX.2.1 hd (kk p l e s m args below meth c H locs ls hX hR hs hl hv)

theorem bw_imul {x y : Int32} (pc' : Nat) (hd : decode k.2.1 pc = .ok (.imul, 1)) (hp : pc + 1 = pc') (kk : bw_W g R k Q cu su pc' lv (.int (x * y) :: st) A) : bw_W g R k Q cu su pc lv (.int y :: .int x :: st) A := by
  intro p l e s m args below meth c H locs ls hX hR hs hl hv
  subst hp
  exact lv_imul hX.1 hX.2.1 hd (kk p l e s m args below meth c H locs ls hX hR hs hl hv)

theorem bw_iand {x y : Int32} (pc' : Nat) (hd : decode k.2.1 pc = .ok (.iand, 1)) (hp : pc + 1 = pc') (kk : bw_W g R k Q cu su pc' lv (.int (x &&& y) :: st) A) : bw_W g R k Q cu su pc lv (.int y :: .int x :: st) A := by
  intro p l e s m args below meth c H locs ls hX hR hs hl hv
  subst hp
  exact lv_iand hX.1 hX.2.1 hd (kk p l e s m args below meth c H locs ls hX hR hs hl hv)

theorem bw_ior {x y : Int32} (pc' : Nat) (hd : decode k.2.1 pc = .ok (.ior, 1)) (hp : pc + 1 = pc') (kk : bw_W g R k Q cu su pc' lv (.int (x ||| y) :: st) A) : bw_W g R k Q cu su pc lv (.int y :: .int x :: st) A := by
  intro p l e s m args below meth c H locs ls hX hR hs hl hv
  subst hp
  exact lv_ior hX.1 hX.2.1 hd (kk p l e s m args below meth c H locs ls hX hR hs hl hv)

theorem bw_ixor {x y : Int32} (pc' : Nat) (hd : decode k.2.1 pc = .ok (.ixor, 1)) (hp : pc + 1 = pc') (kk : bw_W g R k Q cu su pc' lv (.int (x ^^^ y) :: st) A) : bw_W g R k Q cu su pc lv (.int y :: .int x :: st) A := by
  intro p l e s m args below meth c H locs ls hX hR hs hl hv
  subst hp
  exact lv_ixor hX.1 hX.2.1 hd (kk p l e s m args below meth c H locs ls hX hR hs hl hv)

theorem bw_ishl {x y : Int32} (pc' : Nat) (hd : decode k.2.1 pc = .ok (.ishl, 1)) (hp : pc + 1 = pc') (kk : bw_W g R k Q cu su pc' lv (.int (x <<< (y &&& 31)) :: st) A) : bw_W g R k Q cu su pc lv (.int y :: .int x :: st) A := by
  intro p l e s m args below meth c H locs ls hX hR hs hl hv
  subst hp
  exact lv_ishl hX.1 hX.2.1 hd (kk p l e s m args below meth c H locs ls hX hR hs hl hv)

theorem bw_ishr {x y : Int32} (pc' : Nat) (hd : decode k.2.1 pc = .ok (.ishr, 1)) (hp : pc + 1 = pc') (kk : bw_W g R k Q cu su pc' lv (.int (x >>> (y &&& 31)) :: st) A) : bw_W g R k Q cu su pc lv (.int y :: .int x :: st) A := by
  intro p l e s m args below meth c H locs ls hX hR hs hl hv
  subst hp
  exact lv_ishr hX.1 hX.2.1 hd (kk p l e s m args below meth c H locs ls hX hR hs hl hv)

theorem bw_iushr {x y : Int32} (pc' : Nat) (hd : decode k.2.1 pc = .ok (.iushr, 1)) (hp : pc + 1 = pc') (kk : bw_W g R k Q cu su pc' lv (.int ((x.toUInt32 >>> (y.toUInt32 &&& Int32.toUInt32 31)).toInt32) :: st) A) : bw_W g R k Q cu su pc lv (.int y :: .int x :: st) A := by
  intro p l e s m args below meth c H locs ls hX hR hs hl hv
  subst hp
  exact lv_iushr hX.1 hX.2.1 hd rfl (kk p l e s m args below meth c H locs ls hX hR hs hl hv)

theorem bw_idiv {x y : Int32} (pc' : Nat) (hd : decode k.2.1 pc = .ok (.idiv, 1)) (h0 : ¬ y = 0) (hp : pc + 1 = pc') (kk : bw_W g R k Q cu su pc' lv (.int (x / y) :: st) A) : bw_W g R k Q cu su pc lv (.int y :: .int x :: st) A := by
  intro p l e s m args below meth c H locs ls hX hR hs hl hv
  subst hp
  exact lv_idiv hX.1 hX.2.1 hd h0 (kk p l e s m args below meth c H locs ls hX hR hs hl hv)

theorem bw_irem {x y : Int32} (pc' : Nat) (hd : decode k.2.1 pc = .ok (.irem, 1)) (h0 : ¬ y = 0) (hp : pc + 1 = pc') (kk : bw_W g R k Q cu su pc' lv (.int (x - x / y * y) :: st) A) : bw_W g R k Q cu su pc lv (.int y :: .int x :: st) A := by
  intro p l e s m args below meth c H locs ls hX hR hs hl hv
  subst hp
  exact lv_irem hX.1 hX.2.1 hd h0 (kk p l e s m args below meth c H locs ls hX hR hs hl hv)

theorem bw_lrem {x y : Int64} (pc' : Nat) (hd : decode k.2.1 pc = .ok (.lrem, 1)) (h0 : ¬ y = 0) (hp : pc + 1 = pc') (kk : bw_W g R k Q cu su pc' lv (.long (x - x / y * y) :: st) A) : bw_W g R k Q cu su pc lv (.long y :: .long x :: st) A := by
  intro p l e s m args below meth c H locs ls hX hR hs hl hv
  subst hp
  exact lv_lrem hX.1 hX.2.1 hd h0 (kk p l e s m args below meth c H locs ls hX hR hs hl hv)

theorem bw_ladd {x y : Int64} (pc' : Nat) (hd : decode k.2.1 pc = .ok (.ladd, 1)) (hp : pc + 1 = pc') (kk : bw_W g R k Q cu su pc' lv (.long (x + y) :: st) A) : bw_W g R k Q cu su pc lv (.long y :: .long x :: st) A := by
  intro p l e s m args below meth c H locs ls hX hR hs hl hv
  subst hp
  exact lv_ladd hX.1 hX.2.1 hd (kk p l e s m args below meth c H locs ls hX hR hs hl hv)

theorem bw_lsub {x y : Int64} (pc' : Nat) (hd : decode k.2.1 pc = .ok (.lsub, 1)) (hp : pc + 1 = pc') (kk : bw_W g R k Q cu su pc' lv (.long (x - y) :: st) A) : bw_W g R k Q cu su pc lv (.long y :: .long x :: st) A := by
  intro p l e s m args below meth c H locs ls hX hR hs hl hv
  subst hp
  exact lv_lsub hX.1 hX.2.1 hd (kk p l e s m args below meth c H locs ls hX hR hs hl hv)

theorem bw_lmul {x y : Int64} (pc' : Nat) (hd : decode k.2.1 pc = .ok (.lmul, 1)) (hp : pc + 1 = pc') (kk : bw_W g R k Q cu su pc' lv (.long (x * y) :: st) A) : bw_W g R k Q cu su pc lv (.long y :: .long x :: st) A := by
  intro p l e s m args below meth c H locs ls hX hR hs hl hv
  subst hp
  exact lv_lmul hX.1 hX.2.1 hd (kk p l e s m args below meth c H locs ls hX hR hs hl hv)

theorem bw_land {x y : Int64} (pc' : Nat) (hd : decode k.2.1 pc = .ok (.land, 1)) (hp : pc + 1 = pc') (kk : bw_W g R k Q cu su pc' lv (.long (x &&& y) :: st) A) : bw_W g R k Q cu su pc lv (.long y :: .long x :: st) A := by
  intro p l e s m args below meth c H locs ls hX hR hs hl hv
  subst hp
  exact lv_land hX.1 hX.2.1 hd (kk p l e s m args below meth c H locs ls hX hR hs hl hv)

theorem bw_lor {x y : Int64} (pc' : Nat) (hd : decode k.2.1 pc = .ok (.lor, 1)) (hp : pc + 1 = pc') (kk : bw_W g R k Q cu su pc' lv (.long (x ||| y) :: st) A) : bw_W g R k Q cu su pc lv (.long y :: .long x :: st) A := by
  intro p l e s m args below meth c H locs ls hX hR hs hl hv
  subst hp
  exact lv_lor hX.1 hX.2.1 hd (kk p l e s m args below meth c H locs ls hX hR hs hl hv)

theorem bw_lshl {x : Int64} {y : Int32} (pc' : Nat) (hd : decode k.2.1 pc = .ok (.lshl, 1)) (hp : pc + 1 = pc') (kk : bw_W g R k Q cu su pc' lv (.long (x <<< (y.toInt64 &&& 63)) :: st) A) : bw_W g R k Q cu su pc lv (.int y :: .long x :: st) A := by
  intro p l e s m args below meth c H locs ls hX hR hs hl hv
  subst hp
  exact lv_lshl hX.1 hX.2.1 hd rfl (kk p l e s m args below meth c H locs ls hX hR hs hl hv)

theorem bw_i2l {x : Int32} (pc' : Nat) (hd : decode k.2.1 pc = .ok (.i2l, 1)) (hp : pc + 1 = pc') (kk : bw_W g R k Q cu su pc' lv (.long x.toInt64 :: st) A) : bw_W g R k Q cu su pc lv (.int x :: st) A := by
  intro p l e s m args below meth c H locs ls hX hR hs hl hv
  subst hp
  exact lv_i2l hX.1 hX.2.1 hd rfl (kk p l e s m args below meth c H locs ls hX hR hs hl hv)

theorem bw_l2i {x : Int64} (pc' : Nat) (hd : decode k.2.1 pc = .ok (.l2i, 1)) (hp : pc + 1 = pc') (kk : bw_W g R k Q cu su pc' lv (.int x.toInt32 :: st) A) : bw_W g R k Q cu su pc lv (.long x :: st) A := by
  intro p l e s m args below meth c H locs ls hX hR hs hl hv
  subst hp
  exact lv_l2i hX.1 hX.2.1 hd rfl (kk p l e s m args below meth c H locs ls hX hR hs hl hv)

theorem bw_lcmp {x y : Int64} (pc' : Nat) (hd : decode k.2.1 pc = .ok (.lcmp, 1)) (hp : pc + 1 = pc') (kk : bw_W g R k Q cu su pc' lv (.int (lg_cmp x y) :: st) A) : bw_W g R k Q cu su pc lv (.long y :: .long x :: st) A := by
  intro p l e s m args below meth c H locs ls hX hR hs hl hv
  subst hp
  exact W.lcmp hX.1 hX.2.1 hd (kk p l e s m args below meth c H locs ls hX hR hs hl hv)

theorem bw_dup {v : Value} (pc' : Nat) (hd : decode k.2.1 pc = .ok (.dup, 1)) (hc : v.category = 1) (hp : pc + 1 = pc') (kk : bw_W g R k Q cu su pc' lv (v :: v :: st) A) : bw_W g R k Q cu su pc lv (v :: st) A := by
  intro p l e s m args below meth c H locs ls hX hR hs hl hv
  subst hp
  exact lv_dup hX.1 hX.2.1 hd hc (kk p l e s m args below meth c H locs ls hX hR hs hl hv)

theorem bw_dup2 {v w : Value} (pc' : Nat) (hd : decode k.2.1 pc = .ok (.dup2, 1)) (hc : v.category = 1) (hc2 : w.category = 1) (hp : pc + 1 = pc') (kk : bw_W g R k Q cu su pc' lv (v :: w :: v :: w :: st) A) : bw_W g R k Q cu su pc lv (v :: w :: st) A := by
  intro p l e s m args below meth c H locs ls hX hR hs hl hv
  subst hp
  exact lv_dup2_11 hX.1 hX.2.1 hd hc hc2 (kk p l e s m args below meth c H locs ls hX hR hs hl hv)

theorem bw_if_eq {x : Int32} {off : Int} (tgt pc' : Nat) (hd : decode k.2.1 pc = .ok (.ifCond .eq off, 3)) (ht : (pc : Int) + off = (tgt : Int)) (hp : pc + 3 = pc') (kt : x = 0 → bw_W g R k Q cu su tgt lv st A) (kf : ¬ (x = 0) → bw_W g R k Q cu su pc' lv st A) : bw_W g R k Q cu su pc lv (.int x :: st) A := by
  intro p l e s m args below meth c H locs ls hX hR hs hl hv
  subst hp
  exact lv_if_eq hX.1 hX.2.1 hd ht (fun hb => kt hb p l e s m args below meth c H locs ls hX hR hs hl hv) (fun hb => kf hb p l e s m args below meth c H locs ls hX hR hs hl hv)

theorem bw_if_ne {x : Int32} {off : Int} (tgt pc' : Nat) (hd : decode k.2.1 pc = .ok (.ifCond .ne off, 3)) (ht : (pc : Int) + off = (tgt : Int)) (hp : pc + 3 = pc') (kt : ¬ x = 0 → bw_W g R k Q cu su tgt lv st A) (kf : x = 0 → bw_W g R k Q cu su pc' lv st A) : bw_W g R k Q cu su pc lv (.int x :: st) A := by
  intro p l e s m args below meth c H locs ls hX hR hs hl hv
  subst hp
  exact lv_if_ne hX.1 hX.2.1 hd ht (fun hb => kt hb p l e s m args below meth c H locs ls hX hR hs hl hv) (fun hb => kf hb p l e s m args below meth c H locs ls hX hR hs hl hv)

theorem bw_if_lt {x : Int32} {off : Int} (tgt pc' : Nat) (hd : decode k.2.1 pc = .ok (.ifCond .lt off, 3)) (ht : (pc : Int) + off = (tgt : Int)) (hp : pc + 3 = pc') (kt : x < 0 → bw_W g R k Q cu su tgt lv st A) (kf : ¬ (x < 0) → bw_W g R k Q cu su pc' lv st A) : bw_W g R k Q cu su pc lv (.int x :: st) A := by
  intro p l e s m args below meth c H locs ls hX hR hs hl hv
  subst hp
  exact lv_if_lt hX.1 hX.2.1 hd ht (fun hb => kt hb p l e s m args below meth c H locs ls hX hR hs hl hv) (fun hb => kf hb p l e s m args below meth c H locs ls hX hR hs hl hv)

theorem bw_if_ge {x : Int32} {off : Int} (tgt pc' : Nat) (hd : decode k.2.1 pc = .ok (.ifCond .ge off, 3)) (ht : (pc : Int) + off = (tgt : Int)) (hp : pc + 3 = pc') (kt : 0 ≤ x → bw_W g R k Q cu su tgt lv st A) (kf : ¬ (0 ≤ x) → bw_W g R k Q cu su pc' lv st A) : bw_W g R k Q cu su pc lv (.int x :: st) A := by
  intro p l e s m args below meth c H locs ls hX hR hs hl hv
  subst hp
  exact lv_if_ge hX.1 hX.2.1 hd ht (fun hb => kt hb p l e s m args below meth c H locs ls hX hR hs hl hv) (fun hb => kf hb p l e s m args below meth c H locs ls hX hR hs hl hv)

theorem bw_if_gt {x : Int32} {off : Int} (tgt pc' : Nat) (hd : decode k.2.1 pc = .ok (.ifCond .gt off, 3)) (ht : (pc : Int) + off = (tgt : Int)) (hp : pc + 3 = pc') (kt : 0 < x → bw_W g R k Q cu su tgt lv st A) (kf : ¬ (0 < x) → bw_W g R k Q cu su pc' lv st A) : bw_W g R k Q cu su pc lv (.int x :: st) A := by
  intro p l e s m args below meth c H locs ls hX hR hs hl hv
  subst hp
  exact lv_if_gt hX.1 hX.2.1 hd ht (fun hb => kt hb p l e s m args below meth c H locs ls hX hR hs hl hv) (fun hb => kf hb p l e s m args below meth c H locs ls hX hR hs hl hv)

theorem bw_if_le {x : Int32} {off : Int} (tgt pc' : Nat) (hd : decode k.2.1 pc = .ok (.ifCond .le off, 3)) (ht : (pc : Int) + off = (tgt : Int)) (hp : pc + 3 = pc') (kt : x ≤ 0 → bw_W g R k Q cu su tgt lv st A) (kf : ¬ (x ≤ 0) → bw_W g R k Q cu su pc' lv st A) : bw_W g R k Q cu su pc lv (.int x :: st) A := by
  intro p l e s m args below meth c H locs ls hX hR hs hl hv
  subst hp
  exact lv_if_le hX.1 hX.2.1 hd ht (fun hb => kt hb p l e s m args below meth c H locs ls hX hR hs hl hv) (fun hb => kf hb p l e s m args below meth c H locs ls hX hR hs hl hv)

theorem bw_icmp_eq {x y : Int32} {off : Int} (tgt pc' : Nat) (hd : decode k.2.1 pc = .ok (.if_icmp .eq off, 3)) (ht : (pc : Int) + off = (tgt : Int)) (hp : pc + 3 = pc') (kt : x = y → bw_W g R k Q cu su tgt lv st A) (kf : ¬ (x = y) → bw_W g R k Q cu su pc' lv st A) : bw_W g R k Q cu su pc lv (.int y :: .int x :: st) A := by
  intro p l e s m args below meth c H locs ls hX hR hs hl hv
  subst hp
  exact lv_icmp_eq hX.1 hX.2.1 hd ht (fun hb => kt hb p l e s m args below meth c H locs ls hX hR hs hl hv) (fun hb => kf hb p l e s m args below meth c H locs ls hX hR hs hl hv)

theorem bw_icmp_ne {x y : Int32} {off : Int} (tgt pc' : Nat) (hd : decode k.2.1 pc = .ok (.if_icmp .ne off, 3)) (ht : (pc : Int) + off = (tgt : Int)) (hp : pc + 3 = pc') (kt : ¬ x = y → bw_W g R k Q cu su tgt lv st A) (kf : x = y → bw_W g R k Q cu su pc' lv st A) : bw_W g R k Q cu su pc lv (.int y :: .int x :: st) A := by
  intro p l e s m args below meth c H locs ls hX hR hs hl hv
  subst hp
  exact lv_icmp_ne hX.1 hX.2.1 hd ht (fun hb => kt hb p l e s m args below meth c H locs ls hX hR hs hl hv) (fun hb => kf hb p l e s m args below meth c H locs ls hX hR hs hl hv)

theorem bw_icmp_lt {x y : Int32} {off : Int} (tgt pc' : Nat) (hd : decode k.2.1 pc = .ok (.if_icmp .lt off, 3)) (ht : (pc : Int) + off = (tgt : Int)) (hp : pc + 3 = pc') (kt : x < y → bw_W g R k Q cu su tgt lv st A) (kf : ¬ (x < y) → bw_W g R k Q cu su pc' lv st A) : bw_W g R k Q cu su pc lv (.int y :: .int x :: st) A := by
  intro p l e s m args below meth c H locs ls hX hR hs hl hv
  subst hp
  exact lv_icmp_lt hX.1 hX.2.1 hd ht (fun hb => kt hb p l e s m args below meth c H locs ls hX hR hs hl hv) (fun hb => kf hb p l e s m args below meth c H locs ls hX hR hs hl hv)

theorem bw_icmp_ge {x y : Int32} {off : Int} (tgt pc' : Nat) (hd : decode k.2.1 pc = .ok (.if_icmp .ge off, 3)) (ht : (pc : Int) + off = (tgt : Int)) (hp : pc + 3 = pc') (kt : y ≤ x → bw_W g R k Q cu su tgt lv st A) (kf : ¬ (y ≤ x) → bw_W g R k Q cu su pc' lv st A) : bw_W g R k Q cu su pc lv (.int y :: .int x :: st) A := by
  intro p l e s m args below meth c H locs ls hX hR hs hl hv
  subst hp
  exact lv_icmp_ge hX.1 hX.2.1 hd ht (fun hb => kt hb p l e s m args below meth c H locs ls hX hR hs hl hv) (fun hb => kf hb p l e s m args below meth c H locs ls hX hR hs hl hv)

theorem bw_icmp_gt {x y : Int32} {off : Int} (tgt pc' : Nat) (hd : decode k.2.1 pc = .ok (.if_icmp .gt off, 3)) (ht : (pc : Int) + off = (tgt : Int)) (hp : pc + 3 = pc') (kt : y < x → bw_W g R k Q cu su tgt lv st A) (kf : ¬ (y < x) → bw_W g R k Q cu su pc' lv st A) : bw_W g R k Q cu su pc lv (.int y :: .int x :: st) A := by
  intro p l e s m args below meth c H locs ls hX hR hs hl hv
  subst hp
  exact lv_icmp_gt hX.1 hX.2.1 hd ht (fun hb => kt hb p l e s m args below meth c H locs ls hX hR hs hl hv) (fun hb => kf hb p l e s m args below meth c H locs ls hX hR hs hl hv)

theorem bw_icmp_le {x y : Int32} {off : Int} (tgt pc' : Nat) (hd : decode k.2.1 pc = .ok (.if_icmp .le off, 3)) (ht : (pc : Int) + off = (tgt : Int)) (hp : pc + 3 = pc') (kt : x ≤ y → bw_W g R k Q cu su tgt lv st A) (kf : ¬ (x ≤ y) → bw_W g R k Q cu su pc' lv st A) : bw_W g R k Q cu su pc lv (.int y :: .int x :: st) A := by
  intro p l e s m args below meth c H locs ls hX hR hs hl hv
  subst hp
  exact lv_icmp_le hX.1 hX.2.1 hd ht (fun hb => kt hb p l e s m args below meth c H locs ls hX hR hs hl hv) (fun hb => kf hb p l e s m args below meth c H locs ls hX hR hs hl hv)

theorem bw_goto {off : Int} (tgt : Nat) (hd : decode k.2.1 pc = .ok (.goto off, 3)) (ht : (pc : Int) + off = (tgt : Int)) (kk : bw_W g R k Q cu su tgt lv st A) : bw_W g R k Q cu su pc lv st A := by
  intro p l e s m args below meth c H locs ls hX hR hs hl hv
  exact lv_goto hX.1 hX.2.1 hd ht (kk p l e s m args below meth c H locs ls hX hR hs hl hv)

theorem bw_ifnonnull {x : Nat} {off : Int} (tgt : Nat) (hd : decode k.2.1 pc = .ok (.ifnonnull off, 3)) (ht : (pc : Int) + off = (tgt : Int)) (kk : bw_W g R k Q cu su tgt lv st A) : bw_W g R k Q cu su pc lv (.ref x :: st) A := by
  intro p l e s m args below meth c H locs ls hX hR hs hl hv
  exact lv_ifnonnull hX.1 hX.2.1 hd ht (kk p l e s m args below meth c H locs ls hX hR hs hl hv)

theorem bw_ifnonnullN {off : Int} (pc' : Nat) (hd : decode k.2.1 pc = .ok (.ifnonnull off, 3)) (hp : pc + 3 = pc') (kk : bw_W g R k Q cu su pc' lv st A) : bw_W g R k Q cu su pc lv (.null :: st) A := by
  intro p l e s m args below meth c H locs ls hX hR hs hl hv
  subst hp
  exact lv_ifnonnullN hX.1 hX.2.1 hd (kk p l e s m args below meth c H locs ls hX hR hs hl hv)

theorem bw_acmp_eq {x y : Nat} {off : Int} (tgt pc' : Nat) (hd : decode k.2.1 pc = .ok (.if_acmp .eq off, 3)) (ht : (pc : Int) + off = (tgt : Int)) (hp : pc + 3 = pc') (kt : x = y → bw_W g R k Q cu su tgt lv st A) (kf : ¬ x = y → bw_W g R k Q cu su pc' lv st A) : bw_W g R k Q cu su pc lv (.ref y :: .ref x :: st) A := by
  intro p l e s m args below meth c H locs ls hX hR hs hl hv
  subst hp
  exact lv_acmp_eq (rx := some x) (ry := some y) hX.1 hX.2.1 hd ht (fun hb => kt (Option.some.inj hb) p l e s m args below meth c H locs ls hX hR hs hl hv) (fun hb => kf (fun h => hb (by rw [h])) p l e s m args below meth c H locs ls hX hR hs hl hv)

theorem bw_tsOut {x : Int32} {dflt lo hi : Int} {offs : Array Int} {len : Nat} (tgt : Nat) (hd : decode k.2.1 pc = .ok (.tableswitch dflt lo hi offs, len)) (h : x.toInt < lo ∨ hi < x.toInt) (ht : (pc : Int) + dflt = (tgt : Int)) (kk : bw_W g R k Q cu su tgt lv st A) : bw_W g R k Q cu su pc lv (.int x :: st) A := by
  intro p l e s m args below meth c H locs ls hX hR hs hl hv
  exact lv_tableOut hX.1 hX.2.1 hd h ht (kk p l e s m args below meth c H locs ls hX hR hs hl hv)

theorem bw_tsIn {x : Int32} {dflt lo hi off : Int} {offs : Array Int} {len : Nat} (tgt : Nat) (hd : decode k.2.1 pc = .ok (.tableswitch dflt lo hi offs, len)) (h1 : ¬ x.toInt < lo) (h2 : ¬ hi < x.toInt) (ho : offs[(x.toInt - lo).toNat]? = some off) (ht : (pc : Int) + off = (tgt : Int)) (kk : bw_W g R k Q cu su tgt lv st A) : bw_W g R k Q cu su pc lv (.int x :: st) A := by
  intro p l e s m args below meth c H locs ls hX hR hs hl hv
  exact lv_tableIn hX.1 hX.2.1 hd h1 h2 ho ht (kk p l e s m args below meth c H locs ls hX hR hs hl hv)

theorem bw_loc (lv' : List (Nat × Value)) (h : bw_sub lv lv') (kk : bw_W g R k Q cu su pc lv' st A) : bw_W g R k Q cu su pc lv st A := by
  intro p l e s m args below meth c H locs ls hX hR hs hl hv
  exact kk p l e s m args below meth c H locs ls hX hR hs hl ⟨hv.1, hv.2.1, fun q hq => hv.2.2 q (h.mem q hq)⟩
theorem bw_wid {cu' su' : Nat} (h1 : cu ≤ cu') (h2 : su ≤ su') (kk : bw_W g R k Q cu' su' pc lv st A) : bw_W g R k Q cu su pc lv st A := by
  intro p l e s m args below meth c H locs ls hX hR hs hl hv
  exact W.widen h1 h2 (kk p l e s m args below meth c H locs ls hX hR hs hl hv)
/-! the heap -/
theorem bw_R.up {A : bw_H} {H H1 : Heap} {a : Nat} {e0 e : va_E} (hR : bw_R g A H) (ha : A.2 a = some e0) (z : H1.size = H.size) (o : ∀ q : Nat, q ≠ a → H1[q]? = H[q]?) (h : va_at g.1 vwCl (a, e) H1) : bw_R g (bw_up A a e) H1 := by
  obtain ⟨h1, h2, h3, h4⟩ := hR
  have hla := (h4 a e0 ha).1
  refine ⟨z.trans h1, h2, fun q hq => ?_, fun b e' hb => ?_⟩
  · rw [o q (fun e => by omega)]; exact h3 q hq
  · by_cases hba : b = a
    · subst hba
      have : (if b = b then some e else A.2 b) = some e' := hb
      rw [if_pos rfl] at this
      cases this
      exact ⟨hla, h⟩
    · have : (if b = a then some e else A.2 b) = some e' := hb
      rw [if_neg hba] at this
      exact ⟨(h4 b e' this).1, va_at.kept (h4 b e' this).2 (o b hba)⟩
theorem bw_R.nw {A : bw_H} {H H1 : Heap} {e : va_E} (hR : bw_R g A H) (z : H1.size = A.1 + 1) (o : ∀ q : Nat, q < A.1 → H1[q]? = H[q]?) (h : va_at g.1 vwCl (A.1, e) H1) : bw_R g (bw_nw A e) H1 := by
  obtain ⟨h1, h2, h3, h4⟩ := hR
  refine ⟨z, by show _ ≤ A.1 + 1; omega, fun q hq => ?_, fun b e' hb => ?_⟩
  · rw [o q (by omega)]; exact h3 q hq
  · by_cases hba : b = A.1
    · subst hba
      have : (if A.1 = A.1 then some e else A.2 A.1) = some e' := hb
      rw [if_pos rfl] at this
      cases this
      exact ⟨h2, h⟩
    · have : (if b = A.1 then some e else A.2 b) = some e' := hb
      rw [if_neg hba] at this
      have h5 := h4 b e' this
      have hlt : b < H.size := va_at.lt h5.2
      exact ⟨h5.1, va_at.kept h5.2 (o b (by omega))⟩
theorem bw_R.P {A : bw_H} {H : Heap} {a : Nat} {e : va_E} (hR : bw_R g A H) (ha : A.2 a = some e) : va_P g.1 vwCl [(a, e)] H := by
  intro i q hq
  have hz : i < 1 := (List.getElem?_eq_some_iff.mp hq).1
  rw [show i = 0 by omega] at hq
  cases hq
  exact (hR.2.2.2 a e ha).2
/-- a field link: own class, entry; class number and field number -/
def bw_fl (own : String) (idx ci kf : Nat) : Prop := ∃ (C : String) (T : u_T) (N : Nat), vwCl[ci]? = some (C, T, N) ∧ kf < N ∧ (∀ w ∈ u_ws C T N, w ∈ bw_uw) ∧ Cond.fieldLink own idx (T kf).1 (T kf).2.1 (T kf).2.2.1 ∈ bw_uw
def bw_fp (own : String) (idx ci kf : Nat) (ty : FieldType) (fin : Bool) : Prop := ∃ (C : String) (T : u_T) (N : Nat) (ty0 : Nat → FieldType), vwCl[ci]? = some (C, T, N) ∧ kf < N ∧ (∀ w ∈ u_ws C T N, w ∈ bw_uw) ∧ Cond.fieldLink own idx (T kf).1 (T kf).2.1 (T kf).2.2.1 ∈ bw_uw ∧
  (∀ k, k < N → parseFieldDescriptor (T k).2.2.1 = some (ty0 k)) ∧ (∀ a, a < N → ∀ b, b < N → a ≠ b → (T a).2.1 ≠ (T b).2.1) ∧ (T kf).2.2.2 = fin ∧ (fin = true → (T kf).1 = own) ∧ ty0 kf = ty
theorem bw_get {i ci kf : Nat} {a : Nat} {fs : List Value} {v : Value} (pc' : Nat) (hd : decode k.2.1 pc = .ok (.getfield i, 3)) (hp : pc + 3 = pc') (hf : bw_fl k.1.cls i ci kf) (ha : A.2 a = some (.inr (ci, fs))) (hv0 : fs[kf]? = some v)
    (kk : bw_W g R k Q cu su pc' lv (v :: st) A) : bw_W g R k Q cu su pc lv (.ref a :: st) A := by
  intro p l e s m args below meth c H locs ls hX hR hs hl hv
  subst hp
  obtain ⟨C, T, N, h1, h2, h3, h4⟩ := hf
  exact va_get hX.1 hX.2.1 hX.2.2.2.2.2.1 h3 hX.2.2.2.2.1 hX.2.2.2.2.2.2.2.2.2.2.1.1 (hR.P ha) 0 rfl h1 kf h2 (hX.2.2.2.2.2.1 _ h4) (fun _ h => h) hv0 hd (kk p l e s m args below meth c H locs ls hX hR hs hl hv)
theorem bw_put {i ci kf : Nat} {a : Nat} {fs : List Value} {v : Value} {ty : FieldType} (pc' : Nat) (hd : decode k.2.1 pc = .ok (.putfield i, 3)) (hp : pc + 3 = pc') (hf : bw_fp k.1.cls i ci kf ty false) (ha : A.2 a = some (.inr (ci, fs))) (hn0 : narrow ty v = v) (hfit : fits ty v = true) (hlen : kf < fs.length)
    (kk : bw_W g R k Q cu su pc' lv st (bw_up A a (.inr (ci, fs.set kf v)))) : bw_W g R k Q cu su pc lv (v :: .ref a :: st) A := by
  intro p l e s m args below meth c H locs ls hX hR hs hl hv
  subst hp
  obtain ⟨C, T, N, ty0, hc, hk, hin, hlk, hty, hnm, hfin, -, het⟩ := hf
  have hts := hX.2.2.2.2.2.1
  have hK := hX.2.2.2.2.2.2.2.2.2.2.1.1
  have hap := va_apart (own := k.1.cls) hts hin ty0 hty hnm hK hc
  have hd' : parseFieldDescriptor (T kf).2.2.1 = some ty := by rw [hty kf hk, het]
  obtain ⟨r, h1, cell, q1, q2, q3, q4⟩ := (hR.2.2.2 a _ ha).2
  have hr : r = (C, T, N) := Option.some.inj (h1.symm.trans hc)
  subst hr
  obtain ⟨hS, hfc, kC, hkC, hkind⟩ := hK.1 ci _ hc
  obtain ⟨cf, kf', fi, f, hi, hsl⟩ := hS kf hk
  have hlay := hts _ (hin _ (u_in_lay hk))
  unfold u_lay at hlay
  rw [if_neg (by rw [hfin]; decide)] at hlay
  have hst := (u_facts hfc hkC (u_lays hts hin hk) hi).1
  have h6 := u_store hfc hkC hkind hlay hi hd' hn0 hfit
  refine W.putK hX.1 hX.2.1 (f := f) ⟨hX.2.2.2.2.1, hts _ hlk, ⟨_, _, _, hi⟩, hst⟩ (by rw [q2]; exact h6) q1 q3 (by rw [hsl]; exact k2_hasslot (q4 kf hk)) rfl rfl hd fun H' e1 e2 e3 => ?_
  rw [hsl] at e1 ⊢
  refine kk p l e s m args below meth c H' _ ls hX (hR.up ha e2 e3 ⟨_, hc, t_OB.to (V := updV (vp_V fs) kf v) ⟨_, e1, q2, q3, t_set q4 hap hk v⟩ (fun j _ => vp_updV_set hlen v j)⟩) (by rw [e2]; exact hs) (fun z hz => ?_) hv
  rcases List.mem_append.mp hz with h | h
  · exact hl z h
  · rw [List.mem_singleton.mp h]; exact (hR.2.2.2 a _ ha).1
theorem bw_putF {i ci kf : Nat} {a : Nat} {fs : List Value} {v : Value} {ty : FieldType} (pc' : Nat) (hd : decode k.2.1 pc = .ok (.putfield i, 3)) (hp : pc + 3 = pc') (hf : bw_fp k.1.cls i ci kf ty true) (hi0 : k.1.name = "<init>") (ha : A.2 a = some (.inr (ci, fs))) (hn0 : narrow ty v = v) (hfit : fits ty v = true) (hlen : kf < fs.length)
    (kk : bw_W g R k Q cu su pc' lv st (bw_up A a (.inr (ci, fs.set kf v)))) : bw_W g R k Q cu su pc lv (v :: .ref a :: st) A := by
  intro p l e s m args below meth c H locs ls hX hR hs hl hv
  subst hp
  obtain ⟨C, T, N, ty0, hc, hk, hin, hlk, hty, hnm, hfin, hdecl, het⟩ := hf
  have hdecl := hdecl rfl
  have hts := hX.2.2.2.2.2.1
  have hown := hX.2.2.2.2.1
  have hK := hX.2.2.2.2.2.2.2.2.2.2.1.1
  have hap := va_apart (own := k.1.cls) hts hin ty0 hty hnm hK hc
  have hd' : parseFieldDescriptor (T kf).2.2.1 = some ty := by rw [hty kf hk, het]
  obtain ⟨r, h1, cell, q1, q2, q3, q4⟩ := (hR.2.2.2 a _ ha).2
  have hr : r = (C, T, N) := Option.some.inj (h1.symm.trans hc)
  subst hr
  obtain ⟨hS, hfc, kC, hkC, hkind⟩ := hK.1 ci _ hc
  obtain ⟨cf, kf', fi, f, hi, hsl⟩ := hS kf hk
  have hlay := hts _ (hin _ (u_in_lay hk))
  unfold u_lay at hlay
  rw [if_pos hfin] at hlay
  have hst := (u_facts hfc hkC (u_lays hts hin hk) hi).1
  have hcf : m.cls = cf := by
    obtain ⟨_, _, c', _, _, _, -, -, hf', -, -, -, hown2, -⟩ := Cond.laysFinal_spec hlay
    have e1 : c' = cf := by have := hi.symm.trans hf'; simp at this; exact this.1.symm
    rw [hdecl] at hown2
    rw [← e1]; exact Option.some.inj (hown.symm.trans hown2)
  have h6 := u_fits hfc hkC hkind (Or.inr hlay) hi hd' hn0 hfit
  refine W.putFinK hX.1 hX.2.1 hown (hts _ hlk) hi hst hcf (hX.2.2.2.2.2.2.2.1.trans hi0) (by rw [q2]; exact h6) q1 q3 (by rw [hsl]; exact k2_hasslot (q4 kf hk)) rfl rfl hd fun H' e1 e2 e3 => ?_
  rw [hsl] at e1 ⊢
  refine kk p l e s m args below meth c H' _ ls hX (hR.up ha e2 e3 ⟨_, hc, t_OB.to (V := updV (vp_V fs) kf v) ⟨_, e1, q2, q3, t_set q4 hap hk v⟩ (fun j _ => vp_updV_set hlen v j)⟩) (by rw [e2]; exact hs) (fun z hz => ?_) hv
  rcases List.mem_append.mp hz with h | h
  · exact hl z h
  · rw [List.mem_singleton.mp h]; exact (hR.2.2.2 a _ ha).1
/-! arrays: kinds 0 int, 1 long, 2 int[], 3 Matrix, 4 Polynomial -/
abbrev bw_ai (g : bw_G) (n : Nat) (f : Nat → Int32) : va_E := .inl (g.2.1 0, n, .inl f)
abbrev bw_al (g : bw_G) (n : Nat) (f : Nat → Int64) : va_E := .inl (g.2.1 1, n, .inr (.inl f))
abbrev bw_aq (g : bw_G) (t n : Nat) (f : Nat → Option Nat) : va_E := .inl (g.2.1 t, n, .inr (.inr (.inr (.inr f))))
theorem bw_iald {a n : Nat} {f : Nat → Int32} {j : Int32} (pc' : Nat) (hd : decode k.2.1 pc = .ok (.iaload, 1)) (hp : pc + 1 = pc') (ha : A.2 a = some (bw_ai g n f)) (hin : vp_in j n)
    (kk : bw_W g R k Q cu su pc' lv (.int (f j.toNatClampNeg) :: st) A) : bw_W g R k Q cu su pc lv (.int j :: .ref a :: st) A := by
  intro p l e s m args below meth c H locs ls hX hR hs hl hv
  subst hp
  exact va_iald hX.1 hX.2.1 hX.2.2.2.2.2.2.2.2.2.2.1.1 (hR.P ha) 0 0 rfl rfl hin hd (kk p l e s m args below meth c H locs ls hX hR hs hl hv)
theorem bw_lald {a n : Nat} {f : Nat → Int64} {j : Int32} (pc' : Nat) (hd : decode k.2.1 pc = .ok (.laload, 1)) (hp : pc + 1 = pc') (ha : A.2 a = some (bw_al g n f)) (hin : vp_in j n)
    (kk : bw_W g R k Q cu su pc' lv (.long (f j.toNatClampNeg) :: st) A) : bw_W g R k Q cu su pc lv (.int j :: .ref a :: st) A := by
  intro p l e s m args below meth c H locs ls hX hR hs hl hv
  subst hp
  exact va_lald hX.1 hX.2.1 hX.2.2.2.2.2.2.2.2.2.2.1.1 (hR.P ha) 0 1 rfl rfl hin hd (kk p l e s m args below meth c H locs ls hX hR hs hl hv)
theorem bw_alen {a : Nat} {cA : ClassId} {x : vp_A} {v : Int32} (t : Nat) {ty : FieldType} (pc' : Nat) (hd : decode k.2.1 pc = .ok (.arraylength, 1)) (hp : pc + 1 = pc') (ht : (bw_ty g.2.1)[t]? = some (cA, ty)) (ha : A.2 a = some (.inl (cA, x))) (hv0 : Int32.ofNat x.1 = v)
    (kk : bw_W g R k Q cu su pc' lv (.int v :: st) A) : bw_W g R k Q cu su pc lv (.ref a :: st) A := by
  intro p l e s m args below meth c H locs ls hX hR hs hl hv
  subst hp
  exact va_alen hX.1 hX.2.1 hX.2.2.2.2.2.2.2.2.2.2.1.1 (hR.P ha) 0 t rfl ht hv0 hd (kk p l e s m args below meth c H locs ls hX hR hs hl hv)
theorem bw_iast {a n : Nat} {f : Nat → Int32} {j x : Int32} (pc' : Nat) (hd : decode k.2.1 pc = .ok (.iastore, 1)) (hp : pc + 1 = pc') (ha : A.2 a = some (bw_ai g n f)) (hin : vp_in j n)
    (kk : bw_W g R k Q cu su pc' lv st (bw_up A a (bw_ai g n (upd f j.toNatClampNeg x)))) : bw_W g R k Q cu su pc lv (.int x :: .int j :: .ref a :: st) A := by
  intro p l e s m args below meth c H locs ls hX hR hs hl hv
  subst hp
  have hK := hX.2.2.2.2.2.2.2.2.2.2.1.1
  refine W.iast hX.1 hX.2.1 (hR.2.2.2 a _ ha).2 ((hK.2 0 _ rfl).1 n (fun j => .int (f j))) (fun q => by cases q) (by show ¬ (j < 0 ∨ (arrV _ _ _).slots.size ≤ _); rw [arrV_size]; exact hin) rfl rfl hd fun H1 e1 z oq => ?_
  refine kk p l e s m args below meth c H1 _ ls hX (hR.up ha z oq ?_) (by rw [z]; exact hs) (fun z hz => ?_) hv
  · show H1[a]? = some (vp_cell _ _)
    rw [e1]
    rw [vp_cell_i, vp_cell_i, arrV_store]
    congr 2
    funext q
    by_cases hq : q = j.toNatClampNeg
    · subst hq
      simp [updV, upd]
    · simp [updV, upd, hq]
  · rcases List.mem_append.mp hz with h | h
    · exact hl z h
    · rw [List.mem_singleton.mp h]; exact (hR.2.2.2 a _ ha).1
theorem bw_last {a n : Nat} {f : Nat → Int64} {j : Int32} {x : Int64} (pc' : Nat) (hd : decode k.2.1 pc = .ok (.lastore, 1)) (hp : pc + 1 = pc') (ha : A.2 a = some (bw_al g n f)) (hin : vp_in j n)
    (kk : bw_W g R k Q cu su pc' lv st (bw_up A a (bw_al g n (vp_updL f j.toNatClampNeg x)))) : bw_W g R k Q cu su pc lv (.long x :: .int j :: .ref a :: st) A := by
  intro p l e s m args below meth c H locs ls hX hR hs hl hv
  subst hp
  have hK := hX.2.2.2.2.2.2.2.2.2.2.1.1
  refine W.last hX.1 hX.2.1 (hR.2.2.2 a _ ha).2 ((hK.2 1 _ rfl).1 n (fun j => .long (f j))) (fun q => by cases q) (by show ¬ (j < 0 ∨ (arrV _ _ _).slots.size ≤ _); rw [arrV_size]; exact hin) rfl rfl hd fun H1 e1 z oq => ?_
  refine kk p l e s m args below meth c H1 _ ls hX (hR.up ha z oq ?_) (by rw [z]; exact hs) (fun z hz => ?_) hv
  · show H1[a]? = some (vp_cell _ _)
    rw [e1]
    rw [vp_cell_l, vp_cell_l, arrV_store]
    congr 2
    funext q
    by_cases hq : q = j.toNatClampNeg
    · subst hq
      simp [updV, vp_updL]
    · simp [updV, vp_updL, hq]
  · rcases List.mem_append.mp hz with h | h
    · exact hl z h
    · rw [List.mem_singleton.mp h]; exact (hR.2.2.2 a _ ha).1
theorem bw_aald {a n t y : Nat} {f : Nat → Option Nat} {j : Int32} {ty : FieldType} (pc' : Nat) (hd : decode k.2.1 pc = .ok (.aaload, 1)) (hp : pc + 1 = pc') (ht : (bw_ty g.2.1)[t]? = some (g.2.1 t, ty)) (hr : ty.isReference = true) (ha : A.2 a = some (bw_aq g t n f)) (hin : vp_in j n) (hy : f j.toNatClampNeg = some y)
    (kk : bw_W g R k Q cu su pc' lv (.ref y :: st) A) : bw_W g R k Q cu su pc lv (.int j :: .ref a :: st) A := by
  intro p l e s m args below meth c H locs ls hX hR hs hl hv
  subst hp
  have hK := hX.2.2.2.2.2.2.2.2.2.2.1.1
  have hlt : j.toNatClampNeg < n := Nat.not_le.mp fun q => hin (Or.inr q)
  exact W.aald (v := .ref y) (ty := ty) hX.1 hX.2.1 (hR.2.2.2 a _ ha).2 ((hK.2 t _ ht).1 n (fun j => va_rf (f j))) hr (fun q => by cases q) (by show ¬ (j < 0 ∨ (arrV _ _ _).slots.size ≤ _); rw [arrV_size]; exact hin) (by show (arrV _ _ _).slots[_]? = _; rw [arrV_read _ _ hlt, hy]; rfl) rfl rfl hd (kk p l e s m args below meth c H locs ls hX hR hs hl hv)
theorem bw_aast {a n t v ci : Nat} {r : vw_C} {vs : List Value} {f : Nat → Option Nat} {j : Int32} (pc' : Nat) (hd : decode k.2.1 pc = .ok (.aastore, 1)) (hp : pc + 1 = pc') (ht : (bw_ty g.2.1)[t]? = some (g.2.1 t, .object r.1)) (hc : vwCl[ci]? = some r) (ha : A.2 a = some (bw_aq g t n f)) (hv0 : A.2 v = some (.inr (ci, vs))) (hin : vp_in j n)
    (kk : bw_W g R k Q cu su pc' lv st (bw_up A a (bw_aq g t n (va_up f j.toNatClampNeg (some v))))) : bw_W g R k Q cu su pc lv (.ref v :: .int j :: .ref a :: st) A := by
  intro p l e s m args below meth c H locs ls hX hR hs hl hv
  subst hp
  have hK := hX.2.2.2.2.2.2.2.2.2.2.1.1
  have hlt : j.toNatClampNeg < n := Nat.not_le.mp fun q => hin (Or.inr q)
  have h0 : ¬ j < 0 := fun q => hin (Or.inl q)
  obtain ⟨r', hr', cellV, g1, g2, g3, -⟩ := (hR.2.2.2 v _ hv0).2
  have hcls := (hK.1 ci r hc).2
  obtain ⟨kA, comp, k1, k2, k3, -⟩ := (hK.2 t _ ht).2
  have hcomp : comp = g.1.1 ci := Option.some.inj (k3.symm.trans hcls.1)
  subst hcomp
  obtain ⟨kC, hkC, -⟩ := hcls.2
  refine W.aast hX.1 hX.2.1 (hR.2.2.2 a _ ha).2 (fun q h => by cases h) (fun h => by cases h) k1 k2 rfl hkC ⟨h0, by show _ < (arrV _ _ _).slots.size; rw [arrV_size]; exact hlt⟩ g1 (fun q h => by rw [g3] at h; cases h) (by rw [g2]; exact hkC) (by rw [g2]; exact va_assign hcls) rfl rfl hd fun H1 e1 z oq => ?_
  refine kk p l e s m args below meth c H1 _ ls hX (hR.up ha z oq ?_) (by rw [z]; exact hs) (fun z hz => ?_) hv
  · show H1[a]? = some (vp_cell _ _)
    rw [e1]
    rw [vp_cell_q, vp_cell_q, arrV_store]
    congr 2
    funext q
    by_cases hq : q = j.toNatClampNeg
    · subst hq
      simp [updV, va_up, va_rf]
    · simp [updV, va_up, hq]
  · rcases List.mem_append.mp hz with h | h
    · exact hl z h
    · rw [List.mem_singleton.mp h]; exact (hR.2.2.2 a _ ha).1
/-! making -/
def bw_nl (own : String) (idx ci N : Nat) (fs : List Value) : Prop := ∃ (C : String) (T : u_T) (ty : Nat → FieldType), vwCl[ci]? = some (C, T, N) ∧ (∀ w ∈ u_ws C T N, w ∈ bw_uw) ∧ (∀ k, k < N → parseFieldDescriptor (T k).2.2.1 = some (ty k)) ∧
  Cond.classLink own idx C ∈ bw_uw ∧ Cond.instantiable C N ∈ bw_uw ∧ Cond.initialized C ∈ bw_uw ∧ ∀ j, j < N → defaultValue (ty j) = vp_V fs j
theorem bw_new {i ci N : Nat} {fs : List Value} (pc' : Nat) (hd : decode k.2.1 pc = .ok (.new i, 3)) (hp : pc + 3 = pc') (hn : bw_nl k.1.cls i ci N fs) (hc : cu + 1 ≤ R.cells) (hsl : su + N ≤ R.slots)
    (kk : bw_W g R k Q (cu + 1) (su + N) pc' lv (.ref A.1 :: st) (bw_nw A (.inr (ci, fs)))) : bw_W g R k Q cu su pc lv st A := by
  intro p l e s m args below meth c H locs ls hX hR hs hl hv
  subst hp
  obtain ⟨C, T, ty, h1, h2, h3, h4, h5, h6, h7⟩ := hn
  have hts := hX.2.2.2.2.2.1
  have hK := hX.2.2.2.2.2.2.2.2.2.2.1.1
  have hKn := hK.1 ci _ h1
  refine W.newcK hX.1 hX.2.1 hX.2.2.2.2.1 (hts _ h4) (hts _ h5) (hts _ h6) rfl hd hc hsl hKn.2.1 hR.1 fun H1 kC hkC e1 z1 o1 => ?_
  refine kk p l e s m args below meth c H1 locs ls hX (hR.nw z1 o1 ⟨_, h1, (u_born ty hts h2 hKn hkC e1 h3).to h7⟩) ?_ hl hv
  have := hR.1
  omega
theorem bw_arrK {t : Nat} {ty : FieldType} {cA : ClassId} {s : State} (hK : va_K g.1 vwCl (bw_ty g.2.1) s) (ht : (bw_ty g.2.1)[t]? = some (g.2.1 t, ty)) (hn : s.vm.findClass ("[" ++ ty.toString) = some cA) : cA = g.2.1 t := by
  have h := (hK.2 t _ ht).2
  cases ty with
  | object C =>
    obtain ⟨kA, comp, h1, h2, h3, h4⟩ := h
    exact Option.some.inj (hn.symm.trans h4)
  | _ => exact Option.some.inj (hn.symm.trans h)
theorem bw_newi {n : Int32} {N : Nat} (pc' : Nat) (hd : decode k.2.1 pc = .ok (.newarray .int, 2)) (hp : pc + 2 = pc') (hw : Cond.arrayClass .int ∈ bw_uw) (hn : ¬ n < 0) (hN : n.toNatClampNeg = N) (hb : N ≤ 134217728) (hc : cu + 1 ≤ R.cells) (hsl : su + N ≤ R.slots)
    (kk : bw_W g R k Q (cu + 1) (su + N) pc' lv (.ref A.1 :: st) (bw_nw A (bw_ai g N (fun _ => 0)))) : bw_W g R k Q cu su pc lv (.int n :: st) A := by
  intro p l e s m args below meth c H locs ls hX hR hs hl hv
  subst hp
  have hts := hX.2.2.2.2.2.1
  have hK := hX.2.2.2.2.2.2.2.2.2.2.1.1
  refine va_newaK (atype := .int) hX.1 hX.2.1 (hts _ hw) rfl hd rfl hn hN (by show N * 4 ≤ 536870912; omega) hc hsl hR.1 fun H1 cA e1 z1 o1 hAr hNm => ?_
  have hcA : cA = g.2.1 0 := bw_arrK (t := 0) (ty := .int) hK rfl hNm
  subst hcA
  refine kk p l e s m args below meth c H1 locs ls hX (hR.nw z1 o1 ?_) ?_ hl hv
  · exact e1
  · have := hR.1
    omega
theorem bw_newl {n : Int32} {N : Nat} (pc' : Nat) (hd : decode k.2.1 pc = .ok (.newarray .long, 2)) (hp : pc + 2 = pc') (hw : Cond.arrayClass .long ∈ bw_uw) (hn : ¬ n < 0) (hN : n.toNatClampNeg = N) (hb : N ≤ 67108864) (hc : cu + 1 ≤ R.cells) (hsl : su + N ≤ R.slots)
    (kk : bw_W g R k Q (cu + 1) (su + N) pc' lv (.ref A.1 :: st) (bw_nw A (bw_al g N (fun _ => 0)))) : bw_W g R k Q cu su pc lv (.int n :: st) A := by
  intro p l e s m args below meth c H locs ls hX hR hs hl hv
  subst hp
  have hts := hX.2.2.2.2.2.1
  have hK := hX.2.2.2.2.2.2.2.2.2.2.1.1
  refine va_newaK (atype := .long) hX.1 hX.2.1 (hts _ hw) rfl hd rfl hn hN (by show N * 8 ≤ 536870912; omega) hc hsl hR.1 fun H1 cA e1 z1 o1 hAr hNm => ?_
  have hcA : cA = g.2.1 1 := bw_arrK (t := 1) (ty := .long) hK rfl hNm
  subst hcA
  refine kk p l e s m args below meth c H1 locs ls hX (hR.nw z1 o1 ?_) ?_ hl hv
  · exact e1
  · have := hR.1
    omega
theorem bw_newq {n : Int32} {N i t : Nat} {C : String} (pc' : Nat) (hd : decode k.2.1 pc = .ok (.anewarray i, 3)) (hp : pc + 3 = pc') (ht : (bw_ty g.2.1)[t]? = some (g.2.1 t, .object C)) (hw : C = "ByteFields$Matrix" ∨ C = "ByteFields$Polynomial") (hlk : Cond.classLink k.1.cls i C ∈ bw_uw) (hn : ¬ n < 0) (hN : n.toNatClampNeg = N) (hb : N ≤ 134217728) (hc : cu + 1 ≤ R.cells) (hsl : su + N ≤ R.slots)
    (kk : bw_W g R k Q (cu + 1) (su + N) pc' lv (.ref A.1 :: st) (bw_nw A (bw_aq g t N (fun _ => none)))) : bw_W g R k Q cu su pc lv (.int n :: st) A := by
  intro p l e s m args below meth c H locs ls hX hR hs hl hv
  subst hp
  subst hN
  have hts := hX.2.2.2.2.2.1
  have hK := hX.2.2.2.2.2.2.2.2.2.2.1.1
  have hgl := hX.2.2.2.2.2.2.2.2.2.2.1.2.2.2.2
  have hAO : va_AO C s := by rcases hw with rfl | rfl; exact hgl.2.2.1; exact hgl.2.2.2.1
  refine W.anew hX.1 hX.2.1 hX.2.2.2.2.1 (hts _ hlk) (va_AO.use hAO) rfl hd rfl hn (by omega) hc hsl fun cA kA comp f1 f2 f3 f4 => ?_
  have hcA : cA = g.2.1 t := bw_arrK hK ht f1
  subst hcA
  have hsz := hR.1
  generalize hH1 : H.push ({ cls := g.2.1 t, slots := Array.replicate n.toNatClampNeg .null, vm := .none } : Cell) = H1
  have z1 : H1.size = A.1 + 1 := by rw [← hH1, Array.size_push, hsz]
  have e1 : H1[A.1]? = some (arrV (g.2.1 t) n.toNatClampNeg (fun _ => .null)) := by rw [← hH1, ← hsz, Array.getElem?_push_size, ← arrV_new]
  have o1 : ∀ q : Nat, q < A.1 → H1[q]? = H[q]? := fun q hq => by rw [← hH1, Array.getElem?_push, if_neg (by omega)]
  rw [hsz]
  exact kk p l e s m args below meth c H1 locs ls hX (hR.nw z1 o1 e1) (by omega) hl hv
/-- new int[N][M]: the outer array, then its rows -/
def bw_mna (g : bw_G) (N M : Nat) (A : bw_H) : bw_H := (A.1 + 1 + N, fun b => if b = A.1 then some (bw_aq g 2 N (fun i => if i < N then some (A.1 + 1 + i) else none)) else if A.1 < b ∧ b < A.1 + 1 + N then some (bw_ai g M (fun _ => 0)) else A.2 b)
theorem bw_multi {n q : Int32} {N M i : Nat} (pc' : Nat) (hd : decode k.2.1 pc = .ok (.multianewarray i 2, 4)) (hp : pc + 4 = pc') (hw2 : Cond.arrayClass .int ∈ bw_uw) (hlk : Cond.classLink k.1.cls i "[[I" ∈ bw_uw) (hn : ¬ n < 0) (hq : ¬ q < 0) (hN : n.toNatClampNeg = N) (hM : q.toNatClampNeg = M) (hb : N ≤ 134217728) (hb2 : M ≤ 134217728) (hc : cu + (1 + N) ≤ R.cells) (hsl : su + (N + N * M) ≤ R.slots)
    (kk : bw_W g R k Q (cu + 1 + N) (su + N + N * M) pc' lv (.ref A.1 :: st) (bw_mna g N M A)) : bw_W g R k Q cu su pc lv (.int q :: .int n :: st) A := by
  intro p l e s m args below meth c H locs ls hX hR hs hl hv
  subst hp
  subst hN
  subst hM
  have hts := hX.2.2.2.2.2.1
  have hK := hX.2.2.2.2.2.2.2.2.2.2.1.1
  intro T hT X
  obtain ⟨vm₁, cA, comp, -, fA, fC, hO, -, X', step⟩ := X.multianewarray2F (ty := .int) hX.1 hX.2.2.2.2.1 (hts _ hlk) hX.2.2.2.2.2.2.2.2.2.2.1.2.2.2.2.2.2.2.2.1 (hts _ hw2) (g := F0 m pc ls (.int q :: .int n :: st)) rfl (by rw [hX.2.1]; exact hd) rfl hn hq (by omega) (by show _ * 4 ≤ _; omega) (by omega) rfl rfl hc hsl
  have hcA : cA = g.2.1 2 := bw_arrK (t := 2) (ty := .array .int) hK rfl fA
  have hcC : comp = g.2.1 0 := bw_arrK (t := 0) (ty := .int) hK rfl fC
  subst hcA
  subst hcC
  generalize hF : Jvm.Free.Multi.fill (T.setVm vm₁) (g.2.1 2) (g.2.1 0) n.toNatClampNeg q.toNatClampNeg (defaultValue .int) n.toNatClampNeg = F at X' step
  have hTh : (T.setVm vm₁).heap = H := hT
  have hsz := hR.1
  obtain ⟨f1, f2, -, -⟩ := Jvm.Free.Multi.fill_facts (T.setVm vm₁) (g.2.1 2) (g.2.1 0) n.toNatClampNeg q.toNatClampNeg (defaultValue .int) n.toNatClampNeg
  rw [hF, hTh] at f1 f2
  have hold : ∀ x : Nat, x < H.size → F.heap[x]? = H[x]? := fun x hx => by
    have := Jvm.Free.Multi.fill_old (T.setVm vm₁) (g.2.1 2) (g.2.1 0) n.toNatClampNeg q.toNatClampNeg (defaultValue .int) (a := x) (by rw [hTh]; exact hx) n.toNatClampNeg
    rw [hF, hTh] at this
    exact this
  have hrow : ∀ j : Nat, j < n.toNatClampNeg → F.heap[H.size + 1 + j]? = some (vp_cell (g.2.1 0) (q.toNatClampNeg, .inl (fun _ => 0))) := fun j hj => by
    have := Jvm.Free.Multi.fill_inner (T.setVm vm₁) (g.2.1 2) (g.2.1 0) n.toNatClampNeg q.toNatClampNeg (defaultValue .int) n.toNatClampNeg j hj
    rw [hF, hTh] at this
    rw [this, vp_cell_i, ← arrV_new]
    rfl
  rw [vr_outer] at f2
  have hR' : bw_R g (bw_mna g n.toNatClampNeg q.toNatClampNeg A) F.heap := by
    obtain ⟨h1, h2, h3, h4⟩ := hR
    refine ⟨by show _ = A.1 + 1 + _; omega, by show _ ≤ A.1 + 1 + _; omega, fun x hx => by rw [hold x (by omega)]; exact h3 x hx, fun b e' hb => ?_⟩
    have hb : (if b = A.1 then some (bw_aq g 2 n.toNatClampNeg (fun i => if i < n.toNatClampNeg then some (A.1 + 1 + i) else none)) else if A.1 < b ∧ b < A.1 + 1 + n.toNatClampNeg then some (bw_ai g q.toNatClampNeg (fun _ => 0)) else A.2 b) = some e' := hb
    by_cases hb1 : b = A.1
    · rw [if_pos hb1] at hb
      cases hb
      subst hb1
      refine ⟨h2, ?_⟩
      rw [← h1]
      exact f2
    · rw [if_neg hb1] at hb
      by_cases hb2 : A.1 < b ∧ b < A.1 + 1 + n.toNatClampNeg
      · rw [if_pos hb2] at hb
        cases hb
        refine ⟨by omega, ?_⟩
        have := hrow (b - A.1 - 1) (by omega)
        rw [show H.size + 1 + (b - A.1 - 1) = b by omega] at this
        exact this
      · rw [if_neg hb2] at hb
        have h5 := h4 b e' hb
        have hlt : b < H.size := va_at.lt h5.2
        exact ⟨h5.1, va_at.kept h5.2 (hold b hlt)⟩
  have hTs : T.heap.size = A.1 := by rw [hT]; exact hsz
  rw [hTs] at step
  obtain ⟨t2, a1, b1⟩ := kk p l e s m args below meth c F.heap locs ls hX hR' (by have := hR'.1; have : F.heap.size = A.1 + 1 + n.toNatClampNeg := this; omega) hl hv F rfl X'
  exact ⟨t2, step t2 a1, b1⟩
/-! the tables of PRIMES -/
theorem bw_Sx {p : Program} {l : Launch} {s : State} {m : MethodId} {args : Array Value} {meth : Method} {c : Code} {H : Heap} {locs : List Loc} (hX : bw_X g k p l s m args meth c) (hR : bw_R g A H) (hs : s.heap.size ≤ H.size) (hl : ∀ z ∈ locs, bw_lo g ≤ z.base) : va_S (bw_fr g) s.heap H locs :=
  ⟨hs, fun q _ h => by
    have hq : q < bw_lo g := Nat.not_le.mp h
    rw [hR.2.2.1 q hq, hX.2.2.2.2.2.2.2.2.2.2.2.2 q hq], hl⟩
theorem bw_primes {i : Nat} (pc' : Nat) (hd : decode k.2.1 pc = .ok (.getstatic i, 3)) (hp : pc + 3 = pc') (hlk : Cond.fieldLink k.1.cls i "ByteFields$Field" "PRIMES" "[I" ∈ bw_uw)
    (kk : bw_W g R k Q cu su pc' lv (.ref g.2.2.2.1 :: st) A) : bw_W g R k Q cu su pc lv st A := by
  intro p l e s m args below meth c H locs ls hX hR hs hl hv
  subst hp
  have hZ := va_Z.kept hX.2.2.2.2.2.2.2.2.2.2.1.2.1.1 (H1 := s.heap) (fun a h1 h2 => hX.2.2.2.2.2.2.2.2.2.2.2.2 a h1)
  exact va_gets hX.1 hX.2.1 hZ (bw_Sx hX hR hs hl) hX.2.2.2.2.1 (hX.2.2.2.2.2.1 _ hlk) (fun _ h => h) hd (kk p l e s m args below meth c H locs ls hX hR hs hl hv)
theorem bw_primeLen (pc' : Nat) (hd : decode k.2.1 pc = .ok (.arraylength, 1)) (hp : pc + 1 = pc')
    (kk : bw_W g R k Q cu su pc' lv (.int 4 :: st) A) : bw_W g R k Q cu su pc lv (.ref g.2.2.2.1 :: st) A := by
  intro p l e s m args below meth c H locs ls hX hR hs hl hv
  subst hp
  have hT := va_T.kept hX.2.2.2.2.2.2.2.2.2.2.1.2.1.2 (H1 := s.heap) (fun a h1 h2 => hX.2.2.2.2.2.2.2.2.2.2.2.2 a h1)
  exact va_tlen hX.1 hX.2.1 hT (bw_Sx hX hR hs hl) rfl hd (kk p l e s m args below meth c H locs ls hX hR hs hl hv)
theorem bw_primeAt {j : Int32} (pc' : Nat) (hd : decode k.2.1 pc = .ok (.iaload, 1)) (hp : pc + 1 = pc') (hin : vp_in j 4)
    (kk : bw_W g R k Q cu su pc' lv (.int (bw_pr j.toNatClampNeg) :: st) A) : bw_W g R k Q cu su pc lv (.int j :: .ref g.2.2.2.1 :: st) A := by
  intro p l e s m args below meth c H locs ls hX hR hs hl hv
  subst hp
  have hT := va_T.kept hX.2.2.2.2.2.2.2.2.2.2.1.2.1.2 (H1 := s.heap) (fun a h1 h2 => hX.2.2.2.2.2.2.2.2.2.2.2.2 a h1)
  exact va_ti hX.1 hX.2.1 hT (bw_Sx hX hR hs hl) hin rfl hd (kk p l e s m args below meth c H locs ls hX hR hs hl hv)
/-! ends -/
theorem bw_iret {v : Int32} (hd : decode k.2.1 pc = .ok (.ireturn, 1)) (hr : k.2.2.2.1 = some .int) (hc : cu ≤ R.cells) (hsl : su ≤ R.slots) (hq : Q (.inl (some (.int v))) A) : bw_W g R k Q cu su pc lv [.int v] A := by
  intro p l e s m args below meth c H locs ls hX hR hs hl hv
  have hlocks : meth.locks = false := hX.2.2.2.2.2.2.1
  exact W.widen hc hsl (vx_ret (W.iret hX.1 hX.2.1 (hX.2.2.2.1.trans hr) (fun t ht _ => ⟨_, A, rfl, by rw [ht]; exact hR, hq⟩) hl hd hlocks))
theorem bw_zret {v : Int32} (hd : decode k.2.1 pc = .ok (.ireturn, 1)) (hr : k.2.2.2.1 = some .boolean) (h01 : v = 0 ∨ v = 1) (hc : cu ≤ R.cells) (hsl : su ≤ R.slots) (hq : Q (.inl (some (.int v))) A) : bw_W g R k Q cu su pc lv [.int v] A := by
  intro p l e s m args below meth c H locs ls hX hR hs hl hv
  have hlocks : meth.locks = false := hX.2.2.2.2.2.2.1
  exact W.widen hc hsl (vx_ret (W.zret hX.1 hX.2.1 (hX.2.2.2.1.trans hr) (by rcases h01 with rfl | rfl <;> rfl) (fun t ht _ => ⟨_, A, rfl, by rw [ht]; exact hR, hq⟩) hl hd hlocks))
theorem bw_vret (hd : decode k.2.1 pc = .ok (.return_, 1)) (hr : k.2.2.2.1 = none) (hc : cu ≤ R.cells) (hsl : su ≤ R.slots) (hq : Q (.inl none) A) : bw_W g R k Q cu su pc lv [] A := by
  intro p l e s m args below meth c H locs ls hX hR hs hl hv
  have hlocks : meth.locks = false := hX.2.2.2.2.2.2.1
  exact W.widen hc hsl (vx_ret (W.vret hX.1 hX.2.1 (hX.2.2.2.1.trans hr) (fun t ht _ => ⟨_, A, rfl, by rw [ht]; exact hR, hq⟩) hl hd hlocks))
theorem bw_aret {a : Nat} {C : String} (hd : decode k.2.1 pc = .ok (.areturn, 1)) (hr : k.2.2.2.1 = some (.object C)) (hc : cu ≤ R.cells) (hsl : su ≤ R.slots) (hq : Q (.inl (some (.ref a))) A) : bw_W g R k Q cu su pc lv [.ref a] A := by
  intro p l e s m args below meth c H locs ls hX hR hs hl hv
  have hlocks : meth.locks = false := hX.2.2.2.2.2.2.1
  exact W.widen hc hsl (vx_ret (W.aret hX.1 hX.2.1 (hX.2.2.2.1.trans hr) (Or.inl ⟨C, rfl⟩) (Or.inr ⟨a, rfl⟩) (fun t ht _ => ⟨_, A, rfl, by rw [ht]; exact hR, hq⟩) hl hd hlocks))
/-- an exception of class E is on its way at pc -/
def bw_T (g : bw_G) (R : Room) (k : bw_M) (Q : bw_O → bw_H → Prop) (cu su pc : Nat) (lv : List (Nat × Value)) (A : bw_H) (E : String) : Prop :=
  ∀ (p : Program) (l : Launch) (e : Env) (s : State) (m : MethodId) (args : Array Value) (below : List Frame) (meth : Method) (c : Code) (H : Heap) (locs : List Loc) (ls : Array Slot) (q : Addr) (ce : Cell) (rest : List Value),
    bw_X g k p l s m args meth c → bw_R g A H → s.heap.size ≤ H.size → (∀ z ∈ locs, bw_lo g ≤ z.base) → lv_has ls k.2.2.1 lv → H[q]? = some ce → ce.vm = .none → s.vm.findClass E = some ce.cls →
    vx_W p l e R s m args below meth c H locs cu su (vx_MQ below (bw_q g Q) (bw_x g Q) args s R.cells R.slots (bw_fr g)) (F0 m pc ls rest) q
theorem bw_Tout {E : String} (ht : k.2.2.2.2 = []) (hc : cu ≤ R.cells) (hsl : su ≤ R.slots) (hq : Q (.inr E) A) : bw_T g R k Q cu su pc lv A E := by
  intro p l e s m args below meth c H locs ls q ce rest hX hR hs hl hv h1 h2 h3
  refine vx_out (fun x hx => ?_) hX.2.2.2.2.2.2.1 h1 h2 h3 (fun t ht _ => ⟨A, by rw [ht]; exact hR, hq⟩) hl hc hsl
  rw [hX.2.2.2.2.2.2.2.2.1, ht] at hx
  cases hx
theorem bw_Tcatch {E name : String} (pre : List ExceptionTableEntry) (x : ExceptionTableEntry) (suf : List ExceptionTableEntry) (hsplit : tableOf k.2.2.2.2 = pre ++ x :: suf)
    (hpass : ∀ z ∈ pre, covers z pc = false ∨ (z.catchType ≠ 0 ∧ ∃ nm : String, Cond.classLink k.1.cls z.catchType nm ∈ bw_uw ∧ (E, nm) ∈ bw_nc)) (hx : covers x pc = true) (h0 : x.catchType ≠ 0)
    (hlink : Cond.classLink k.1.cls x.catchType name ∈ bw_uw) (hcast : Cond.castable E name ∈ bw_fw)
    (kk : ∀ q : Nat, bw_W g R k Q cu su x.handlerPc lv [.ref q] A) : bw_T g R k Q cu su pc lv A E := by
  intro p l e s m args below meth c H locs ls q ce rest hX hR hs hl hv h1 h2 h3
  have hts := hX.2.2.2.2.2.1
  have hgl := hX.2.2.2.2.2.2.2.2.2.2.1
  refine vx_catch hX.2.2.2.2.1 pre x suf (hX.2.2.2.2.2.2.2.2.1.trans hsplit) (fun z hz => ?_) hx h0 (hts _ hlink) (bw_fw.use hcast (hgl.2.2.2.2.1 _ hcast)) h1 h2 h3 (kk q p l e s m args below meth c H locs ls hX hR hs hl hv)
  rcases hpass z hz with h | ⟨h, nm, h4, h5⟩
  · exact Or.inl h
  · exact Or.inr ⟨h, nm, hts _ h4, hgl.2.2.2.2.2.1 _ h5⟩
/-! calls -/
theorem bw_blind {av : List Value} : FrameBlind (va_Pc av (fun U => bw_gl g U ∧ bw_R g A U.heap)) := fun a U f mk h => ⟨h.1, bw_gl.same (s := U) rfl h.2.1, h.2.2⟩
theorem bw_pay {s : State} {args : Array Value} {w0 : Cond} (hts : ∀ w ∈ bw_uw, w.before args s = true) (h0 : w0 ∈ bw_uw) : ∀ w ∈ w0 :: bw_uw, ∀ (a' : Array Value) (U : State), s.WarmedH U.vm → w.before a' U = true := by
  intro w hw a' U hW
  have h : w ∈ bw_uw := by
    rcases List.mem_cons.mp hw with e | h
    · rw [e]; exact h0
    · exact h
  exact word_at hW (good_of_word (bw_uwg h)) (hts w h)
/-- the words of a call -/
def bw_cb (own : String) (idx : Nat) (k' : bw_M) (n : Nat) : Prop := Cond.methodLink own idx k'.1 ∈ bw_uw ∧ Cond.initialized k'.1.cls ∈ bw_uw ∧ Cond.code k'.1 k'.2.1 k'.2.2.1 k'.2.2.2.1 ∈ bw_uw ∧
  (k'.1.cls ≠ "java/lang/invoke/MethodHandle" ∧ k'.1.cls ≠ "java/lang/invoke/VarHandle") ∧ (parseMethodDescriptor k'.1.desc).map (fun d => d.parameters.length) = some n
def bw_cv (own : String) (idx : Nat) (k' : bw_M) (n ci : Nat) : Prop := bw_cb own idx k' n ∧ Cond.instanceMethod k'.1 ∈ bw_uw ∧ Cond.selects k'.1.cls k'.1 k'.1 ∈ bw_uw ∧ ∃ q : vw_C, vwCl[ci]? = some q ∧ q.1 = k'.1.cls
def bw_cs (own : String) (idx : Nat) (k' : bw_M) (n : Nat) : Prop := bw_cb own idx k' n ∧ Cond.static k'.1 ∈ bw_uw
def bw_ci (own : String) (idx : Nat) (k' : bw_M) (n : Nat) : Prop := bw_cb own idx k' n ∧ Cond.instanceMethod k'.1 ∈ bw_uw ∧ k'.1.name = "<init>" ∧ k'.2.2.2.1 = none
theorem bw_cB {own : String} {idx n : Nat} {k' : bw_M} {R' : Room} {s : State} {args : Array Value} (h : bw_cb own idx k' n) (hts : ∀ w ∈ bw_uw, w.before args s = true) (hR : R'.frames + 1 ≤ R.frames ∧ 8 + (k'.2.2.1 + 11) + R'.locals ≤ R.locals) :
    CallB R s args own idx k'.1 k'.2.1 k'.2.2.1 k'.2.2.2.1 (.code k'.1 k'.2.1 k'.2.2.1 k'.2.2.2.1 :: bw_uw) R' R'.cells R'.slots n := by
  obtain ⟨h1, h2, h3, h4, h5⟩ := h
  refine ⟨rfl, rfl, hR.1, hR.2, bw_pay hts h3, List.mem_cons_self, hts _ h3, hts _ h2, h4, fun sig hsig => ?_, hts _ h1⟩
  rw [hsig] at h5
  exact (Option.some.inj h5).symm
theorem bw_callV {i n ci b : Nat} {k' : bw_M} {R' : Room} {As : List Value} {fs : List Value} {st0 : List Value} {Q' : bw_O → bw_H → Prop} (pc' : Nat) (hd : decode k.2.1 pc = .ok (.invokevirtual i, 3)) (hp : pc + 3 = pc') (hw : bw_cv k.1.cls i k' n ci) (hM : bw_C g R' k' (.ref b :: As) A Q')
    (hb : A.2 b = some (.inr (ci, fs))) (hn : As.length = n) (hst : st0 = As.reverse ++ .ref b :: st) (hcat : (st.map fun v => v.category).sum ≤ 8) (hR : R'.frames + 1 ≤ R.frames ∧ 8 + (k'.2.2.1 + 11) + R'.locals ≤ R.locals) (hc : cu + R'.cells ≤ R.cells) (hsl : su + R'.slots ≤ R.slots)
    (kx : ∀ (E : String) (A' : bw_H), Q' (.inr E) A' → bw_T g R k Q (cu + R'.cells) (su + R'.slots) pc lv A' E)
    (kk : ∀ (v : Option Value) (A' : bw_H), Q' (.inl v) A' → bw_W g R k Q (cu + R'.cells) (su + R'.slots) pc' lv (v.toList ++ st) A') : bw_W g R k Q cu su pc lv st0 A := by
  intro p l e s m args below meth c H locs ls hX hRl hs hl hv
  subst hp
  subst hst
  obtain ⟨hw1, hw2, hw3, ⟨C9, T9, N9⟩, hq1, hq2⟩ := hw
  have hts := hX.2.2.2.2.2.1
  have hgl := hX.2.2.2.2.2.2.2.2.2.2.1
  have hK := hgl.1
  have hrun := vx_runV (own := k.1.cls) (Ts := bw_uw) (C := k'.1.cls) (b := b) (As := As) (rest := st) (g := F0 m pc ls (As.reverse ++ .ref b :: st)) (H := H) (e := e) (below := below) (locs := locs) (cells := cu) (slots := su) (R := R) (meth := meth) ⟨hX.1, hX.2.1, hX.2.2.1, hX.2.2.2.2.1, hts⟩ (hM l hX.2.2.2.2.2.2.2.2.2.1) ⟨bw_cB hw1 hts hR, hts _ hw2, hts _ hw3⟩
    ⟨bw_blind, by
      obtain ⟨cell, c1, c2, c3⟩ := va_recv hK (hRl.P hb) hq1 (q0 := 0) rfl
      exact ⟨cell, c1, c2, by rw [← hq2]; exact c3⟩, fun U hU hW => ⟨rfl, hgl.warm hW, by rw [hU]; exact hRl⟩⟩ rfl hn hv.1 rfl (lv_room hcat) hd ⟨hc, hsl⟩
  intro T hT X
  rcases hrun T hT X with ⟨v, st₀, t, T', L, h0, X', hL, e1, e2, ⟨v', A', hv', hA', hQ'⟩, hgo⟩ | ⟨q, st₀, t, T', L, E, ce, h0, X', hL, e1, e2, ⟨A', hA', hQ'⟩, hce, hcv, hcl, hgo⟩
  · cases hv'
    have hz : s.heap.size ≤ T'.heap.size := by
      have := X'.same.2.1
      exact this
    obtain ⟨t2, a1, b1⟩ := kk v A' hQ' p l e s m args below meth c T'.heap (locs ++ L) ls hX (by rw [e1]; exact hA') hz (fun z hz => (List.mem_append.mp hz).elim (hl z) (hL z)) hv T' rfl X'
    exact ⟨t2, hgo t2 a1, b1⟩
  · have hz : s.heap.size ≤ T'.heap.size := by
      have := X'.same.2.1
      exact this
    obtain ⟨t2, a1, b1⟩ := kx E A' hQ' p l e s m args below meth c T'.heap (locs ++ L) ls q ce st hX (by rw [e1]; exact hA') hz (fun z hz => (List.mem_append.mp hz).elim (hl z) (hL z)) hv (by rw [e1]; exact hce) hcv hcl T' rfl X'
    exact ⟨t2, hgo.trans a1, b1⟩
theorem bw_callS {i n : Nat} {k' : bw_M} {R' : Room} {As : List Value} {st0 : List Value} {Q' : bw_O → bw_H → Prop} (pc' : Nat) (hd : decode k.2.1 pc = .ok (.invokestatic i, 3)) (hp : pc + 3 = pc') (hw : bw_cs k.1.cls i k' n) (hM : bw_C g R' k' As A Q')
    (hn : As.length = n) (hst : st0 = As.reverse ++ st) (hcat : (st.map fun v => v.category).sum ≤ 8) (hR : R'.frames + 1 ≤ R.frames ∧ 8 + (k'.2.2.1 + 11) + R'.locals ≤ R.locals) (hc : cu + R'.cells ≤ R.cells) (hsl : su + R'.slots ≤ R.slots)
    (kx : ∀ (E : String) (A' : bw_H), Q' (.inr E) A' → bw_T g R k Q (cu + R'.cells) (su + R'.slots) pc lv A' E)
    (kk : ∀ (v : Option Value) (A' : bw_H), Q' (.inl v) A' → bw_W g R k Q (cu + R'.cells) (su + R'.slots) pc' lv (v.toList ++ st) A') : bw_W g R k Q cu su pc lv st0 A := by
  intro p l e s m args below meth c H locs ls hX hRl hs hl hv
  subst hp
  subst hst
  obtain ⟨hw1, hw2⟩ := hw
  have hts := hX.2.2.2.2.2.1
  have hgl := hX.2.2.2.2.2.2.2.2.2.2.1
  have hrun := vx_runS (own := k.1.cls) (Ts := bw_uw) (As := As) (rest := st) (g := F0 m pc ls (As.reverse ++ st)) (H := H) (e := e) (below := below) (locs := locs) (cells := cu) (slots := su) (R := R) (meth := meth) ⟨hX.1, hX.2.1, hX.2.2.1, hX.2.2.2.2.1, hts⟩ (hM l hX.2.2.2.2.2.2.2.2.2.1) ⟨bw_cB hw1 hts hR, hts _ hw2⟩
    ⟨bw_blind, fun U hU hW => ⟨rfl, hgl.warm hW, by rw [hU]; exact hRl⟩⟩ rfl hn hv.1 rfl (lv_room hcat) hd ⟨hc, hsl⟩
  intro T hT X
  rcases hrun T hT X with ⟨v, st₀, t, T', L, h0, X', hL, e1, e2, ⟨v', A', hv', hA', hQ'⟩, hgo⟩ | ⟨q, st₀, t, T', L, E, ce, h0, X', hL, e1, e2, ⟨A', hA', hQ'⟩, hce, hcv, hcl, hgo⟩
  · cases hv'
    obtain ⟨t2, a1, b1⟩ := kk v A' hQ' p l e s m args below meth c T'.heap (locs ++ L) ls hX (by rw [e1]; exact hA') X'.same.2.1 (fun z hz => (List.mem_append.mp hz).elim (hl z) (hL z)) hv T' rfl X'
    exact ⟨t2, hgo t2 a1, b1⟩
  · obtain ⟨t2, a1, b1⟩ := kx E A' hQ' p l e s m args below meth c T'.heap (locs ++ L) ls q ce st hX (by rw [e1]; exact hA') X'.same.2.1 (fun z hz => (List.mem_append.mp hz).elim (hl z) (hL z)) hv (by rw [e1]; exact hce) hcv hcl T' rfl X'
    exact ⟨t2, hgo.trans a1, b1⟩
/-- the words of a static call of a method with handlers -/
def bw_ch (own : String) (idx : Nat) (k' : bw_M) (n : Nat) : Prop := Cond.methodLink own idx k'.1 ∈ bw_uw ∧ Cond.initialized k'.1.cls ∈ bw_uw ∧ Cond.codeWith k'.1 k'.2.1 k'.2.2.1 k'.2.2.2.1 k'.2.2.2.2 ∈ bw_uw ∧ Cond.static k'.1 ∈ bw_uw ∧
  (k'.1.cls ≠ "java/lang/invoke/MethodHandle" ∧ k'.1.cls ≠ "java/lang/invoke/VarHandle") ∧ (parseMethodDescriptor k'.1.desc).map (fun d => d.parameters.length) = some n
theorem bw_callH {i n : Nat} {k' : bw_M} {R' : Room} {As : List Value} {st0 : List Value} {Q' : bw_O → bw_H → Prop} (pc' : Nat) (hd : decode k.2.1 pc = .ok (.invokestatic i, 3)) (hp : pc + 3 = pc') (hw : bw_ch k.1.cls i k' n) (hM : bw_CH g R' k' As A Q')
    (hn : As.length = n) (hst : st0 = As.reverse ++ st) (hcat : (st.map fun v => v.category).sum ≤ 8) (hR : R'.frames + 1 ≤ R.frames ∧ 8 + (k'.2.2.1 + 11) + R'.locals ≤ R.locals) (hc : cu + R'.cells ≤ R.cells) (hsl : su + R'.slots ≤ R.slots)
    (kx : ∀ (E : String) (A' : bw_H), Q' (.inr E) A' → bw_T g R k Q (cu + R'.cells) (su + R'.slots) pc lv A' E)
    (kk : ∀ (v : Option Value) (A' : bw_H), Q' (.inl v) A' → bw_W g R k Q (cu + R'.cells) (su + R'.slots) pc' lv (v.toList ++ st) A') : bw_W g R k Q cu su pc lv st0 A := by
  intro p l e s m args below meth c H locs ls hX hRl hs hl hv
  subst hp
  subst hst
  obtain ⟨hw1, hw2, hw3, hw4, hw5, hw6⟩ := hw
  have hts := hX.2.2.2.2.2.1
  have hgl := hX.2.2.2.2.2.2.2.2.2.2.1
  have hrun := vx_runSX (own := k.1.cls) (Ts := bw_uw) (hh := k'.2.2.2.2) (bytes := k'.2.1) (maxL := k'.2.2.1) (ret := k'.2.2.2.1) (n := n) (index := i) (As := As) (rest := st) (g := F0 m pc ls (As.reverse ++ st)) (H := H) (e := e) (below := below) (locs := locs) (cells := cu) (slots := su) (R := R) (meth := meth) ⟨hX.1, hX.2.1, hX.2.2.1, hX.2.2.2.2.1, hts⟩ (hM l hX.2.2.2.2.2.2.2.2.2.1)
    ⟨⟨rfl, rfl, hR.1, hR.2, bw_pay hts hw3, List.mem_cons_self⟩, hts _ hw3, hts _ hw2, hw5, fun sig hsig => by rw [hsig] at hw6; exact (Option.some.inj hw6).symm, hts _ hw1, hts _ hw4⟩
    ⟨bw_blind, fun U hU hW => ⟨rfl, hgl.warm hW, by rw [hU]; exact hRl⟩⟩ rfl hn hv.1 rfl (lv_room hcat) hd ⟨hc, hsl⟩
  intro T hT X
  rcases hrun T hT X with ⟨v, st₀, t, T', L, h0, X', hL, e1, e2, ⟨v', A', hv', hA', hQ'⟩, hgo⟩ | ⟨q, st₀, t, T', L, E, ce, h0, X', hL, e1, e2, ⟨A', hA', hQ'⟩, hce, hcv, hcl, hgo⟩
  · cases hv'
    obtain ⟨t2, a1, b1⟩ := kk v A' hQ' p l e s m args below meth c T'.heap (locs ++ L) ls hX (by rw [e1]; exact hA') X'.same.2.1 (fun z hz => (List.mem_append.mp hz).elim (hl z) (hL z)) hv T' rfl X'
    exact ⟨t2, hgo t2 a1, b1⟩
  · obtain ⟨t2, a1, b1⟩ := kx E A' hQ' p l e s m args below meth c T'.heap (locs ++ L) ls q ce st hX (by rw [e1]; exact hA') X'.same.2.1 (fun z hz => (List.mem_append.mp hz).elim (hl z) (hL z)) hv (by rw [e1]; exact hce) hcv hcl T' rfl X'
    exact ⟨t2, hgo.trans a1, b1⟩
/-- constructors: they throw nothing -/
theorem bw_C.met {k' : bw_M} {R' : Room} {av : List Value} {Q' : bw_O → bw_H → Prop} (h : bw_C g R' k' av A Q') (hx : ∀ (E : String) (A' : bw_H), ¬ Q' (.inr E) A') (l : Launch) (hl : l.stackTraces = false) :
    Met l k'.1 (.code k'.1 k'.2.1 k'.2.2.1 k'.2.2.2.1 :: bw_uw) R' (va_Pc av (fun U => bw_gl g U ∧ bw_R g A U.heap)) (bw_q g Q') R'.cells R'.slots (bw_fr g) := by
  intro p e a1 a2 a3 s m args below b1 b2 b3 b4
  obtain ⟨n, o, c1, c2, c3, c4⟩ := h l hl p e a1 a2 a3 s m args below b1 b2 b3 b4
  refine ⟨n, o, c1, c2, c3, ?_⟩
  rcases c4 with c4 | ⟨q, -, E, ce, L, ⟨A', hA', hQ⟩, -⟩
  · exact c4
  · exact absurd hQ (hx E A')
theorem bw_callI {i n b : Nat} {k' : bw_M} {R' : Room} {As : List Value} {st0 : List Value} {Q' : bw_O → bw_H → Prop} (pc' : Nat) (hd : decode k.2.1 pc = .ok (.invokespecial i, 3)) (hp : pc + 3 = pc') (hw : bw_ci k.1.cls i k' n) (hM : bw_C g R' k' (.ref b :: As) A Q')
    (hx : ∀ (E : String) (A' : bw_H), ¬ Q' (.inr E) A') (hn : As.length = n) (hst : st0 = As.reverse ++ .ref b :: st) (hcat : (st.map fun v => v.category).sum ≤ 8) (hR : R'.frames + 1 ≤ R.frames ∧ 8 + (k'.2.2.1 + 11) + R'.locals ≤ R.locals) (hc : cu + R'.cells ≤ R.cells) (hsl : su + R'.slots ≤ R.slots)
    (kk : ∀ (v : Option Value) (A' : bw_H), Q' (.inl v) A' → bw_W g R k Q (cu + R'.cells) (su + R'.slots) pc' lv (v.toList ++ st) A') : bw_W g R k Q cu su pc lv st0 A := by
  intro p l e s m args below meth c H locs ls hX hRl hs hl hv
  subst hp
  subst hst
  obtain ⟨hw1, hw2, hw3, hw4⟩ := hw
  have hts := hX.2.2.2.2.2.1
  have hgl := hX.2.2.2.2.2.2.2.2.2.2.1
  have hcb := bw_cB (R := R) (R' := R') hw1 hts hR
  have hMM := hM.met hx l hX.2.2.2.2.2.2.2.2.2.1
  rw [hw4] at hcb hMM
  have hrun := va_runI (own := k.1.cls) (Ts := bw_uw) (b := b) (As := As) (rest := st) (g := F0 m pc ls (As.reverse ++ .ref b :: st)) (H := H) (e := e) (below := below) (locs := locs) (cells := cu) (slots := su) (R := R) (meth := meth) ⟨hX.1, hX.2.1, hX.2.2.1, hX.2.2.2.2.1, hts⟩ hMM ⟨hcb, hw3, hts _ hw2⟩
    ⟨bw_blind, fun U hU hW => ⟨rfl, hgl.warm hW, by rw [hU]; exact hRl⟩⟩ rfl hn hv.1 rfl (lv_room hcat) hd ⟨hc, hsl⟩
  intro T hT X
  obtain ⟨v, st₀, t, T', L, h0, X', hL, e1, e2, ⟨v', A', hv', hA', hQ'⟩, hgo⟩ := hrun T hT X
  cases hv'
  obtain ⟨t2, a1, b1⟩ := kk v A' hQ' p l e s m args below meth c T'.heap (locs ++ L) ls hX (by rw [e1]; exact hA') X'.same.2.1 (fun z hz => (List.mem_append.mp hz).elim (hl z) (hL z)) hv T' rfl X'
  exact ⟨t2, hgo t2 a1, b1⟩
/-- super(): Object's -/
theorem bw_objInit {i b : Nat} (pc' : Nat) (hd : decode k.2.1 pc = .ok (.invokespecial i, 3)) (hp : pc + 3 = pc') (hw1 : Cond.methodLink k.1.cls i Lib.objectInit ∈ bw_uw) (hw2 : Cond.instanceMethod Lib.objectInit ∈ bw_uw) (hw3 : Cond.code Lib.objectInit ⟨#[0xb1]⟩ 1 none ∈ bw_uw) (hf : 1 ≤ R.frames) (hcat : (st.map fun v => v.category).sum + 12 ≤ R.locals)
    (kk : bw_W g R k Q cu su pc' lv st A) : bw_W g R k Q cu su pc lv (.ref b :: st) A := by
  intro p l e s m args below meth c H locs ls hX hR hs hl hv
  subst hp
  have hts := hX.2.2.2.2.2.1
  exact W.objInit hX.1 hX.2.1 hX.2.2.2.2.1 (hts _ hw1) (hts _ hw2) (hts _ hw3) rfl (hv.1.trans hX.2.2.1.symm) rfl hd hf (by show 2 * 0 + _ + 12 ≤ _; omega) (kk p l e s m args below meth c H locs ls hX hR hs hl hv)
theorem bw_max {i : Nat} {x y : Int32} (pc' : Nat) (hd : decode k.2.1 pc = .ok (.invokestatic i, 3)) (hp : pc + 3 = pc') (hw1 : Cond.methodLink k.1.cls i Lib.Math.max.name ∈ bw_uw) (hw2 : Cond.static Lib.Math.max.name ∈ bw_uw) (hw3 : Cond.initialized "java/lang/Math" ∈ bw_uw) (hw4 : Cond.code Lib.Math.max.name Lib.Math.max.code 2 (some .int) ∈ bw_uw) (hf : 1 ≤ R.frames) (hcat : (st.map fun v => v.category).sum + 13 ≤ R.locals) (hc : cu ≤ R.cells) (hsl : su ≤ R.slots)
    (kk : bw_W g R k Q cu su pc' lv (.int (if x < y then y else x) :: st) A) : bw_W g R k Q cu su pc lv (.int y :: .int x :: st) A := by
  intro p l e s m args below meth c H locs ls hX hR hs hl hv
  subst hp
  have hts := hX.2.2.2.2.2.1
  exact va_mmax hX.1 hX.2.1 (hX.2.2.1.trans hv.1.symm) hX.2.2.2.2.1 (hts _ hw1) (hts _ hw2) (hts _ hw3) (hts _ hw4) hf hcat hc hsl hd (kk p l e s m args below meth c H locs ls hX hR hs hl hv)
/-- System.arraycopy between two int arrays -/
theorem bw_copy {i a b na nb : Nat} {f h : Nat → Int32} {sp dp n : Int32} (pc' : Nat) (hd : decode k.2.1 pc = .ok (.invokestatic i, 3)) (hp : pc + 3 = pc') (hw1 : Cond.methodLink k.1.cls i arraycopyName ∈ bw_uw) (hw2 : Cond.native arraycopyName ∈ bw_uw) (hw3 : Cond.static arraycopyName ∈ bw_uw) (hw4 : Cond.initialized "java/lang/System" ∈ bw_uw)
    (ha : A.2 a = some (bw_ai g na f)) (hb : A.2 b = some (bw_ai g nb h)) (h1 : ¬ sp < 0) (h2 : ¬ dp < 0) (h3 : ¬ n < 0) (h4 : sp.toNatClampNeg + n.toNatClampNeg ≤ na) (h5 : dp.toNatClampNeg + n.toNatClampNeg ≤ nb) (hf : 1 ≤ R.frames) (hcat : (st.map fun v => v.category).sum + (nativeFrameWords "java/lang/System" "arraycopy" 5 + 11) ≤ R.locals)
    (kk : bw_W g R k Q cu su pc' lv st (bw_up A b (bw_ai g nb (va_cpy f h sp.toNatClampNeg dp.toNatClampNeg n.toNatClampNeg)))) : bw_W g R k Q cu su pc lv (.int n :: .int dp :: .ref b :: .int sp :: .ref a :: st) A := by
  intro p l e s m args below meth c H locs ls hX hR hs hl hv
  subst hp
  have hts := hX.2.2.2.2.2.1
  have hK := hX.2.2.2.2.2.2.2.2.2.2.1.1
  have nn : ∀ z : Int32, ¬ z < 0 → z.toInt = (z.toNatClampNeg : Int) := by
    intro z hz
    have hz0 : (0 : Int) ≤ z.toInt := by
      have := Int32.not_lt.mp hz
      simpa using Int32.le_iff_toInt_le.mp this
    show z.toInt = ((z.toInt.toNat : Nat) : Int)
    omega
  intro T hT X
  have hc0 : H[a]? = some (vp_cell (g.2.1 0) (na, .inl f)) := (hR.2.2.2 a _ ha).2
  have hc1 : H[b]? = some (vp_cell (g.2.1 0) (nb, .inl h)) := (hR.2.2.2 b _ hb).2
  obtain ⟨-, k0, hk0, cm0, hkk0⟩ := (hK.2 0 _ rfl).1 na (fun j => .int (f j))
  obtain ⟨-, k1, hk1, cm1, hkk1⟩ := (hK.2 0 _ rfl).1 nb (fun j => .int (h j))
  obtain ⟨vm', X', step⟩ := X.arraycopy hX.1 hX.2.2.2.2.1 (hts _ hw1) (hts _ hw2) (hts _ hw3) (hts _ hw4) (src := a) (dst := b) (cs := vp_cell (g.2.1 0) (na, .inl f)) (cd := vp_cell (g.2.1 0) (nb, .inl h)) (srcPos := sp) (destPos := dp) (n := n) (by rw [hT]; exact hc0) (by rw [hT]; exact hc1)
    (fun _ h => by cases h) (fun _ h => by cases h) (fun h => by cases h) (fun h => by cases h) hk0 hk1 hkk0 hkk1 (by rfl) h1 h2 h3
    (by rw [nn sp h1, nn n h3]; show ¬ _ > ((arrV (g.2.1 0) na (fun j => .int (f j))).slots.size : Int); rw [arrV_size]; omega)
    (by rw [nn dp h2, nn n h3]; show ¬ _ > ((arrV (g.2.1 0) nb (fun j => .int (h j))).slots.size : Int); rw [arrV_size]; omega)
    (fun vm₁ _ i hi => by
      have e : (vp_cell (g.2.1 0) (na, .inl f)).slots.getD (sp.toNatClampNeg + i) .null = .int (f (sp.toNatClampNeg + i)) := by
        show (arrV (g.2.1 0) na (fun j => .int (f j))).slots.getD _ _ = _
        rw [Array.getD_eq_getD_getElem?, arrV_read _ _ (by omega)]
        rfl
      refine ⟨?_, ?_⟩
      · rw [e]
        rfl
      · rw [e]
        exact trivial)
    (g := F0 m pc ls (.int n :: .int dp :: .ref b :: .int sp :: .ref a :: st)) rfl (by rw [hX.2.2.1]; exact hv.1) (rest := st) rfl (by rw [hX.2.1]; exact hd) hf (by show 2 * 0 + _ + _ ≤ _; omega)
  have e1 : copied (vp_cell (g.2.1 0) (na, .inl f)) (vp_cell (g.2.1 0) (nb, .inl h)) sp dp n = vp_cell (g.2.1 0) (nb, .inl (va_cpy f h sp.toNatClampNeg dp.toNatClampNeg n.toNatClampNeg)) := va_copied (fun z => .int z) (g.2.1 0) (g.2.1 0) f h h4
  rw [e1] at X' step
  have hlt : b < H.size := (Array.getElem?_eq_some_iff.mp hc1).1
  have hheap : ((T.setVm vm').setCell b (vp_cell (g.2.1 0) (nb, .inl (va_cpy f h sp.toNatClampNeg dp.toNatClampNeg n.toNatClampNeg)))).heap = H.setIfInBounds b (vp_cell (g.2.1 0) (nb, .inl (va_cpy f h sp.toNatClampNeg dp.toNatClampNeg n.toNatClampNeg))) := by rw [← hT]; rfl
  have oq : ∀ q : Nat, q ≠ b → (H.setIfInBounds b (vp_cell (g.2.1 0) (nb, .inl (va_cpy f h sp.toNatClampNeg dp.toNatClampNeg n.toNatClampNeg))))[q]? = H[q]? := fun q hq => by simp [Array.getElem?_setIfInBounds, Ne.symm hq]
  obtain ⟨t, a1, b1⟩ := kk p l e s m args below meth c _ _ ls hX (hR.up hb (by simp) oq (show (H.setIfInBounds b _)[b]? = some _ by simp [Array.getElem?_setIfInBounds, hlt])) (by simp; exact hs) (fun q hq => by
      rcases List.mem_append.mp hq with h | h
      · exact hl q h
      · obtain ⟨z, -, hz⟩ := List.mem_map.mp h
        rw [← hz]
        exact (hR.2.2.2 b _ hb).1) hv _ hheap X'
  exact ⟨t, step t a1, b1⟩
/-! throw new E("text") -/
def bw_tl (own : String) (ik ic : Nat) (E : String) (names : List String) : Prop := Bundle.fit E = true ∧ (∀ n ∈ names, Bundle.fit n = true) ∧ Cond.classLink own ik E ∈ bw_uw ∧ Cond.initialized E ∈ bw_uw ∧ (∀ w ∈ vx_atS own ic E names, w ∈ bw_uw ∨ w ∈ bw_fw)
theorem bw_ot {w : Cond} (h : w ∈ bw_uw ∨ w ∈ bw_fw) : vx_ot w = true := by
  rcases h with h | h
  · unfold vx_ot
    rw [bw_uwg h]
    simp
  · have hf : bw_fc w = true := (List.mem_filter.mp h).2
    cases w <;> first | rfl | (cases hf)
theorem bw_throwX {p : Program} {l : Launch} {s : State} {m : MethodId} {args : Array Value} {meth : Method} {c : Code} {H : Heap} {locs : List Loc} {E : String} {own : String} {ic : Nat} {names : List String} (hX : bw_X g k p l s m args meth c) (h : ∀ w ∈ vx_atS own ic E names, w ∈ bw_uw ∨ w ∈ bw_fw) : ∀ w ∈ vx_atS own ic E names, w.before args s = true := by
  intro w hw
  rcases h w hw with h | hx
  · exact hX.2.2.2.2.2.1 w h
  · exact bw_fw.use hx (hX.2.2.2.2.2.2.2.2.2.2.1.2.2.2.2.1 w hx)
theorem bw_thrown {H : Heap} {s t : State} {E : String} (hR : bw_R g A H) (hq : ∀ n : Nat, A.1 ≤ n → Q (.inr E) (n, A.2)) (hz : H.size ≤ t.heap.size) (hk : ∀ q : Nat, q < H.size → t.heap[q]? = H[q]?) : bw_x g Q E s t := by
  obtain ⟨h1, h2, h3, h4⟩ := hR
  refine ⟨(t.heap.size, A.2), ⟨rfl, by show _ ≤ t.heap.size; omega, fun q hq => by rw [hk q (by omega)]; exact h3 q hq, fun a e ha => ?_⟩, hq _ (by omega)⟩
  have h5 := h4 a e ha
  exact ⟨h5.1, va_at.kept h5.2 (hk a (va_at.lt h5.2))⟩
theorem bw_throw {ik is ic : Nat} {E : String} (text : String) {names : List String} (d0 : decode k.2.1 pc = .ok (.new ik, 3)) (d3 : decode k.2.1 (pc + 3) = .ok (.dup, 1)) (d4 : decode k.2.1 (pc + 4) = .ok (.ldc is, 2)) (d6 : decode k.2.1 (pc + 6) = .ok (.invokespecial ic, 3)) (d9 : decode k.2.1 (pc + 9) = .ok (.athrow, 1))
    (ht : bw_tl k.1.cls ik ic E names) (hs0 : (k.1.cls, is, text) ∈ bw_ss) (h0 : k.2.2.2.2 = []) (hf : names.length + 3 < R.frames) (hlo : (st.map fun v => v.category).sum + (13 * (names.length + 1) + 43) ≤ R.locals) (hc : cu + 1 ≤ R.cells) (hsl : su + 6 ≤ R.slots)
    (hq : ∀ n : Nat, A.1 ≤ n → Q (.inr E) (n, A.2)) : bw_W g R k Q cu su pc lv st A := by
  intro p l e s m args below meth c H locs ls hX hR hs hl hv
  obtain ⟨t1, t2, t3, t4, t5⟩ := ht
  have hts := hX.2.2.2.2.2.1
  have hgl := hX.2.2.2.2.2.2.2.2.2.2.1
  have hkp : ∀ a : Nat, a < g.2.2.1.size → ¬ bw_fr g a → s.heap[a]? = g.2.2.1[a]? := fun a h1 h2 => hX.2.2.2.2.2.2.2.2.2.2.2.2 a h1
  obtain ⟨sa, hsa⟩ := hgl.2.2.2.1 _ hs0
  refine vx_throwS (A := bw_fr g) hX.1 hX.2.1 hX.2.2.2.2.2.2.2.2.2.1 hX.2.2.2.2.1 t1 t2 (hts _ t3) (hts _ t4) hsa (bw_throwX (H := H) (locs := locs) hX t5) (fun w hw => ?_) (vx_Zq.kept hgl.2.2.1.1 hkp) (vx_Zq.kept hgl.2.2.1.2 hkp) (bw_Sx hX hR hs hl) (hv.1.trans hX.2.2.1.symm) d0 d3 d4 d6 d9 (fun x hx => ?_) hf hlo hc hsl hX.2.2.2.2.2.2.1 (fun t _ hz hk9 => bw_thrown hR hq hz hk9) hl hc hsl
  · rcases List.mem_cons.mp hw with rfl | hw
    · exact bw_ot (Or.inl t3)
    · rcases List.mem_cons.mp hw with rfl | hw
      · exact bw_ot (Or.inl t4)
      · exact bw_ot (t5 w hw)
  · rw [hX.2.2.2.2.2.2.2.2.1, h0] at hx
    cases hx
theorem bw_throwW {ik is ic : Nat} {E : String} (text : String) {names : List String} (d0 : decode k.2.1 pc = .ok (.new ik, 3)) (d3 : decode k.2.1 (pc + 3) = .ok (.dup, 1)) (d4 : decode k.2.1 (pc + 4) = .ok (.ldc_w is, 3)) (d6 : decode k.2.1 (pc + 7) = .ok (.invokespecial ic, 3)) (d9 : decode k.2.1 (pc + 10) = .ok (.athrow, 1))
    (ht : bw_tl k.1.cls ik ic E names) (hs0 : (k.1.cls, is, text) ∈ bw_ss) (h0 : k.2.2.2.2 = []) (hf : names.length + 3 < R.frames) (hlo : (st.map fun v => v.category).sum + (13 * (names.length + 1) + 43) ≤ R.locals) (hc : cu + 1 ≤ R.cells) (hsl : su + 6 ≤ R.slots)
    (hq : ∀ n : Nat, A.1 ≤ n → Q (.inr E) (n, A.2)) : bw_W g R k Q cu su pc lv st A := by
  intro p l e s m args below meth c H locs ls hX hR hs hl hv
  obtain ⟨t1, t2, t3, t4, t5⟩ := ht
  have hts := hX.2.2.2.2.2.1
  have hgl := hX.2.2.2.2.2.2.2.2.2.2.1
  have hkp : ∀ a : Nat, a < g.2.2.1.size → ¬ bw_fr g a → s.heap[a]? = g.2.2.1[a]? := fun a h1 h2 => hX.2.2.2.2.2.2.2.2.2.2.2.2 a h1
  obtain ⟨sa, hsa⟩ := hgl.2.2.2.1 _ hs0
  refine vx_throwSW (A := bw_fr g) hX.1 hX.2.1 hX.2.2.2.2.2.2.2.2.2.1 hX.2.2.2.2.1 t1 t2 (hts _ t3) (hts _ t4) hsa (bw_throwX (H := H) (locs := locs) hX t5) (fun w hw => ?_) (vx_Zq.kept hgl.2.2.1.1 hkp) (vx_Zq.kept hgl.2.2.1.2 hkp) (bw_Sx hX hR hs hl) (hv.1.trans hX.2.2.1.symm) d0 d3 d4 d6 d9 (fun x hx => ?_) hf hlo hc hsl hX.2.2.2.2.2.2.1 (fun t _ hz hk9 => bw_thrown hR hq hz hk9) hl hc hsl
  · rcases List.mem_cons.mp hw with rfl | hw
    · exact bw_ot (Or.inl t3)
    · rcases List.mem_cons.mp hw with rfl | hw
      · exact bw_ot (Or.inl t4)
      · exact bw_ot (t5 w hw)
  · rw [hX.2.2.2.2.2.2.2.2.1, h0] at hx
    cases hx
/-! the script -/
theorem bw_sld {j : Int32} (pc' : Nat) (hd : decode k.2.1 pc = .ok (.iaload, 1)) (hp : pc + 1 = pc') (hin : vp_in j g.2.2.2.2.2.1)
    (kk : bw_W g R k Q cu su pc' lv (.int (g.2.2.2.2.2.2 j.toNatClampNeg) :: st) A) : bw_W g R k Q cu su pc lv (.int j :: .ref g.2.2.2.2.1 :: st) A := by
  intro p l e s m args below meth c H locs ls hX hR hs hl hv
  subst hp
  obtain ⟨hx, hb⟩ := hX.2.2.2.2.2.2.2.2.2.2.1.2.2.2.2.2.2.2.2.2
  refine va_sld (A := bw_fr g) hX.1 hX.2.1 hx hb (Nat.not_le.mpr hb) (H0 := g.2.2.1) ⟨?_, fun q h1 h2 => hR.2.2.1 q h1, hl⟩ hin hd (kk p l e s m args below meth c H locs ls hX hR hs hl hv)
  have := hR.2.1
  have h2 := hR.1
  show bw_lo g ≤ H.size
  omega
theorem bw_slen (pc' : Nat) (hd : decode k.2.1 pc = .ok (.arraylength, 1)) (hp : pc + 1 = pc')
    (kk : bw_W g R k Q cu su pc' lv (.int (Int32.ofNat g.2.2.2.2.2.1) :: st) A) : bw_W g R k Q cu su pc lv (.ref g.2.2.2.2.1 :: st) A := by
  intro p l e s m args below meth c H locs ls hX hR hs hl hv
  subst hp
  obtain ⟨hx, hb⟩ := hX.2.2.2.2.2.2.2.2.2.2.1.2.2.2.2.2.2.2.2.2
  refine va_slen (A := bw_fr g) hX.1 hX.2.1 hx hb (Nat.not_le.mpr hb) (H0 := g.2.2.1) ⟨?_, fun q h1 h2 => hR.2.2.1 q h1, hl⟩ hd (kk p l e s m args below meth c H locs ls hX hR hs hl hv)
  have := hR.2.1
  have h2 := hR.1
  show bw_lo g ≤ H.size
  omega

end BWR
end
section
theorem bw_in {i : Nat} {w : Cond} (h : lw_tbl[i]? = some w) (hg : goodWord w = true) : w ∈ bw_uw := List.mem_filter.mpr ⟨List.mem_of_getElem? h, hg⟩
theorem bw_ins {l : List Cond} (h : l.all (fun w => decide (w ∈ lw_tbl) && goodWord w) = true) : ∀ w ∈ l, w ∈ bw_uw := by
  intro w hw
  have h1 := List.all_eq_true.mp h w hw
  simp only [Bool.and_eq_true, decide_eq_true_eq] at h1
  exact List.mem_filter.mpr h1
theorem uX_X0 : ∀ w ∈ u_ws RX0 TX0 1, w ∈ bw_uw := bw_ins (by decide +kernel)
theorem uX_X1 : ∀ w ∈ u_ws RX1 TX1 7, w ∈ bw_uw := bw_ins (by decide +kernel)
theorem uX_X2 : ∀ w ∈ u_ws RX2 TX2 6, w ∈ bw_uw := bw_ins (by decide +kernel)
theorem uX_X3 : ∀ w ∈ u_ws RX3 TX3 6, w ∈ bw_uw := bw_ins (by decide +kernel)
theorem uX_X4 : ∀ w ∈ u_ws RX4 TX4 3, w ∈ bw_uw := bw_ins (by decide +kernel)
theorem uX_X5 : ∀ w ∈ u_ws RX5 TX5 3, w ∈ bw_uw := bw_ins (by decide +kernel)
theorem uX_X6 : ∀ w ∈ u_ws RX6 TX6 2, w ∈ bw_uw := bw_ins (by decide +kernel)
theorem uX_X7 : ∀ w ∈ u_ws RX7 TX7 3, w ∈ bw_uw := bw_ins (by decide +kernel)
theorem uX_X8 : ∀ w ∈ u_ws RX8 TX8 7, w ∈ bw_uw := bw_ins (by decide +kernel)
theorem uX_X9 : ∀ w ∈ u_ws RX9 TX9 17, w ∈ bw_uw := bw_ins (by decide +kernel)
theorem uX_X10 : ∀ w ∈ u_ws RX10 TX10 30, w ∈ bw_uw := bw_ins (by decide +kernel)
abbrev mX0_init : bw_M := (yX0_init, cX0_init, 2, (Option.none : Option FieldType), [])
abbrev mX0_toRest : bw_M := (yX0_toRest, cX0_toRest, 4, (Option.none : Option FieldType), [])
abbrev mX0_toQuotient : bw_M := (yX0_toQuotient, cX0_toQuotient, 3, (Option.none : Option FieldType), [])
abbrev mX0_divideInPlace : bw_M := (yX0_divideInPlace, cX0_divideInPlace, 7, (Option.none : Option FieldType), [])
abbrev mX0_toGreatestDivisor : bw_M := (yX0_toGreatestDivisor, cX0_toGreatestDivisor, 7, (Option.none : Option FieldType), [])
abbrev mX0_takeOut : bw_M := (yX0_takeOut, cX0_takeOut, 4, (Option.some FieldType.boolean), [])
abbrev mX0_toSquareRest : bw_M := (yX0_toSquareRest, cX0_toSquareRest, 5, (Option.none : Option FieldType), [])
abbrev mX1_init : bw_M := (yX1_init, cX1_init, 2, (Option.none : Option FieldType), [])
abbrev mX1_load : bw_M := (yX1_load, cX1_load, 3, (Option.none : Option FieldType), [])
abbrev mX1_appendIdentity : bw_M := (yX1_appendIdentity, cX1_appendIdentity, 3, (Option.none : Option FieldType), [])
abbrev mX1_appendColumn : bw_M := (yX1_appendColumn, cX1_appendColumn, 3, (Option.none : Option FieldType), [])
abbrev mX1_reduce : bw_M := (yX1_reduce, cX1_reduce, 4, (Option.some FieldType.int), [])
abbrev mX1_rowWithMember : bw_M := (yX1_rowWithMember, cX1_rowWithMember, 3, (Option.some FieldType.int), [])
abbrev mX1_exchange : bw_M := (yX1_exchange, cX1_exchange, 5, (Option.none : Option FieldType), [])
abbrev mX1_free : bw_M := (yX1_free, cX1_free, 4, (Option.none : Option FieldType), [])
abbrev mX1_leavesOver : bw_M := (yX1_leavesOver, cX1_leavesOver, 3, (Option.some FieldType.boolean), [])
abbrev mX1_solution : bw_M := (yX1_solution, cX1_solution, 4, (Option.some FieldType.int), [])
abbrev mX1_copyAppended : bw_M := (yX1_copyAppended, cX1_copyAppended, 3, (Option.none : Option FieldType), [])
abbrev mX2_init : bw_M := (yX2_init, cX2_init, 3, (Option.none : Option FieldType), [])
abbrev mX2_count : bw_M := (yX2_count, cX2_count, 5, (Option.none : Option FieldType), [])
abbrev mX2_takeParts : bw_M := (yX2_takeParts, cX2_takeParts, 4, (Option.some FieldType.int), [])
abbrev mX3_init : bw_M := (yX3_init, cX3_init, 5, (Option.none : Option FieldType), [])
abbrev mX3_firstUnsplit : bw_M := (yX3_firstUnsplit, cX3_firstUnsplit, 5, (Option.some FieldType.int), [])
abbrev mX3_splits : bw_M := (yX3_splits, cX3_splits, 4, (Option.some FieldType.boolean), [])
abbrev mX3_restOfBits : bw_M := (yX3_restOfBits, cX3_restOfBits, 5, (Option.some FieldType.int), [])
abbrev mX3_highestBit : bw_M := (yX3_highestBit, cX3_highestBit, 1, (Option.some FieldType.int), [])
abbrev mX3_slowProduct : bw_M := (yX3_slowProduct, cX3_slowProduct, 6, (Option.some FieldType.int), [])
abbrev mX3_slowPower : bw_M := (yX3_slowPower, cX3_slowPower, 6, (Option.some FieldType.int), [])
abbrev mX3_leastGenerator : bw_M := (yX3_leastGenerator, cX3_leastGenerator, 2, (Option.some FieldType.int), [])
abbrev mX3_generates : bw_M := (yX3_generates, cX3_generates, 6, (Option.some FieldType.boolean), [])
abbrev mX3_logOf : bw_M := (yX3_logOf, cX3_logOf, 2, (Option.some FieldType.int), [])
abbrev mX3_mul : bw_M := (yX3_mul, cX3_mul, 4, (Option.some FieldType.int), [])
abbrev mX3_inverse : bw_M := (yX3_inverse, cX3_inverse, 3, (Option.some FieldType.int), [])
abbrev mX3_ratio : bw_M := (yX3_ratio, cX3_ratio, 3, (Option.some FieldType.int), [])
abbrev mX3_raised : bw_M := (yX3_raised, cX3_raised, 8, (Option.some FieldType.int), [])
abbrev mX3_orderOf : bw_M := (yX3_orderOf, cX3_orderOf, 7, (Option.some FieldType.int), [])
abbrev mX3_addMultiple : bw_M := (yX3_addMultiple, cX3_addMultiple, 11, (Option.none : Option FieldType), [])
abbrev mX3_scale : bw_M := (yX3_scale, cX3_scale, 5, (Option.none : Option FieldType), [])
abbrev mX4_init : bw_M := (yX4_init, cX4_init, 2, (Option.none : Option FieldType), [])
abbrev mX4_take : bw_M := (yX4_take, cX4_take, 4, (Option.none : Option FieldType), [])
abbrev mX4_run : bw_M := (yX4_run, cX4_run, 5, (Option.none : Option FieldType), [])
abbrev mX4_multiplyAndAdd : bw_M := (yX4_multiplyAndAdd, cX4_multiplyAndAdd, 7, (Option.none : Option FieldType), [])
abbrev mX5_init : bw_M := (yX5_init, cX5_init, 3, (Option.none : Option FieldType), [])
abbrev mX6_init : bw_M := (yX6_init, cX6_init, 2, (Option.none : Option FieldType), [])
abbrev mX6_countZeros : bw_M := (yX6_countZeros, cX6_countZeros, 6, (Option.some FieldType.int), [])
abbrev mX6_addRow : bw_M := (yX6_addRow, cX6_addRow, 7, (Option.some FieldType.int), [])
abbrev mX6_expanded : bw_M := (yX6_expanded, cX6_expanded, 7, (Option.some FieldType.int), [])
abbrev mX7_init : bw_M := (yX7_init, cX7_init, 2, (Option.none : Option FieldType), [])
abbrev mX7_clear : bw_M := (yX7_clear, cX7_clear, 2, (Option.none : Option FieldType), [])
abbrev mX7_load : bw_M := (yX7_load, cX7_load, 3, (Option.none : Option FieldType), [])
abbrev mX7_copyFrom : bw_M := (yX7_copyFrom, cX7_copyFrom, 2, (Option.none : Option FieldType), [])
abbrev mX7_settle : bw_M := (yX7_settle, cX7_settle, 3, (Option.none : Option FieldType), [])
abbrev mX7_addScaled : bw_M := (yX7_addScaled, cX7_addScaled, 4, (Option.none : Option FieldType), [])
abbrev mX7_addMember : bw_M := (yX7_addMember, cX7_addMember, 2, (Option.none : Option FieldType), [])
abbrev mX7_becomeX : bw_M := (yX7_becomeX, cX7_becomeX, 1, (Option.none : Option FieldType), [])
abbrev mX7_shiftDown : bw_M := (yX7_shiftDown, cX7_shiftDown, 3, (Option.none : Option FieldType), [])
abbrev mX8_init : bw_M := (yX8_init, cX8_init, 4, (Option.none : Option FieldType), [])
abbrev mX8_valueAt : bw_M := (yX8_valueAt, cX8_valueAt, 5, (Option.some FieldType.int), [])
abbrev mX8_makeRests : bw_M := (yX8_makeRests, cX8_makeRests, 3, (Option.none : Option FieldType), [])
abbrev mX8_find : bw_M := (yX8_find, cX8_find, 6, (Option.some FieldType.int), [])
abbrev mX8_keepLower : bw_M := (yX8_keepLower, cX8_keepLower, 3, (Option.none : Option FieldType), [])
abbrev mX9_init : bw_M := (yX9_init, cX9_init, 3, (Option.none : Option FieldType), [])
abbrev mX9_poly : bw_M := (yX9_poly, cX9_poly, 1, (Option.some FieldType.int), [])
abbrev mX9_generator : bw_M := (yX9_generator, cX9_generator, 1, (Option.some FieldType.int), [])
abbrev mX9_product : bw_M := (yX9_product, cX9_product, 3, (Option.some FieldType.int), [])
abbrev mX9_quotient : bw_M := (yX9_quotient, cX9_quotient, 3, (Option.some FieldType.int), [])
abbrev mX9_power : bw_M := (yX9_power, cX9_power, 4, (Option.some FieldType.int), [])
abbrev mX9_log : bw_M := (yX9_log, cX9_log, 2, (Option.some FieldType.int), [])
abbrev mX9_order : bw_M := (yX9_order, cX9_order, 2, (Option.some FieldType.int), [])
abbrev mX9_put : bw_M := (yX9_put, cX9_put, 2, (Option.some FieldType.int), [])
abbrev mX9_row : bw_M := (yX9_row, cX9_row, 2, (Option.some FieldType.int), [])
abbrev mX9_drop : bw_M := (yX9_drop, cX9_drop, 2, (Option.some FieldType.int), [])
abbrev mX9_matrix : bw_M := (yX9_matrix, cX9_matrix, 3, (Option.some FieldType.int), [])
abbrev mX9_powers : bw_M := (yX9_powers, cX9_powers, 7, (Option.some FieldType.int), [])
abbrev mX9_sums : bw_M := (yX9_sums, cX9_sums, 6, (Option.some FieldType.int), [])
abbrev mX9_size : bw_M := (yX9_size, cX9_size, 4, (Option.some FieldType.int), [])
abbrev mX9_cell : bw_M := (yX9_cell, cX9_cell, 5, (Option.some FieldType.int), [])
abbrev mX9_set : bw_M := (yX9_set, cX9_set, 8, (Option.some FieldType.int), [])
abbrev mX9_times : bw_M := (yX9_times, cX9_times, 9, (Option.some FieldType.int), [])
abbrev mX9_invert : bw_M := (yX9_invert, cX9_invert, 4, (Option.some FieldType.int), [])
abbrev mX9_rank : bw_M := (yX9_rank, cX9_rank, 3, (Option.some FieldType.int), [])
abbrev mX9_determinant : bw_M := (yX9_determinant, cX9_determinant, 3, (Option.some FieldType.int), [])
abbrev mX9_singular : bw_M := (yX9_singular, cX9_singular, 2, (Option.some FieldType.int), [])
abbrev mX9_solve : bw_M := (yX9_solve, cX9_solve, 5, (Option.some FieldType.int), [])
abbrev mX9_polynomial : bw_M := (yX9_polynomial, cX9_polynomial, 2, (Option.some FieldType.int), [])
abbrev mX9_through : bw_M := (yX9_through, cX9_through, 3, (Option.some FieldType.int), [])
abbrev mX9_degree : bw_M := (yX9_degree, cX9_degree, 2, (Option.some FieldType.int), [])
abbrev mX9_coefficient : bw_M := (yX9_coefficient, cX9_coefficient, 4, (Option.some FieldType.int), [])
abbrev mX9_value : bw_M := (yX9_value, cX9_value, 4, (Option.some FieldType.int), [])
abbrev mX9_plus : bw_M := (yX9_plus, cX9_plus, 5, (Option.some FieldType.int), [])
abbrev mX9_multiply : bw_M := (yX9_multiply, cX9_multiply, 6, (Option.some FieldType.int), [])
abbrev mX9_divide : bw_M := (yX9_divide, cX9_divide, 6, (Option.some FieldType.int), [])
abbrev mX9_common : bw_M := (yX9_common, cX9_common, 5, (Option.some FieldType.int), [])
abbrev mX9_root : bw_M := (yX9_root, cX9_root, 4, (Option.some FieldType.int), [])
abbrev mX9_often : bw_M := (yX9_often, cX9_often, 5, (Option.some FieldType.int), [])
abbrev mX9_parts : bw_M := (yX9_parts, cX9_parts, 5, (Option.some FieldType.int), [])
abbrev mX9_span : bw_M := (yX9_span, cX9_span, 2, (Option.some FieldType.int), [])
abbrev mX9_forth : bw_M := (yX9_forth, cX9_forth, 4, (Option.some FieldType.int), [])
abbrev mX9_back : bw_M := (yX9_back, cX9_back, 2, (Option.some FieldType.int), [])
abbrev mX9_told : bw_M := (yX9_told, cX9_told, 2, (Option.some FieldType.int), [])
abbrev mX9_needMember : bw_M := (yX9_needMember, cX9_needMember, 2, (Option.none : Option FieldType), [])
abbrev mX9_needSides : bw_M := (yX9_needSides, cX9_needSides, 2, (Option.none : Option FieldType), [])
abbrev mX9_needSquare : bw_M := (yX9_needSquare, cX9_needSquare, 1, (Option.none : Option FieldType), [])
abbrev mX9_needMatrixRoom : bw_M := (yX9_needMatrixRoom, cX9_needMatrixRoom, 1, (Option.none : Option FieldType), [])
abbrev mX9_needPolynomialRoom : bw_M := (yX9_needPolynomialRoom, cX9_needPolynomialRoom, 1, (Option.none : Option FieldType), [])
abbrev mX9_needSpan : bw_M := (yX9_needSpan, cX9_needSpan, 1, (Option.none : Option FieldType), [])
abbrev mX9_matrixAt : bw_M := (yX9_matrixAt, cX9_matrixAt, 3, (Option.some (FieldType.object "ByteFields$Matrix")), [])
abbrev mX9_placeIn : bw_M := (yX9_placeIn, cX9_placeIn, 3, (Option.some FieldType.int), [])
abbrev mX9_polynomialAt : bw_M := (yX9_polynomialAt, cX9_polynomialAt, 3, (Option.some (FieldType.object "ByteFields$Polynomial")), [])
abbrev mX9_keepMatrix : bw_M := (yX9_keepMatrix, cX9_keepMatrix, 3, (Option.some FieldType.int), [])
abbrev mX9_keepPolynomial : bw_M := (yX9_keepPolynomial, cX9_keepPolynomial, 4, (Option.some FieldType.int), [])
abbrev mX9_hasAlike : bw_M := (yX9_hasAlike, cX9_hasAlike, 4, (Option.some FieldType.boolean), [])
abbrev mX9_hasXorOfAhead : bw_M := (yX9_hasXorOfAhead, cX9_hasXorOfAhead, 3, (Option.some FieldType.boolean), [])
abbrev mX9_xorOfChosen : bw_M := (yX9_xorOfChosen, cX9_xorOfChosen, 5, (Option.some FieldType.int), [])
abbrev mX9_valueOf : bw_M := (yX9_valueOf, cX9_valueOf, 5, (Option.some FieldType.int), [])
abbrev mX10_thrown : bw_M := (yX10_thrown, cX10_thrown, 1, (Option.some FieldType.int), [])
abbrev mX10_fail : bw_M := (yX10_fail, cX10_fail, 2, (Option.some FieldType.int), [])
abbrev mX10_init : bw_M := (yX10_init, cX10_init, 3, (Option.none : Option FieldType), [])
abbrev mX10_isPrime : bw_M := (yX10_isPrime, cX10_isPrime, 4, (Option.some FieldType.boolean), [])
abbrev mX10_degreeOf : bw_M := (yX10_degreeOf, cX10_degreeOf, 3, (Option.some FieldType.int), [])
abbrev mX10_restOf : bw_M := (yX10_restOf, cX10_restOf, 5, (Option.some FieldType.int), [])
abbrev mX10_isMember : bw_M := (yX10_isMember, cX10_isMember, 2, (Option.some FieldType.boolean), [])
abbrev mX10_mul : bw_M := (yX10_mul, cX10_mul, 6, (Option.some FieldType.int), [])
abbrev mX10_raised : bw_M := (yX10_raised, cX10_raised, 6, (Option.some FieldType.int), [])
abbrev mX10_inverse : bw_M := (yX10_inverse, cX10_inverse, 2, (Option.some FieldType.int), [])
abbrev mX10_factor : bw_M := (yX10_factor, cX10_factor, 1, (Option.some FieldType.int), [])
abbrev mX10_factors : bw_M := (yX10_factors, cX10_factors, 1, (Option.some FieldType.int), [])
abbrev mX10_orderOf : bw_M := (yX10_orderOf, cX10_orderOf, 4, (Option.some FieldType.int), [])
abbrev mX10_poly : bw_M := (yX10_poly, cX10_poly, 1, (Option.some FieldType.int), [])
abbrev mX10_generator : bw_M := (yX10_generator, cX10_generator, 1, (Option.some FieldType.int), [])
abbrev mX10_product : bw_M := (yX10_product, cX10_product, 3, (Option.some FieldType.int), [])
abbrev mX10_quotient : bw_M := (yX10_quotient, cX10_quotient, 3, (Option.some FieldType.int), [])
abbrev mX10_power : bw_M := (yX10_power, cX10_power, 6, (Option.some FieldType.int), [])
abbrev mX10_log : bw_M := (yX10_log, cX10_log, 11, (Option.some FieldType.int), [])
abbrev mX10_order : bw_M := (yX10_order, cX10_order, 2, (Option.some FieldType.int), [])
abbrev mX10_put : bw_M := (yX10_put, cX10_put, 2, (Option.some FieldType.int), [])
abbrev mX10_row : bw_M := (yX10_row, cX10_row, 2, (Option.some FieldType.int), [])
abbrev mX10_drop : bw_M := (yX10_drop, cX10_drop, 2, (Option.some FieldType.int), [])
abbrev mX10_hasAlike : bw_M := (yX10_hasAlike, cX10_hasAlike, 6, (Option.some FieldType.boolean), [])
abbrev mX10_isSize : bw_M := (yX10_isSize, cX10_isSize, 1, (Option.some FieldType.boolean), [])
abbrev mX10_isMatrix : bw_M := (yX10_isMatrix, cX10_isMatrix, 2, (Option.some FieldType.boolean), [])
abbrev mX10_at : bw_M := (yX10_at, cX10_at, 4, (Option.some FieldType.int), [])
abbrev mX10_made : bw_M := (yX10_made, cX10_made, 4, (Option.some FieldType.int), [])
abbrev mX10_matrix : bw_M := (yX10_matrix, cX10_matrix, 3, (Option.some FieldType.int), [])
abbrev mX10_powers : bw_M := (yX10_powers, cX10_powers, 6, (Option.some FieldType.int), [])
abbrev mX10_sums : bw_M := (yX10_sums, cX10_sums, 6, (Option.some FieldType.int), [])
abbrev mX10_size : bw_M := (yX10_size, cX10_size, 3, (Option.some FieldType.int), [])
abbrev mX10_isCell : bw_M := (yX10_isCell, cX10_isCell, 4, (Option.some FieldType.boolean), [])
abbrev mX10_cell : bw_M := (yX10_cell, cX10_cell, 4, (Option.some FieldType.int), [])
abbrev mX10_set : bw_M := (yX10_set, cX10_set, 6, (Option.some FieldType.int), [])
abbrev mX10_times : bw_M := (yX10_times, cX10_times, 8, (Option.some FieldType.int), [])
abbrev mX10_bitsOf : bw_M := (yX10_bitsOf, cX10_bitsOf, 3, (Option.some FieldType.int), [])
abbrev mX10_minors : bw_M := (yX10_minors, cX10_minors, 7, (Option.none : Option FieldType), [])
abbrev mX10_singular : bw_M := (yX10_singular, cX10_singular, 5, (Option.some FieldType.int), [])
abbrev mX10_determinant : bw_M := (yX10_determinant, cX10_determinant, 3, (Option.some FieldType.int), [])
abbrev mX10_invert : bw_M := (yX10_invert, cX10_invert, 8, (Option.some FieldType.int), [])
abbrev mX10_rank : bw_M := (yX10_rank, cX10_rank, 5, (Option.some FieldType.int), [])
abbrev mX10_solve : bw_M := (yX10_solve, cX10_solve, 11, (Option.some FieldType.int), [])
abbrev mX10_isPolynomial : bw_M := (yX10_isPolynomial, cX10_isPolynomial, 2, (Option.some FieldType.boolean), [])
abbrev mX10_high : bw_M := (yX10_high, cX10_high, 2, (Option.some FieldType.int), [])
abbrev mX10_nothing : bw_M := (yX10_nothing, cX10_nothing, 2, (Option.none : Option FieldType), [])
abbrev mX10_copy : bw_M := (yX10_copy, cX10_copy, 3, (Option.none : Option FieldType), [])
abbrev mX10_load : bw_M := (yX10_load, cX10_load, 4, (Option.none : Option FieldType), [])
abbrev mX10_kept : bw_M := (yX10_kept, cX10_kept, 3, (Option.some FieldType.int), [])
abbrev mX10_at_ : bw_M := (yX10_at_, cX10_at_, 5, (Option.some FieldType.int), [])
abbrev mX10_polynomial : bw_M := (yX10_polynomial, cX10_polynomial, 2, (Option.some FieldType.int), [])
abbrev mX10_point : bw_M := (yX10_point, cX10_point, 6, (Option.none : Option FieldType), [])
abbrev mX10_begin : bw_M := (yX10_begin, cX10_begin, 1, (Option.none : Option FieldType), [])
abbrev mX10_through : bw_M := (yX10_through, cX10_through, 2, (Option.some FieldType.int), [])
abbrev mX10_degree : bw_M := (yX10_degree, cX10_degree, 2, (Option.some FieldType.int), [])
abbrev mX10_coefficient : bw_M := (yX10_coefficient, cX10_coefficient, 3, (Option.some FieldType.int), [])
abbrev mX10_value : bw_M := (yX10_value, cX10_value, 3, (Option.some FieldType.int), [])
abbrev mX10_plus : bw_M := (yX10_plus, cX10_plus, 4, (Option.some FieldType.int), [])
abbrev mX10_multiply : bw_M := (yX10_multiply, cX10_multiply, 5, (Option.some FieldType.int), [])
abbrev mX10_split : bw_M := (yX10_split, cX10_split, 8, (Option.none : Option FieldType), [])
abbrev mX10_divide : bw_M := (yX10_divide, cX10_divide, 4, (Option.some FieldType.int), [])
abbrev mX10_divisor : bw_M := (yX10_divisor, cX10_divisor, 6, (Option.none : Option FieldType), [])
abbrev mX10_common : bw_M := (yX10_common, cX10_common, 3, (Option.some FieldType.int), [])
abbrev mX10_root : bw_M := (yX10_root, cX10_root, 4, (Option.some FieldType.int), [])
abbrev mX10_often : bw_M := (yX10_often, cX10_often, 4, (Option.some FieldType.int), [])
abbrev mX10_square : bw_M := (yX10_square, cX10_square, 3, (Option.none : Option FieldType), [])
abbrev mX10_lookAtParts : bw_M := (yX10_lookAtParts, cX10_lookAtParts, 4, (Option.none : Option FieldType), [])
abbrev mX10_parts : bw_M := (yX10_parts, cX10_parts, 3, (Option.some FieldType.int), [])
abbrev mX10_span : bw_M := (yX10_span, cX10_span, 5, (Option.some FieldType.int), [])
abbrev mX10_forth : bw_M := (yX10_forth, cX10_forth, 3, (Option.some FieldType.int), [])
abbrev mX10_back : bw_M := (yX10_back, cX10_back, 2, (Option.some FieldType.int), [])
abbrev mX10_told : bw_M := (yX10_told, cX10_told, 2, (Option.some FieldType.int), [])
abbrev mJx00060_init_a7421 : bw_M := (yJx00060_init_a7421, cJx00060_init_a7421, 2, (Option.none : Option FieldType), [])
abbrev mJ6_numberOfLeadingZeros_0f7a4 : bw_M := (yJ6_numberOfLeadingZeros_0f7a4, cJ6_numberOfLeadingZeros_0f7a4, 2, (Option.some FieldType.int), [])
abbrev mJ6_numberOfTrailingZeros_0f7a4 : bw_M := (yJ6_numberOfTrailingZeros_0f7a4, cJ6_numberOfTrailingZeros_0f7a4, 2, (Option.some FieldType.int), [])
abbrev mJ6_bitCount_0f7a4 : bw_M := (yJ6_bitCount_0f7a4, cJ6_bitCount_0f7a4, 1, (Option.some FieldType.int), [])
abbrev mJ9_max_7cf53 : bw_M := (yJ9_max_7cf53, cJ9_max_7cf53, 2, (Option.some FieldType.int), [])
abbrev mL_cell : bw_M := (yL_cell, cL_cell, 2, (Option.some FieldType.int), [])
abbrev mL_product : bw_M := (yL_product, cL_product, 5, (Option.some FieldType.int), [(0, 10, 13, 13)])
abbrev mL_quotient : bw_M := (yL_quotient, cL_quotient, 5, (Option.some FieldType.int), [(0, 10, 13, 13), (0, 10, 17, 18)])
abbrev mL_power : bw_M := (yL_power, cL_power, 6, (Option.some FieldType.int), [(0, 11, 14, 13), (0, 11, 18, 18)])
abbrev mL_log : bw_M := (yL_log, cL_log, 4, (Option.some FieldType.int), [(0, 9, 12, 13), (0, 9, 15, 28)])
abbrev mL_order : bw_M := (yL_order, cL_order, 4, (Option.some FieldType.int), [(0, 9, 12, 13)])
abbrev mL_put : bw_M := (yL_put, cL_put, 4, (Option.some FieldType.int), [(0, 9, 12, 13), (0, 9, 15, 36)])
abbrev mL_row : bw_M := (yL_row, cL_row, 4, (Option.some FieldType.int), [(0, 9, 12, 41)])
abbrev mL_matrix : bw_M := (yL_matrix, cL_matrix, 5, (Option.some FieldType.int), [(0, 10, 13, 13), (0, 10, 17, 36)])
abbrev mL_powers : bw_M := (yL_powers, cL_powers, 5, (Option.some FieldType.int), [(0, 10, 13, 13), (0, 10, 17, 49), (0, 10, 21, 36)])
abbrev mL_sums : bw_M := (yL_sums, cL_sums, 5, (Option.some FieldType.int), [(0, 10, 13, 13), (0, 10, 17, 49), (0, 10, 21, 36)])
abbrev mL_size : bw_M := (yL_size, cL_size, 5, (Option.some FieldType.int), [(0, 10, 13, 41), (0, 10, 17, 13)])
abbrev mL_cell_ : bw_M := (yL_cell_, cL_cell_, 6, (Option.some FieldType.int), [(0, 12, 15, 41)])
abbrev mL_set : bw_M := (yL_set, cL_set, 7, (Option.some FieldType.int), [(0, 14, 17, 41), (0, 14, 21, 13)])
abbrev mL_times : bw_M := (yL_times, cL_times, 5, (Option.some FieldType.int), [(0, 10, 13, 41), (0, 10, 17, 49), (0, 10, 21, 36)])
abbrev mL_invert : bw_M := (yL_invert, cL_invert, 4, (Option.some FieldType.int), [(0, 9, 12, 41), (0, 9, 15, 49), (0, 9, 18, 36)])
abbrev mL_rank : bw_M := (yL_rank, cL_rank, 4, (Option.some FieldType.int), [(0, 9, 12, 41)])
abbrev mL_determinant : bw_M := (yL_determinant, cL_determinant, 4, (Option.some FieldType.int), [(0, 9, 12, 41), (0, 9, 15, 49)])
abbrev mL_singular : bw_M := (yL_singular, cL_singular, 4, (Option.some FieldType.int), [(0, 9, 12, 41)])
abbrev mL_solve : bw_M := (yL_solve, cL_solve, 4, (Option.some FieldType.int), [(0, 9, 12, 41), (0, 9, 15, 49)])
abbrev mL_polynomial : bw_M := (yL_polynomial, cL_polynomial, 3, (Option.some FieldType.int), [(0, 8, 11, 36)])
abbrev mL_through : bw_M := (yL_through, cL_through, 3, (Option.some FieldType.int), [(0, 8, 11, 49), (0, 8, 14, 36)])
abbrev mL_degree : bw_M := (yL_degree, cL_degree, 4, (Option.some FieldType.int), [(0, 9, 12, 41)])
abbrev mL_coefficient : bw_M := (yL_coefficient, cL_coefficient, 5, (Option.some FieldType.int), [(0, 10, 13, 41)])
abbrev mL_value : bw_M := (yL_value, cL_value, 5, (Option.some FieldType.int), [(0, 10, 13, 41), (0, 10, 17, 13)])
abbrev mL_plus : bw_M := (yL_plus, cL_plus, 5, (Option.some FieldType.int), [(0, 10, 13, 41), (0, 10, 17, 36)])
abbrev mL_multiply : bw_M := (yL_multiply, cL_multiply, 5, (Option.some FieldType.int), [(0, 10, 13, 41), (0, 10, 17, 36)])
abbrev mL_divide : bw_M := (yL_divide, cL_divide, 6, (Option.some FieldType.int), [(0, 12, 15, 41), (0, 12, 19, 18), (0, 12, 23, 36)])
abbrev mL_common : bw_M := (yL_common, cL_common, 5, (Option.some FieldType.int), [(0, 10, 13, 41), (0, 10, 17, 36)])
abbrev mL_root : bw_M := (yL_root, cL_root, 5, (Option.some FieldType.int), [(0, 10, 13, 41)])
abbrev mL_often : bw_M := (yL_often, cL_often, 5, (Option.some FieldType.int), [(0, 10, 13, 41), (0, 10, 17, 13)])
abbrev mL_parts : bw_M := (yL_parts, cL_parts, 5, (Option.some FieldType.int), [(0, 10, 13, 41), (0, 10, 17, 13)])
abbrev mL_span : bw_M := (yL_span, cL_span, 3, (Option.some FieldType.int), [(0, 8, 11, 49)])
abbrev mL_forth : bw_M := (yL_forth, cL_forth, 4, (Option.some FieldType.int), [(0, 9, 12, 41), (0, 9, 15, 49)])
abbrev mL_back : bw_M := (yL_back, cL_back, 3, (Option.some FieldType.int), [(0, 8, 11, 49), (0, 8, 14, 36)])
abbrev mL_told : bw_M := (yL_told, cL_told, 4, (Option.some FieldType.int), [(0, 9, 12, 13)])
abbrev mL_law : bw_M := (yL_law, cL_law, 7, some .boolean, [])
theorem bw_tat {l : List Cond} (h : l.all (fun w => decide (w ∈ lw_tbl) && (goodWord w || bw_fc w)) = true) : ∀ w ∈ l, w ∈ bw_uw ∨ w ∈ bw_fw := by
  intro w hw
  have h1 := List.all_eq_true.mp h w hw
  simp only [Bool.or_eq_true, Bool.and_eq_true, decide_eq_true_eq] at h1
  rcases h1.2 with h2 | h2
  · exact Or.inl (List.mem_filter.mpr ⟨h1.1, h2⟩)
  · exact Or.inr (List.mem_filter.mpr ⟨h1.1, h2⟩)
theorem w_230 : Cond.fieldLink "ByteFields$Division" 9 "ByteFields$Division" "field" "LByteFields$Field;" ∈ bw_uw := bw_in (i := 230) (by decide +kernel) rfl
theorem w_97 : Cond.fieldLink "ByteFields$Division" 15 "ByteFields$Polynomial" "top" "I" ∈ bw_uw := bw_in (i := 97) (by decide +kernel) rfl
theorem w_969 : Cond.methodLink "ByteFields$Division" 21 ⟨"ByteFields$Division", "divideInPlace", "(LByteFields$Polynomial;LByteFields$Polynomial;)V"⟩ ∈ bw_uw := bw_in (i := 969) (by decide +kernel) rfl
theorem w_59 : Cond.initialized "ByteFields$Division" ∈ bw_uw := bw_in (i := 59) (by decide +kernel) rfl
theorem w_972 : Cond.code ⟨"ByteFields$Division", "divideInPlace", "(LByteFields$Polynomial;LByteFields$Polynomial;)V"⟩ prog_2_method_4_code 7 (Option.none : Option FieldType) ∈ bw_uw := bw_in (i := 972) (by decide +kernel) rfl
theorem w_971 : Cond.instanceMethod ⟨"ByteFields$Division", "divideInPlace", "(LByteFields$Polynomial;LByteFields$Polynomial;)V"⟩ ∈ bw_uw := bw_in (i := 971) (by decide +kernel) rfl
theorem w_21 : Cond.selects "ByteFields$Division" ⟨"ByteFields$Division", "divideInPlace", "(LByteFields$Polynomial;LByteFields$Polynomial;)V"⟩ ⟨"ByteFields$Division", "divideInPlace", "(LByteFields$Polynomial;LByteFields$Polynomial;)V"⟩ ∈ bw_uw := bw_in (i := 21) (by decide +kernel) rfl
theorem w_92 : Cond.fieldLink "ByteFields$Division" 25 "ByteFields$Polynomial" "at" "[I" ∈ bw_uw := bw_in (i := 92) (by decide +kernel) rfl
theorem w_976 : Cond.methodLink "ByteFields$Division" 29 ⟨"ByteFields$Polynomial", "settle", "(I)V"⟩ ∈ bw_uw := bw_in (i := 976) (by decide +kernel) rfl
theorem w_54 : Cond.initialized "ByteFields$Polynomial" ∈ bw_uw := bw_in (i := 54) (by decide +kernel) rfl
theorem w_868 : Cond.code ⟨"ByteFields$Polynomial", "settle", "(I)V"⟩ prog_9_method_5_code 3 (Option.none : Option FieldType) ∈ bw_uw := bw_in (i := 868) (by decide +kernel) rfl
theorem w_866 : Cond.instanceMethod ⟨"ByteFields$Polynomial", "settle", "(I)V"⟩ ∈ bw_uw := bw_in (i := 866) (by decide +kernel) rfl
theorem w_867 : Cond.selects "ByteFields$Polynomial" ⟨"ByteFields$Polynomial", "settle", "(I)V"⟩ ⟨"ByteFields$Polynomial", "settle", "(I)V"⟩ ∈ bw_uw := bw_in (i := 867) (by decide +kernel) rfl
theorem w_981 : Cond.methodLink "ByteFields$Division" 33 ⟨"ByteFields$Polynomial", "clear", "()V"⟩ ∈ bw_uw := bw_in (i := 981) (by decide +kernel) rfl
theorem w_863 : Cond.code ⟨"ByteFields$Polynomial", "clear", "()V"⟩ prog_9_method_2_code 2 (Option.none : Option FieldType) ∈ bw_uw := bw_in (i := 863) (by decide +kernel) rfl
theorem w_861 : Cond.instanceMethod ⟨"ByteFields$Polynomial", "clear", "()V"⟩ ∈ bw_uw := bw_in (i := 861) (by decide +kernel) rfl
theorem w_862 : Cond.selects "ByteFields$Polynomial" ⟨"ByteFields$Polynomial", "clear", "()V"⟩ ⟨"ByteFields$Polynomial", "clear", "()V"⟩ ∈ bw_uw := bw_in (i := 862) (by decide +kernel) rfl
theorem w_982 : Cond.methodLink "ByteFields$Division" 36 ⟨"ByteFields$Polynomial", "shiftDown", "(I)V"⟩ ∈ bw_uw := bw_in (i := 982) (by decide +kernel) rfl
theorem w_985 : Cond.code ⟨"ByteFields$Polynomial", "shiftDown", "(I)V"⟩ prog_9_method_9_code 3 (Option.none : Option FieldType) ∈ bw_uw := bw_in (i := 985) (by decide +kernel) rfl
theorem w_983 : Cond.instanceMethod ⟨"ByteFields$Polynomial", "shiftDown", "(I)V"⟩ ∈ bw_uw := bw_in (i := 983) (by decide +kernel) rfl
theorem w_984 : Cond.selects "ByteFields$Polynomial" ⟨"ByteFields$Polynomial", "shiftDown", "(I)V"⟩ ⟨"ByteFields$Polynomial", "shiftDown", "(I)V"⟩ ∈ bw_uw := bw_in (i := 984) (by decide +kernel) rfl
theorem w_973 : Cond.methodLink "ByteFields$Division" 39 ⟨"ByteFields$Field", "inverse", "(I)I"⟩ ∈ bw_uw := bw_in (i := 973) (by decide +kernel) rfl
theorem w_55 : Cond.initialized "ByteFields$Field" ∈ bw_uw := bw_in (i := 55) (by decide +kernel) rfl
theorem w_503 : Cond.code ⟨"ByteFields$Field", "inverse", "(I)I"⟩ prog_5_method_12_code 3 (Option.some FieldType.int) ∈ bw_uw := bw_in (i := 503) (by decide +kernel) rfl
theorem w_501 : Cond.instanceMethod ⟨"ByteFields$Field", "inverse", "(I)I"⟩ ∈ bw_uw := bw_in (i := 501) (by decide +kernel) rfl
theorem w_502 : Cond.selects "ByteFields$Field" ⟨"ByteFields$Field", "inverse", "(I)I"⟩ ⟨"ByteFields$Field", "inverse", "(I)I"⟩ ∈ bw_uw := bw_in (i := 502) (by decide +kernel) rfl
theorem w_974 : Cond.methodLink "ByteFields$Division" 45 ⟨"ByteFields$Field", "mul", "(II)I"⟩ ∈ bw_uw := bw_in (i := 974) (by decide +kernel) rfl
theorem w_265 : Cond.code ⟨"ByteFields$Field", "mul", "(II)I"⟩ prog_5_method_11_code 4 (Option.some FieldType.int) ∈ bw_uw := bw_in (i := 265) (by decide +kernel) rfl
theorem w_263 : Cond.instanceMethod ⟨"ByteFields$Field", "mul", "(II)I"⟩ ∈ bw_uw := bw_in (i := 263) (by decide +kernel) rfl
theorem w_264 : Cond.selects "ByteFields$Field" ⟨"ByteFields$Field", "mul", "(II)I"⟩ ⟨"ByteFields$Field", "mul", "(II)I"⟩ ∈ bw_uw := bw_in (i := 264) (by decide +kernel) rfl
theorem w_975 : Cond.methodLink "ByteFields$Division" 49 ⟨"ByteFields$Field", "addMultiple", "([II[IIII)V"⟩ ∈ bw_uw := bw_in (i := 975) (by decide +kernel) rfl
theorem w_730 : Cond.code ⟨"ByteFields$Field", "addMultiple", "([II[IIII)V"⟩ prog_5_method_16_code 11 (Option.none : Option FieldType) ∈ bw_uw := bw_in (i := 730) (by decide +kernel) rfl
theorem w_728 : Cond.instanceMethod ⟨"ByteFields$Field", "addMultiple", "([II[IIII)V"⟩ ∈ bw_uw := bw_in (i := 728) (by decide +kernel) rfl
theorem w_729 : Cond.selects "ByteFields$Field" ⟨"ByteFields$Field", "addMultiple", "([II[IIII)V"⟩ ⟨"ByteFields$Field", "addMultiple", "([II[IIII)V"⟩ ∈ bw_uw := bw_in (i := 729) (by decide +kernel) rfl
theorem w_997 : Cond.methodLink "ByteFields$Division" 53 ⟨"ByteFields$Division", "toRest", "(LByteFields$Polynomial;LByteFields$Polynomial;)V"⟩ ∈ bw_uw := bw_in (i := 997) (by decide +kernel) rfl
theorem w_968 : Cond.code ⟨"ByteFields$Division", "toRest", "(LByteFields$Polynomial;LByteFields$Polynomial;)V"⟩ prog_2_method_2_code 4 (Option.none : Option FieldType) ∈ bw_uw := bw_in (i := 968) (by decide +kernel) rfl
theorem w_966 : Cond.instanceMethod ⟨"ByteFields$Division", "toRest", "(LByteFields$Polynomial;LByteFields$Polynomial;)V"⟩ ∈ bw_uw := bw_in (i := 966) (by decide +kernel) rfl
theorem w_967 : Cond.selects "ByteFields$Division" ⟨"ByteFields$Division", "toRest", "(LByteFields$Polynomial;LByteFields$Polynomial;)V"⟩ ⟨"ByteFields$Division", "toRest", "(LByteFields$Polynomial;LByteFields$Polynomial;)V"⟩ ∈ bw_uw := bw_in (i := 967) (by decide +kernel) rfl
theorem w_998 : Cond.methodLink "ByteFields$Division" 56 ⟨"ByteFields$Polynomial", "copyFrom", "(LByteFields$Polynomial;)V"⟩ ∈ bw_uw := bw_in (i := 998) (by decide +kernel) rfl
theorem w_876 : Cond.code ⟨"ByteFields$Polynomial", "copyFrom", "(LByteFields$Polynomial;)V"⟩ prog_9_method_4_code 2 (Option.none : Option FieldType) ∈ bw_uw := bw_in (i := 876) (by decide +kernel) rfl
theorem w_874 : Cond.instanceMethod ⟨"ByteFields$Polynomial", "copyFrom", "(LByteFields$Polynomial;)V"⟩ ∈ bw_uw := bw_in (i := 874) (by decide +kernel) rfl
theorem w_875 : Cond.selects "ByteFields$Polynomial" ⟨"ByteFields$Polynomial", "copyFrom", "(LByteFields$Polynomial;)V"⟩ ⟨"ByteFields$Polynomial", "copyFrom", "(LByteFields$Polynomial;)V"⟩ ∈ bw_uw := bw_in (i := 875) (by decide +kernel) rfl
theorem w_999 : Cond.methodLink "ByteFields$Division" 60 ⟨"ByteFields$Field", "scale", "([III)V"⟩ ∈ bw_uw := bw_in (i := 999) (by decide +kernel) rfl
theorem w_774 : Cond.code ⟨"ByteFields$Field", "scale", "([III)V"⟩ prog_5_method_17_code 5 (Option.none : Option FieldType) ∈ bw_uw := bw_in (i := 774) (by decide +kernel) rfl
theorem w_772 : Cond.instanceMethod ⟨"ByteFields$Field", "scale", "([III)V"⟩ ∈ bw_uw := bw_in (i := 772) (by decide +kernel) rfl
theorem w_773 : Cond.selects "ByteFields$Field" ⟨"ByteFields$Field", "scale", "([III)V"⟩ ⟨"ByteFields$Field", "scale", "([III)V"⟩ ∈ bw_uw := bw_in (i := 773) (by decide +kernel) rfl
theorem w_185 : Cond.classLink "ByteFields$Elimination" 9 "[[I" ∈ bw_uw := bw_in (i := 185) (by decide +kernel) rfl
theorem w_188 : Cond.fieldLink "ByteFields$Elimination" 11 "ByteFields$Elimination" "cells" "[[I" ∈ bw_uw := bw_in (i := 188) (by decide +kernel) rfl
theorem w_189 : Cond.fieldLink "ByteFields$Elimination" 16 "ByteFields$Elimination" "pivotRows" "[I" ∈ bw_uw := bw_in (i := 189) (by decide +kernel) rfl
theorem w_187 : Cond.fieldLink "ByteFields$Elimination" 20 "ByteFields$Elimination" "field" "LByteFields$Field;" ∈ bw_uw := bw_in (i := 187) (by decide +kernel) rfl
theorem w_629 : Cond.fieldLink "ByteFields$Elimination" 24 "ByteFields$Matrix" "rows" "I" ∈ bw_uw := bw_in (i := 629) (by decide +kernel) rfl
theorem w_190 : Cond.fieldLink "ByteFields$Elimination" 30 "ByteFields$Elimination" "height" "I" ∈ bw_uw := bw_in (i := 190) (by decide +kernel) rfl
theorem w_633 : Cond.fieldLink "ByteFields$Elimination" 33 "ByteFields$Matrix" "columns" "I" ∈ bw_uw := bw_in (i := 633) (by decide +kernel) rfl
theorem w_191 : Cond.fieldLink "ByteFields$Elimination" 36 "ByteFields$Elimination" "width" "I" ∈ bw_uw := bw_in (i := 191) (by decide +kernel) rfl
theorem w_637 : Cond.fieldLink "ByteFields$Elimination" 39 "ByteFields$Matrix" "cells" "[I" ∈ bw_uw := bw_in (i := 637) (by decide +kernel) rfl
theorem w_192 : Cond.fieldLink "ByteFields$Elimination" 47 "ByteFields$Elimination" "rank" "I" ∈ bw_uw := bw_in (i := 192) (by decide +kernel) rfl
theorem w_193 : Cond.fieldLink "ByteFields$Elimination" 50 "ByteFields$Elimination" "pivotProduct" "I" ∈ bw_uw := bw_in (i := 193) (by decide +kernel) rfl
theorem w_757 : Cond.methodLink "ByteFields$Elimination" 53 ⟨"ByteFields$Elimination", "rowWithMember", "(I)I"⟩ ∈ bw_uw := bw_in (i := 757) (by decide +kernel) rfl
theorem w_57 : Cond.initialized "ByteFields$Elimination" ∈ bw_uw := bw_in (i := 57) (by decide +kernel) rfl
theorem w_760 : Cond.code ⟨"ByteFields$Elimination", "rowWithMember", "(I)I"⟩ prog_3_method_6_code 3 (Option.some FieldType.int) ∈ bw_uw := bw_in (i := 760) (by decide +kernel) rfl
theorem w_759 : Cond.instanceMethod ⟨"ByteFields$Elimination", "rowWithMember", "(I)I"⟩ ∈ bw_uw := bw_in (i := 759) (by decide +kernel) rfl
theorem w_11 : Cond.selects "ByteFields$Elimination" ⟨"ByteFields$Elimination", "rowWithMember", "(I)I"⟩ ⟨"ByteFields$Elimination", "rowWithMember", "(I)I"⟩ ∈ bw_uw := bw_in (i := 11) (by decide +kernel) rfl
theorem w_761 : Cond.methodLink "ByteFields$Elimination" 57 ⟨"ByteFields$Elimination", "exchange", "(II)V"⟩ ∈ bw_uw := bw_in (i := 761) (by decide +kernel) rfl
theorem w_764 : Cond.code ⟨"ByteFields$Elimination", "exchange", "(II)V"⟩ prog_3_method_7_code 5 (Option.none : Option FieldType) ∈ bw_uw := bw_in (i := 764) (by decide +kernel) rfl
theorem w_763 : Cond.instanceMethod ⟨"ByteFields$Elimination", "exchange", "(II)V"⟩ ∈ bw_uw := bw_in (i := 763) (by decide +kernel) rfl
theorem w_12 : Cond.selects "ByteFields$Elimination" ⟨"ByteFields$Elimination", "exchange", "(II)V"⟩ ⟨"ByteFields$Elimination", "exchange", "(II)V"⟩ ∈ bw_uw := bw_in (i := 12) (by decide +kernel) rfl
theorem w_765 : Cond.methodLink "ByteFields$Elimination" 61 ⟨"ByteFields$Field", "mul", "(II)I"⟩ ∈ bw_uw := bw_in (i := 765) (by decide +kernel) rfl
theorem w_766 : Cond.methodLink "ByteFields$Elimination" 67 ⟨"ByteFields$Elimination", "free", "(I)V"⟩ ∈ bw_uw := bw_in (i := 766) (by decide +kernel) rfl
theorem w_769 : Cond.code ⟨"ByteFields$Elimination", "free", "(I)V"⟩ prog_3_method_8_code 4 (Option.none : Option FieldType) ∈ bw_uw := bw_in (i := 769) (by decide +kernel) rfl
theorem w_768 : Cond.instanceMethod ⟨"ByteFields$Elimination", "free", "(I)V"⟩ ∈ bw_uw := bw_in (i := 768) (by decide +kernel) rfl
theorem w_13 : Cond.selects "ByteFields$Elimination" ⟨"ByteFields$Elimination", "free", "(I)V"⟩ ⟨"ByteFields$Elimination", "free", "(I)V"⟩ ∈ bw_uw := bw_in (i := 13) (by decide +kernel) rfl
theorem w_770 : Cond.methodLink "ByteFields$Elimination" 71 ⟨"ByteFields$Field", "inverse", "(I)I"⟩ ∈ bw_uw := bw_in (i := 770) (by decide +kernel) rfl
theorem w_771 : Cond.methodLink "ByteFields$Elimination" 74 ⟨"ByteFields$Field", "scale", "([III)V"⟩ ∈ bw_uw := bw_in (i := 771) (by decide +kernel) rfl
theorem w_775 : Cond.methodLink "ByteFields$Elimination" 78 ⟨"ByteFields$Field", "addMultiple", "([II[IIII)V"⟩ ∈ bw_uw := bw_in (i := 775) (by decide +kernel) rfl
theorem w_295 : Cond.classLink "ByteFields$Factors" 9 "ByteFields$Polynomial" ∈ bw_uw := bw_in (i := 295) (by decide +kernel) rfl
theorem w_86 : Cond.instantiable "ByteFields$Polynomial" 3 ∈ bw_uw := bw_in (i := 86) (by decide +kernel) rfl
theorem w_296 : Cond.methodLink "ByteFields$Factors" 11 ⟨"ByteFields$Polynomial", "<init>", "(I)V"⟩ ∈ bw_uw := bw_in (i := 296) (by decide +kernel) rfl
theorem w_89 : Cond.code ⟨"ByteFields$Polynomial", "<init>", "(I)V"⟩ prog_9_method_1_code 2 (Option.none : Option FieldType) ∈ bw_uw := bw_in (i := 89) (by decide +kernel) rfl
theorem w_88 : Cond.instanceMethod ⟨"ByteFields$Polynomial", "<init>", "(I)V"⟩ ∈ bw_uw := bw_in (i := 88) (by decide +kernel) rfl
theorem w_299 : Cond.fieldLink "ByteFields$Factors" 14 "ByteFields$Factors" "left" "LByteFields$Polynomial;" ∈ bw_uw := bw_in (i := 299) (by decide +kernel) rfl
theorem w_300 : Cond.fieldLink "ByteFields$Factors" 20 "ByteFields$Factors" "power" "LByteFields$Polynomial;" ∈ bw_uw := bw_in (i := 300) (by decide +kernel) rfl
theorem w_301 : Cond.fieldLink "ByteFields$Factors" 23 "ByteFields$Factors" "shared" "LByteFields$Polynomial;" ∈ bw_uw := bw_in (i := 301) (by decide +kernel) rfl
theorem w_302 : Cond.fieldLink "ByteFields$Factors" 26 "ByteFields$Factors" "other" "LByteFields$Polynomial;" ∈ bw_uw := bw_in (i := 302) (by decide +kernel) rfl
theorem w_297 : Cond.fieldLink "ByteFields$Factors" 29 "ByteFields$Factors" "field" "LByteFields$Field;" ∈ bw_uw := bw_in (i := 297) (by decide +kernel) rfl
theorem w_298 : Cond.fieldLink "ByteFields$Factors" 33 "ByteFields$Factors" "division" "LByteFields$Division;" ∈ bw_uw := bw_in (i := 298) (by decide +kernel) rfl
theorem w_1061 : Cond.methodLink "ByteFields$Factors" 37 ⟨"ByteFields$Polynomial", "copyFrom", "(LByteFields$Polynomial;)V"⟩ ∈ bw_uw := bw_in (i := 1061) (by decide +kernel) rfl
theorem w_1062 : Cond.methodLink "ByteFields$Factors" 41 ⟨"ByteFields$Polynomial", "becomeX", "()V"⟩ ∈ bw_uw := bw_in (i := 1062) (by decide +kernel) rfl
theorem w_1019 : Cond.code ⟨"ByteFields$Polynomial", "becomeX", "()V"⟩ prog_9_method_8_code 1 (Option.none : Option FieldType) ∈ bw_uw := bw_in (i := 1019) (by decide +kernel) rfl
theorem w_1017 : Cond.instanceMethod ⟨"ByteFields$Polynomial", "becomeX", "()V"⟩ ∈ bw_uw := bw_in (i := 1017) (by decide +kernel) rfl
theorem w_1018 : Cond.selects "ByteFields$Polynomial" ⟨"ByteFields$Polynomial", "becomeX", "()V"⟩ ⟨"ByteFields$Polynomial", "becomeX", "()V"⟩ ∈ bw_uw := bw_in (i := 1018) (by decide +kernel) rfl
theorem w_1063 : Cond.methodLink "ByteFields$Factors" 44 ⟨"ByteFields$Division", "toRest", "(LByteFields$Polynomial;LByteFields$Polynomial;)V"⟩ ∈ bw_uw := bw_in (i := 1063) (by decide +kernel) rfl
theorem w_98 : Cond.fieldLink "ByteFields$Factors" 50 "ByteFields$Polynomial" "top" "I" ∈ bw_uw := bw_in (i := 98) (by decide +kernel) rfl
theorem w_157 : Cond.fieldLink "ByteFields$Factors" 54 "ByteFields$Field" "bits" "I" ∈ bw_uw := bw_in (i := 157) (by decide +kernel) rfl
theorem w_1064 : Cond.methodLink "ByteFields$Factors" 59 ⟨"ByteFields$Division", "toSquareRest", "(LByteFields$Polynomial;LByteFields$Polynomial;)V"⟩ ∈ bw_uw := bw_in (i := 1064) (by decide +kernel) rfl
theorem w_1025 : Cond.code ⟨"ByteFields$Division", "toSquareRest", "(LByteFields$Polynomial;LByteFields$Polynomial;)V"⟩ prog_2_method_7_code 5 (Option.none : Option FieldType) ∈ bw_uw := bw_in (i := 1025) (by decide +kernel) rfl
theorem w_1023 : Cond.instanceMethod ⟨"ByteFields$Division", "toSquareRest", "(LByteFields$Polynomial;LByteFields$Polynomial;)V"⟩ ∈ bw_uw := bw_in (i := 1023) (by decide +kernel) rfl
theorem w_1024 : Cond.selects "ByteFields$Division" ⟨"ByteFields$Division", "toSquareRest", "(LByteFields$Polynomial;LByteFields$Polynomial;)V"⟩ ⟨"ByteFields$Division", "toSquareRest", "(LByteFields$Polynomial;LByteFields$Polynomial;)V"⟩ ∈ bw_uw := bw_in (i := 1024) (by decide +kernel) rfl
theorem w_1065 : Cond.methodLink "ByteFields$Factors" 62 ⟨"ByteFields$Factors", "takeParts", "(I)I"⟩ ∈ bw_uw := bw_in (i := 1065) (by decide +kernel) rfl
theorem w_62 : Cond.initialized "ByteFields$Factors" ∈ bw_uw := bw_in (i := 62) (by decide +kernel) rfl
theorem w_1068 : Cond.code ⟨"ByteFields$Factors", "takeParts", "(I)I"⟩ prog_4_method_3_code 4 (Option.some FieldType.int) ∈ bw_uw := bw_in (i := 1068) (by decide +kernel) rfl
theorem w_1067 : Cond.instanceMethod ⟨"ByteFields$Factors", "takeParts", "(I)I"⟩ ∈ bw_uw := bw_in (i := 1067) (by decide +kernel) rfl
theorem w_24 : Cond.selects "ByteFields$Factors" ⟨"ByteFields$Factors", "takeParts", "(I)I"⟩ ⟨"ByteFields$Factors", "takeParts", "(I)I"⟩ ∈ bw_uw := bw_in (i := 24) (by decide +kernel) rfl
theorem w_1069 : Cond.methodLink "ByteFields$Factors" 66 ⟨"ByteFields$Polynomial", "addScaled", "(LByteFields$Field;LByteFields$Polynomial;I)V"⟩ ∈ bw_uw := bw_in (i := 1069) (by decide +kernel) rfl
theorem w_943 : Cond.code ⟨"ByteFields$Polynomial", "addScaled", "(LByteFields$Field;LByteFields$Polynomial;I)V"⟩ prog_9_method_6_code 4 (Option.none : Option FieldType) ∈ bw_uw := bw_in (i := 943) (by decide +kernel) rfl
theorem w_941 : Cond.instanceMethod ⟨"ByteFields$Polynomial", "addScaled", "(LByteFields$Field;LByteFields$Polynomial;I)V"⟩ ∈ bw_uw := bw_in (i := 941) (by decide +kernel) rfl
theorem w_942 : Cond.selects "ByteFields$Polynomial" ⟨"ByteFields$Polynomial", "addScaled", "(LByteFields$Field;LByteFields$Polynomial;I)V"⟩ ⟨"ByteFields$Polynomial", "addScaled", "(LByteFields$Field;LByteFields$Polynomial;I)V"⟩ ∈ bw_uw := bw_in (i := 942) (by decide +kernel) rfl
theorem w_1070 : Cond.methodLink "ByteFields$Factors" 70 ⟨"ByteFields$Division", "toGreatestDivisor", "(LByteFields$Polynomial;LByteFields$Polynomial;)V"⟩ ∈ bw_uw := bw_in (i := 1070) (by decide +kernel) rfl
theorem w_996 : Cond.code ⟨"ByteFields$Division", "toGreatestDivisor", "(LByteFields$Polynomial;LByteFields$Polynomial;)V"⟩ prog_2_method_5_code 7 (Option.none : Option FieldType) ∈ bw_uw := bw_in (i := 996) (by decide +kernel) rfl
theorem w_994 : Cond.instanceMethod ⟨"ByteFields$Division", "toGreatestDivisor", "(LByteFields$Polynomial;LByteFields$Polynomial;)V"⟩ ∈ bw_uw := bw_in (i := 994) (by decide +kernel) rfl
theorem w_995 : Cond.selects "ByteFields$Division" ⟨"ByteFields$Division", "toGreatestDivisor", "(LByteFields$Polynomial;LByteFields$Polynomial;)V"⟩ ⟨"ByteFields$Division", "toGreatestDivisor", "(LByteFields$Polynomial;LByteFields$Polynomial;)V"⟩ ∈ bw_uw := bw_in (i := 995) (by decide +kernel) rfl
theorem w_1071 : Cond.methodLink "ByteFields$Factors" 73 ⟨"ByteFields$Division", "toQuotient", "(LByteFields$Polynomial;LByteFields$Polynomial;)V"⟩ ∈ bw_uw := bw_in (i := 1071) (by decide +kernel) rfl
theorem w_980 : Cond.code ⟨"ByteFields$Division", "toQuotient", "(LByteFields$Polynomial;LByteFields$Polynomial;)V"⟩ prog_2_method_3_code 3 (Option.none : Option FieldType) ∈ bw_uw := bw_in (i := 980) (by decide +kernel) rfl
theorem w_978 : Cond.instanceMethod ⟨"ByteFields$Division", "toQuotient", "(LByteFields$Polynomial;LByteFields$Polynomial;)V"⟩ ∈ bw_uw := bw_in (i := 978) (by decide +kernel) rfl
theorem w_979 : Cond.selects "ByteFields$Division" ⟨"ByteFields$Division", "toQuotient", "(LByteFields$Polynomial;LByteFields$Polynomial;)V"⟩ ⟨"ByteFields$Division", "toQuotient", "(LByteFields$Polynomial;LByteFields$Polynomial;)V"⟩ ∈ bw_uw := bw_in (i := 979) (by decide +kernel) rfl
theorem w_155 : Cond.fieldLink "ByteFields$Field" 7 "ByteFields$Field" "bits" "I" ∈ bw_uw := bw_in (i := 155) (by decide +kernel) rfl
theorem w_158 : Cond.fieldLink "ByteFields$Field" 13 "ByteFields$Field" "size" "I" ∈ bw_uw := bw_in (i := 158) (by decide +kernel) rfl
theorem w_160 : Cond.fieldLink "ByteFields$Field" 16 "ByteFields$Field" "units" "I" ∈ bw_uw := bw_in (i := 160) (by decide +kernel) rfl
theorem w_121 : Cond.methodLink "ByteFields$Field" 19 ⟨"ByteFields$Field", "firstUnsplit", "(II)I"⟩ ∈ bw_uw := bw_in (i := 121) (by decide +kernel) rfl
theorem w_123 : Cond.code ⟨"ByteFields$Field", "firstUnsplit", "(II)I"⟩ prog_5_method_2_code 5 (Option.some FieldType.int) ∈ bw_uw := bw_in (i := 123) (by decide +kernel) rfl
theorem w_122 : Cond.static ⟨"ByteFields$Field", "firstUnsplit", "(II)I"⟩ ∈ bw_uw := bw_in (i := 122) (by decide +kernel) rfl
theorem w_161 : Cond.fieldLink "ByteFields$Field" 23 "ByteFields$Field" "poly" "I" ∈ bw_uw := bw_in (i := 161) (by decide +kernel) rfl
theorem w_137 : Cond.methodLink "ByteFields$Field" 26 ⟨"ByteFields$Field", "leastGenerator", "()I"⟩ ∈ bw_uw := bw_in (i := 137) (by decide +kernel) rfl
theorem w_140 : Cond.code ⟨"ByteFields$Field", "leastGenerator", "()I"⟩ prog_5_method_8_code 2 (Option.some FieldType.int) ∈ bw_uw := bw_in (i := 140) (by decide +kernel) rfl
theorem w_139 : Cond.instanceMethod ⟨"ByteFields$Field", "leastGenerator", "()I"⟩ ∈ bw_uw := bw_in (i := 139) (by decide +kernel) rfl
theorem w_0 : Cond.selects "ByteFields$Field" ⟨"ByteFields$Field", "leastGenerator", "()I"⟩ ⟨"ByteFields$Field", "leastGenerator", "()I"⟩ ∈ bw_uw := bw_in (i := 0) (by decide +kernel) rfl
theorem w_163 : Cond.fieldLink "ByteFields$Field" 30 "ByteFields$Field" "generator" "I" ∈ bw_uw := bw_in (i := 163) (by decide +kernel) rfl
theorem w_165 : Cond.fieldLink "ByteFields$Field" 33 "ByteFields$Field" "tables" "[I" ∈ bw_uw := bw_in (i := 165) (by decide +kernel) rfl
theorem w_151 : Cond.methodLink "ByteFields$Field" 37 ⟨"ByteFields$Field", "slowProduct", "(II)I"⟩ ∈ bw_uw := bw_in (i := 151) (by decide +kernel) rfl
theorem w_154 : Cond.code ⟨"ByteFields$Field", "slowProduct", "(II)I"⟩ prog_5_method_6_code 6 (Option.some FieldType.int) ∈ bw_uw := bw_in (i := 154) (by decide +kernel) rfl
theorem w_153 : Cond.instanceMethod ⟨"ByteFields$Field", "slowProduct", "(II)I"⟩ ∈ bw_uw := bw_in (i := 153) (by decide +kernel) rfl
theorem w_3 : Cond.selects "ByteFields$Field" ⟨"ByteFields$Field", "slowProduct", "(II)I"⟩ ⟨"ByteFields$Field", "slowProduct", "(II)I"⟩ ∈ bw_uw := bw_in (i := 3) (by decide +kernel) rfl
theorem w_124 : Cond.methodLink "ByteFields$Field" 40 ⟨"ByteFields$Field", "splits", "(II)Z"⟩ ∈ bw_uw := bw_in (i := 124) (by decide +kernel) rfl
theorem w_126 : Cond.code ⟨"ByteFields$Field", "splits", "(II)Z"⟩ prog_5_method_3_code 4 (Option.some FieldType.boolean) ∈ bw_uw := bw_in (i := 126) (by decide +kernel) rfl
theorem w_125 : Cond.static ⟨"ByteFields$Field", "splits", "(II)Z"⟩ ∈ bw_uw := bw_in (i := 125) (by decide +kernel) rfl
theorem w_127 : Cond.methodLink "ByteFields$Field" 44 ⟨"ByteFields$Field", "restOfBits", "(II)I"⟩ ∈ bw_uw := bw_in (i := 127) (by decide +kernel) rfl
theorem w_129 : Cond.code ⟨"ByteFields$Field", "restOfBits", "(II)I"⟩ prog_5_method_4_code 5 (Option.some FieldType.int) ∈ bw_uw := bw_in (i := 129) (by decide +kernel) rfl
theorem w_128 : Cond.static ⟨"ByteFields$Field", "restOfBits", "(II)I"⟩ ∈ bw_uw := bw_in (i := 128) (by decide +kernel) rfl
theorem w_130 : Cond.methodLink "ByteFields$Field" 47 ⟨"ByteFields$Field", "highestBit", "(I)I"⟩ ∈ bw_uw := bw_in (i := 130) (by decide +kernel) rfl
theorem w_132 : Cond.code ⟨"ByteFields$Field", "highestBit", "(I)I"⟩ prog_5_method_5_code 1 (Option.some FieldType.int) ∈ bw_uw := bw_in (i := 132) (by decide +kernel) rfl
theorem w_131 : Cond.static ⟨"ByteFields$Field", "highestBit", "(I)I"⟩ ∈ bw_uw := bw_in (i := 131) (by decide +kernel) rfl
theorem w_133 : Cond.methodLink "ByteFields$Field" 51 ⟨"java/lang/Integer", "numberOfLeadingZeros", "(I)I"⟩ ∈ bw_uw := bw_in (i := 133) (by decide +kernel) rfl
theorem w_56 : Cond.initialized "java/lang/Integer" ∈ bw_uw := bw_in (i := 56) (by decide +kernel) rfl
theorem w_135 : Cond.code ⟨"java/lang/Integer", "numberOfLeadingZeros", "(I)I"⟩ prog_19_method_47_code 2 (Option.some FieldType.int) ∈ bw_uw := bw_in (i := 135) (by decide +kernel) rfl
theorem w_134 : Cond.static ⟨"java/lang/Integer", "numberOfLeadingZeros", "(I)I"⟩ ∈ bw_uw := bw_in (i := 134) (by decide +kernel) rfl
theorem w_141 : Cond.methodLink "ByteFields$Field" 56 ⟨"ByteFields$Field", "generates", "(I)Z"⟩ ∈ bw_uw := bw_in (i := 141) (by decide +kernel) rfl
theorem w_144 : Cond.code ⟨"ByteFields$Field", "generates", "(I)Z"⟩ prog_5_method_9_code 6 (Option.some FieldType.boolean) ∈ bw_uw := bw_in (i := 144) (by decide +kernel) rfl
theorem w_143 : Cond.instanceMethod ⟨"ByteFields$Field", "generates", "(I)Z"⟩ ∈ bw_uw := bw_in (i := 143) (by decide +kernel) rfl
theorem w_1 : Cond.selects "ByteFields$Field" ⟨"ByteFields$Field", "generates", "(I)Z"⟩ ⟨"ByteFields$Field", "generates", "(I)Z"⟩ ∈ bw_uw := bw_in (i := 1) (by decide +kernel) rfl
theorem w_145 : Cond.fieldLink "ByteFields$Field" 60 "ByteFields$Field" "PRIMES" "[I" ∈ bw_uw := bw_in (i := 145) (by decide +kernel) rfl
theorem w_147 : Cond.methodLink "ByteFields$Field" 63 ⟨"ByteFields$Field", "slowPower", "(II)I"⟩ ∈ bw_uw := bw_in (i := 147) (by decide +kernel) rfl
theorem w_150 : Cond.code ⟨"ByteFields$Field", "slowPower", "(II)I"⟩ prog_5_method_7_code 6 (Option.some FieldType.int) ∈ bw_uw := bw_in (i := 150) (by decide +kernel) rfl
theorem w_149 : Cond.instanceMethod ⟨"ByteFields$Field", "slowPower", "(II)I"⟩ ∈ bw_uw := bw_in (i := 149) (by decide +kernel) rfl
theorem w_2 : Cond.selects "ByteFields$Field" ⟨"ByteFields$Field", "slowPower", "(II)I"⟩ ⟨"ByteFields$Field", "slowPower", "(II)I"⟩ ∈ bw_uw := bw_in (i := 2) (by decide +kernel) rfl
theorem w_266 : Cond.constant "ByteFields$Field" 66 (65535 : Int32) ∈ bw_uw := bw_in (i := 266) (by decide +kernel) rfl
theorem w_500 : Cond.methodLink "ByteFields$Field" 67 ⟨"ByteFields$Field", "inverse", "(I)I"⟩ ∈ bw_uw := bw_in (i := 500) (by decide +kernel) rfl
theorem w_504 : Cond.methodLink "ByteFields$Field" 70 ⟨"ByteFields$Field", "mul", "(II)I"⟩ ∈ bw_uw := bw_in (i := 504) (by decide +kernel) rfl
theorem w_517 : Cond.methodLink "ByteFields$Field" 73 ⟨"ByteFields$Field", "logOf", "(I)I"⟩ ∈ bw_uw := bw_in (i := 517) (by decide +kernel) rfl
theorem w_520 : Cond.code ⟨"ByteFields$Field", "logOf", "(I)I"⟩ prog_5_method_10_code 2 (Option.some FieldType.int) ∈ bw_uw := bw_in (i := 520) (by decide +kernel) rfl
theorem w_518 : Cond.instanceMethod ⟨"ByteFields$Field", "logOf", "(I)I"⟩ ∈ bw_uw := bw_in (i := 518) (by decide +kernel) rfl
theorem w_519 : Cond.selects "ByteFields$Field" ⟨"ByteFields$Field", "logOf", "(I)I"⟩ ⟨"ByteFields$Field", "logOf", "(I)I"⟩ ∈ bw_uw := bw_in (i := 519) (by decide +kernel) rfl
theorem w_241 : Cond.fieldLink "ByteFields$Interpolation" 9 "ByteFields$Interpolation" "xs" "[I" ∈ bw_uw := bw_in (i := 241) (by decide +kernel) rfl
theorem w_242 : Cond.fieldLink "ByteFields$Interpolation" 15 "ByteFields$Interpolation" "ys" "[I" ∈ bw_uw := bw_in (i := 242) (by decide +kernel) rfl
theorem w_240 : Cond.fieldLink "ByteFields$Interpolation" 18 "ByteFields$Interpolation" "field" "LByteFields$Field;" ∈ bw_uw := bw_in (i := 240) (by decide +kernel) rfl
theorem w_894 : Cond.methodLink "ByteFields$Interpolation" 22 ⟨"ByteFields$Field", "ratio", "(II)I"⟩ ∈ bw_uw := bw_in (i := 894) (by decide +kernel) rfl
theorem w_499 : Cond.code ⟨"ByteFields$Field", "ratio", "(II)I"⟩ prog_5_method_13_code 3 (Option.some FieldType.int) ∈ bw_uw := bw_in (i := 499) (by decide +kernel) rfl
theorem w_497 : Cond.instanceMethod ⟨"ByteFields$Field", "ratio", "(II)I"⟩ ∈ bw_uw := bw_in (i := 497) (by decide +kernel) rfl
theorem w_498 : Cond.selects "ByteFields$Field" ⟨"ByteFields$Field", "ratio", "(II)I"⟩ ⟨"ByteFields$Field", "ratio", "(II)I"⟩ ∈ bw_uw := bw_in (i := 498) (by decide +kernel) rfl
theorem w_895 : Cond.methodLink "ByteFields$Interpolation" 28 ⟨"ByteFields$Polynomial", "clear", "()V"⟩ ∈ bw_uw := bw_in (i := 895) (by decide +kernel) rfl
theorem w_896 : Cond.methodLink "ByteFields$Interpolation" 33 ⟨"ByteFields$Interpolation", "multiplyAndAdd", "(LByteFields$Polynomial;II)V"⟩ ∈ bw_uw := bw_in (i := 896) (by decide +kernel) rfl
theorem w_60 : Cond.initialized "ByteFields$Interpolation" ∈ bw_uw := bw_in (i := 60) (by decide +kernel) rfl
theorem w_899 : Cond.code ⟨"ByteFields$Interpolation", "multiplyAndAdd", "(LByteFields$Polynomial;II)V"⟩ prog_6_method_4_code 7 (Option.none : Option FieldType) ∈ bw_uw := bw_in (i := 899) (by decide +kernel) rfl
theorem w_898 : Cond.instanceMethod ⟨"ByteFields$Interpolation", "multiplyAndAdd", "(LByteFields$Polynomial;II)V"⟩ ∈ bw_uw := bw_in (i := 898) (by decide +kernel) rfl
theorem w_18 : Cond.selects "ByteFields$Interpolation" ⟨"ByteFields$Interpolation", "multiplyAndAdd", "(LByteFields$Polynomial;II)V"⟩ ⟨"ByteFields$Interpolation", "multiplyAndAdd", "(LByteFields$Polynomial;II)V"⟩ ∈ bw_uw := bw_in (i := 18) (by decide +kernel) rfl
theorem w_99 : Cond.fieldLink "ByteFields$Interpolation" 37 "ByteFields$Polynomial" "top" "I" ∈ bw_uw := bw_in (i := 99) (by decide +kernel) rfl
theorem w_93 : Cond.fieldLink "ByteFields$Interpolation" 41 "ByteFields$Polynomial" "at" "[I" ∈ bw_uw := bw_in (i := 93) (by decide +kernel) rfl
theorem w_900 : Cond.methodLink "ByteFields$Interpolation" 44 ⟨"ByteFields$Field", "mul", "(II)I"⟩ ∈ bw_uw := bw_in (i := 900) (by decide +kernel) rfl
theorem w_901 : Cond.methodLink "ByteFields$Interpolation" 47 ⟨"ByteFields$Polynomial", "settle", "(I)V"⟩ ∈ bw_uw := bw_in (i := 901) (by decide +kernel) rfl
theorem w_628 : Cond.fieldLink "ByteFields$Matrix" 7 "ByteFields$Matrix" "rows" "I" ∈ bw_uw := bw_in (i := 628) (by decide +kernel) rfl
theorem w_632 : Cond.fieldLink "ByteFields$Matrix" 13 "ByteFields$Matrix" "columns" "I" ∈ bw_uw := bw_in (i := 632) (by decide +kernel) rfl
theorem w_636 : Cond.fieldLink "ByteFields$Matrix" 16 "ByteFields$Matrix" "cells" "[I" ∈ bw_uw := bw_in (i := 636) (by decide +kernel) rfl
theorem w_216 : Cond.classLink "ByteFields$Minors" 9 "[[I" ∈ bw_uw := bw_in (i := 216) (by decide +kernel) rfl
theorem w_218 : Cond.fieldLink "ByteFields$Minors" 11 "ByteFields$Minors" "values" "[[I" ∈ bw_uw := bw_in (i := 218) (by decide +kernel) rfl
theorem w_217 : Cond.fieldLink "ByteFields$Minors" 16 "ByteFields$Minors" "field" "LByteFields$Field;" ∈ bw_uw := bw_in (i := 217) (by decide +kernel) rfl
theorem w_630 : Cond.fieldLink "ByteFields$Minors" 20 "ByteFields$Matrix" "rows" "I" ∈ bw_uw := bw_in (i := 630) (by decide +kernel) rfl
theorem w_805 : Cond.methodLink "ByteFields$Minors" 26 ⟨"java/lang/Integer", "bitCount", "(I)I"⟩ ∈ bw_uw := bw_in (i := 805) (by decide +kernel) rfl
theorem w_807 : Cond.code ⟨"java/lang/Integer", "bitCount", "(I)I"⟩ prog_19_method_49_code 1 (Option.some FieldType.int) ∈ bw_uw := bw_in (i := 807) (by decide +kernel) rfl
theorem w_806 : Cond.static ⟨"java/lang/Integer", "bitCount", "(I)I"⟩ ∈ bw_uw := bw_in (i := 806) (by decide +kernel) rfl
theorem w_811 : Cond.methodLink "ByteFields$Minors" 32 ⟨"java/lang/Integer", "numberOfTrailingZeros", "(I)I"⟩ ∈ bw_uw := bw_in (i := 811) (by decide +kernel) rfl
theorem w_813 : Cond.code ⟨"java/lang/Integer", "numberOfTrailingZeros", "(I)I"⟩ prog_19_method_48_code 2 (Option.some FieldType.int) ∈ bw_uw := bw_in (i := 813) (by decide +kernel) rfl
theorem w_812 : Cond.static ⟨"java/lang/Integer", "numberOfTrailingZeros", "(I)I"⟩ ∈ bw_uw := bw_in (i := 812) (by decide +kernel) rfl
theorem w_814 : Cond.methodLink "ByteFields$Minors" 35 ⟨"ByteFields$Minors", "addRow", "(LByteFields$Matrix;II)I"⟩ ∈ bw_uw := bw_in (i := 814) (by decide +kernel) rfl
theorem w_58 : Cond.initialized "ByteFields$Minors" ∈ bw_uw := bw_in (i := 58) (by decide +kernel) rfl
theorem w_817 : Cond.code ⟨"ByteFields$Minors", "addRow", "(LByteFields$Matrix;II)I"⟩ prog_8_method_3_code 7 (Option.some FieldType.int) ∈ bw_uw := bw_in (i := 817) (by decide +kernel) rfl
theorem w_816 : Cond.instanceMethod ⟨"ByteFields$Minors", "addRow", "(LByteFields$Matrix;II)I"⟩ ∈ bw_uw := bw_in (i := 816) (by decide +kernel) rfl
theorem w_14 : Cond.selects "ByteFields$Minors" ⟨"ByteFields$Minors", "addRow", "(LByteFields$Matrix;II)I"⟩ ⟨"ByteFields$Minors", "addRow", "(LByteFields$Matrix;II)I"⟩ ∈ bw_uw := bw_in (i := 14) (by decide +kernel) rfl
theorem w_634 : Cond.fieldLink "ByteFields$Minors" 39 "ByteFields$Matrix" "columns" "I" ∈ bw_uw := bw_in (i := 634) (by decide +kernel) rfl
theorem w_818 : Cond.methodLink "ByteFields$Minors" 42 ⟨"ByteFields$Minors", "expanded", "(LByteFields$Matrix;II[I)I"⟩ ∈ bw_uw := bw_in (i := 818) (by decide +kernel) rfl
theorem w_821 : Cond.code ⟨"ByteFields$Minors", "expanded", "(LByteFields$Matrix;II[I)I"⟩ prog_8_method_4_code 7 (Option.some FieldType.int) ∈ bw_uw := bw_in (i := 821) (by decide +kernel) rfl
theorem w_820 : Cond.instanceMethod ⟨"ByteFields$Minors", "expanded", "(LByteFields$Matrix;II[I)I"⟩ ∈ bw_uw := bw_in (i := 820) (by decide +kernel) rfl
theorem w_15 : Cond.selects "ByteFields$Minors" ⟨"ByteFields$Minors", "expanded", "(LByteFields$Matrix;II[I)I"⟩ ⟨"ByteFields$Minors", "expanded", "(LByteFields$Matrix;II[I)I"⟩ ∈ bw_uw := bw_in (i := 15) (by decide +kernel) rfl
theorem w_638 : Cond.fieldLink "ByteFields$Minors" 46 "ByteFields$Matrix" "cells" "[I" ∈ bw_uw := bw_in (i := 638) (by decide +kernel) rfl
theorem w_822 : Cond.methodLink "ByteFields$Minors" 50 ⟨"ByteFields$Field", "mul", "(II)I"⟩ ∈ bw_uw := bw_in (i := 822) (by decide +kernel) rfl
theorem w_96 : Cond.fieldLink "ByteFields$Polynomial" 9 "ByteFields$Polynomial" "top" "I" ∈ bw_uw := bw_in (i := 96) (by decide +kernel) rfl
theorem w_102 : Cond.fieldLink "ByteFields$Polynomial" 15 "ByteFields$Polynomial" "partCounts" "[I" ∈ bw_uw := bw_in (i := 102) (by decide +kernel) rfl
theorem w_91 : Cond.fieldLink "ByteFields$Polynomial" 19 "ByteFields$Polynomial" "at" "[I" ∈ bw_uw := bw_in (i := 91) (by decide +kernel) rfl
theorem w_860 : Cond.methodLink "ByteFields$Polynomial" 22 ⟨"ByteFields$Polynomial", "clear", "()V"⟩ ∈ bw_uw := bw_in (i := 860) (by decide +kernel) rfl
theorem w_865 : Cond.methodLink "ByteFields$Polynomial" 31 ⟨"ByteFields$Polynomial", "settle", "(I)V"⟩ ∈ bw_uw := bw_in (i := 865) (by decide +kernel) rfl
theorem w_877 : Cond.methodLink "ByteFields$Polynomial" 35 ⟨"ByteFields$Polynomial", "load", "([II)V"⟩ ∈ bw_uw := bw_in (i := 877) (by decide +kernel) rfl
theorem w_859 : Cond.code ⟨"ByteFields$Polynomial", "load", "([II)V"⟩ prog_9_method_3_code 3 (Option.none : Option FieldType) ∈ bw_uw := bw_in (i := 859) (by decide +kernel) rfl
theorem w_857 : Cond.instanceMethod ⟨"ByteFields$Polynomial", "load", "([II)V"⟩ ∈ bw_uw := bw_in (i := 857) (by decide +kernel) rfl
theorem w_858 : Cond.selects "ByteFields$Polynomial" ⟨"ByteFields$Polynomial", "load", "([II)V"⟩ ⟨"ByteFields$Polynomial", "load", "([II)V"⟩ ∈ bw_uw := bw_in (i := 858) (by decide +kernel) rfl
theorem w_944 : Cond.methodLink "ByteFields$Polynomial" 39 ⟨"ByteFields$Field", "addMultiple", "([II[IIII)V"⟩ ∈ bw_uw := bw_in (i := 944) (by decide +kernel) rfl
theorem w_945 : Cond.methodLink "ByteFields$Polynomial" 45 ⟨"java/lang/Math", "max", "(II)I"⟩ ∈ bw_uw := bw_in (i := 945) (by decide +kernel) rfl
theorem w_76 : Cond.initialized "java/lang/Math" ∈ bw_uw := bw_in (i := 76) (by decide +kernel) rfl
theorem w_947 : Cond.code ⟨"java/lang/Math", "max", "(II)I"⟩ prog_20_method_65_code 2 (Option.some FieldType.int) ∈ bw_uw := bw_in (i := 947) (by decide +kernel) rfl
theorem w_946 : Cond.static ⟨"java/lang/Math", "max", "(II)I"⟩ ∈ bw_uw := bw_in (i := 946) (by decide +kernel) rfl
theorem w_256 : Cond.classLink "ByteFields$Roots" 9 "ByteFields$Polynomial" ∈ bw_uw := bw_in (i := 256) (by decide +kernel) rfl
theorem w_257 : Cond.methodLink "ByteFields$Roots" 11 ⟨"ByteFields$Polynomial", "<init>", "(I)V"⟩ ∈ bw_uw := bw_in (i := 257) (by decide +kernel) rfl
theorem w_271 : Cond.fieldLink "ByteFields$Roots" 14 "ByteFields$Roots" "left" "LByteFields$Polynomial;" ∈ bw_uw := bw_in (i := 271) (by decide +kernel) rfl
theorem w_272 : Cond.fieldLink "ByteFields$Roots" 20 "ByteFields$Roots" "lower" "LByteFields$Polynomial;" ∈ bw_uw := bw_in (i := 272) (by decide +kernel) rfl
theorem w_273 : Cond.fieldLink "ByteFields$Roots" 23 "ByteFields$Roots" "other" "LByteFields$Polynomial;" ∈ bw_uw := bw_in (i := 273) (by decide +kernel) rfl
theorem w_267 : Cond.fieldLink "ByteFields$Roots" 26 "ByteFields$Roots" "field" "LByteFields$Field;" ∈ bw_uw := bw_in (i := 267) (by decide +kernel) rfl
theorem w_268 : Cond.fieldLink "ByteFields$Roots" 30 "ByteFields$Roots" "division" "LByteFields$Division;" ∈ bw_uw := bw_in (i := 268) (by decide +kernel) rfl
theorem w_156 : Cond.fieldLink "ByteFields$Roots" 34 "ByteFields$Field" "bits" "I" ∈ bw_uw := bw_in (i := 156) (by decide +kernel) rfl
theorem w_269 : Cond.fieldLink "ByteFields$Roots" 40 "ByteFields$Roots" "steps" "[I" ∈ bw_uw := bw_in (i := 269) (by decide +kernel) rfl
theorem w_258 : Cond.methodLink "ByteFields$Roots" 44 ⟨"ByteFields$Roots", "valueAt", "(II)I"⟩ ∈ bw_uw := bw_in (i := 258) (by decide +kernel) rfl
theorem w_61 : Cond.initialized "ByteFields$Roots" ∈ bw_uw := bw_in (i := 61) (by decide +kernel) rfl
theorem w_261 : Cond.code ⟨"ByteFields$Roots", "valueAt", "(II)I"⟩ prog_10_method_2_code 5 (Option.some FieldType.int) ∈ bw_uw := bw_in (i := 261) (by decide +kernel) rfl
theorem w_260 : Cond.instanceMethod ⟨"ByteFields$Roots", "valueAt", "(II)I"⟩ ∈ bw_uw := bw_in (i := 260) (by decide +kernel) rfl
theorem w_4 : Cond.selects "ByteFields$Roots" ⟨"ByteFields$Roots", "valueAt", "(II)I"⟩ ⟨"ByteFields$Roots", "valueAt", "(II)I"⟩ ∈ bw_uw := bw_in (i := 4) (by decide +kernel) rfl
theorem w_270 : Cond.fieldLink "ByteFields$Roots" 48 "ByteFields$Roots" "rests" "[LByteFields$Polynomial;" ∈ bw_uw := bw_in (i := 270) (by decide +kernel) rfl
theorem w_262 : Cond.methodLink "ByteFields$Roots" 52 ⟨"ByteFields$Field", "mul", "(II)I"⟩ ∈ bw_uw := bw_in (i := 262) (by decide +kernel) rfl
theorem w_1016 : Cond.methodLink "ByteFields$Roots" 55 ⟨"ByteFields$Polynomial", "becomeX", "()V"⟩ ∈ bw_uw := bw_in (i := 1016) (by decide +kernel) rfl
theorem w_1020 : Cond.methodLink "ByteFields$Roots" 58 ⟨"ByteFields$Division", "toRest", "(LByteFields$Polynomial;LByteFields$Polynomial;)V"⟩ ∈ bw_uw := bw_in (i := 1020) (by decide +kernel) rfl
theorem w_1021 : Cond.methodLink "ByteFields$Roots" 64 ⟨"ByteFields$Polynomial", "copyFrom", "(LByteFields$Polynomial;)V"⟩ ∈ bw_uw := bw_in (i := 1021) (by decide +kernel) rfl
theorem w_1022 : Cond.methodLink "ByteFields$Roots" 68 ⟨"ByteFields$Division", "toSquareRest", "(LByteFields$Polynomial;LByteFields$Polynomial;)V"⟩ ∈ bw_uw := bw_in (i := 1022) (by decide +kernel) rfl
theorem w_1026 : Cond.methodLink "ByteFields$Roots" 71 ⟨"ByteFields$Polynomial", "addScaled", "(LByteFields$Field;LByteFields$Polynomial;I)V"⟩ ∈ bw_uw := bw_in (i := 1026) (by decide +kernel) rfl
theorem w_100 : Cond.fieldLink "ByteFields$Roots" 75 "ByteFields$Polynomial" "top" "I" ∈ bw_uw := bw_in (i := 100) (by decide +kernel) rfl
theorem w_1012 : Cond.methodLink "ByteFields$Roots" 78 ⟨"ByteFields$Roots", "makeRests", "(LByteFields$Polynomial;)V"⟩ ∈ bw_uw := bw_in (i := 1012) (by decide +kernel) rfl
theorem w_1015 : Cond.code ⟨"ByteFields$Roots", "makeRests", "(LByteFields$Polynomial;)V"⟩ prog_10_method_3_code 3 (Option.none : Option FieldType) ∈ bw_uw := bw_in (i := 1015) (by decide +kernel) rfl
theorem w_1014 : Cond.instanceMethod ⟨"ByteFields$Roots", "makeRests", "(LByteFields$Polynomial;)V"⟩ ∈ bw_uw := bw_in (i := 1014) (by decide +kernel) rfl
theorem w_22 : Cond.selects "ByteFields$Roots" ⟨"ByteFields$Roots", "makeRests", "(LByteFields$Polynomial;)V"⟩ ⟨"ByteFields$Roots", "makeRests", "(LByteFields$Polynomial;)V"⟩ ∈ bw_uw := bw_in (i := 22) (by decide +kernel) rfl
theorem w_1027 : Cond.methodLink "ByteFields$Roots" 81 ⟨"ByteFields$Division", "toGreatestDivisor", "(LByteFields$Polynomial;LByteFields$Polynomial;)V"⟩ ∈ bw_uw := bw_in (i := 1027) (by decide +kernel) rfl
theorem w_1028 : Cond.methodLink "ByteFields$Roots" 84 ⟨"ByteFields$Roots", "keepLower", "(II)V"⟩ ∈ bw_uw := bw_in (i := 1028) (by decide +kernel) rfl
theorem w_1031 : Cond.code ⟨"ByteFields$Roots", "keepLower", "(II)V"⟩ prog_10_method_5_code 3 (Option.none : Option FieldType) ∈ bw_uw := bw_in (i := 1031) (by decide +kernel) rfl
theorem w_1030 : Cond.instanceMethod ⟨"ByteFields$Roots", "keepLower", "(II)V"⟩ ∈ bw_uw := bw_in (i := 1030) (by decide +kernel) rfl
theorem w_23 : Cond.selects "ByteFields$Roots" ⟨"ByteFields$Roots", "keepLower", "(II)V"⟩ ⟨"ByteFields$Roots", "keepLower", "(II)V"⟩ ∈ bw_uw := bw_in (i := 23) (by decide +kernel) rfl
theorem w_1036 : Cond.methodLink "ByteFields$Roots" 88 ⟨"ByteFields$Division", "toQuotient", "(LByteFields$Polynomial;LByteFields$Polynomial;)V"⟩ ∈ bw_uw := bw_in (i := 1036) (by decide +kernel) rfl
theorem w_94 : Cond.fieldLink "ByteFields$Roots" 91 "ByteFields$Polynomial" "at" "[I" ∈ bw_uw := bw_in (i := 94) (by decide +kernel) rfl
theorem w_1037 : Cond.methodLink "ByteFields$Roots" 94 ⟨"ByteFields$Field", "ratio", "(II)I"⟩ ∈ bw_uw := bw_in (i := 1037) (by decide +kernel) rfl
theorem w_1032 : Cond.methodLink "ByteFields$Roots" 97 ⟨"ByteFields$Polynomial", "addMember", "(I)V"⟩ ∈ bw_uw := bw_in (i := 1032) (by decide +kernel) rfl
theorem w_1035 : Cond.code ⟨"ByteFields$Polynomial", "addMember", "(I)V"⟩ prog_9_method_7_code 2 (Option.none : Option FieldType) ∈ bw_uw := bw_in (i := 1035) (by decide +kernel) rfl
theorem w_1033 : Cond.instanceMethod ⟨"ByteFields$Polynomial", "addMember", "(I)V"⟩ ∈ bw_uw := bw_in (i := 1033) (by decide +kernel) rfl
theorem w_1034 : Cond.selects "ByteFields$Polynomial" ⟨"ByteFields$Polynomial", "addMember", "(I)V"⟩ ⟨"ByteFields$Polynomial", "addMember", "(I)V"⟩ ∈ bw_uw := bw_in (i := 1034) (by decide +kernel) rfl
theorem w_85 : Cond.classLink "ByteFields" 9 "ByteFields$Polynomial" ∈ bw_uw := bw_in (i := 85) (by decide +kernel) rfl
theorem w_87 : Cond.methodLink "ByteFields" 11 ⟨"ByteFields$Polynomial", "<init>", "(I)V"⟩ ∈ bw_uw := bw_in (i := 87) (by decide +kernel) rfl
theorem w_323 : Cond.fieldLink "ByteFields" 14 "ByteFields" "work" "LByteFields$Polynomial;" ∈ bw_uw := bw_in (i := 323) (by decide +kernel) rfl
theorem w_324 : Cond.fieldLink "ByteFields" 18 "ByteFields" "otherWork" "LByteFields$Polynomial;" ∈ bw_uw := bw_in (i := 324) (by decide +kernel) rfl
theorem w_325 : Cond.fieldLink "ByteFields" 21 "ByteFields" "rowMembers" "[I" ∈ bw_uw := bw_in (i := 325) (by decide +kernel) rfl
theorem w_112 : Cond.classLink "ByteFields" 25 "ByteFields$Matrix" ∈ bw_uw := bw_in (i := 112) (by decide +kernel) rfl
theorem w_327 : Cond.fieldLink "ByteFields" 27 "ByteFields" "matrices" "[LByteFields$Matrix;" ∈ bw_uw := bw_in (i := 327) (by decide +kernel) rfl
theorem w_329 : Cond.fieldLink "ByteFields" 31 "ByteFields" "polynomials" "[LByteFields$Polynomial;" ∈ bw_uw := bw_in (i := 329) (by decide +kernel) rfl
theorem w_331 : Cond.fieldLink "ByteFields" 35 "ByteFields" "spanMembers" "[I" ∈ bw_uw := bw_in (i := 331) (by decide +kernel) rfl
theorem w_115 : Cond.classLink "ByteFields" 38 "ByteFields$Field" ∈ bw_uw := bw_in (i := 115) (by decide +kernel) rfl
theorem w_116 : Cond.instantiable "ByteFields$Field" 6 ∈ bw_uw := bw_in (i := 116) (by decide +kernel) rfl
theorem w_117 : Cond.methodLink "ByteFields" 40 ⟨"ByteFields$Field", "<init>", "(II)V"⟩ ∈ bw_uw := bw_in (i := 117) (by decide +kernel) rfl
theorem w_119 : Cond.code ⟨"ByteFields$Field", "<init>", "(II)V"⟩ prog_5_method_1_code 5 (Option.none : Option FieldType) ∈ bw_uw := bw_in (i := 119) (by decide +kernel) rfl
theorem w_118 : Cond.instanceMethod ⟨"ByteFields$Field", "<init>", "(II)V"⟩ ∈ bw_uw := bw_in (i := 118) (by decide +kernel) rfl
theorem w_316 : Cond.fieldLink "ByteFields" 43 "ByteFields" "field" "LByteFields$Field;" ∈ bw_uw := bw_in (i := 316) (by decide +kernel) rfl
theorem w_179 : Cond.classLink "ByteFields" 47 "ByteFields$Elimination" ∈ bw_uw := bw_in (i := 179) (by decide +kernel) rfl
theorem w_180 : Cond.instantiable "ByteFields$Elimination" 7 ∈ bw_uw := bw_in (i := 180) (by decide +kernel) rfl
theorem w_181 : Cond.methodLink "ByteFields" 49 ⟨"ByteFields$Elimination", "<init>", "(LByteFields$Field;)V"⟩ ∈ bw_uw := bw_in (i := 181) (by decide +kernel) rfl
theorem w_183 : Cond.code ⟨"ByteFields$Elimination", "<init>", "(LByteFields$Field;)V"⟩ prog_3_method_1_code 2 (Option.none : Option FieldType) ∈ bw_uw := bw_in (i := 183) (by decide +kernel) rfl
theorem w_182 : Cond.instanceMethod ⟨"ByteFields$Elimination", "<init>", "(LByteFields$Field;)V"⟩ ∈ bw_uw := bw_in (i := 182) (by decide +kernel) rfl
theorem w_317 : Cond.fieldLink "ByteFields" 52 "ByteFields" "elimination" "LByteFields$Elimination;" ∈ bw_uw := bw_in (i := 317) (by decide +kernel) rfl
theorem w_210 : Cond.classLink "ByteFields" 56 "ByteFields$Minors" ∈ bw_uw := bw_in (i := 210) (by decide +kernel) rfl
theorem w_211 : Cond.instantiable "ByteFields$Minors" 2 ∈ bw_uw := bw_in (i := 211) (by decide +kernel) rfl
theorem w_212 : Cond.methodLink "ByteFields" 58 ⟨"ByteFields$Minors", "<init>", "(LByteFields$Field;)V"⟩ ∈ bw_uw := bw_in (i := 212) (by decide +kernel) rfl
theorem w_214 : Cond.code ⟨"ByteFields$Minors", "<init>", "(LByteFields$Field;)V"⟩ prog_8_method_1_code 2 (Option.none : Option FieldType) ∈ bw_uw := bw_in (i := 214) (by decide +kernel) rfl
theorem w_213 : Cond.instanceMethod ⟨"ByteFields$Minors", "<init>", "(LByteFields$Field;)V"⟩ ∈ bw_uw := bw_in (i := 213) (by decide +kernel) rfl
theorem w_318 : Cond.fieldLink "ByteFields" 59 "ByteFields" "minors" "LByteFields$Minors;" ∈ bw_uw := bw_in (i := 318) (by decide +kernel) rfl
theorem w_224 : Cond.classLink "ByteFields" 63 "ByteFields$Division" ∈ bw_uw := bw_in (i := 224) (by decide +kernel) rfl
theorem w_225 : Cond.instantiable "ByteFields$Division" 1 ∈ bw_uw := bw_in (i := 225) (by decide +kernel) rfl
theorem w_226 : Cond.methodLink "ByteFields" 65 ⟨"ByteFields$Division", "<init>", "(LByteFields$Field;)V"⟩ ∈ bw_uw := bw_in (i := 226) (by decide +kernel) rfl
theorem w_228 : Cond.code ⟨"ByteFields$Division", "<init>", "(LByteFields$Field;)V"⟩ prog_2_method_1_code 2 (Option.none : Option FieldType) ∈ bw_uw := bw_in (i := 228) (by decide +kernel) rfl
theorem w_227 : Cond.instanceMethod ⟨"ByteFields$Division", "<init>", "(LByteFields$Field;)V"⟩ ∈ bw_uw := bw_in (i := 227) (by decide +kernel) rfl
theorem w_319 : Cond.fieldLink "ByteFields" 66 "ByteFields" "division" "LByteFields$Division;" ∈ bw_uw := bw_in (i := 319) (by decide +kernel) rfl
theorem w_234 : Cond.classLink "ByteFields" 70 "ByteFields$Interpolation" ∈ bw_uw := bw_in (i := 234) (by decide +kernel) rfl
theorem w_235 : Cond.instantiable "ByteFields$Interpolation" 3 ∈ bw_uw := bw_in (i := 235) (by decide +kernel) rfl
theorem w_236 : Cond.methodLink "ByteFields" 72 ⟨"ByteFields$Interpolation", "<init>", "(LByteFields$Field;)V"⟩ ∈ bw_uw := bw_in (i := 236) (by decide +kernel) rfl
theorem w_238 : Cond.code ⟨"ByteFields$Interpolation", "<init>", "(LByteFields$Field;)V"⟩ prog_6_method_1_code 2 (Option.none : Option FieldType) ∈ bw_uw := bw_in (i := 238) (by decide +kernel) rfl
theorem w_237 : Cond.instanceMethod ⟨"ByteFields$Interpolation", "<init>", "(LByteFields$Field;)V"⟩ ∈ bw_uw := bw_in (i := 237) (by decide +kernel) rfl
theorem w_320 : Cond.fieldLink "ByteFields" 73 "ByteFields" "interpolation" "LByteFields$Interpolation;" ∈ bw_uw := bw_in (i := 320) (by decide +kernel) rfl
theorem w_250 : Cond.classLink "ByteFields" 77 "ByteFields$Roots" ∈ bw_uw := bw_in (i := 250) (by decide +kernel) rfl
theorem w_251 : Cond.instantiable "ByteFields$Roots" 7 ∈ bw_uw := bw_in (i := 251) (by decide +kernel) rfl
theorem w_252 : Cond.methodLink "ByteFields" 79 ⟨"ByteFields$Roots", "<init>", "(LByteFields$Field;LByteFields$Division;)V"⟩ ∈ bw_uw := bw_in (i := 252) (by decide +kernel) rfl
theorem w_254 : Cond.code ⟨"ByteFields$Roots", "<init>", "(LByteFields$Field;LByteFields$Division;)V"⟩ prog_10_method_1_code 4 (Option.none : Option FieldType) ∈ bw_uw := bw_in (i := 254) (by decide +kernel) rfl
theorem w_253 : Cond.instanceMethod ⟨"ByteFields$Roots", "<init>", "(LByteFields$Field;LByteFields$Division;)V"⟩ ∈ bw_uw := bw_in (i := 253) (by decide +kernel) rfl
theorem w_321 : Cond.fieldLink "ByteFields" 82 "ByteFields" "roots" "LByteFields$Roots;" ∈ bw_uw := bw_in (i := 321) (by decide +kernel) rfl
theorem w_289 : Cond.classLink "ByteFields" 86 "ByteFields$Factors" ∈ bw_uw := bw_in (i := 289) (by decide +kernel) rfl
theorem w_290 : Cond.instantiable "ByteFields$Factors" 6 ∈ bw_uw := bw_in (i := 290) (by decide +kernel) rfl
theorem w_291 : Cond.methodLink "ByteFields" 88 ⟨"ByteFields$Factors", "<init>", "(LByteFields$Field;LByteFields$Division;)V"⟩ ∈ bw_uw := bw_in (i := 291) (by decide +kernel) rfl
theorem w_293 : Cond.code ⟨"ByteFields$Factors", "<init>", "(LByteFields$Field;LByteFields$Division;)V"⟩ prog_4_method_1_code 3 (Option.none : Option FieldType) ∈ bw_uw := bw_in (i := 293) (by decide +kernel) rfl
theorem w_292 : Cond.instanceMethod ⟨"ByteFields$Factors", "<init>", "(LByteFields$Field;LByteFields$Division;)V"⟩ ∈ bw_uw := bw_in (i := 292) (by decide +kernel) rfl
theorem w_322 : Cond.fieldLink "ByteFields" 89 "ByteFields" "factors" "LByteFields$Factors;" ∈ bw_uw := bw_in (i := 322) (by decide +kernel) rfl
theorem w_162 : Cond.fieldLink "ByteFields" 93 "ByteFields$Field" "poly" "I" ∈ bw_uw := bw_in (i := 162) (by decide +kernel) rfl
theorem w_164 : Cond.fieldLink "ByteFields" 97 "ByteFields$Field" "generator" "I" ∈ bw_uw := bw_in (i := 164) (by decide +kernel) rfl
theorem w_391 : Cond.methodLink "ByteFields" 100 ⟨"ByteFields", "needMember", "(I)V"⟩ ∈ bw_uw := bw_in (i := 391) (by decide +kernel) rfl
theorem w_53 : Cond.initialized "ByteFields" ∈ bw_uw := bw_in (i := 53) (by decide +kernel) rfl
theorem w_394 : Cond.code ⟨"ByteFields", "needMember", "(I)V"⟩ prog_1_method_40_code 2 (Option.none : Option FieldType) ∈ bw_uw := bw_in (i := 394) (by decide +kernel) rfl
theorem w_393 : Cond.instanceMethod ⟨"ByteFields", "needMember", "(I)V"⟩ ∈ bw_uw := bw_in (i := 393) (by decide +kernel) rfl
theorem w_5 : Cond.selects "ByteFields" ⟨"ByteFields", "needMember", "(I)V"⟩ ⟨"ByteFields", "needMember", "(I)V"⟩ ∈ bw_uw := bw_in (i := 5) (by decide +kernel) rfl
theorem w_466 : Cond.methodLink "ByteFields" 103 ⟨"ByteFields$Field", "mul", "(II)I"⟩ ∈ bw_uw := bw_in (i := 466) (by decide +kernel) rfl
theorem w_493 : Cond.classLink "ByteFields" 107 "java/lang/ArithmeticException" ∈ bw_uw := bw_in (i := 493) (by decide +kernel) rfl
theorem w_68 : Cond.initialized "java/lang/ArithmeticException" ∈ bw_uw := bw_in (i := 68) (by decide +kernel) rfl
theorem w_496 : Cond.methodLink "ByteFields" 114 ⟨"ByteFields$Field", "ratio", "(II)I"⟩ ∈ bw_uw := bw_in (i := 496) (by decide +kernel) rfl
theorem w_513 : Cond.methodLink "ByteFields" 119 ⟨"ByteFields$Field", "raised", "(IJ)I"⟩ ∈ bw_uw := bw_in (i := 513) (by decide +kernel) rfl
theorem w_516 : Cond.code ⟨"ByteFields$Field", "raised", "(IJ)I"⟩ prog_5_method_14_code 8 (Option.some FieldType.int) ∈ bw_uw := bw_in (i := 516) (by decide +kernel) rfl
theorem w_514 : Cond.instanceMethod ⟨"ByteFields$Field", "raised", "(IJ)I"⟩ ∈ bw_uw := bw_in (i := 514) (by decide +kernel) rfl
theorem w_515 : Cond.selects "ByteFields$Field" ⟨"ByteFields$Field", "raised", "(IJ)I"⟩ ⟨"ByteFields$Field", "raised", "(IJ)I"⟩ ∈ bw_uw := bw_in (i := 515) (by decide +kernel) rfl
theorem w_547 : Cond.classLink "ByteFields" 123 "java/lang/ArrayIndexOutOfBoundsException" ∈ bw_uw := bw_in (i := 547) (by decide +kernel) rfl
theorem w_71 : Cond.initialized "java/lang/ArrayIndexOutOfBoundsException" ∈ bw_uw := bw_in (i := 71) (by decide +kernel) rfl
theorem w_549 : Cond.methodLink "ByteFields" 127 ⟨"java/lang/ArrayIndexOutOfBoundsException", "<init>", "(Ljava/lang/String;)V"⟩ ∈ bw_uw := bw_in (i := 549) (by decide +kernel) rfl
theorem w_527 : Cond.code ⟨"java/lang/ArrayIndexOutOfBoundsException", "<init>", "(Ljava/lang/String;)V"⟩ prog_14_method_2_code 2 (Option.none : Option FieldType) ∈ bw_uw := bw_in (i := 527) (by decide +kernel) rfl
theorem w_526 : Cond.instanceMethod ⟨"java/lang/ArrayIndexOutOfBoundsException", "<init>", "(Ljava/lang/String;)V"⟩ ∈ bw_uw := bw_in (i := 526) (by decide +kernel) rfl
theorem w_550 : Cond.methodLink "ByteFields" 128 ⟨"ByteFields$Field", "logOf", "(I)I"⟩ ∈ bw_uw := bw_in (i := 550) (by decide +kernel) rfl
theorem w_558 : Cond.methodLink "ByteFields" 132 ⟨"ByteFields$Field", "orderOf", "(I)I"⟩ ∈ bw_uw := bw_in (i := 558) (by decide +kernel) rfl
theorem w_561 : Cond.code ⟨"ByteFields$Field", "orderOf", "(I)I"⟩ prog_5_method_15_code 7 (Option.some FieldType.int) ∈ bw_uw := bw_in (i := 561) (by decide +kernel) rfl
theorem w_559 : Cond.instanceMethod ⟨"ByteFields$Field", "orderOf", "(I)I"⟩ ∈ bw_uw := bw_in (i := 559) (by decide +kernel) rfl
theorem w_560 : Cond.selects "ByteFields$Field" ⟨"ByteFields$Field", "orderOf", "(I)I"⟩ ⟨"ByteFields$Field", "orderOf", "(I)I"⟩ ∈ bw_uw := bw_in (i := 560) (by decide +kernel) rfl
theorem w_326 : Cond.fieldLink "ByteFields" 135 "ByteFields" "inRow" "I" ∈ bw_uw := bw_in (i := 326) (by decide +kernel) rfl
theorem w_570 : Cond.classLink "ByteFields" 138 "java/lang/UnsupportedOperationException" ∈ bw_uw := bw_in (i := 570) (by decide +kernel) rfl
theorem w_72 : Cond.initialized "java/lang/UnsupportedOperationException" ∈ bw_uw := bw_in (i := 72) (by decide +kernel) rfl
theorem w_594 : Cond.classLink "ByteFields" 143 "java/lang/IndexOutOfBoundsException" ∈ bw_uw := bw_in (i := 594) (by decide +kernel) rfl
theorem w_70 : Cond.initialized "java/lang/IndexOutOfBoundsException" ∈ bw_uw := bw_in (i := 70) (by decide +kernel) rfl
theorem w_614 : Cond.methodLink "ByteFields" 148 ⟨"ByteFields", "needSides", "(II)V"⟩ ∈ bw_uw := bw_in (i := 614) (by decide +kernel) rfl
theorem w_616 : Cond.code ⟨"ByteFields", "needSides", "(II)V"⟩ prog_1_method_41_code 2 (Option.none : Option FieldType) ∈ bw_uw := bw_in (i := 616) (by decide +kernel) rfl
theorem w_615 : Cond.static ⟨"ByteFields", "needSides", "(II)V"⟩ ∈ bw_uw := bw_in (i := 615) (by decide +kernel) rfl
theorem w_618 : Cond.methodLink "ByteFields" 151 ⟨"ByteFields", "needMatrixRoom", "()V"⟩ ∈ bw_uw := bw_in (i := 618) (by decide +kernel) rfl
theorem w_621 : Cond.code ⟨"ByteFields", "needMatrixRoom", "()V"⟩ prog_1_method_43_code 1 (Option.none : Option FieldType) ∈ bw_uw := bw_in (i := 621) (by decide +kernel) rfl
theorem w_620 : Cond.instanceMethod ⟨"ByteFields", "needMatrixRoom", "()V"⟩ ∈ bw_uw := bw_in (i := 620) (by decide +kernel) rfl
theorem w_7 : Cond.selects "ByteFields" ⟨"ByteFields", "needMatrixRoom", "()V"⟩ ⟨"ByteFields", "needMatrixRoom", "()V"⟩ ∈ bw_uw := bw_in (i := 7) (by decide +kernel) rfl
theorem w_623 : Cond.instantiable "ByteFields$Matrix" 3 ∈ bw_uw := bw_in (i := 623) (by decide +kernel) rfl
theorem w_73 : Cond.initialized "ByteFields$Matrix" ∈ bw_uw := bw_in (i := 73) (by decide +kernel) rfl
theorem w_624 : Cond.methodLink "ByteFields" 154 ⟨"ByteFields$Matrix", "<init>", "(II)V"⟩ ∈ bw_uw := bw_in (i := 624) (by decide +kernel) rfl
theorem w_626 : Cond.code ⟨"ByteFields$Matrix", "<init>", "(II)V"⟩ prog_7_method_1_code 3 (Option.none : Option FieldType) ∈ bw_uw := bw_in (i := 626) (by decide +kernel) rfl
theorem w_625 : Cond.instanceMethod ⟨"ByteFields$Matrix", "<init>", "(II)V"⟩ ∈ bw_uw := bw_in (i := 625) (by decide +kernel) rfl
theorem w_647 : Cond.methodLink "ByteFields" 155 ⟨"ByteFields", "keepMatrix", "(LByteFields$Matrix;)I"⟩ ∈ bw_uw := bw_in (i := 647) (by decide +kernel) rfl
theorem w_650 : Cond.code ⟨"ByteFields", "keepMatrix", "(LByteFields$Matrix;)I"⟩ prog_1_method_49_code 3 (Option.some FieldType.int) ∈ bw_uw := bw_in (i := 650) (by decide +kernel) rfl
theorem w_649 : Cond.instanceMethod ⟨"ByteFields", "keepMatrix", "(LByteFields$Matrix;)I"⟩ ∈ bw_uw := bw_in (i := 649) (by decide +kernel) rfl
theorem w_8 : Cond.selects "ByteFields" ⟨"ByteFields", "keepMatrix", "(LByteFields$Matrix;)I"⟩ ⟨"ByteFields", "keepMatrix", "(LByteFields$Matrix;)I"⟩ ∈ bw_uw := bw_in (i := 8) (by decide +kernel) rfl
theorem w_659 : Cond.methodLink "ByteFields" 159 ⟨"ByteFields", "hasAlike", "(I)Z"⟩ ∈ bw_uw := bw_in (i := 659) (by decide +kernel) rfl
theorem w_662 : Cond.code ⟨"ByteFields", "hasAlike", "(I)Z"⟩ prog_1_method_51_code 4 (Option.some FieldType.boolean) ∈ bw_uw := bw_in (i := 662) (by decide +kernel) rfl
theorem w_661 : Cond.instanceMethod ⟨"ByteFields", "hasAlike", "(I)Z"⟩ ∈ bw_uw := bw_in (i := 661) (by decide +kernel) rfl
theorem w_9 : Cond.selects "ByteFields" ⟨"ByteFields", "hasAlike", "(I)Z"⟩ ⟨"ByteFields", "hasAlike", "(I)Z"⟩ ∈ bw_uw := bw_in (i := 9) (by decide +kernel) rfl
theorem w_663 : Cond.classLink "ByteFields" 163 "java/lang/IllegalStateException" ∈ bw_uw := bw_in (i := 663) (by decide +kernel) rfl
theorem w_74 : Cond.initialized "java/lang/IllegalStateException" ∈ bw_uw := bw_in (i := 74) (by decide +kernel) rfl
theorem w_639 : Cond.fieldLink "ByteFields" 168 "ByteFields$Matrix" "cells" "[I" ∈ bw_uw := bw_in (i := 639) (by decide +kernel) rfl
theorem w_687 : Cond.methodLink "ByteFields" 173 ⟨"ByteFields$Field", "inverse", "(I)I"⟩ ∈ bw_uw := bw_in (i := 687) (by decide +kernel) rfl
theorem w_695 : Cond.methodLink "ByteFields" 176 ⟨"ByteFields", "matrixAt", "(I)LByteFields$Matrix;"⟩ ∈ bw_uw := bw_in (i := 695) (by decide +kernel) rfl
theorem w_698 : Cond.code ⟨"ByteFields", "matrixAt", "(I)LByteFields$Matrix;"⟩ prog_1_method_46_code 3 (Option.some (FieldType.object "ByteFields$Matrix")) ∈ bw_uw := bw_in (i := 698) (by decide +kernel) rfl
theorem w_697 : Cond.instanceMethod ⟨"ByteFields", "matrixAt", "(I)LByteFields$Matrix;"⟩ ∈ bw_uw := bw_in (i := 697) (by decide +kernel) rfl
theorem w_10 : Cond.selects "ByteFields" ⟨"ByteFields", "matrixAt", "(I)LByteFields$Matrix;"⟩ ⟨"ByteFields", "matrixAt", "(I)LByteFields$Matrix;"⟩ ∈ bw_uw := bw_in (i := 10) (by decide +kernel) rfl
theorem w_395 : Cond.classLink "ByteFields" 180 "java/lang/IllegalArgumentException" ∈ bw_uw := bw_in (i := 395) (by decide +kernel) rfl
theorem w_67 : Cond.initialized "java/lang/IllegalArgumentException" ∈ bw_uw := bw_in (i := 67) (by decide +kernel) rfl
theorem w_631 : Cond.fieldLink "ByteFields" 185 "ByteFields$Matrix" "rows" "I" ∈ bw_uw := bw_in (i := 631) (by decide +kernel) rfl
theorem w_635 : Cond.fieldLink "ByteFields" 188 "ByteFields$Matrix" "columns" "I" ∈ bw_uw := bw_in (i := 635) (by decide +kernel) rfl
theorem w_708 : Cond.methodLink "ByteFields" 191 ⟨"ByteFields", "placeIn", "(LByteFields$Matrix;II)I"⟩ ∈ bw_uw := bw_in (i := 708) (by decide +kernel) rfl
theorem w_710 : Cond.code ⟨"ByteFields", "placeIn", "(LByteFields$Matrix;II)I"⟩ prog_1_method_47_code 3 (Option.some FieldType.int) ∈ bw_uw := bw_in (i := 710) (by decide +kernel) rfl
theorem w_709 : Cond.static ⟨"ByteFields", "placeIn", "(LByteFields$Matrix;II)I"⟩ ∈ bw_uw := bw_in (i := 709) (by decide +kernel) rfl
theorem w_727 : Cond.methodLink "ByteFields" 197 ⟨"ByteFields$Field", "addMultiple", "([II[IIII)V"⟩ ∈ bw_uw := bw_in (i := 727) (by decide +kernel) rfl
theorem w_738 : Cond.methodLink "ByteFields" 201 ⟨"ByteFields", "needSquare", "(LByteFields$Matrix;)V"⟩ ∈ bw_uw := bw_in (i := 738) (by decide +kernel) rfl
theorem w_740 : Cond.code ⟨"ByteFields", "needSquare", "(LByteFields$Matrix;)V"⟩ prog_1_method_42_code 1 (Option.none : Option FieldType) ∈ bw_uw := bw_in (i := 740) (by decide +kernel) rfl
theorem w_739 : Cond.static ⟨"ByteFields", "needSquare", "(LByteFields$Matrix;)V"⟩ ∈ bw_uw := bw_in (i := 739) (by decide +kernel) rfl
theorem w_742 : Cond.methodLink "ByteFields" 205 ⟨"ByteFields$Elimination", "load", "(LByteFields$Matrix;)V"⟩ ∈ bw_uw := bw_in (i := 742) (by decide +kernel) rfl
theorem w_745 : Cond.code ⟨"ByteFields$Elimination", "load", "(LByteFields$Matrix;)V"⟩ prog_3_method_2_code 3 (Option.none : Option FieldType) ∈ bw_uw := bw_in (i := 745) (by decide +kernel) rfl
theorem w_743 : Cond.instanceMethod ⟨"ByteFields$Elimination", "load", "(LByteFields$Matrix;)V"⟩ ∈ bw_uw := bw_in (i := 743) (by decide +kernel) rfl
theorem w_744 : Cond.selects "ByteFields$Elimination" ⟨"ByteFields$Elimination", "load", "(LByteFields$Matrix;)V"⟩ ⟨"ByteFields$Elimination", "load", "(LByteFields$Matrix;)V"⟩ ∈ bw_uw := bw_in (i := 744) (by decide +kernel) rfl
theorem w_749 : Cond.methodLink "ByteFields" 208 ⟨"ByteFields$Elimination", "appendIdentity", "()V"⟩ ∈ bw_uw := bw_in (i := 749) (by decide +kernel) rfl
theorem w_752 : Cond.code ⟨"ByteFields$Elimination", "appendIdentity", "()V"⟩ prog_3_method_3_code 3 (Option.none : Option FieldType) ∈ bw_uw := bw_in (i := 752) (by decide +kernel) rfl
theorem w_750 : Cond.instanceMethod ⟨"ByteFields$Elimination", "appendIdentity", "()V"⟩ ∈ bw_uw := bw_in (i := 750) (by decide +kernel) rfl
theorem w_751 : Cond.selects "ByteFields$Elimination" ⟨"ByteFields$Elimination", "appendIdentity", "()V"⟩ ⟨"ByteFields$Elimination", "appendIdentity", "()V"⟩ ∈ bw_uw := bw_in (i := 751) (by decide +kernel) rfl
theorem w_753 : Cond.methodLink "ByteFields" 211 ⟨"ByteFields$Elimination", "reduce", "(I)I"⟩ ∈ bw_uw := bw_in (i := 753) (by decide +kernel) rfl
theorem w_756 : Cond.code ⟨"ByteFields$Elimination", "reduce", "(I)I"⟩ prog_3_method_5_code 4 (Option.some FieldType.int) ∈ bw_uw := bw_in (i := 756) (by decide +kernel) rfl
theorem w_754 : Cond.instanceMethod ⟨"ByteFields$Elimination", "reduce", "(I)I"⟩ ∈ bw_uw := bw_in (i := 754) (by decide +kernel) rfl
theorem w_755 : Cond.selects "ByteFields$Elimination" ⟨"ByteFields$Elimination", "reduce", "(I)I"⟩ ⟨"ByteFields$Elimination", "reduce", "(I)I"⟩ ∈ bw_uw := bw_in (i := 755) (by decide +kernel) rfl
theorem w_776 : Cond.methodLink "ByteFields" 214 ⟨"ByteFields$Elimination", "copyAppended", "(LByteFields$Matrix;)V"⟩ ∈ bw_uw := bw_in (i := 776) (by decide +kernel) rfl
theorem w_779 : Cond.code ⟨"ByteFields$Elimination", "copyAppended", "(LByteFields$Matrix;)V"⟩ prog_3_method_11_code 3 (Option.none : Option FieldType) ∈ bw_uw := bw_in (i := 779) (by decide +kernel) rfl
theorem w_777 : Cond.instanceMethod ⟨"ByteFields$Elimination", "copyAppended", "(LByteFields$Matrix;)V"⟩ ∈ bw_uw := bw_in (i := 777) (by decide +kernel) rfl
theorem w_778 : Cond.selects "ByteFields$Elimination" ⟨"ByteFields$Elimination", "copyAppended", "(LByteFields$Matrix;)V"⟩ ⟨"ByteFields$Elimination", "copyAppended", "(LByteFields$Matrix;)V"⟩ ∈ bw_uw := bw_in (i := 778) (by decide +kernel) rfl
theorem w_194 : Cond.fieldLink "ByteFields" 217 "ByteFields$Elimination" "pivotProduct" "I" ∈ bw_uw := bw_in (i := 194) (by decide +kernel) rfl
theorem w_801 : Cond.methodLink "ByteFields" 220 ⟨"ByteFields$Minors", "countZeros", "(LByteFields$Matrix;)I"⟩ ∈ bw_uw := bw_in (i := 801) (by decide +kernel) rfl
theorem w_804 : Cond.code ⟨"ByteFields$Minors", "countZeros", "(LByteFields$Matrix;)I"⟩ prog_8_method_2_code 6 (Option.some FieldType.int) ∈ bw_uw := bw_in (i := 804) (by decide +kernel) rfl
theorem w_802 : Cond.instanceMethod ⟨"ByteFields$Minors", "countZeros", "(LByteFields$Matrix;)I"⟩ ∈ bw_uw := bw_in (i := 802) (by decide +kernel) rfl
theorem w_803 : Cond.selects "ByteFields$Minors" ⟨"ByteFields$Minors", "countZeros", "(LByteFields$Matrix;)I"⟩ ⟨"ByteFields$Minors", "countZeros", "(LByteFields$Matrix;)I"⟩ ∈ bw_uw := bw_in (i := 803) (by decide +kernel) rfl
theorem w_831 : Cond.methodLink "ByteFields" 225 ⟨"ByteFields$Elimination", "appendColumn", "([I)V"⟩ ∈ bw_uw := bw_in (i := 831) (by decide +kernel) rfl
theorem w_834 : Cond.code ⟨"ByteFields$Elimination", "appendColumn", "([I)V"⟩ prog_3_method_4_code 3 (Option.none : Option FieldType) ∈ bw_uw := bw_in (i := 834) (by decide +kernel) rfl
theorem w_832 : Cond.instanceMethod ⟨"ByteFields$Elimination", "appendColumn", "([I)V"⟩ ∈ bw_uw := bw_in (i := 832) (by decide +kernel) rfl
theorem w_833 : Cond.selects "ByteFields$Elimination" ⟨"ByteFields$Elimination", "appendColumn", "([I)V"⟩ ⟨"ByteFields$Elimination", "appendColumn", "([I)V"⟩ ∈ bw_uw := bw_in (i := 833) (by decide +kernel) rfl
theorem w_835 : Cond.methodLink "ByteFields" 229 ⟨"ByteFields$Elimination", "leavesOver", "(I)Z"⟩ ∈ bw_uw := bw_in (i := 835) (by decide +kernel) rfl
theorem w_838 : Cond.code ⟨"ByteFields$Elimination", "leavesOver", "(I)Z"⟩ prog_3_method_9_code 3 (Option.some FieldType.boolean) ∈ bw_uw := bw_in (i := 838) (by decide +kernel) rfl
theorem w_836 : Cond.instanceMethod ⟨"ByteFields$Elimination", "leavesOver", "(I)Z"⟩ ∈ bw_uw := bw_in (i := 836) (by decide +kernel) rfl
theorem w_837 : Cond.selects "ByteFields$Elimination" ⟨"ByteFields$Elimination", "leavesOver", "(I)Z"⟩ ⟨"ByteFields$Elimination", "leavesOver", "(I)Z"⟩ ∈ bw_uw := bw_in (i := 837) (by decide +kernel) rfl
theorem w_839 : Cond.methodLink "ByteFields" 232 ⟨"ByteFields$Elimination", "solution", "(II)I"⟩ ∈ bw_uw := bw_in (i := 839) (by decide +kernel) rfl
theorem w_842 : Cond.code ⟨"ByteFields$Elimination", "solution", "(II)I"⟩ prog_3_method_10_code 4 (Option.some FieldType.int) ∈ bw_uw := bw_in (i := 842) (by decide +kernel) rfl
theorem w_840 : Cond.instanceMethod ⟨"ByteFields$Elimination", "solution", "(II)I"⟩ ∈ bw_uw := bw_in (i := 840) (by decide +kernel) rfl
theorem w_841 : Cond.selects "ByteFields$Elimination" ⟨"ByteFields$Elimination", "solution", "(II)I"⟩ ⟨"ByteFields$Elimination", "solution", "(II)I"⟩ ∈ bw_uw := bw_in (i := 841) (by decide +kernel) rfl
theorem w_851 : Cond.methodLink "ByteFields" 237 ⟨"ByteFields", "needPolynomialRoom", "()V"⟩ ∈ bw_uw := bw_in (i := 851) (by decide +kernel) rfl
theorem w_854 : Cond.code ⟨"ByteFields", "needPolynomialRoom", "()V"⟩ prog_1_method_44_code 1 (Option.none : Option FieldType) ∈ bw_uw := bw_in (i := 854) (by decide +kernel) rfl
theorem w_853 : Cond.instanceMethod ⟨"ByteFields", "needPolynomialRoom", "()V"⟩ ∈ bw_uw := bw_in (i := 853) (by decide +kernel) rfl
theorem w_16 : Cond.selects "ByteFields" ⟨"ByteFields", "needPolynomialRoom", "()V"⟩ ⟨"ByteFields", "needPolynomialRoom", "()V"⟩ ∈ bw_uw := bw_in (i := 16) (by decide +kernel) rfl
theorem w_856 : Cond.methodLink "ByteFields" 240 ⟨"ByteFields$Polynomial", "load", "([II)V"⟩ ∈ bw_uw := bw_in (i := 856) (by decide +kernel) rfl
theorem w_869 : Cond.methodLink "ByteFields" 243 ⟨"ByteFields", "keepPolynomial", "(LByteFields$Polynomial;)I"⟩ ∈ bw_uw := bw_in (i := 869) (by decide +kernel) rfl
theorem w_872 : Cond.code ⟨"ByteFields", "keepPolynomial", "(LByteFields$Polynomial;)I"⟩ prog_1_method_50_code 4 (Option.some FieldType.int) ∈ bw_uw := bw_in (i := 872) (by decide +kernel) rfl
theorem w_871 : Cond.instanceMethod ⟨"ByteFields", "keepPolynomial", "(LByteFields$Polynomial;)I"⟩ ∈ bw_uw := bw_in (i := 871) (by decide +kernel) rfl
theorem w_17 : Cond.selects "ByteFields" ⟨"ByteFields", "keepPolynomial", "(LByteFields$Polynomial;)I"⟩ ⟨"ByteFields", "keepPolynomial", "(LByteFields$Polynomial;)I"⟩ ∈ bw_uw := bw_in (i := 17) (by decide +kernel) rfl
theorem w_886 : Cond.methodLink "ByteFields" 249 ⟨"ByteFields$Interpolation", "take", "(III)V"⟩ ∈ bw_uw := bw_in (i := 886) (by decide +kernel) rfl
theorem w_889 : Cond.code ⟨"ByteFields$Interpolation", "take", "(III)V"⟩ prog_6_method_2_code 4 (Option.none : Option FieldType) ∈ bw_uw := bw_in (i := 889) (by decide +kernel) rfl
theorem w_887 : Cond.instanceMethod ⟨"ByteFields$Interpolation", "take", "(III)V"⟩ ∈ bw_uw := bw_in (i := 887) (by decide +kernel) rfl
theorem w_888 : Cond.selects "ByteFields$Interpolation" ⟨"ByteFields$Interpolation", "take", "(III)V"⟩ ⟨"ByteFields$Interpolation", "take", "(III)V"⟩ ∈ bw_uw := bw_in (i := 888) (by decide +kernel) rfl
theorem w_890 : Cond.methodLink "ByteFields" 253 ⟨"ByteFields$Interpolation", "run", "(ILByteFields$Polynomial;)V"⟩ ∈ bw_uw := bw_in (i := 890) (by decide +kernel) rfl
theorem w_893 : Cond.code ⟨"ByteFields$Interpolation", "run", "(ILByteFields$Polynomial;)V"⟩ prog_6_method_3_code 5 (Option.none : Option FieldType) ∈ bw_uw := bw_in (i := 893) (by decide +kernel) rfl
theorem w_891 : Cond.instanceMethod ⟨"ByteFields$Interpolation", "run", "(ILByteFields$Polynomial;)V"⟩ ∈ bw_uw := bw_in (i := 891) (by decide +kernel) rfl
theorem w_892 : Cond.selects "ByteFields$Interpolation" ⟨"ByteFields$Interpolation", "run", "(ILByteFields$Polynomial;)V"⟩ ⟨"ByteFields$Interpolation", "run", "(ILByteFields$Polynomial;)V"⟩ ∈ bw_uw := bw_in (i := 892) (by decide +kernel) rfl
theorem w_909 : Cond.methodLink "ByteFields" 257 ⟨"ByteFields", "polynomialAt", "(I)LByteFields$Polynomial;"⟩ ∈ bw_uw := bw_in (i := 909) (by decide +kernel) rfl
theorem w_912 : Cond.code ⟨"ByteFields", "polynomialAt", "(I)LByteFields$Polynomial;"⟩ prog_1_method_48_code 3 (Option.some (FieldType.object "ByteFields$Polynomial")) ∈ bw_uw := bw_in (i := 912) (by decide +kernel) rfl
theorem w_911 : Cond.instanceMethod ⟨"ByteFields", "polynomialAt", "(I)LByteFields$Polynomial;"⟩ ∈ bw_uw := bw_in (i := 911) (by decide +kernel) rfl
theorem w_19 : Cond.selects "ByteFields" ⟨"ByteFields", "polynomialAt", "(I)LByteFields$Polynomial;"⟩ ⟨"ByteFields", "polynomialAt", "(I)LByteFields$Polynomial;"⟩ ∈ bw_uw := bw_in (i := 19) (by decide +kernel) rfl
theorem w_101 : Cond.fieldLink "ByteFields" 261 "ByteFields$Polynomial" "top" "I" ∈ bw_uw := bw_in (i := 101) (by decide +kernel) rfl
theorem w_95 : Cond.fieldLink "ByteFields" 266 "ByteFields$Polynomial" "at" "[I" ∈ bw_uw := bw_in (i := 95) (by decide +kernel) rfl
theorem w_929 : Cond.methodLink "ByteFields" 269 ⟨"ByteFields", "valueOf", "(LByteFields$Polynomial;I)I"⟩ ∈ bw_uw := bw_in (i := 929) (by decide +kernel) rfl
theorem w_932 : Cond.code ⟨"ByteFields", "valueOf", "(LByteFields$Polynomial;I)I"⟩ prog_1_method_54_code 5 (Option.some FieldType.int) ∈ bw_uw := bw_in (i := 932) (by decide +kernel) rfl
theorem w_931 : Cond.instanceMethod ⟨"ByteFields", "valueOf", "(LByteFields$Polynomial;I)I"⟩ ∈ bw_uw := bw_in (i := 931) (by decide +kernel) rfl
theorem w_20 : Cond.selects "ByteFields" ⟨"ByteFields", "valueOf", "(LByteFields$Polynomial;I)I"⟩ ⟨"ByteFields", "valueOf", "(LByteFields$Polynomial;I)I"⟩ ∈ bw_uw := bw_in (i := 20) (by decide +kernel) rfl
theorem w_873 : Cond.methodLink "ByteFields" 273 ⟨"ByteFields$Polynomial", "copyFrom", "(LByteFields$Polynomial;)V"⟩ ∈ bw_uw := bw_in (i := 873) (by decide +kernel) rfl
theorem w_940 : Cond.methodLink "ByteFields" 277 ⟨"ByteFields$Polynomial", "addScaled", "(LByteFields$Field;LByteFields$Polynomial;I)V"⟩ ∈ bw_uw := bw_in (i := 940) (by decide +kernel) rfl
theorem w_955 : Cond.methodLink "ByteFields" 281 ⟨"ByteFields$Polynomial", "clear", "()V"⟩ ∈ bw_uw := bw_in (i := 955) (by decide +kernel) rfl
theorem w_956 : Cond.methodLink "ByteFields" 284 ⟨"ByteFields$Polynomial", "settle", "(I)V"⟩ ∈ bw_uw := bw_in (i := 956) (by decide +kernel) rfl
theorem w_965 : Cond.methodLink "ByteFields" 289 ⟨"ByteFields$Division", "toRest", "(LByteFields$Polynomial;LByteFields$Polynomial;)V"⟩ ∈ bw_uw := bw_in (i := 965) (by decide +kernel) rfl
theorem w_977 : Cond.methodLink "ByteFields" 293 ⟨"ByteFields$Division", "toQuotient", "(LByteFields$Polynomial;LByteFields$Polynomial;)V"⟩ ∈ bw_uw := bw_in (i := 977) (by decide +kernel) rfl
theorem w_993 : Cond.methodLink "ByteFields" 296 ⟨"ByteFields$Division", "toGreatestDivisor", "(LByteFields$Polynomial;LByteFields$Polynomial;)V"⟩ ∈ bw_uw := bw_in (i := 993) (by decide +kernel) rfl
theorem w_159 : Cond.fieldLink "ByteFields" 301 "ByteFields$Field" "size" "I" ∈ bw_uw := bw_in (i := 159) (by decide +kernel) rfl
theorem w_1008 : Cond.methodLink "ByteFields" 304 ⟨"ByteFields$Roots", "find", "(LByteFields$Polynomial;I)I"⟩ ∈ bw_uw := bw_in (i := 1008) (by decide +kernel) rfl
theorem w_1011 : Cond.code ⟨"ByteFields$Roots", "find", "(LByteFields$Polynomial;I)I"⟩ prog_10_method_4_code 6 (Option.some FieldType.int) ∈ bw_uw := bw_in (i := 1011) (by decide +kernel) rfl
theorem w_1009 : Cond.instanceMethod ⟨"ByteFields$Roots", "find", "(LByteFields$Polynomial;I)I"⟩ ∈ bw_uw := bw_in (i := 1009) (by decide +kernel) rfl
theorem w_1010 : Cond.selects "ByteFields$Roots" ⟨"ByteFields$Roots", "find", "(LByteFields$Polynomial;I)I"⟩ ⟨"ByteFields$Roots", "find", "(LByteFields$Polynomial;I)I"⟩ ∈ bw_uw := bw_in (i := 1010) (by decide +kernel) rfl
theorem w_1045 : Cond.methodLink "ByteFields" 307 ⟨"ByteFields$Division", "takeOut", "(LByteFields$Polynomial;I)Z"⟩ ∈ bw_uw := bw_in (i := 1045) (by decide +kernel) rfl
theorem w_1048 : Cond.code ⟨"ByteFields$Division", "takeOut", "(LByteFields$Polynomial;I)Z"⟩ prog_2_method_6_code 4 (Option.some FieldType.boolean) ∈ bw_uw := bw_in (i := 1048) (by decide +kernel) rfl
theorem w_1046 : Cond.instanceMethod ⟨"ByteFields$Division", "takeOut", "(LByteFields$Polynomial;I)Z"⟩ ∈ bw_uw := bw_in (i := 1046) (by decide +kernel) rfl
theorem w_1047 : Cond.selects "ByteFields$Division" ⟨"ByteFields$Division", "takeOut", "(LByteFields$Polynomial;I)Z"⟩ ⟨"ByteFields$Division", "takeOut", "(LByteFields$Polynomial;I)Z"⟩ ∈ bw_uw := bw_in (i := 1047) (by decide +kernel) rfl
theorem w_103 : Cond.fieldLink "ByteFields" 313 "ByteFields$Polynomial" "partCounts" "[I" ∈ bw_uw := bw_in (i := 103) (by decide +kernel) rfl
theorem w_1057 : Cond.methodLink "ByteFields" 316 ⟨"ByteFields$Factors", "count", "(LByteFields$Polynomial;[I)V"⟩ ∈ bw_uw := bw_in (i := 1057) (by decide +kernel) rfl
theorem w_1060 : Cond.code ⟨"ByteFields$Factors", "count", "(LByteFields$Polynomial;[I)V"⟩ prog_4_method_2_code 5 (Option.none : Option FieldType) ∈ bw_uw := bw_in (i := 1060) (by decide +kernel) rfl
theorem w_1058 : Cond.instanceMethod ⟨"ByteFields$Factors", "count", "(LByteFields$Polynomial;[I)V"⟩ ∈ bw_uw := bw_in (i := 1058) (by decide +kernel) rfl
theorem w_1059 : Cond.selects "ByteFields$Factors" ⟨"ByteFields$Factors", "count", "(LByteFields$Polynomial;[I)V"⟩ ⟨"ByteFields$Factors", "count", "(LByteFields$Polynomial;[I)V"⟩ ∈ bw_uw := bw_in (i := 1059) (by decide +kernel) rfl
theorem w_1079 : Cond.methodLink "ByteFields" 320 ⟨"ByteFields", "hasXorOfAhead", "()Z"⟩ ∈ bw_uw := bw_in (i := 1079) (by decide +kernel) rfl
theorem w_1082 : Cond.code ⟨"ByteFields", "hasXorOfAhead", "()Z"⟩ prog_1_method_52_code 3 (Option.some FieldType.boolean) ∈ bw_uw := bw_in (i := 1082) (by decide +kernel) rfl
theorem w_1081 : Cond.instanceMethod ⟨"ByteFields", "hasXorOfAhead", "()Z"⟩ ∈ bw_uw := bw_in (i := 1081) (by decide +kernel) rfl
theorem w_25 : Cond.selects "ByteFields" ⟨"ByteFields", "hasXorOfAhead", "()Z"⟩ ⟨"ByteFields", "hasXorOfAhead", "()Z"⟩ ∈ bw_uw := bw_in (i := 25) (by decide +kernel) rfl
theorem w_332 : Cond.fieldLink "ByteFields" 326 "ByteFields" "inSpan" "I" ∈ bw_uw := bw_in (i := 332) (by decide +kernel) rfl
theorem w_1083 : Cond.methodLink "ByteFields" 329 ⟨"ByteFields", "xorOfChosen", "(II)I"⟩ ∈ bw_uw := bw_in (i := 1083) (by decide +kernel) rfl
theorem w_1086 : Cond.code ⟨"ByteFields", "xorOfChosen", "(II)I"⟩ prog_1_method_53_code 5 (Option.some FieldType.int) ∈ bw_uw := bw_in (i := 1086) (by decide +kernel) rfl
theorem w_1085 : Cond.instanceMethod ⟨"ByteFields", "xorOfChosen", "(II)I"⟩ ∈ bw_uw := bw_in (i := 1085) (by decide +kernel) rfl
theorem w_26 : Cond.selects "ByteFields" ⟨"ByteFields", "xorOfChosen", "(II)I"⟩ ⟨"ByteFields", "xorOfChosen", "(II)I"⟩ ∈ bw_uw := bw_in (i := 26) (by decide +kernel) rfl
theorem w_1095 : Cond.methodLink "ByteFields" 332 ⟨"ByteFields", "needSpan", "()V"⟩ ∈ bw_uw := bw_in (i := 1095) (by decide +kernel) rfl
theorem w_1098 : Cond.code ⟨"ByteFields", "needSpan", "()V"⟩ prog_1_method_45_code 1 (Option.none : Option FieldType) ∈ bw_uw := bw_in (i := 1098) (by decide +kernel) rfl
theorem w_1097 : Cond.instanceMethod ⟨"ByteFields", "needSpan", "()V"⟩ ∈ bw_uw := bw_in (i := 1097) (by decide +kernel) rfl
theorem w_27 : Cond.selects "ByteFields" ⟨"ByteFields", "needSpan", "()V"⟩ ⟨"ByteFields", "needSpan", "()V"⟩ ∈ bw_uw := bw_in (i := 27) (by decide +kernel) rfl
theorem w_328 : Cond.fieldLink "ByteFields" 337 "ByteFields" "matrixCount" "I" ∈ bw_uw := bw_in (i := 328) (by decide +kernel) rfl
theorem w_330 : Cond.fieldLink "ByteFields" 340 "ByteFields" "polynomialCount" "I" ∈ bw_uw := bw_in (i := 330) (by decide +kernel) rfl
theorem w_1160 : Cond.fieldLink "ByteFieldsModel" 1 "ByteFieldsModel" "thrown" "I" ∈ bw_uw := bw_in (i := 1160) (by decide +kernel) rfl
theorem w_1162 : Cond.fieldLink "ByteFieldsModel" 13 "ByteFieldsModel" "row" "[I" ∈ bw_uw := bw_in (i := 1162) (by decide +kernel) rfl
theorem w_1164 : Cond.fieldLink "ByteFieldsModel" 17 "ByteFieldsModel" "rows" "[I" ∈ bw_uw := bw_in (i := 1164) (by decide +kernel) rfl
theorem w_1165 : Cond.fieldLink "ByteFieldsModel" 20 "ByteFieldsModel" "columns" "[I" ∈ bw_uw := bw_in (i := 1165) (by decide +kernel) rfl
theorem w_1166 : Cond.fieldLink "ByteFieldsModel" 23 "ByteFieldsModel" "cells" "[I" ∈ bw_uw := bw_in (i := 1166) (by decide +kernel) rfl
theorem w_1126 : Cond.constant "ByteFieldsModel" 26 (65536 : Int32) ∈ bw_uw := bw_in (i := 1126) (by decide +kernel) rfl
theorem w_1167 : Cond.fieldLink "ByteFieldsModel" 27 "ByteFieldsModel" "minor" "[I" ∈ bw_uw := bw_in (i := 1167) (by decide +kernel) rfl
theorem w_1168 : Cond.fieldLink "ByteFieldsModel" 30 "ByteFieldsModel" "work" "[I" ∈ bw_uw := bw_in (i := 1168) (by decide +kernel) rfl
theorem w_1169 : Cond.fieldLink "ByteFieldsModel" 33 "ByteFieldsModel" "lead" "[I" ∈ bw_uw := bw_in (i := 1169) (by decide +kernel) rfl
theorem w_1171 : Cond.fieldLink "ByteFieldsModel" 36 "ByteFieldsModel" "degree" "[I" ∈ bw_uw := bw_in (i := 1171) (by decide +kernel) rfl
theorem w_1172 : Cond.fieldLink "ByteFieldsModel" 39 "ByteFieldsModel" "coefficient" "[I" ∈ bw_uw := bw_in (i := 1172) (by decide +kernel) rfl
theorem w_1173 : Cond.fieldLink "ByteFieldsModel" 42 "ByteFieldsModel" "one" "[I" ∈ bw_uw := bw_in (i := 1173) (by decide +kernel) rfl
theorem w_1174 : Cond.fieldLink "ByteFieldsModel" 45 "ByteFieldsModel" "two" "[I" ∈ bw_uw := bw_in (i := 1174) (by decide +kernel) rfl
theorem w_1175 : Cond.fieldLink "ByteFieldsModel" 48 "ByteFieldsModel" "out" "[I" ∈ bw_uw := bw_in (i := 1175) (by decide +kernel) rfl
theorem w_1176 : Cond.fieldLink "ByteFieldsModel" 51 "ByteFieldsModel" "third" "[I" ∈ bw_uw := bw_in (i := 1176) (by decide +kernel) rfl
theorem w_1177 : Cond.fieldLink "ByteFieldsModel" 54 "ByteFieldsModel" "rooted" "I" ∈ bw_uw := bw_in (i := 1177) (by decide +kernel) rfl
theorem w_1179 : Cond.fieldLink "ByteFieldsModel" 57 "ByteFieldsModel" "root" "[I" ∈ bw_uw := bw_in (i := 1179) (by decide +kernel) rfl
theorem w_1180 : Cond.fieldLink "ByteFieldsModel" 60 "ByteFieldsModel" "parted" "I" ∈ bw_uw := bw_in (i := 1180) (by decide +kernel) rfl
theorem w_1181 : Cond.fieldLink "ByteFieldsModel" 63 "ByteFieldsModel" "parts" "[I" ∈ bw_uw := bw_in (i := 1181) (by decide +kernel) rfl
theorem w_1182 : Cond.fieldLink "ByteFieldsModel" 66 "ByteFieldsModel" "left" "[I" ∈ bw_uw := bw_in (i := 1182) (by decide +kernel) rfl
theorem w_1183 : Cond.fieldLink "ByteFieldsModel" 69 "ByteFieldsModel" "power" "[I" ∈ bw_uw := bw_in (i := 1183) (by decide +kernel) rfl
theorem w_1185 : Cond.fieldLink "ByteFieldsModel" 72 "ByteFieldsModel" "span" "[I" ∈ bw_uw := bw_in (i := 1185) (by decide +kernel) rfl
theorem w_1156 : Cond.fieldLink "ByteFieldsModel" 75 "ByteFieldsModel" "bits" "I" ∈ bw_uw := bw_in (i := 1156) (by decide +kernel) rfl
theorem w_1158 : Cond.fieldLink "ByteFieldsModel" 78 "ByteFieldsModel" "members" "I" ∈ bw_uw := bw_in (i := 1158) (by decide +kernel) rfl
theorem w_1157 : Cond.fieldLink "ByteFieldsModel" 81 "ByteFieldsModel" "poly" "I" ∈ bw_uw := bw_in (i := 1157) (by decide +kernel) rfl
theorem w_1127 : Cond.methodLink "ByteFieldsModel" 84 ⟨"ByteFieldsModel", "isPrime", "(I)Z"⟩ ∈ bw_uw := bw_in (i := 1127) (by decide +kernel) rfl
theorem w_63 : Cond.initialized "ByteFieldsModel" ∈ bw_uw := bw_in (i := 63) (by decide +kernel) rfl
theorem w_1130 : Cond.code ⟨"ByteFieldsModel", "isPrime", "(I)Z"⟩ prog_12_method_4_code 4 (Option.some FieldType.boolean) ∈ bw_uw := bw_in (i := 1130) (by decide +kernel) rfl
theorem w_1129 : Cond.instanceMethod ⟨"ByteFieldsModel", "isPrime", "(I)Z"⟩ ∈ bw_uw := bw_in (i := 1129) (by decide +kernel) rfl
theorem w_28 : Cond.selects "ByteFieldsModel" ⟨"ByteFieldsModel", "isPrime", "(I)Z"⟩ ⟨"ByteFieldsModel", "isPrime", "(I)Z"⟩ ∈ bw_uw := bw_in (i := 28) (by decide +kernel) rfl
theorem w_1159 : Cond.fieldLink "ByteFieldsModel" 88 "ByteFieldsModel" "generator" "I" ∈ bw_uw := bw_in (i := 1159) (by decide +kernel) rfl
theorem w_1137 : Cond.methodLink "ByteFieldsModel" 91 ⟨"ByteFieldsModel", "orderOf", "(I)I"⟩ ∈ bw_uw := bw_in (i := 1137) (by decide +kernel) rfl
theorem w_1140 : Cond.code ⟨"ByteFieldsModel", "orderOf", "(I)I"⟩ prog_12_method_13_code 4 (Option.some FieldType.int) ∈ bw_uw := bw_in (i := 1140) (by decide +kernel) rfl
theorem w_1139 : Cond.instanceMethod ⟨"ByteFieldsModel", "orderOf", "(I)I"⟩ ∈ bw_uw := bw_in (i := 1139) (by decide +kernel) rfl
theorem w_29 : Cond.selects "ByteFieldsModel" ⟨"ByteFieldsModel", "orderOf", "(I)I"⟩ ⟨"ByteFieldsModel", "orderOf", "(I)I"⟩ ∈ bw_uw := bw_in (i := 29) (by decide +kernel) rfl
theorem w_1131 : Cond.methodLink "ByteFieldsModel" 95 ⟨"ByteFieldsModel", "restOf", "(II)I"⟩ ∈ bw_uw := bw_in (i := 1131) (by decide +kernel) rfl
theorem w_1133 : Cond.code ⟨"ByteFieldsModel", "restOf", "(II)I"⟩ prog_12_method_6_code 5 (Option.some FieldType.int) ∈ bw_uw := bw_in (i := 1133) (by decide +kernel) rfl
theorem w_1132 : Cond.static ⟨"ByteFieldsModel", "restOf", "(II)I"⟩ ∈ bw_uw := bw_in (i := 1132) (by decide +kernel) rfl
theorem w_1134 : Cond.methodLink "ByteFieldsModel" 99 ⟨"ByteFieldsModel", "degreeOf", "(I)I"⟩ ∈ bw_uw := bw_in (i := 1134) (by decide +kernel) rfl
theorem w_1136 : Cond.code ⟨"ByteFieldsModel", "degreeOf", "(I)I"⟩ prog_12_method_5_code 3 (Option.some FieldType.int) ∈ bw_uw := bw_in (i := 1136) (by decide +kernel) rfl
theorem w_1135 : Cond.static ⟨"ByteFieldsModel", "degreeOf", "(I)I"⟩ ∈ bw_uw := bw_in (i := 1135) (by decide +kernel) rfl
theorem w_1152 : Cond.methodLink "ByteFieldsModel" 102 ⟨"ByteFieldsModel", "mul", "(II)I"⟩ ∈ bw_uw := bw_in (i := 1152) (by decide +kernel) rfl
theorem w_1155 : Cond.code ⟨"ByteFieldsModel", "mul", "(II)I"⟩ prog_12_method_8_code 6 (Option.some FieldType.int) ∈ bw_uw := bw_in (i := 1155) (by decide +kernel) rfl
theorem w_1154 : Cond.instanceMethod ⟨"ByteFieldsModel", "mul", "(II)I"⟩ ∈ bw_uw := bw_in (i := 1154) (by decide +kernel) rfl
theorem w_32 : Cond.selects "ByteFieldsModel" ⟨"ByteFieldsModel", "mul", "(II)I"⟩ ⟨"ByteFieldsModel", "mul", "(II)I"⟩ ∈ bw_uw := bw_in (i := 32) (by decide +kernel) rfl
theorem w_1148 : Cond.methodLink "ByteFieldsModel" 105 ⟨"ByteFieldsModel", "raised", "(II)I"⟩ ∈ bw_uw := bw_in (i := 1148) (by decide +kernel) rfl
theorem w_1151 : Cond.code ⟨"ByteFieldsModel", "raised", "(II)I"⟩ prog_12_method_9_code 6 (Option.some FieldType.int) ∈ bw_uw := bw_in (i := 1151) (by decide +kernel) rfl
theorem w_1150 : Cond.instanceMethod ⟨"ByteFieldsModel", "raised", "(II)I"⟩ ∈ bw_uw := bw_in (i := 1150) (by decide +kernel) rfl
theorem w_31 : Cond.selects "ByteFieldsModel" ⟨"ByteFieldsModel", "raised", "(II)I"⟩ ⟨"ByteFieldsModel", "raised", "(II)I"⟩ ∈ bw_uw := bw_in (i := 31) (by decide +kernel) rfl
theorem w_1141 : Cond.methodLink "ByteFieldsModel" 108 ⟨"ByteFieldsModel", "factors", "()I"⟩ ∈ bw_uw := bw_in (i := 1141) (by decide +kernel) rfl
theorem w_1144 : Cond.code ⟨"ByteFieldsModel", "factors", "()I"⟩ prog_12_method_12_code 1 (Option.some FieldType.int) ∈ bw_uw := bw_in (i := 1144) (by decide +kernel) rfl
theorem w_1143 : Cond.instanceMethod ⟨"ByteFieldsModel", "factors", "()I"⟩ ∈ bw_uw := bw_in (i := 1143) (by decide +kernel) rfl
theorem w_30 : Cond.selects "ByteFieldsModel" ⟨"ByteFieldsModel", "factors", "()I"⟩ ⟨"ByteFieldsModel", "factors", "()I"⟩ ∈ bw_uw := bw_in (i := 30) (by decide +kernel) rfl
theorem w_1145 : Cond.methodLink "ByteFieldsModel" 112 ⟨"ByteFieldsModel", "factor", "(I)I"⟩ ∈ bw_uw := bw_in (i := 1145) (by decide +kernel) rfl
theorem w_1147 : Cond.code ⟨"ByteFieldsModel", "factor", "(I)I"⟩ prog_12_method_11_code 1 (Option.some FieldType.int) ∈ bw_uw := bw_in (i := 1147) (by decide +kernel) rfl
theorem w_1146 : Cond.static ⟨"ByteFieldsModel", "factor", "(I)I"⟩ ∈ bw_uw := bw_in (i := 1146) (by decide +kernel) rfl
theorem w_1259 : Cond.methodLink "ByteFieldsModel" 115 ⟨"ByteFieldsModel", "isMember", "(I)Z"⟩ ∈ bw_uw := bw_in (i := 1259) (by decide +kernel) rfl
theorem w_1262 : Cond.code ⟨"ByteFieldsModel", "isMember", "(I)Z"⟩ prog_12_method_7_code 2 (Option.some FieldType.boolean) ∈ bw_uw := bw_in (i := 1262) (by decide +kernel) rfl
theorem w_1261 : Cond.instanceMethod ⟨"ByteFieldsModel", "isMember", "(I)Z"⟩ ∈ bw_uw := bw_in (i := 1261) (by decide +kernel) rfl
theorem w_33 : Cond.selects "ByteFieldsModel" ⟨"ByteFieldsModel", "isMember", "(I)Z"⟩ ⟨"ByteFieldsModel", "isMember", "(I)Z"⟩ ∈ bw_uw := bw_in (i := 33) (by decide +kernel) rfl
theorem w_1263 : Cond.methodLink "ByteFieldsModel" 118 ⟨"ByteFieldsModel", "fail", "(I)I"⟩ ∈ bw_uw := bw_in (i := 1263) (by decide +kernel) rfl
theorem w_1266 : Cond.code ⟨"ByteFieldsModel", "fail", "(I)I"⟩ prog_12_method_2_code 2 (Option.some FieldType.int) ∈ bw_uw := bw_in (i := 1266) (by decide +kernel) rfl
theorem w_1265 : Cond.instanceMethod ⟨"ByteFieldsModel", "fail", "(I)I"⟩ ∈ bw_uw := bw_in (i := 1265) (by decide +kernel) rfl
theorem w_34 : Cond.selects "ByteFieldsModel" ⟨"ByteFieldsModel", "fail", "(I)I"⟩ ⟨"ByteFieldsModel", "fail", "(I)I"⟩ ∈ bw_uw := bw_in (i := 34) (by decide +kernel) rfl
theorem w_1271 : Cond.methodLink "ByteFieldsModel" 121 ⟨"ByteFieldsModel", "inverse", "(I)I"⟩ ∈ bw_uw := bw_in (i := 1271) (by decide +kernel) rfl
theorem w_1274 : Cond.code ⟨"ByteFieldsModel", "inverse", "(I)I"⟩ prog_12_method_10_code 2 (Option.some FieldType.int) ∈ bw_uw := bw_in (i := 1274) (by decide +kernel) rfl
theorem w_1273 : Cond.instanceMethod ⟨"ByteFieldsModel", "inverse", "(I)I"⟩ ∈ bw_uw := bw_in (i := 1273) (by decide +kernel) rfl
theorem w_35 : Cond.selects "ByteFieldsModel" ⟨"ByteFieldsModel", "inverse", "(I)I"⟩ ⟨"ByteFieldsModel", "inverse", "(I)I"⟩ ∈ bw_uw := bw_in (i := 35) (by decide +kernel) rfl
theorem w_1161 : Cond.fieldLink "ByteFieldsModel" 124 "ByteFieldsModel" "many" "I" ∈ bw_uw := bw_in (i := 1161) (by decide +kernel) rfl
theorem w_1163 : Cond.fieldLink "ByteFieldsModel" 127 "ByteFieldsModel" "matrices" "I" ∈ bw_uw := bw_in (i := 1163) (by decide +kernel) rfl
theorem w_1303 : Cond.methodLink "ByteFieldsModel" 130 ⟨"ByteFieldsModel", "isSize", "(I)Z"⟩ ∈ bw_uw := bw_in (i := 1303) (by decide +kernel) rfl
theorem w_1305 : Cond.code ⟨"ByteFieldsModel", "isSize", "(I)Z"⟩ prog_12_method_25_code 1 (Option.some FieldType.boolean) ∈ bw_uw := bw_in (i := 1305) (by decide +kernel) rfl
theorem w_1304 : Cond.static ⟨"ByteFieldsModel", "isSize", "(I)Z"⟩ ∈ bw_uw := bw_in (i := 1304) (by decide +kernel) rfl
theorem w_1306 : Cond.methodLink "ByteFieldsModel" 133 ⟨"ByteFieldsModel", "made", "(II)I"⟩ ∈ bw_uw := bw_in (i := 1306) (by decide +kernel) rfl
theorem w_1309 : Cond.code ⟨"ByteFieldsModel", "made", "(II)I"⟩ prog_12_method_28_code 4 (Option.some FieldType.int) ∈ bw_uw := bw_in (i := 1309) (by decide +kernel) rfl
theorem w_1308 : Cond.instanceMethod ⟨"ByteFieldsModel", "made", "(II)I"⟩ ∈ bw_uw := bw_in (i := 1308) (by decide +kernel) rfl
theorem w_36 : Cond.selects "ByteFieldsModel" ⟨"ByteFieldsModel", "made", "(II)I"⟩ ⟨"ByteFieldsModel", "made", "(II)I"⟩ ∈ bw_uw := bw_in (i := 36) (by decide +kernel) rfl
theorem w_1314 : Cond.methodLink "ByteFieldsModel" 136 ⟨"ByteFieldsModel", "hasAlike", "(II)Z"⟩ ∈ bw_uw := bw_in (i := 1314) (by decide +kernel) rfl
theorem w_1317 : Cond.code ⟨"ByteFieldsModel", "hasAlike", "(II)Z"⟩ prog_12_method_24_code 6 (Option.some FieldType.boolean) ∈ bw_uw := bw_in (i := 1317) (by decide +kernel) rfl
theorem w_1316 : Cond.instanceMethod ⟨"ByteFieldsModel", "hasAlike", "(II)Z"⟩ ∈ bw_uw := bw_in (i := 1316) (by decide +kernel) rfl
theorem w_37 : Cond.selects "ByteFieldsModel" ⟨"ByteFieldsModel", "hasAlike", "(II)Z"⟩ ⟨"ByteFieldsModel", "hasAlike", "(II)Z"⟩ ∈ bw_uw := bw_in (i := 37) (by decide +kernel) rfl
theorem w_1318 : Cond.methodLink "ByteFieldsModel" 140 ⟨"ByteFieldsModel", "at", "(III)I"⟩ ∈ bw_uw := bw_in (i := 1318) (by decide +kernel) rfl
theorem w_1321 : Cond.code ⟨"ByteFieldsModel", "at", "(III)I"⟩ prog_12_method_27_code 4 (Option.some FieldType.int) ∈ bw_uw := bw_in (i := 1321) (by decide +kernel) rfl
theorem w_1320 : Cond.instanceMethod ⟨"ByteFieldsModel", "at", "(III)I"⟩ ∈ bw_uw := bw_in (i := 1320) (by decide +kernel) rfl
theorem w_38 : Cond.selects "ByteFieldsModel" ⟨"ByteFieldsModel", "at", "(III)I"⟩ ⟨"ByteFieldsModel", "at", "(III)I"⟩ ∈ bw_uw := bw_in (i := 38) (by decide +kernel) rfl
theorem w_1330 : Cond.methodLink "ByteFieldsModel" 144 ⟨"ByteFieldsModel", "isMatrix", "(I)Z"⟩ ∈ bw_uw := bw_in (i := 1330) (by decide +kernel) rfl
theorem w_1333 : Cond.code ⟨"ByteFieldsModel", "isMatrix", "(I)Z"⟩ prog_12_method_26_code 2 (Option.some FieldType.boolean) ∈ bw_uw := bw_in (i := 1333) (by decide +kernel) rfl
theorem w_1332 : Cond.instanceMethod ⟨"ByteFieldsModel", "isMatrix", "(I)Z"⟩ ∈ bw_uw := bw_in (i := 1332) (by decide +kernel) rfl
theorem w_39 : Cond.selects "ByteFieldsModel" ⟨"ByteFieldsModel", "isMatrix", "(I)Z"⟩ ⟨"ByteFieldsModel", "isMatrix", "(I)Z"⟩ ∈ bw_uw := bw_in (i := 39) (by decide +kernel) rfl
theorem w_1338 : Cond.methodLink "ByteFieldsModel" 147 ⟨"ByteFieldsModel", "isCell", "(III)Z"⟩ ∈ bw_uw := bw_in (i := 1338) (by decide +kernel) rfl
theorem w_1341 : Cond.code ⟨"ByteFieldsModel", "isCell", "(III)Z"⟩ prog_12_method_33_code 4 (Option.some FieldType.boolean) ∈ bw_uw := bw_in (i := 1341) (by decide +kernel) rfl
theorem w_1340 : Cond.instanceMethod ⟨"ByteFieldsModel", "isCell", "(III)Z"⟩ ∈ bw_uw := bw_in (i := 1340) (by decide +kernel) rfl
theorem w_40 : Cond.selects "ByteFieldsModel" ⟨"ByteFieldsModel", "isCell", "(III)Z"⟩ ⟨"ByteFieldsModel", "isCell", "(III)Z"⟩ ∈ bw_uw := bw_in (i := 40) (by decide +kernel) rfl
theorem w_1358 : Cond.methodLink "ByteFieldsModel" 151 ⟨"ByteFieldsModel", "bitsOf", "(I)I"⟩ ∈ bw_uw := bw_in (i := 1358) (by decide +kernel) rfl
theorem w_1360 : Cond.code ⟨"ByteFieldsModel", "bitsOf", "(I)I"⟩ prog_12_method_37_code 3 (Option.some FieldType.int) ∈ bw_uw := bw_in (i := 1360) (by decide +kernel) rfl
theorem w_1359 : Cond.static ⟨"ByteFieldsModel", "bitsOf", "(I)I"⟩ ∈ bw_uw := bw_in (i := 1359) (by decide +kernel) rfl
theorem w_1354 : Cond.methodLink "ByteFieldsModel" 154 ⟨"ByteFieldsModel", "minors", "(I)V"⟩ ∈ bw_uw := bw_in (i := 1354) (by decide +kernel) rfl
theorem w_1357 : Cond.code ⟨"ByteFieldsModel", "minors", "(I)V"⟩ prog_12_method_38_code 7 (Option.none : Option FieldType) ∈ bw_uw := bw_in (i := 1357) (by decide +kernel) rfl
theorem w_1356 : Cond.instanceMethod ⟨"ByteFieldsModel", "minors", "(I)V"⟩ ∈ bw_uw := bw_in (i := 1356) (by decide +kernel) rfl
theorem w_41 : Cond.selects "ByteFieldsModel" ⟨"ByteFieldsModel", "minors", "(I)V"⟩ ⟨"ByteFieldsModel", "minors", "(I)V"⟩ ∈ bw_uw := bw_in (i := 41) (by decide +kernel) rfl
theorem w_1170 : Cond.fieldLink "ByteFieldsModel" 158 "ByteFieldsModel" "polynomials" "I" ∈ bw_uw := bw_in (i := 1170) (by decide +kernel) rfl
theorem w_1381 : Cond.methodLink "ByteFieldsModel" 161 ⟨"ByteFieldsModel", "nothing", "([I)V"⟩ ∈ bw_uw := bw_in (i := 1381) (by decide +kernel) rfl
theorem w_1383 : Cond.code ⟨"ByteFieldsModel", "nothing", "([I)V"⟩ prog_12_method_46_code 2 (Option.none : Option FieldType) ∈ bw_uw := bw_in (i := 1383) (by decide +kernel) rfl
theorem w_1382 : Cond.static ⟨"ByteFieldsModel", "nothing", "([I)V"⟩ ∈ bw_uw := bw_in (i := 1382) (by decide +kernel) rfl
theorem w_1384 : Cond.methodLink "ByteFieldsModel" 165 ⟨"ByteFieldsModel", "high", "([I)I"⟩ ∈ bw_uw := bw_in (i := 1384) (by decide +kernel) rfl
theorem w_1386 : Cond.code ⟨"ByteFieldsModel", "high", "([I)I"⟩ prog_12_method_45_code 2 (Option.some FieldType.int) ∈ bw_uw := bw_in (i := 1386) (by decide +kernel) rfl
theorem w_1385 : Cond.static ⟨"ByteFieldsModel", "high", "([I)I"⟩ ∈ bw_uw := bw_in (i := 1385) (by decide +kernel) rfl
theorem w_1387 : Cond.methodLink "ByteFieldsModel" 169 ⟨"ByteFieldsModel", "kept", "([I)I"⟩ ∈ bw_uw := bw_in (i := 1387) (by decide +kernel) rfl
theorem w_1390 : Cond.code ⟨"ByteFieldsModel", "kept", "([I)I"⟩ prog_12_method_49_code 3 (Option.some FieldType.int) ∈ bw_uw := bw_in (i := 1390) (by decide +kernel) rfl
theorem w_1389 : Cond.instanceMethod ⟨"ByteFieldsModel", "kept", "([I)I"⟩ ∈ bw_uw := bw_in (i := 1389) (by decide +kernel) rfl
theorem w_42 : Cond.selects "ByteFieldsModel" ⟨"ByteFieldsModel", "kept", "([I)I"⟩ ⟨"ByteFieldsModel", "kept", "([I)I"⟩ ∈ bw_uw := bw_in (i := 42) (by decide +kernel) rfl
theorem w_1403 : Cond.methodLink "ByteFieldsModel" 172 ⟨"ByteFieldsModel", "at", "([II)I"⟩ ∈ bw_uw := bw_in (i := 1403) (by decide +kernel) rfl
theorem w_1406 : Cond.code ⟨"ByteFieldsModel", "at", "([II)I"⟩ prog_12_method_50_code 5 (Option.some FieldType.int) ∈ bw_uw := bw_in (i := 1406) (by decide +kernel) rfl
theorem w_1405 : Cond.instanceMethod ⟨"ByteFieldsModel", "at", "([II)I"⟩ ∈ bw_uw := bw_in (i := 1405) (by decide +kernel) rfl
theorem w_45 : Cond.selects "ByteFieldsModel" ⟨"ByteFieldsModel", "at", "([II)I"⟩ ⟨"ByteFieldsModel", "at", "([II)I"⟩ ∈ bw_uw := bw_in (i := 45) (by decide +kernel) rfl
theorem w_1395 : Cond.methodLink "ByteFieldsModel" 175 ⟨"ByteFieldsModel", "begin", "()V"⟩ ∈ bw_uw := bw_in (i := 1395) (by decide +kernel) rfl
theorem w_1398 : Cond.code ⟨"ByteFieldsModel", "begin", "()V"⟩ prog_12_method_53_code 1 (Option.none : Option FieldType) ∈ bw_uw := bw_in (i := 1398) (by decide +kernel) rfl
theorem w_1397 : Cond.instanceMethod ⟨"ByteFieldsModel", "begin", "()V"⟩ ∈ bw_uw := bw_in (i := 1397) (by decide +kernel) rfl
theorem w_43 : Cond.selects "ByteFieldsModel" ⟨"ByteFieldsModel", "begin", "()V"⟩ ⟨"ByteFieldsModel", "begin", "()V"⟩ ∈ bw_uw := bw_in (i := 43) (by decide +kernel) rfl
theorem w_1399 : Cond.methodLink "ByteFieldsModel" 178 ⟨"ByteFieldsModel", "point", "(II)V"⟩ ∈ bw_uw := bw_in (i := 1399) (by decide +kernel) rfl
theorem w_1402 : Cond.code ⟨"ByteFieldsModel", "point", "(II)V"⟩ prog_12_method_52_code 6 (Option.none : Option FieldType) ∈ bw_uw := bw_in (i := 1402) (by decide +kernel) rfl
theorem w_1401 : Cond.instanceMethod ⟨"ByteFieldsModel", "point", "(II)V"⟩ ∈ bw_uw := bw_in (i := 1401) (by decide +kernel) rfl
theorem w_44 : Cond.selects "ByteFieldsModel" ⟨"ByteFieldsModel", "point", "(II)V"⟩ ⟨"ByteFieldsModel", "point", "(II)V"⟩ ∈ bw_uw := bw_in (i := 44) (by decide +kernel) rfl
theorem w_1411 : Cond.methodLink "ByteFieldsModel" 182 ⟨"ByteFieldsModel", "isPolynomial", "(I)Z"⟩ ∈ bw_uw := bw_in (i := 1411) (by decide +kernel) rfl
theorem w_1414 : Cond.code ⟨"ByteFieldsModel", "isPolynomial", "(I)Z"⟩ prog_12_method_44_code 2 (Option.some FieldType.boolean) ∈ bw_uw := bw_in (i := 1414) (by decide +kernel) rfl
theorem w_1413 : Cond.instanceMethod ⟨"ByteFieldsModel", "isPolynomial", "(I)Z"⟩ ∈ bw_uw := bw_in (i := 1413) (by decide +kernel) rfl
theorem w_46 : Cond.selects "ByteFieldsModel" ⟨"ByteFieldsModel", "isPolynomial", "(I)Z"⟩ ⟨"ByteFieldsModel", "isPolynomial", "(I)Z"⟩ ∈ bw_uw := bw_in (i := 46) (by decide +kernel) rfl
theorem w_1423 : Cond.methodLink "ByteFieldsModel" 185 ⟨"ByteFieldsModel", "load", "([II)V"⟩ ∈ bw_uw := bw_in (i := 1423) (by decide +kernel) rfl
theorem w_1426 : Cond.code ⟨"ByteFieldsModel", "load", "([II)V"⟩ prog_12_method_48_code 4 (Option.none : Option FieldType) ∈ bw_uw := bw_in (i := 1426) (by decide +kernel) rfl
theorem w_1425 : Cond.instanceMethod ⟨"ByteFieldsModel", "load", "([II)V"⟩ ∈ bw_uw := bw_in (i := 1425) (by decide +kernel) rfl
theorem w_47 : Cond.selects "ByteFieldsModel" ⟨"ByteFieldsModel", "load", "([II)V"⟩ ⟨"ByteFieldsModel", "load", "([II)V"⟩ ∈ bw_uw := bw_in (i := 47) (by decide +kernel) rfl
theorem w_1439 : Cond.methodLink "ByteFieldsModel" 189 ⟨"ByteFieldsModel", "split", "([I[I)V"⟩ ∈ bw_uw := bw_in (i := 1439) (by decide +kernel) rfl
theorem w_1442 : Cond.code ⟨"ByteFieldsModel", "split", "([I[I)V"⟩ prog_12_method_60_code 8 (Option.none : Option FieldType) ∈ bw_uw := bw_in (i := 1442) (by decide +kernel) rfl
theorem w_1441 : Cond.instanceMethod ⟨"ByteFieldsModel", "split", "([I[I)V"⟩ ∈ bw_uw := bw_in (i := 1441) (by decide +kernel) rfl
theorem w_48 : Cond.selects "ByteFieldsModel" ⟨"ByteFieldsModel", "split", "([I[I)V"⟩ ⟨"ByteFieldsModel", "split", "([I[I)V"⟩ ∈ bw_uw := bw_in (i := 48) (by decide +kernel) rfl
theorem w_1451 : Cond.methodLink "ByteFieldsModel" 193 ⟨"ByteFieldsModel", "copy", "([I[I)V"⟩ ∈ bw_uw := bw_in (i := 1451) (by decide +kernel) rfl
theorem w_1453 : Cond.code ⟨"ByteFieldsModel", "copy", "([I[I)V"⟩ prog_12_method_47_code 3 (Option.none : Option FieldType) ∈ bw_uw := bw_in (i := 1453) (by decide +kernel) rfl
theorem w_1452 : Cond.static ⟨"ByteFieldsModel", "copy", "([I[I)V"⟩ ∈ bw_uw := bw_in (i := 1452) (by decide +kernel) rfl
theorem w_1447 : Cond.methodLink "ByteFieldsModel" 196 ⟨"ByteFieldsModel", "divisor", "([I[I)V"⟩ ∈ bw_uw := bw_in (i := 1447) (by decide +kernel) rfl
theorem w_1450 : Cond.code ⟨"ByteFieldsModel", "divisor", "([I[I)V"⟩ prog_12_method_62_code 6 (Option.none : Option FieldType) ∈ bw_uw := bw_in (i := 1450) (by decide +kernel) rfl
theorem w_1449 : Cond.instanceMethod ⟨"ByteFieldsModel", "divisor", "([I[I)V"⟩ ∈ bw_uw := bw_in (i := 1449) (by decide +kernel) rfl
theorem w_49 : Cond.selects "ByteFieldsModel" ⟨"ByteFieldsModel", "divisor", "([I[I)V"⟩ ⟨"ByteFieldsModel", "divisor", "([I[I)V"⟩ ∈ bw_uw := bw_in (i := 49) (by decide +kernel) rfl
theorem w_1178 : Cond.fieldLink "ByteFieldsModel" 199 "ByteFieldsModel" "roots" "I" ∈ bw_uw := bw_in (i := 1178) (by decide +kernel) rfl
theorem w_1470 : Cond.methodLink "ByteFieldsModel" 202 ⟨"ByteFieldsModel", "square", "([I)V"⟩ ∈ bw_uw := bw_in (i := 1470) (by decide +kernel) rfl
theorem w_1473 : Cond.code ⟨"ByteFieldsModel", "square", "([I)V"⟩ prog_12_method_66_code 3 (Option.none : Option FieldType) ∈ bw_uw := bw_in (i := 1473) (by decide +kernel) rfl
theorem w_1472 : Cond.instanceMethod ⟨"ByteFieldsModel", "square", "([I)V"⟩ ∈ bw_uw := bw_in (i := 1472) (by decide +kernel) rfl
theorem w_51 : Cond.selects "ByteFieldsModel" ⟨"ByteFieldsModel", "square", "([I)V"⟩ ⟨"ByteFieldsModel", "square", "([I)V"⟩ ∈ bw_uw := bw_in (i := 51) (by decide +kernel) rfl
theorem w_1466 : Cond.methodLink "ByteFieldsModel" 205 ⟨"ByteFieldsModel", "lookAtParts", "(I)V"⟩ ∈ bw_uw := bw_in (i := 1466) (by decide +kernel) rfl
theorem w_1469 : Cond.code ⟨"ByteFieldsModel", "lookAtParts", "(I)V"⟩ prog_12_method_67_code 4 (Option.none : Option FieldType) ∈ bw_uw := bw_in (i := 1469) (by decide +kernel) rfl
theorem w_1468 : Cond.instanceMethod ⟨"ByteFieldsModel", "lookAtParts", "(I)V"⟩ ∈ bw_uw := bw_in (i := 1468) (by decide +kernel) rfl
theorem w_50 : Cond.selects "ByteFieldsModel" ⟨"ByteFieldsModel", "lookAtParts", "(I)V"⟩ ⟨"ByteFieldsModel", "lookAtParts", "(I)V"⟩ ∈ bw_uw := bw_in (i := 50) (by decide +kernel) rfl
theorem w_1184 : Cond.fieldLink "ByteFieldsModel" 208 "ByteFieldsModel" "spanned" "I" ∈ bw_uw := bw_in (i := 1184) (by decide +kernel) rfl
theorem w_136 : Cond.constant "java/lang/Integer" 264 (65536 : Int32) ∈ bw_uw := bw_in (i := 136) (by decide +kernel) rfl
theorem w_808 : Cond.constant "java/lang/Integer" 265 (1431655765 : Int32) ∈ bw_uw := bw_in (i := 808) (by decide +kernel) rfl
theorem w_809 : Cond.constant "java/lang/Integer" 266 (858993459 : Int32) ∈ bw_uw := bw_in (i := 809) (by decide +kernel) rfl
theorem w_810 : Cond.constant "java/lang/Integer" 267 (252645135 : Int32) ∈ bw_uw := bw_in (i := 810) (by decide +kernel) rfl
theorem w_387 : Cond.methodLink "ByteFieldsLaw" 7 ⟨"ByteFields", "product", "(II)I"⟩ ∈ bw_uw := bw_in (i := 387) (by decide +kernel) rfl
theorem w_390 : Cond.code ⟨"ByteFields", "product", "(II)I"⟩ prog_1_method_4_code 3 (Option.some FieldType.int) ∈ bw_uw := bw_in (i := 390) (by decide +kernel) rfl
theorem w_388 : Cond.instanceMethod ⟨"ByteFields", "product", "(II)I"⟩ ∈ bw_uw := bw_in (i := 388) (by decide +kernel) rfl
theorem w_389 : Cond.selects "ByteFields" ⟨"ByteFields", "product", "(II)I"⟩ ⟨"ByteFields", "product", "(II)I"⟩ ∈ bw_uw := bw_in (i := 389) (by decide +kernel) rfl
theorem w_489 : Cond.methodLink "ByteFieldsLaw" 15 ⟨"ByteFields", "quotient", "(II)I"⟩ ∈ bw_uw := bw_in (i := 489) (by decide +kernel) rfl
theorem w_492 : Cond.code ⟨"ByteFields", "quotient", "(II)I"⟩ prog_1_method_5_code 3 (Option.some FieldType.int) ∈ bw_uw := bw_in (i := 492) (by decide +kernel) rfl
theorem w_490 : Cond.instanceMethod ⟨"ByteFields", "quotient", "(II)I"⟩ ∈ bw_uw := bw_in (i := 490) (by decide +kernel) rfl
theorem w_491 : Cond.selects "ByteFields" ⟨"ByteFields", "quotient", "(II)I"⟩ ⟨"ByteFields", "quotient", "(II)I"⟩ ∈ bw_uw := bw_in (i := 491) (by decide +kernel) rfl
theorem w_508 : Cond.methodLink "ByteFieldsLaw" 20 ⟨"ByteFields", "power", "(IJ)I"⟩ ∈ bw_uw := bw_in (i := 508) (by decide +kernel) rfl
theorem w_511 : Cond.code ⟨"ByteFields", "power", "(IJ)I"⟩ prog_1_method_6_code 4 (Option.some FieldType.int) ∈ bw_uw := bw_in (i := 511) (by decide +kernel) rfl
theorem w_509 : Cond.instanceMethod ⟨"ByteFields", "power", "(IJ)I"⟩ ∈ bw_uw := bw_in (i := 509) (by decide +kernel) rfl
theorem w_510 : Cond.selects "ByteFields" ⟨"ByteFields", "power", "(IJ)I"⟩ ⟨"ByteFields", "power", "(IJ)I"⟩ ∈ bw_uw := bw_in (i := 510) (by decide +kernel) rfl
theorem w_543 : Cond.methodLink "ByteFieldsLaw" 24 ⟨"ByteFields", "log", "(I)I"⟩ ∈ bw_uw := bw_in (i := 543) (by decide +kernel) rfl
theorem w_546 : Cond.code ⟨"ByteFields", "log", "(I)I"⟩ prog_1_method_7_code 2 (Option.some FieldType.int) ∈ bw_uw := bw_in (i := 546) (by decide +kernel) rfl
theorem w_544 : Cond.instanceMethod ⟨"ByteFields", "log", "(I)I"⟩ ∈ bw_uw := bw_in (i := 544) (by decide +kernel) rfl
theorem w_545 : Cond.selects "ByteFields" ⟨"ByteFields", "log", "(I)I"⟩ ⟨"ByteFields", "log", "(I)I"⟩ ∈ bw_uw := bw_in (i := 545) (by decide +kernel) rfl
theorem w_554 : Cond.methodLink "ByteFieldsLaw" 30 ⟨"ByteFields", "order", "(I)I"⟩ ∈ bw_uw := bw_in (i := 554) (by decide +kernel) rfl
theorem w_557 : Cond.code ⟨"ByteFields", "order", "(I)I"⟩ prog_1_method_8_code 2 (Option.some FieldType.int) ∈ bw_uw := bw_in (i := 557) (by decide +kernel) rfl
theorem w_555 : Cond.instanceMethod ⟨"ByteFields", "order", "(I)I"⟩ ∈ bw_uw := bw_in (i := 555) (by decide +kernel) rfl
theorem w_556 : Cond.selects "ByteFields" ⟨"ByteFields", "order", "(I)I"⟩ ⟨"ByteFields", "order", "(I)I"⟩ ∈ bw_uw := bw_in (i := 556) (by decide +kernel) rfl
theorem w_566 : Cond.methodLink "ByteFieldsLaw" 33 ⟨"ByteFields", "put", "(I)I"⟩ ∈ bw_uw := bw_in (i := 566) (by decide +kernel) rfl
theorem w_569 : Cond.code ⟨"ByteFields", "put", "(I)I"⟩ prog_1_method_9_code 2 (Option.some FieldType.int) ∈ bw_uw := bw_in (i := 569) (by decide +kernel) rfl
theorem w_567 : Cond.instanceMethod ⟨"ByteFields", "put", "(I)I"⟩ ∈ bw_uw := bw_in (i := 567) (by decide +kernel) rfl
theorem w_568 : Cond.selects "ByteFields" ⟨"ByteFields", "put", "(I)I"⟩ ⟨"ByteFields", "put", "(I)I"⟩ ∈ bw_uw := bw_in (i := 568) (by decide +kernel) rfl
theorem w_590 : Cond.methodLink "ByteFieldsLaw" 38 ⟨"ByteFields", "row", "(I)I"⟩ ∈ bw_uw := bw_in (i := 590) (by decide +kernel) rfl
theorem w_593 : Cond.code ⟨"ByteFields", "row", "(I)I"⟩ prog_1_method_10_code 2 (Option.some FieldType.int) ∈ bw_uw := bw_in (i := 593) (by decide +kernel) rfl
theorem w_591 : Cond.instanceMethod ⟨"ByteFields", "row", "(I)I"⟩ ∈ bw_uw := bw_in (i := 591) (by decide +kernel) rfl
theorem w_592 : Cond.selects "ByteFields" ⟨"ByteFields", "row", "(I)I"⟩ ⟨"ByteFields", "row", "(I)I"⟩ ∈ bw_uw := bw_in (i := 592) (by decide +kernel) rfl
theorem w_610 : Cond.methodLink "ByteFieldsLaw" 43 ⟨"ByteFields", "matrix", "(II)I"⟩ ∈ bw_uw := bw_in (i := 610) (by decide +kernel) rfl
theorem w_613 : Cond.code ⟨"ByteFields", "matrix", "(II)I"⟩ prog_1_method_12_code 3 (Option.some FieldType.int) ∈ bw_uw := bw_in (i := 613) (by decide +kernel) rfl
theorem w_611 : Cond.instanceMethod ⟨"ByteFields", "matrix", "(II)I"⟩ ∈ bw_uw := bw_in (i := 611) (by decide +kernel) rfl
theorem w_612 : Cond.selects "ByteFields" ⟨"ByteFields", "matrix", "(II)I"⟩ ⟨"ByteFields", "matrix", "(II)I"⟩ ∈ bw_uw := bw_in (i := 612) (by decide +kernel) rfl
theorem w_655 : Cond.methodLink "ByteFieldsLaw" 46 ⟨"ByteFields", "powers", "(II)I"⟩ ∈ bw_uw := bw_in (i := 655) (by decide +kernel) rfl
theorem w_658 : Cond.code ⟨"ByteFields", "powers", "(II)I"⟩ prog_1_method_13_code 7 (Option.some FieldType.int) ∈ bw_uw := bw_in (i := 658) (by decide +kernel) rfl
theorem w_656 : Cond.instanceMethod ⟨"ByteFields", "powers", "(II)I"⟩ ∈ bw_uw := bw_in (i := 656) (by decide +kernel) rfl
theorem w_657 : Cond.selects "ByteFields" ⟨"ByteFields", "powers", "(II)I"⟩ ⟨"ByteFields", "powers", "(II)I"⟩ ∈ bw_uw := bw_in (i := 657) (by decide +kernel) rfl
theorem w_682 : Cond.methodLink "ByteFieldsLaw" 51 ⟨"ByteFields", "sums", "(II)I"⟩ ∈ bw_uw := bw_in (i := 682) (by decide +kernel) rfl
theorem w_685 : Cond.code ⟨"ByteFields", "sums", "(II)I"⟩ prog_1_method_14_code 6 (Option.some FieldType.int) ∈ bw_uw := bw_in (i := 685) (by decide +kernel) rfl
theorem w_683 : Cond.instanceMethod ⟨"ByteFields", "sums", "(II)I"⟩ ∈ bw_uw := bw_in (i := 683) (by decide +kernel) rfl
theorem w_684 : Cond.selects "ByteFields" ⟨"ByteFields", "sums", "(II)I"⟩ ⟨"ByteFields", "sums", "(II)I"⟩ ∈ bw_uw := bw_in (i := 684) (by decide +kernel) rfl
theorem w_691 : Cond.methodLink "ByteFieldsLaw" 54 ⟨"ByteFields", "size", "(II)I"⟩ ∈ bw_uw := bw_in (i := 691) (by decide +kernel) rfl
theorem w_694 : Cond.code ⟨"ByteFields", "size", "(II)I"⟩ prog_1_method_15_code 4 (Option.some FieldType.int) ∈ bw_uw := bw_in (i := 694) (by decide +kernel) rfl
theorem w_692 : Cond.instanceMethod ⟨"ByteFields", "size", "(II)I"⟩ ∈ bw_uw := bw_in (i := 692) (by decide +kernel) rfl
theorem w_693 : Cond.selects "ByteFields" ⟨"ByteFields", "size", "(II)I"⟩ ⟨"ByteFields", "size", "(II)I"⟩ ∈ bw_uw := bw_in (i := 693) (by decide +kernel) rfl
theorem w_704 : Cond.methodLink "ByteFieldsLaw" 57 ⟨"ByteFields", "cell", "(III)I"⟩ ∈ bw_uw := bw_in (i := 704) (by decide +kernel) rfl
theorem w_707 : Cond.code ⟨"ByteFields", "cell", "(III)I"⟩ prog_1_method_16_code 5 (Option.some FieldType.int) ∈ bw_uw := bw_in (i := 707) (by decide +kernel) rfl
theorem w_705 : Cond.instanceMethod ⟨"ByteFields", "cell", "(III)I"⟩ ∈ bw_uw := bw_in (i := 705) (by decide +kernel) rfl
theorem w_706 : Cond.selects "ByteFields" ⟨"ByteFields", "cell", "(III)I"⟩ ⟨"ByteFields", "cell", "(III)I"⟩ ∈ bw_uw := bw_in (i := 706) (by decide +kernel) rfl
theorem w_715 : Cond.methodLink "ByteFieldsLaw" 61 ⟨"ByteFields", "set", "(IIII)I"⟩ ∈ bw_uw := bw_in (i := 715) (by decide +kernel) rfl
theorem w_718 : Cond.code ⟨"ByteFields", "set", "(IIII)I"⟩ prog_1_method_17_code 8 (Option.some FieldType.int) ∈ bw_uw := bw_in (i := 718) (by decide +kernel) rfl
theorem w_716 : Cond.instanceMethod ⟨"ByteFields", "set", "(IIII)I"⟩ ∈ bw_uw := bw_in (i := 716) (by decide +kernel) rfl
theorem w_717 : Cond.selects "ByteFields" ⟨"ByteFields", "set", "(IIII)I"⟩ ⟨"ByteFields", "set", "(IIII)I"⟩ ∈ bw_uw := bw_in (i := 717) (by decide +kernel) rfl
theorem w_722 : Cond.methodLink "ByteFieldsLaw" 65 ⟨"ByteFields", "times", "(II)I"⟩ ∈ bw_uw := bw_in (i := 722) (by decide +kernel) rfl
theorem w_725 : Cond.code ⟨"ByteFields", "times", "(II)I"⟩ prog_1_method_18_code 9 (Option.some FieldType.int) ∈ bw_uw := bw_in (i := 725) (by decide +kernel) rfl
theorem w_723 : Cond.instanceMethod ⟨"ByteFields", "times", "(II)I"⟩ ∈ bw_uw := bw_in (i := 723) (by decide +kernel) rfl
theorem w_724 : Cond.selects "ByteFields" ⟨"ByteFields", "times", "(II)I"⟩ ⟨"ByteFields", "times", "(II)I"⟩ ∈ bw_uw := bw_in (i := 724) (by decide +kernel) rfl
theorem w_734 : Cond.methodLink "ByteFieldsLaw" 68 ⟨"ByteFields", "invert", "(I)I"⟩ ∈ bw_uw := bw_in (i := 734) (by decide +kernel) rfl
theorem w_737 : Cond.code ⟨"ByteFields", "invert", "(I)I"⟩ prog_1_method_19_code 4 (Option.some FieldType.int) ∈ bw_uw := bw_in (i := 737) (by decide +kernel) rfl
theorem w_735 : Cond.instanceMethod ⟨"ByteFields", "invert", "(I)I"⟩ ∈ bw_uw := bw_in (i := 735) (by decide +kernel) rfl
theorem w_736 : Cond.selects "ByteFields" ⟨"ByteFields", "invert", "(I)I"⟩ ⟨"ByteFields", "invert", "(I)I"⟩ ∈ bw_uw := bw_in (i := 736) (by decide +kernel) rfl
theorem w_783 : Cond.methodLink "ByteFieldsLaw" 71 ⟨"ByteFields", "rank", "(I)I"⟩ ∈ bw_uw := bw_in (i := 783) (by decide +kernel) rfl
theorem w_786 : Cond.code ⟨"ByteFields", "rank", "(I)I"⟩ prog_1_method_20_code 3 (Option.some FieldType.int) ∈ bw_uw := bw_in (i := 786) (by decide +kernel) rfl
theorem w_784 : Cond.instanceMethod ⟨"ByteFields", "rank", "(I)I"⟩ ∈ bw_uw := bw_in (i := 784) (by decide +kernel) rfl
theorem w_785 : Cond.selects "ByteFields" ⟨"ByteFields", "rank", "(I)I"⟩ ⟨"ByteFields", "rank", "(I)I"⟩ ∈ bw_uw := bw_in (i := 785) (by decide +kernel) rfl
theorem w_790 : Cond.methodLink "ByteFieldsLaw" 74 ⟨"ByteFields", "determinant", "(I)I"⟩ ∈ bw_uw := bw_in (i := 790) (by decide +kernel) rfl
theorem w_793 : Cond.code ⟨"ByteFields", "determinant", "(I)I"⟩ prog_1_method_21_code 3 (Option.some FieldType.int) ∈ bw_uw := bw_in (i := 793) (by decide +kernel) rfl
theorem w_791 : Cond.instanceMethod ⟨"ByteFields", "determinant", "(I)I"⟩ ∈ bw_uw := bw_in (i := 791) (by decide +kernel) rfl
theorem w_792 : Cond.selects "ByteFields" ⟨"ByteFields", "determinant", "(I)I"⟩ ⟨"ByteFields", "determinant", "(I)I"⟩ ∈ bw_uw := bw_in (i := 792) (by decide +kernel) rfl
theorem w_797 : Cond.methodLink "ByteFieldsLaw" 77 ⟨"ByteFields", "singular", "(I)I"⟩ ∈ bw_uw := bw_in (i := 797) (by decide +kernel) rfl
theorem w_800 : Cond.code ⟨"ByteFields", "singular", "(I)I"⟩ prog_1_method_22_code 2 (Option.some FieldType.int) ∈ bw_uw := bw_in (i := 800) (by decide +kernel) rfl
theorem w_798 : Cond.instanceMethod ⟨"ByteFields", "singular", "(I)I"⟩ ∈ bw_uw := bw_in (i := 798) (by decide +kernel) rfl
theorem w_799 : Cond.selects "ByteFields" ⟨"ByteFields", "singular", "(I)I"⟩ ⟨"ByteFields", "singular", "(I)I"⟩ ∈ bw_uw := bw_in (i := 799) (by decide +kernel) rfl
theorem w_826 : Cond.methodLink "ByteFieldsLaw" 80 ⟨"ByteFields", "solve", "(I)I"⟩ ∈ bw_uw := bw_in (i := 826) (by decide +kernel) rfl
theorem w_829 : Cond.code ⟨"ByteFields", "solve", "(I)I"⟩ prog_1_method_23_code 5 (Option.some FieldType.int) ∈ bw_uw := bw_in (i := 829) (by decide +kernel) rfl
theorem w_827 : Cond.instanceMethod ⟨"ByteFields", "solve", "(I)I"⟩ ∈ bw_uw := bw_in (i := 827) (by decide +kernel) rfl
theorem w_828 : Cond.selects "ByteFields" ⟨"ByteFields", "solve", "(I)I"⟩ ⟨"ByteFields", "solve", "(I)I"⟩ ∈ bw_uw := bw_in (i := 828) (by decide +kernel) rfl
theorem w_846 : Cond.methodLink "ByteFieldsLaw" 83 ⟨"ByteFields", "polynomial", "()I"⟩ ∈ bw_uw := bw_in (i := 846) (by decide +kernel) rfl
theorem w_849 : Cond.code ⟨"ByteFields", "polynomial", "()I"⟩ prog_1_method_24_code 2 (Option.some FieldType.int) ∈ bw_uw := bw_in (i := 849) (by decide +kernel) rfl
theorem w_847 : Cond.instanceMethod ⟨"ByteFields", "polynomial", "()I"⟩ ∈ bw_uw := bw_in (i := 847) (by decide +kernel) rfl
theorem w_848 : Cond.selects "ByteFields" ⟨"ByteFields", "polynomial", "()I"⟩ ⟨"ByteFields", "polynomial", "()I"⟩ ∈ bw_uw := bw_in (i := 848) (by decide +kernel) rfl
theorem w_881 : Cond.methodLink "ByteFieldsLaw" 87 ⟨"ByteFields", "through", "()I"⟩ ∈ bw_uw := bw_in (i := 881) (by decide +kernel) rfl
theorem w_884 : Cond.code ⟨"ByteFields", "through", "()I"⟩ prog_1_method_25_code 3 (Option.some FieldType.int) ∈ bw_uw := bw_in (i := 884) (by decide +kernel) rfl
theorem w_882 : Cond.instanceMethod ⟨"ByteFields", "through", "()I"⟩ ∈ bw_uw := bw_in (i := 882) (by decide +kernel) rfl
theorem w_883 : Cond.selects "ByteFields" ⟨"ByteFields", "through", "()I"⟩ ⟨"ByteFields", "through", "()I"⟩ ∈ bw_uw := bw_in (i := 883) (by decide +kernel) rfl
theorem w_905 : Cond.methodLink "ByteFieldsLaw" 90 ⟨"ByteFields", "degree", "(I)I"⟩ ∈ bw_uw := bw_in (i := 905) (by decide +kernel) rfl
theorem w_908 : Cond.code ⟨"ByteFields", "degree", "(I)I"⟩ prog_1_method_26_code 2 (Option.some FieldType.int) ∈ bw_uw := bw_in (i := 908) (by decide +kernel) rfl
theorem w_906 : Cond.instanceMethod ⟨"ByteFields", "degree", "(I)I"⟩ ∈ bw_uw := bw_in (i := 906) (by decide +kernel) rfl
theorem w_907 : Cond.selects "ByteFields" ⟨"ByteFields", "degree", "(I)I"⟩ ⟨"ByteFields", "degree", "(I)I"⟩ ∈ bw_uw := bw_in (i := 907) (by decide +kernel) rfl
theorem w_917 : Cond.methodLink "ByteFieldsLaw" 93 ⟨"ByteFields", "coefficient", "(II)I"⟩ ∈ bw_uw := bw_in (i := 917) (by decide +kernel) rfl
theorem w_920 : Cond.code ⟨"ByteFields", "coefficient", "(II)I"⟩ prog_1_method_27_code 4 (Option.some FieldType.int) ∈ bw_uw := bw_in (i := 920) (by decide +kernel) rfl
theorem w_918 : Cond.instanceMethod ⟨"ByteFields", "coefficient", "(II)I"⟩ ∈ bw_uw := bw_in (i := 918) (by decide +kernel) rfl
theorem w_919 : Cond.selects "ByteFields" ⟨"ByteFields", "coefficient", "(II)I"⟩ ⟨"ByteFields", "coefficient", "(II)I"⟩ ∈ bw_uw := bw_in (i := 919) (by decide +kernel) rfl
theorem w_925 : Cond.methodLink "ByteFieldsLaw" 96 ⟨"ByteFields", "value", "(II)I"⟩ ∈ bw_uw := bw_in (i := 925) (by decide +kernel) rfl
theorem w_928 : Cond.code ⟨"ByteFields", "value", "(II)I"⟩ prog_1_method_28_code 4 (Option.some FieldType.int) ∈ bw_uw := bw_in (i := 928) (by decide +kernel) rfl
theorem w_926 : Cond.instanceMethod ⟨"ByteFields", "value", "(II)I"⟩ ∈ bw_uw := bw_in (i := 926) (by decide +kernel) rfl
theorem w_927 : Cond.selects "ByteFields" ⟨"ByteFields", "value", "(II)I"⟩ ⟨"ByteFields", "value", "(II)I"⟩ ∈ bw_uw := bw_in (i := 927) (by decide +kernel) rfl
theorem w_936 : Cond.methodLink "ByteFieldsLaw" 99 ⟨"ByteFields", "plus", "(II)I"⟩ ∈ bw_uw := bw_in (i := 936) (by decide +kernel) rfl
theorem w_939 : Cond.code ⟨"ByteFields", "plus", "(II)I"⟩ prog_1_method_29_code 5 (Option.some FieldType.int) ∈ bw_uw := bw_in (i := 939) (by decide +kernel) rfl
theorem w_937 : Cond.instanceMethod ⟨"ByteFields", "plus", "(II)I"⟩ ∈ bw_uw := bw_in (i := 937) (by decide +kernel) rfl
theorem w_938 : Cond.selects "ByteFields" ⟨"ByteFields", "plus", "(II)I"⟩ ⟨"ByteFields", "plus", "(II)I"⟩ ∈ bw_uw := bw_in (i := 938) (by decide +kernel) rfl
theorem w_951 : Cond.methodLink "ByteFieldsLaw" 102 ⟨"ByteFields", "multiply", "(II)I"⟩ ∈ bw_uw := bw_in (i := 951) (by decide +kernel) rfl
theorem w_954 : Cond.code ⟨"ByteFields", "multiply", "(II)I"⟩ prog_1_method_30_code 6 (Option.some FieldType.int) ∈ bw_uw := bw_in (i := 954) (by decide +kernel) rfl
theorem w_952 : Cond.instanceMethod ⟨"ByteFields", "multiply", "(II)I"⟩ ∈ bw_uw := bw_in (i := 952) (by decide +kernel) rfl
theorem w_953 : Cond.selects "ByteFields" ⟨"ByteFields", "multiply", "(II)I"⟩ ⟨"ByteFields", "multiply", "(II)I"⟩ ∈ bw_uw := bw_in (i := 953) (by decide +kernel) rfl
theorem w_960 : Cond.methodLink "ByteFieldsLaw" 105 ⟨"ByteFields", "divide", "(IIZ)I"⟩ ∈ bw_uw := bw_in (i := 960) (by decide +kernel) rfl
theorem w_963 : Cond.code ⟨"ByteFields", "divide", "(IIZ)I"⟩ prog_1_method_31_code 6 (Option.some FieldType.int) ∈ bw_uw := bw_in (i := 963) (by decide +kernel) rfl
theorem w_961 : Cond.instanceMethod ⟨"ByteFields", "divide", "(IIZ)I"⟩ ∈ bw_uw := bw_in (i := 961) (by decide +kernel) rfl
theorem w_962 : Cond.selects "ByteFields" ⟨"ByteFields", "divide", "(IIZ)I"⟩ ⟨"ByteFields", "divide", "(IIZ)I"⟩ ∈ bw_uw := bw_in (i := 962) (by decide +kernel) rfl
theorem w_989 : Cond.methodLink "ByteFieldsLaw" 109 ⟨"ByteFields", "common", "(II)I"⟩ ∈ bw_uw := bw_in (i := 989) (by decide +kernel) rfl
theorem w_992 : Cond.code ⟨"ByteFields", "common", "(II)I"⟩ prog_1_method_32_code 5 (Option.some FieldType.int) ∈ bw_uw := bw_in (i := 992) (by decide +kernel) rfl
theorem w_990 : Cond.instanceMethod ⟨"ByteFields", "common", "(II)I"⟩ ∈ bw_uw := bw_in (i := 990) (by decide +kernel) rfl
theorem w_991 : Cond.selects "ByteFields" ⟨"ByteFields", "common", "(II)I"⟩ ⟨"ByteFields", "common", "(II)I"⟩ ∈ bw_uw := bw_in (i := 991) (by decide +kernel) rfl
theorem w_1003 : Cond.methodLink "ByteFieldsLaw" 112 ⟨"ByteFields", "root", "(II)I"⟩ ∈ bw_uw := bw_in (i := 1003) (by decide +kernel) rfl
theorem w_1006 : Cond.code ⟨"ByteFields", "root", "(II)I"⟩ prog_1_method_33_code 4 (Option.some FieldType.int) ∈ bw_uw := bw_in (i := 1006) (by decide +kernel) rfl
theorem w_1004 : Cond.instanceMethod ⟨"ByteFields", "root", "(II)I"⟩ ∈ bw_uw := bw_in (i := 1004) (by decide +kernel) rfl
theorem w_1005 : Cond.selects "ByteFields" ⟨"ByteFields", "root", "(II)I"⟩ ⟨"ByteFields", "root", "(II)I"⟩ ∈ bw_uw := bw_in (i := 1005) (by decide +kernel) rfl
theorem w_1041 : Cond.methodLink "ByteFieldsLaw" 115 ⟨"ByteFields", "often", "(II)I"⟩ ∈ bw_uw := bw_in (i := 1041) (by decide +kernel) rfl
theorem w_1044 : Cond.code ⟨"ByteFields", "often", "(II)I"⟩ prog_1_method_34_code 5 (Option.some FieldType.int) ∈ bw_uw := bw_in (i := 1044) (by decide +kernel) rfl
theorem w_1042 : Cond.instanceMethod ⟨"ByteFields", "often", "(II)I"⟩ ∈ bw_uw := bw_in (i := 1042) (by decide +kernel) rfl
theorem w_1043 : Cond.selects "ByteFields" ⟨"ByteFields", "often", "(II)I"⟩ ⟨"ByteFields", "often", "(II)I"⟩ ∈ bw_uw := bw_in (i := 1043) (by decide +kernel) rfl
theorem w_1052 : Cond.methodLink "ByteFieldsLaw" 118 ⟨"ByteFields", "parts", "(II)I"⟩ ∈ bw_uw := bw_in (i := 1052) (by decide +kernel) rfl
theorem w_1055 : Cond.code ⟨"ByteFields", "parts", "(II)I"⟩ prog_1_method_35_code 5 (Option.some FieldType.int) ∈ bw_uw := bw_in (i := 1055) (by decide +kernel) rfl
theorem w_1053 : Cond.instanceMethod ⟨"ByteFields", "parts", "(II)I"⟩ ∈ bw_uw := bw_in (i := 1053) (by decide +kernel) rfl
theorem w_1054 : Cond.selects "ByteFields" ⟨"ByteFields", "parts", "(II)I"⟩ ⟨"ByteFields", "parts", "(II)I"⟩ ∈ bw_uw := bw_in (i := 1054) (by decide +kernel) rfl
theorem w_1075 : Cond.methodLink "ByteFieldsLaw" 121 ⟨"ByteFields", "span", "()I"⟩ ∈ bw_uw := bw_in (i := 1075) (by decide +kernel) rfl
theorem w_1078 : Cond.code ⟨"ByteFields", "span", "()I"⟩ prog_1_method_36_code 2 (Option.some FieldType.int) ∈ bw_uw := bw_in (i := 1078) (by decide +kernel) rfl
theorem w_1076 : Cond.instanceMethod ⟨"ByteFields", "span", "()I"⟩ ∈ bw_uw := bw_in (i := 1076) (by decide +kernel) rfl
theorem w_1077 : Cond.selects "ByteFields" ⟨"ByteFields", "span", "()I"⟩ ⟨"ByteFields", "span", "()I"⟩ ∈ bw_uw := bw_in (i := 1077) (by decide +kernel) rfl
theorem w_1091 : Cond.methodLink "ByteFieldsLaw" 124 ⟨"ByteFields", "forth", "(I)I"⟩ ∈ bw_uw := bw_in (i := 1091) (by decide +kernel) rfl
theorem w_1094 : Cond.code ⟨"ByteFields", "forth", "(I)I"⟩ prog_1_method_37_code 4 (Option.some FieldType.int) ∈ bw_uw := bw_in (i := 1094) (by decide +kernel) rfl
theorem w_1092 : Cond.instanceMethod ⟨"ByteFields", "forth", "(I)I"⟩ ∈ bw_uw := bw_in (i := 1092) (by decide +kernel) rfl
theorem w_1093 : Cond.selects "ByteFields" ⟨"ByteFields", "forth", "(I)I"⟩ ⟨"ByteFields", "forth", "(I)I"⟩ ∈ bw_uw := bw_in (i := 1093) (by decide +kernel) rfl
theorem w_1103 : Cond.methodLink "ByteFieldsLaw" 127 ⟨"ByteFields", "back", "()I"⟩ ∈ bw_uw := bw_in (i := 1103) (by decide +kernel) rfl
theorem w_1106 : Cond.code ⟨"ByteFields", "back", "()I"⟩ prog_1_method_38_code 2 (Option.some FieldType.int) ∈ bw_uw := bw_in (i := 1106) (by decide +kernel) rfl
theorem w_1104 : Cond.instanceMethod ⟨"ByteFields", "back", "()I"⟩ ∈ bw_uw := bw_in (i := 1104) (by decide +kernel) rfl
theorem w_1105 : Cond.selects "ByteFields" ⟨"ByteFields", "back", "()I"⟩ ⟨"ByteFields", "back", "()I"⟩ ∈ bw_uw := bw_in (i := 1105) (by decide +kernel) rfl
theorem w_1111 : Cond.methodLink "ByteFieldsLaw" 130 ⟨"ByteFields", "told", "(I)I"⟩ ∈ bw_uw := bw_in (i := 1111) (by decide +kernel) rfl
theorem w_1114 : Cond.code ⟨"ByteFields", "told", "(I)I"⟩ prog_1_method_39_code 2 (Option.some FieldType.int) ∈ bw_uw := bw_in (i := 1114) (by decide +kernel) rfl
theorem w_1112 : Cond.instanceMethod ⟨"ByteFields", "told", "(I)I"⟩ ∈ bw_uw := bw_in (i := 1112) (by decide +kernel) rfl
theorem w_1113 : Cond.selects "ByteFields" ⟨"ByteFields", "told", "(I)I"⟩ ⟨"ByteFields", "told", "(I)I"⟩ ∈ bw_uw := bw_in (i := 1113) (by decide +kernel) rfl
theorem w_77 : Cond.classLink "ByteFieldsLaw" 8 "ByteFields" ∈ bw_uw := bw_in (i := 77) (by decide +kernel) rfl
theorem w_78 : Cond.instantiable "ByteFields" 17 ∈ bw_uw := bw_in (i := 78) (by decide +kernel) rfl
theorem w_380 : Cond.methodLink "ByteFieldsLaw" 133 ⟨"ByteFieldsLaw", "cell", "([II)I"⟩ ∈ bw_uw := bw_in (i := 380) (by decide +kernel) rfl
theorem w_52 : Cond.initialized "ByteFieldsLaw" ∈ bw_uw := bw_in (i := 52) (by decide +kernel) rfl
theorem w_382 : Cond.code ⟨"ByteFieldsLaw", "cell", "([II)I"⟩ method_2_code 2 (Option.some FieldType.int) ∈ bw_uw := bw_in (i := 382) (by decide +kernel) rfl
theorem w_381 : Cond.static ⟨"ByteFieldsLaw", "cell", "([II)I"⟩ ∈ bw_uw := bw_in (i := 381) (by decide +kernel) rfl
theorem w_79 : Cond.methodLink "ByteFieldsLaw" 138 ⟨"ByteFields", "<init>", "(II)V"⟩ ∈ bw_uw := bw_in (i := 79) (by decide +kernel) rfl
theorem w_81 : Cond.code ⟨"ByteFields", "<init>", "(II)V"⟩ prog_1_method_1_code 3 (Option.none : Option FieldType) ∈ bw_uw := bw_in (i := 81) (by decide +kernel) rfl
theorem w_80 : Cond.instanceMethod ⟨"ByteFields", "<init>", "(II)V"⟩ ∈ bw_uw := bw_in (i := 80) (by decide +kernel) rfl
theorem w_1120 : Cond.classLink "ByteFieldsLaw" 141 "ByteFieldsModel" ∈ bw_uw := bw_in (i := 1120) (by decide +kernel) rfl
theorem w_1121 : Cond.instantiable "ByteFieldsModel" 30 ∈ bw_uw := bw_in (i := 1121) (by decide +kernel) rfl
theorem w_1122 : Cond.methodLink "ByteFieldsLaw" 143 ⟨"ByteFieldsModel", "<init>", "(II)V"⟩ ∈ bw_uw := bw_in (i := 1122) (by decide +kernel) rfl
theorem w_1124 : Cond.code ⟨"ByteFieldsModel", "<init>", "(II)V"⟩ prog_12_method_3_code 3 (Option.none : Option FieldType) ∈ bw_uw := bw_in (i := 1124) (by decide +kernel) rfl
theorem w_1123 : Cond.instanceMethod ⟨"ByteFieldsModel", "<init>", "(II)V"⟩ ∈ bw_uw := bw_in (i := 1123) (by decide +kernel) rfl
theorem w_368 : Cond.methodLink "ByteFieldsLaw" 144 ⟨"ByteFields", "poly", "()I"⟩ ∈ bw_uw := bw_in (i := 368) (by decide +kernel) rfl
theorem w_371 : Cond.code ⟨"ByteFields", "poly", "()I"⟩ prog_1_method_2_code 1 (Option.some FieldType.int) ∈ bw_uw := bw_in (i := 371) (by decide +kernel) rfl
theorem w_369 : Cond.instanceMethod ⟨"ByteFields", "poly", "()I"⟩ ∈ bw_uw := bw_in (i := 369) (by decide +kernel) rfl
theorem w_370 : Cond.selects "ByteFields" ⟨"ByteFields", "poly", "()I"⟩ ⟨"ByteFields", "poly", "()I"⟩ ∈ bw_uw := bw_in (i := 370) (by decide +kernel) rfl
theorem w_1247 : Cond.methodLink "ByteFieldsLaw" 147 ⟨"ByteFieldsModel", "poly", "()I"⟩ ∈ bw_uw := bw_in (i := 1247) (by decide +kernel) rfl
theorem w_1250 : Cond.code ⟨"ByteFieldsModel", "poly", "()I"⟩ prog_12_method_14_code 1 (Option.some FieldType.int) ∈ bw_uw := bw_in (i := 1250) (by decide +kernel) rfl
theorem w_1248 : Cond.instanceMethod ⟨"ByteFieldsModel", "poly", "()I"⟩ ∈ bw_uw := bw_in (i := 1248) (by decide +kernel) rfl
theorem w_1249 : Cond.selects "ByteFieldsModel" ⟨"ByteFieldsModel", "poly", "()I"⟩ ⟨"ByteFieldsModel", "poly", "()I"⟩ ∈ bw_uw := bw_in (i := 1249) (by decide +kernel) rfl
theorem w_372 : Cond.methodLink "ByteFieldsLaw" 148 ⟨"ByteFields", "generator", "()I"⟩ ∈ bw_uw := bw_in (i := 372) (by decide +kernel) rfl
theorem w_375 : Cond.code ⟨"ByteFields", "generator", "()I"⟩ prog_1_method_3_code 1 (Option.some FieldType.int) ∈ bw_uw := bw_in (i := 375) (by decide +kernel) rfl
theorem w_373 : Cond.instanceMethod ⟨"ByteFields", "generator", "()I"⟩ ∈ bw_uw := bw_in (i := 373) (by decide +kernel) rfl
theorem w_374 : Cond.selects "ByteFields" ⟨"ByteFields", "generator", "()I"⟩ ⟨"ByteFields", "generator", "()I"⟩ ∈ bw_uw := bw_in (i := 374) (by decide +kernel) rfl
theorem w_1251 : Cond.methodLink "ByteFieldsLaw" 151 ⟨"ByteFieldsModel", "generator", "()I"⟩ ∈ bw_uw := bw_in (i := 1251) (by decide +kernel) rfl
theorem w_1254 : Cond.code ⟨"ByteFieldsModel", "generator", "()I"⟩ prog_12_method_15_code 1 (Option.some FieldType.int) ∈ bw_uw := bw_in (i := 1254) (by decide +kernel) rfl
theorem w_1252 : Cond.instanceMethod ⟨"ByteFieldsModel", "generator", "()I"⟩ ∈ bw_uw := bw_in (i := 1252) (by decide +kernel) rfl
theorem w_1253 : Cond.selects "ByteFieldsModel" ⟨"ByteFieldsModel", "generator", "()I"⟩ ⟨"ByteFieldsModel", "generator", "()I"⟩ ∈ bw_uw := bw_in (i := 1253) (by decide +kernel) rfl
theorem w_383 : Cond.methodLink "ByteFieldsLaw" 152 ⟨"ByteFieldsLaw", "product", "(LByteFields;II[J)I"⟩ ∈ bw_uw := bw_in (i := 383) (by decide +kernel) rfl
theorem w_385 : Cond.codeWith ⟨"ByteFieldsLaw", "product", "(LByteFields;II[J)I"⟩ method_3_code 5 (Option.some FieldType.int) [(0, 10, 13, 13)] ∈ bw_uw := bw_in (i := 385) (by decide +kernel) rfl
theorem w_384 : Cond.static ⟨"ByteFieldsLaw", "product", "(LByteFields;II[J)I"⟩ ∈ bw_uw := bw_in (i := 384) (by decide +kernel) rfl
theorem w_1255 : Cond.methodLink "ByteFieldsLaw" 155 ⟨"ByteFieldsModel", "product", "(II)I"⟩ ∈ bw_uw := bw_in (i := 1255) (by decide +kernel) rfl
theorem w_1258 : Cond.code ⟨"ByteFieldsModel", "product", "(II)I"⟩ prog_12_method_16_code 3 (Option.some FieldType.int) ∈ bw_uw := bw_in (i := 1258) (by decide +kernel) rfl
theorem w_1256 : Cond.instanceMethod ⟨"ByteFieldsModel", "product", "(II)I"⟩ ∈ bw_uw := bw_in (i := 1256) (by decide +kernel) rfl
theorem w_1257 : Cond.selects "ByteFieldsModel" ⟨"ByteFieldsModel", "product", "(II)I"⟩ ⟨"ByteFieldsModel", "product", "(II)I"⟩ ∈ bw_uw := bw_in (i := 1257) (by decide +kernel) rfl
theorem w_1116 : Cond.methodLink "ByteFieldsLaw" 156 ⟨"ByteFieldsModel", "thrown", "()I"⟩ ∈ bw_uw := bw_in (i := 1116) (by decide +kernel) rfl
theorem w_1119 : Cond.code ⟨"ByteFieldsModel", "thrown", "()I"⟩ prog_12_method_1_code 1 (Option.some FieldType.int) ∈ bw_uw := bw_in (i := 1119) (by decide +kernel) rfl
theorem w_1117 : Cond.instanceMethod ⟨"ByteFieldsModel", "thrown", "()I"⟩ ∈ bw_uw := bw_in (i := 1117) (by decide +kernel) rfl
theorem w_1118 : Cond.selects "ByteFieldsModel" ⟨"ByteFieldsModel", "thrown", "()I"⟩ ⟨"ByteFieldsModel", "thrown", "()I"⟩ ∈ bw_uw := bw_in (i := 1118) (by decide +kernel) rfl
theorem w_467 : Cond.methodLink "ByteFieldsLaw" 159 ⟨"ByteFieldsLaw", "quotient", "(LByteFields;II[J)I"⟩ ∈ bw_uw := bw_in (i := 467) (by decide +kernel) rfl
theorem w_469 : Cond.codeWith ⟨"ByteFieldsLaw", "quotient", "(LByteFields;II[J)I"⟩ method_4_code 5 (Option.some FieldType.int) [(0, 10, 13, 13), (0, 10, 17, 18)] ∈ bw_uw := bw_in (i := 469) (by decide +kernel) rfl
theorem w_468 : Cond.static ⟨"ByteFieldsLaw", "quotient", "(LByteFields;II[J)I"⟩ ∈ bw_uw := bw_in (i := 468) (by decide +kernel) rfl
theorem w_1267 : Cond.methodLink "ByteFieldsLaw" 161 ⟨"ByteFieldsModel", "quotient", "(II)I"⟩ ∈ bw_uw := bw_in (i := 1267) (by decide +kernel) rfl
theorem w_1270 : Cond.code ⟨"ByteFieldsModel", "quotient", "(II)I"⟩ prog_12_method_17_code 3 (Option.some FieldType.int) ∈ bw_uw := bw_in (i := 1270) (by decide +kernel) rfl
theorem w_1268 : Cond.instanceMethod ⟨"ByteFieldsModel", "quotient", "(II)I"⟩ ∈ bw_uw := bw_in (i := 1268) (by decide +kernel) rfl
theorem w_1269 : Cond.selects "ByteFieldsModel" ⟨"ByteFieldsModel", "quotient", "(II)I"⟩ ⟨"ByteFieldsModel", "quotient", "(II)I"⟩ ∈ bw_uw := bw_in (i := 1269) (by decide +kernel) rfl
theorem w_1490 : Cond.constantLong "ByteFieldsLaw" 162 (4294967295 : Int64) ∈ bw_uw := bw_in (i := 1490) (by decide +kernel) rfl
theorem w_505 : Cond.methodLink "ByteFieldsLaw" 164 ⟨"ByteFieldsLaw", "power", "(LByteFields;IJ[J)I"⟩ ∈ bw_uw := bw_in (i := 505) (by decide +kernel) rfl
theorem w_507 : Cond.codeWith ⟨"ByteFieldsLaw", "power", "(LByteFields;IJ[J)I"⟩ method_5_code 6 (Option.some FieldType.int) [(0, 11, 14, 13), (0, 11, 18, 18)] ∈ bw_uw := bw_in (i := 507) (by decide +kernel) rfl
theorem w_506 : Cond.static ⟨"ByteFieldsLaw", "power", "(LByteFields;IJ[J)I"⟩ ∈ bw_uw := bw_in (i := 506) (by decide +kernel) rfl
theorem w_1275 : Cond.methodLink "ByteFieldsLaw" 167 ⟨"ByteFieldsModel", "power", "(IJ)I"⟩ ∈ bw_uw := bw_in (i := 1275) (by decide +kernel) rfl
theorem w_1278 : Cond.code ⟨"ByteFieldsModel", "power", "(IJ)I"⟩ prog_12_method_18_code 6 (Option.some FieldType.int) ∈ bw_uw := bw_in (i := 1278) (by decide +kernel) rfl
theorem w_1276 : Cond.instanceMethod ⟨"ByteFieldsModel", "power", "(IJ)I"⟩ ∈ bw_uw := bw_in (i := 1276) (by decide +kernel) rfl
theorem w_1277 : Cond.selects "ByteFieldsModel" ⟨"ByteFieldsModel", "power", "(IJ)I"⟩ ⟨"ByteFieldsModel", "power", "(IJ)I"⟩ ∈ bw_uw := bw_in (i := 1277) (by decide +kernel) rfl
theorem w_521 : Cond.methodLink "ByteFieldsLaw" 168 ⟨"ByteFieldsLaw", "log", "(LByteFields;I[J)I"⟩ ∈ bw_uw := bw_in (i := 521) (by decide +kernel) rfl
theorem w_523 : Cond.codeWith ⟨"ByteFieldsLaw", "log", "(LByteFields;I[J)I"⟩ method_6_code 4 (Option.some FieldType.int) [(0, 9, 12, 13), (0, 9, 15, 28)] ∈ bw_uw := bw_in (i := 523) (by decide +kernel) rfl
theorem w_522 : Cond.static ⟨"ByteFieldsLaw", "log", "(LByteFields;I[J)I"⟩ ∈ bw_uw := bw_in (i := 522) (by decide +kernel) rfl
theorem w_1279 : Cond.methodLink "ByteFieldsLaw" 171 ⟨"ByteFieldsModel", "log", "(I)I"⟩ ∈ bw_uw := bw_in (i := 1279) (by decide +kernel) rfl
theorem w_1282 : Cond.code ⟨"ByteFieldsModel", "log", "(I)I"⟩ prog_12_method_19_code 11 (Option.some FieldType.int) ∈ bw_uw := bw_in (i := 1282) (by decide +kernel) rfl
theorem w_1280 : Cond.instanceMethod ⟨"ByteFieldsModel", "log", "(I)I"⟩ ∈ bw_uw := bw_in (i := 1280) (by decide +kernel) rfl
theorem w_1281 : Cond.selects "ByteFieldsModel" ⟨"ByteFieldsModel", "log", "(I)I"⟩ ⟨"ByteFieldsModel", "log", "(I)I"⟩ ∈ bw_uw := bw_in (i := 1281) (by decide +kernel) rfl
theorem w_551 : Cond.methodLink "ByteFieldsLaw" 172 ⟨"ByteFieldsLaw", "order", "(LByteFields;I[J)I"⟩ ∈ bw_uw := bw_in (i := 551) (by decide +kernel) rfl
theorem w_553 : Cond.codeWith ⟨"ByteFieldsLaw", "order", "(LByteFields;I[J)I"⟩ method_7_code 4 (Option.some FieldType.int) [(0, 9, 12, 13)] ∈ bw_uw := bw_in (i := 553) (by decide +kernel) rfl
theorem w_552 : Cond.static ⟨"ByteFieldsLaw", "order", "(LByteFields;I[J)I"⟩ ∈ bw_uw := bw_in (i := 552) (by decide +kernel) rfl
theorem w_1283 : Cond.methodLink "ByteFieldsLaw" 174 ⟨"ByteFieldsModel", "order", "(I)I"⟩ ∈ bw_uw := bw_in (i := 1283) (by decide +kernel) rfl
theorem w_1286 : Cond.code ⟨"ByteFieldsModel", "order", "(I)I"⟩ prog_12_method_20_code 2 (Option.some FieldType.int) ∈ bw_uw := bw_in (i := 1286) (by decide +kernel) rfl
theorem w_1284 : Cond.instanceMethod ⟨"ByteFieldsModel", "order", "(I)I"⟩ ∈ bw_uw := bw_in (i := 1284) (by decide +kernel) rfl
theorem w_1285 : Cond.selects "ByteFieldsModel" ⟨"ByteFieldsModel", "order", "(I)I"⟩ ⟨"ByteFieldsModel", "order", "(I)I"⟩ ∈ bw_uw := bw_in (i := 1285) (by decide +kernel) rfl
theorem w_562 : Cond.methodLink "ByteFieldsLaw" 175 ⟨"ByteFieldsLaw", "put", "(LByteFields;I[J)I"⟩ ∈ bw_uw := bw_in (i := 562) (by decide +kernel) rfl
theorem w_564 : Cond.codeWith ⟨"ByteFieldsLaw", "put", "(LByteFields;I[J)I"⟩ method_8_code 4 (Option.some FieldType.int) [(0, 9, 12, 13), (0, 9, 15, 36)] ∈ bw_uw := bw_in (i := 564) (by decide +kernel) rfl
theorem w_563 : Cond.static ⟨"ByteFieldsLaw", "put", "(LByteFields;I[J)I"⟩ ∈ bw_uw := bw_in (i := 563) (by decide +kernel) rfl
theorem w_1287 : Cond.methodLink "ByteFieldsLaw" 177 ⟨"ByteFieldsModel", "put", "(I)I"⟩ ∈ bw_uw := bw_in (i := 1287) (by decide +kernel) rfl
theorem w_1290 : Cond.code ⟨"ByteFieldsModel", "put", "(I)I"⟩ prog_12_method_21_code 2 (Option.some FieldType.int) ∈ bw_uw := bw_in (i := 1290) (by decide +kernel) rfl
theorem w_1288 : Cond.instanceMethod ⟨"ByteFieldsModel", "put", "(I)I"⟩ ∈ bw_uw := bw_in (i := 1288) (by decide +kernel) rfl
theorem w_1289 : Cond.selects "ByteFieldsModel" ⟨"ByteFieldsModel", "put", "(I)I"⟩ ⟨"ByteFieldsModel", "put", "(I)I"⟩ ∈ bw_uw := bw_in (i := 1289) (by decide +kernel) rfl
theorem w_586 : Cond.methodLink "ByteFieldsLaw" 178 ⟨"ByteFieldsLaw", "row", "(LByteFields;I[J)I"⟩ ∈ bw_uw := bw_in (i := 586) (by decide +kernel) rfl
theorem w_588 : Cond.codeWith ⟨"ByteFieldsLaw", "row", "(LByteFields;I[J)I"⟩ method_9_code 4 (Option.some FieldType.int) [(0, 9, 12, 41)] ∈ bw_uw := bw_in (i := 588) (by decide +kernel) rfl
theorem w_587 : Cond.static ⟨"ByteFieldsLaw", "row", "(LByteFields;I[J)I"⟩ ∈ bw_uw := bw_in (i := 587) (by decide +kernel) rfl
theorem w_1291 : Cond.methodLink "ByteFieldsLaw" 180 ⟨"ByteFieldsModel", "row", "(I)I"⟩ ∈ bw_uw := bw_in (i := 1291) (by decide +kernel) rfl
theorem w_1294 : Cond.code ⟨"ByteFieldsModel", "row", "(I)I"⟩ prog_12_method_22_code 2 (Option.some FieldType.int) ∈ bw_uw := bw_in (i := 1294) (by decide +kernel) rfl
theorem w_1292 : Cond.instanceMethod ⟨"ByteFieldsModel", "row", "(I)I"⟩ ∈ bw_uw := bw_in (i := 1292) (by decide +kernel) rfl
theorem w_1293 : Cond.selects "ByteFieldsModel" ⟨"ByteFieldsModel", "row", "(I)I"⟩ ⟨"ByteFieldsModel", "row", "(I)I"⟩ ∈ bw_uw := bw_in (i := 1293) (by decide +kernel) rfl
theorem w_376 : Cond.methodLink "ByteFieldsLaw" 181 ⟨"ByteFields", "drop", "()I"⟩ ∈ bw_uw := bw_in (i := 376) (by decide +kernel) rfl
theorem w_379 : Cond.code ⟨"ByteFields", "drop", "()I"⟩ prog_1_method_11_code 2 (Option.some FieldType.int) ∈ bw_uw := bw_in (i := 379) (by decide +kernel) rfl
theorem w_377 : Cond.instanceMethod ⟨"ByteFields", "drop", "()I"⟩ ∈ bw_uw := bw_in (i := 377) (by decide +kernel) rfl
theorem w_378 : Cond.selects "ByteFields" ⟨"ByteFields", "drop", "()I"⟩ ⟨"ByteFields", "drop", "()I"⟩ ∈ bw_uw := bw_in (i := 378) (by decide +kernel) rfl
theorem w_1295 : Cond.methodLink "ByteFieldsLaw" 184 ⟨"ByteFieldsModel", "drop", "()I"⟩ ∈ bw_uw := bw_in (i := 1295) (by decide +kernel) rfl
theorem w_1298 : Cond.code ⟨"ByteFieldsModel", "drop", "()I"⟩ prog_12_method_23_code 2 (Option.some FieldType.int) ∈ bw_uw := bw_in (i := 1298) (by decide +kernel) rfl
theorem w_1296 : Cond.instanceMethod ⟨"ByteFieldsModel", "drop", "()I"⟩ ∈ bw_uw := bw_in (i := 1296) (by decide +kernel) rfl
theorem w_1297 : Cond.selects "ByteFieldsModel" ⟨"ByteFieldsModel", "drop", "()I"⟩ ⟨"ByteFieldsModel", "drop", "()I"⟩ ∈ bw_uw := bw_in (i := 1297) (by decide +kernel) rfl
theorem w_607 : Cond.methodLink "ByteFieldsLaw" 185 ⟨"ByteFieldsLaw", "matrix", "(LByteFields;II[J)I"⟩ ∈ bw_uw := bw_in (i := 607) (by decide +kernel) rfl
theorem w_609 : Cond.codeWith ⟨"ByteFieldsLaw", "matrix", "(LByteFields;II[J)I"⟩ method_10_code 5 (Option.some FieldType.int) [(0, 10, 13, 13), (0, 10, 17, 36)] ∈ bw_uw := bw_in (i := 609) (by decide +kernel) rfl
theorem w_608 : Cond.static ⟨"ByteFieldsLaw", "matrix", "(LByteFields;II[J)I"⟩ ∈ bw_uw := bw_in (i := 608) (by decide +kernel) rfl
theorem w_1299 : Cond.methodLink "ByteFieldsLaw" 187 ⟨"ByteFieldsModel", "matrix", "(II)I"⟩ ∈ bw_uw := bw_in (i := 1299) (by decide +kernel) rfl
theorem w_1302 : Cond.code ⟨"ByteFieldsModel", "matrix", "(II)I"⟩ prog_12_method_29_code 3 (Option.some FieldType.int) ∈ bw_uw := bw_in (i := 1302) (by decide +kernel) rfl
theorem w_1300 : Cond.instanceMethod ⟨"ByteFieldsModel", "matrix", "(II)I"⟩ ∈ bw_uw := bw_in (i := 1300) (by decide +kernel) rfl
theorem w_1301 : Cond.selects "ByteFieldsModel" ⟨"ByteFieldsModel", "matrix", "(II)I"⟩ ⟨"ByteFieldsModel", "matrix", "(II)I"⟩ ∈ bw_uw := bw_in (i := 1301) (by decide +kernel) rfl
theorem w_651 : Cond.methodLink "ByteFieldsLaw" 188 ⟨"ByteFieldsLaw", "powers", "(LByteFields;II[J)I"⟩ ∈ bw_uw := bw_in (i := 651) (by decide +kernel) rfl
theorem w_653 : Cond.codeWith ⟨"ByteFieldsLaw", "powers", "(LByteFields;II[J)I"⟩ method_11_code 5 (Option.some FieldType.int) [(0, 10, 13, 13), (0, 10, 17, 49), (0, 10, 21, 36)] ∈ bw_uw := bw_in (i := 653) (by decide +kernel) rfl
theorem w_652 : Cond.static ⟨"ByteFieldsLaw", "powers", "(LByteFields;II[J)I"⟩ ∈ bw_uw := bw_in (i := 652) (by decide +kernel) rfl
theorem w_1310 : Cond.methodLink "ByteFieldsLaw" 190 ⟨"ByteFieldsModel", "powers", "(II)I"⟩ ∈ bw_uw := bw_in (i := 1310) (by decide +kernel) rfl
theorem w_1313 : Cond.code ⟨"ByteFieldsModel", "powers", "(II)I"⟩ prog_12_method_30_code 6 (Option.some FieldType.int) ∈ bw_uw := bw_in (i := 1313) (by decide +kernel) rfl
theorem w_1311 : Cond.instanceMethod ⟨"ByteFieldsModel", "powers", "(II)I"⟩ ∈ bw_uw := bw_in (i := 1311) (by decide +kernel) rfl
theorem w_1312 : Cond.selects "ByteFieldsModel" ⟨"ByteFieldsModel", "powers", "(II)I"⟩ ⟨"ByteFieldsModel", "powers", "(II)I"⟩ ∈ bw_uw := bw_in (i := 1312) (by decide +kernel) rfl
theorem w_679 : Cond.methodLink "ByteFieldsLaw" 191 ⟨"ByteFieldsLaw", "sums", "(LByteFields;II[J)I"⟩ ∈ bw_uw := bw_in (i := 679) (by decide +kernel) rfl
theorem w_681 : Cond.codeWith ⟨"ByteFieldsLaw", "sums", "(LByteFields;II[J)I"⟩ method_12_code 5 (Option.some FieldType.int) [(0, 10, 13, 13), (0, 10, 17, 49), (0, 10, 21, 36)] ∈ bw_uw := bw_in (i := 681) (by decide +kernel) rfl
theorem w_680 : Cond.static ⟨"ByteFieldsLaw", "sums", "(LByteFields;II[J)I"⟩ ∈ bw_uw := bw_in (i := 680) (by decide +kernel) rfl
theorem w_1322 : Cond.methodLink "ByteFieldsLaw" 193 ⟨"ByteFieldsModel", "sums", "(II)I"⟩ ∈ bw_uw := bw_in (i := 1322) (by decide +kernel) rfl
theorem w_1325 : Cond.code ⟨"ByteFieldsModel", "sums", "(II)I"⟩ prog_12_method_31_code 6 (Option.some FieldType.int) ∈ bw_uw := bw_in (i := 1325) (by decide +kernel) rfl
theorem w_1323 : Cond.instanceMethod ⟨"ByteFieldsModel", "sums", "(II)I"⟩ ∈ bw_uw := bw_in (i := 1323) (by decide +kernel) rfl
theorem w_1324 : Cond.selects "ByteFieldsModel" ⟨"ByteFieldsModel", "sums", "(II)I"⟩ ⟨"ByteFieldsModel", "sums", "(II)I"⟩ ∈ bw_uw := bw_in (i := 1324) (by decide +kernel) rfl
theorem w_688 : Cond.methodLink "ByteFieldsLaw" 194 ⟨"ByteFieldsLaw", "size", "(LByteFields;II[J)I"⟩ ∈ bw_uw := bw_in (i := 688) (by decide +kernel) rfl
theorem w_690 : Cond.codeWith ⟨"ByteFieldsLaw", "size", "(LByteFields;II[J)I"⟩ method_13_code 5 (Option.some FieldType.int) [(0, 10, 13, 41), (0, 10, 17, 13)] ∈ bw_uw := bw_in (i := 690) (by decide +kernel) rfl
theorem w_689 : Cond.static ⟨"ByteFieldsLaw", "size", "(LByteFields;II[J)I"⟩ ∈ bw_uw := bw_in (i := 689) (by decide +kernel) rfl
theorem w_1326 : Cond.methodLink "ByteFieldsLaw" 196 ⟨"ByteFieldsModel", "size", "(II)I"⟩ ∈ bw_uw := bw_in (i := 1326) (by decide +kernel) rfl
theorem w_1329 : Cond.code ⟨"ByteFieldsModel", "size", "(II)I"⟩ prog_12_method_32_code 3 (Option.some FieldType.int) ∈ bw_uw := bw_in (i := 1329) (by decide +kernel) rfl
theorem w_1327 : Cond.instanceMethod ⟨"ByteFieldsModel", "size", "(II)I"⟩ ∈ bw_uw := bw_in (i := 1327) (by decide +kernel) rfl
theorem w_1328 : Cond.selects "ByteFieldsModel" ⟨"ByteFieldsModel", "size", "(II)I"⟩ ⟨"ByteFieldsModel", "size", "(II)I"⟩ ∈ bw_uw := bw_in (i := 1328) (by decide +kernel) rfl
theorem w_701 : Cond.methodLink "ByteFieldsLaw" 197 ⟨"ByteFieldsLaw", "cell", "(LByteFields;III[J)I"⟩ ∈ bw_uw := bw_in (i := 701) (by decide +kernel) rfl
theorem w_703 : Cond.codeWith ⟨"ByteFieldsLaw", "cell", "(LByteFields;III[J)I"⟩ method_14_code 6 (Option.some FieldType.int) [(0, 12, 15, 41)] ∈ bw_uw := bw_in (i := 703) (by decide +kernel) rfl
theorem w_702 : Cond.static ⟨"ByteFieldsLaw", "cell", "(LByteFields;III[J)I"⟩ ∈ bw_uw := bw_in (i := 702) (by decide +kernel) rfl
theorem w_1334 : Cond.methodLink "ByteFieldsLaw" 200 ⟨"ByteFieldsModel", "cell", "(III)I"⟩ ∈ bw_uw := bw_in (i := 1334) (by decide +kernel) rfl
theorem w_1337 : Cond.code ⟨"ByteFieldsModel", "cell", "(III)I"⟩ prog_12_method_34_code 4 (Option.some FieldType.int) ∈ bw_uw := bw_in (i := 1337) (by decide +kernel) rfl
theorem w_1335 : Cond.instanceMethod ⟨"ByteFieldsModel", "cell", "(III)I"⟩ ∈ bw_uw := bw_in (i := 1335) (by decide +kernel) rfl
theorem w_1336 : Cond.selects "ByteFieldsModel" ⟨"ByteFieldsModel", "cell", "(III)I"⟩ ⟨"ByteFieldsModel", "cell", "(III)I"⟩ ∈ bw_uw := bw_in (i := 1336) (by decide +kernel) rfl
theorem w_712 : Cond.methodLink "ByteFieldsLaw" 201 ⟨"ByteFieldsLaw", "set", "(LByteFields;IIII[J)I"⟩ ∈ bw_uw := bw_in (i := 712) (by decide +kernel) rfl
theorem w_714 : Cond.codeWith ⟨"ByteFieldsLaw", "set", "(LByteFields;IIII[J)I"⟩ method_15_code 7 (Option.some FieldType.int) [(0, 14, 17, 41), (0, 14, 21, 13)] ∈ bw_uw := bw_in (i := 714) (by decide +kernel) rfl
theorem w_713 : Cond.static ⟨"ByteFieldsLaw", "set", "(LByteFields;IIII[J)I"⟩ ∈ bw_uw := bw_in (i := 713) (by decide +kernel) rfl
theorem w_1342 : Cond.methodLink "ByteFieldsLaw" 204 ⟨"ByteFieldsModel", "set", "(IIII)I"⟩ ∈ bw_uw := bw_in (i := 1342) (by decide +kernel) rfl
theorem w_1345 : Cond.code ⟨"ByteFieldsModel", "set", "(IIII)I"⟩ prog_12_method_35_code 6 (Option.some FieldType.int) ∈ bw_uw := bw_in (i := 1345) (by decide +kernel) rfl
theorem w_1343 : Cond.instanceMethod ⟨"ByteFieldsModel", "set", "(IIII)I"⟩ ∈ bw_uw := bw_in (i := 1343) (by decide +kernel) rfl
theorem w_1344 : Cond.selects "ByteFieldsModel" ⟨"ByteFieldsModel", "set", "(IIII)I"⟩ ⟨"ByteFieldsModel", "set", "(IIII)I"⟩ ∈ bw_uw := bw_in (i := 1344) (by decide +kernel) rfl
theorem w_719 : Cond.methodLink "ByteFieldsLaw" 205 ⟨"ByteFieldsLaw", "times", "(LByteFields;II[J)I"⟩ ∈ bw_uw := bw_in (i := 719) (by decide +kernel) rfl
theorem w_721 : Cond.codeWith ⟨"ByteFieldsLaw", "times", "(LByteFields;II[J)I"⟩ method_16_code 5 (Option.some FieldType.int) [(0, 10, 13, 41), (0, 10, 17, 49), (0, 10, 21, 36)] ∈ bw_uw := bw_in (i := 721) (by decide +kernel) rfl
theorem w_720 : Cond.static ⟨"ByteFieldsLaw", "times", "(LByteFields;II[J)I"⟩ ∈ bw_uw := bw_in (i := 720) (by decide +kernel) rfl
theorem w_1346 : Cond.methodLink "ByteFieldsLaw" 207 ⟨"ByteFieldsModel", "times", "(II)I"⟩ ∈ bw_uw := bw_in (i := 1346) (by decide +kernel) rfl
theorem w_1349 : Cond.code ⟨"ByteFieldsModel", "times", "(II)I"⟩ prog_12_method_36_code 8 (Option.some FieldType.int) ∈ bw_uw := bw_in (i := 1349) (by decide +kernel) rfl
theorem w_1347 : Cond.instanceMethod ⟨"ByteFieldsModel", "times", "(II)I"⟩ ∈ bw_uw := bw_in (i := 1347) (by decide +kernel) rfl
theorem w_1348 : Cond.selects "ByteFieldsModel" ⟨"ByteFieldsModel", "times", "(II)I"⟩ ⟨"ByteFieldsModel", "times", "(II)I"⟩ ∈ bw_uw := bw_in (i := 1348) (by decide +kernel) rfl
theorem w_731 : Cond.methodLink "ByteFieldsLaw" 208 ⟨"ByteFieldsLaw", "invert", "(LByteFields;I[J)I"⟩ ∈ bw_uw := bw_in (i := 731) (by decide +kernel) rfl
theorem w_733 : Cond.codeWith ⟨"ByteFieldsLaw", "invert", "(LByteFields;I[J)I"⟩ method_17_code 4 (Option.some FieldType.int) [(0, 9, 12, 41), (0, 9, 15, 49), (0, 9, 18, 36)] ∈ bw_uw := bw_in (i := 733) (by decide +kernel) rfl
theorem w_732 : Cond.static ⟨"ByteFieldsLaw", "invert", "(LByteFields;I[J)I"⟩ ∈ bw_uw := bw_in (i := 732) (by decide +kernel) rfl
theorem w_1365 : Cond.methodLink "ByteFieldsLaw" 210 ⟨"ByteFieldsModel", "invert", "(I)I"⟩ ∈ bw_uw := bw_in (i := 1365) (by decide +kernel) rfl
theorem w_1368 : Cond.code ⟨"ByteFieldsModel", "invert", "(I)I"⟩ prog_12_method_41_code 8 (Option.some FieldType.int) ∈ bw_uw := bw_in (i := 1368) (by decide +kernel) rfl
theorem w_1366 : Cond.instanceMethod ⟨"ByteFieldsModel", "invert", "(I)I"⟩ ∈ bw_uw := bw_in (i := 1366) (by decide +kernel) rfl
theorem w_1367 : Cond.selects "ByteFieldsModel" ⟨"ByteFieldsModel", "invert", "(I)I"⟩ ⟨"ByteFieldsModel", "invert", "(I)I"⟩ ∈ bw_uw := bw_in (i := 1367) (by decide +kernel) rfl
theorem w_780 : Cond.methodLink "ByteFieldsLaw" 211 ⟨"ByteFieldsLaw", "rank", "(LByteFields;I[J)I"⟩ ∈ bw_uw := bw_in (i := 780) (by decide +kernel) rfl
theorem w_782 : Cond.codeWith ⟨"ByteFieldsLaw", "rank", "(LByteFields;I[J)I"⟩ method_18_code 4 (Option.some FieldType.int) [(0, 9, 12, 41)] ∈ bw_uw := bw_in (i := 782) (by decide +kernel) rfl
theorem w_781 : Cond.static ⟨"ByteFieldsLaw", "rank", "(LByteFields;I[J)I"⟩ ∈ bw_uw := bw_in (i := 781) (by decide +kernel) rfl
theorem w_1369 : Cond.methodLink "ByteFieldsLaw" 213 ⟨"ByteFieldsModel", "rank", "(I)I"⟩ ∈ bw_uw := bw_in (i := 1369) (by decide +kernel) rfl
theorem w_1372 : Cond.code ⟨"ByteFieldsModel", "rank", "(I)I"⟩ prog_12_method_42_code 5 (Option.some FieldType.int) ∈ bw_uw := bw_in (i := 1372) (by decide +kernel) rfl
theorem w_1370 : Cond.instanceMethod ⟨"ByteFieldsModel", "rank", "(I)I"⟩ ∈ bw_uw := bw_in (i := 1370) (by decide +kernel) rfl
theorem w_1371 : Cond.selects "ByteFieldsModel" ⟨"ByteFieldsModel", "rank", "(I)I"⟩ ⟨"ByteFieldsModel", "rank", "(I)I"⟩ ∈ bw_uw := bw_in (i := 1371) (by decide +kernel) rfl
theorem w_787 : Cond.methodLink "ByteFieldsLaw" 214 ⟨"ByteFieldsLaw", "determinant", "(LByteFields;I[J)I"⟩ ∈ bw_uw := bw_in (i := 787) (by decide +kernel) rfl
theorem w_789 : Cond.codeWith ⟨"ByteFieldsLaw", "determinant", "(LByteFields;I[J)I"⟩ method_19_code 4 (Option.some FieldType.int) [(0, 9, 12, 41), (0, 9, 15, 49)] ∈ bw_uw := bw_in (i := 789) (by decide +kernel) rfl
theorem w_788 : Cond.static ⟨"ByteFieldsLaw", "determinant", "(LByteFields;I[J)I"⟩ ∈ bw_uw := bw_in (i := 788) (by decide +kernel) rfl
theorem w_1361 : Cond.methodLink "ByteFieldsLaw" 216 ⟨"ByteFieldsModel", "determinant", "(I)I"⟩ ∈ bw_uw := bw_in (i := 1361) (by decide +kernel) rfl
theorem w_1364 : Cond.code ⟨"ByteFieldsModel", "determinant", "(I)I"⟩ prog_12_method_40_code 3 (Option.some FieldType.int) ∈ bw_uw := bw_in (i := 1364) (by decide +kernel) rfl
theorem w_1362 : Cond.instanceMethod ⟨"ByteFieldsModel", "determinant", "(I)I"⟩ ∈ bw_uw := bw_in (i := 1362) (by decide +kernel) rfl
theorem w_1363 : Cond.selects "ByteFieldsModel" ⟨"ByteFieldsModel", "determinant", "(I)I"⟩ ⟨"ByteFieldsModel", "determinant", "(I)I"⟩ ∈ bw_uw := bw_in (i := 1363) (by decide +kernel) rfl
theorem w_794 : Cond.methodLink "ByteFieldsLaw" 217 ⟨"ByteFieldsLaw", "singular", "(LByteFields;I[J)I"⟩ ∈ bw_uw := bw_in (i := 794) (by decide +kernel) rfl
theorem w_796 : Cond.codeWith ⟨"ByteFieldsLaw", "singular", "(LByteFields;I[J)I"⟩ method_20_code 4 (Option.some FieldType.int) [(0, 9, 12, 41)] ∈ bw_uw := bw_in (i := 796) (by decide +kernel) rfl
theorem w_795 : Cond.static ⟨"ByteFieldsLaw", "singular", "(LByteFields;I[J)I"⟩ ∈ bw_uw := bw_in (i := 795) (by decide +kernel) rfl
theorem w_1350 : Cond.methodLink "ByteFieldsLaw" 219 ⟨"ByteFieldsModel", "singular", "(I)I"⟩ ∈ bw_uw := bw_in (i := 1350) (by decide +kernel) rfl
theorem w_1353 : Cond.code ⟨"ByteFieldsModel", "singular", "(I)I"⟩ prog_12_method_39_code 5 (Option.some FieldType.int) ∈ bw_uw := bw_in (i := 1353) (by decide +kernel) rfl
theorem w_1351 : Cond.instanceMethod ⟨"ByteFieldsModel", "singular", "(I)I"⟩ ∈ bw_uw := bw_in (i := 1351) (by decide +kernel) rfl
theorem w_1352 : Cond.selects "ByteFieldsModel" ⟨"ByteFieldsModel", "singular", "(I)I"⟩ ⟨"ByteFieldsModel", "singular", "(I)I"⟩ ∈ bw_uw := bw_in (i := 1352) (by decide +kernel) rfl
theorem w_823 : Cond.methodLink "ByteFieldsLaw" 220 ⟨"ByteFieldsLaw", "solve", "(LByteFields;I[J)I"⟩ ∈ bw_uw := bw_in (i := 823) (by decide +kernel) rfl
theorem w_825 : Cond.codeWith ⟨"ByteFieldsLaw", "solve", "(LByteFields;I[J)I"⟩ method_21_code 4 (Option.some FieldType.int) [(0, 9, 12, 41), (0, 9, 15, 49)] ∈ bw_uw := bw_in (i := 825) (by decide +kernel) rfl
theorem w_824 : Cond.static ⟨"ByteFieldsLaw", "solve", "(LByteFields;I[J)I"⟩ ∈ bw_uw := bw_in (i := 824) (by decide +kernel) rfl
theorem w_1373 : Cond.methodLink "ByteFieldsLaw" 222 ⟨"ByteFieldsModel", "solve", "(I)I"⟩ ∈ bw_uw := bw_in (i := 1373) (by decide +kernel) rfl
theorem w_1376 : Cond.code ⟨"ByteFieldsModel", "solve", "(I)I"⟩ prog_12_method_43_code 11 (Option.some FieldType.int) ∈ bw_uw := bw_in (i := 1376) (by decide +kernel) rfl
theorem w_1374 : Cond.instanceMethod ⟨"ByteFieldsModel", "solve", "(I)I"⟩ ∈ bw_uw := bw_in (i := 1374) (by decide +kernel) rfl
theorem w_1375 : Cond.selects "ByteFieldsModel" ⟨"ByteFieldsModel", "solve", "(I)I"⟩ ⟨"ByteFieldsModel", "solve", "(I)I"⟩ ∈ bw_uw := bw_in (i := 1375) (by decide +kernel) rfl
theorem w_843 : Cond.methodLink "ByteFieldsLaw" 223 ⟨"ByteFieldsLaw", "polynomial", "(LByteFields;[J)I"⟩ ∈ bw_uw := bw_in (i := 843) (by decide +kernel) rfl
theorem w_845 : Cond.codeWith ⟨"ByteFieldsLaw", "polynomial", "(LByteFields;[J)I"⟩ method_22_code 3 (Option.some FieldType.int) [(0, 8, 11, 36)] ∈ bw_uw := bw_in (i := 845) (by decide +kernel) rfl
theorem w_844 : Cond.static ⟨"ByteFieldsLaw", "polynomial", "(LByteFields;[J)I"⟩ ∈ bw_uw := bw_in (i := 844) (by decide +kernel) rfl
theorem w_1377 : Cond.methodLink "ByteFieldsLaw" 226 ⟨"ByteFieldsModel", "polynomial", "()I"⟩ ∈ bw_uw := bw_in (i := 1377) (by decide +kernel) rfl
theorem w_1380 : Cond.code ⟨"ByteFieldsModel", "polynomial", "()I"⟩ prog_12_method_51_code 2 (Option.some FieldType.int) ∈ bw_uw := bw_in (i := 1380) (by decide +kernel) rfl
theorem w_1378 : Cond.instanceMethod ⟨"ByteFieldsModel", "polynomial", "()I"⟩ ∈ bw_uw := bw_in (i := 1378) (by decide +kernel) rfl
theorem w_1379 : Cond.selects "ByteFieldsModel" ⟨"ByteFieldsModel", "polynomial", "()I"⟩ ⟨"ByteFieldsModel", "polynomial", "()I"⟩ ∈ bw_uw := bw_in (i := 1379) (by decide +kernel) rfl
theorem w_878 : Cond.methodLink "ByteFieldsLaw" 227 ⟨"ByteFieldsLaw", "through", "(LByteFields;[J)I"⟩ ∈ bw_uw := bw_in (i := 878) (by decide +kernel) rfl
theorem w_880 : Cond.codeWith ⟨"ByteFieldsLaw", "through", "(LByteFields;[J)I"⟩ method_23_code 3 (Option.some FieldType.int) [(0, 8, 11, 49), (0, 8, 14, 36)] ∈ bw_uw := bw_in (i := 880) (by decide +kernel) rfl
theorem w_879 : Cond.static ⟨"ByteFieldsLaw", "through", "(LByteFields;[J)I"⟩ ∈ bw_uw := bw_in (i := 879) (by decide +kernel) rfl
theorem w_1391 : Cond.methodLink "ByteFieldsLaw" 229 ⟨"ByteFieldsModel", "through", "()I"⟩ ∈ bw_uw := bw_in (i := 1391) (by decide +kernel) rfl
theorem w_1394 : Cond.code ⟨"ByteFieldsModel", "through", "()I"⟩ prog_12_method_54_code 2 (Option.some FieldType.int) ∈ bw_uw := bw_in (i := 1394) (by decide +kernel) rfl
theorem w_1392 : Cond.instanceMethod ⟨"ByteFieldsModel", "through", "()I"⟩ ∈ bw_uw := bw_in (i := 1392) (by decide +kernel) rfl
theorem w_1393 : Cond.selects "ByteFieldsModel" ⟨"ByteFieldsModel", "through", "()I"⟩ ⟨"ByteFieldsModel", "through", "()I"⟩ ∈ bw_uw := bw_in (i := 1393) (by decide +kernel) rfl
theorem w_902 : Cond.methodLink "ByteFieldsLaw" 230 ⟨"ByteFieldsLaw", "degree", "(LByteFields;I[J)I"⟩ ∈ bw_uw := bw_in (i := 902) (by decide +kernel) rfl
theorem w_904 : Cond.codeWith ⟨"ByteFieldsLaw", "degree", "(LByteFields;I[J)I"⟩ method_24_code 4 (Option.some FieldType.int) [(0, 9, 12, 41)] ∈ bw_uw := bw_in (i := 904) (by decide +kernel) rfl
theorem w_903 : Cond.static ⟨"ByteFieldsLaw", "degree", "(LByteFields;I[J)I"⟩ ∈ bw_uw := bw_in (i := 903) (by decide +kernel) rfl
theorem w_1407 : Cond.methodLink "ByteFieldsLaw" 232 ⟨"ByteFieldsModel", "degree", "(I)I"⟩ ∈ bw_uw := bw_in (i := 1407) (by decide +kernel) rfl
theorem w_1410 : Cond.code ⟨"ByteFieldsModel", "degree", "(I)I"⟩ prog_12_method_55_code 2 (Option.some FieldType.int) ∈ bw_uw := bw_in (i := 1410) (by decide +kernel) rfl
theorem w_1408 : Cond.instanceMethod ⟨"ByteFieldsModel", "degree", "(I)I"⟩ ∈ bw_uw := bw_in (i := 1408) (by decide +kernel) rfl
theorem w_1409 : Cond.selects "ByteFieldsModel" ⟨"ByteFieldsModel", "degree", "(I)I"⟩ ⟨"ByteFieldsModel", "degree", "(I)I"⟩ ∈ bw_uw := bw_in (i := 1409) (by decide +kernel) rfl
theorem w_914 : Cond.methodLink "ByteFieldsLaw" 233 ⟨"ByteFieldsLaw", "coefficient", "(LByteFields;II[J)I"⟩ ∈ bw_uw := bw_in (i := 914) (by decide +kernel) rfl
theorem w_916 : Cond.codeWith ⟨"ByteFieldsLaw", "coefficient", "(LByteFields;II[J)I"⟩ method_25_code 5 (Option.some FieldType.int) [(0, 10, 13, 41)] ∈ bw_uw := bw_in (i := 916) (by decide +kernel) rfl
theorem w_915 : Cond.static ⟨"ByteFieldsLaw", "coefficient", "(LByteFields;II[J)I"⟩ ∈ bw_uw := bw_in (i := 915) (by decide +kernel) rfl
theorem w_1415 : Cond.methodLink "ByteFieldsLaw" 235 ⟨"ByteFieldsModel", "coefficient", "(II)I"⟩ ∈ bw_uw := bw_in (i := 1415) (by decide +kernel) rfl
theorem w_1418 : Cond.code ⟨"ByteFieldsModel", "coefficient", "(II)I"⟩ prog_12_method_56_code 3 (Option.some FieldType.int) ∈ bw_uw := bw_in (i := 1418) (by decide +kernel) rfl
theorem w_1416 : Cond.instanceMethod ⟨"ByteFieldsModel", "coefficient", "(II)I"⟩ ∈ bw_uw := bw_in (i := 1416) (by decide +kernel) rfl
theorem w_1417 : Cond.selects "ByteFieldsModel" ⟨"ByteFieldsModel", "coefficient", "(II)I"⟩ ⟨"ByteFieldsModel", "coefficient", "(II)I"⟩ ∈ bw_uw := bw_in (i := 1417) (by decide +kernel) rfl
theorem w_922 : Cond.methodLink "ByteFieldsLaw" 236 ⟨"ByteFieldsLaw", "value", "(LByteFields;II[J)I"⟩ ∈ bw_uw := bw_in (i := 922) (by decide +kernel) rfl
theorem w_924 : Cond.codeWith ⟨"ByteFieldsLaw", "value", "(LByteFields;II[J)I"⟩ method_26_code 5 (Option.some FieldType.int) [(0, 10, 13, 41), (0, 10, 17, 13)] ∈ bw_uw := bw_in (i := 924) (by decide +kernel) rfl
theorem w_923 : Cond.static ⟨"ByteFieldsLaw", "value", "(LByteFields;II[J)I"⟩ ∈ bw_uw := bw_in (i := 923) (by decide +kernel) rfl
theorem w_1419 : Cond.methodLink "ByteFieldsLaw" 238 ⟨"ByteFieldsModel", "value", "(II)I"⟩ ∈ bw_uw := bw_in (i := 1419) (by decide +kernel) rfl
theorem w_1422 : Cond.code ⟨"ByteFieldsModel", "value", "(II)I"⟩ prog_12_method_57_code 3 (Option.some FieldType.int) ∈ bw_uw := bw_in (i := 1422) (by decide +kernel) rfl
theorem w_1420 : Cond.instanceMethod ⟨"ByteFieldsModel", "value", "(II)I"⟩ ∈ bw_uw := bw_in (i := 1420) (by decide +kernel) rfl
theorem w_1421 : Cond.selects "ByteFieldsModel" ⟨"ByteFieldsModel", "value", "(II)I"⟩ ⟨"ByteFieldsModel", "value", "(II)I"⟩ ∈ bw_uw := bw_in (i := 1421) (by decide +kernel) rfl
theorem w_933 : Cond.methodLink "ByteFieldsLaw" 239 ⟨"ByteFieldsLaw", "plus", "(LByteFields;II[J)I"⟩ ∈ bw_uw := bw_in (i := 933) (by decide +kernel) rfl
theorem w_935 : Cond.codeWith ⟨"ByteFieldsLaw", "plus", "(LByteFields;II[J)I"⟩ method_27_code 5 (Option.some FieldType.int) [(0, 10, 13, 41), (0, 10, 17, 36)] ∈ bw_uw := bw_in (i := 935) (by decide +kernel) rfl
theorem w_934 : Cond.static ⟨"ByteFieldsLaw", "plus", "(LByteFields;II[J)I"⟩ ∈ bw_uw := bw_in (i := 934) (by decide +kernel) rfl
theorem w_1427 : Cond.methodLink "ByteFieldsLaw" 241 ⟨"ByteFieldsModel", "plus", "(II)I"⟩ ∈ bw_uw := bw_in (i := 1427) (by decide +kernel) rfl
theorem w_1430 : Cond.code ⟨"ByteFieldsModel", "plus", "(II)I"⟩ prog_12_method_58_code 4 (Option.some FieldType.int) ∈ bw_uw := bw_in (i := 1430) (by decide +kernel) rfl
theorem w_1428 : Cond.instanceMethod ⟨"ByteFieldsModel", "plus", "(II)I"⟩ ∈ bw_uw := bw_in (i := 1428) (by decide +kernel) rfl
theorem w_1429 : Cond.selects "ByteFieldsModel" ⟨"ByteFieldsModel", "plus", "(II)I"⟩ ⟨"ByteFieldsModel", "plus", "(II)I"⟩ ∈ bw_uw := bw_in (i := 1429) (by decide +kernel) rfl
theorem w_948 : Cond.methodLink "ByteFieldsLaw" 242 ⟨"ByteFieldsLaw", "multiply", "(LByteFields;II[J)I"⟩ ∈ bw_uw := bw_in (i := 948) (by decide +kernel) rfl
theorem w_950 : Cond.codeWith ⟨"ByteFieldsLaw", "multiply", "(LByteFields;II[J)I"⟩ method_28_code 5 (Option.some FieldType.int) [(0, 10, 13, 41), (0, 10, 17, 36)] ∈ bw_uw := bw_in (i := 950) (by decide +kernel) rfl
theorem w_949 : Cond.static ⟨"ByteFieldsLaw", "multiply", "(LByteFields;II[J)I"⟩ ∈ bw_uw := bw_in (i := 949) (by decide +kernel) rfl
theorem w_1431 : Cond.methodLink "ByteFieldsLaw" 244 ⟨"ByteFieldsModel", "multiply", "(II)I"⟩ ∈ bw_uw := bw_in (i := 1431) (by decide +kernel) rfl
theorem w_1434 : Cond.code ⟨"ByteFieldsModel", "multiply", "(II)I"⟩ prog_12_method_59_code 5 (Option.some FieldType.int) ∈ bw_uw := bw_in (i := 1434) (by decide +kernel) rfl
theorem w_1432 : Cond.instanceMethod ⟨"ByteFieldsModel", "multiply", "(II)I"⟩ ∈ bw_uw := bw_in (i := 1432) (by decide +kernel) rfl
theorem w_1433 : Cond.selects "ByteFieldsModel" ⟨"ByteFieldsModel", "multiply", "(II)I"⟩ ⟨"ByteFieldsModel", "multiply", "(II)I"⟩ ∈ bw_uw := bw_in (i := 1433) (by decide +kernel) rfl
theorem w_957 : Cond.methodLink "ByteFieldsLaw" 245 ⟨"ByteFieldsLaw", "divide", "(LByteFields;IIZ[J)I"⟩ ∈ bw_uw := bw_in (i := 957) (by decide +kernel) rfl
theorem w_959 : Cond.codeWith ⟨"ByteFieldsLaw", "divide", "(LByteFields;IIZ[J)I"⟩ method_29_code 6 (Option.some FieldType.int) [(0, 12, 15, 41), (0, 12, 19, 18), (0, 12, 23, 36)] ∈ bw_uw := bw_in (i := 959) (by decide +kernel) rfl
theorem w_958 : Cond.static ⟨"ByteFieldsLaw", "divide", "(LByteFields;IIZ[J)I"⟩ ∈ bw_uw := bw_in (i := 958) (by decide +kernel) rfl
theorem w_1435 : Cond.methodLink "ByteFieldsLaw" 248 ⟨"ByteFieldsModel", "divide", "(IIZ)I"⟩ ∈ bw_uw := bw_in (i := 1435) (by decide +kernel) rfl
theorem w_1438 : Cond.code ⟨"ByteFieldsModel", "divide", "(IIZ)I"⟩ prog_12_method_61_code 4 (Option.some FieldType.int) ∈ bw_uw := bw_in (i := 1438) (by decide +kernel) rfl
theorem w_1436 : Cond.instanceMethod ⟨"ByteFieldsModel", "divide", "(IIZ)I"⟩ ∈ bw_uw := bw_in (i := 1436) (by decide +kernel) rfl
theorem w_1437 : Cond.selects "ByteFieldsModel" ⟨"ByteFieldsModel", "divide", "(IIZ)I"⟩ ⟨"ByteFieldsModel", "divide", "(IIZ)I"⟩ ∈ bw_uw := bw_in (i := 1437) (by decide +kernel) rfl
theorem w_986 : Cond.methodLink "ByteFieldsLaw" 249 ⟨"ByteFieldsLaw", "common", "(LByteFields;II[J)I"⟩ ∈ bw_uw := bw_in (i := 986) (by decide +kernel) rfl
theorem w_988 : Cond.codeWith ⟨"ByteFieldsLaw", "common", "(LByteFields;II[J)I"⟩ method_30_code 5 (Option.some FieldType.int) [(0, 10, 13, 41), (0, 10, 17, 36)] ∈ bw_uw := bw_in (i := 988) (by decide +kernel) rfl
theorem w_987 : Cond.static ⟨"ByteFieldsLaw", "common", "(LByteFields;II[J)I"⟩ ∈ bw_uw := bw_in (i := 987) (by decide +kernel) rfl
theorem w_1443 : Cond.methodLink "ByteFieldsLaw" 251 ⟨"ByteFieldsModel", "common", "(II)I"⟩ ∈ bw_uw := bw_in (i := 1443) (by decide +kernel) rfl
theorem w_1446 : Cond.code ⟨"ByteFieldsModel", "common", "(II)I"⟩ prog_12_method_63_code 3 (Option.some FieldType.int) ∈ bw_uw := bw_in (i := 1446) (by decide +kernel) rfl
theorem w_1444 : Cond.instanceMethod ⟨"ByteFieldsModel", "common", "(II)I"⟩ ∈ bw_uw := bw_in (i := 1444) (by decide +kernel) rfl
theorem w_1445 : Cond.selects "ByteFieldsModel" ⟨"ByteFieldsModel", "common", "(II)I"⟩ ⟨"ByteFieldsModel", "common", "(II)I"⟩ ∈ bw_uw := bw_in (i := 1445) (by decide +kernel) rfl
theorem w_1000 : Cond.methodLink "ByteFieldsLaw" 252 ⟨"ByteFieldsLaw", "root", "(LByteFields;II[J)I"⟩ ∈ bw_uw := bw_in (i := 1000) (by decide +kernel) rfl
theorem w_1002 : Cond.codeWith ⟨"ByteFieldsLaw", "root", "(LByteFields;II[J)I"⟩ method_31_code 5 (Option.some FieldType.int) [(0, 10, 13, 41)] ∈ bw_uw := bw_in (i := 1002) (by decide +kernel) rfl
theorem w_1001 : Cond.static ⟨"ByteFieldsLaw", "root", "(LByteFields;II[J)I"⟩ ∈ bw_uw := bw_in (i := 1001) (by decide +kernel) rfl
theorem w_1454 : Cond.methodLink "ByteFieldsLaw" 254 ⟨"ByteFieldsModel", "root", "(II)I"⟩ ∈ bw_uw := bw_in (i := 1454) (by decide +kernel) rfl
theorem w_1457 : Cond.code ⟨"ByteFieldsModel", "root", "(II)I"⟩ prog_12_method_64_code 4 (Option.some FieldType.int) ∈ bw_uw := bw_in (i := 1457) (by decide +kernel) rfl
theorem w_1455 : Cond.instanceMethod ⟨"ByteFieldsModel", "root", "(II)I"⟩ ∈ bw_uw := bw_in (i := 1455) (by decide +kernel) rfl
theorem w_1456 : Cond.selects "ByteFieldsModel" ⟨"ByteFieldsModel", "root", "(II)I"⟩ ⟨"ByteFieldsModel", "root", "(II)I"⟩ ∈ bw_uw := bw_in (i := 1456) (by decide +kernel) rfl
theorem w_1038 : Cond.methodLink "ByteFieldsLaw" 255 ⟨"ByteFieldsLaw", "often", "(LByteFields;II[J)I"⟩ ∈ bw_uw := bw_in (i := 1038) (by decide +kernel) rfl
theorem w_1040 : Cond.codeWith ⟨"ByteFieldsLaw", "often", "(LByteFields;II[J)I"⟩ method_32_code 5 (Option.some FieldType.int) [(0, 10, 13, 41), (0, 10, 17, 13)] ∈ bw_uw := bw_in (i := 1040) (by decide +kernel) rfl
theorem w_1039 : Cond.static ⟨"ByteFieldsLaw", "often", "(LByteFields;II[J)I"⟩ ∈ bw_uw := bw_in (i := 1039) (by decide +kernel) rfl
theorem w_1458 : Cond.methodLink "ByteFieldsLaw" 257 ⟨"ByteFieldsModel", "often", "(II)I"⟩ ∈ bw_uw := bw_in (i := 1458) (by decide +kernel) rfl
theorem w_1461 : Cond.code ⟨"ByteFieldsModel", "often", "(II)I"⟩ prog_12_method_65_code 4 (Option.some FieldType.int) ∈ bw_uw := bw_in (i := 1461) (by decide +kernel) rfl
theorem w_1459 : Cond.instanceMethod ⟨"ByteFieldsModel", "often", "(II)I"⟩ ∈ bw_uw := bw_in (i := 1459) (by decide +kernel) rfl
theorem w_1460 : Cond.selects "ByteFieldsModel" ⟨"ByteFieldsModel", "often", "(II)I"⟩ ⟨"ByteFieldsModel", "often", "(II)I"⟩ ∈ bw_uw := bw_in (i := 1460) (by decide +kernel) rfl
theorem w_1049 : Cond.methodLink "ByteFieldsLaw" 258 ⟨"ByteFieldsLaw", "parts", "(LByteFields;II[J)I"⟩ ∈ bw_uw := bw_in (i := 1049) (by decide +kernel) rfl
theorem w_1051 : Cond.codeWith ⟨"ByteFieldsLaw", "parts", "(LByteFields;II[J)I"⟩ method_33_code 5 (Option.some FieldType.int) [(0, 10, 13, 41), (0, 10, 17, 13)] ∈ bw_uw := bw_in (i := 1051) (by decide +kernel) rfl
theorem w_1050 : Cond.static ⟨"ByteFieldsLaw", "parts", "(LByteFields;II[J)I"⟩ ∈ bw_uw := bw_in (i := 1050) (by decide +kernel) rfl
theorem w_1462 : Cond.methodLink "ByteFieldsLaw" 260 ⟨"ByteFieldsModel", "parts", "(II)I"⟩ ∈ bw_uw := bw_in (i := 1462) (by decide +kernel) rfl
theorem w_1465 : Cond.code ⟨"ByteFieldsModel", "parts", "(II)I"⟩ prog_12_method_68_code 3 (Option.some FieldType.int) ∈ bw_uw := bw_in (i := 1465) (by decide +kernel) rfl
theorem w_1463 : Cond.instanceMethod ⟨"ByteFieldsModel", "parts", "(II)I"⟩ ∈ bw_uw := bw_in (i := 1463) (by decide +kernel) rfl
theorem w_1464 : Cond.selects "ByteFieldsModel" ⟨"ByteFieldsModel", "parts", "(II)I"⟩ ⟨"ByteFieldsModel", "parts", "(II)I"⟩ ∈ bw_uw := bw_in (i := 1464) (by decide +kernel) rfl
theorem w_1072 : Cond.methodLink "ByteFieldsLaw" 261 ⟨"ByteFieldsLaw", "span", "(LByteFields;[J)I"⟩ ∈ bw_uw := bw_in (i := 1072) (by decide +kernel) rfl
theorem w_1074 : Cond.codeWith ⟨"ByteFieldsLaw", "span", "(LByteFields;[J)I"⟩ method_34_code 3 (Option.some FieldType.int) [(0, 8, 11, 49)] ∈ bw_uw := bw_in (i := 1074) (by decide +kernel) rfl
theorem w_1073 : Cond.static ⟨"ByteFieldsLaw", "span", "(LByteFields;[J)I"⟩ ∈ bw_uw := bw_in (i := 1073) (by decide +kernel) rfl
theorem w_1474 : Cond.methodLink "ByteFieldsLaw" 263 ⟨"ByteFieldsModel", "span", "()I"⟩ ∈ bw_uw := bw_in (i := 1474) (by decide +kernel) rfl
theorem w_1477 : Cond.code ⟨"ByteFieldsModel", "span", "()I"⟩ prog_12_method_69_code 5 (Option.some FieldType.int) ∈ bw_uw := bw_in (i := 1477) (by decide +kernel) rfl
theorem w_1475 : Cond.instanceMethod ⟨"ByteFieldsModel", "span", "()I"⟩ ∈ bw_uw := bw_in (i := 1475) (by decide +kernel) rfl
theorem w_1476 : Cond.selects "ByteFieldsModel" ⟨"ByteFieldsModel", "span", "()I"⟩ ⟨"ByteFieldsModel", "span", "()I"⟩ ∈ bw_uw := bw_in (i := 1476) (by decide +kernel) rfl
theorem w_1088 : Cond.methodLink "ByteFieldsLaw" 264 ⟨"ByteFieldsLaw", "forth", "(LByteFields;I[J)I"⟩ ∈ bw_uw := bw_in (i := 1088) (by decide +kernel) rfl
theorem w_1090 : Cond.codeWith ⟨"ByteFieldsLaw", "forth", "(LByteFields;I[J)I"⟩ method_35_code 4 (Option.some FieldType.int) [(0, 9, 12, 41), (0, 9, 15, 49)] ∈ bw_uw := bw_in (i := 1090) (by decide +kernel) rfl
theorem w_1089 : Cond.static ⟨"ByteFieldsLaw", "forth", "(LByteFields;I[J)I"⟩ ∈ bw_uw := bw_in (i := 1089) (by decide +kernel) rfl
theorem w_1478 : Cond.methodLink "ByteFieldsLaw" 266 ⟨"ByteFieldsModel", "forth", "(I)I"⟩ ∈ bw_uw := bw_in (i := 1478) (by decide +kernel) rfl
theorem w_1481 : Cond.code ⟨"ByteFieldsModel", "forth", "(I)I"⟩ prog_12_method_70_code 3 (Option.some FieldType.int) ∈ bw_uw := bw_in (i := 1481) (by decide +kernel) rfl
theorem w_1479 : Cond.instanceMethod ⟨"ByteFieldsModel", "forth", "(I)I"⟩ ∈ bw_uw := bw_in (i := 1479) (by decide +kernel) rfl
theorem w_1480 : Cond.selects "ByteFieldsModel" ⟨"ByteFieldsModel", "forth", "(I)I"⟩ ⟨"ByteFieldsModel", "forth", "(I)I"⟩ ∈ bw_uw := bw_in (i := 1480) (by decide +kernel) rfl
theorem w_1100 : Cond.methodLink "ByteFieldsLaw" 267 ⟨"ByteFieldsLaw", "back", "(LByteFields;[J)I"⟩ ∈ bw_uw := bw_in (i := 1100) (by decide +kernel) rfl
theorem w_1102 : Cond.codeWith ⟨"ByteFieldsLaw", "back", "(LByteFields;[J)I"⟩ method_36_code 3 (Option.some FieldType.int) [(0, 8, 11, 49), (0, 8, 14, 36)] ∈ bw_uw := bw_in (i := 1102) (by decide +kernel) rfl
theorem w_1101 : Cond.static ⟨"ByteFieldsLaw", "back", "(LByteFields;[J)I"⟩ ∈ bw_uw := bw_in (i := 1101) (by decide +kernel) rfl
theorem w_1482 : Cond.methodLink "ByteFieldsLaw" 269 ⟨"ByteFieldsModel", "back", "()I"⟩ ∈ bw_uw := bw_in (i := 1482) (by decide +kernel) rfl
theorem w_1485 : Cond.code ⟨"ByteFieldsModel", "back", "()I"⟩ prog_12_method_71_code 2 (Option.some FieldType.int) ∈ bw_uw := bw_in (i := 1485) (by decide +kernel) rfl
theorem w_1483 : Cond.instanceMethod ⟨"ByteFieldsModel", "back", "()I"⟩ ∈ bw_uw := bw_in (i := 1483) (by decide +kernel) rfl
theorem w_1484 : Cond.selects "ByteFieldsModel" ⟨"ByteFieldsModel", "back", "()I"⟩ ⟨"ByteFieldsModel", "back", "()I"⟩ ∈ bw_uw := bw_in (i := 1484) (by decide +kernel) rfl
theorem w_1108 : Cond.methodLink "ByteFieldsLaw" 270 ⟨"ByteFieldsLaw", "told", "(LByteFields;I[J)I"⟩ ∈ bw_uw := bw_in (i := 1108) (by decide +kernel) rfl
theorem w_1110 : Cond.codeWith ⟨"ByteFieldsLaw", "told", "(LByteFields;I[J)I"⟩ method_37_code 4 (Option.some FieldType.int) [(0, 9, 12, 13)] ∈ bw_uw := bw_in (i := 1110) (by decide +kernel) rfl
theorem w_1109 : Cond.static ⟨"ByteFieldsLaw", "told", "(LByteFields;I[J)I"⟩ ∈ bw_uw := bw_in (i := 1109) (by decide +kernel) rfl
theorem w_1486 : Cond.methodLink "ByteFieldsLaw" 272 ⟨"ByteFieldsModel", "told", "(I)I"⟩ ∈ bw_uw := bw_in (i := 1486) (by decide +kernel) rfl
theorem w_1489 : Cond.code ⟨"ByteFieldsModel", "told", "(I)I"⟩ prog_12_method_72_code 2 (Option.some FieldType.int) ∈ bw_uw := bw_in (i := 1489) (by decide +kernel) rfl
theorem w_1487 : Cond.instanceMethod ⟨"ByteFieldsModel", "told", "(I)I"⟩ ∈ bw_uw := bw_in (i := 1487) (by decide +kernel) rfl
theorem w_1488 : Cond.selects "ByteFieldsModel" ⟨"ByteFieldsModel", "told", "(I)I"⟩ ⟨"ByteFieldsModel", "told", "(I)I"⟩ ∈ bw_uw := bw_in (i := 1488) (by decide +kernel) rfl
theorem w_229 : Cond.methodLink "ByteFields$Division" 3 ⟨"java/lang/Object", "<init>", "()V"⟩ ∈ bw_uw := bw_in (i := 229) (by decide +kernel) rfl
theorem w_184 : Cond.methodLink "ByteFields$Elimination" 3 ⟨"java/lang/Object", "<init>", "()V"⟩ ∈ bw_uw := bw_in (i := 184) (by decide +kernel) rfl
theorem w_746 : Cond.methodLink "ByteFields$Elimination" 41 ⟨"java/lang/System", "arraycopy", "(Ljava/lang/Object;ILjava/lang/Object;II)V"⟩ ∈ bw_uw := bw_in (i := 746) (by decide +kernel) rfl
theorem w_294 : Cond.methodLink "ByteFields$Factors" 3 ⟨"java/lang/Object", "<init>", "()V"⟩ ∈ bw_uw := bw_in (i := 294) (by decide +kernel) rfl
theorem w_120 : Cond.methodLink "ByteFields$Field" 1 ⟨"java/lang/Object", "<init>", "()V"⟩ ∈ bw_uw := bw_in (i := 120) (by decide +kernel) rfl
theorem w_239 : Cond.methodLink "ByteFields$Interpolation" 3 ⟨"java/lang/Object", "<init>", "()V"⟩ ∈ bw_uw := bw_in (i := 239) (by decide +kernel) rfl
theorem w_627 : Cond.methodLink "ByteFields$Matrix" 1 ⟨"java/lang/Object", "<init>", "()V"⟩ ∈ bw_uw := bw_in (i := 627) (by decide +kernel) rfl
theorem w_215 : Cond.methodLink "ByteFields$Minors" 3 ⟨"java/lang/Object", "<init>", "()V"⟩ ∈ bw_uw := bw_in (i := 215) (by decide +kernel) rfl
theorem w_90 : Cond.methodLink "ByteFields$Polynomial" 3 ⟨"java/lang/Object", "<init>", "()V"⟩ ∈ bw_uw := bw_in (i := 90) (by decide +kernel) rfl
theorem w_864 : Cond.methodLink "ByteFields$Polynomial" 25 ⟨"java/lang/System", "arraycopy", "(Ljava/lang/Object;ILjava/lang/Object;II)V"⟩ ∈ bw_uw := bw_in (i := 864) (by decide +kernel) rfl
theorem w_255 : Cond.methodLink "ByteFields$Roots" 3 ⟨"java/lang/Object", "<init>", "()V"⟩ ∈ bw_uw := bw_in (i := 255) (by decide +kernel) rfl
theorem w_82 : Cond.methodLink "ByteFields" 3 ⟨"java/lang/Object", "<init>", "()V"⟩ ∈ bw_uw := bw_in (i := 82) (by decide +kernel) rfl
theorem w_1125 : Cond.methodLink "ByteFieldsModel" 7 ⟨"java/lang/Object", "<init>", "()V"⟩ ∈ bw_uw := bw_in (i := 1125) (by decide +kernel) rfl
theorem w_83 : Cond.instanceMethod ⟨"java/lang/Object", "<init>", "()V"⟩ ∈ bw_uw := bw_in (i := 83) (by decide +kernel) rfl
theorem w_84 : Cond.code ⟨"java/lang/Object", "<init>", "()V"⟩ object_method_1_code 1 (Option.none : Option FieldType) ∈ bw_uw := bw_in (i := 84) (by decide +kernel) rfl
theorem w_748 : Cond.native ⟨"java/lang/System", "arraycopy", "(Ljava/lang/Object;ILjava/lang/Object;II)V"⟩ ∈ bw_uw := bw_in (i := 748) (by decide +kernel) rfl
theorem w_747 : Cond.static ⟨"java/lang/System", "arraycopy", "(Ljava/lang/Object;ILjava/lang/Object;II)V"⟩ ∈ bw_uw := bw_in (i := 747) (by decide +kernel) rfl
theorem w_75 : Cond.initialized "java/lang/System" ∈ bw_uw := bw_in (i := 75) (by decide +kernel) rfl
theorem w_111 : Cond.arrayClass FieldType.int ∈ bw_uw := bw_in (i := 111) (by decide +kernel) rfl
theorem w_1491 : Cond.arrayClass FieldType.long ∈ bw_uw := bw_in (i := 1491) (by decide +kernel) rfl
theorem pX0_9 : bw_fp RX0 9 2 0 (.object "ByteFields$Field") true := ⟨RX0, TX0, 1, tyX0, rfl, by decide, uX_X0, w_230, tyX0_ok, nmX0, rfl, (fun h => by first | rfl | (cases h)), rfl⟩
theorem lX0_15 : bw_fl RX0 15 9 1 := ⟨RX7, TX7, 3, rfl, by decide, uX_X7, w_97⟩
theorem vX0_21 : bw_cv RX0 21 mX0_divideInPlace 2 2 := ⟨⟨w_969, w_59, w_972, ⟨by decide, by decide⟩, by decide +kernel⟩, w_971, w_21, _, rfl, rfl⟩
theorem lX0_25 : bw_fl RX0 25 9 0 := ⟨RX7, TX7, 3, rfl, by decide, uX_X7, w_92⟩
theorem vX0_29 : bw_cv RX0 29 mX7_settle 1 9 := ⟨⟨w_976, w_54, w_868, ⟨by decide, by decide⟩, by decide +kernel⟩, w_866, w_867, _, rfl, rfl⟩
theorem vX0_33 : bw_cv RX0 33 mX7_clear 0 9 := ⟨⟨w_981, w_54, w_863, ⟨by decide, by decide⟩, by decide +kernel⟩, w_861, w_862, _, rfl, rfl⟩
theorem vX0_36 : bw_cv RX0 36 mX7_shiftDown 1 9 := ⟨⟨w_982, w_54, w_985, ⟨by decide, by decide⟩, by decide +kernel⟩, w_983, w_984, _, rfl, rfl⟩
theorem lX0_9 : bw_fl RX0 9 2 0 := ⟨RX0, TX0, 1, rfl, by decide, uX_X0, w_230⟩
theorem vX0_39 : bw_cv RX0 39 mX3_inverse 1 5 := ⟨⟨w_973, w_55, w_503, ⟨by decide, by decide⟩, by decide +kernel⟩, w_501, w_502, _, rfl, rfl⟩
theorem vX0_45 : bw_cv RX0 45 mX3_mul 2 5 := ⟨⟨w_974, w_55, w_265, ⟨by decide, by decide⟩, by decide +kernel⟩, w_263, w_264, _, rfl, rfl⟩
theorem vX0_49 : bw_cv RX0 49 mX3_addMultiple 6 5 := ⟨⟨w_975, w_55, w_730, ⟨by decide, by decide⟩, by decide +kernel⟩, w_728, w_729, _, rfl, rfl⟩
theorem vX0_53 : bw_cv RX0 53 mX0_toRest 2 2 := ⟨⟨w_997, w_59, w_968, ⟨by decide, by decide⟩, by decide +kernel⟩, w_966, w_967, _, rfl, rfl⟩
theorem vX0_56 : bw_cv RX0 56 mX7_copyFrom 1 9 := ⟨⟨w_998, w_54, w_876, ⟨by decide, by decide⟩, by decide +kernel⟩, w_874, w_875, _, rfl, rfl⟩
theorem vX0_60 : bw_cv RX0 60 mX3_scale 3 5 := ⟨⟨w_999, w_55, w_774, ⟨by decide, by decide⟩, by decide +kernel⟩, w_772, w_773, _, rfl, rfl⟩
theorem pX0_15 : bw_fp RX0 15 9 1 (.int) false := ⟨RX7, TX7, 3, tyX7, rfl, by decide, uX_X7, w_97, tyX7_ok, nmX7, rfl, (fun h => by first | rfl | (cases h)), rfl⟩
theorem cX1_9 : Cond.classLink RX1 9 "[[I" ∈ bw_uw := w_185
theorem pX1_11 : bw_fp RX1 11 3 1 (.array (.array .int)) true := ⟨RX1, TX1, 7, tyX1, rfl, by decide, uX_X1, w_188, tyX1_ok, nmX1, rfl, (fun h => by first | rfl | (cases h)), rfl⟩
theorem pX1_16 : bw_fp RX1 16 3 2 (.array .int) true := ⟨RX1, TX1, 7, tyX1, rfl, by decide, uX_X1, w_189, tyX1_ok, nmX1, rfl, (fun h => by first | rfl | (cases h)), rfl⟩
theorem pX1_20 : bw_fp RX1 20 3 0 (.object "ByteFields$Field") true := ⟨RX1, TX1, 7, tyX1, rfl, by decide, uX_X1, w_187, tyX1_ok, nmX1, rfl, (fun h => by first | rfl | (cases h)), rfl⟩
theorem lX1_24 : bw_fl RX1 24 7 0 := ⟨RX5, TX5, 3, rfl, by decide, uX_X5, w_629⟩
theorem pX1_30 : bw_fp RX1 30 3 3 (.int) false := ⟨RX1, TX1, 7, tyX1, rfl, by decide, uX_X1, w_190, tyX1_ok, nmX1, rfl, (fun h => by first | rfl | (cases h)), rfl⟩
theorem lX1_33 : bw_fl RX1 33 7 1 := ⟨RX5, TX5, 3, rfl, by decide, uX_X5, w_633⟩
theorem pX1_36 : bw_fp RX1 36 3 4 (.int) false := ⟨RX1, TX1, 7, tyX1, rfl, by decide, uX_X1, w_191, tyX1_ok, nmX1, rfl, (fun h => by first | rfl | (cases h)), rfl⟩
theorem lX1_30 : bw_fl RX1 30 3 3 := ⟨RX1, TX1, 7, rfl, by decide, uX_X1, w_190⟩
theorem lX1_39 : bw_fl RX1 39 7 2 := ⟨RX5, TX5, 3, rfl, by decide, uX_X5, w_637⟩
theorem lX1_36 : bw_fl RX1 36 3 4 := ⟨RX1, TX1, 7, rfl, by decide, uX_X1, w_191⟩
theorem lX1_11 : bw_fl RX1 11 3 1 := ⟨RX1, TX1, 7, rfl, by decide, uX_X1, w_188⟩
theorem pX1_47 : bw_fp RX1 47 3 5 (.int) false := ⟨RX1, TX1, 7, tyX1, rfl, by decide, uX_X1, w_192, tyX1_ok, nmX1, rfl, (fun h => by first | rfl | (cases h)), rfl⟩
theorem pX1_50 : bw_fp RX1 50 3 6 (.int) false := ⟨RX1, TX1, 7, tyX1, rfl, by decide, uX_X1, w_193, tyX1_ok, nmX1, rfl, (fun h => by first | rfl | (cases h)), rfl⟩
theorem vX1_53 : bw_cv RX1 53 mX1_rowWithMember 1 3 := ⟨⟨w_757, w_57, w_760, ⟨by decide, by decide⟩, by decide +kernel⟩, w_759, w_11, _, rfl, rfl⟩
theorem lX1_16 : bw_fl RX1 16 3 2 := ⟨RX1, TX1, 7, rfl, by decide, uX_X1, w_189⟩
theorem lX1_47 : bw_fl RX1 47 3 5 := ⟨RX1, TX1, 7, rfl, by decide, uX_X1, w_192⟩
theorem vX1_57 : bw_cv RX1 57 mX1_exchange 2 3 := ⟨⟨w_761, w_57, w_764, ⟨by decide, by decide⟩, by decide +kernel⟩, w_763, w_12, _, rfl, rfl⟩
theorem lX1_20 : bw_fl RX1 20 3 0 := ⟨RX1, TX1, 7, rfl, by decide, uX_X1, w_187⟩
theorem lX1_50 : bw_fl RX1 50 3 6 := ⟨RX1, TX1, 7, rfl, by decide, uX_X1, w_193⟩
theorem vX1_61 : bw_cv RX1 61 mX3_mul 2 5 := ⟨⟨w_765, w_55, w_265, ⟨by decide, by decide⟩, by decide +kernel⟩, w_263, w_264, _, rfl, rfl⟩
theorem vX1_67 : bw_cv RX1 67 mX1_free 1 3 := ⟨⟨w_766, w_57, w_769, ⟨by decide, by decide⟩, by decide +kernel⟩, w_768, w_13, _, rfl, rfl⟩
theorem vX1_71 : bw_cv RX1 71 mX3_inverse 1 5 := ⟨⟨w_770, w_55, w_503, ⟨by decide, by decide⟩, by decide +kernel⟩, w_501, w_502, _, rfl, rfl⟩
theorem vX1_74 : bw_cv RX1 74 mX3_scale 3 5 := ⟨⟨w_771, w_55, w_774, ⟨by decide, by decide⟩, by decide +kernel⟩, w_772, w_773, _, rfl, rfl⟩
theorem vX1_78 : bw_cv RX1 78 mX3_addMultiple 6 5 := ⟨⟨w_775, w_55, w_730, ⟨by decide, by decide⟩, by decide +kernel⟩, w_728, w_729, _, rfl, rfl⟩
theorem nX2_9 : bw_nl RX2 9 9 3 [.null, .int 0, .null] := ⟨RX7, TX7, tyX7, rfl, uX_X7, tyX7_ok, w_295, w_86, w_54, by decide⟩
theorem iX2_11 : bw_ci RX2 11 mX7_init 1 := ⟨⟨w_296, w_54, w_89, ⟨by decide, by decide⟩, by decide +kernel⟩, w_88, rfl, rfl⟩
theorem pX2_14 : bw_fp RX2 14 4 2 (.object "ByteFields$Polynomial") true := ⟨RX2, TX2, 6, tyX2, rfl, by decide, uX_X2, w_299, tyX2_ok, nmX2, rfl, (fun h => by first | rfl | (cases h)), rfl⟩
theorem pX2_20 : bw_fp RX2 20 4 3 (.object "ByteFields$Polynomial") true := ⟨RX2, TX2, 6, tyX2, rfl, by decide, uX_X2, w_300, tyX2_ok, nmX2, rfl, (fun h => by first | rfl | (cases h)), rfl⟩
theorem pX2_23 : bw_fp RX2 23 4 4 (.object "ByteFields$Polynomial") true := ⟨RX2, TX2, 6, tyX2, rfl, by decide, uX_X2, w_301, tyX2_ok, nmX2, rfl, (fun h => by first | rfl | (cases h)), rfl⟩
theorem pX2_26 : bw_fp RX2 26 4 5 (.object "ByteFields$Polynomial") true := ⟨RX2, TX2, 6, tyX2, rfl, by decide, uX_X2, w_302, tyX2_ok, nmX2, rfl, (fun h => by first | rfl | (cases h)), rfl⟩
theorem pX2_29 : bw_fp RX2 29 4 0 (.object "ByteFields$Field") true := ⟨RX2, TX2, 6, tyX2, rfl, by decide, uX_X2, w_297, tyX2_ok, nmX2, rfl, (fun h => by first | rfl | (cases h)), rfl⟩
theorem pX2_33 : bw_fp RX2 33 4 1 (.object "ByteFields$Division") true := ⟨RX2, TX2, 6, tyX2, rfl, by decide, uX_X2, w_298, tyX2_ok, nmX2, rfl, (fun h => by first | rfl | (cases h)), rfl⟩
theorem lX2_14 : bw_fl RX2 14 4 2 := ⟨RX2, TX2, 6, rfl, by decide, uX_X2, w_299⟩
theorem vX2_37 : bw_cv RX2 37 mX7_copyFrom 1 9 := ⟨⟨w_1061, w_54, w_876, ⟨by decide, by decide⟩, by decide +kernel⟩, w_874, w_875, _, rfl, rfl⟩
theorem lX2_20 : bw_fl RX2 20 4 3 := ⟨RX2, TX2, 6, rfl, by decide, uX_X2, w_300⟩
theorem vX2_41 : bw_cv RX2 41 mX7_becomeX 0 9 := ⟨⟨w_1062, w_54, w_1019, ⟨by decide, by decide⟩, by decide +kernel⟩, w_1017, w_1018, _, rfl, rfl⟩
theorem lX2_33 : bw_fl RX2 33 4 1 := ⟨RX2, TX2, 6, rfl, by decide, uX_X2, w_298⟩
theorem vX2_44 : bw_cv RX2 44 mX0_toRest 2 2 := ⟨⟨w_1063, w_59, w_968, ⟨by decide, by decide⟩, by decide +kernel⟩, w_966, w_967, _, rfl, rfl⟩
theorem lX2_50 : bw_fl RX2 50 9 1 := ⟨RX7, TX7, 3, rfl, by decide, uX_X7, w_98⟩
theorem lX2_29 : bw_fl RX2 29 4 0 := ⟨RX2, TX2, 6, rfl, by decide, uX_X2, w_297⟩
theorem lX2_54 : bw_fl RX2 54 5 0 := ⟨RX3, TX3, 6, rfl, by decide, uX_X3, w_157⟩
theorem vX2_59 : bw_cv RX2 59 mX0_toSquareRest 2 2 := ⟨⟨w_1064, w_59, w_1025, ⟨by decide, by decide⟩, by decide +kernel⟩, w_1023, w_1024, _, rfl, rfl⟩
theorem vX2_62 : bw_cv RX2 62 mX2_takeParts 1 4 := ⟨⟨w_1065, w_62, w_1068, ⟨by decide, by decide⟩, by decide +kernel⟩, w_1067, w_24, _, rfl, rfl⟩
theorem lX2_26 : bw_fl RX2 26 4 5 := ⟨RX2, TX2, 6, rfl, by decide, uX_X2, w_302⟩
theorem vX2_66 : bw_cv RX2 66 mX7_addScaled 3 9 := ⟨⟨w_1069, w_54, w_943, ⟨by decide, by decide⟩, by decide +kernel⟩, w_941, w_942, _, rfl, rfl⟩
theorem lX2_23 : bw_fl RX2 23 4 4 := ⟨RX2, TX2, 6, rfl, by decide, uX_X2, w_301⟩
theorem vX2_70 : bw_cv RX2 70 mX0_toGreatestDivisor 2 2 := ⟨⟨w_1070, w_59, w_996, ⟨by decide, by decide⟩, by decide +kernel⟩, w_994, w_995, _, rfl, rfl⟩
theorem vX2_73 : bw_cv RX2 73 mX0_toQuotient 2 2 := ⟨⟨w_1071, w_59, w_980, ⟨by decide, by decide⟩, by decide +kernel⟩, w_978, w_979, _, rfl, rfl⟩
theorem pX3_7 : bw_fp RX3 7 5 0 (.int) true := ⟨RX3, TX3, 6, tyX3, rfl, by decide, uX_X3, w_155, tyX3_ok, nmX3, rfl, (fun h => by first | rfl | (cases h)), rfl⟩
theorem pX3_13 : bw_fp RX3 13 5 1 (.int) true := ⟨RX3, TX3, 6, tyX3, rfl, by decide, uX_X3, w_158, tyX3_ok, nmX3, rfl, (fun h => by first | rfl | (cases h)), rfl⟩
theorem lX3_13 : bw_fl RX3 13 5 1 := ⟨RX3, TX3, 6, rfl, by decide, uX_X3, w_158⟩
theorem pX3_16 : bw_fp RX3 16 5 2 (.int) true := ⟨RX3, TX3, 6, tyX3, rfl, by decide, uX_X3, w_160, tyX3_ok, nmX3, rfl, (fun h => by first | rfl | (cases h)), rfl⟩
theorem lX3_16 : bw_fl RX3 16 5 2 := ⟨RX3, TX3, 6, rfl, by decide, uX_X3, w_160⟩
theorem sX3_19 : bw_cs RX3 19 mX3_firstUnsplit 2 := ⟨⟨w_121, w_55, w_123, ⟨by decide, by decide⟩, by decide +kernel⟩, w_122⟩
theorem pX3_23 : bw_fp RX3 23 5 3 (.int) true := ⟨RX3, TX3, 6, tyX3, rfl, by decide, uX_X3, w_161, tyX3_ok, nmX3, rfl, (fun h => by first | rfl | (cases h)), rfl⟩
theorem vX3_26 : bw_cv RX3 26 mX3_leastGenerator 0 5 := ⟨⟨w_137, w_55, w_140, ⟨by decide, by decide⟩, by decide +kernel⟩, w_139, w_0, _, rfl, rfl⟩
theorem pX3_30 : bw_fp RX3 30 5 4 (.int) true := ⟨RX3, TX3, 6, tyX3, rfl, by decide, uX_X3, w_163, tyX3_ok, nmX3, rfl, (fun h => by first | rfl | (cases h)), rfl⟩
theorem pX3_33 : bw_fp RX3 33 5 5 (.array .int) true := ⟨RX3, TX3, 6, tyX3, rfl, by decide, uX_X3, w_165, tyX3_ok, nmX3, rfl, (fun h => by first | rfl | (cases h)), rfl⟩
theorem lX3_33 : bw_fl RX3 33 5 5 := ⟨RX3, TX3, 6, rfl, by decide, uX_X3, w_165⟩
theorem lX3_30 : bw_fl RX3 30 5 4 := ⟨RX3, TX3, 6, rfl, by decide, uX_X3, w_163⟩
theorem vX3_37 : bw_cv RX3 37 mX3_slowProduct 2 5 := ⟨⟨w_151, w_55, w_154, ⟨by decide, by decide⟩, by decide +kernel⟩, w_153, w_3, _, rfl, rfl⟩
theorem sX3_40 : bw_cs RX3 40 mX3_splits 2 := ⟨⟨w_124, w_55, w_126, ⟨by decide, by decide⟩, by decide +kernel⟩, w_125⟩
theorem sX3_44 : bw_cs RX3 44 mX3_restOfBits 2 := ⟨⟨w_127, w_55, w_129, ⟨by decide, by decide⟩, by decide +kernel⟩, w_128⟩
theorem sX3_47 : bw_cs RX3 47 mX3_highestBit 1 := ⟨⟨w_130, w_55, w_132, ⟨by decide, by decide⟩, by decide +kernel⟩, w_131⟩
theorem sX3_51 : bw_cs RX3 51 mJ6_numberOfLeadingZeros_0f7a4 1 := ⟨⟨w_133, w_56, w_135, ⟨by decide, by decide⟩, by decide +kernel⟩, w_134⟩
theorem lX3_7 : bw_fl RX3 7 5 0 := ⟨RX3, TX3, 6, rfl, by decide, uX_X3, w_155⟩
theorem lX3_23 : bw_fl RX3 23 5 3 := ⟨RX3, TX3, 6, rfl, by decide, uX_X3, w_161⟩
theorem vX3_56 : bw_cv RX3 56 mX3_generates 1 5 := ⟨⟨w_141, w_55, w_144, ⟨by decide, by decide⟩, by decide +kernel⟩, w_143, w_1, _, rfl, rfl⟩
theorem gX3_60 : Cond.fieldLink RX3 60 "ByteFields$Field" "PRIMES" "[I" ∈ bw_uw := w_145
theorem vX3_63 : bw_cv RX3 63 mX3_slowPower 2 5 := ⟨⟨w_147, w_55, w_150, ⟨by decide, by decide⟩, by decide +kernel⟩, w_149, w_2, _, rfl, rfl⟩
theorem kX3_66 : Cond.constant RX3 66 (65535) ∈ bw_uw := w_266
theorem vX3_67 : bw_cv RX3 67 mX3_inverse 1 5 := ⟨⟨w_500, w_55, w_503, ⟨by decide, by decide⟩, by decide +kernel⟩, w_501, w_502, _, rfl, rfl⟩
theorem vX3_70 : bw_cv RX3 70 mX3_mul 2 5 := ⟨⟨w_504, w_55, w_265, ⟨by decide, by decide⟩, by decide +kernel⟩, w_263, w_264, _, rfl, rfl⟩
theorem vX3_73 : bw_cv RX3 73 mX3_logOf 1 5 := ⟨⟨w_517, w_55, w_520, ⟨by decide, by decide⟩, by decide +kernel⟩, w_518, w_519, _, rfl, rfl⟩
theorem pX4_9 : bw_fp RX4 9 6 1 (.array .int) true := ⟨RX4, TX4, 3, tyX4, rfl, by decide, uX_X4, w_241, tyX4_ok, nmX4, rfl, (fun h => by first | rfl | (cases h)), rfl⟩
theorem pX4_15 : bw_fp RX4 15 6 2 (.array .int) true := ⟨RX4, TX4, 3, tyX4, rfl, by decide, uX_X4, w_242, tyX4_ok, nmX4, rfl, (fun h => by first | rfl | (cases h)), rfl⟩
theorem pX4_18 : bw_fp RX4 18 6 0 (.object "ByteFields$Field") true := ⟨RX4, TX4, 3, tyX4, rfl, by decide, uX_X4, w_240, tyX4_ok, nmX4, rfl, (fun h => by first | rfl | (cases h)), rfl⟩
theorem lX4_9 : bw_fl RX4 9 6 1 := ⟨RX4, TX4, 3, rfl, by decide, uX_X4, w_241⟩
theorem lX4_15 : bw_fl RX4 15 6 2 := ⟨RX4, TX4, 3, rfl, by decide, uX_X4, w_242⟩
theorem lX4_18 : bw_fl RX4 18 6 0 := ⟨RX4, TX4, 3, rfl, by decide, uX_X4, w_240⟩
theorem vX4_22 : bw_cv RX4 22 mX3_ratio 2 5 := ⟨⟨w_894, w_55, w_499, ⟨by decide, by decide⟩, by decide +kernel⟩, w_497, w_498, _, rfl, rfl⟩
theorem vX4_28 : bw_cv RX4 28 mX7_clear 0 9 := ⟨⟨w_895, w_54, w_863, ⟨by decide, by decide⟩, by decide +kernel⟩, w_861, w_862, _, rfl, rfl⟩
theorem vX4_33 : bw_cv RX4 33 mX4_multiplyAndAdd 3 6 := ⟨⟨w_896, w_60, w_899, ⟨by decide, by decide⟩, by decide +kernel⟩, w_898, w_18, _, rfl, rfl⟩
theorem lX4_37 : bw_fl RX4 37 9 1 := ⟨RX7, TX7, 3, rfl, by decide, uX_X7, w_99⟩
theorem lX4_41 : bw_fl RX4 41 9 0 := ⟨RX7, TX7, 3, rfl, by decide, uX_X7, w_93⟩
theorem vX4_44 : bw_cv RX4 44 mX3_mul 2 5 := ⟨⟨w_900, w_55, w_265, ⟨by decide, by decide⟩, by decide +kernel⟩, w_263, w_264, _, rfl, rfl⟩
theorem vX4_47 : bw_cv RX4 47 mX7_settle 1 9 := ⟨⟨w_901, w_54, w_868, ⟨by decide, by decide⟩, by decide +kernel⟩, w_866, w_867, _, rfl, rfl⟩
theorem pX5_7 : bw_fp RX5 7 7 0 (.int) true := ⟨RX5, TX5, 3, tyX5, rfl, by decide, uX_X5, w_628, tyX5_ok, nmX5, rfl, (fun h => by first | rfl | (cases h)), rfl⟩
theorem pX5_13 : bw_fp RX5 13 7 1 (.int) true := ⟨RX5, TX5, 3, tyX5, rfl, by decide, uX_X5, w_632, tyX5_ok, nmX5, rfl, (fun h => by first | rfl | (cases h)), rfl⟩
theorem pX5_16 : bw_fp RX5 16 7 2 (.array .int) true := ⟨RX5, TX5, 3, tyX5, rfl, by decide, uX_X5, w_636, tyX5_ok, nmX5, rfl, (fun h => by first | rfl | (cases h)), rfl⟩
theorem cX6_9 : Cond.classLink RX6 9 "[[I" ∈ bw_uw := w_216
theorem pX6_11 : bw_fp RX6 11 8 1 (.array (.array .int)) true := ⟨RX6, TX6, 2, tyX6, rfl, by decide, uX_X6, w_218, tyX6_ok, nmX6, rfl, (fun h => by first | rfl | (cases h)), rfl⟩
theorem pX6_16 : bw_fp RX6 16 8 0 (.object "ByteFields$Field") true := ⟨RX6, TX6, 2, tyX6, rfl, by decide, uX_X6, w_217, tyX6_ok, nmX6, rfl, (fun h => by first | rfl | (cases h)), rfl⟩
theorem lX6_11 : bw_fl RX6 11 8 1 := ⟨RX6, TX6, 2, rfl, by decide, uX_X6, w_218⟩
theorem lX6_20 : bw_fl RX6 20 7 0 := ⟨RX5, TX5, 3, rfl, by decide, uX_X5, w_630⟩
theorem sX6_26 : bw_cs RX6 26 mJ6_bitCount_0f7a4 1 := ⟨⟨w_805, w_56, w_807, ⟨by decide, by decide⟩, by decide +kernel⟩, w_806⟩
theorem sX6_32 : bw_cs RX6 32 mJ6_numberOfTrailingZeros_0f7a4 1 := ⟨⟨w_811, w_56, w_813, ⟨by decide, by decide⟩, by decide +kernel⟩, w_812⟩
theorem vX6_35 : bw_cv RX6 35 mX6_addRow 3 8 := ⟨⟨w_814, w_58, w_817, ⟨by decide, by decide⟩, by decide +kernel⟩, w_816, w_14, _, rfl, rfl⟩
theorem lX6_39 : bw_fl RX6 39 7 1 := ⟨RX5, TX5, 3, rfl, by decide, uX_X5, w_634⟩
theorem vX6_42 : bw_cv RX6 42 mX6_expanded 4 8 := ⟨⟨w_818, w_58, w_821, ⟨by decide, by decide⟩, by decide +kernel⟩, w_820, w_15, _, rfl, rfl⟩
theorem lX6_16 : bw_fl RX6 16 8 0 := ⟨RX6, TX6, 2, rfl, by decide, uX_X6, w_217⟩
theorem lX6_46 : bw_fl RX6 46 7 2 := ⟨RX5, TX5, 3, rfl, by decide, uX_X5, w_638⟩
theorem vX6_50 : bw_cv RX6 50 mX3_mul 2 5 := ⟨⟨w_822, w_55, w_265, ⟨by decide, by decide⟩, by decide +kernel⟩, w_263, w_264, _, rfl, rfl⟩
theorem pX7_9 : bw_fp RX7 9 9 1 (.int) false := ⟨RX7, TX7, 3, tyX7, rfl, by decide, uX_X7, w_96, tyX7_ok, nmX7, rfl, (fun h => by first | rfl | (cases h)), rfl⟩
theorem pX7_15 : bw_fp RX7 15 9 2 (.array .int) false := ⟨RX7, TX7, 3, tyX7, rfl, by decide, uX_X7, w_102, tyX7_ok, nmX7, rfl, (fun h => by first | rfl | (cases h)), rfl⟩
theorem pX7_19 : bw_fp RX7 19 9 0 (.array .int) true := ⟨RX7, TX7, 3, tyX7, rfl, by decide, uX_X7, w_91, tyX7_ok, nmX7, rfl, (fun h => by first | rfl | (cases h)), rfl⟩
theorem lX7_9 : bw_fl RX7 9 9 1 := ⟨RX7, TX7, 3, rfl, by decide, uX_X7, w_96⟩
theorem lX7_19 : bw_fl RX7 19 9 0 := ⟨RX7, TX7, 3, rfl, by decide, uX_X7, w_91⟩
theorem vX7_22 : bw_cv RX7 22 mX7_clear 0 9 := ⟨⟨w_860, w_54, w_863, ⟨by decide, by decide⟩, by decide +kernel⟩, w_861, w_862, _, rfl, rfl⟩
theorem vX7_31 : bw_cv RX7 31 mX7_settle 1 9 := ⟨⟨w_865, w_54, w_868, ⟨by decide, by decide⟩, by decide +kernel⟩, w_866, w_867, _, rfl, rfl⟩
theorem vX7_35 : bw_cv RX7 35 mX7_load 2 9 := ⟨⟨w_877, w_54, w_859, ⟨by decide, by decide⟩, by decide +kernel⟩, w_857, w_858, _, rfl, rfl⟩
theorem vX7_39 : bw_cv RX7 39 mX3_addMultiple 6 5 := ⟨⟨w_944, w_55, w_730, ⟨by decide, by decide⟩, by decide +kernel⟩, w_728, w_729, _, rfl, rfl⟩
theorem sX7_45 : bw_cs RX7 45 mJ9_max_7cf53 2 := ⟨⟨w_945, w_76, w_947, ⟨by decide, by decide⟩, by decide +kernel⟩, w_946⟩
theorem nX8_9 : bw_nl RX8 9 9 3 [.null, .int 0, .null] := ⟨RX7, TX7, tyX7, rfl, uX_X7, tyX7_ok, w_256, w_86, w_54, by decide⟩
theorem iX8_11 : bw_ci RX8 11 mX7_init 1 := ⟨⟨w_257, w_54, w_89, ⟨by decide, by decide⟩, by decide +kernel⟩, w_88, rfl, rfl⟩
theorem pX8_14 : bw_fp RX8 14 10 4 (.object "ByteFields$Polynomial") true := ⟨RX8, TX8, 7, tyX8, rfl, by decide, uX_X8, w_271, tyX8_ok, nmX8, rfl, (fun h => by first | rfl | (cases h)), rfl⟩
theorem pX8_20 : bw_fp RX8 20 10 5 (.object "ByteFields$Polynomial") true := ⟨RX8, TX8, 7, tyX8, rfl, by decide, uX_X8, w_272, tyX8_ok, nmX8, rfl, (fun h => by first | rfl | (cases h)), rfl⟩
theorem pX8_23 : bw_fp RX8 23 10 6 (.object "ByteFields$Polynomial") true := ⟨RX8, TX8, 7, tyX8, rfl, by decide, uX_X8, w_273, tyX8_ok, nmX8, rfl, (fun h => by first | rfl | (cases h)), rfl⟩
theorem pX8_26 : bw_fp RX8 26 10 0 (.object "ByteFields$Field") true := ⟨RX8, TX8, 7, tyX8, rfl, by decide, uX_X8, w_267, tyX8_ok, nmX8, rfl, (fun h => by first | rfl | (cases h)), rfl⟩
theorem pX8_30 : bw_fp RX8 30 10 1 (.object "ByteFields$Division") true := ⟨RX8, TX8, 7, tyX8, rfl, by decide, uX_X8, w_268, tyX8_ok, nmX8, rfl, (fun h => by first | rfl | (cases h)), rfl⟩
theorem lX8_34 : bw_fl RX8 34 5 0 := ⟨RX3, TX3, 6, rfl, by decide, uX_X3, w_156⟩
theorem pX8_40 : bw_fp RX8 40 10 2 (.array .int) true := ⟨RX8, TX8, 7, tyX8, rfl, by decide, uX_X8, w_269, tyX8_ok, nmX8, rfl, (fun h => by first | rfl | (cases h)), rfl⟩
theorem lX8_40 : bw_fl RX8 40 10 2 := ⟨RX8, TX8, 7, rfl, by decide, uX_X8, w_269⟩
theorem vX8_44 : bw_cv RX8 44 mX8_valueAt 2 10 := ⟨⟨w_258, w_61, w_261, ⟨by decide, by decide⟩, by decide +kernel⟩, w_260, w_4, _, rfl, rfl⟩
theorem cX8_9 : Cond.classLink RX8 9 "ByteFields$Polynomial" ∈ bw_uw := w_256
theorem pX8_48 : bw_fp RX8 48 10 3 (.array (.object "ByteFields$Polynomial")) true := ⟨RX8, TX8, 7, tyX8, rfl, by decide, uX_X8, w_270, tyX8_ok, nmX8, rfl, (fun h => by first | rfl | (cases h)), rfl⟩
theorem lX8_48 : bw_fl RX8 48 10 3 := ⟨RX8, TX8, 7, rfl, by decide, uX_X8, w_270⟩
theorem lX8_26 : bw_fl RX8 26 10 0 := ⟨RX8, TX8, 7, rfl, by decide, uX_X8, w_267⟩
theorem vX8_52 : bw_cv RX8 52 mX3_mul 2 5 := ⟨⟨w_262, w_55, w_265, ⟨by decide, by decide⟩, by decide +kernel⟩, w_263, w_264, _, rfl, rfl⟩
theorem lX8_23 : bw_fl RX8 23 10 6 := ⟨RX8, TX8, 7, rfl, by decide, uX_X8, w_273⟩
theorem vX8_55 : bw_cv RX8 55 mX7_becomeX 0 9 := ⟨⟨w_1016, w_54, w_1019, ⟨by decide, by decide⟩, by decide +kernel⟩, w_1017, w_1018, _, rfl, rfl⟩
theorem lX8_30 : bw_fl RX8 30 10 1 := ⟨RX8, TX8, 7, rfl, by decide, uX_X8, w_268⟩
theorem vX8_58 : bw_cv RX8 58 mX0_toRest 2 2 := ⟨⟨w_1020, w_59, w_968, ⟨by decide, by decide⟩, by decide +kernel⟩, w_966, w_967, _, rfl, rfl⟩
theorem vX8_64 : bw_cv RX8 64 mX7_copyFrom 1 9 := ⟨⟨w_1021, w_54, w_876, ⟨by decide, by decide⟩, by decide +kernel⟩, w_874, w_875, _, rfl, rfl⟩
theorem vX8_68 : bw_cv RX8 68 mX0_toSquareRest 2 2 := ⟨⟨w_1022, w_59, w_1025, ⟨by decide, by decide⟩, by decide +kernel⟩, w_1023, w_1024, _, rfl, rfl⟩
theorem vX8_71 : bw_cv RX8 71 mX7_addScaled 3 9 := ⟨⟨w_1026, w_54, w_943, ⟨by decide, by decide⟩, by decide +kernel⟩, w_941, w_942, _, rfl, rfl⟩
theorem lX8_75 : bw_fl RX8 75 9 1 := ⟨RX7, TX7, 3, rfl, by decide, uX_X7, w_100⟩
theorem vX8_78 : bw_cv RX8 78 mX8_makeRests 1 10 := ⟨⟨w_1012, w_61, w_1015, ⟨by decide, by decide⟩, by decide +kernel⟩, w_1014, w_22, _, rfl, rfl⟩
theorem lX8_14 : bw_fl RX8 14 10 4 := ⟨RX8, TX8, 7, rfl, by decide, uX_X8, w_271⟩
theorem vX8_81 : bw_cv RX8 81 mX0_toGreatestDivisor 2 2 := ⟨⟨w_1027, w_59, w_996, ⟨by decide, by decide⟩, by decide +kernel⟩, w_994, w_995, _, rfl, rfl⟩
theorem vX8_84 : bw_cv RX8 84 mX8_keepLower 2 10 := ⟨⟨w_1028, w_61, w_1031, ⟨by decide, by decide⟩, by decide +kernel⟩, w_1030, w_23, _, rfl, rfl⟩
theorem lX8_20 : bw_fl RX8 20 10 5 := ⟨RX8, TX8, 7, rfl, by decide, uX_X8, w_272⟩
theorem vX8_88 : bw_cv RX8 88 mX0_toQuotient 2 2 := ⟨⟨w_1036, w_59, w_980, ⟨by decide, by decide⟩, by decide +kernel⟩, w_978, w_979, _, rfl, rfl⟩
theorem lX8_91 : bw_fl RX8 91 9 0 := ⟨RX7, TX7, 3, rfl, by decide, uX_X7, w_94⟩
theorem vX8_94 : bw_cv RX8 94 mX3_ratio 2 5 := ⟨⟨w_1037, w_55, w_499, ⟨by decide, by decide⟩, by decide +kernel⟩, w_497, w_498, _, rfl, rfl⟩
theorem vX8_97 : bw_cv RX8 97 mX7_addMember 1 9 := ⟨⟨w_1032, w_54, w_1035, ⟨by decide, by decide⟩, by decide +kernel⟩, w_1033, w_1034, _, rfl, rfl⟩
theorem nX9_9 : bw_nl RX9 9 9 3 [.null, .int 0, .null] := ⟨RX7, TX7, tyX7, rfl, uX_X7, tyX7_ok, w_85, w_86, w_54, by decide⟩
theorem iX9_11 : bw_ci RX9 11 mX7_init 1 := ⟨⟨w_87, w_54, w_89, ⟨by decide, by decide⟩, by decide +kernel⟩, w_88, rfl, rfl⟩
theorem pX9_14 : bw_fp RX9 14 11 7 (.object "ByteFields$Polynomial") true := ⟨RX9, TX9, 17, tyX9, rfl, by decide, uX_X9, w_323, tyX9_ok, nmX9, rfl, (fun h => by first | rfl | (cases h)), rfl⟩
theorem pX9_18 : bw_fp RX9 18 11 8 (.object "ByteFields$Polynomial") true := ⟨RX9, TX9, 17, tyX9, rfl, by decide, uX_X9, w_324, tyX9_ok, nmX9, rfl, (fun h => by first | rfl | (cases h)), rfl⟩
theorem pX9_21 : bw_fp RX9 21 11 9 (.array .int) true := ⟨RX9, TX9, 17, tyX9, rfl, by decide, uX_X9, w_325, tyX9_ok, nmX9, rfl, (fun h => by first | rfl | (cases h)), rfl⟩
theorem cX9_25 : Cond.classLink RX9 25 "ByteFields$Matrix" ∈ bw_uw := w_112
theorem pX9_27 : bw_fp RX9 27 11 11 (.array (.object "ByteFields$Matrix")) true := ⟨RX9, TX9, 17, tyX9, rfl, by decide, uX_X9, w_327, tyX9_ok, nmX9, rfl, (fun h => by first | rfl | (cases h)), rfl⟩
theorem cX9_9 : Cond.classLink RX9 9 "ByteFields$Polynomial" ∈ bw_uw := w_85
theorem pX9_31 : bw_fp RX9 31 11 13 (.array (.object "ByteFields$Polynomial")) true := ⟨RX9, TX9, 17, tyX9, rfl, by decide, uX_X9, w_329, tyX9_ok, nmX9, rfl, (fun h => by first | rfl | (cases h)), rfl⟩
theorem pX9_35 : bw_fp RX9 35 11 15 (.array .int) true := ⟨RX9, TX9, 17, tyX9, rfl, by decide, uX_X9, w_331, tyX9_ok, nmX9, rfl, (fun h => by first | rfl | (cases h)), rfl⟩
theorem nX9_38 : bw_nl RX9 38 5 6 [.int 0, .int 0, .int 0, .int 0, .int 0, .null] := ⟨RX3, TX3, tyX3, rfl, uX_X3, tyX3_ok, w_115, w_116, w_55, by decide⟩
theorem iX9_40 : bw_ci RX9 40 mX3_init 2 := ⟨⟨w_117, w_55, w_119, ⟨by decide, by decide⟩, by decide +kernel⟩, w_118, rfl, rfl⟩
theorem pX9_43 : bw_fp RX9 43 11 0 (.object "ByteFields$Field") true := ⟨RX9, TX9, 17, tyX9, rfl, by decide, uX_X9, w_316, tyX9_ok, nmX9, rfl, (fun h => by first | rfl | (cases h)), rfl⟩
theorem nX9_47 : bw_nl RX9 47 3 7 [.null, .null, .null, .int 0, .int 0, .int 0, .int 0] := ⟨RX1, TX1, tyX1, rfl, uX_X1, tyX1_ok, w_179, w_180, w_57, by decide⟩
theorem lX9_43 : bw_fl RX9 43 11 0 := ⟨RX9, TX9, 17, rfl, by decide, uX_X9, w_316⟩
theorem iX9_49 : bw_ci RX9 49 mX1_init 1 := ⟨⟨w_181, w_57, w_183, ⟨by decide, by decide⟩, by decide +kernel⟩, w_182, rfl, rfl⟩
theorem pX9_52 : bw_fp RX9 52 11 1 (.object "ByteFields$Elimination") true := ⟨RX9, TX9, 17, tyX9, rfl, by decide, uX_X9, w_317, tyX9_ok, nmX9, rfl, (fun h => by first | rfl | (cases h)), rfl⟩
theorem nX9_56 : bw_nl RX9 56 8 2 [.null, .null] := ⟨RX6, TX6, tyX6, rfl, uX_X6, tyX6_ok, w_210, w_211, w_58, by decide⟩
theorem iX9_58 : bw_ci RX9 58 mX6_init 1 := ⟨⟨w_212, w_58, w_214, ⟨by decide, by decide⟩, by decide +kernel⟩, w_213, rfl, rfl⟩
theorem pX9_59 : bw_fp RX9 59 11 2 (.object "ByteFields$Minors") true := ⟨RX9, TX9, 17, tyX9, rfl, by decide, uX_X9, w_318, tyX9_ok, nmX9, rfl, (fun h => by first | rfl | (cases h)), rfl⟩
theorem nX9_63 : bw_nl RX9 63 2 1 [.null] := ⟨RX0, TX0, tyX0, rfl, uX_X0, tyX0_ok, w_224, w_225, w_59, by decide⟩
theorem iX9_65 : bw_ci RX9 65 mX0_init 1 := ⟨⟨w_226, w_59, w_228, ⟨by decide, by decide⟩, by decide +kernel⟩, w_227, rfl, rfl⟩
theorem pX9_66 : bw_fp RX9 66 11 3 (.object "ByteFields$Division") true := ⟨RX9, TX9, 17, tyX9, rfl, by decide, uX_X9, w_319, tyX9_ok, nmX9, rfl, (fun h => by first | rfl | (cases h)), rfl⟩
theorem nX9_70 : bw_nl RX9 70 6 3 [.null, .null, .null] := ⟨RX4, TX4, tyX4, rfl, uX_X4, tyX4_ok, w_234, w_235, w_60, by decide⟩
theorem iX9_72 : bw_ci RX9 72 mX4_init 1 := ⟨⟨w_236, w_60, w_238, ⟨by decide, by decide⟩, by decide +kernel⟩, w_237, rfl, rfl⟩
theorem pX9_73 : bw_fp RX9 73 11 4 (.object "ByteFields$Interpolation") true := ⟨RX9, TX9, 17, tyX9, rfl, by decide, uX_X9, w_320, tyX9_ok, nmX9, rfl, (fun h => by first | rfl | (cases h)), rfl⟩
theorem nX9_77 : bw_nl RX9 77 10 7 [.null, .null, .null, .null, .null, .null, .null] := ⟨RX8, TX8, tyX8, rfl, uX_X8, tyX8_ok, w_250, w_251, w_61, by decide⟩
theorem lX9_66 : bw_fl RX9 66 11 3 := ⟨RX9, TX9, 17, rfl, by decide, uX_X9, w_319⟩
theorem iX9_79 : bw_ci RX9 79 mX8_init 2 := ⟨⟨w_252, w_61, w_254, ⟨by decide, by decide⟩, by decide +kernel⟩, w_253, rfl, rfl⟩
theorem pX9_82 : bw_fp RX9 82 11 5 (.object "ByteFields$Roots") true := ⟨RX9, TX9, 17, tyX9, rfl, by decide, uX_X9, w_321, tyX9_ok, nmX9, rfl, (fun h => by first | rfl | (cases h)), rfl⟩
theorem nX9_86 : bw_nl RX9 86 4 6 [.null, .null, .null, .null, .null, .null] := ⟨RX2, TX2, tyX2, rfl, uX_X2, tyX2_ok, w_289, w_290, w_62, by decide⟩
theorem iX9_88 : bw_ci RX9 88 mX2_init 2 := ⟨⟨w_291, w_62, w_293, ⟨by decide, by decide⟩, by decide +kernel⟩, w_292, rfl, rfl⟩
theorem pX9_89 : bw_fp RX9 89 11 6 (.object "ByteFields$Factors") true := ⟨RX9, TX9, 17, tyX9, rfl, by decide, uX_X9, w_322, tyX9_ok, nmX9, rfl, (fun h => by first | rfl | (cases h)), rfl⟩
theorem lX9_93 : bw_fl RX9 93 5 3 := ⟨RX3, TX3, 6, rfl, by decide, uX_X3, w_162⟩
theorem lX9_97 : bw_fl RX9 97 5 4 := ⟨RX3, TX3, 6, rfl, by decide, uX_X3, w_164⟩
theorem vX9_100 : bw_cv RX9 100 mX9_needMember 1 11 := ⟨⟨w_391, w_53, w_394, ⟨by decide, by decide⟩, by decide +kernel⟩, w_393, w_5, _, rfl, rfl⟩
theorem vX9_103 : bw_cv RX9 103 mX3_mul 2 5 := ⟨⟨w_466, w_55, w_265, ⟨by decide, by decide⟩, by decide +kernel⟩, w_263, w_264, _, rfl, rfl⟩
theorem tX9_107 : bw_tl RX9 107 111 "java/lang/ArithmeticException" ["java/lang/RuntimeException", "java/lang/Exception"] := ⟨by decide +kernel, by decide +kernel, w_493, w_68, bw_tat (by decide +kernel)⟩
theorem vX9_114 : bw_cv RX9 114 mX3_ratio 2 5 := ⟨⟨w_496, w_55, w_499, ⟨by decide, by decide⟩, by decide +kernel⟩, w_497, w_498, _, rfl, rfl⟩
theorem vX9_119 : bw_cv RX9 119 mX3_raised 2 5 := ⟨⟨w_513, w_55, w_516, ⟨by decide, by decide⟩, by decide +kernel⟩, w_514, w_515, _, rfl, rfl⟩
theorem tX9_123 : bw_tl RX9 123 127 "java/lang/ArrayIndexOutOfBoundsException" ["java/lang/IndexOutOfBoundsException", "java/lang/RuntimeException", "java/lang/Exception"] := ⟨by decide +kernel, by decide +kernel, w_547, w_71, bw_tat (by decide +kernel)⟩
theorem iX9_127 : bw_ci RX9 127 mJx00060_init_a7421 1 := ⟨⟨w_549, w_71, w_527, ⟨by decide, by decide⟩, by decide +kernel⟩, w_526, rfl, rfl⟩
theorem vX9_128 : bw_cv RX9 128 mX3_logOf 1 5 := ⟨⟨w_550, w_55, w_520, ⟨by decide, by decide⟩, by decide +kernel⟩, w_518, w_519, _, rfl, rfl⟩
theorem vX9_132 : bw_cv RX9 132 mX3_orderOf 1 5 := ⟨⟨w_558, w_55, w_561, ⟨by decide, by decide⟩, by decide +kernel⟩, w_559, w_560, _, rfl, rfl⟩
theorem lX9_135 : bw_fl RX9 135 11 10 := ⟨RX9, TX9, 17, rfl, by decide, uX_X9, w_326⟩
theorem tX9_138 : bw_tl RX9 138 142 "java/lang/UnsupportedOperationException" ["java/lang/RuntimeException", "java/lang/Exception"] := ⟨by decide +kernel, by decide +kernel, w_570, w_72, bw_tat (by decide +kernel)⟩
theorem lX9_21 : bw_fl RX9 21 11 9 := ⟨RX9, TX9, 17, rfl, by decide, uX_X9, w_325⟩
theorem pX9_135 : bw_fp RX9 135 11 10 (.int) false := ⟨RX9, TX9, 17, tyX9, rfl, by decide, uX_X9, w_326, tyX9_ok, nmX9, rfl, (fun h => by first | rfl | (cases h)), rfl⟩
theorem tX9_143 : bw_tl RX9 143 147 "java/lang/IndexOutOfBoundsException" ["java/lang/RuntimeException", "java/lang/Exception"] := ⟨by decide +kernel, by decide +kernel, w_594, w_70, bw_tat (by decide +kernel)⟩
theorem sX9_148 : bw_cs RX9 148 mX9_needSides 2 := ⟨⟨w_614, w_53, w_616, ⟨by decide, by decide⟩, by decide +kernel⟩, w_615⟩
theorem vX9_151 : bw_cv RX9 151 mX9_needMatrixRoom 0 11 := ⟨⟨w_618, w_53, w_621, ⟨by decide, by decide⟩, by decide +kernel⟩, w_620, w_7, _, rfl, rfl⟩
theorem nX9_25 : bw_nl RX9 25 7 3 [.int 0, .int 0, .null] := ⟨RX5, TX5, tyX5, rfl, uX_X5, tyX5_ok, w_112, w_623, w_73, by decide⟩
theorem iX9_154 : bw_ci RX9 154 mX5_init 2 := ⟨⟨w_624, w_73, w_626, ⟨by decide, by decide⟩, by decide +kernel⟩, w_625, rfl, rfl⟩
theorem vX9_155 : bw_cv RX9 155 mX9_keepMatrix 1 11 := ⟨⟨w_647, w_53, w_650, ⟨by decide, by decide⟩, by decide +kernel⟩, w_649, w_8, _, rfl, rfl⟩
theorem vX9_159 : bw_cv RX9 159 mX9_hasAlike 1 11 := ⟨⟨w_659, w_53, w_662, ⟨by decide, by decide⟩, by decide +kernel⟩, w_661, w_9, _, rfl, rfl⟩
theorem tX9_163 : bw_tl RX9 163 167 "java/lang/IllegalStateException" ["java/lang/RuntimeException", "java/lang/Exception"] := ⟨by decide +kernel, by decide +kernel, w_663, w_74, bw_tat (by decide +kernel)⟩
theorem lX9_168 : bw_fl RX9 168 7 2 := ⟨RX5, TX5, 3, rfl, by decide, uX_X5, w_639⟩
theorem vX9_173 : bw_cv RX9 173 mX3_inverse 1 5 := ⟨⟨w_687, w_55, w_503, ⟨by decide, by decide⟩, by decide +kernel⟩, w_501, w_502, _, rfl, rfl⟩
theorem vX9_176 : bw_cv RX9 176 mX9_matrixAt 1 11 := ⟨⟨w_695, w_53, w_698, ⟨by decide, by decide⟩, by decide +kernel⟩, w_697, w_10, _, rfl, rfl⟩
theorem tX9_180 : bw_tl RX9 180 184 "java/lang/IllegalArgumentException" ["java/lang/RuntimeException", "java/lang/Exception"] := ⟨by decide +kernel, by decide +kernel, w_395, w_67, bw_tat (by decide +kernel)⟩
theorem lX9_185 : bw_fl RX9 185 7 0 := ⟨RX5, TX5, 3, rfl, by decide, uX_X5, w_631⟩
theorem lX9_188 : bw_fl RX9 188 7 1 := ⟨RX5, TX5, 3, rfl, by decide, uX_X5, w_635⟩
theorem sX9_191 : bw_cs RX9 191 mX9_placeIn 3 := ⟨⟨w_708, w_53, w_710, ⟨by decide, by decide⟩, by decide +kernel⟩, w_709⟩
theorem vX9_197 : bw_cv RX9 197 mX3_addMultiple 6 5 := ⟨⟨w_727, w_55, w_730, ⟨by decide, by decide⟩, by decide +kernel⟩, w_728, w_729, _, rfl, rfl⟩
theorem sX9_201 : bw_cs RX9 201 mX9_needSquare 1 := ⟨⟨w_738, w_53, w_740, ⟨by decide, by decide⟩, by decide +kernel⟩, w_739⟩
theorem lX9_52 : bw_fl RX9 52 11 1 := ⟨RX9, TX9, 17, rfl, by decide, uX_X9, w_317⟩
theorem vX9_205 : bw_cv RX9 205 mX1_load 1 3 := ⟨⟨w_742, w_57, w_745, ⟨by decide, by decide⟩, by decide +kernel⟩, w_743, w_744, _, rfl, rfl⟩
theorem vX9_208 : bw_cv RX9 208 mX1_appendIdentity 0 3 := ⟨⟨w_749, w_57, w_752, ⟨by decide, by decide⟩, by decide +kernel⟩, w_750, w_751, _, rfl, rfl⟩
theorem vX9_211 : bw_cv RX9 211 mX1_reduce 1 3 := ⟨⟨w_753, w_57, w_756, ⟨by decide, by decide⟩, by decide +kernel⟩, w_754, w_755, _, rfl, rfl⟩
theorem vX9_214 : bw_cv RX9 214 mX1_copyAppended 1 3 := ⟨⟨w_776, w_57, w_779, ⟨by decide, by decide⟩, by decide +kernel⟩, w_777, w_778, _, rfl, rfl⟩
theorem lX9_217 : bw_fl RX9 217 3 6 := ⟨RX1, TX1, 7, rfl, by decide, uX_X1, w_194⟩
theorem lX9_59 : bw_fl RX9 59 11 2 := ⟨RX9, TX9, 17, rfl, by decide, uX_X9, w_318⟩
theorem vX9_220 : bw_cv RX9 220 mX6_countZeros 1 8 := ⟨⟨w_801, w_58, w_804, ⟨by decide, by decide⟩, by decide +kernel⟩, w_802, w_803, _, rfl, rfl⟩
theorem vX9_225 : bw_cv RX9 225 mX1_appendColumn 1 3 := ⟨⟨w_831, w_57, w_834, ⟨by decide, by decide⟩, by decide +kernel⟩, w_832, w_833, _, rfl, rfl⟩
theorem vX9_229 : bw_cv RX9 229 mX1_leavesOver 1 3 := ⟨⟨w_835, w_57, w_838, ⟨by decide, by decide⟩, by decide +kernel⟩, w_836, w_837, _, rfl, rfl⟩
theorem vX9_232 : bw_cv RX9 232 mX1_solution 2 3 := ⟨⟨w_839, w_57, w_842, ⟨by decide, by decide⟩, by decide +kernel⟩, w_840, w_841, _, rfl, rfl⟩
theorem vX9_237 : bw_cv RX9 237 mX9_needPolynomialRoom 0 11 := ⟨⟨w_851, w_53, w_854, ⟨by decide, by decide⟩, by decide +kernel⟩, w_853, w_16, _, rfl, rfl⟩
theorem lX9_14 : bw_fl RX9 14 11 7 := ⟨RX9, TX9, 17, rfl, by decide, uX_X9, w_323⟩
theorem vX9_240 : bw_cv RX9 240 mX7_load 2 9 := ⟨⟨w_856, w_54, w_859, ⟨by decide, by decide⟩, by decide +kernel⟩, w_857, w_858, _, rfl, rfl⟩
theorem vX9_243 : bw_cv RX9 243 mX9_keepPolynomial 1 11 := ⟨⟨w_869, w_53, w_872, ⟨by decide, by decide⟩, by decide +kernel⟩, w_871, w_17, _, rfl, rfl⟩
theorem lX9_73 : bw_fl RX9 73 11 4 := ⟨RX9, TX9, 17, rfl, by decide, uX_X9, w_320⟩
theorem vX9_249 : bw_cv RX9 249 mX4_take 3 6 := ⟨⟨w_886, w_60, w_889, ⟨by decide, by decide⟩, by decide +kernel⟩, w_887, w_888, _, rfl, rfl⟩
theorem vX9_253 : bw_cv RX9 253 mX4_run 2 6 := ⟨⟨w_890, w_60, w_893, ⟨by decide, by decide⟩, by decide +kernel⟩, w_891, w_892, _, rfl, rfl⟩
theorem vX9_257 : bw_cv RX9 257 mX9_polynomialAt 1 11 := ⟨⟨w_909, w_53, w_912, ⟨by decide, by decide⟩, by decide +kernel⟩, w_911, w_19, _, rfl, rfl⟩
theorem lX9_261 : bw_fl RX9 261 9 1 := ⟨RX7, TX7, 3, rfl, by decide, uX_X7, w_101⟩
theorem lX9_266 : bw_fl RX9 266 9 0 := ⟨RX7, TX7, 3, rfl, by decide, uX_X7, w_95⟩
theorem vX9_269 : bw_cv RX9 269 mX9_valueOf 2 11 := ⟨⟨w_929, w_53, w_932, ⟨by decide, by decide⟩, by decide +kernel⟩, w_931, w_20, _, rfl, rfl⟩
theorem vX9_273 : bw_cv RX9 273 mX7_copyFrom 1 9 := ⟨⟨w_873, w_54, w_876, ⟨by decide, by decide⟩, by decide +kernel⟩, w_874, w_875, _, rfl, rfl⟩
theorem vX9_277 : bw_cv RX9 277 mX7_addScaled 3 9 := ⟨⟨w_940, w_54, w_943, ⟨by decide, by decide⟩, by decide +kernel⟩, w_941, w_942, _, rfl, rfl⟩
theorem vX9_281 : bw_cv RX9 281 mX7_clear 0 9 := ⟨⟨w_955, w_54, w_863, ⟨by decide, by decide⟩, by decide +kernel⟩, w_861, w_862, _, rfl, rfl⟩
theorem vX9_284 : bw_cv RX9 284 mX7_settle 1 9 := ⟨⟨w_956, w_54, w_868, ⟨by decide, by decide⟩, by decide +kernel⟩, w_866, w_867, _, rfl, rfl⟩
theorem vX9_289 : bw_cv RX9 289 mX0_toRest 2 2 := ⟨⟨w_965, w_59, w_968, ⟨by decide, by decide⟩, by decide +kernel⟩, w_966, w_967, _, rfl, rfl⟩
theorem vX9_293 : bw_cv RX9 293 mX0_toQuotient 2 2 := ⟨⟨w_977, w_59, w_980, ⟨by decide, by decide⟩, by decide +kernel⟩, w_978, w_979, _, rfl, rfl⟩
theorem lX9_18 : bw_fl RX9 18 11 8 := ⟨RX9, TX9, 17, rfl, by decide, uX_X9, w_324⟩
theorem vX9_296 : bw_cv RX9 296 mX0_toGreatestDivisor 2 2 := ⟨⟨w_993, w_59, w_996, ⟨by decide, by decide⟩, by decide +kernel⟩, w_994, w_995, _, rfl, rfl⟩
theorem lX9_301 : bw_fl RX9 301 5 1 := ⟨RX3, TX3, 6, rfl, by decide, uX_X3, w_159⟩
theorem lX9_82 : bw_fl RX9 82 11 5 := ⟨RX9, TX9, 17, rfl, by decide, uX_X9, w_321⟩
theorem vX9_304 : bw_cv RX9 304 mX8_find 2 10 := ⟨⟨w_1008, w_61, w_1011, ⟨by decide, by decide⟩, by decide +kernel⟩, w_1009, w_1010, _, rfl, rfl⟩
theorem vX9_307 : bw_cv RX9 307 mX0_takeOut 2 2 := ⟨⟨w_1045, w_59, w_1048, ⟨by decide, by decide⟩, by decide +kernel⟩, w_1046, w_1047, _, rfl, rfl⟩
theorem lX9_313 : bw_fl RX9 313 9 2 := ⟨RX7, TX7, 3, rfl, by decide, uX_X7, w_103⟩
theorem lX9_89 : bw_fl RX9 89 11 6 := ⟨RX9, TX9, 17, rfl, by decide, uX_X9, w_322⟩
theorem vX9_316 : bw_cv RX9 316 mX2_count 2 4 := ⟨⟨w_1057, w_62, w_1060, ⟨by decide, by decide⟩, by decide +kernel⟩, w_1058, w_1059, _, rfl, rfl⟩
theorem pX9_313 : bw_fp RX9 313 9 2 (.array .int) false := ⟨RX7, TX7, 3, tyX7, rfl, by decide, uX_X7, w_103, tyX7_ok, nmX7, rfl, (fun h => by first | rfl | (cases h)), rfl⟩
theorem vX9_320 : bw_cv RX9 320 mX9_hasXorOfAhead 0 11 := ⟨⟨w_1079, w_53, w_1082, ⟨by decide, by decide⟩, by decide +kernel⟩, w_1081, w_25, _, rfl, rfl⟩
theorem pX9_326 : bw_fp RX9 326 11 16 (.int) false := ⟨RX9, TX9, 17, tyX9, rfl, by decide, uX_X9, w_332, tyX9_ok, nmX9, rfl, (fun h => by first | rfl | (cases h)), rfl⟩
theorem lX9_326 : bw_fl RX9 326 11 16 := ⟨RX9, TX9, 17, rfl, by decide, uX_X9, w_332⟩
theorem lX9_35 : bw_fl RX9 35 11 15 := ⟨RX9, TX9, 17, rfl, by decide, uX_X9, w_331⟩
theorem vX9_329 : bw_cv RX9 329 mX9_xorOfChosen 2 11 := ⟨⟨w_1083, w_53, w_1086, ⟨by decide, by decide⟩, by decide +kernel⟩, w_1085, w_26, _, rfl, rfl⟩
theorem vX9_332 : bw_cv RX9 332 mX9_needSpan 0 11 := ⟨⟨w_1095, w_53, w_1098, ⟨by decide, by decide⟩, by decide +kernel⟩, w_1097, w_27, _, rfl, rfl⟩
theorem lX9_337 : bw_fl RX9 337 11 12 := ⟨RX9, TX9, 17, rfl, by decide, uX_X9, w_328⟩
theorem lX9_340 : bw_fl RX9 340 11 14 := ⟨RX9, TX9, 17, rfl, by decide, uX_X9, w_330⟩
theorem lX9_27 : bw_fl RX9 27 11 11 := ⟨RX9, TX9, 17, rfl, by decide, uX_X9, w_327⟩
theorem lX9_31 : bw_fl RX9 31 11 13 := ⟨RX9, TX9, 17, rfl, by decide, uX_X9, w_329⟩
theorem pX9_337 : bw_fp RX9 337 11 12 (.int) false := ⟨RX9, TX9, 17, tyX9, rfl, by decide, uX_X9, w_328, tyX9_ok, nmX9, rfl, (fun h => by first | rfl | (cases h)), rfl⟩
theorem pX9_340 : bw_fp RX9 340 11 14 (.int) false := ⟨RX9, TX9, 17, tyX9, rfl, by decide, uX_X9, w_330, tyX9_ok, nmX9, rfl, (fun h => by first | rfl | (cases h)), rfl⟩
theorem lX10_1 : bw_fl RX10 1 12 4 := ⟨RX10, TX10, 30, rfl, by decide, uX_X10, w_1160⟩
theorem pX10_1 : bw_fp RX10 1 12 4 (.int) false := ⟨RX10, TX10, 30, tyX10, rfl, by decide, uX_X10, w_1160, tyX10_ok, nmX10, rfl, (fun h => by first | rfl | (cases h)), rfl⟩
theorem pX10_13 : bw_fp RX10 13 12 6 (.array .int) true := ⟨RX10, TX10, 30, tyX10, rfl, by decide, uX_X10, w_1162, tyX10_ok, nmX10, rfl, (fun h => by first | rfl | (cases h)), rfl⟩
theorem pX10_17 : bw_fp RX10 17 12 8 (.array .int) true := ⟨RX10, TX10, 30, tyX10, rfl, by decide, uX_X10, w_1164, tyX10_ok, nmX10, rfl, (fun h => by first | rfl | (cases h)), rfl⟩
theorem pX10_20 : bw_fp RX10 20 12 9 (.array .int) true := ⟨RX10, TX10, 30, tyX10, rfl, by decide, uX_X10, w_1165, tyX10_ok, nmX10, rfl, (fun h => by first | rfl | (cases h)), rfl⟩
theorem pX10_23 : bw_fp RX10 23 12 10 (.array .int) true := ⟨RX10, TX10, 30, tyX10, rfl, by decide, uX_X10, w_1166, tyX10_ok, nmX10, rfl, (fun h => by first | rfl | (cases h)), rfl⟩
theorem kX10_26 : Cond.constant RX10 26 (65536) ∈ bw_uw := w_1126
theorem pX10_27 : bw_fp RX10 27 12 11 (.array .int) true := ⟨RX10, TX10, 30, tyX10, rfl, by decide, uX_X10, w_1167, tyX10_ok, nmX10, rfl, (fun h => by first | rfl | (cases h)), rfl⟩
theorem pX10_30 : bw_fp RX10 30 12 12 (.array .int) true := ⟨RX10, TX10, 30, tyX10, rfl, by decide, uX_X10, w_1168, tyX10_ok, nmX10, rfl, (fun h => by first | rfl | (cases h)), rfl⟩
theorem pX10_33 : bw_fp RX10 33 12 13 (.array .int) true := ⟨RX10, TX10, 30, tyX10, rfl, by decide, uX_X10, w_1169, tyX10_ok, nmX10, rfl, (fun h => by first | rfl | (cases h)), rfl⟩
theorem pX10_36 : bw_fp RX10 36 12 15 (.array .int) true := ⟨RX10, TX10, 30, tyX10, rfl, by decide, uX_X10, w_1171, tyX10_ok, nmX10, rfl, (fun h => by first | rfl | (cases h)), rfl⟩
theorem pX10_39 : bw_fp RX10 39 12 16 (.array .int) true := ⟨RX10, TX10, 30, tyX10, rfl, by decide, uX_X10, w_1172, tyX10_ok, nmX10, rfl, (fun h => by first | rfl | (cases h)), rfl⟩
theorem pX10_42 : bw_fp RX10 42 12 17 (.array .int) true := ⟨RX10, TX10, 30, tyX10, rfl, by decide, uX_X10, w_1173, tyX10_ok, nmX10, rfl, (fun h => by first | rfl | (cases h)), rfl⟩
theorem pX10_45 : bw_fp RX10 45 12 18 (.array .int) true := ⟨RX10, TX10, 30, tyX10, rfl, by decide, uX_X10, w_1174, tyX10_ok, nmX10, rfl, (fun h => by first | rfl | (cases h)), rfl⟩
theorem pX10_48 : bw_fp RX10 48 12 19 (.array .int) true := ⟨RX10, TX10, 30, tyX10, rfl, by decide, uX_X10, w_1175, tyX10_ok, nmX10, rfl, (fun h => by first | rfl | (cases h)), rfl⟩
theorem pX10_51 : bw_fp RX10 51 12 20 (.array .int) true := ⟨RX10, TX10, 30, tyX10, rfl, by decide, uX_X10, w_1176, tyX10_ok, nmX10, rfl, (fun h => by first | rfl | (cases h)), rfl⟩
theorem pX10_54 : bw_fp RX10 54 12 21 (.int) false := ⟨RX10, TX10, 30, tyX10, rfl, by decide, uX_X10, w_1177, tyX10_ok, nmX10, rfl, (fun h => by first | rfl | (cases h)), rfl⟩
theorem pX10_57 : bw_fp RX10 57 12 23 (.array .int) true := ⟨RX10, TX10, 30, tyX10, rfl, by decide, uX_X10, w_1179, tyX10_ok, nmX10, rfl, (fun h => by first | rfl | (cases h)), rfl⟩
theorem pX10_60 : bw_fp RX10 60 12 24 (.int) false := ⟨RX10, TX10, 30, tyX10, rfl, by decide, uX_X10, w_1180, tyX10_ok, nmX10, rfl, (fun h => by first | rfl | (cases h)), rfl⟩
theorem pX10_63 : bw_fp RX10 63 12 25 (.array .int) true := ⟨RX10, TX10, 30, tyX10, rfl, by decide, uX_X10, w_1181, tyX10_ok, nmX10, rfl, (fun h => by first | rfl | (cases h)), rfl⟩
theorem pX10_66 : bw_fp RX10 66 12 26 (.array .int) true := ⟨RX10, TX10, 30, tyX10, rfl, by decide, uX_X10, w_1182, tyX10_ok, nmX10, rfl, (fun h => by first | rfl | (cases h)), rfl⟩
theorem pX10_69 : bw_fp RX10 69 12 27 (.array .int) true := ⟨RX10, TX10, 30, tyX10, rfl, by decide, uX_X10, w_1183, tyX10_ok, nmX10, rfl, (fun h => by first | rfl | (cases h)), rfl⟩
theorem pX10_72 : bw_fp RX10 72 12 29 (.array .int) true := ⟨RX10, TX10, 30, tyX10, rfl, by decide, uX_X10, w_1185, tyX10_ok, nmX10, rfl, (fun h => by first | rfl | (cases h)), rfl⟩
theorem pX10_75 : bw_fp RX10 75 12 0 (.int) false := ⟨RX10, TX10, 30, tyX10, rfl, by decide, uX_X10, w_1156, tyX10_ok, nmX10, rfl, (fun h => by first | rfl | (cases h)), rfl⟩
theorem lX10_75 : bw_fl RX10 75 12 0 := ⟨RX10, TX10, 30, rfl, by decide, uX_X10, w_1156⟩
theorem pX10_78 : bw_fp RX10 78 12 2 (.int) false := ⟨RX10, TX10, 30, tyX10, rfl, by decide, uX_X10, w_1158, tyX10_ok, nmX10, rfl, (fun h => by first | rfl | (cases h)), rfl⟩
theorem lX10_78 : bw_fl RX10 78 12 2 := ⟨RX10, TX10, 30, rfl, by decide, uX_X10, w_1158⟩
theorem pX10_81 : bw_fp RX10 81 12 1 (.int) false := ⟨RX10, TX10, 30, tyX10, rfl, by decide, uX_X10, w_1157, tyX10_ok, nmX10, rfl, (fun h => by first | rfl | (cases h)), rfl⟩
theorem lX10_81 : bw_fl RX10 81 12 1 := ⟨RX10, TX10, 30, rfl, by decide, uX_X10, w_1157⟩
theorem vX10_84 : bw_cv RX10 84 mX10_isPrime 1 12 := ⟨⟨w_1127, w_63, w_1130, ⟨by decide, by decide⟩, by decide +kernel⟩, w_1129, w_28, _, rfl, rfl⟩
theorem pX10_88 : bw_fp RX10 88 12 3 (.int) false := ⟨RX10, TX10, 30, tyX10, rfl, by decide, uX_X10, w_1159, tyX10_ok, nmX10, rfl, (fun h => by first | rfl | (cases h)), rfl⟩
theorem lX10_88 : bw_fl RX10 88 12 3 := ⟨RX10, TX10, 30, rfl, by decide, uX_X10, w_1159⟩
theorem vX10_91 : bw_cv RX10 91 mX10_orderOf 1 12 := ⟨⟨w_1137, w_63, w_1140, ⟨by decide, by decide⟩, by decide +kernel⟩, w_1139, w_29, _, rfl, rfl⟩
theorem sX10_95 : bw_cs RX10 95 mX10_restOf 2 := ⟨⟨w_1131, w_63, w_1133, ⟨by decide, by decide⟩, by decide +kernel⟩, w_1132⟩
theorem sX10_99 : bw_cs RX10 99 mX10_degreeOf 1 := ⟨⟨w_1134, w_63, w_1136, ⟨by decide, by decide⟩, by decide +kernel⟩, w_1135⟩
theorem vX10_102 : bw_cv RX10 102 mX10_mul 2 12 := ⟨⟨w_1152, w_63, w_1155, ⟨by decide, by decide⟩, by decide +kernel⟩, w_1154, w_32, _, rfl, rfl⟩
theorem vX10_105 : bw_cv RX10 105 mX10_raised 2 12 := ⟨⟨w_1148, w_63, w_1151, ⟨by decide, by decide⟩, by decide +kernel⟩, w_1150, w_31, _, rfl, rfl⟩
theorem vX10_108 : bw_cv RX10 108 mX10_factors 0 12 := ⟨⟨w_1141, w_63, w_1144, ⟨by decide, by decide⟩, by decide +kernel⟩, w_1143, w_30, _, rfl, rfl⟩
theorem sX10_112 : bw_cs RX10 112 mX10_factor 1 := ⟨⟨w_1145, w_63, w_1147, ⟨by decide, by decide⟩, by decide +kernel⟩, w_1146⟩
theorem vX10_115 : bw_cv RX10 115 mX10_isMember 1 12 := ⟨⟨w_1259, w_63, w_1262, ⟨by decide, by decide⟩, by decide +kernel⟩, w_1261, w_33, _, rfl, rfl⟩
theorem vX10_118 : bw_cv RX10 118 mX10_fail 1 12 := ⟨⟨w_1263, w_63, w_1266, ⟨by decide, by decide⟩, by decide +kernel⟩, w_1265, w_34, _, rfl, rfl⟩
theorem vX10_121 : bw_cv RX10 121 mX10_inverse 1 12 := ⟨⟨w_1271, w_63, w_1274, ⟨by decide, by decide⟩, by decide +kernel⟩, w_1273, w_35, _, rfl, rfl⟩
theorem lX10_124 : bw_fl RX10 124 12 5 := ⟨RX10, TX10, 30, rfl, by decide, uX_X10, w_1161⟩
theorem lX10_13 : bw_fl RX10 13 12 6 := ⟨RX10, TX10, 30, rfl, by decide, uX_X10, w_1162⟩
theorem pX10_124 : bw_fp RX10 124 12 5 (.int) false := ⟨RX10, TX10, 30, tyX10, rfl, by decide, uX_X10, w_1161, tyX10_ok, nmX10, rfl, (fun h => by first | rfl | (cases h)), rfl⟩
theorem lX10_127 : bw_fl RX10 127 12 7 := ⟨RX10, TX10, 30, rfl, by decide, uX_X10, w_1163⟩
theorem lX10_17 : bw_fl RX10 17 12 8 := ⟨RX10, TX10, 30, rfl, by decide, uX_X10, w_1164⟩
theorem lX10_20 : bw_fl RX10 20 12 9 := ⟨RX10, TX10, 30, rfl, by decide, uX_X10, w_1165⟩
theorem lX10_23 : bw_fl RX10 23 12 10 := ⟨RX10, TX10, 30, rfl, by decide, uX_X10, w_1166⟩
theorem pX10_127 : bw_fp RX10 127 12 7 (.int) false := ⟨RX10, TX10, 30, tyX10, rfl, by decide, uX_X10, w_1163, tyX10_ok, nmX10, rfl, (fun h => by first | rfl | (cases h)), rfl⟩
theorem sX10_130 : bw_cs RX10 130 mX10_isSize 1 := ⟨⟨w_1303, w_63, w_1305, ⟨by decide, by decide⟩, by decide +kernel⟩, w_1304⟩
theorem vX10_133 : bw_cv RX10 133 mX10_made 2 12 := ⟨⟨w_1306, w_63, w_1309, ⟨by decide, by decide⟩, by decide +kernel⟩, w_1308, w_36, _, rfl, rfl⟩
theorem vX10_136 : bw_cv RX10 136 mX10_hasAlike 2 12 := ⟨⟨w_1314, w_63, w_1317, ⟨by decide, by decide⟩, by decide +kernel⟩, w_1316, w_37, _, rfl, rfl⟩
theorem vX10_140 : bw_cv RX10 140 mX10_at 3 12 := ⟨⟨w_1318, w_63, w_1321, ⟨by decide, by decide⟩, by decide +kernel⟩, w_1320, w_38, _, rfl, rfl⟩
theorem vX10_144 : bw_cv RX10 144 mX10_isMatrix 1 12 := ⟨⟨w_1330, w_63, w_1333, ⟨by decide, by decide⟩, by decide +kernel⟩, w_1332, w_39, _, rfl, rfl⟩
theorem vX10_147 : bw_cv RX10 147 mX10_isCell 3 12 := ⟨⟨w_1338, w_63, w_1341, ⟨by decide, by decide⟩, by decide +kernel⟩, w_1340, w_40, _, rfl, rfl⟩
theorem sX10_151 : bw_cs RX10 151 mX10_bitsOf 1 := ⟨⟨w_1358, w_63, w_1360, ⟨by decide, by decide⟩, by decide +kernel⟩, w_1359⟩
theorem lX10_27 : bw_fl RX10 27 12 11 := ⟨RX10, TX10, 30, rfl, by decide, uX_X10, w_1167⟩
theorem vX10_154 : bw_cv RX10 154 mX10_minors 1 12 := ⟨⟨w_1354, w_63, w_1357, ⟨by decide, by decide⟩, by decide +kernel⟩, w_1356, w_41, _, rfl, rfl⟩
theorem lX10_30 : bw_fl RX10 30 12 12 := ⟨RX10, TX10, 30, rfl, by decide, uX_X10, w_1168⟩
theorem lX10_33 : bw_fl RX10 33 12 13 := ⟨RX10, TX10, 30, rfl, by decide, uX_X10, w_1169⟩
theorem lX10_158 : bw_fl RX10 158 12 14 := ⟨RX10, TX10, 30, rfl, by decide, uX_X10, w_1170⟩
theorem sX10_161 : bw_cs RX10 161 mX10_nothing 1 := ⟨⟨w_1381, w_63, w_1383, ⟨by decide, by decide⟩, by decide +kernel⟩, w_1382⟩
theorem lX10_39 : bw_fl RX10 39 12 16 := ⟨RX10, TX10, 30, rfl, by decide, uX_X10, w_1172⟩
theorem lX10_36 : bw_fl RX10 36 12 15 := ⟨RX10, TX10, 30, rfl, by decide, uX_X10, w_1171⟩
theorem sX10_165 : bw_cs RX10 165 mX10_high 1 := ⟨⟨w_1384, w_63, w_1386, ⟨by decide, by decide⟩, by decide +kernel⟩, w_1385⟩
theorem pX10_158 : bw_fp RX10 158 12 14 (.int) false := ⟨RX10, TX10, 30, tyX10, rfl, by decide, uX_X10, w_1170, tyX10_ok, nmX10, rfl, (fun h => by first | rfl | (cases h)), rfl⟩
theorem lX10_42 : bw_fl RX10 42 12 17 := ⟨RX10, TX10, 30, rfl, by decide, uX_X10, w_1173⟩
theorem vX10_169 : bw_cv RX10 169 mX10_kept 1 12 := ⟨⟨w_1387, w_63, w_1390, ⟨by decide, by decide⟩, by decide +kernel⟩, w_1389, w_42, _, rfl, rfl⟩
theorem vX10_172 : bw_cv RX10 172 mX10_at_ 2 12 := ⟨⟨w_1403, w_63, w_1406, ⟨by decide, by decide⟩, by decide +kernel⟩, w_1405, w_45, _, rfl, rfl⟩
theorem lX10_45 : bw_fl RX10 45 12 18 := ⟨RX10, TX10, 30, rfl, by decide, uX_X10, w_1174⟩
theorem vX10_175 : bw_cv RX10 175 mX10_begin 0 12 := ⟨⟨w_1395, w_63, w_1398, ⟨by decide, by decide⟩, by decide +kernel⟩, w_1397, w_43, _, rfl, rfl⟩
theorem vX10_178 : bw_cv RX10 178 mX10_point 2 12 := ⟨⟨w_1399, w_63, w_1402, ⟨by decide, by decide⟩, by decide +kernel⟩, w_1401, w_44, _, rfl, rfl⟩
theorem vX10_182 : bw_cv RX10 182 mX10_isPolynomial 1 12 := ⟨⟨w_1411, w_63, w_1414, ⟨by decide, by decide⟩, by decide +kernel⟩, w_1413, w_46, _, rfl, rfl⟩
theorem vX10_185 : bw_cv RX10 185 mX10_load 2 12 := ⟨⟨w_1423, w_63, w_1426, ⟨by decide, by decide⟩, by decide +kernel⟩, w_1425, w_47, _, rfl, rfl⟩
theorem lX10_48 : bw_fl RX10 48 12 19 := ⟨RX10, TX10, 30, rfl, by decide, uX_X10, w_1175⟩
theorem vX10_189 : bw_cv RX10 189 mX10_split 2 12 := ⟨⟨w_1439, w_63, w_1442, ⟨by decide, by decide⟩, by decide +kernel⟩, w_1441, w_48, _, rfl, rfl⟩
theorem lX10_51 : bw_fl RX10 51 12 20 := ⟨RX10, TX10, 30, rfl, by decide, uX_X10, w_1176⟩
theorem sX10_193 : bw_cs RX10 193 mX10_copy 2 := ⟨⟨w_1451, w_63, w_1453, ⟨by decide, by decide⟩, by decide +kernel⟩, w_1452⟩
theorem vX10_196 : bw_cv RX10 196 mX10_divisor 2 12 := ⟨⟨w_1447, w_63, w_1450, ⟨by decide, by decide⟩, by decide +kernel⟩, w_1449, w_49, _, rfl, rfl⟩
theorem lX10_54 : bw_fl RX10 54 12 21 := ⟨RX10, TX10, 30, rfl, by decide, uX_X10, w_1177⟩
theorem pX10_199 : bw_fp RX10 199 12 22 (.int) false := ⟨RX10, TX10, 30, tyX10, rfl, by decide, uX_X10, w_1178, tyX10_ok, nmX10, rfl, (fun h => by first | rfl | (cases h)), rfl⟩
theorem lX10_199 : bw_fl RX10 199 12 22 := ⟨RX10, TX10, 30, rfl, by decide, uX_X10, w_1178⟩
theorem lX10_57 : bw_fl RX10 57 12 23 := ⟨RX10, TX10, 30, rfl, by decide, uX_X10, w_1179⟩
theorem lX10_66 : bw_fl RX10 66 12 26 := ⟨RX10, TX10, 30, rfl, by decide, uX_X10, w_1182⟩
theorem lX10_63 : bw_fl RX10 63 12 25 := ⟨RX10, TX10, 30, rfl, by decide, uX_X10, w_1181⟩
theorem lX10_69 : bw_fl RX10 69 12 27 := ⟨RX10, TX10, 30, rfl, by decide, uX_X10, w_1183⟩
theorem vX10_202 : bw_cv RX10 202 mX10_square 1 12 := ⟨⟨w_1470, w_63, w_1473, ⟨by decide, by decide⟩, by decide +kernel⟩, w_1472, w_51, _, rfl, rfl⟩
theorem lX10_60 : bw_fl RX10 60 12 24 := ⟨RX10, TX10, 30, rfl, by decide, uX_X10, w_1180⟩
theorem vX10_205 : bw_cv RX10 205 mX10_lookAtParts 1 12 := ⟨⟨w_1466, w_63, w_1469, ⟨by decide, by decide⟩, by decide +kernel⟩, w_1468, w_50, _, rfl, rfl⟩
theorem lX10_72 : bw_fl RX10 72 12 29 := ⟨RX10, TX10, 30, rfl, by decide, uX_X10, w_1185⟩
theorem pX10_208 : bw_fp RX10 208 12 28 (.int) false := ⟨RX10, TX10, 30, tyX10, rfl, by decide, uX_X10, w_1184, tyX10_ok, nmX10, rfl, (fun h => by first | rfl | (cases h)), rfl⟩
theorem lX10_208 : bw_fl RX10 208 12 28 := ⟨RX10, TX10, 30, rfl, by decide, uX_X10, w_1184⟩
theorem kJ6_264 : Cond.constant RJ6 264 (65536) ∈ bw_uw := w_136
theorem kJ6_265 : Cond.constant RJ6 265 (1431655765) ∈ bw_uw := w_808
theorem kJ6_266 : Cond.constant RJ6 266 (858993459) ∈ bw_uw := w_809
theorem kJ6_267 : Cond.constant RJ6 267 (252645135) ∈ bw_uw := w_810
theorem vL_7 : bw_cv RL 7 mX9_product 2 11 := ⟨⟨w_387, w_53, w_390, ⟨by decide, by decide⟩, by decide +kernel⟩, w_388, w_389, _, rfl, rfl⟩
theorem vL_15 : bw_cv RL 15 mX9_quotient 2 11 := ⟨⟨w_489, w_53, w_492, ⟨by decide, by decide⟩, by decide +kernel⟩, w_490, w_491, _, rfl, rfl⟩
theorem vL_20 : bw_cv RL 20 mX9_power 2 11 := ⟨⟨w_508, w_53, w_511, ⟨by decide, by decide⟩, by decide +kernel⟩, w_509, w_510, _, rfl, rfl⟩
theorem vL_24 : bw_cv RL 24 mX9_log 1 11 := ⟨⟨w_543, w_53, w_546, ⟨by decide, by decide⟩, by decide +kernel⟩, w_544, w_545, _, rfl, rfl⟩
theorem vL_30 : bw_cv RL 30 mX9_order 1 11 := ⟨⟨w_554, w_53, w_557, ⟨by decide, by decide⟩, by decide +kernel⟩, w_555, w_556, _, rfl, rfl⟩
theorem vL_33 : bw_cv RL 33 mX9_put 1 11 := ⟨⟨w_566, w_53, w_569, ⟨by decide, by decide⟩, by decide +kernel⟩, w_567, w_568, _, rfl, rfl⟩
theorem vL_38 : bw_cv RL 38 mX9_row 1 11 := ⟨⟨w_590, w_53, w_593, ⟨by decide, by decide⟩, by decide +kernel⟩, w_591, w_592, _, rfl, rfl⟩
theorem vL_43 : bw_cv RL 43 mX9_matrix 2 11 := ⟨⟨w_610, w_53, w_613, ⟨by decide, by decide⟩, by decide +kernel⟩, w_611, w_612, _, rfl, rfl⟩
theorem vL_46 : bw_cv RL 46 mX9_powers 2 11 := ⟨⟨w_655, w_53, w_658, ⟨by decide, by decide⟩, by decide +kernel⟩, w_656, w_657, _, rfl, rfl⟩
theorem vL_51 : bw_cv RL 51 mX9_sums 2 11 := ⟨⟨w_682, w_53, w_685, ⟨by decide, by decide⟩, by decide +kernel⟩, w_683, w_684, _, rfl, rfl⟩
theorem vL_54 : bw_cv RL 54 mX9_size 2 11 := ⟨⟨w_691, w_53, w_694, ⟨by decide, by decide⟩, by decide +kernel⟩, w_692, w_693, _, rfl, rfl⟩
theorem vL_57 : bw_cv RL 57 mX9_cell 3 11 := ⟨⟨w_704, w_53, w_707, ⟨by decide, by decide⟩, by decide +kernel⟩, w_705, w_706, _, rfl, rfl⟩
theorem vL_61 : bw_cv RL 61 mX9_set 4 11 := ⟨⟨w_715, w_53, w_718, ⟨by decide, by decide⟩, by decide +kernel⟩, w_716, w_717, _, rfl, rfl⟩
theorem vL_65 : bw_cv RL 65 mX9_times 2 11 := ⟨⟨w_722, w_53, w_725, ⟨by decide, by decide⟩, by decide +kernel⟩, w_723, w_724, _, rfl, rfl⟩
theorem vL_68 : bw_cv RL 68 mX9_invert 1 11 := ⟨⟨w_734, w_53, w_737, ⟨by decide, by decide⟩, by decide +kernel⟩, w_735, w_736, _, rfl, rfl⟩
theorem vL_71 : bw_cv RL 71 mX9_rank 1 11 := ⟨⟨w_783, w_53, w_786, ⟨by decide, by decide⟩, by decide +kernel⟩, w_784, w_785, _, rfl, rfl⟩
theorem vL_74 : bw_cv RL 74 mX9_determinant 1 11 := ⟨⟨w_790, w_53, w_793, ⟨by decide, by decide⟩, by decide +kernel⟩, w_791, w_792, _, rfl, rfl⟩
theorem vL_77 : bw_cv RL 77 mX9_singular 1 11 := ⟨⟨w_797, w_53, w_800, ⟨by decide, by decide⟩, by decide +kernel⟩, w_798, w_799, _, rfl, rfl⟩
theorem vL_80 : bw_cv RL 80 mX9_solve 1 11 := ⟨⟨w_826, w_53, w_829, ⟨by decide, by decide⟩, by decide +kernel⟩, w_827, w_828, _, rfl, rfl⟩
theorem vL_83 : bw_cv RL 83 mX9_polynomial 0 11 := ⟨⟨w_846, w_53, w_849, ⟨by decide, by decide⟩, by decide +kernel⟩, w_847, w_848, _, rfl, rfl⟩
theorem vL_87 : bw_cv RL 87 mX9_through 0 11 := ⟨⟨w_881, w_53, w_884, ⟨by decide, by decide⟩, by decide +kernel⟩, w_882, w_883, _, rfl, rfl⟩
theorem vL_90 : bw_cv RL 90 mX9_degree 1 11 := ⟨⟨w_905, w_53, w_908, ⟨by decide, by decide⟩, by decide +kernel⟩, w_906, w_907, _, rfl, rfl⟩
theorem vL_93 : bw_cv RL 93 mX9_coefficient 2 11 := ⟨⟨w_917, w_53, w_920, ⟨by decide, by decide⟩, by decide +kernel⟩, w_918, w_919, _, rfl, rfl⟩
theorem vL_96 : bw_cv RL 96 mX9_value 2 11 := ⟨⟨w_925, w_53, w_928, ⟨by decide, by decide⟩, by decide +kernel⟩, w_926, w_927, _, rfl, rfl⟩
theorem vL_99 : bw_cv RL 99 mX9_plus 2 11 := ⟨⟨w_936, w_53, w_939, ⟨by decide, by decide⟩, by decide +kernel⟩, w_937, w_938, _, rfl, rfl⟩
theorem vL_102 : bw_cv RL 102 mX9_multiply 2 11 := ⟨⟨w_951, w_53, w_954, ⟨by decide, by decide⟩, by decide +kernel⟩, w_952, w_953, _, rfl, rfl⟩
theorem vL_105 : bw_cv RL 105 mX9_divide 3 11 := ⟨⟨w_960, w_53, w_963, ⟨by decide, by decide⟩, by decide +kernel⟩, w_961, w_962, _, rfl, rfl⟩
theorem vL_109 : bw_cv RL 109 mX9_common 2 11 := ⟨⟨w_989, w_53, w_992, ⟨by decide, by decide⟩, by decide +kernel⟩, w_990, w_991, _, rfl, rfl⟩
theorem vL_112 : bw_cv RL 112 mX9_root 2 11 := ⟨⟨w_1003, w_53, w_1006, ⟨by decide, by decide⟩, by decide +kernel⟩, w_1004, w_1005, _, rfl, rfl⟩
theorem vL_115 : bw_cv RL 115 mX9_often 2 11 := ⟨⟨w_1041, w_53, w_1044, ⟨by decide, by decide⟩, by decide +kernel⟩, w_1042, w_1043, _, rfl, rfl⟩
theorem vL_118 : bw_cv RL 118 mX9_parts 2 11 := ⟨⟨w_1052, w_53, w_1055, ⟨by decide, by decide⟩, by decide +kernel⟩, w_1053, w_1054, _, rfl, rfl⟩
theorem vL_121 : bw_cv RL 121 mX9_span 0 11 := ⟨⟨w_1075, w_53, w_1078, ⟨by decide, by decide⟩, by decide +kernel⟩, w_1076, w_1077, _, rfl, rfl⟩
theorem vL_124 : bw_cv RL 124 mX9_forth 1 11 := ⟨⟨w_1091, w_53, w_1094, ⟨by decide, by decide⟩, by decide +kernel⟩, w_1092, w_1093, _, rfl, rfl⟩
theorem vL_127 : bw_cv RL 127 mX9_back 0 11 := ⟨⟨w_1103, w_53, w_1106, ⟨by decide, by decide⟩, by decide +kernel⟩, w_1104, w_1105, _, rfl, rfl⟩
theorem vL_130 : bw_cv RL 130 mX9_told 1 11 := ⟨⟨w_1111, w_53, w_1114, ⟨by decide, by decide⟩, by decide +kernel⟩, w_1112, w_1113, _, rfl, rfl⟩
theorem nL_8 : bw_nl RL 8 11 17 [.null, .null, .null, .null, .null, .null, .null, .null, .null, .null, .int 0, .null, .int 0, .null, .int 0, .null, .int 0] := ⟨RX9, TX9, tyX9, rfl, uX_X9, tyX9_ok, w_77, w_78, w_53, by decide⟩
theorem sL_133 : bw_cs RL 133 mL_cell 2 := ⟨⟨w_380, w_52, w_382, ⟨by decide, by decide⟩, by decide +kernel⟩, w_381⟩
theorem iL_138 : bw_ci RL 138 mX9_init 2 := ⟨⟨w_79, w_53, w_81, ⟨by decide, by decide⟩, by decide +kernel⟩, w_80, rfl, rfl⟩
theorem nL_141 : bw_nl RL 141 12 30 [.int 0, .int 0, .int 0, .int 0, .int 0, .int 0, .null, .int 0, .null, .null, .null, .null, .null, .null, .int 0, .null, .null, .null, .null, .null, .null, .int 0, .int 0, .null, .int 0, .null, .null, .null, .int 0, .null] := ⟨RX10, TX10, tyX10, rfl, uX_X10, tyX10_ok, w_1120, w_1121, w_63, by decide⟩
theorem iL_143 : bw_ci RL 143 mX10_init 2 := ⟨⟨w_1122, w_63, w_1124, ⟨by decide, by decide⟩, by decide +kernel⟩, w_1123, rfl, rfl⟩
theorem vL_144 : bw_cv RL 144 mX9_poly 0 11 := ⟨⟨w_368, w_53, w_371, ⟨by decide, by decide⟩, by decide +kernel⟩, w_369, w_370, _, rfl, rfl⟩
theorem vL_147 : bw_cv RL 147 mX10_poly 0 12 := ⟨⟨w_1247, w_63, w_1250, ⟨by decide, by decide⟩, by decide +kernel⟩, w_1248, w_1249, _, rfl, rfl⟩
theorem vL_148 : bw_cv RL 148 mX9_generator 0 11 := ⟨⟨w_372, w_53, w_375, ⟨by decide, by decide⟩, by decide +kernel⟩, w_373, w_374, _, rfl, rfl⟩
theorem vL_151 : bw_cv RL 151 mX10_generator 0 12 := ⟨⟨w_1251, w_63, w_1254, ⟨by decide, by decide⟩, by decide +kernel⟩, w_1252, w_1253, _, rfl, rfl⟩
theorem hL_152 : bw_ch RL 152 mL_product 4 := ⟨w_383, w_52, w_385, w_384, ⟨by decide, by decide⟩, by decide +kernel⟩
theorem vL_155 : bw_cv RL 155 mX10_product 2 12 := ⟨⟨w_1255, w_63, w_1258, ⟨by decide, by decide⟩, by decide +kernel⟩, w_1256, w_1257, _, rfl, rfl⟩
theorem vL_156 : bw_cv RL 156 mX10_thrown 0 12 := ⟨⟨w_1116, w_63, w_1119, ⟨by decide, by decide⟩, by decide +kernel⟩, w_1117, w_1118, _, rfl, rfl⟩
theorem hL_159 : bw_ch RL 159 mL_quotient 4 := ⟨w_467, w_52, w_469, w_468, ⟨by decide, by decide⟩, by decide +kernel⟩
theorem vL_161 : bw_cv RL 161 mX10_quotient 2 12 := ⟨⟨w_1267, w_63, w_1270, ⟨by decide, by decide⟩, by decide +kernel⟩, w_1268, w_1269, _, rfl, rfl⟩
theorem kL_162 : Cond.constantLong RL 162 (4294967295) ∈ bw_uw := w_1490
theorem hL_164 : bw_ch RL 164 mL_power 4 := ⟨w_505, w_52, w_507, w_506, ⟨by decide, by decide⟩, by decide +kernel⟩
theorem vL_167 : bw_cv RL 167 mX10_power 2 12 := ⟨⟨w_1275, w_63, w_1278, ⟨by decide, by decide⟩, by decide +kernel⟩, w_1276, w_1277, _, rfl, rfl⟩
theorem hL_168 : bw_ch RL 168 mL_log 3 := ⟨w_521, w_52, w_523, w_522, ⟨by decide, by decide⟩, by decide +kernel⟩
theorem vL_171 : bw_cv RL 171 mX10_log 1 12 := ⟨⟨w_1279, w_63, w_1282, ⟨by decide, by decide⟩, by decide +kernel⟩, w_1280, w_1281, _, rfl, rfl⟩
theorem hL_172 : bw_ch RL 172 mL_order 3 := ⟨w_551, w_52, w_553, w_552, ⟨by decide, by decide⟩, by decide +kernel⟩
theorem vL_174 : bw_cv RL 174 mX10_order 1 12 := ⟨⟨w_1283, w_63, w_1286, ⟨by decide, by decide⟩, by decide +kernel⟩, w_1284, w_1285, _, rfl, rfl⟩
theorem hL_175 : bw_ch RL 175 mL_put 3 := ⟨w_562, w_52, w_564, w_563, ⟨by decide, by decide⟩, by decide +kernel⟩
theorem vL_177 : bw_cv RL 177 mX10_put 1 12 := ⟨⟨w_1287, w_63, w_1290, ⟨by decide, by decide⟩, by decide +kernel⟩, w_1288, w_1289, _, rfl, rfl⟩
theorem hL_178 : bw_ch RL 178 mL_row 3 := ⟨w_586, w_52, w_588, w_587, ⟨by decide, by decide⟩, by decide +kernel⟩
theorem vL_180 : bw_cv RL 180 mX10_row 1 12 := ⟨⟨w_1291, w_63, w_1294, ⟨by decide, by decide⟩, by decide +kernel⟩, w_1292, w_1293, _, rfl, rfl⟩
theorem vL_181 : bw_cv RL 181 mX9_drop 0 11 := ⟨⟨w_376, w_53, w_379, ⟨by decide, by decide⟩, by decide +kernel⟩, w_377, w_378, _, rfl, rfl⟩
theorem vL_184 : bw_cv RL 184 mX10_drop 0 12 := ⟨⟨w_1295, w_63, w_1298, ⟨by decide, by decide⟩, by decide +kernel⟩, w_1296, w_1297, _, rfl, rfl⟩
theorem hL_185 : bw_ch RL 185 mL_matrix 4 := ⟨w_607, w_52, w_609, w_608, ⟨by decide, by decide⟩, by decide +kernel⟩
theorem vL_187 : bw_cv RL 187 mX10_matrix 2 12 := ⟨⟨w_1299, w_63, w_1302, ⟨by decide, by decide⟩, by decide +kernel⟩, w_1300, w_1301, _, rfl, rfl⟩
theorem hL_188 : bw_ch RL 188 mL_powers 4 := ⟨w_651, w_52, w_653, w_652, ⟨by decide, by decide⟩, by decide +kernel⟩
theorem vL_190 : bw_cv RL 190 mX10_powers 2 12 := ⟨⟨w_1310, w_63, w_1313, ⟨by decide, by decide⟩, by decide +kernel⟩, w_1311, w_1312, _, rfl, rfl⟩
theorem hL_191 : bw_ch RL 191 mL_sums 4 := ⟨w_679, w_52, w_681, w_680, ⟨by decide, by decide⟩, by decide +kernel⟩
theorem vL_193 : bw_cv RL 193 mX10_sums 2 12 := ⟨⟨w_1322, w_63, w_1325, ⟨by decide, by decide⟩, by decide +kernel⟩, w_1323, w_1324, _, rfl, rfl⟩
theorem hL_194 : bw_ch RL 194 mL_size 4 := ⟨w_688, w_52, w_690, w_689, ⟨by decide, by decide⟩, by decide +kernel⟩
theorem vL_196 : bw_cv RL 196 mX10_size 2 12 := ⟨⟨w_1326, w_63, w_1329, ⟨by decide, by decide⟩, by decide +kernel⟩, w_1327, w_1328, _, rfl, rfl⟩
theorem hL_197 : bw_ch RL 197 mL_cell_ 5 := ⟨w_701, w_52, w_703, w_702, ⟨by decide, by decide⟩, by decide +kernel⟩
theorem vL_200 : bw_cv RL 200 mX10_cell 3 12 := ⟨⟨w_1334, w_63, w_1337, ⟨by decide, by decide⟩, by decide +kernel⟩, w_1335, w_1336, _, rfl, rfl⟩
theorem hL_201 : bw_ch RL 201 mL_set 6 := ⟨w_712, w_52, w_714, w_713, ⟨by decide, by decide⟩, by decide +kernel⟩
theorem vL_204 : bw_cv RL 204 mX10_set 4 12 := ⟨⟨w_1342, w_63, w_1345, ⟨by decide, by decide⟩, by decide +kernel⟩, w_1343, w_1344, _, rfl, rfl⟩
theorem hL_205 : bw_ch RL 205 mL_times 4 := ⟨w_719, w_52, w_721, w_720, ⟨by decide, by decide⟩, by decide +kernel⟩
theorem vL_207 : bw_cv RL 207 mX10_times 2 12 := ⟨⟨w_1346, w_63, w_1349, ⟨by decide, by decide⟩, by decide +kernel⟩, w_1347, w_1348, _, rfl, rfl⟩
theorem hL_208 : bw_ch RL 208 mL_invert 3 := ⟨w_731, w_52, w_733, w_732, ⟨by decide, by decide⟩, by decide +kernel⟩
theorem vL_210 : bw_cv RL 210 mX10_invert 1 12 := ⟨⟨w_1365, w_63, w_1368, ⟨by decide, by decide⟩, by decide +kernel⟩, w_1366, w_1367, _, rfl, rfl⟩
theorem hL_211 : bw_ch RL 211 mL_rank 3 := ⟨w_780, w_52, w_782, w_781, ⟨by decide, by decide⟩, by decide +kernel⟩
theorem vL_213 : bw_cv RL 213 mX10_rank 1 12 := ⟨⟨w_1369, w_63, w_1372, ⟨by decide, by decide⟩, by decide +kernel⟩, w_1370, w_1371, _, rfl, rfl⟩
theorem hL_214 : bw_ch RL 214 mL_determinant 3 := ⟨w_787, w_52, w_789, w_788, ⟨by decide, by decide⟩, by decide +kernel⟩
theorem vL_216 : bw_cv RL 216 mX10_determinant 1 12 := ⟨⟨w_1361, w_63, w_1364, ⟨by decide, by decide⟩, by decide +kernel⟩, w_1362, w_1363, _, rfl, rfl⟩
theorem hL_217 : bw_ch RL 217 mL_singular 3 := ⟨w_794, w_52, w_796, w_795, ⟨by decide, by decide⟩, by decide +kernel⟩
theorem vL_219 : bw_cv RL 219 mX10_singular 1 12 := ⟨⟨w_1350, w_63, w_1353, ⟨by decide, by decide⟩, by decide +kernel⟩, w_1351, w_1352, _, rfl, rfl⟩
theorem hL_220 : bw_ch RL 220 mL_solve 3 := ⟨w_823, w_52, w_825, w_824, ⟨by decide, by decide⟩, by decide +kernel⟩
theorem vL_222 : bw_cv RL 222 mX10_solve 1 12 := ⟨⟨w_1373, w_63, w_1376, ⟨by decide, by decide⟩, by decide +kernel⟩, w_1374, w_1375, _, rfl, rfl⟩
theorem hL_223 : bw_ch RL 223 mL_polynomial 2 := ⟨w_843, w_52, w_845, w_844, ⟨by decide, by decide⟩, by decide +kernel⟩
theorem vL_226 : bw_cv RL 226 mX10_polynomial 0 12 := ⟨⟨w_1377, w_63, w_1380, ⟨by decide, by decide⟩, by decide +kernel⟩, w_1378, w_1379, _, rfl, rfl⟩
theorem hL_227 : bw_ch RL 227 mL_through 2 := ⟨w_878, w_52, w_880, w_879, ⟨by decide, by decide⟩, by decide +kernel⟩
theorem vL_229 : bw_cv RL 229 mX10_through 0 12 := ⟨⟨w_1391, w_63, w_1394, ⟨by decide, by decide⟩, by decide +kernel⟩, w_1392, w_1393, _, rfl, rfl⟩
theorem hL_230 : bw_ch RL 230 mL_degree 3 := ⟨w_902, w_52, w_904, w_903, ⟨by decide, by decide⟩, by decide +kernel⟩
theorem vL_232 : bw_cv RL 232 mX10_degree 1 12 := ⟨⟨w_1407, w_63, w_1410, ⟨by decide, by decide⟩, by decide +kernel⟩, w_1408, w_1409, _, rfl, rfl⟩
theorem hL_233 : bw_ch RL 233 mL_coefficient 4 := ⟨w_914, w_52, w_916, w_915, ⟨by decide, by decide⟩, by decide +kernel⟩
theorem vL_235 : bw_cv RL 235 mX10_coefficient 2 12 := ⟨⟨w_1415, w_63, w_1418, ⟨by decide, by decide⟩, by decide +kernel⟩, w_1416, w_1417, _, rfl, rfl⟩
theorem hL_236 : bw_ch RL 236 mL_value 4 := ⟨w_922, w_52, w_924, w_923, ⟨by decide, by decide⟩, by decide +kernel⟩
theorem vL_238 : bw_cv RL 238 mX10_value 2 12 := ⟨⟨w_1419, w_63, w_1422, ⟨by decide, by decide⟩, by decide +kernel⟩, w_1420, w_1421, _, rfl, rfl⟩
theorem hL_239 : bw_ch RL 239 mL_plus 4 := ⟨w_933, w_52, w_935, w_934, ⟨by decide, by decide⟩, by decide +kernel⟩
theorem vL_241 : bw_cv RL 241 mX10_plus 2 12 := ⟨⟨w_1427, w_63, w_1430, ⟨by decide, by decide⟩, by decide +kernel⟩, w_1428, w_1429, _, rfl, rfl⟩
theorem hL_242 : bw_ch RL 242 mL_multiply 4 := ⟨w_948, w_52, w_950, w_949, ⟨by decide, by decide⟩, by decide +kernel⟩
theorem vL_244 : bw_cv RL 244 mX10_multiply 2 12 := ⟨⟨w_1431, w_63, w_1434, ⟨by decide, by decide⟩, by decide +kernel⟩, w_1432, w_1433, _, rfl, rfl⟩
theorem hL_245 : bw_ch RL 245 mL_divide 5 := ⟨w_957, w_52, w_959, w_958, ⟨by decide, by decide⟩, by decide +kernel⟩
theorem vL_248 : bw_cv RL 248 mX10_divide 3 12 := ⟨⟨w_1435, w_63, w_1438, ⟨by decide, by decide⟩, by decide +kernel⟩, w_1436, w_1437, _, rfl, rfl⟩
theorem hL_249 : bw_ch RL 249 mL_common 4 := ⟨w_986, w_52, w_988, w_987, ⟨by decide, by decide⟩, by decide +kernel⟩
theorem vL_251 : bw_cv RL 251 mX10_common 2 12 := ⟨⟨w_1443, w_63, w_1446, ⟨by decide, by decide⟩, by decide +kernel⟩, w_1444, w_1445, _, rfl, rfl⟩
theorem hL_252 : bw_ch RL 252 mL_root 4 := ⟨w_1000, w_52, w_1002, w_1001, ⟨by decide, by decide⟩, by decide +kernel⟩
theorem vL_254 : bw_cv RL 254 mX10_root 2 12 := ⟨⟨w_1454, w_63, w_1457, ⟨by decide, by decide⟩, by decide +kernel⟩, w_1455, w_1456, _, rfl, rfl⟩
theorem hL_255 : bw_ch RL 255 mL_often 4 := ⟨w_1038, w_52, w_1040, w_1039, ⟨by decide, by decide⟩, by decide +kernel⟩
theorem vL_257 : bw_cv RL 257 mX10_often 2 12 := ⟨⟨w_1458, w_63, w_1461, ⟨by decide, by decide⟩, by decide +kernel⟩, w_1459, w_1460, _, rfl, rfl⟩
theorem hL_258 : bw_ch RL 258 mL_parts 4 := ⟨w_1049, w_52, w_1051, w_1050, ⟨by decide, by decide⟩, by decide +kernel⟩
theorem vL_260 : bw_cv RL 260 mX10_parts 2 12 := ⟨⟨w_1462, w_63, w_1465, ⟨by decide, by decide⟩, by decide +kernel⟩, w_1463, w_1464, _, rfl, rfl⟩
theorem hL_261 : bw_ch RL 261 mL_span 2 := ⟨w_1072, w_52, w_1074, w_1073, ⟨by decide, by decide⟩, by decide +kernel⟩
theorem vL_263 : bw_cv RL 263 mX10_span 0 12 := ⟨⟨w_1474, w_63, w_1477, ⟨by decide, by decide⟩, by decide +kernel⟩, w_1475, w_1476, _, rfl, rfl⟩
theorem hL_264 : bw_ch RL 264 mL_forth 3 := ⟨w_1088, w_52, w_1090, w_1089, ⟨by decide, by decide⟩, by decide +kernel⟩
theorem vL_266 : bw_cv RL 266 mX10_forth 1 12 := ⟨⟨w_1478, w_63, w_1481, ⟨by decide, by decide⟩, by decide +kernel⟩, w_1479, w_1480, _, rfl, rfl⟩
theorem hL_267 : bw_ch RL 267 mL_back 2 := ⟨w_1100, w_52, w_1102, w_1101, ⟨by decide, by decide⟩, by decide +kernel⟩
theorem vL_269 : bw_cv RL 269 mX10_back 0 12 := ⟨⟨w_1482, w_63, w_1485, ⟨by decide, by decide⟩, by decide +kernel⟩, w_1483, w_1484, _, rfl, rfl⟩
theorem hL_270 : bw_ch RL 270 mL_told 3 := ⟨w_1108, w_52, w_1110, w_1109, ⟨by decide, by decide⟩, by decide +kernel⟩
theorem vL_272 : bw_cv RL 272 mX10_told 1 12 := ⟨⟨w_1486, w_63, w_1489, ⟨by decide, by decide⟩, by decide +kernel⟩, w_1487, w_1488, _, rfl, rfl⟩
theorem oX0_3 : Cond.methodLink RX0 3 Lib.objectInit ∈ bw_uw := w_229
theorem oX1_3 : Cond.methodLink RX1 3 Lib.objectInit ∈ bw_uw := w_184
theorem aX1_41 : Cond.methodLink RX1 41 arraycopyName ∈ bw_uw := w_746
theorem oX2_3 : Cond.methodLink RX2 3 Lib.objectInit ∈ bw_uw := w_294
theorem oX3_1 : Cond.methodLink RX3 1 Lib.objectInit ∈ bw_uw := w_120
theorem oX4_3 : Cond.methodLink RX4 3 Lib.objectInit ∈ bw_uw := w_239
theorem oX5_1 : Cond.methodLink RX5 1 Lib.objectInit ∈ bw_uw := w_627
theorem oX6_3 : Cond.methodLink RX6 3 Lib.objectInit ∈ bw_uw := w_215
theorem oX7_3 : Cond.methodLink RX7 3 Lib.objectInit ∈ bw_uw := w_90
theorem aX7_25 : Cond.methodLink RX7 25 arraycopyName ∈ bw_uw := w_864
theorem xX7_45 : Cond.methodLink RX7 45 Lib.Math.max.name ∈ bw_uw := w_945
theorem oX8_3 : Cond.methodLink RX8 3 Lib.objectInit ∈ bw_uw := w_255
theorem oX9_3 : Cond.methodLink RX9 3 Lib.objectInit ∈ bw_uw := w_82
theorem oX10_7 : Cond.methodLink RX10 7 Lib.objectInit ∈ bw_uw := w_1125
theorem bw_oI : Cond.instanceMethod Lib.objectInit ∈ bw_uw := w_83
theorem bw_oC : Cond.code Lib.objectInit ⟨#[0xb1]⟩ 1 none ∈ bw_uw := w_84
theorem bw_aN : Cond.native arraycopyName ∈ bw_uw := w_748
theorem bw_aS : Cond.static arraycopyName ∈ bw_uw := w_747
theorem bw_aI : Cond.initialized "java/lang/System" ∈ bw_uw := w_75
theorem bw_xS : Cond.static Lib.Math.max.name ∈ bw_uw := w_946
theorem bw_xI : Cond.initialized "java/lang/Math" ∈ bw_uw := w_76
theorem bw_xC : Cond.code Lib.Math.max.name Lib.Math.max.code 2 (some .int) ∈ bw_uw := w_947
theorem bw_wI : Cond.arrayClass .int ∈ bw_uw := w_111
theorem bw_wL : Cond.arrayClass .long ∈ bw_uw := w_1491
end
