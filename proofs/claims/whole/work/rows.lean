section
-- ===== PART A: goes FIRST, ahead of the names: the tables' words, and 'selects' of the private methods out of them =====
/-- a private method of a class that the tables say can be made, by its rows of tables_1 -/
def lw_okq (q : MethodName × Nat) : Prop := (q.1.cls ≠ "java/lang/invoke/MethodHandle" ∧ q.1.cls ≠ "java/lang/invoke/VarHandle") ∧ Cond.instantiable q.1.cls q.2 ∈ tables_1 ∧ Cond.privateMethod q.1 ∈ tables_1 ∧ Cond.instanceMethod q.1 ∈ tables_1
theorem lw_p0 : lw_okq (⟨"ByteFields$Field", "leastGenerator", "()I"⟩, 6) := ⟨⟨by decide +kernel, by decide +kernel⟩, List.mem_of_getElem? (i := 64) (by decide +kernel), List.mem_of_getElem? (i := 86) (by decide +kernel), List.mem_of_getElem? (i := 87) (by decide +kernel)⟩
theorem lw_p1 : lw_okq (⟨"ByteFields$Field", "generates", "(I)Z"⟩, 6) := ⟨⟨by decide +kernel, by decide +kernel⟩, List.mem_of_getElem? (i := 64) (by decide +kernel), List.mem_of_getElem? (i := 90) (by decide +kernel), List.mem_of_getElem? (i := 91) (by decide +kernel)⟩
theorem lw_p2 : lw_okq (⟨"ByteFields$Field", "slowPower", "(II)I"⟩, 6) := ⟨⟨by decide +kernel, by decide +kernel⟩, List.mem_of_getElem? (i := 64) (by decide +kernel), List.mem_of_getElem? (i := 96) (by decide +kernel), List.mem_of_getElem? (i := 97) (by decide +kernel)⟩
theorem lw_p3 : lw_okq (⟨"ByteFields$Field", "slowProduct", "(II)I"⟩, 6) := ⟨⟨by decide +kernel, by decide +kernel⟩, List.mem_of_getElem? (i := 64) (by decide +kernel), List.mem_of_getElem? (i := 100) (by decide +kernel), List.mem_of_getElem? (i := 101) (by decide +kernel)⟩
theorem lw_p4 : lw_okq (⟨"ByteFields$Roots", "valueAt", "(II)I"⟩, 7) := ⟨⟨by decide +kernel, by decide +kernel⟩, List.mem_of_getElem? (i := 199) (by decide +kernel), List.mem_of_getElem? (i := 207) (by decide +kernel), List.mem_of_getElem? (i := 208) (by decide +kernel)⟩
theorem lw_p5 : lw_okq (⟨"ByteFields", "needMember", "(I)V"⟩, 17) := ⟨⟨by decide +kernel, by decide +kernel⟩, List.mem_of_getElem? (i := 26) (by decide +kernel), List.mem_of_getElem? (i := 340) (by decide +kernel), List.mem_of_getElem? (i := 341) (by decide +kernel)⟩
theorem lw_p6 : lw_okq (⟨"java/lang/Throwable", "fillInStackTrace", "(I)Ljava/lang/Throwable;"⟩, 6) := ⟨⟨by decide +kernel, by decide +kernel⟩, List.mem_of_getElem? (i := 385) (by decide +kernel), List.mem_of_getElem? (i := 383) (by decide +kernel), List.mem_of_getElem? (i := 384) (by decide +kernel)⟩
theorem lw_p7 : lw_okq (⟨"ByteFields", "needMatrixRoom", "()V"⟩, 17) := ⟨⟨by decide +kernel, by decide +kernel⟩, List.mem_of_getElem? (i := 26) (by decide +kernel), List.mem_of_getElem? (i := 567) (by decide +kernel), List.mem_of_getElem? (i := 568) (by decide +kernel)⟩
theorem lw_p8 : lw_okq (⟨"ByteFields", "keepMatrix", "(LByteFields$Matrix;)I"⟩, 17) := ⟨⟨by decide +kernel, by decide +kernel⟩, List.mem_of_getElem? (i := 26) (by decide +kernel), List.mem_of_getElem? (i := 596) (by decide +kernel), List.mem_of_getElem? (i := 597) (by decide +kernel)⟩
theorem lw_p9 : lw_okq (⟨"ByteFields", "hasAlike", "(I)Z"⟩, 17) := ⟨⟨by decide +kernel, by decide +kernel⟩, List.mem_of_getElem? (i := 26) (by decide +kernel), List.mem_of_getElem? (i := 608) (by decide +kernel), List.mem_of_getElem? (i := 609) (by decide +kernel)⟩
theorem lw_p10 : lw_okq (⟨"ByteFields", "matrixAt", "(I)LByteFields$Matrix;"⟩, 17) := ⟨⟨by decide +kernel, by decide +kernel⟩, List.mem_of_getElem? (i := 26) (by decide +kernel), List.mem_of_getElem? (i := 644) (by decide +kernel), List.mem_of_getElem? (i := 645) (by decide +kernel)⟩
theorem lw_p11 : lw_okq (⟨"ByteFields$Elimination", "rowWithMember", "(I)I"⟩, 7) := ⟨⟨by decide +kernel, by decide +kernel⟩, List.mem_of_getElem? (i := 128) (by decide +kernel), List.mem_of_getElem? (i := 706) (by decide +kernel), List.mem_of_getElem? (i := 707) (by decide +kernel)⟩
theorem lw_p12 : lw_okq (⟨"ByteFields$Elimination", "exchange", "(II)V"⟩, 7) := ⟨⟨by decide +kernel, by decide +kernel⟩, List.mem_of_getElem? (i := 128) (by decide +kernel), List.mem_of_getElem? (i := 710) (by decide +kernel), List.mem_of_getElem? (i := 711) (by decide +kernel)⟩
theorem lw_p13 : lw_okq (⟨"ByteFields$Elimination", "free", "(I)V"⟩, 7) := ⟨⟨by decide +kernel, by decide +kernel⟩, List.mem_of_getElem? (i := 128) (by decide +kernel), List.mem_of_getElem? (i := 715) (by decide +kernel), List.mem_of_getElem? (i := 716) (by decide +kernel)⟩
theorem lw_p14 : lw_okq (⟨"ByteFields$Minors", "addRow", "(LByteFields$Matrix;II)I"⟩, 2) := ⟨⟨by decide +kernel, by decide +kernel⟩, List.mem_of_getElem? (i := 159) (by decide +kernel), List.mem_of_getElem? (i := 763) (by decide +kernel), List.mem_of_getElem? (i := 764) (by decide +kernel)⟩
theorem lw_p15 : lw_okq (⟨"ByteFields$Minors", "expanded", "(LByteFields$Matrix;II[I)I"⟩, 2) := ⟨⟨by decide +kernel, by decide +kernel⟩, List.mem_of_getElem? (i := 159) (by decide +kernel), List.mem_of_getElem? (i := 767) (by decide +kernel), List.mem_of_getElem? (i := 768) (by decide +kernel)⟩
def lw_privs_1 : List (MethodName × Nat) := [(⟨"ByteFields$Field", "leastGenerator", "()I"⟩, 6), (⟨"ByteFields$Field", "generates", "(I)Z"⟩, 6), (⟨"ByteFields$Field", "slowPower", "(II)I"⟩, 6), (⟨"ByteFields$Field", "slowProduct", "(II)I"⟩, 6), (⟨"ByteFields$Roots", "valueAt", "(II)I"⟩, 7), (⟨"ByteFields", "needMember", "(I)V"⟩, 17), (⟨"java/lang/Throwable", "fillInStackTrace", "(I)Ljava/lang/Throwable;"⟩, 6), (⟨"ByteFields", "needMatrixRoom", "()V"⟩, 17), (⟨"ByteFields", "keepMatrix", "(LByteFields$Matrix;)I"⟩, 17), (⟨"ByteFields", "hasAlike", "(I)Z"⟩, 17), (⟨"ByteFields", "matrixAt", "(I)LByteFields$Matrix;"⟩, 17), (⟨"ByteFields$Elimination", "rowWithMember", "(I)I"⟩, 7), (⟨"ByteFields$Elimination", "exchange", "(II)V"⟩, 7), (⟨"ByteFields$Elimination", "free", "(I)V"⟩, 7), (⟨"ByteFields$Minors", "addRow", "(LByteFields$Matrix;II)I"⟩, 2), (⟨"ByteFields$Minors", "expanded", "(LByteFields$Matrix;II[I)I"⟩, 2)]
theorem lw_r1 : ∀ q ∈ lw_privs_1, lw_okq q := List.forall_mem_cons.mpr ⟨lw_p0, List.forall_mem_cons.mpr ⟨lw_p1, List.forall_mem_cons.mpr ⟨lw_p2, List.forall_mem_cons.mpr ⟨lw_p3, List.forall_mem_cons.mpr ⟨lw_p4, List.forall_mem_cons.mpr ⟨lw_p5, List.forall_mem_cons.mpr ⟨lw_p6, List.forall_mem_cons.mpr ⟨lw_p7, List.forall_mem_cons.mpr ⟨lw_p8, List.forall_mem_cons.mpr ⟨lw_p9, List.forall_mem_cons.mpr ⟨lw_p10, List.forall_mem_cons.mpr ⟨lw_p11, List.forall_mem_cons.mpr ⟨lw_p12, List.forall_mem_cons.mpr ⟨lw_p13, List.forall_mem_cons.mpr ⟨lw_p14, List.forall_mem_cons.mpr ⟨lw_p15, fun _ h => absurd h List.not_mem_nil⟩⟩⟩⟩⟩⟩⟩⟩⟩⟩⟩⟩⟩⟩⟩⟩
theorem lw_p16 : lw_okq (⟨"ByteFields", "needPolynomialRoom", "()V"⟩, 17) := ⟨⟨by decide +kernel, by decide +kernel⟩, List.mem_of_getElem? (i := 26) (by decide +kernel), List.mem_of_getElem? (i := 800) (by decide +kernel), List.mem_of_getElem? (i := 801) (by decide +kernel)⟩
theorem lw_p17 : lw_okq (⟨"ByteFields", "keepPolynomial", "(LByteFields$Polynomial;)I"⟩, 17) := ⟨⟨by decide +kernel, by decide +kernel⟩, List.mem_of_getElem? (i := 26) (by decide +kernel), List.mem_of_getElem? (i := 818) (by decide +kernel), List.mem_of_getElem? (i := 819) (by decide +kernel)⟩
theorem lw_p18 : lw_okq (⟨"ByteFields$Interpolation", "multiplyAndAdd", "(LByteFields$Polynomial;II)V"⟩, 3) := ⟨⟨by decide +kernel, by decide +kernel⟩, List.mem_of_getElem? (i := 183) (by decide +kernel), List.mem_of_getElem? (i := 845) (by decide +kernel), List.mem_of_getElem? (i := 846) (by decide +kernel)⟩
theorem lw_p19 : lw_okq (⟨"ByteFields", "polynomialAt", "(I)LByteFields$Polynomial;"⟩, 17) := ⟨⟨by decide +kernel, by decide +kernel⟩, List.mem_of_getElem? (i := 26) (by decide +kernel), List.mem_of_getElem? (i := 858) (by decide +kernel), List.mem_of_getElem? (i := 859) (by decide +kernel)⟩
theorem lw_p20 : lw_okq (⟨"ByteFields", "valueOf", "(LByteFields$Polynomial;I)I"⟩, 17) := ⟨⟨by decide +kernel, by decide +kernel⟩, List.mem_of_getElem? (i := 26) (by decide +kernel), List.mem_of_getElem? (i := 878) (by decide +kernel), List.mem_of_getElem? (i := 879) (by decide +kernel)⟩
theorem lw_p21 : lw_okq (⟨"ByteFields$Division", "divideInPlace", "(LByteFields$Polynomial;LByteFields$Polynomial;)V"⟩, 1) := ⟨⟨by decide +kernel, by decide +kernel⟩, List.mem_of_getElem? (i := 173) (by decide +kernel), List.mem_of_getElem? (i := 918) (by decide +kernel), List.mem_of_getElem? (i := 919) (by decide +kernel)⟩
theorem lw_p22 : lw_okq (⟨"ByteFields$Roots", "makeRests", "(LByteFields$Polynomial;)V"⟩, 7) := ⟨⟨by decide +kernel, by decide +kernel⟩, List.mem_of_getElem? (i := 199) (by decide +kernel), List.mem_of_getElem? (i := 961) (by decide +kernel), List.mem_of_getElem? (i := 962) (by decide +kernel)⟩
theorem lw_p23 : lw_okq (⟨"ByteFields$Roots", "keepLower", "(II)V"⟩, 7) := ⟨⟨by decide +kernel, by decide +kernel⟩, List.mem_of_getElem? (i := 199) (by decide +kernel), List.mem_of_getElem? (i := 977) (by decide +kernel), List.mem_of_getElem? (i := 978) (by decide +kernel)⟩
theorem lw_p24 : lw_okq (⟨"ByteFields$Factors", "takeParts", "(I)I"⟩, 6) := ⟨⟨by decide +kernel, by decide +kernel⟩, List.mem_of_getElem? (i := 238) (by decide +kernel), List.mem_of_getElem? (i := 1014) (by decide +kernel), List.mem_of_getElem? (i := 1015) (by decide +kernel)⟩
theorem lw_p25 : lw_okq (⟨"ByteFields", "hasXorOfAhead", "()Z"⟩, 17) := ⟨⟨by decide +kernel, by decide +kernel⟩, List.mem_of_getElem? (i := 26) (by decide +kernel), List.mem_of_getElem? (i := 1028) (by decide +kernel), List.mem_of_getElem? (i := 1029) (by decide +kernel)⟩
theorem lw_p26 : lw_okq (⟨"ByteFields", "xorOfChosen", "(II)I"⟩, 17) := ⟨⟨by decide +kernel, by decide +kernel⟩, List.mem_of_getElem? (i := 26) (by decide +kernel), List.mem_of_getElem? (i := 1032) (by decide +kernel), List.mem_of_getElem? (i := 1033) (by decide +kernel)⟩
theorem lw_p27 : lw_okq (⟨"ByteFields", "needSpan", "()V"⟩, 17) := ⟨⟨by decide +kernel, by decide +kernel⟩, List.mem_of_getElem? (i := 26) (by decide +kernel), List.mem_of_getElem? (i := 1044) (by decide +kernel), List.mem_of_getElem? (i := 1045) (by decide +kernel)⟩
theorem lw_p28 : lw_okq (⟨"ByteFieldsModel", "isPrime", "(I)Z"⟩, 30) := ⟨⟨by decide +kernel, by decide +kernel⟩, List.mem_of_getElem? (i := 1069) (by decide +kernel), List.mem_of_getElem? (i := 1076) (by decide +kernel), List.mem_of_getElem? (i := 1077) (by decide +kernel)⟩
theorem lw_p29 : lw_okq (⟨"ByteFieldsModel", "orderOf", "(I)I"⟩, 30) := ⟨⟨by decide +kernel, by decide +kernel⟩, List.mem_of_getElem? (i := 1069) (by decide +kernel), List.mem_of_getElem? (i := 1086) (by decide +kernel), List.mem_of_getElem? (i := 1087) (by decide +kernel)⟩
theorem lw_p30 : lw_okq (⟨"ByteFieldsModel", "factors", "()I"⟩, 30) := ⟨⟨by decide +kernel, by decide +kernel⟩, List.mem_of_getElem? (i := 1069) (by decide +kernel), List.mem_of_getElem? (i := 1090) (by decide +kernel), List.mem_of_getElem? (i := 1091) (by decide +kernel)⟩
theorem lw_p31 : lw_okq (⟨"ByteFieldsModel", "raised", "(II)I"⟩, 30) := ⟨⟨by decide +kernel, by decide +kernel⟩, List.mem_of_getElem? (i := 1069) (by decide +kernel), List.mem_of_getElem? (i := 1097) (by decide +kernel), List.mem_of_getElem? (i := 1098) (by decide +kernel)⟩
def lw_privs_2 : List (MethodName × Nat) := [(⟨"ByteFields", "needPolynomialRoom", "()V"⟩, 17), (⟨"ByteFields", "keepPolynomial", "(LByteFields$Polynomial;)I"⟩, 17), (⟨"ByteFields$Interpolation", "multiplyAndAdd", "(LByteFields$Polynomial;II)V"⟩, 3), (⟨"ByteFields", "polynomialAt", "(I)LByteFields$Polynomial;"⟩, 17), (⟨"ByteFields", "valueOf", "(LByteFields$Polynomial;I)I"⟩, 17), (⟨"ByteFields$Division", "divideInPlace", "(LByteFields$Polynomial;LByteFields$Polynomial;)V"⟩, 1), (⟨"ByteFields$Roots", "makeRests", "(LByteFields$Polynomial;)V"⟩, 7), (⟨"ByteFields$Roots", "keepLower", "(II)V"⟩, 7), (⟨"ByteFields$Factors", "takeParts", "(I)I"⟩, 6), (⟨"ByteFields", "hasXorOfAhead", "()Z"⟩, 17), (⟨"ByteFields", "xorOfChosen", "(II)I"⟩, 17), (⟨"ByteFields", "needSpan", "()V"⟩, 17), (⟨"ByteFieldsModel", "isPrime", "(I)Z"⟩, 30), (⟨"ByteFieldsModel", "orderOf", "(I)I"⟩, 30), (⟨"ByteFieldsModel", "factors", "()I"⟩, 30), (⟨"ByteFieldsModel", "raised", "(II)I"⟩, 30)]
theorem lw_r2 : ∀ q ∈ lw_privs_2, lw_okq q := List.forall_mem_cons.mpr ⟨lw_p16, List.forall_mem_cons.mpr ⟨lw_p17, List.forall_mem_cons.mpr ⟨lw_p18, List.forall_mem_cons.mpr ⟨lw_p19, List.forall_mem_cons.mpr ⟨lw_p20, List.forall_mem_cons.mpr ⟨lw_p21, List.forall_mem_cons.mpr ⟨lw_p22, List.forall_mem_cons.mpr ⟨lw_p23, List.forall_mem_cons.mpr ⟨lw_p24, List.forall_mem_cons.mpr ⟨lw_p25, List.forall_mem_cons.mpr ⟨lw_p26, List.forall_mem_cons.mpr ⟨lw_p27, List.forall_mem_cons.mpr ⟨lw_p28, List.forall_mem_cons.mpr ⟨lw_p29, List.forall_mem_cons.mpr ⟨lw_p30, List.forall_mem_cons.mpr ⟨lw_p31, fun _ h => absurd h List.not_mem_nil⟩⟩⟩⟩⟩⟩⟩⟩⟩⟩⟩⟩⟩⟩⟩⟩
theorem lw_p32 : lw_okq (⟨"ByteFieldsModel", "mul", "(II)I"⟩, 30) := ⟨⟨by decide +kernel, by decide +kernel⟩, List.mem_of_getElem? (i := 1069) (by decide +kernel), List.mem_of_getElem? (i := 1101) (by decide +kernel), List.mem_of_getElem? (i := 1102) (by decide +kernel)⟩
theorem lw_p33 : lw_okq (⟨"ByteFieldsModel", "isMember", "(I)Z"⟩, 30) := ⟨⟨by decide +kernel, by decide +kernel⟩, List.mem_of_getElem? (i := 1069) (by decide +kernel), List.mem_of_getElem? (i := 1208) (by decide +kernel), List.mem_of_getElem? (i := 1209) (by decide +kernel)⟩
theorem lw_p34 : lw_okq (⟨"ByteFieldsModel", "fail", "(I)I"⟩, 30) := ⟨⟨by decide +kernel, by decide +kernel⟩, List.mem_of_getElem? (i := 1069) (by decide +kernel), List.mem_of_getElem? (i := 1212) (by decide +kernel), List.mem_of_getElem? (i := 1213) (by decide +kernel)⟩
theorem lw_p35 : lw_okq (⟨"ByteFieldsModel", "inverse", "(I)I"⟩, 30) := ⟨⟨by decide +kernel, by decide +kernel⟩, List.mem_of_getElem? (i := 1069) (by decide +kernel), List.mem_of_getElem? (i := 1220) (by decide +kernel), List.mem_of_getElem? (i := 1221) (by decide +kernel)⟩
theorem lw_p36 : lw_okq (⟨"ByteFieldsModel", "made", "(II)I"⟩, 30) := ⟨⟨by decide +kernel, by decide +kernel⟩, List.mem_of_getElem? (i := 1069) (by decide +kernel), List.mem_of_getElem? (i := 1255) (by decide +kernel), List.mem_of_getElem? (i := 1256) (by decide +kernel)⟩
theorem lw_p37 : lw_okq (⟨"ByteFieldsModel", "hasAlike", "(II)Z"⟩, 30) := ⟨⟨by decide +kernel, by decide +kernel⟩, List.mem_of_getElem? (i := 1069) (by decide +kernel), List.mem_of_getElem? (i := 1263) (by decide +kernel), List.mem_of_getElem? (i := 1264) (by decide +kernel)⟩
theorem lw_p38 : lw_okq (⟨"ByteFieldsModel", "at", "(III)I"⟩, 30) := ⟨⟨by decide +kernel, by decide +kernel⟩, List.mem_of_getElem? (i := 1069) (by decide +kernel), List.mem_of_getElem? (i := 1267) (by decide +kernel), List.mem_of_getElem? (i := 1268) (by decide +kernel)⟩
theorem lw_p39 : lw_okq (⟨"ByteFieldsModel", "isMatrix", "(I)Z"⟩, 30) := ⟨⟨by decide +kernel, by decide +kernel⟩, List.mem_of_getElem? (i := 1069) (by decide +kernel), List.mem_of_getElem? (i := 1279) (by decide +kernel), List.mem_of_getElem? (i := 1280) (by decide +kernel)⟩
theorem lw_p40 : lw_okq (⟨"ByteFieldsModel", "isCell", "(III)Z"⟩, 30) := ⟨⟨by decide +kernel, by decide +kernel⟩, List.mem_of_getElem? (i := 1069) (by decide +kernel), List.mem_of_getElem? (i := 1287) (by decide +kernel), List.mem_of_getElem? (i := 1288) (by decide +kernel)⟩
theorem lw_p41 : lw_okq (⟨"ByteFieldsModel", "minors", "(I)V"⟩, 30) := ⟨⟨by decide +kernel, by decide +kernel⟩, List.mem_of_getElem? (i := 1069) (by decide +kernel), List.mem_of_getElem? (i := 1303) (by decide +kernel), List.mem_of_getElem? (i := 1304) (by decide +kernel)⟩
theorem lw_p42 : lw_okq (⟨"ByteFieldsModel", "kept", "([I)I"⟩, 30) := ⟨⟨by decide +kernel, by decide +kernel⟩, List.mem_of_getElem? (i := 1069) (by decide +kernel), List.mem_of_getElem? (i := 1336) (by decide +kernel), List.mem_of_getElem? (i := 1337) (by decide +kernel)⟩
theorem lw_p43 : lw_okq (⟨"ByteFieldsModel", "begin", "()V"⟩, 30) := ⟨⟨by decide +kernel, by decide +kernel⟩, List.mem_of_getElem? (i := 1069) (by decide +kernel), List.mem_of_getElem? (i := 1344) (by decide +kernel), List.mem_of_getElem? (i := 1345) (by decide +kernel)⟩
theorem lw_p44 : lw_okq (⟨"ByteFieldsModel", "point", "(II)V"⟩, 30) := ⟨⟨by decide +kernel, by decide +kernel⟩, List.mem_of_getElem? (i := 1069) (by decide +kernel), List.mem_of_getElem? (i := 1348) (by decide +kernel), List.mem_of_getElem? (i := 1349) (by decide +kernel)⟩
theorem lw_p45 : lw_okq (⟨"ByteFieldsModel", "at", "([II)I"⟩, 30) := ⟨⟨by decide +kernel, by decide +kernel⟩, List.mem_of_getElem? (i := 1069) (by decide +kernel), List.mem_of_getElem? (i := 1352) (by decide +kernel), List.mem_of_getElem? (i := 1353) (by decide +kernel)⟩
theorem lw_p46 : lw_okq (⟨"ByteFieldsModel", "isPolynomial", "(I)Z"⟩, 30) := ⟨⟨by decide +kernel, by decide +kernel⟩, List.mem_of_getElem? (i := 1069) (by decide +kernel), List.mem_of_getElem? (i := 1360) (by decide +kernel), List.mem_of_getElem? (i := 1361) (by decide +kernel)⟩
theorem lw_p47 : lw_okq (⟨"ByteFieldsModel", "load", "([II)V"⟩, 30) := ⟨⟨by decide +kernel, by decide +kernel⟩, List.mem_of_getElem? (i := 1069) (by decide +kernel), List.mem_of_getElem? (i := 1372) (by decide +kernel), List.mem_of_getElem? (i := 1373) (by decide +kernel)⟩
def lw_privs_3 : List (MethodName × Nat) := [(⟨"ByteFieldsModel", "mul", "(II)I"⟩, 30), (⟨"ByteFieldsModel", "isMember", "(I)Z"⟩, 30), (⟨"ByteFieldsModel", "fail", "(I)I"⟩, 30), (⟨"ByteFieldsModel", "inverse", "(I)I"⟩, 30), (⟨"ByteFieldsModel", "made", "(II)I"⟩, 30), (⟨"ByteFieldsModel", "hasAlike", "(II)Z"⟩, 30), (⟨"ByteFieldsModel", "at", "(III)I"⟩, 30), (⟨"ByteFieldsModel", "isMatrix", "(I)Z"⟩, 30), (⟨"ByteFieldsModel", "isCell", "(III)Z"⟩, 30), (⟨"ByteFieldsModel", "minors", "(I)V"⟩, 30), (⟨"ByteFieldsModel", "kept", "([I)I"⟩, 30), (⟨"ByteFieldsModel", "begin", "()V"⟩, 30), (⟨"ByteFieldsModel", "point", "(II)V"⟩, 30), (⟨"ByteFieldsModel", "at", "([II)I"⟩, 30), (⟨"ByteFieldsModel", "isPolynomial", "(I)Z"⟩, 30), (⟨"ByteFieldsModel", "load", "([II)V"⟩, 30)]
theorem lw_r3 : ∀ q ∈ lw_privs_3, lw_okq q := List.forall_mem_cons.mpr ⟨lw_p32, List.forall_mem_cons.mpr ⟨lw_p33, List.forall_mem_cons.mpr ⟨lw_p34, List.forall_mem_cons.mpr ⟨lw_p35, List.forall_mem_cons.mpr ⟨lw_p36, List.forall_mem_cons.mpr ⟨lw_p37, List.forall_mem_cons.mpr ⟨lw_p38, List.forall_mem_cons.mpr ⟨lw_p39, List.forall_mem_cons.mpr ⟨lw_p40, List.forall_mem_cons.mpr ⟨lw_p41, List.forall_mem_cons.mpr ⟨lw_p42, List.forall_mem_cons.mpr ⟨lw_p43, List.forall_mem_cons.mpr ⟨lw_p44, List.forall_mem_cons.mpr ⟨lw_p45, List.forall_mem_cons.mpr ⟨lw_p46, List.forall_mem_cons.mpr ⟨lw_p47, fun _ h => absurd h List.not_mem_nil⟩⟩⟩⟩⟩⟩⟩⟩⟩⟩⟩⟩⟩⟩⟩⟩
theorem lw_p48 : lw_okq (⟨"ByteFieldsModel", "split", "([I[I)V"⟩, 30) := ⟨⟨by decide +kernel, by decide +kernel⟩, List.mem_of_getElem? (i := 1069) (by decide +kernel), List.mem_of_getElem? (i := 1388) (by decide +kernel), List.mem_of_getElem? (i := 1389) (by decide +kernel)⟩
theorem lw_p49 : lw_okq (⟨"ByteFieldsModel", "divisor", "([I[I)V"⟩, 30) := ⟨⟨by decide +kernel, by decide +kernel⟩, List.mem_of_getElem? (i := 1069) (by decide +kernel), List.mem_of_getElem? (i := 1396) (by decide +kernel), List.mem_of_getElem? (i := 1397) (by decide +kernel)⟩
theorem lw_p50 : lw_okq (⟨"ByteFieldsModel", "lookAtParts", "(I)V"⟩, 30) := ⟨⟨by decide +kernel, by decide +kernel⟩, List.mem_of_getElem? (i := 1069) (by decide +kernel), List.mem_of_getElem? (i := 1415) (by decide +kernel), List.mem_of_getElem? (i := 1416) (by decide +kernel)⟩
theorem lw_p51 : lw_okq (⟨"ByteFieldsModel", "square", "([I)V"⟩, 30) := ⟨⟨by decide +kernel, by decide +kernel⟩, List.mem_of_getElem? (i := 1069) (by decide +kernel), List.mem_of_getElem? (i := 1419) (by decide +kernel), List.mem_of_getElem? (i := 1420) (by decide +kernel)⟩
def lw_privs_4 : List (MethodName × Nat) := [(⟨"ByteFieldsModel", "split", "([I[I)V"⟩, 30), (⟨"ByteFieldsModel", "divisor", "([I[I)V"⟩, 30), (⟨"ByteFieldsModel", "lookAtParts", "(I)V"⟩, 30), (⟨"ByteFieldsModel", "square", "([I)V"⟩, 30)]
theorem lw_r4 : ∀ q ∈ lw_privs_4, lw_okq q := List.forall_mem_cons.mpr ⟨lw_p48, List.forall_mem_cons.mpr ⟨lw_p49, List.forall_mem_cons.mpr ⟨lw_p50, List.forall_mem_cons.mpr ⟨lw_p51, fun _ h => absurd h List.not_mem_nil⟩⟩⟩⟩
def lw_privs : List (MethodName × Nat) := lw_privs_1 ++ (lw_privs_2 ++ (lw_privs_3 ++ (lw_privs_4)))
def lw_tbl : List Cond := k2_sels lw_privs ++ tables_1
theorem lw_privs_ok : ∀ q ∈ lw_privs, lw_okq q := by
  show ∀ q ∈ lw_privs_1 ++ (lw_privs_2 ++ (lw_privs_3 ++ (lw_privs_4))), lw_okq q
  exact List.forall_mem_append.mpr ⟨lw_r1, List.forall_mem_append.mpr ⟨lw_r2, List.forall_mem_append.mpr ⟨lw_r3, lw_r4⟩⟩⟩
end
section
/-! ===== BEGIN words of one list among another's, by their places ===== -/
theorem goodIn_r {big : List Cond} (ws : List Cond) (ps : List Nat) (hp : ws = ps.filterMap (fun i => big[i]?)) (h : ws.all goodWord = true) : GoodIn big ws := by
  intro w hw
  have h1 := List.all_eq_true.mp h w hw
  rw [hp] at hw
  obtain ⟨i, -, hi⟩ := List.mem_filterMap.mp hw
  have hm : w ∈ big := by first | exact List.mem_of_getElem? hi | exact List.getElem?_mem hi
  exact ⟨hm, good_of_word h1⟩
theorem goodIn_app {big a b : List Cond} (ha : GoodIn big a) (hb : GoodIn big b) : GoodIn big (a ++ b) := fun w h => (List.mem_append.mp h).elim (ha w) (hb w)
theorem goodIn_ca {big a b : List Cond} {c : Cond} (ha : GoodIn big (c :: a)) (hb : GoodIn big b) : GoodIn big (c :: (a ++ b)) := fun w h => (List.mem_cons.mp h).elim (fun e => ha w (List.mem_cons.mpr (Or.inl e))) (fun h => (List.mem_append.mp h).elim (fun h => ha w (List.mem_cons.mpr (Or.inr h))) (hb w))
theorem goodIn_sub {big ws : List Cond} (hm : ∀ w ∈ ws, w ∈ big) (h : ws.all goodWord = true) : GoodIn big ws := fun w hw => ⟨hm w hw, good_of_word (List.all_eq_true.mp h w hw)⟩
/-! ===== END ===== -/

/-! ===== BEGIN new T[n][m]: the outer array a place, the inner ones among the pooled ===== -/
/-- f, but v at every address of l -/
def vr_up {α : Type} (f : Nat → α) (l : List Nat) (v : α) : Nat → α := fun a => if a ∈ l then v else f a
theorem vr_up_in {α : Type} {f : Nat → α} {l : List Nat} {v : α} {a : Nat} (h : a ∈ l) : vr_up f l v a = v := if_pos h
theorem vr_up_ne {α : Type} {f : Nat → α} {l : List Nat} {v : α} {a : Nat} (h : a ∉ l) : vr_up f l v a = f a := if_neg h
theorem vr_rows {L l : List Nat} {f : Nat → va_E} {e : va_E} (h : ∀ a, a ∈ l → a ∉ L) : va_pl L f ++ l.map (fun a => (a, e)) = va_pl (L ++ l) (vr_up f l e) := by
  unfold va_pl
  rw [List.map_append]
  congr 1
  · apply List.map_congr_left
    intro a ha
    rw [vr_up_ne (fun q => h a q ha)]
  · apply List.map_congr_left
    intro a ha
    rw [vr_up_in ha]
theorem vr_lay {X rows : va_W} {x : Nat × va_E} {pl : va_W} {D : va_G} {cl : List vw_C} {H : Heap} (hP : va_P D cl (((X ++ pl) ++ [x]) ++ rows) H) : va_P D cl ((X ++ [x]) ++ (pl ++ rows)) H := by
  rw [List.append_assoc (X ++ pl)] at hP
  have h := va_P.swap hP
  rw [← List.append_assoc X] at h
  have h2 := va_P.swap h
  rw [List.append_assoc (X ++ [x])] at h2
  exact h2
theorem vr_layD {X rows : va_W} {x : Nat × va_E} {pl : va_W} {A : Nat → Prop} (hD : va_D A (((X ++ pl) ++ [x]) ++ rows)) : va_D A ((X ++ [x]) ++ (pl ++ rows)) := by
  rw [List.append_assoc (X ++ pl)] at hD
  have h := va_D.swap hD
  rw [← List.append_assoc X] at h
  have h2 := va_D.swap h
  rw [List.append_assoc (X ++ [x])] at h2
  exact h2
theorem vr_outer (c : ClassId) (N h0 : Nat) : ∀ i : Nat, Jvm.Free.Multi.outerC c N h0 i = arrV c N (fun j => va_rf (if j < i then some (h0 + 1 + j) else none))
  | 0 => by
    show ({ cls := c, slots := Array.replicate N .null, vm := .none } : Cell) = _
    rw [arrV_new]
    refine congrArg (arrV c N) (funext fun j => ?_)
    simp [va_rf]
  | i + 1 => by
    show (Jvm.Free.Multi.outerC c N h0 i).setSlot i (.ref (h0 + 1 + i)) = _
    rw [vr_outer c N h0 i, arrV_store]
    refine congrArg (arrV c N) (funext fun j => ?_)
    by_cases e : j = i
    · subst e
      simp [updV, va_rf]
    · by_cases h : j < i
      · simp [updV, e, h, Nat.lt_succ_of_lt h]
      · simp [updV, e, h, show ¬ j < i + 1 by omega]
/-! ===== BEGIN exceptions that leave a method, and their catching by the caller (launches without stack traces) ===== -/
section VXA
/-! The laws vx_back, vx_callV, vx_callS, vx_callSW, vx_throw0, vx_throwS follow proofs of the library, with one case more: JvmDerived/Free/Laws.lean (Back.of_free), Shelf42/LK1.lean (callV, callS), Shelf/KitTraced.lean (throwNew0V, throwNewS). -/
/-- where a method has thrown q: the class by its name, the cell, what was written, the world -/
def vx_T (XC : String → State → State → Prop) (st : State) (q : Addr) (t : State) (mc ms : Nat) (free : Addr → Prop) : Prop :=
  ∃ (E : String) (ce : Cell) (L : List Loc), XC E st t ∧ t.heap[q]? = some ce ∧ ce.vm = .none ∧ st.vm.findClass E = some ce.cls ∧ st.WarmedH t.vm ∧ st.sameButNew ({ t with vm := st.vm } : State) L mc ms ∧ ∀ z ∈ L, free z.base
def vx_Q (Qc : Array Value → State → Outcome → State → Prop) (XC : String → State → State → Prop) (mc ms : Nat) (free : Addr → Prop) : Array Value → State → Outcome → State → Prop := fun a st o t =>
  (Qc a st o t ∧ ∃ L, FrameEnd st o t L mc ms ∧ ∀ q ∈ L, free q.base) ∨ ∃ q, o = .threw q ∧ vx_T XC st q t mc ms free
/-- a callee that returns or throws -/
def vx_Met (l : Launch) (y : MethodName) (ws : List Cond) (rm : Room) (Pc : Array Value → State → Prop) (Qc : Array Value → State → Outcome → State → Prop) (XC : String → State → State → Prop) (mc ms : Nat) (free : Addr → Prop) : Prop :=
  MetFree l y (headSpec ws rm) Pc (fun _ _ _ _ _ => True) (vx_Q Qc XC mc ms free)
def vx_Post (XC : String → State → State → Prop) (mc ms : Nat) (free : Addr → Prop) : Pt → Array Value → Addr → Pt → Prop := fun A a q B =>
  ∃ (g : JFrame) (mk : MethodId) (t : State) (L : List Loc) (E : String) (ce : Cell), B.U.heap = t.heap ∧ B.U.vm = t.vm ∧ XC E (A.U.calling g mk a) t ∧ t.heap[q]? = some ce ∧ ce.vm = .none ∧ A.U.vm.findClass E = some ce.cls ∧ B.locs = A.locs ++ L ∧ (∀ z ∈ L, free z.base) ∧ B.cells = A.cells + mc ∧ B.slots = A.slots + ms
def vx_Back (l : Launch) (R : Room) (p : Program) (e : Env) (below : List Frame) (s : State) (sargs : Array Value) (y : MethodName) (len W9 : Nat)
    (Pre : Pt → Array Value → Prop) (Post : Pt → Array Value → Option Value → Pt → Prop) (PostX : Pt → Array Value → Addr → Pt → Prop) : Prop :=
  ∀ (m : MethodId) (meth : Method) (c : Code) (A : Pt) (g : JFrame) (ig : Instr) (mk : MethodId) (a : Array Value),
    Stand p l e R s m sargs below meth c A.U A.locs A.cells A.slots → g.method = m → g.locals.size = c.maxLocals → decode c.code g.pc = .ok (ig, len) →
    2 * g.monitorRoom + (g.stack.map fun v => v.category).sum ≤ W9 → A.U.methodNamed? y = some mk → Pre A a →
    (∃ (v : Option Value) (B : Pt), Stand p l e R s m sargs below meth c B.U B.locs B.cells B.slots ∧ Post A a v B ∧
      Steps p.tables e below (doInvoke e (A.U.setTop g) [] mk a).1 (B.U.setTop { g with pc := g.pc + len, stack := v.toList ++ g.stack })) ∨
    (∃ (q : Addr) (B : Pt), Stand p l e R s m sargs below meth c B.U B.locs B.cells B.slots ∧ PostX A a q B ∧
      Steps p.tables e below (doInvoke e (A.U.setTop g) [] mk a).1 ((B.U.setTop g).pushFrame (.throwing q)))
section Payer
variable {l : Launch} {R : Room} {p : Program} {e : Env} {below : List Frame} {s : State} {sargs : Array Value} {y : MethodName} {len W9 : Nat}
theorem vx_back {ws : List Cond} {rm : Room} {Pc : Array Value → State → Prop} {Qc : Array Value → State → Outcome → State → Prop} {XC : String → State → State → Prop} {mc ms : Nat} {free : Addr → Prop} {bytes : ByteArray} {maxL : Nat} {ret : Option FieldType}
    (hM : vx_Met l y ws rm Pc Qc XC mc ms free) (hblind : FrameBlind Pc) (hrc : rm.cells = mc) (hrs : rm.slots = ms)
    (hframes : rm.frames + 1 ≤ R.frames) (hlocals : W9 + (maxL + 11) + rm.locals ≤ R.locals)
    (hws : ∀ w ∈ ws, ∀ a' U, s.WarmedH U.vm → w.before a' U = true) (hcode : Cond.code y bytes maxL ret ∈ ws) (hinit : ∀ a' U, s.WarmedH U.vm → (Cond.initialized y.cls).before a' U = true) :
    vx_Back l R p e below s sargs y len W9 (PreOf R mc ms Pc) (PostOf Qc mc ms free) (vx_Post XC mc ms free) := by
  intro m meth c A g ig mk a X hg hsize hdg hW hn hp
  have h1 : (headSpec ws rm).pre.before a A.U = true := atoms_intro fun w hw => hws w hw _ _ X.warmed
  have h2 : (Cond.code y bytes maxL ret).before a A.U = true := hws _ hcode _ _ X.warmed
  have h3 : (Cond.initialized y.cls).before a A.U = true := hinit _ _ X.warmed
  have h4 : A.cells + (headSpec ws rm).room.cells ≤ R.cells := by rw [show (headSpec ws rm).room.cells = mc from hrc]; exact hp.1
  have h5 : A.slots + (headSpec ws rm).room.slots ≤ R.slots := by rw [show (headSpec ws rm).room.slots = ms from hrs]; exact hp.2.1
  have hPc : Pc a (A.U.calling g mk a) := hblind _ _ _ _ hp.2.2
  obtain ⟨U, Ls, c0, s0⟩ := A
  dsimp only [Pt.U, Pt.locs, Pt.cells, Pt.slots] at h1 h2 h3 h4 h5 X hn hPc ⊢
  obtain ⟨methY, cY, hmY, hcY, -, hlY, -, -, -, -⟩ := Cond.code_spec hn h2
  obtain ⟨kY, hkY, -⟩ := className_of_methodNamed hn
  have hinitY : kY.init = .initialized := Cond.initialized_spec (findClass_of_methodNamed hn) hkY h3
  have h : At U g.method c below := by rw [hg]; exact X.here
  have hlocals9 : W9 + (maxL + 11) + (headSpec ws rm).room.locals ≤ R.locals := hlocals
  have happ : (headSpec ws rm).appliesLoose y e.platform (U.calling g mk a) = true :=
    Spec.appliesLoose_calling (g := g) h hdg hn hkY hinitY
      (X.room_calling (g := g) (R' := (headSpec ws rm).room) hsize hmY hcY hframes (by rw [hlY]; omega) h4 h5) h1
  obtain ⟨mid, hmid⟩ := h.above
  have hfr : (U.setTop g).frames = (.java g :: mid) ++ below := by rw [State.frames_setTop' g h.top, hmid]; rfl
  obtain ⟨o, s₂, hsteps, -, hend, hq⟩ := Steps.callFree hM p X.admits X.cas X.clock (acts := []) hfr happ hPc trivial
  have hq' : vx_Q Qc XC mc ms free a (U.calling g mk a) o s₂ := hq
  rw [State.frames_setTop' g h.top] at hend
  obtain ⟨g₀, hg0⟩ := Option.isSome_iff_exists.mp h.top
  obtain ⟨r, hr⟩ := State.topJava?_eq_some.mp hg0
  have hr' : (({ U with heap := s₂.heap, slotsUsed := s₂.slotsUsed } : State).setVm s₂.vm).frames = .java g₀ :: r := hr
  rcases hq' with ⟨hqc, L, hfe, hL⟩ | ⟨q, rfl, E, ce, L, hx, hce, hcv, hcl, hW₂, hsm, hL⟩
  · obtain ⟨⟨v, rfl⟩, hW₂, e2, q2, q3, q4, q5, q6⟩ := id hfe
    have e3 : s₂ = ({ (U.calling g mk a).setFrames s₂.frames with heap := s₂.heap, slotsUsed := s₂.slotsUsed } : State).setVm s₂.vm := by
      have : s₂ = ({ s₂ with vm := (U.calling g mk a).vm } : State).setVm s₂.vm := rfl
      rw [e2] at this
      exact this
    obtain ⟨c₂, i₂, len₂, hc₂, hd₂, hf₂⟩ := hend
    have hW' : U.WarmedH s₂.vm := hW₂
    have hcc : c₂ = c := by
      have h1 : s₂.code? g.method = U.code? g.method := by
        rw [State.code?_eq, State.code?_eq, hW'.alike.method?]
      exact Option.some.inj (hc₂.symm.trans (h1.trans h.code))
    subst hcc
    have hlen : len₂ = len := by rw [hdg] at hd₂; cases hd₂; rfl
    subst hlen
    have hs₂ : s₂ = (({ U with heap := s₂.heap, slotsUsed := s₂.slotsUsed } : State).setVm s₂.vm).setTop { g with pc := g.pc + len₂, stack := v.toList ++ g.stack } := by
      refine e3.trans ?_
      rw [hf₂, State.calling_eq h.top, State.setFrames_setFrames, State.setTop_of_frames _ hr', hr]
      rfl
    have hsame : U.sameButNew ({ U with heap := s₂.heap, slotsUsed := s₂.slotsUsed } : State) L mc ms := by
      refine ⟨?_, q2, q3, q4, q5, q6⟩
      obtain ⟨t, ht, -⟩ := State.frames_cons hr
      show ({ U with heap := s₂.heap, slotsUsed := s₂.slotsUsed } : State) = { U.setFrames U.frames with heap := s₂.heap, slotsUsed := s₂.slotsUsed }
      rw [State.setFrames_self ht]
    subst hg
    refine Or.inl ⟨v, ⟨(({ U with heap := s₂.heap, slotsUsed := s₂.slotsUsed } : State).setVm s₂.vm), Ls ++ L, c0 + mc, s0 + ms⟩,
      ⟨X.admits, X.cas, X.clock, X.frames, X.room, X.hears, X.method, X.code, (X.here.setHeapUsed s₂.heap s₂.slotsUsed).setVm hW'.alike, X.tail, State.WarmedH.trans X.warmed hW', X.limits, X.bytes, X.same.trans (hsame.setVm s.vm)⟩,
      ⟨g, mk, s₂, L, rfl, rfl, hqc, rfl, hL, rfl, rfl⟩, ?_⟩
    show Steps p.tables e below _ ((({ U with heap := s₂.heap, slotsUsed := s₂.slotsUsed } : State).setVm s₂.vm).setTop { g with pc := g.pc + len₂, stack := v.toList ++ g.stack })
    rw [← hs₂]
    exact hsteps
  · obtain ⟨e2, q2, q3, q4, q5, q6⟩ := id hsm
    have e3 : s₂ = ({ (U.calling g mk a).setFrames s₂.frames with heap := s₂.heap, slotsUsed := s₂.slotsUsed } : State).setVm s₂.vm := by
      have : s₂ = ({ s₂ with vm := (U.calling g mk a).vm } : State).setVm s₂.vm := rfl
      rw [e2] at this
      exact this
    have hf₂ : s₂.frames = .throwing q :: .java g :: U.frames.tail := hend
    have hW' : U.WarmedH s₂.vm := hW₂
    have hs₂ : s₂ = ((({ U with heap := s₂.heap, slotsUsed := s₂.slotsUsed } : State).setVm s₂.vm).setTop g).pushFrame (.throwing q) := by
      refine e3.trans ?_
      rw [hf₂, State.calling_eq h.top, State.setFrames_setFrames, State.pushFrame, State.frames_setTop _ hr', State.setTop_of_frames _ hr', State.setFrames_setFrames, hr]
      rfl
    have hsame : U.sameButNew ({ U with heap := s₂.heap, slotsUsed := s₂.slotsUsed } : State) L mc ms := by
      refine ⟨?_, q2, q3, q4, q5, q6⟩
      obtain ⟨t, ht, -⟩ := State.frames_cons hr
      show ({ U with heap := s₂.heap, slotsUsed := s₂.slotsUsed } : State) = { U.setFrames U.frames with heap := s₂.heap, slotsUsed := s₂.slotsUsed }
      rw [State.setFrames_self ht]
    subst hg
    refine Or.inr ⟨q, ⟨(({ U with heap := s₂.heap, slotsUsed := s₂.slotsUsed } : State).setVm s₂.vm), Ls ++ L, c0 + mc, s0 + ms⟩,
      ⟨X.admits, X.cas, X.clock, X.frames, X.room, X.hears, X.method, X.code, (X.here.setHeapUsed s₂.heap s₂.slotsUsed).setVm hW'.alike, X.tail, State.WarmedH.trans X.warmed hW', X.limits, X.bytes, X.same.trans (hsame.setVm s.vm)⟩,
      ⟨g, mk, s₂, L, E, ce, rfl, rfl, hx, hce, hcv, hcl, rfl, hL, rfl, rfl⟩, ?_⟩
    show Steps p.tables e below _ (((({ U with heap := s₂.heap, slotsUsed := s₂.slotsUsed } : State).setVm s₂.vm).setTop g).pushFrame (.throwing q))
    rw [← hs₂]
    exact hsteps
end Payer
section Calls
variable {p : Program} {l : Launch} {e : Env} {R : Room} {s : State} {m : MethodId} {args : Array Value} {below : List Frame} {meth : Method} {c : Code} {T : State} {locs : List Loc} {cells slots : Nat}
theorem vx_callV (X : Stand p l e R s m args below meth c T locs cells slots) (hexec : p.tables.exec = Jvm.exec) {own C : String} {index : Nat} {y : MethodName} {bytes : ByteArray} {maxL : Nat} {ret : Option FieldType}
    (hown : s.vm.findClass own = some m.cls) (hlink : (Cond.methodLink own index y).before args s = true) (hinst : (Cond.instanceMethod y).before args s = true) (hsel : (Cond.selects C y y).before args s = true)
    (hcode : (Cond.code y bytes maxL ret).before args s = true) (hy : y.cls ≠ "java/lang/invoke/MethodHandle" ∧ y.cls ≠ "java/lang/invoke/VarHandle")
    {W9 : Nat} {Pre : Pt → Array Value → Prop} {Post : Pt → Array Value → Option Value → Pt → Prop} {PostX : Pt → Array Value → Addr → Pt → Prop} (hK : vx_Back l R p e below s args y 3 W9 Pre Post PostX)
    {b : Addr} {cellB : Cell} (hcell : T.heap[b]? = some cellB) (hobj : cellB.vm.isStatics = false) (hcls : s.vm.findClass C = some cellB.cls)
    {g : JFrame} (hg : g.method = m) (hsize : g.locals.size = c.maxLocals) {argsL rest : List Value} (hlen : ∀ sig, parseMethodDescriptor y.desc = some sig → argsL.length = sig.parameters.length)
    (hstack : g.stack = argsL.reverse ++ .ref b :: rest) (hW : 2 * g.monitorRoom + (rest.map fun v => v.category).sum ≤ W9) (hdg : decode c.code g.pc = .ok (.invokevirtual index, 3))
    (hpre : ∀ vm₁, s.WarmedH vm₁ → Pre ⟨T.setVm vm₁, locs, cells, slots⟩ (Value.ref b :: argsL).toArray) :
    (∃ (v : Option Value) (vm₁ : Vm) (B : Pt), s.WarmedH vm₁ ∧ Stand p l e R s m args below meth c B.U B.locs B.cells B.slots ∧ Post ⟨T.setVm vm₁, locs, cells, slots⟩ (Value.ref b :: argsL).toArray v B ∧
      ∀ target, Steps p.tables e below (B.U.setTop { g with pc := g.pc + 3, stack := v.toList ++ rest }) target → Steps p.tables e below (T.setTop g) target) ∨
    (∃ (q : Addr) (vm₁ : Vm) (B : Pt), s.WarmedH vm₁ ∧ Stand p l e R s m args below meth c B.U B.locs B.cells B.slots ∧ PostX ⟨T.setVm vm₁, locs, cells, slots⟩ (Value.ref b :: argsL).toArray q B ∧
      Steps p.tables e below (T.setTop g) ((B.U.setTop { g with stack := rest }).pushFrame (.throwing q))) := by
  obtain ⟨mk, methM, hnamed, hmethM, hstM, habM⟩ := Cond.instanceMethod_spec hinst
  obtain ⟨methM', cM, hmethM', -, -, -, -, -, -, hsigM⟩ := Cond.code_spec hnamed hcode
  cases hmethM.symm.trans hmethM'
  obtain ⟨c2, r2, m2, q1, q2, q3, q4, kP, hkP, hkPi⟩ := Cond.selects_spec hsel
  cases hcls.symm.trans q1
  cases (State.methodFound?_of_named hnamed hy).symm.trans q2
  cases hnamed.symm.trans q3
  have hselP : selectMethod e.platform s.vm cellB.cls mk = .method mk := by rw [Launch.admits_selectMethod X.admits]; exact q4
  obtain ⟨vm₁, X₁, hstep₁⟩ := X.invokevirtual hexec hown hlink hnamed hmethM hstM hkP hkPi hy (a := b) (cell := cellB) hcell
    (fun z h => by rw [h] at hobj; cases hobj) hselP hmethM habM hkP hkPi (g := g) hg (argsL := argsL) (rest := rest) (hlen _ hsigM) hstack hdg
  rcases hK m meth c ⟨T.setVm vm₁, locs, cells, slots⟩ { g with stack := rest } (.invokevirtual index) mk (Value.ref b :: argsL).toArray X₁ hg hsize hdg hW (X₁.named hnamed) (hpre vm₁ X₁.warmed) with ⟨v, B, X', hpost, hsteps⟩ | ⟨q, B, X', hpost, hsteps⟩
  · exact Or.inl ⟨v, vm₁, B, X₁.warmed, X', hpost, fun target h => hstep₁ _ fun acts => by rw [doInvoke_state]; exact hsteps.trans h⟩
  · exact Or.inr ⟨q, vm₁, B, X₁.warmed, X', hpost, hstep₁ _ fun acts => by rw [doInvoke_state]; exact hsteps⟩
theorem vx_callS (X : Stand p l e R s m args below meth c T locs cells slots) (hexec : p.tables.exec = Jvm.exec) {own : String} {index : Nat} {y : MethodName} {bytes : ByteArray} {maxL : Nat} {ret : Option FieldType}
    (hown : s.vm.findClass own = some m.cls) (hlink : (Cond.methodLink own index y).before args s = true) (hstat : (Cond.static y).before args s = true) (hinit : (Cond.initialized y.cls).before args s = true)
    (hcode : (Cond.code y bytes maxL ret).before args s = true) (hy : y.cls ≠ "java/lang/invoke/MethodHandle" ∧ y.cls ≠ "java/lang/invoke/VarHandle")
    {W9 : Nat} {Pre : Pt → Array Value → Prop} {Post : Pt → Array Value → Option Value → Pt → Prop} {PostX : Pt → Array Value → Addr → Pt → Prop} (hK : vx_Back l R p e below s args y 3 W9 Pre Post PostX)
    {g : JFrame} (hg : g.method = m) (hsize : g.locals.size = c.maxLocals) {argsL rest : List Value} (hlen : ∀ sig, parseMethodDescriptor y.desc = some sig → argsL.length = sig.parameters.length)
    (hstack : g.stack = argsL.reverse ++ rest) (hW : 2 * g.monitorRoom + (rest.map fun v => v.category).sum ≤ W9) (hdg : decode c.code g.pc = .ok (.invokestatic index, 3))
    (hpre : ∀ vm₁, s.WarmedH vm₁ → Pre ⟨T.setVm vm₁, locs, cells, slots⟩ argsL.toArray) :
    (∃ (v : Option Value) (vm₁ : Vm) (B : Pt), s.WarmedH vm₁ ∧ Stand p l e R s m args below meth c B.U B.locs B.cells B.slots ∧ Post ⟨T.setVm vm₁, locs, cells, slots⟩ argsL.toArray v B ∧
      ∀ target, Steps p.tables e below (B.U.setTop { g with pc := g.pc + 3, stack := v.toList ++ rest }) target → Steps p.tables e below (T.setTop g) target) ∨
    (∃ (q : Addr) (vm₁ : Vm) (B : Pt), s.WarmedH vm₁ ∧ Stand p l e R s m args below meth c B.U B.locs B.cells B.slots ∧ PostX ⟨T.setVm vm₁, locs, cells, slots⟩ argsL.toArray q B ∧
      Steps p.tables e below (T.setTop g) ((B.U.setTop { g with stack := rest }).pushFrame (.throwing q))) := by
  obtain ⟨mk, hnamed⟩ := Cond.code_named hcode
  obtain ⟨methM, cM, hmethM, -, -, -, -, -, -, hsigM⟩ := Cond.code_spec hnamed hcode
  have hstatic : methM.isStatic = true := Cond.static_spec hnamed hmethM hstat
  obtain ⟨kP, hkP, -⟩ := className_of_methodNamed hnamed
  have hinitP : kP.init = .initialized := Cond.initialized_spec (findClass_of_methodNamed hnamed) hkP hinit
  obtain ⟨vm₁, X₁, hstep₁⟩ := X.invokestatic hexec hown hlink hnamed hmethM hstatic hkP hinitP hy (g := g) hg (argsL := argsL) (rest := rest) (hlen _ hsigM) hstack hdg
  rcases hK m meth c ⟨T.setVm vm₁, locs, cells, slots⟩ { g with stack := rest } (.invokestatic index) mk argsL.toArray X₁ hg hsize hdg hW (X₁.named hnamed) (hpre vm₁ X₁.warmed) with ⟨v, B, X', hpost, hsteps⟩ | ⟨q, B, X', hpost, hsteps⟩
  · exact Or.inl ⟨v, vm₁, B, X₁.warmed, X', hpost, fun target h => hstep₁ _ fun acts => by rw [doInvoke_state]; exact hsteps.trans h⟩
  · exact Or.inr ⟨q, vm₁, B, X₁.warmed, X', hpost, hstep₁ _ fun acts => by rw [doInvoke_state]; exact hsteps⟩
end Calls
theorem vx_cls {s : State} {T : State} {vm₁ : Vm} {E : String} {k : ClassId} (hW : s.WarmedH vm₁) (h : (T.setVm vm₁).vm.findClass E = some k) : s.vm.findClass E = some k := by
  have h1 : vm₁.findClass E = some k := h
  rw [hW.alike.findClass] at h1
  exact h1
/-- the method's frame g, with q thrown over it -/
def vx_W (p : Program) (l : Launch) (e : Env) (R : Room) (s : State) (m : MethodId) (args : Array Value) (below : List Frame) (meth : Method) (c : Code) (H : Heap) (locs : List Loc) (cells slots : Nat) (Q : State → Prop) (g : JFrame) (q : Addr) : Prop :=
  ∀ T : State, T.heap = H → Stand p l e R s m args below meth c T locs cells slots → ∃ t, Steps p.tables e below ((T.setTop g).pushFrame (.throwing q)) t ∧ Q t
def vx_Run (p : Program) (l : Launch) (e : Env) (R : Room) (s : State) (m : MethodId) (args : Array Value) (below : List Frame) (meth : Method) (c : Code) (H : Heap) (locs : List Loc) (cells slots mc ms : Nat) (g : JFrame) (rest : List Value) (Qa : State → Outcome → State → Prop) (XC : String → State → State → Prop) (free : Addr → Prop) : Prop :=
  ∀ T : State, T.heap = H → Stand p l e R s m args below meth c T locs cells slots →
    (∃ (v : Option Value) (st₀ t T' : State) (L : List Loc), st₀.heap = H ∧ Stand p l e R s m args below meth c T' (locs ++ L) (cells + mc) (slots + ms) ∧ (∀ q ∈ L, free q.base) ∧ T'.heap = t.heap ∧ T'.vm = t.vm ∧ Qa st₀ (.returned v) t ∧
      Goes p e below T g T' { g with pc := g.pc + 3, stack := v.toList ++ rest }) ∨
    (∃ (q : Addr) (st₀ t T' : State) (L : List Loc) (E : String) (ce : Cell), st₀.heap = H ∧ Stand p l e R s m args below meth c T' (locs ++ L) (cells + mc) (slots + ms) ∧ (∀ z ∈ L, free z.base) ∧ T'.heap = t.heap ∧ T'.vm = t.vm ∧ XC E st₀ t ∧ t.heap[q]? = some ce ∧ ce.vm = .none ∧ s.vm.findClass E = some ce.cls ∧
      Steps p.tables e below (T.setTop g) ((T'.setTop { g with stack := rest }).pushFrame (.throwing q)))
def vx_X {S : Type} (px : S → Prop) (B : String → S → State → Prop) (A : Nat → Prop) : String → State → State → Prop := fun E st t => ∃ u : S, px u ∧ B E u t ∧ va_F A st t
section Runs
variable {p : Program} {l : Launch} {e : Env} {R : Room} {s : State} {m : MethodId} {args : Array Value} {below : List Frame} {meth : Method} {c : Code} {H : Heap} {locs : List Loc} {cells slots : Nat}
variable {y : MethodName} {bytes cc : ByteArray} {maxL nL mc ms n index : Nat} {ret : Option FieldType} {ws : List Cond} {rm : Room} {Pc : Array Value → State → Prop} {Qc : Array Value → State → Outcome → State → Prop} {XC : String → State → State → Prop} {free : Addr → Prop} {Ts : List Cond} {own C : String} {b : Addr} {As rest : List Value} {g : JFrame}
theorem vx_callBack (cb : CallB R s args own index y bytes maxL ret ws rm mc ms n) (hM : vx_Met l y ws rm Pc Qc XC mc ms free) (hbl : FrameBlind Pc) : vx_Back l R p e below s args y 3 8 (PreOf R mc ms Pc) (PostOf Qc mc ms free) (vx_Post XC mc ms free) := by
  obtain ⟨hrc, hrs, hfr, hlo, hws, hcw, -, hini, -⟩ := cb
  exact vx_back (bytes := bytes) (maxL := maxL) (ret := ret) hM hbl hrc hrs hfr hlo hws hcw (fun a' U hW => word_at hW (Or.inl (by first | rfl | simp [Cond.onTables, Cond.keeps, Cond.steady])) hini)
theorem vx_runV (S : CallFix p m c cc nL s args Ts own) (hM : vx_Met l y ws rm Pc Qc XC mc ms free) (cw : CallW R s args own C index y bytes maxL ret ws rm mc ms n) (hp : PreV s H C b Pc As)
    (hg : g.method = m) (hn : As.length = n) (hsize : g.locals.size = nL) (hstack : g.stack = As.reverse ++ .ref b :: rest) (hW : 2 * g.monitorRoom + (rest.map fun v => v.category).sum ≤ 8) (hdg : decode cc g.pc = .ok (.invokevirtual index, 3)) (hf : cells + mc ≤ R.cells ∧ slots + ms ≤ R.slots) :
    vx_Run p l e R s m args below meth c H locs cells slots mc ms g rest (Qc (Value.ref b :: As).toArray) XC free := by
  have hK : vx_Back l R p e below s args y 3 8 (PreOf R mc ms Pc) (PostOf Qc mc ms free) (vx_Post XC mc ms free) := vx_callBack cw.1 hM hp.1
  obtain ⟨⟨-, -, -, -, -, -, hcode, -, hy, hlen, hl⟩, hin, hse⟩ := cw
  obtain ⟨hx, hb, hml, ho, -⟩ := S
  obtain ⟨-, ⟨cellB, hcB, hoB, hclB⟩, hPc⟩ := hp
  intro T hT X
  rcases vx_callV X hx (C := C) (bytes := bytes) (maxL := maxL) (ret := ret) ho hl hin hse hcode hy hK (by rw [hT]; exact hcB) hoB hclB hg (hsize.trans hml.symm) (argsL := As) (rest := rest) (fun sig h => hn.trans (hlen sig h)) hstack hW (by rw [hb]; exact hdg)
    (fun vm₁ hW₁ => ⟨hf.1, hf.2, hPc (T.setVm vm₁) hT hW₁⟩) with ⟨v, vm₁, ⟨U', l2, c2, s2⟩, hW₁, X', ⟨g', mk, t, L, e1, e2, hq, h1, hL, h2, h3⟩, st⟩ | ⟨q, vm₁, ⟨U', l2, c2, s2⟩, hW₁, X', ⟨g', mk, t, L, E, ce, e1, e2, hq, hce, hcv, hcl, h1, hL, h2, h3⟩, st⟩
  · dsimp only [Pt.U, Pt.locs, Pt.cells, Pt.slots] at X' e1 e2 h1 h2 h3 st
    subst h1; subst h2; subst h3
    exact Or.inl ⟨v, (T.setVm vm₁).calling g' mk (Value.ref b :: As).toArray, t, U', L, hT, X', hL, e1, e2, hq, st⟩
  · dsimp only [Pt.U, Pt.locs, Pt.cells, Pt.slots] at X' e1 e2 h1 h2 h3 st hcl
    subst h1; subst h2; subst h3
    exact Or.inr ⟨q, (T.setVm vm₁).calling g' mk (Value.ref b :: As).toArray, t, U', L, E, ce, hT, X', hL, e1, e2, hq, hce, hcv, vx_cls hW₁ hcl, st⟩
theorem vx_runS (S : CallFix p m c cc nL s args Ts own) (hM : vx_Met l y ws rm Pc Qc XC mc ms free) (cw : CallB R s args own index y bytes maxL ret ws rm mc ms n ∧ (Cond.static y).before args s = true) (hp : PreS s H Pc As)
    (hg : g.method = m) (hn : As.length = n) (hsize : g.locals.size = nL) (hstack : g.stack = As.reverse ++ rest) (hW : 2 * g.monitorRoom + (rest.map fun v => v.category).sum ≤ 8) (hdg : decode cc g.pc = .ok (.invokestatic index, 3)) (hf : cells + mc ≤ R.cells ∧ slots + ms ≤ R.slots) :
    vx_Run p l e R s m args below meth c H locs cells slots mc ms g rest (Qc As.toArray) XC free := by
  have hK : vx_Back l R p e below s args y 3 8 (PreOf R mc ms Pc) (PostOf Qc mc ms free) (vx_Post XC mc ms free) := vx_callBack cw.1 hM hp.1
  obtain ⟨⟨-, -, -, -, -, -, hcode, hini, hy, hlen, hl⟩, hstt⟩ := cw
  obtain ⟨hx, hb, hml, ho, -⟩ := S
  intro T hT X
  rcases vx_callS X hx (bytes := bytes) (maxL := maxL) (ret := ret) ho hl hstt hini hcode hy hK hg (hsize.trans hml.symm) (argsL := As) (rest := rest) (fun sig h => hn.trans (hlen sig h)) hstack hW (by rw [hb]; exact hdg)
    (fun vm₁ hW₁ => ⟨hf.1, hf.2, hp.2 (T.setVm vm₁) hT hW₁⟩) with ⟨v, vm₁, ⟨U', l2, c2, s2⟩, hW₁, X', ⟨g', mk, t, L, e1, e2, hq, h1, hL, h2, h3⟩, st⟩ | ⟨q, vm₁, ⟨U', l2, c2, s2⟩, hW₁, X', ⟨g', mk, t, L, E, ce, e1, e2, hq, hce, hcv, hcl, h1, hL, h2, h3⟩, st⟩
  · dsimp only [Pt.U, Pt.locs, Pt.cells, Pt.slots] at X' e1 e2 h1 h2 h3 st
    subst h1; subst h2; subst h3
    exact Or.inl ⟨v, (T.setVm vm₁).calling g' mk As.toArray, t, U', L, hT, X', hL, e1, e2, hq, st⟩
  · dsimp only [Pt.U, Pt.locs, Pt.cells, Pt.slots] at X' e1 e2 h1 h2 h3 st hcl
    subst h1; subst h2; subst h3
    exact Or.inr ⟨q, (T.setVm vm₁).calling g' mk As.toArray, t, U', L, E, ce, hT, X', hL, e1, e2, hq, hce, hcv, vx_cls hW₁ hcl, st⟩
end Runs
section Rows
variable {p : Program} {l : Launch} {e : Env} {R : Room} {s : State} {m : MethodId} {args : Array Value} {below : List Frame} {meth : Method} {c : Code} {H : Heap} {locs : List Loc} {cells slots : Nat} {Q : State → Prop}
variable {mc ms : Nat} {free : Addr → Prop} {A0 A1 : Nat → Prop} {H0 : Heap} {a : Array Value} {pc : Nat} {ls : Array Slot} {st0 rest : List Value}
theorem vx_keep {st₀ t T' : State} {L : List Loc} (h0 : st₀.heap = H) (e1 : T'.heap = t.heap) (hS : va_S A0 H0 H locs) (hA : ∀ q, q < H.size → A1 q → A0 q) (hf : ∀ q, free q → A0 q) (hL : ∀ q ∈ L, free q.base) (hF : va_F A1 st₀ t) :
    H.size ≤ T'.heap.size ∧ (∀ q : Nat, q < H.size → ¬ A1 q → T'.heap[q]? = H[q]?) ∧ va_S A0 H0 T'.heap (locs ++ L) := by
  obtain ⟨hz, hk⟩ := hF
  rw [h0] at hz hk
  exact ⟨by rw [e1]; exact hz, fun q h1 h2 => by rw [e1]; exact hk q h1 h2,
    ⟨Nat.le_trans hS.1 (by rw [e1]; exact hz), fun q h1 h2 => by rw [e1, hk q (Nat.lt_of_lt_of_le h1 hS.1) (fun z => h2 (hA q (Nat.lt_of_lt_of_le h1 hS.1) z))]; exact hS.2.1 q h1 h2, fun q hq => by
      rcases List.mem_append.mp hq with h | h
      · exact hS.2.2 q h
      · exact hf _ (hL q h)⟩⟩
theorem vx_calli {S SX : Type} {post : Int32 → S → Prop} {px : SX → Prop} {B : S → State → Prop} {BX : String → SX → State → Prop} {AX : Nat → Prop} (hr : vx_Run p l e R s m args below meth c H locs cells slots mc ms (F0 m pc ls st0) rest (va_Qi post B A1 a) (vx_X px BX AX) free) (hS : va_S A0 H0 H locs) (hA : ∀ q, q < H.size → A1 q → A0 q) (hf : ∀ q, free q → A0 q) (hAX : ∀ q, q < H.size → AX q → A0 q)
    (kx : ∀ (E : String) (ce : Cell) (q9 : Addr) (u : SX) (t : State) (H1 : Heap) (locs1 : List Loc), t.heap = H1 → s.vm.Alike t.vm → px u → BX E u t → H.size ≤ H1.size → (∀ q : Nat, q < H.size → ¬ AX q → H1[q]? = H[q]?) → va_S A0 H0 H1 locs1 → H1[q9]? = some ce → ce.vm = .none → s.vm.findClass E = some ce.cls → vx_W p l e R s m args below meth c H1 locs1 (cells + mc) (slots + ms) Q (F0 m pc ls rest) q9)
    (kk : ∀ (r : Int32) (u : S) (t : State) (H1 : Heap) (locs1 : List Loc), t.heap = H1 → s.vm.Alike t.vm → post r u → B u t → H.size ≤ H1.size → (∀ q : Nat, q < H.size → ¬ A1 q → H1[q]? = H[q]?) → va_S A0 H0 H1 locs1 → W p l e R s m args below meth c H1 locs1 (cells + mc) (slots + ms) Q (F0 m (pc + 3) ls (.int r :: rest))) : W p l e R s m args below meth c H locs cells slots Q (F0 m pc ls st0) := by
  intro T hT X
  rcases hr T hT X with ⟨v, st₀, t, T', L, h0, X', hL, e1, e2, ⟨⟨r, u, hv, hp, hb⟩, hF⟩, st⟩ | ⟨q, st₀, t, T', L, E, ce, h0, X', hL, e1, e2, ⟨u, hp, hb, hF⟩, hce, hcv, hcl, st⟩
  · cases hv
    obtain ⟨k1, k2, k3⟩ := vx_keep h0 e1 hS hA hf hL hF
    obtain ⟨t2, a1, b1⟩ := kk r u t T'.heap (locs ++ L) e1.symm (by rw [← e2]; exact X'.warmed.alike) hp hb k1 k2 k3 T' rfl X'
    exact ⟨t2, st t2 a1, b1⟩
  · obtain ⟨k1, k2, k3⟩ := vx_keep h0 e1 hS hAX hf hL hF
    obtain ⟨t2, a1, b1⟩ := kx E ce q u t T'.heap (locs ++ L) e1.symm (by rw [← e2]; exact X'.warmed.alike) hp hb k1 k2 k3 (by rw [e1]; exact hce) hcv hcl T' rfl X'
    exact ⟨t2, st.trans a1, b1⟩
theorem vx_calll {S SX : Type} {post : Int64 → S → Prop} {px : SX → Prop} {B : S → State → Prop} {BX : String → SX → State → Prop} {AX : Nat → Prop} (hr : vx_Run p l e R s m args below meth c H locs cells slots mc ms (F0 m pc ls st0) rest (va_Ql post B A1 a) (vx_X px BX AX) free) (hS : va_S A0 H0 H locs) (hA : ∀ q, q < H.size → A1 q → A0 q) (hf : ∀ q, free q → A0 q) (hAX : ∀ q, q < H.size → AX q → A0 q)
    (kx : ∀ (E : String) (ce : Cell) (q9 : Addr) (u : SX) (t : State) (H1 : Heap) (locs1 : List Loc), t.heap = H1 → s.vm.Alike t.vm → px u → BX E u t → H.size ≤ H1.size → (∀ q : Nat, q < H.size → ¬ AX q → H1[q]? = H[q]?) → va_S A0 H0 H1 locs1 → H1[q9]? = some ce → ce.vm = .none → s.vm.findClass E = some ce.cls → vx_W p l e R s m args below meth c H1 locs1 (cells + mc) (slots + ms) Q (F0 m pc ls rest) q9)
    (kk : ∀ (r : Int64) (u : S) (t : State) (H1 : Heap) (locs1 : List Loc), t.heap = H1 → s.vm.Alike t.vm → post r u → B u t → H.size ≤ H1.size → (∀ q : Nat, q < H.size → ¬ A1 q → H1[q]? = H[q]?) → va_S A0 H0 H1 locs1 → W p l e R s m args below meth c H1 locs1 (cells + mc) (slots + ms) Q (F0 m (pc + 3) ls (.long r :: rest))) : W p l e R s m args below meth c H locs cells slots Q (F0 m pc ls st0) := by
  intro T hT X
  rcases hr T hT X with ⟨v, st₀, t, T', L, h0, X', hL, e1, e2, ⟨⟨r, u, hv, hp, hb⟩, hF⟩, st⟩ | ⟨q, st₀, t, T', L, E, ce, h0, X', hL, e1, e2, ⟨u, hp, hb, hF⟩, hce, hcv, hcl, st⟩
  · cases hv
    obtain ⟨k1, k2, k3⟩ := vx_keep h0 e1 hS hA hf hL hF
    obtain ⟨t2, a1, b1⟩ := kk r u t T'.heap (locs ++ L) e1.symm (by rw [← e2]; exact X'.warmed.alike) hp hb k1 k2 k3 T' rfl X'
    exact ⟨t2, st t2 a1, b1⟩
  · obtain ⟨k1, k2, k3⟩ := vx_keep h0 e1 hS hAX hf hL hF
    obtain ⟨t2, a1, b1⟩ := kx E ce q u t T'.heap (locs ++ L) e1.symm (by rw [← e2]; exact X'.warmed.alike) hp hb k1 k2 k3 (by rw [e1]; exact hce) hcv hcl T' rfl X'
    exact ⟨t2, st.trans a1, b1⟩
theorem vx_callf {S SX : Type} {post : UInt32 → S → Prop} {px : SX → Prop} {B : S → State → Prop} {BX : String → SX → State → Prop} {AX : Nat → Prop} (hr : vx_Run p l e R s m args below meth c H locs cells slots mc ms (F0 m pc ls st0) rest (va_Qf post B A1 a) (vx_X px BX AX) free) (hS : va_S A0 H0 H locs) (hA : ∀ q, q < H.size → A1 q → A0 q) (hf : ∀ q, free q → A0 q) (hAX : ∀ q, q < H.size → AX q → A0 q)
    (kx : ∀ (E : String) (ce : Cell) (q9 : Addr) (u : SX) (t : State) (H1 : Heap) (locs1 : List Loc), t.heap = H1 → s.vm.Alike t.vm → px u → BX E u t → H.size ≤ H1.size → (∀ q : Nat, q < H.size → ¬ AX q → H1[q]? = H[q]?) → va_S A0 H0 H1 locs1 → H1[q9]? = some ce → ce.vm = .none → s.vm.findClass E = some ce.cls → vx_W p l e R s m args below meth c H1 locs1 (cells + mc) (slots + ms) Q (F0 m pc ls rest) q9)
    (kk : ∀ (r : UInt32) (u : S) (t : State) (H1 : Heap) (locs1 : List Loc), t.heap = H1 → s.vm.Alike t.vm → post r u → B u t → H.size ≤ H1.size → (∀ q : Nat, q < H.size → ¬ A1 q → H1[q]? = H[q]?) → va_S A0 H0 H1 locs1 → W p l e R s m args below meth c H1 locs1 (cells + mc) (slots + ms) Q (F0 m (pc + 3) ls (.float r :: rest))) : W p l e R s m args below meth c H locs cells slots Q (F0 m pc ls st0) := by
  intro T hT X
  rcases hr T hT X with ⟨v, st₀, t, T', L, h0, X', hL, e1, e2, ⟨⟨r, u, hv, hp, hb⟩, hF⟩, st⟩ | ⟨q, st₀, t, T', L, E, ce, h0, X', hL, e1, e2, ⟨u, hp, hb, hF⟩, hce, hcv, hcl, st⟩
  · cases hv
    obtain ⟨k1, k2, k3⟩ := vx_keep h0 e1 hS hA hf hL hF
    obtain ⟨t2, a1, b1⟩ := kk r u t T'.heap (locs ++ L) e1.symm (by rw [← e2]; exact X'.warmed.alike) hp hb k1 k2 k3 T' rfl X'
    exact ⟨t2, st t2 a1, b1⟩
  · obtain ⟨k1, k2, k3⟩ := vx_keep h0 e1 hS hAX hf hL hF
    obtain ⟨t2, a1, b1⟩ := kx E ce q u t T'.heap (locs ++ L) e1.symm (by rw [← e2]; exact X'.warmed.alike) hp hb k1 k2 k3 (by rw [e1]; exact hce) hcv hcl T' rfl X'
    exact ⟨t2, st.trans a1, b1⟩
theorem vx_calld {S SX : Type} {post : UInt64 → S → Prop} {px : SX → Prop} {B : S → State → Prop} {BX : String → SX → State → Prop} {AX : Nat → Prop} (hr : vx_Run p l e R s m args below meth c H locs cells slots mc ms (F0 m pc ls st0) rest (va_Qd post B A1 a) (vx_X px BX AX) free) (hS : va_S A0 H0 H locs) (hA : ∀ q, q < H.size → A1 q → A0 q) (hf : ∀ q, free q → A0 q) (hAX : ∀ q, q < H.size → AX q → A0 q)
    (kx : ∀ (E : String) (ce : Cell) (q9 : Addr) (u : SX) (t : State) (H1 : Heap) (locs1 : List Loc), t.heap = H1 → s.vm.Alike t.vm → px u → BX E u t → H.size ≤ H1.size → (∀ q : Nat, q < H.size → ¬ AX q → H1[q]? = H[q]?) → va_S A0 H0 H1 locs1 → H1[q9]? = some ce → ce.vm = .none → s.vm.findClass E = some ce.cls → vx_W p l e R s m args below meth c H1 locs1 (cells + mc) (slots + ms) Q (F0 m pc ls rest) q9)
    (kk : ∀ (r : UInt64) (u : S) (t : State) (H1 : Heap) (locs1 : List Loc), t.heap = H1 → s.vm.Alike t.vm → post r u → B u t → H.size ≤ H1.size → (∀ q : Nat, q < H.size → ¬ A1 q → H1[q]? = H[q]?) → va_S A0 H0 H1 locs1 → W p l e R s m args below meth c H1 locs1 (cells + mc) (slots + ms) Q (F0 m (pc + 3) ls (.double r :: rest))) : W p l e R s m args below meth c H locs cells slots Q (F0 m pc ls st0) := by
  intro T hT X
  rcases hr T hT X with ⟨v, st₀, t, T', L, h0, X', hL, e1, e2, ⟨⟨r, u, hv, hp, hb⟩, hF⟩, st⟩ | ⟨q, st₀, t, T', L, E, ce, h0, X', hL, e1, e2, ⟨u, hp, hb, hF⟩, hce, hcv, hcl, st⟩
  · cases hv
    obtain ⟨k1, k2, k3⟩ := vx_keep h0 e1 hS hA hf hL hF
    obtain ⟨t2, a1, b1⟩ := kk r u t T'.heap (locs ++ L) e1.symm (by rw [← e2]; exact X'.warmed.alike) hp hb k1 k2 k3 T' rfl X'
    exact ⟨t2, st t2 a1, b1⟩
  · obtain ⟨k1, k2, k3⟩ := vx_keep h0 e1 hS hAX hf hL hF
    obtain ⟨t2, a1, b1⟩ := kx E ce q u t T'.heap (locs ++ L) e1.symm (by rw [← e2]; exact X'.warmed.alike) hp hb k1 k2 k3 (by rw [e1]; exact hce) hcv hcl T' rfl X'
    exact ⟨t2, st.trans a1, b1⟩
theorem vx_callv {S SX : Type} {post : S → Prop} {px : SX → Prop} {B : S → State → Prop} {BX : String → SX → State → Prop} {AX : Nat → Prop} (hr : vx_Run p l e R s m args below meth c H locs cells slots mc ms (F0 m pc ls st0) rest (va_Qv post B A1 a) (vx_X px BX AX) free) (hS : va_S A0 H0 H locs) (hA : ∀ q, q < H.size → A1 q → A0 q) (hf : ∀ q, free q → A0 q) (hAX : ∀ q, q < H.size → AX q → A0 q)
    (kx : ∀ (E : String) (ce : Cell) (q9 : Addr) (u : SX) (t : State) (H1 : Heap) (locs1 : List Loc), t.heap = H1 → s.vm.Alike t.vm → px u → BX E u t → H.size ≤ H1.size → (∀ q : Nat, q < H.size → ¬ AX q → H1[q]? = H[q]?) → va_S A0 H0 H1 locs1 → H1[q9]? = some ce → ce.vm = .none → s.vm.findClass E = some ce.cls → vx_W p l e R s m args below meth c H1 locs1 (cells + mc) (slots + ms) Q (F0 m pc ls rest) q9)
    (kk : ∀ (u : S) (t : State) (H1 : Heap) (locs1 : List Loc), t.heap = H1 → s.vm.Alike t.vm → post u → B u t → H.size ≤ H1.size → (∀ q : Nat, q < H.size → ¬ A1 q → H1[q]? = H[q]?) → va_S A0 H0 H1 locs1 → W p l e R s m args below meth c H1 locs1 (cells + mc) (slots + ms) Q (F0 m (pc + 3) ls (rest))) : W p l e R s m args below meth c H locs cells slots Q (F0 m pc ls st0) := by
  intro T hT X
  rcases hr T hT X with ⟨v, st₀, t, T', L, h0, X', hL, e1, e2, ⟨⟨u, hv, hp, hb⟩, hF⟩, st⟩ | ⟨q, st₀, t, T', L, E, ce, h0, X', hL, e1, e2, ⟨u, hp, hb, hF⟩, hce, hcv, hcl, st⟩
  · cases hv
    obtain ⟨k1, k2, k3⟩ := vx_keep h0 e1 hS hA hf hL hF
    obtain ⟨t2, a1, b1⟩ := kk u t T'.heap (locs ++ L) e1.symm (by rw [← e2]; exact X'.warmed.alike) hp hb k1 k2 k3 T' rfl X'
    exact ⟨t2, st t2 a1, b1⟩
  · obtain ⟨k1, k2, k3⟩ := vx_keep h0 e1 hS hAX hf hL hF
    obtain ⟨t2, a1, b1⟩ := kx E ce q u t T'.heap (locs ++ L) e1.symm (by rw [← e2]; exact X'.warmed.alike) hp hb k1 k2 k3 (by rw [e1]; exact hce) hcv hcl T' rfl X'
    exact ⟨t2, st.trans a1, b1⟩
/-- caught by the row x of this method's table; the rows ahead don't take it -/
theorem vx_catch {own name : String} {E : String} {ce : Cell} {q : Addr} (hown : s.vm.findClass own = some m.cls) (pre : List ExceptionTableEntry) (x : ExceptionTableEntry) (suf : List ExceptionTableEntry) (hsplit : c.exceptionTable.toList = pre ++ x :: suf)
    (hpass : ∀ z ∈ pre, covers z pc = false ∨ (z.catchType ≠ 0 ∧ ∃ nm : String, (Cond.classLink own z.catchType nm).before args s = true ∧ va_Nc E nm s)) (hx : covers x pc = true) (h0 : x.catchType ≠ 0)
    (hlink : (Cond.classLink own x.catchType name).before args s = true) (hcast : (Cond.castable E name).before args s = true) (hcell : H[q]? = some ce) (hv : ce.vm = .none) (hcl : s.vm.findClass E = some ce.cls)
    (kk : W p l e R s m args below meth c H locs cells slots Q (F0 m x.handlerPc ls [.ref q])) : vx_W p l e R s m args below meth c H locs cells slots Q (F0 m pc ls rest) q := by
  intro T hT X
  have hpl : e.platform.magicAccessors = ({} : Platform).magicAccessors := by rw [X.admits.platform]
  obtain ⟨c3, c4, hc3, hc4, hasg⟩ := Cond.castable_spec hcast
  cases Option.some.inj (hc3.symm.trans hcl)
  obtain ⟨c5, hc5, hcl5⟩ := Cond.classLink_spec hown hlink e.platform hpl
  cases Option.some.inj (hc4.symm.trans hc5)
  obtain ⟨vm', X', st⟩ := X.thenCaughtThrough q (g := F0 m pc ls rest) rfl (Steps.refl _) (by rw [hT]; exact hcell) (by rw [hv]; rfl) (by obtain ⟨k9, h9, -⟩ := Vm.findClass_spec hcl; exact ⟨k9, h9⟩) pre x suf hsplit
    (fun z hz => by
      rcases hpass z hz with h | ⟨hz0, nm, hl1, hn1⟩
      · exact Or.inl h
      · obtain ⟨c6, hc6, hcl6⟩ := Cond.classLink_spec hown hl1 e.platform hpl
        obtain ⟨a8, b8, h1, h2, h3⟩ := hn1
        cases Option.some.inj (h1.symm.trans hcl)
        cases Option.some.inj (h2.symm.trans hc6)
        exact Or.inr ⟨hz0, _, hcl6, h3⟩) hx (Or.inr ⟨h0, c4, hcl5, hasg⟩)
  obtain ⟨t, a1, b1⟩ := kk (T.setVm vm') hT X'
  exact ⟨t, st.trans a1, b1⟩
end Rows
section Ends
variable {p : Program} {l : Launch} {e : Env} {R : Room} {s : State} {m : MethodId} {args : Array Value} {below : List Frame} {meth : Method} {c : Code} {H : Heap} {locs : List Loc} {cells slots : Nat} {Q : State → Prop}
variable {mc ms : Nat} {free : Addr → Prop} {A0 A1 : Nat → Prop} {H0 : Heap} {a : Array Value} {ls : Array Slot} {st0 rest : List Value}
variable {Qc : Array Value → State → Outcome → State → Prop} {XC : String → State → State → Prop}
/-- what a body that may throw owes at its end -/
def vx_MQ (below : List Frame) (Qc : Array Value → State → Outcome → State → Prop) (XC : String → State → State → Prop) (a : Array Value) (s : State) (mc ms : Nat) (free : Addr → Prop) : State → Prop := fun t =>
  ∃ o, t.status = .running ∧ Ended t below o ∧ vx_Q Qc XC mc ms free a s o t
theorem vx_ret {g : JFrame} {mc ms : Nat} (k : W p l e R s m args below meth c H locs cells slots (MQ below Qc args s mc ms free) g) : W p l e R s m args below meth c H locs cells slots (vx_MQ below Qc XC args s mc ms free) g := by
  intro T hT X
  obtain ⟨t, a1, o, b1, b2, b3, b4⟩ := k T hT X
  exact ⟨t, a1, o, b1, b2, Or.inl ⟨b3, b4⟩⟩
/-- not caught here: it goes on to the caller -/
theorem vx_widen {g : JFrame} {q : Addr} {k n : Nat} (h1 : cells ≤ k) (h2 : slots ≤ n) (kk : vx_W p l e R s m args below meth c H locs k n Q g q) : vx_W p l e R s m args below meth c H locs cells slots Q g q := fun T hT X => kk T hT (stand_widen X h1 h2)
theorem vx_out {pc : Nat} {E : String} {ce : Cell} {q : Addr} {mc ms : Nat} (hout : ∀ x ∈ c.exceptionTable.toList, covers x pc = false) (hlocks : meth.locks = false) (hcell : H[q]? = some ce) (hv : ce.vm = .none) (hcl : s.vm.findClass E = some ce.cls)
    (hx : ∀ t : State, t.heap = H → s.vm.Alike t.vm → XC E s t) (hf : ∀ z ∈ locs, free z.base) (hc : cells ≤ mc) (hs : slots ≤ ms) :
    vx_W p l e R s m args below meth c H locs cells slots (vx_MQ below Qc XC args s mc ms free) (F0 m pc ls rest) q := by
  intro T hT X
  obtain ⟨st1, hrun, hend, hW, hsm⟩ := X.leaveThrown q (g := F0 m pc ls rest) rfl rfl rfl hout hlocks
  have hcell9 : (T.setFrames (.throwing q :: below)).heap[q]? = some ce := by
    show T.heap[q]? = some ce
    rw [hT]; exact hcell
  exact ⟨_, st1, .threw q, hrun, hend, Or.inr ⟨q, rfl, E, ce, locs, hx _ hT hW.alike, hcell9, hv, hcl, hW, hsm.mono hc hs, hf⟩⟩
theorem vx_frame {U : State} {k n : Nat} (h : s.sameButNew ({ U with vm := s.vm } : State) locs k n) : s.heap.size ≤ U.heap.size ∧ ∀ q : Nat, q < s.heap.size → (∀ z ∈ locs, z.base ≠ q) → U.heap[q]? = s.heap[q]? := by
  obtain ⟨-, h2, -, -, -, h6⟩ := h
  refine ⟨h2, fun q hq hz => ?_⟩
  obtain ⟨c9, e1, e2, e3, e4⟩ := h6 q _ (Array.getElem?_eq_getElem hq)
  have hs : c9.slots = (s.heap[q]).slots := Array.ext_getElem? fun i => e4 i fun hm => hz _ hm rfl
  have h9 : c9 = s.heap[q] := by
    rw [hs] at e2
    exact e2
  have e5 : U.heap[q]? = some c9 := e1
  rw [e5, h9, Array.getElem?_eq_getElem hq]
/-- the words of a throw but the four that speak of the heap -/
def vx_no (w : Cond) : Bool := decide (w ≠ .isRef (.static Bundle.tN "UNASSIGNED_STACK" Bundle.steD)) && decide (w ≠ .isRef (.static Bundle.tN "SUPPRESSED_SENTINEL" Bundle.listD)) && decide (w ≠ .laysStatic Bundle.tN "UNASSIGNED_STACK" Bundle.steD) && decide (w ≠ .laysStatic Bundle.tN "SUPPRESSED_SENTINEL" Bundle.listD)
def vx_at0 (own : String) (ic : Nat) (X : String) (names : List String) : List Cond := (Bundle.ownAtoms0 own ic X names).filter vx_no
def vx_atS (own : String) (ic : Nat) (X : String) (names : List String) : List Cond := (Bundle.ownAtoms own ic X names).filter vx_no
/-- a word that the tables alone decide, or a good one -/
def vx_ot (w : Cond) : Bool := w.onTables || goodWord w
theorem vx_ot_at {args a' : Array Value} {s U : State} {w : Cond} (hW : s.WarmedH U.vm) (hvm : s.vm = U.vm) (hg : vx_ot w = true) (h : w.before args s = true) : w.before a' U = true := by
  simp only [vx_ot, Bool.or_eq_true] at hg
  rcases hg with hg | hg
  · exact va_tabs hg hvm h
  · exact word_at hW (good_of_word hg) h
/-- a list's words: the good ones out of the method's own list, the others by premises of their own -/
theorem vx_hat {args : Array Value} {s : State} {L B : List Cond} (h1 : ∀ w ∈ L.filter goodWord, w.before args s = true) (h2 : ∀ w ∈ L.filter (fun w => !goodWord w), w ∈ B) (h3 : ∀ w ∈ B, w.before args s = true) : ∀ w ∈ L, w.before args s = true := by
  intro w hw
  by_cases g : goodWord w = true
  · exact h1 w (List.mem_filter.mpr ⟨hw, g⟩)
  · refine h3 w (h2 w (List.mem_filter.mpr ⟨hw, ?_⟩))
    show (!goodWord w) = true
    cases hgw : goodWord w
    · rfl
    · exact absurd hgw g
theorem vx_c {args : Array Value} {s : State} {w : Cond} {B : List Cond} (h : w.before args s = true) (t : ∀ w ∈ B, w.before args s = true) : ∀ w' ∈ w :: B, w'.before args s = true := fun w' h' => (List.mem_cons.mp h').elim (fun e => by rw [e]; exact h) (t w')
theorem vx_n {args : Array Value} {s : State} : ∀ w ∈ ([] : List Cond), w.before args s = true := fun _ h => nomatch h
theorem vx_own {args : Array Value} {s : State} {L : List Cond} (h1 : ∀ w ∈ L.filter vx_no, w.before args s = true)
    (hU : (Cond.isRef (.static Bundle.tN "UNASSIGNED_STACK" Bundle.steD)).before args s = true) (hN : (Cond.isRef (.static Bundle.tN "SUPPRESSED_SENTINEL" Bundle.listD)).before args s = true)
    (lU : (Cond.laysStatic Bundle.tN "UNASSIGNED_STACK" Bundle.steD).before args s = true) (lN : (Cond.laysStatic Bundle.tN "SUPPRESSED_SENTINEL" Bundle.listD).before args s = true) : ∀ w ∈ L, w.before args s = true := by
  intro w hw
  by_cases e1 : w = .isRef (.static Bundle.tN "UNASSIGNED_STACK" Bundle.steD)
  · rw [e1]; exact hU
  · by_cases e2 : w = .isRef (.static Bundle.tN "SUPPRESSED_SENTINEL" Bundle.listD)
    · rw [e2]; exact hN
    · by_cases e3 : w = .laysStatic Bundle.tN "UNASSIGNED_STACK" Bundle.steD
      · rw [e3]; exact lU
      · by_cases e4 : w = .laysStatic Bundle.tN "SUPPRESSED_SENTINEL" Bundle.listD
        · rw [e4]; exact lN
        · exact h1 w (List.mem_filter.mpr ⟨hw, by unfold vx_no; rw [decide_eq_true e1, decide_eq_true e2, decide_eq_true e3, decide_eq_true e4]; rfl⟩)
/-- where a static field lies, its class's statics cell in H -/
def vx_L (C n d : String) (A : Nat → Prop) (U : State) (H : Heap) : Prop := ∃ (c : ClassId) (k : Class) (i : Nat) (f : Field) (a : Nat) (cell : Cell), U.vm.findClass C = some c ∧ U.fieldFound? C n d = some (c, k, i, f) ∧ f.isStatic = true ∧ k.statics = some a ∧ H[a]? = some cell ∧ cell.vm.isStatics = true ∧ cell.cls = c ∧ f.slot < cell.slots.size ∧ k.staticTypes[f.slot]? = some f.type ∧ ¬ A a
theorem vx_L.moved {C n d : String} {A : Nat → Prop} {u U : State} {H : Heap} (hvm : u.vm.Alike U.vm) (h : vx_L C n d A u H) : vx_L C n d A U H := by
  obtain ⟨c, k, i, f, a, cell, h1, h2, h3, h4, h5, h6, h7, h8, h9, h10⟩ := h
  obtain ⟨k', hi', he⟩ := State.fieldFound?_setVm hvm h2
  exact ⟨c, k', i, f, a, cell, by rw [hvm.findClass]; exact h1, hi', h3, by rw [he]; exact h4, h5, h6, h7, h8, by rw [he]; exact h9, h10⟩
theorem vx_L.kept {C n d : String} {A : Nat → Prop} {U : State} {H H1 : Heap} (h : vx_L C n d A U H) (hq : ∀ a : Nat, a < H.size → ¬ A a → H1[a]? = H[a]?) : vx_L C n d A U H1 := by
  obtain ⟨c, k, i, f, a, cell, h1, h2, h3, h4, h5, h6, h7, h8, h9, h10⟩ := h
  exact ⟨c, k, i, f, a, cell, h1, h2, h3, h4, by rw [hq a (Array.getElem?_eq_some_iff.mp h5).1 h10]; exact h5, h6, h7, h8, h9, h10⟩
theorem vx_L.narrow {C n d : String} {A B : Nat → Prop} {U : State} {H : Heap} (h : vx_L C n d A U H) (hAB : ∀ q, B q → A q) : vx_L C n d B U H := by
  obtain ⟨c, k, i, f, a, cell, h1, h2, h3, h4, h5, h6, h7, h8, h9, h10⟩ := h
  exact ⟨c, k, i, f, a, cell, h1, h2, h3, h4, h5, h6, h7, h8, h9, fun z => h10 (hAB _ z)⟩
theorem vx_L.word {C n d : String} {A : Nat → Prop} {s : State} {args : Array Value} (h : vx_L C n d A s s.heap) : (Cond.laysStatic C n d).before args s = true := by
  obtain ⟨c, k, i, f, a, cell, h1, h2, h3, h4, h5, h6, h7, h8, h9, -⟩ := h
  show (Cond.laysStatic C n d).holds args s none s [] = true
  exact Cond.laysStatic_of h1 h2 h3 h4 h5 h6 h7 h8 h9
/-- .. and what it holds: null or some reference -/
def vx_Zq (C n d : String) (A : Nat → Prop) (U : State) (H : Heap) : Prop := va_Zq C n d A U H ∧ vx_L C n d A U H
theorem vx_Zq.moved {C n d : String} {A : Nat → Prop} {u U : State} {H : Heap} (hvm : u.vm.Alike U.vm) (h : vx_Zq C n d A u H) : vx_Zq C n d A U H := ⟨va_Zq.moved hvm h.1, vx_L.moved hvm h.2⟩
theorem vx_Zq.kept {C n d : String} {A : Nat → Prop} {U : State} {H H1 : Heap} (h : vx_Zq C n d A U H) (hq : ∀ a : Nat, a < H.size → ¬ A a → H1[a]? = H[a]?) : vx_Zq C n d A U H1 := ⟨va_Zq.kept h.1 hq, vx_L.kept h.2 hq⟩
theorem vx_Zq.narrow {C n d : String} {A B : Nat → Prop} {U : State} {H : Heap} (h : vx_Zq C n d A U H) (hAB : ∀ q, B q → A q) : vx_Zq C n d B U H := ⟨va_Zq.narrow h.1 hAB, vx_L.narrow h.2 hAB⟩
theorem vx_Zqof {args : Array Value} {s : State} {C n d : String} {A : Nat → Prop} (hl : (Cond.laysStatic C n d).before args s = true) (hini : (Cond.initialized C).before args s = true) (h : (Cond.isRef (.static C n d)).before args s = true) (hA : ∀ a : Nat, a < s.heap.size → ¬ A a) : vx_Zq C n d A s s.heap := by
  refine ⟨va_Zqof hl hini h hA, ?_⟩
  obtain ⟨c, k, i, f, a, cell, h1, h2, h3, h4, h5, h6, h7, h8, h9⟩ := Cond.laysStatic_spec hl
  exact ⟨c, k, i, f, a, cell, h1, h2, h3, h4, h5, h6, h7, h8, h9, hA a (Array.getElem?_eq_some_iff.mp h5).1⟩
theorem vx_isRef {C n d : String} {v : Value} {A : Nat → Prop} {s : State} {args : Array Value} (h : va_Z C n d v A s s.heap) (hv : v.isRef = true) : (Cond.isRef (.static C n d)).before args s = true := by
  obtain ⟨cf, kf, fi, f, a, cell, h1, h2, h3, h4, h5, h6, h7, -⟩ := h
  have he : (Term.static C n d).eval args s none [] s = some v := by
    simp [Term.eval, State.fieldNamed?, h1, h2, h4, h5, h6, h7]
  simp only [Cond.before, Cond.holds, Cond.value, he]
  cases v <;> simp_all [Value.isRef]
theorem vx_isRefq {C n d : String} {A : Nat → Prop} {s : State} {args : Array Value} (h : va_Zq C n d A s s.heap) : (Cond.isRef (.static C n d)).before args s = true := by
  rcases h with h | ⟨t, h⟩
  · exact vx_isRef h rfl
  · exact vx_isRef h rfl
/-- the same frame, seen from here: as if the method were called anew in this heap -/
theorem vx_rebase {T : State} (X : Stand p l e R s m args below meth c T locs cells slots) {R' : Room} (hf : R'.frames ≤ R.frames) (hl : R'.locals ≤ R.locals) (hc : cells + R'.cells ≤ R.cells) (hs : slots + R'.slots ≤ R.slots) :
    Stand p l e R' ((T.setVm s.vm).setFrames (.invoking m args :: below)) m args below meth c T [] 0 0 := by
  have htop : (T.setVm s.vm).topJava?.isSome := X.here.top
  have hF : ((T.setVm s.vm).setFrames (.invoking m args :: below)).frames = .invoking m args :: below := State.frames_setFrames _ (State.cur_lt_of_top htop)
  obtain ⟨g₀, hg0⟩ := Option.isSome_iff_exists.mp htop
  obtain ⟨r, hr⟩ := State.topJava?_eq_some.mp hg0
  have hl9 : e.platform.stackLimits (T.setVm s.vm).me = e.platform.stackLimits s.me := X.limits
  have hb9 : (T.setVm s.vm).me.stackBytes = s.me.stackBytes := X.bytes
  refine ⟨X.admits, X.cas, X.clock, hF, ?_, X.hears, X.method, X.code, X.here, X.tail, X.warmed, ?_, ?_, ?_⟩
  · have h := X.room
    have hU : ((T.setVm s.vm).setFrames (.invoking m args :: below)).localsInUse = s.localsInUse := by
      rw [State.localsInUse_invoking hF (meth := meth) (c := c) X.method X.code, State.localsInUse_invoking X.frames X.method X.code]
    simp only [State.hasRoom, Bool.and_eq_true, decide_eq_true_eq] at h ⊢
    obtain ⟨⟨⟨⟨h1, h2, h3, h4, h5, h6⟩, h7⟩, h8⟩, h9⟩ := h
    rw [X.frames, List.length_cons] at h2 h3
    have q1 := X.heapSize
    have q2 := X.used
    simp only [hF, hU, List.length_cons, State.stackLimits_setFrames, State.stackBytes_setFrames, hl9, hb9]
    refine ⟨⟨⟨⟨by omega, by omega, by omega, by omega, by omega, h6⟩, ?_⟩, ?_⟩, X.book⟩
    · show T.heap.size + R'.cells ≤ e.platform.maxCells
      omega
    · show T.slotsUsed + R'.slots ≤ e.platform.maxSlots
      omega
  · rw [State.stackLimits_setFrames]; rfl
  · rw [State.stackBytes_setFrames]; rfl
  · refine ⟨?_, Nat.le_refl _, Nat.le_refl _, ?_, ?_, fun a c9 h9 => ⟨c9, h9, rfl, rfl, fun _ _ => rfl⟩⟩
    · obtain ⟨t, ht, -⟩ := State.frames_cons hr
      show T.setVm s.vm = { ((T.setVm s.vm).setFrames (.invoking m args :: below)).setFrames (T.setVm s.vm).frames with heap := T.heap, slotsUsed := T.slotsUsed }
      rw [State.setFrames_setFrames, State.setFrames_self ht]
      rfl
    · show T.slotsUsed = T.slotsUsed + ((T.heap.toList.drop T.heap.size).map (·.slots.size)).sum
      rw [List.drop_eq_nil_of_le (Nat.le_of_eq Array.length_toList)]
      rfl
    · show ((T.heap.toList.drop T.heap.size).map (·.slots.size)).sum ≤ 0
      rw [List.drop_eq_nil_of_le (Nat.le_of_eq Array.length_toList)]
      exact Nat.le_refl _
/-- 'throw new E()': new; dup; invokespecial; athrow -/
theorem vx_throw0 {cc : ByteArray} {pc : Nat} (hexec : p.tables.exec = Jvm.exec) (hb : c.code = cc) (hl : l.stackTraces = false) {own cls : String} {names : List String} {ik ic mc ms : Nat} {A : Nat → Prop}
    (hown : s.vm.findClass own = some m.cls) (hcls : Bundle.fit cls = true) (hnames : ∀ n ∈ names, Bundle.fit n = true)
    (hk : (Cond.classLink own ik cls).before args s = true) (hini : (Cond.initialized cls).before args s = true) (hat : ∀ w ∈ vx_at0 own ic cls names, w.before args s = true)
    (hgood : ∀ w ∈ Cond.classLink own ik cls :: Cond.initialized cls :: vx_at0 own ic cls names, vx_ot w = true)
    (hU : vx_Zq Bundle.tN "UNASSIGNED_STACK" Bundle.steD A s s.heap) (hN : vx_Zq Bundle.tN "SUPPRESSED_SENTINEL" Bundle.listD A s s.heap) (hS : va_S A s.heap H locs) (hsize : ls.size = c.maxLocals)
    (d0 : decode cc pc = .ok (.new ik, 3)) (d3 : decode cc (pc + 3) = .ok (.dup, 1)) (d4 : decode cc (pc + 4) = .ok (.invokespecial ic, 3)) (d7 : decode cc (pc + 7) = .ok (.athrow, 1))
    (hout : ∀ x ∈ c.exceptionTable.toList, covers x (pc + 7) = false)
    (hRframes : names.length + 3 < R.frames) (hRlocals : (rest.map fun v => v.category).sum + (13 * (names.length + 1) + 42) ≤ R.locals) (hRcells : cells + 1 ≤ R.cells) (hRslots : slots + 6 ≤ R.slots) (hlocks : meth.locks = false)
    (hx : ∀ t : State, s.vm.Alike t.vm → H.size ≤ t.heap.size → (∀ q : Nat, q < H.size → t.heap[q]? = H[q]?) → XC cls s t)
    (hf : ∀ z ∈ locs, free z.base) (hc : cells + 1 ≤ mc) (hs : slots + 6 ≤ ms) :
    W p l e R s m args below meth c H locs cells slots (vx_MQ below Qc XC args s mc ms free) (F0 m pc ls rest) := by
  intro T hT X
  have htr : e.platform.stackTraces = false := (show e.platform.stackTraces = l.stackTraces by rw [X.admits.platform]).trans hl
  have Y := vx_rebase X (R' := { frames := R.frames, locals := R.locals, cells := 1, slots := 6 }) (Nat.le_refl _) (Nat.le_refl _) hRcells hRslots
  obtain ⟨s', hA⟩ : ∃ z, z = (T.setVm s.vm).setFrames (.invoking m args :: below) := ⟨_, rfl⟩
  rw [← hA] at Y
  have hvm : s'.vm = s.vm := by rw [hA]; rfl
  have hhp : s'.heap = H := by rw [hA]; exact hT
  have hW0 : s.WarmedH s'.vm := by rw [hvm]; exact State.WarmedH.refl s
  have hat' : ∀ w ∈ vx_at0 own ic cls names, w.before args s' = true := fun w hw => vx_ot_at hW0 hvm.symm (hgood w (List.mem_cons_of_mem _ (List.mem_cons_of_mem _ hw))) (hat w hw)
  have hk' : (Cond.classLink own ik cls).before args s' = true := vx_ot_at hW0 hvm.symm (hgood _ List.mem_cons_self) hk
  have hini' : (Cond.initialized cls).before args s' = true := vx_ot_at hW0 hvm.symm (hgood _ (List.mem_cons_of_mem _ List.mem_cons_self)) hini
  have hU' : vx_Zq Bundle.tN "UNASSIGNED_STACK" Bundle.steD A s' s'.heap := by rw [hhp]; exact vx_Zq.moved hW0.alike (hU.kept hS.2.1)
  have hN' : vx_Zq Bundle.tN "SUPPRESSED_SENTINEL" Bundle.listD A s' s'.heap := by rw [hhp]; exact vx_Zq.moved hW0.alike (hN.kept hS.2.1)
  have h : ∀ w ∈ Bundle.ownAtoms0 own ic cls names, w.before args s' = true := vx_own hat' (vx_isRefq hU'.1) (vx_isRefq hN'.1) hU'.2.word hN'.2.word
  have hown' : s'.vm.findClass own = some m.cls := by rw [hvm]; exact hown
  have hins : (Cond.instantiable cls 6).before args s' = true := h _ (by simp [Bundle.ownAtoms0])
  obtain ⟨vm₁, cX, kX, hfX, hkX, -, -, X₁, st1⟩ := Y.newCold hexec (own := own) (C := cls) (index := ik) (n := 6) hown' hk' hins hini'
    (g := F0 m pc ls rest) rfl (by rw [hb]; exact d0) (Nat.le_refl _) (Nat.le_refl _)
  generalize hT1 : (T.setVm vm₁).pushCell { cls := cX, slots := kX.instanceTypes.map defaultValue, vm := .none } = T1 at X₁ st1
  have hcat : (Value.ref T.heap.size).category = 1 := rfl
  have hcellA : T1.heap[T.heap.size]? = some (freshCell cX kX) := by rw [← hT1]; exact State.heap_pushCell_size _ _
  have d3' : decode c.code (pc + 3) = .ok (.dup, 1) := by rw [hb]; exact d3
  obtain ⟨U, hsteps, hrun, hend, hW, hsame, ce, hce, hO⟩ := X₁.ctorThrow0 hexec htr (own := own) (cls := cls) (names := names) (ic := ic) hown' hcls hnames h (fun x hx => nomatch hx) hfX hkX hcellA (by rw [hhp, hT]; exact Nat.le_refl _)
    (g := { method := m, pc := pc + 4, locals := ls, stack := .ref T.heap.size :: .ref T.heap.size :: rest, locked := none }) rfl hsize rfl rfl (rest := rest) rfl
    (by rw [hb]; exact d4) (by rw [hb]; exact d7) hout hRframes (by simp only [List.map_cons, List.sum_cons, hcat]; omega) hlocks
  obtain ⟨f1, f2⟩ := vx_frame hsame
  rw [hhp] at f1 f2
  have hWs : s.WarmedH U.vm := State.WarmedH.trans hW0 hW
  have hcl : s.vm.findClass cls = some ce.cls := by
    have h9 := hO.cls
    rw [hvm] at h9
    exact h9
  have hall : s.sameButNew ({ U with vm := s.vm } : State) locs mc ms := by
    subst hA
    obtain ⟨e1, e2⟩ := hsame
    rw [State.setFrames_setFrames] at e1
    have h2 : (T.setVm s.vm).sameButNew ({ U with vm := s.vm } : State) [] (0 + 1) (0 + 6) := ⟨e1, e2⟩
    have h3 := X.same.trans h2
    rw [List.append_nil] at h3
    exact h3.mono hc hs
  refine ⟨U, ?_, .threw T.heap.size, hrun, hend, Or.inr ⟨T.heap.size, rfl, cls, ce, locs, hx U hWs.alike f1 (fun q hq => f2 q hq (fun z hz => nomatch hz)), hce, hO.vm, hcl, hWs, hall, hf⟩⟩
  refine st1 _ ?_
  show Steps p.tables e below (T1.setTop { method := m, pc := pc + 3, locals := ls, stack := .ref T.heap.size :: rest, locked := none }) _
  jvm_step X₁.here [X₁.here.top, hexec, d3', Value.category]
  exact hsteps
/-- 'throw new E("text")': new; dup; ldc; invokespecial; athrow -/
theorem vx_throwS {cc : ByteArray} {pc : Nat} (hexec : p.tables.exec = Jvm.exec) (hb : c.code = cc) (hl : l.stackTraces = false) {own cls text : String} {names : List String} {ik is ic mc ms sa : Nat} {A : Nat → Prop}
    (hown : s.vm.findClass own = some m.cls) (hcls : Bundle.fit cls = true) (hnames : ∀ n ∈ names, Bundle.fit n = true)
    (hk : (Cond.classLink own ik cls).before args s = true) (hini : (Cond.initialized cls).before args s = true) (hstr : vk_R own is text sa s) (hat : ∀ w ∈ vx_atS own ic cls names, w.before args s = true)
    (hgood : ∀ w ∈ Cond.classLink own ik cls :: Cond.initialized cls :: vx_atS own ic cls names, vx_ot w = true)
    (hU : vx_Zq Bundle.tN "UNASSIGNED_STACK" Bundle.steD A s s.heap) (hN : vx_Zq Bundle.tN "SUPPRESSED_SENTINEL" Bundle.listD A s s.heap) (hS : va_S A s.heap H locs) (hsize : ls.size = c.maxLocals)
    (d0 : decode cc pc = .ok (.new ik, 3)) (d3 : decode cc (pc + 3) = .ok (.dup, 1)) (d4 : decode cc (pc + 4) = .ok (.ldc is, 2)) (d6 : decode cc (pc + 6) = .ok (.invokespecial ic, 3)) (d9 : decode cc (pc + 9) = .ok (.athrow, 1))
    (hout : ∀ x ∈ c.exceptionTable.toList, covers x (pc + 9) = false)
    (hRframes : names.length + 3 < R.frames) (hRlocals : (rest.map fun v => v.category).sum + (13 * (names.length + 1) + 43) ≤ R.locals) (hRcells : cells + 1 ≤ R.cells) (hRslots : slots + 6 ≤ R.slots) (hlocks : meth.locks = false)
    (hx : ∀ t : State, s.vm.Alike t.vm → H.size ≤ t.heap.size → (∀ q : Nat, q < H.size → t.heap[q]? = H[q]?) → XC cls s t)
    (hf : ∀ z ∈ locs, free z.base) (hc : cells + 1 ≤ mc) (hs : slots + 6 ≤ ms) :
    W p l e R s m args below meth c H locs cells slots (vx_MQ below Qc XC args s mc ms free) (F0 m pc ls rest) := by
  intro T hT X
  have htr : e.platform.stackTraces = false := (show e.platform.stackTraces = l.stackTraces by rw [X.admits.platform]).trans hl
  have Y := vx_rebase X (R' := { frames := R.frames, locals := R.locals, cells := 1, slots := 6 }) (Nat.le_refl _) (Nat.le_refl _) hRcells hRslots
  obtain ⟨s', hA⟩ : ∃ z, z = (T.setVm s.vm).setFrames (.invoking m args :: below) := ⟨_, rfl⟩
  rw [← hA] at Y
  have hvm : s'.vm = s.vm := by rw [hA]; rfl
  have hhp : s'.heap = H := by rw [hA]; exact hT
  have hW0 : s.WarmedH s'.vm := by rw [hvm]; exact State.WarmedH.refl s
  have hat' : ∀ w ∈ vx_atS own ic cls names, w.before args s' = true := fun w hw => vx_ot_at hW0 hvm.symm (hgood w (List.mem_cons_of_mem _ (List.mem_cons_of_mem _ hw))) (hat w hw)
  have hk' : (Cond.classLink own ik cls).before args s' = true := vx_ot_at hW0 hvm.symm (hgood _ List.mem_cons_self) hk
  have hini' : (Cond.initialized cls).before args s' = true := vx_ot_at hW0 hvm.symm (hgood _ (List.mem_cons_of_mem _ List.mem_cons_self)) hini
  have hU' : vx_Zq Bundle.tN "UNASSIGNED_STACK" Bundle.steD A s' s'.heap := by rw [hhp]; exact vx_Zq.moved hW0.alike (hU.kept hS.2.1)
  have hN' : vx_Zq Bundle.tN "SUPPRESSED_SENTINEL" Bundle.listD A s' s'.heap := by rw [hhp]; exact vx_Zq.moved hW0.alike (hN.kept hS.2.1)
  have h : ∀ w ∈ Bundle.ownAtoms own ic cls names, w.before args s' = true := vx_own hat' (vx_isRefq hU'.1) (vx_isRefq hN'.1) hU'.2.word hN'.2.word
  have hown' : s'.vm.findClass own = some m.cls := by rw [hvm]; exact hown
  have hins : (Cond.instantiable cls 6).before args s' = true := h _ (by simp [Bundle.ownAtoms])
  obtain ⟨vm₁, cX, kX, hfX, hkX, -, -, X₁, st1⟩ := Y.newCold hexec (own := own) (C := cls) (index := ik) (n := 6) hown' hk' hins hini'
    (g := F0 m pc ls rest) rfl (by rw [hb]; exact d0) (Nat.le_refl _) (Nat.le_refl _)
  generalize hT1 : (T.setVm vm₁).pushCell { cls := cX, slots := kX.instanceTypes.map defaultValue, vm := .none } = T1 at X₁ st1
  have hcat : (Value.ref T.heap.size).category = 1 := rfl
  have hcellA : T1.heap[T.heap.size]? = some (freshCell cX kX) := by rw [← hT1]; exact State.heap_pushCell_size _ _
  have d3' : decode c.code (pc + 3) = .ok (.dup, 1) := by rw [hb]; exact d3
  have d4' : decode c.code (pc + 4) = .ok (.ldc is, 2) := by rw [hb]; exact d4
  have hstr' : vk_R own is text sa s' := vk_R.warm hW0 hstr
  obtain ⟨U, hsteps, hrun, hend, hW, hsame, ce, hce, hO⟩ := X₁.ctorThrowS hexec htr (own := own) (cls := cls) (names := names) (ic := ic) hown' hcls hnames h (fun x hx => nomatch hx) hfX hkX hcellA (by rw [hhp, hT]; exact Nat.le_refl _) (msg := .ref sa) rfl
    (g := { method := m, pc := pc + 6, locals := ls, stack := .ref sa :: .ref T.heap.size :: .ref T.heap.size :: rest, locked := none }) rfl hsize rfl rfl (rest := rest) rfl
    (by rw [hb]; exact d6) (by rw [hb]; exact d9) hout hRframes (by simp only [List.map_cons, List.sum_cons, hcat]; omega) hlocks
  obtain ⟨f1, f2⟩ := vx_frame hsame
  rw [hhp] at f1 f2
  have hWs : s.WarmedH U.vm := State.WarmedH.trans hW0 hW
  have hcl : s.vm.findClass cls = some ce.cls := by
    have h9 := hO.cls
    rw [hvm] at h9
    exact h9
  have hall : s.sameButNew ({ U with vm := s.vm } : State) locs mc ms := by
    subst hA
    obtain ⟨e1, e2⟩ := hsame
    rw [State.setFrames_setFrames] at e1
    have h2 : (T.setVm s.vm).sameButNew ({ U with vm := s.vm } : State) [] (0 + 1) (0 + 6) := ⟨e1, e2⟩
    have h3 := X.same.trans h2
    rw [List.append_nil] at h3
    exact h3.mono hc hs
  refine ⟨U, ?_, .threw T.heap.size, hrun, hend, Or.inr ⟨T.heap.size, rfl, cls, ce, locs, hx U hWs.alike f1 (fun q hq => f2 q hq (fun z hz => nomatch hz)), hce, hO.vm, hcl, hWs, hall, hf⟩⟩
  refine st1 _ ?_
  show Steps p.tables e below (T1.setTop { method := m, pc := pc + 3, locals := ls, stack := .ref T.heap.size :: rest, locked := none }) _
  jvm_step X₁.here [X₁.here.top, hexec, d3', Value.category]
  exact X₁.ldcString hexec (own := own) (text := text) (index := is) (a := sa) hown' hstr'.1 hstr'.2
    (g := { method := m, pc := pc + 4, locals := ls, stack := .ref T.heap.size :: .ref T.heap.size :: rest, locked := none }) rfl d4' _ hsteps
/-- 'throw new E("text")', the text by a wide index -/
theorem vx_throwSW {cc : ByteArray} {pc : Nat} (hexec : p.tables.exec = Jvm.exec) (hb : c.code = cc) (hl : l.stackTraces = false) {own cls text : String} {names : List String} {ik is ic mc ms sa : Nat} {A : Nat → Prop}
    (hown : s.vm.findClass own = some m.cls) (hcls : Bundle.fit cls = true) (hnames : ∀ n ∈ names, Bundle.fit n = true)
    (hk : (Cond.classLink own ik cls).before args s = true) (hini : (Cond.initialized cls).before args s = true) (hstr : vk_R own is text sa s) (hat : ∀ w ∈ vx_atS own ic cls names, w.before args s = true)
    (hgood : ∀ w ∈ Cond.classLink own ik cls :: Cond.initialized cls :: vx_atS own ic cls names, vx_ot w = true)
    (hU : vx_Zq Bundle.tN "UNASSIGNED_STACK" Bundle.steD A s s.heap) (hN : vx_Zq Bundle.tN "SUPPRESSED_SENTINEL" Bundle.listD A s s.heap) (hS : va_S A s.heap H locs) (hsize : ls.size = c.maxLocals)
    (d0 : decode cc pc = .ok (.new ik, 3)) (d3 : decode cc (pc + 3) = .ok (.dup, 1)) (d4 : decode cc (pc + 4) = .ok (.ldc_w is, 3)) (d7 : decode cc (pc + 7) = .ok (.invokespecial ic, 3)) (d10 : decode cc (pc + 10) = .ok (.athrow, 1))
    (hout : ∀ x ∈ c.exceptionTable.toList, covers x (pc + 10) = false)
    (hRframes : names.length + 3 < R.frames) (hRlocals : (rest.map fun v => v.category).sum + (13 * (names.length + 1) + 43) ≤ R.locals) (hRcells : cells + 1 ≤ R.cells) (hRslots : slots + 6 ≤ R.slots) (hlocks : meth.locks = false)
    (hx : ∀ t : State, s.vm.Alike t.vm → H.size ≤ t.heap.size → (∀ q : Nat, q < H.size → t.heap[q]? = H[q]?) → XC cls s t)
    (hf : ∀ z ∈ locs, free z.base) (hc : cells + 1 ≤ mc) (hs : slots + 6 ≤ ms) :
    W p l e R s m args below meth c H locs cells slots (vx_MQ below Qc XC args s mc ms free) (F0 m pc ls rest) := by
  intro T hT X
  have htr : e.platform.stackTraces = false := (show e.platform.stackTraces = l.stackTraces by rw [X.admits.platform]).trans hl
  have Y := vx_rebase X (R' := { frames := R.frames, locals := R.locals, cells := 1, slots := 6 }) (Nat.le_refl _) (Nat.le_refl _) hRcells hRslots
  obtain ⟨s', hA⟩ : ∃ z, z = (T.setVm s.vm).setFrames (.invoking m args :: below) := ⟨_, rfl⟩
  rw [← hA] at Y
  have hvm : s'.vm = s.vm := by rw [hA]; rfl
  have hhp : s'.heap = H := by rw [hA]; exact hT
  have hW0 : s.WarmedH s'.vm := by rw [hvm]; exact State.WarmedH.refl s
  have hat' : ∀ w ∈ vx_atS own ic cls names, w.before args s' = true := fun w hw => vx_ot_at hW0 hvm.symm (hgood w (List.mem_cons_of_mem _ (List.mem_cons_of_mem _ hw))) (hat w hw)
  have hk' : (Cond.classLink own ik cls).before args s' = true := vx_ot_at hW0 hvm.symm (hgood _ List.mem_cons_self) hk
  have hini' : (Cond.initialized cls).before args s' = true := vx_ot_at hW0 hvm.symm (hgood _ (List.mem_cons_of_mem _ List.mem_cons_self)) hini
  have hU' : vx_Zq Bundle.tN "UNASSIGNED_STACK" Bundle.steD A s' s'.heap := by rw [hhp]; exact vx_Zq.moved hW0.alike (hU.kept hS.2.1)
  have hN' : vx_Zq Bundle.tN "SUPPRESSED_SENTINEL" Bundle.listD A s' s'.heap := by rw [hhp]; exact vx_Zq.moved hW0.alike (hN.kept hS.2.1)
  have h : ∀ w ∈ Bundle.ownAtoms own ic cls names, w.before args s' = true := vx_own hat' (vx_isRefq hU'.1) (vx_isRefq hN'.1) hU'.2.word hN'.2.word
  have hown' : s'.vm.findClass own = some m.cls := by rw [hvm]; exact hown
  have hins : (Cond.instantiable cls 6).before args s' = true := h _ (by simp [Bundle.ownAtoms])
  obtain ⟨vm₁, cX, kX, hfX, hkX, -, -, X₁, st1⟩ := Y.newCold hexec (own := own) (C := cls) (index := ik) (n := 6) hown' hk' hins hini'
    (g := F0 m pc ls rest) rfl (by rw [hb]; exact d0) (Nat.le_refl _) (Nat.le_refl _)
  generalize hT1 : (T.setVm vm₁).pushCell { cls := cX, slots := kX.instanceTypes.map defaultValue, vm := .none } = T1 at X₁ st1
  have hcat : (Value.ref T.heap.size).category = 1 := rfl
  have hcellA : T1.heap[T.heap.size]? = some (freshCell cX kX) := by rw [← hT1]; exact State.heap_pushCell_size _ _
  have d3' : decode c.code (pc + 3) = .ok (.dup, 1) := by rw [hb]; exact d3
  have d4' : decode c.code (pc + 4) = .ok (.ldc_w is, 3) := by rw [hb]; exact d4
  have hstr' : vk_R own is text sa s' := vk_R.warm hW0 hstr
  obtain ⟨U, hsteps, hrun, hend, hW, hsame, ce, hce, hO⟩ := X₁.ctorThrowS hexec htr (own := own) (cls := cls) (names := names) (ic := ic) hown' hcls hnames h (fun x hx => nomatch hx) hfX hkX hcellA (by rw [hhp, hT]; exact Nat.le_refl _) (msg := .ref sa) rfl
    (g := { method := m, pc := pc + 7, locals := ls, stack := .ref sa :: .ref T.heap.size :: .ref T.heap.size :: rest, locked := none }) rfl hsize rfl rfl (rest := rest) rfl
    (by rw [hb]; exact d7) (by rw [hb]; exact d10) hout hRframes (by simp only [List.map_cons, List.sum_cons, hcat]; omega) hlocks
  obtain ⟨f1, f2⟩ := vx_frame hsame
  rw [hhp] at f1 f2
  have hWs : s.WarmedH U.vm := State.WarmedH.trans hW0 hW
  have hcl : s.vm.findClass cls = some ce.cls := by
    have h9 := hO.cls
    rw [hvm] at h9
    exact h9
  have hall : s.sameButNew ({ U with vm := s.vm } : State) locs mc ms := by
    subst hA
    obtain ⟨e1, e2⟩ := hsame
    rw [State.setFrames_setFrames] at e1
    have h2 : (T.setVm s.vm).sameButNew ({ U with vm := s.vm } : State) [] (0 + 1) (0 + 6) := ⟨e1, e2⟩
    have h3 := X.same.trans h2
    rw [List.append_nil] at h3
    exact h3.mono hc hs
  refine ⟨U, ?_, .threw T.heap.size, hrun, hend, Or.inr ⟨T.heap.size, rfl, cls, ce, locs, hx U hWs.alike f1 (fun q hq => f2 q hq (fun z hz => nomatch hz)), hce, hO.vm, hcl, hWs, hall, hf⟩⟩
  refine st1 _ ?_
  show Steps p.tables e below (T1.setTop { method := m, pc := pc + 3, locals := ls, stack := .ref T.heap.size :: rest, locked := none }) _
  jvm_step X₁.here [X₁.here.top, hexec, d3', Value.category]
  exact X₁.ldcStringW hexec (own := own) (text := text) (index := is) (a := sa) hown' hstr'.1 hstr'.2
    (g := { method := m, pc := pc + 4, locals := ls, stack := .ref T.heap.size :: .ref T.heap.size :: rest, locked := none }) rfl d4' _ hsteps
end Ends
section Bodies
variable {l : Launch}
theorem vx_ofW {y : MethodName} {ws ws' : List Cond} {rm : Room} {Pc : Array Value → State → Prop} {Qc : Array Value → State → Outcome → State → Prop} {XC : String → State → State → Prop} {mc ms : Nat} {free : Addr → Prop} {cc : ByteArray} {maxL : Nat} {ret : Option FieldType}
    (hy : plainName y.cls = true) (hw : ws = Cond.code y cc maxL ret :: ws')
    (body : ∀ p e s m args below meth c s₁, BodyLoose p l y (headSpec ws rm) cc maxL ret e s m args below meth c s₁ → c.maxLocals = maxL → (∀ x ∈ c.exceptionTable.toList, False) → Pc args s →
      W p l e (headSpec ws rm).room s m args below meth c s.heap [] 0 0 (vx_MQ below Qc XC args s mc ms free) (entryFrame m args maxL)) : vx_Met l y ws rm Pc Qc XC mc ms free := by
  refine MetFree.of_bodyS (code := cc) (maxLocals := maxL) (ret := ret) hy ?_ ?_
  · intro args s m h hn
    obtain ⟨meth, c, h1, h2, h3, h4, h5, h6, -, -⟩ := Cond.code_spec hn (atoms_spec (ws := ws) h _ (by rw [hw]; exact List.mem_cons_self))
    exact ⟨meth, c, h1, h2, h3, h4, h5, h6⟩
  · intro p e s m args below meth c s₁ B hml hP _
    have hh0 : s₁.heap = s.heap := by rw [B.state]; rfl
    have ht : ∀ x ∈ c.exceptionTable.toList, False := by
      obtain ⟨meth9, c9, h1, h2, -, -, -, -, h7, -⟩ := Cond.code_spec B.named (atoms_spec (ws := ws) B.pre _ (by rw [hw]; exact List.mem_cons_self))
      cases Option.some.inj (h1.symm.trans B.method)
      cases Option.some.inj (h2.symm.trans (Stand.of_body B).code)
      intro x hx
      rw [Array.isEmpty_iff.mp h7] at hx
      cases hx
    obtain ⟨t, a1, o, b1, b2, b3⟩ := body p e s m args below meth c s₁ B hml ht hP s₁ hh0 (Stand.of_body B)
    exact ⟨t, o, a1, b1, b2, b3⟩
/-- the table of a body with handlers -/
theorem vx_table {p : Program} {x y : MethodName} {S : Spec} {cc bytes : ByteArray} {maxL maxL' : Nat} {ret ret' : Option FieldType} {e : Env} {s s₁ : State} {m : MethodId} {args : Array Value} {below : List Frame} {meth : Method} {c : Code} {hh : List (Nat × Nat × Nat × Nat)}
    (B : BodyLoose p l y S cc maxL ret e s m args below meth c s₁) (h : (Cond.codeWith y bytes maxL' ret' hh).before args s = true) : c.exceptionTable.toList = tableOf hh := by
  obtain ⟨m9, meth9, c9, hn9, h1, h2, -, -, h6, -⟩ := Cond.codeWith_spec h
  cases Option.some.inj (hn9.symm.trans B.named)
  cases Option.some.inj (h1.symm.trans B.method)
  cases Option.some.inj (h2.symm.trans (Stand.of_body B).code)
  rw [← h6, table_eq]
end Bodies
end VXA
/-! ===== END ===== -/
/-! ===== BEGIN a static call of a method with an exception table ===== -/
section VXS
variable {p : Program} {l : Launch} {e : Env} {R : Room} {s : State} {m : MethodId} {args : Array Value} {below : List Frame} {meth : Method} {c : Code} {T : State} {H : Heap} {locs : List Loc} {cells slots : Nat}
abbrev vx_CSW (R : Room) (s : State) (args : Array Value) (own : String) (index : Nat) (y : MethodName) (bytes : ByteArray) (maxL : Nat) (ret : Option FieldType) (hh : List (Nat × Nat × Nat × Nat)) (ws : List Cond) (rm : Room) (mc ms n : Nat) : Prop :=
  (rm.cells = mc ∧ rm.slots = ms ∧ rm.frames + 1 ≤ R.frames ∧ 8 + (maxL + 11) + rm.locals ≤ R.locals ∧ (∀ w ∈ ws, ∀ (a' : Array Value) (U : State), s.WarmedH U.vm → w.before a' U = true) ∧ Cond.codeWith y bytes maxL ret hh ∈ ws) ∧
  (Cond.codeWith y bytes maxL ret hh).before args s = true ∧ (Cond.initialized y.cls).before args s = true ∧ (y.cls ≠ "java/lang/invoke/MethodHandle" ∧ y.cls ≠ "java/lang/invoke/VarHandle") ∧
  (∀ sig, parseMethodDescriptor y.desc = some sig → n = sig.parameters.length) ∧ (Cond.methodLink own index y).before args s = true ∧ (Cond.static y).before args s = true
theorem vx_cwSW {own : String} {index maxL mc ms : Nat} {y : MethodName} {bytes : ByteArray} {ret : Option FieldType} {hh : List (Nat × Nat × Nat × Nat)} {Ts ws ws' : List Cond} {rm : Room} (n : Nat) (ht : ∀ w ∈ Ts, w.before args s = true) (hT : GoodIn Ts (va_wsS own index y ws)) (hw : ws = Cond.codeWith y bytes maxL ret hh :: ws') (hrc : rm.cells = mc) (hrs : rm.slots = ms)
    (hd : y.cls ≠ "java/lang/invoke/MethodHandle" ∧ y.cls ≠ "java/lang/invoke/VarHandle" ∧ (parseMethodDescriptor y.desc).map (fun d => d.parameters.length) = some n) (hR : rm.frames + 1 ≤ R.frames ∧ 8 + (maxL + 11) + rm.locals ≤ R.locals) :
    vx_CSW R s args own index y bytes maxL ret hh ws rm mc ms n := by
  have ok : ∀ w ∈ va_wsS own index y ws, w.before args s = true := fun w h => ht w (hT w h).1
  have hG : GoodIn Ts ws := fun w h => hT w (by unfold va_wsS; exact List.mem_append_right _ h)
  have hc : Cond.codeWith y bytes maxL ret hh ∈ ws := by rw [hw]; exact List.mem_cons_self
  refine ⟨⟨hrc, hrs, hR.1, hR.2, pay_in ht hG, hc⟩, ht _ (hG _ hc).1, ok _ (by simp [va_wsS]), ⟨hd.1, hd.2.1⟩, fun sig h => ?_, ok _ (by simp [va_wsS]), ok _ (by simp [va_wsS])⟩
  have h2 := hd.2.2
  rw [h] at h2
  exact (Option.some.inj h2).symm
theorem vx_callSW (X : Stand p l e R s m args below meth c T locs cells slots) (hexec : p.tables.exec = Jvm.exec) {own : String} {index : Nat} {y : MethodName} {bytes : ByteArray} {maxL : Nat} {ret : Option FieldType} {hh : List (Nat × Nat × Nat × Nat)}
    (hown : s.vm.findClass own = some m.cls) (hlink : (Cond.methodLink own index y).before args s = true) (hstat : (Cond.static y).before args s = true) (hinit : (Cond.initialized y.cls).before args s = true)
    (hcode : (Cond.codeWith y bytes maxL ret hh).before args s = true) (hy : y.cls ≠ "java/lang/invoke/MethodHandle" ∧ y.cls ≠ "java/lang/invoke/VarHandle")
    {W9 : Nat} {Pre : Pt → Array Value → Prop} {Post : Pt → Array Value → Option Value → Pt → Prop} (hK : Back l R p e below s args y 3 W9 Pre Post)
    {g : JFrame} (hg : g.method = m) (hsize : g.locals.size = c.maxLocals) {argsL rest : List Value} (hlen : ∀ sig, parseMethodDescriptor y.desc = some sig → argsL.length = sig.parameters.length)
    (hstack : g.stack = argsL.reverse ++ rest) (hW : 2 * g.monitorRoom + (rest.map fun v => v.category).sum ≤ W9) (hdg : decode c.code g.pc = .ok (.invokestatic index, 3))
    (hpre : ∀ vm₁, s.WarmedH vm₁ → Pre ⟨T.setVm vm₁, locs, cells, slots⟩ argsL.toArray) :
    ∃ (v : Option Value) (vm₁ : Vm) (B : Pt), s.WarmedH vm₁ ∧ Stand p l e R s m args below meth c B.U B.locs B.cells B.slots ∧ Post ⟨T.setVm vm₁, locs, cells, slots⟩ argsL.toArray v B ∧
      ∀ target, Steps p.tables e below (B.U.setTop { g with pc := g.pc + 3, stack := v.toList ++ rest }) target → Steps p.tables e below (T.setTop g) target := by
  obtain ⟨mk, methM, cM, hnamed, hmethM, -, -, -, -, -, -, hsigM⟩ := Cond.codeWith_spec hcode
  have hstatic : methM.isStatic = true := Cond.static_spec hnamed hmethM hstat
  obtain ⟨kP, hkP, -⟩ := className_of_methodNamed hnamed
  have hinitP : kP.init = .initialized := Cond.initialized_spec (findClass_of_methodNamed hnamed) hkP hinit
  obtain ⟨vm₁, X₁, hstep₁⟩ := X.invokestatic hexec hown hlink hnamed hmethM hstatic hkP hinitP hy (g := g) hg (argsL := argsL) (rest := rest) (hlen _ hsigM) hstack hdg
  obtain ⟨v, B, X', hpost, hsteps⟩ := hK m meth c ⟨T.setVm vm₁, locs, cells, slots⟩ { g with stack := rest } (.invokestatic index) mk argsL.toArray X₁ hg hsize hdg hW (X₁.named hnamed) (hpre vm₁ X₁.warmed)
  exact ⟨v, vm₁, B, X₁.warmed, X', hpost, fun target h => hstep₁ _ fun acts => by rw [doInvoke_state]; exact hsteps.trans h⟩
theorem vx_runSW {y : MethodName} {bytes cc : ByteArray} {maxL nL mc ms n index : Nat} {ret : Option FieldType} {hh : List (Nat × Nat × Nat × Nat)} {ws : List Cond} {rm : Room} {Pc : Array Value → State → Prop} {Qc : Array Value → State → Outcome → State → Prop} {free : Addr → Prop} {Ts : List Cond} {own : String} {As rest : List Value} {g : JFrame}
    (S : CallFix p m c cc nL s args Ts own) (hM : Met l y ws rm Pc Qc mc ms free) (cw : vx_CSW R s args own index y bytes maxL ret hh ws rm mc ms n) (hp : PreS s H Pc As)
    (hg : g.method = m) (hn : As.length = n) (hsize : g.locals.size = nL) (hstack : g.stack = As.reverse ++ rest) (hW : 2 * g.monitorRoom + (rest.map fun v => v.category).sum ≤ 8) (hdg : decode cc g.pc = .ok (.invokestatic index, 3)) (hf : cells + mc ≤ R.cells ∧ slots + ms ≤ R.slots) :
    va_Run p l e R s m args below meth c H locs cells slots mc ms g rest (Qc As.toArray) (free) := by
  obtain ⟨⟨hrc, hrs, hfr, hlo, hws, hcw⟩, hcode, hini, hy, hlen, hl, hstt⟩ := cw
  have hK : Back l R p e below s args y 3 8 (PreOf R mc ms Pc) (PostOf Qc mc ms free) := va_backW (hh := hh) (bytes := bytes) (maxL := maxL) (ret := ret) hM hp.1 hrc hrs hfr hlo hws hcw (fun a' U hW => word_at hW (Or.inl (by first | rfl | simp [Cond.onTables, Cond.keeps, Cond.steady])) hini)
  obtain ⟨hx, hb, hml, ho, -⟩ := S
  intro T hT X
  obtain ⟨v, vm₁, ⟨U', l2, c2, s2⟩, hW₁, X', ⟨g', mk, t, L, e1, e2, hq, h1, hL, h2, h3⟩, st⟩ := vx_callSW X hx (hh := hh) (bytes := bytes) (maxL := maxL) (ret := ret) ho hl hstt hini hcode hy hK hg (hsize.trans hml.symm) (argsL := As) (rest := rest) (fun sig h => hn.trans (hlen sig h)) hstack hW (by rw [hb]; exact hdg)
    (fun vm₁ hW₁ => ⟨hf.1, hf.2, hp.2 (T.setVm vm₁) hT hW₁⟩)
  dsimp only [Pt.U, Pt.locs, Pt.cells, Pt.slots] at X' e1 e2 h1 h2 h3 st
  subst h1; subst h2; subst h3
  exact ⟨v, (T.setVm vm₁).calling g' mk As.toArray, t, U', L, hT, X', hL, e1, e2, hq, st⟩
/-- not caught here, past rows that name other classes: it goes on to the caller -/
theorem vx_outP {p : Program} {l : Launch} {e : Env} {R : Room} {s : State} {m : MethodId} {args : Array Value} {below : List Frame} {meth : Method} {c : Code} {H : Heap} {locs : List Loc} {cells slots : Nat} {free : Addr → Prop} {ls : Array Slot} {rest : List Value} {Qc : Array Value → State → Outcome → State → Prop} {XC : String → State → State → Prop}
    {pc : Nat} {own E : String} {ce : Cell} {q : Addr} {mc ms : Nat} (hown : s.vm.findClass own = some m.cls) (hlocks : meth.locks = false)
    (hpass : ∀ z ∈ c.exceptionTable.toList, covers z pc = false ∨ (z.catchType ≠ 0 ∧ ∃ nm : String, (Cond.classLink own z.catchType nm).before args s = true ∧ va_Nc E nm s)) (hcell : H[q]? = some ce) (hv : ce.vm = .none) (hcl : s.vm.findClass E = some ce.cls)
    (hx : ∀ t : State, t.heap = H → s.vm.Alike t.vm → XC E s t) (hf : ∀ z ∈ locs, free z.base) (hc : cells ≤ mc) (hs : slots ≤ ms) :
    vx_W p l e R s m args below meth c H locs cells slots (vx_MQ below Qc XC args s mc ms free) (F0 m pc ls rest) q := by
  intro T hT X
  have hpl : e.platform.magicAccessors = ({} : Platform).magicAccessors := by rw [X.admits.platform]
  obtain ⟨vm', hW', X', st⟩ := X.outThrough hlocks q (g := F0 m pc ls rest) rfl rfl rfl (cell := ce) (by rw [hT]; exact hcell) (by rw [hv]; rfl)
    (by obtain ⟨k9, h9, -⟩ := Vm.findClass_spec hcl; exact ⟨k9, h9⟩) (fun z hz => by
      rcases hpass z hz with h | ⟨hz0, nm, hl1, hn1⟩
      · exact Or.inl h
      · obtain ⟨c6, hc6, hcl6⟩ := Cond.classLink_spec hown hl1 e.platform hpl
        obtain ⟨a8, b8, h1, h2, h3⟩ := hn1
        cases Option.some.inj (h1.symm.trans hcl)
        cases Option.some.inj (h2.symm.trans hc6)
        exact Or.inr ⟨hz0, _, hcl6, h3⟩)
  obtain ⟨g₀, hfr⟩ := X'.frames_eq
  have hcell9 : ((T.setVm vm').setFrames (.throwing q :: below)).heap[q]? = some ce := by
    show T.heap[q]? = some ce
    rw [hT]; exact hcell
  have hend : Ended ((T.setVm vm').setFrames (.throwing q :: below)) below (.threw q) := State.frames_setFrames _ (State.cur_lt_of_frames hfr)
  refine ⟨(T.setVm vm').setFrames (.throwing q :: below), ?_, .threw q, X'.here.running, hend, Or.inr ⟨q, rfl, E, ce, locs, hx _ hT (X'.ends _).1.alike, hcell9, hv, hcl, (X'.ends _).1, (X'.ends _).2.mono hc hs, hf⟩⟩
  rw [X.pushThrowing_eq]
  exact st
/-- a thing of a world lies in the heap -/
theorem vx_lt {D : va_G} {cl : List vw_C} {ws : va_W} {H1 : Heap} (h : va_P D cl ws H1) {k : Nat} {q : Nat × va_E} (hk : ws[k]? = some q) : q.1 < H1.size := (h k q hk).lt
end VXS
/-! ===== END ===== -/
/-! ===== BEGIN methods with a table of their own: called by a name, returning or throwing ===== -/
section VXH
/-! vx_backW, vx_callVX, vx_callSX, vx_callVW, vx_runVW, vx_runVX, vx_runSX, vx_ofWH follow the same proofs as their sisters above (Free/Laws.lean, Shelf42/LK1.lean); vx_outP calls Shelf42/NT130.lean (outThrough). -/
section
variable {l : Launch} {R : Room} {p : Program} {e : Env} {below : List Frame} {s : State} {sargs : Array Value} {y : MethodName} {len W9 : Nat}
theorem vx_backW {ws : List Cond} {rm : Room} {Pc : Array Value → State → Prop} {Qc : Array Value → State → Outcome → State → Prop} {XC : String → State → State → Prop} {mc ms : Nat} {free : Addr → Prop} {bytes : ByteArray} {maxL : Nat} {ret : Option FieldType} {hh : List (Nat × Nat × Nat × Nat)}
    (hM : vx_Met l y ws rm Pc Qc XC mc ms free) (hblind : FrameBlind Pc) (hrc : rm.cells = mc) (hrs : rm.slots = ms)
    (hframes : rm.frames + 1 ≤ R.frames) (hlocals : W9 + (maxL + 11) + rm.locals ≤ R.locals)
    (hws : ∀ w ∈ ws, ∀ a' U, s.WarmedH U.vm → w.before a' U = true) (hcode : Cond.codeWith y bytes maxL ret hh ∈ ws) (hinit : ∀ a' U, s.WarmedH U.vm → (Cond.initialized y.cls).before a' U = true) :
    vx_Back l R p e below s sargs y len W9 (PreOf R mc ms Pc) (PostOf Qc mc ms free) (vx_Post XC mc ms free) := by
  intro m meth c A g ig mk a X hg hsize hdg hW hn hp
  have h1 : (headSpec ws rm).pre.before a A.U = true := atoms_intro fun w hw => hws w hw _ _ X.warmed
  have h2 : (Cond.codeWith y bytes maxL ret hh).before a A.U = true := hws _ hcode _ _ X.warmed
  have h3 : (Cond.initialized y.cls).before a A.U = true := hinit _ _ X.warmed
  have h4 : A.cells + (headSpec ws rm).room.cells ≤ R.cells := by rw [show (headSpec ws rm).room.cells = mc from hrc]; exact hp.1
  have h5 : A.slots + (headSpec ws rm).room.slots ≤ R.slots := by rw [show (headSpec ws rm).room.slots = ms from hrs]; exact hp.2.1
  have hPc : Pc a (A.U.calling g mk a) := hblind _ _ _ _ hp.2.2
  obtain ⟨U, Ls, c0, s0⟩ := A
  dsimp only [Pt.U, Pt.locs, Pt.cells, Pt.slots] at h1 h2 h3 h4 h5 X hn hPc ⊢
  obtain ⟨m9, methY, cY, hn9, hmY, hcY, -, hlY, -⟩ := Cond.codeWith_spec h2
  cases Option.some.inj (hn9.symm.trans hn)
  obtain ⟨kY, hkY, -⟩ := className_of_methodNamed hn
  have hinitY : kY.init = .initialized := Cond.initialized_spec (findClass_of_methodNamed hn) hkY h3
  have h : At U g.method c below := by rw [hg]; exact X.here
  have hlocals9 : W9 + (maxL + 11) + (headSpec ws rm).room.locals ≤ R.locals := hlocals
  have happ : (headSpec ws rm).appliesLoose y e.platform (U.calling g mk a) = true :=
    Spec.appliesLoose_calling (g := g) h hdg hn hkY hinitY
      (X.room_calling (g := g) (R' := (headSpec ws rm).room) hsize hmY hcY hframes (by rw [hlY]; omega) h4 h5) h1
  obtain ⟨mid, hmid⟩ := h.above
  have hfr : (U.setTop g).frames = (.java g :: mid) ++ below := by rw [State.frames_setTop' g h.top, hmid]; rfl
  obtain ⟨o, s₂, hsteps, -, hend, hq⟩ := Steps.callFree hM p X.admits X.cas X.clock (acts := []) hfr happ hPc trivial
  have hq' : vx_Q Qc XC mc ms free a (U.calling g mk a) o s₂ := hq
  rw [State.frames_setTop' g h.top] at hend
  obtain ⟨g₀, hg0⟩ := Option.isSome_iff_exists.mp h.top
  obtain ⟨r, hr⟩ := State.topJava?_eq_some.mp hg0
  have hr' : (({ U with heap := s₂.heap, slotsUsed := s₂.slotsUsed } : State).setVm s₂.vm).frames = .java g₀ :: r := hr
  rcases hq' with ⟨hqc, L, hfe, hL⟩ | ⟨q, rfl, E, ce, L, hx, hce, hcv, hcl, hW₂, hsm, hL⟩
  · obtain ⟨⟨v, rfl⟩, hW₂, e2, q2, q3, q4, q5, q6⟩ := id hfe
    have e3 : s₂ = ({ (U.calling g mk a).setFrames s₂.frames with heap := s₂.heap, slotsUsed := s₂.slotsUsed } : State).setVm s₂.vm := by
      have : s₂ = ({ s₂ with vm := (U.calling g mk a).vm } : State).setVm s₂.vm := rfl
      rw [e2] at this
      exact this
    obtain ⟨c₂, i₂, len₂, hc₂, hd₂, hf₂⟩ := hend
    have hW' : U.WarmedH s₂.vm := hW₂
    have hcc : c₂ = c := by
      have h1 : s₂.code? g.method = U.code? g.method := by
        rw [State.code?_eq, State.code?_eq, hW'.alike.method?]
      exact Option.some.inj (hc₂.symm.trans (h1.trans h.code))
    subst hcc
    have hlen : len₂ = len := by rw [hdg] at hd₂; cases hd₂; rfl
    subst hlen
    have hs₂ : s₂ = (({ U with heap := s₂.heap, slotsUsed := s₂.slotsUsed } : State).setVm s₂.vm).setTop { g with pc := g.pc + len₂, stack := v.toList ++ g.stack } := by
      refine e3.trans ?_
      rw [hf₂, State.calling_eq h.top, State.setFrames_setFrames, State.setTop_of_frames _ hr', hr]
      rfl
    have hsame : U.sameButNew ({ U with heap := s₂.heap, slotsUsed := s₂.slotsUsed } : State) L mc ms := by
      refine ⟨?_, q2, q3, q4, q5, q6⟩
      obtain ⟨t, ht, -⟩ := State.frames_cons hr
      show ({ U with heap := s₂.heap, slotsUsed := s₂.slotsUsed } : State) = { U.setFrames U.frames with heap := s₂.heap, slotsUsed := s₂.slotsUsed }
      rw [State.setFrames_self ht]
    subst hg
    refine Or.inl ⟨v, ⟨(({ U with heap := s₂.heap, slotsUsed := s₂.slotsUsed } : State).setVm s₂.vm), Ls ++ L, c0 + mc, s0 + ms⟩,
      ⟨X.admits, X.cas, X.clock, X.frames, X.room, X.hears, X.method, X.code, (X.here.setHeapUsed s₂.heap s₂.slotsUsed).setVm hW'.alike, X.tail, State.WarmedH.trans X.warmed hW', X.limits, X.bytes, X.same.trans (hsame.setVm s.vm)⟩,
      ⟨g, mk, s₂, L, rfl, rfl, hqc, rfl, hL, rfl, rfl⟩, ?_⟩
    show Steps p.tables e below _ ((({ U with heap := s₂.heap, slotsUsed := s₂.slotsUsed } : State).setVm s₂.vm).setTop { g with pc := g.pc + len₂, stack := v.toList ++ g.stack })
    rw [← hs₂]
    exact hsteps
  · obtain ⟨e2, q2, q3, q4, q5, q6⟩ := id hsm
    have e3 : s₂ = ({ (U.calling g mk a).setFrames s₂.frames with heap := s₂.heap, slotsUsed := s₂.slotsUsed } : State).setVm s₂.vm := by
      have : s₂ = ({ s₂ with vm := (U.calling g mk a).vm } : State).setVm s₂.vm := rfl
      rw [e2] at this
      exact this
    have hf₂ : s₂.frames = .throwing q :: .java g :: U.frames.tail := hend
    have hW' : U.WarmedH s₂.vm := hW₂
    have hs₂ : s₂ = ((({ U with heap := s₂.heap, slotsUsed := s₂.slotsUsed } : State).setVm s₂.vm).setTop g).pushFrame (.throwing q) := by
      refine e3.trans ?_
      rw [hf₂, State.calling_eq h.top, State.setFrames_setFrames, State.pushFrame, State.frames_setTop _ hr', State.setTop_of_frames _ hr', State.setFrames_setFrames, hr]
      rfl
    have hsame : U.sameButNew ({ U with heap := s₂.heap, slotsUsed := s₂.slotsUsed } : State) L mc ms := by
      refine ⟨?_, q2, q3, q4, q5, q6⟩
      obtain ⟨t, ht, -⟩ := State.frames_cons hr
      show ({ U with heap := s₂.heap, slotsUsed := s₂.slotsUsed } : State) = { U.setFrames U.frames with heap := s₂.heap, slotsUsed := s₂.slotsUsed }
      rw [State.setFrames_self ht]
    subst hg
    refine Or.inr ⟨q, ⟨(({ U with heap := s₂.heap, slotsUsed := s₂.slotsUsed } : State).setVm s₂.vm), Ls ++ L, c0 + mc, s0 + ms⟩,
      ⟨X.admits, X.cas, X.clock, X.frames, X.room, X.hears, X.method, X.code, (X.here.setHeapUsed s₂.heap s₂.slotsUsed).setVm hW'.alike, X.tail, State.WarmedH.trans X.warmed hW', X.limits, X.bytes, X.same.trans (hsame.setVm s.vm)⟩,
      ⟨g, mk, s₂, L, E, ce, rfl, rfl, hx, hce, hcv, hcl, rfl, hL, rfl, rfl⟩, ?_⟩
    show Steps p.tables e below _ (((({ U with heap := s₂.heap, slotsUsed := s₂.slotsUsed } : State).setVm s₂.vm).setTop g).pushFrame (.throwing q))
    rw [← hs₂]
    exact hsteps
end
variable {p : Program} {l : Launch} {e : Env} {R : Room} {s : State} {m : MethodId} {args : Array Value} {below : List Frame} {meth : Method} {c : Code} {T : State} {H : Heap} {locs : List Loc} {cells slots : Nat}
theorem vx_callVX (X : Stand p l e R s m args below meth c T locs cells slots) (hexec : p.tables.exec = Jvm.exec) {own C : String} {index : Nat} {y : MethodName} {bytes : ByteArray} {maxL : Nat} {ret : Option FieldType} {hh : List (Nat × Nat × Nat × Nat)}
    (hown : s.vm.findClass own = some m.cls) (hlink : (Cond.methodLink own index y).before args s = true) (hinst : (Cond.instanceMethod y).before args s = true) (hsel : (Cond.selects C y y).before args s = true)
    (hcode : (Cond.codeWith y bytes maxL ret hh).before args s = true) (hy : y.cls ≠ "java/lang/invoke/MethodHandle" ∧ y.cls ≠ "java/lang/invoke/VarHandle")
    {W9 : Nat} {Pre : Pt → Array Value → Prop} {Post : Pt → Array Value → Option Value → Pt → Prop} {PostX : Pt → Array Value → Addr → Pt → Prop} (hK : vx_Back l R p e below s args y 3 W9 Pre Post PostX)
    {b : Addr} {cellB : Cell} (hcell : T.heap[b]? = some cellB) (hobj : cellB.vm.isStatics = false) (hcls : s.vm.findClass C = some cellB.cls)
    {g : JFrame} (hg : g.method = m) (hsize : g.locals.size = c.maxLocals) {argsL rest : List Value} (hlen : ∀ sig, parseMethodDescriptor y.desc = some sig → argsL.length = sig.parameters.length)
    (hstack : g.stack = argsL.reverse ++ .ref b :: rest) (hW : 2 * g.monitorRoom + (rest.map fun v => v.category).sum ≤ W9) (hdg : decode c.code g.pc = .ok (.invokevirtual index, 3))
    (hpre : ∀ vm₁, s.WarmedH vm₁ → Pre ⟨T.setVm vm₁, locs, cells, slots⟩ (Value.ref b :: argsL).toArray) :
    (∃ (v : Option Value) (vm₁ : Vm) (B : Pt), s.WarmedH vm₁ ∧ Stand p l e R s m args below meth c B.U B.locs B.cells B.slots ∧ Post ⟨T.setVm vm₁, locs, cells, slots⟩ (Value.ref b :: argsL).toArray v B ∧
      ∀ target, Steps p.tables e below (B.U.setTop { g with pc := g.pc + 3, stack := v.toList ++ rest }) target → Steps p.tables e below (T.setTop g) target) ∨
    (∃ (q : Addr) (vm₁ : Vm) (B : Pt), s.WarmedH vm₁ ∧ Stand p l e R s m args below meth c B.U B.locs B.cells B.slots ∧ PostX ⟨T.setVm vm₁, locs, cells, slots⟩ (Value.ref b :: argsL).toArray q B ∧
      Steps p.tables e below (T.setTop g) ((B.U.setTop { g with stack := rest }).pushFrame (.throwing q))) := by
  obtain ⟨mk, methM, hnamed, hmethM, hstM, habM⟩ := Cond.instanceMethod_spec hinst
  obtain ⟨m8, methM', cM, hn8, hmethM', -, -, -, -, -, -, hsigM⟩ := Cond.codeWith_spec hcode
  cases Option.some.inj (hn8.symm.trans hnamed)
  cases hmethM.symm.trans hmethM'
  obtain ⟨c2, r2, m2, q1, q2, q3, q4, kP, hkP, hkPi⟩ := Cond.selects_spec hsel
  cases hcls.symm.trans q1
  cases (State.methodFound?_of_named hnamed hy).symm.trans q2
  cases hnamed.symm.trans q3
  have hselP : selectMethod e.platform s.vm cellB.cls mk = .method mk := by rw [Launch.admits_selectMethod X.admits]; exact q4
  obtain ⟨vm₁, X₁, hstep₁⟩ := X.invokevirtual hexec hown hlink hnamed hmethM hstM hkP hkPi hy (a := b) (cell := cellB) hcell
    (fun z h => by rw [h] at hobj; cases hobj) hselP hmethM habM hkP hkPi (g := g) hg (argsL := argsL) (rest := rest) (hlen _ hsigM) hstack hdg
  rcases hK m meth c ⟨T.setVm vm₁, locs, cells, slots⟩ { g with stack := rest } (.invokevirtual index) mk (Value.ref b :: argsL).toArray X₁ hg hsize hdg hW (X₁.named hnamed) (hpre vm₁ X₁.warmed) with ⟨v, B, X', hpost, hsteps⟩ | ⟨q, B, X', hpost, hsteps⟩
  · exact Or.inl ⟨v, vm₁, B, X₁.warmed, X', hpost, fun target h => hstep₁ _ fun acts => by rw [doInvoke_state]; exact hsteps.trans h⟩
  · exact Or.inr ⟨q, vm₁, B, X₁.warmed, X', hpost, hstep₁ _ fun acts => by rw [doInvoke_state]; exact hsteps⟩
theorem vx_callSX (X : Stand p l e R s m args below meth c T locs cells slots) (hexec : p.tables.exec = Jvm.exec) {own : String} {index : Nat} {y : MethodName} {bytes : ByteArray} {maxL : Nat} {ret : Option FieldType} {hh : List (Nat × Nat × Nat × Nat)}
    (hown : s.vm.findClass own = some m.cls) (hlink : (Cond.methodLink own index y).before args s = true) (hstat : (Cond.static y).before args s = true) (hinit : (Cond.initialized y.cls).before args s = true)
    (hcode : (Cond.codeWith y bytes maxL ret hh).before args s = true) (hy : y.cls ≠ "java/lang/invoke/MethodHandle" ∧ y.cls ≠ "java/lang/invoke/VarHandle")
    {W9 : Nat} {Pre : Pt → Array Value → Prop} {Post : Pt → Array Value → Option Value → Pt → Prop} {PostX : Pt → Array Value → Addr → Pt → Prop} (hK : vx_Back l R p e below s args y 3 W9 Pre Post PostX)
    {g : JFrame} (hg : g.method = m) (hsize : g.locals.size = c.maxLocals) {argsL rest : List Value} (hlen : ∀ sig, parseMethodDescriptor y.desc = some sig → argsL.length = sig.parameters.length)
    (hstack : g.stack = argsL.reverse ++ rest) (hW : 2 * g.monitorRoom + (rest.map fun v => v.category).sum ≤ W9) (hdg : decode c.code g.pc = .ok (.invokestatic index, 3))
    (hpre : ∀ vm₁, s.WarmedH vm₁ → Pre ⟨T.setVm vm₁, locs, cells, slots⟩ argsL.toArray) :
    (∃ (v : Option Value) (vm₁ : Vm) (B : Pt), s.WarmedH vm₁ ∧ Stand p l e R s m args below meth c B.U B.locs B.cells B.slots ∧ Post ⟨T.setVm vm₁, locs, cells, slots⟩ argsL.toArray v B ∧
      ∀ target, Steps p.tables e below (B.U.setTop { g with pc := g.pc + 3, stack := v.toList ++ rest }) target → Steps p.tables e below (T.setTop g) target) ∨
    (∃ (q : Addr) (vm₁ : Vm) (B : Pt), s.WarmedH vm₁ ∧ Stand p l e R s m args below meth c B.U B.locs B.cells B.slots ∧ PostX ⟨T.setVm vm₁, locs, cells, slots⟩ argsL.toArray q B ∧
      Steps p.tables e below (T.setTop g) ((B.U.setTop { g with stack := rest }).pushFrame (.throwing q))) := by
  obtain ⟨mk, methM, cM, hnamed, hmethM, -, -, -, -, -, -, hsigM⟩ := Cond.codeWith_spec hcode
  have hstatic : methM.isStatic = true := Cond.static_spec hnamed hmethM hstat
  obtain ⟨kP, hkP, -⟩ := className_of_methodNamed hnamed
  have hinitP : kP.init = .initialized := Cond.initialized_spec (findClass_of_methodNamed hnamed) hkP hinit
  obtain ⟨vm₁, X₁, hstep₁⟩ := X.invokestatic hexec hown hlink hnamed hmethM hstatic hkP hinitP hy (g := g) hg (argsL := argsL) (rest := rest) (hlen _ hsigM) hstack hdg
  rcases hK m meth c ⟨T.setVm vm₁, locs, cells, slots⟩ { g with stack := rest } (.invokestatic index) mk argsL.toArray X₁ hg hsize hdg hW (X₁.named hnamed) (hpre vm₁ X₁.warmed) with ⟨v, B, X', hpost, hsteps⟩ | ⟨q, B, X', hpost, hsteps⟩
  · exact Or.inl ⟨v, vm₁, B, X₁.warmed, X', hpost, fun target h => hstep₁ _ fun acts => by rw [doInvoke_state]; exact hsteps.trans h⟩
  · exact Or.inr ⟨q, vm₁, B, X₁.warmed, X', hpost, hstep₁ _ fun acts => by rw [doInvoke_state]; exact hsteps⟩
theorem vx_callVW (X : Stand p l e R s m args below meth c T locs cells slots) (hexec : p.tables.exec = Jvm.exec) {own C : String} {index : Nat} {y : MethodName} {bytes : ByteArray} {maxL : Nat} {ret : Option FieldType} {hh : List (Nat × Nat × Nat × Nat)}
    (hown : s.vm.findClass own = some m.cls) (hlink : (Cond.methodLink own index y).before args s = true) (hinst : (Cond.instanceMethod y).before args s = true) (hsel : (Cond.selects C y y).before args s = true)
    (hcode : (Cond.codeWith y bytes maxL ret hh).before args s = true) (hy : y.cls ≠ "java/lang/invoke/MethodHandle" ∧ y.cls ≠ "java/lang/invoke/VarHandle")
    {W9 : Nat} {Pre : Pt → Array Value → Prop} {Post : Pt → Array Value → Option Value → Pt → Prop} (hK : Back l R p e below s args y 3 W9 Pre Post)
    {b : Addr} {cellB : Cell} (hcell : T.heap[b]? = some cellB) (hobj : cellB.vm.isStatics = false) (hcls : s.vm.findClass C = some cellB.cls)
    {g : JFrame} (hg : g.method = m) (hsize : g.locals.size = c.maxLocals) {argsL rest : List Value} (hlen : ∀ sig, parseMethodDescriptor y.desc = some sig → argsL.length = sig.parameters.length)
    (hstack : g.stack = argsL.reverse ++ .ref b :: rest) (hW : 2 * g.monitorRoom + (rest.map fun v => v.category).sum ≤ W9) (hdg : decode c.code g.pc = .ok (.invokevirtual index, 3))
    (hpre : ∀ vm₁, s.WarmedH vm₁ → Pre ⟨T.setVm vm₁, locs, cells, slots⟩ (Value.ref b :: argsL).toArray) :
    ∃ (v : Option Value) (vm₁ : Vm) (B : Pt), s.WarmedH vm₁ ∧ Stand p l e R s m args below meth c B.U B.locs B.cells B.slots ∧ Post ⟨T.setVm vm₁, locs, cells, slots⟩ (Value.ref b :: argsL).toArray v B ∧
      ∀ target, Steps p.tables e below (B.U.setTop { g with pc := g.pc + 3, stack := v.toList ++ rest }) target → Steps p.tables e below (T.setTop g) target := by
  obtain ⟨mk, methM, hnamed, hmethM, hstM, habM⟩ := Cond.instanceMethod_spec hinst
  obtain ⟨m8, methM', cM, hn8, hmethM', -, -, -, -, -, -, hsigM⟩ := Cond.codeWith_spec hcode
  cases Option.some.inj (hn8.symm.trans hnamed)
  cases hmethM.symm.trans hmethM'
  obtain ⟨c2, r2, m2, q1, q2, q3, q4, kP, hkP, hkPi⟩ := Cond.selects_spec hsel
  cases hcls.symm.trans q1
  cases (State.methodFound?_of_named hnamed hy).symm.trans q2
  cases hnamed.symm.trans q3
  have hselP : selectMethod e.platform s.vm cellB.cls mk = .method mk := by rw [Launch.admits_selectMethod X.admits]; exact q4
  obtain ⟨vm₁, X₁, hstep₁⟩ := X.invokevirtual hexec hown hlink hnamed hmethM hstM hkP hkPi hy (a := b) (cell := cellB) hcell
    (fun z h => by rw [h] at hobj; cases hobj) hselP hmethM habM hkP hkPi (g := g) hg (argsL := argsL) (rest := rest) (hlen _ hsigM) hstack hdg
  obtain ⟨v, B, X', hpost, hsteps⟩ := hK m meth c ⟨T.setVm vm₁, locs, cells, slots⟩ { g with stack := rest } (.invokevirtual index) mk (Value.ref b :: argsL).toArray X₁ hg hsize hdg hW (X₁.named hnamed) (hpre vm₁ X₁.warmed)
  exact ⟨v, vm₁, B, X₁.warmed, X', hpost, fun target h => hstep₁ _ fun acts => by rw [doInvoke_state]; exact hsteps.trans h⟩
abbrev vx_CVW (R : Room) (s : State) (args : Array Value) (own C : String) (index : Nat) (y : MethodName) (bytes : ByteArray) (maxL : Nat) (ret : Option FieldType) (hh : List (Nat × Nat × Nat × Nat)) (ws : List Cond) (rm : Room) (mc ms n : Nat) : Prop :=
  (rm.cells = mc ∧ rm.slots = ms ∧ rm.frames + 1 ≤ R.frames ∧ 8 + (maxL + 11) + rm.locals ≤ R.locals ∧ (∀ w ∈ ws, ∀ (a' : Array Value) (U : State), s.WarmedH U.vm → w.before a' U = true) ∧ Cond.codeWith y bytes maxL ret hh ∈ ws) ∧
  (Cond.codeWith y bytes maxL ret hh).before args s = true ∧ (Cond.initialized y.cls).before args s = true ∧ (y.cls ≠ "java/lang/invoke/MethodHandle" ∧ y.cls ≠ "java/lang/invoke/VarHandle") ∧
  (∀ sig, parseMethodDescriptor y.desc = some sig → n = sig.parameters.length) ∧ (Cond.methodLink own index y).before args s = true ∧ (Cond.instanceMethod y).before args s = true ∧ (Cond.selects C y y).before args s = true
theorem vx_cwVW {own C : String} {index maxL mc ms : Nat} {y : MethodName} {bytes : ByteArray} {ret : Option FieldType} {hh : List (Nat × Nat × Nat × Nat)} {Ts ws ws' : List Cond} {rm : Room} (n : Nat) (ht : ∀ w ∈ Ts, w.before args s = true) (hT : GoodIn Ts (wsV own index C y ws)) (hw : ws = Cond.codeWith y bytes maxL ret hh :: ws') (hrc : rm.cells = mc) (hrs : rm.slots = ms)
    (hd : y.cls = C ∧ y.cls ≠ "java/lang/invoke/MethodHandle" ∧ y.cls ≠ "java/lang/invoke/VarHandle" ∧ (parseMethodDescriptor y.desc).map (fun d => d.parameters.length) = some n) (hR : rm.frames + 1 ≤ R.frames ∧ 8 + (maxL + 11) + rm.locals ≤ R.locals) :
    vx_CVW R s args own C index y bytes maxL ret hh ws rm mc ms n := by
  obtain ⟨hC, hd⟩ := hd
  subst hC
  have ok : ∀ w ∈ wsV own index y.cls y ws, w.before args s = true := fun w h => ht w (hT w h).1
  have hG : GoodIn Ts ws := fun w h => hT w (by unfold wsV; exact List.mem_append_right _ h)
  have hc : Cond.codeWith y bytes maxL ret hh ∈ ws := by rw [hw]; exact List.mem_cons_self
  refine ⟨⟨hrc, hrs, hR.1, hR.2, pay_in ht hG, hc⟩, ht _ (hG _ hc).1, ok _ (by simp [wsV]), ⟨hd.1, hd.2.1⟩, fun sig h => ?_, ok _ (by simp [wsV]), ok _ (by simp [wsV]), ok _ (by simp [wsV])⟩
  have h2 := hd.2.2
  rw [h] at h2
  exact (Option.some.inj h2).symm
theorem vx_runVW {y : MethodName} {bytes cc : ByteArray} {maxL nL mc ms n index : Nat} {ret : Option FieldType} {hh : List (Nat × Nat × Nat × Nat)} {ws : List Cond} {rm : Room} {Pc : Array Value → State → Prop} {Qc : Array Value → State → Outcome → State → Prop} {free : Addr → Prop} {Ts : List Cond} {own C : String} {b : Addr} {As rest : List Value} {g : JFrame}
    (S : CallFix p m c cc nL s args Ts own) (hM : Met l y ws rm Pc Qc mc ms free) (cw : vx_CVW R s args own C index y bytes maxL ret hh ws rm mc ms n) (hp : PreV s H C b Pc As)
    (hg : g.method = m) (hn : As.length = n) (hsize : g.locals.size = nL) (hstack : g.stack = As.reverse ++ .ref b :: rest) (hW : 2 * g.monitorRoom + (rest.map fun v => v.category).sum ≤ 8) (hdg : decode cc g.pc = .ok (.invokevirtual index, 3)) (hf : cells + mc ≤ R.cells ∧ slots + ms ≤ R.slots) :
    va_Run p l e R s m args below meth c H locs cells slots mc ms g rest (Qc (Value.ref b :: As).toArray) free := by
  obtain ⟨⟨hrc, hrs, hfr, hlo, hws, hcw⟩, hcode, hini, hy, hlen, hl, hin, hse⟩ := cw
  have hK : Back l R p e below s args y 3 8 (PreOf R mc ms Pc) (PostOf Qc mc ms free) := va_backW (hh := hh) (bytes := bytes) (maxL := maxL) (ret := ret) hM hp.1 hrc hrs hfr hlo hws hcw (fun a' U hW => word_at hW (Or.inl (by first | rfl | simp [Cond.onTables, Cond.keeps, Cond.steady])) hini)
  obtain ⟨hx, hb, hml, ho, -⟩ := S
  obtain ⟨-, ⟨cellB, hcB, hoB, hclB⟩, hPc⟩ := hp
  intro T hT X
  obtain ⟨v, vm₁, ⟨U', l2, c2, s2⟩, hW₁, X', ⟨g', mk, t, L, e1, e2, hq, h1, hL, h2, h3⟩, st⟩ := vx_callVW X hx (C := C) (hh := hh) (bytes := bytes) (maxL := maxL) (ret := ret) ho hl hin hse hcode hy hK (by rw [hT]; exact hcB) hoB hclB hg (hsize.trans hml.symm) (argsL := As) (rest := rest) (fun sig h => hn.trans (hlen sig h)) hstack hW (by rw [hb]; exact hdg)
    (fun vm₁ hW₁ => ⟨hf.1, hf.2, hPc (T.setVm vm₁) hT hW₁⟩)
  dsimp only [Pt.U, Pt.locs, Pt.cells, Pt.slots] at X' e1 e2 h1 h2 h3 st
  subst h1; subst h2; subst h3
  exact ⟨v, (T.setVm vm₁).calling g' mk (Value.ref b :: As).toArray, t, U', L, hT, X', hL, e1, e2, hq, st⟩
section
variable {y : MethodName} {bytes cc : ByteArray} {maxL nL mc ms n index : Nat} {ret : Option FieldType} {ws : List Cond} {rm : Room} {Pc : Array Value → State → Prop} {Qc : Array Value → State → Outcome → State → Prop} {XC : String → State → State → Prop} {free : Addr → Prop} {Ts : List Cond} {own C : String} {b : Addr} {As rest : List Value} {g : JFrame}
theorem vx_runVX {hh : List (Nat × Nat × Nat × Nat)} (S : CallFix p m c cc nL s args Ts own) (hM : vx_Met l y ws rm Pc Qc XC mc ms free) (cw : vx_CVW R s args own C index y bytes maxL ret hh ws rm mc ms n) (hp : PreV s H C b Pc As)
    (hg : g.method = m) (hn : As.length = n) (hsize : g.locals.size = nL) (hstack : g.stack = As.reverse ++ .ref b :: rest) (hW : 2 * g.monitorRoom + (rest.map fun v => v.category).sum ≤ 8) (hdg : decode cc g.pc = .ok (.invokevirtual index, 3)) (hf : cells + mc ≤ R.cells ∧ slots + ms ≤ R.slots) :
    vx_Run p l e R s m args below meth c H locs cells slots mc ms g rest (Qc (Value.ref b :: As).toArray) XC free := by
  obtain ⟨⟨hrc, hrs, hfr, hlo, hws, hcw⟩, hcode, hini, hy, hlen, hl, hin, hse⟩ := cw
  have hK : vx_Back l R p e below s args y 3 8 (PreOf R mc ms Pc) (PostOf Qc mc ms free) (vx_Post XC mc ms free) := vx_backW (hh := hh) (bytes := bytes) (maxL := maxL) (ret := ret) hM hp.1 hrc hrs hfr hlo hws hcw (fun a' U hW => word_at hW (Or.inl (by first | rfl | simp [Cond.onTables, Cond.keeps, Cond.steady])) hini)
  obtain ⟨hx, hb, hml, ho, -⟩ := S
  obtain ⟨-, ⟨cellB, hcB, hoB, hclB⟩, hPc⟩ := hp
  intro T hT X
  rcases vx_callVX X hx (C := C) (hh := hh) (bytes := bytes) (maxL := maxL) (ret := ret) ho hl hin hse hcode hy hK (by rw [hT]; exact hcB) hoB hclB hg (hsize.trans hml.symm) (argsL := As) (rest := rest) (fun sig h => hn.trans (hlen sig h)) hstack hW (by rw [hb]; exact hdg)
    (fun vm₁ hW₁ => ⟨hf.1, hf.2, hPc (T.setVm vm₁) hT hW₁⟩) with ⟨v, vm₁, ⟨U', l2, c2, s2⟩, hW₁, X', ⟨g', mk, t, L, e1, e2, hq, h1, hL, h2, h3⟩, st⟩ | ⟨q, vm₁, ⟨U', l2, c2, s2⟩, hW₁, X', ⟨g', mk, t, L, E, ce, e1, e2, hq, hce, hcv, hcl, h1, hL, h2, h3⟩, st⟩
  · dsimp only [Pt.U, Pt.locs, Pt.cells, Pt.slots] at X' e1 e2 h1 h2 h3 st
    subst h1; subst h2; subst h3
    exact Or.inl ⟨v, (T.setVm vm₁).calling g' mk (Value.ref b :: As).toArray, t, U', L, hT, X', hL, e1, e2, hq, st⟩
  · dsimp only [Pt.U, Pt.locs, Pt.cells, Pt.slots] at X' e1 e2 h1 h2 h3 st hcl
    subst h1; subst h2; subst h3
    exact Or.inr ⟨q, (T.setVm vm₁).calling g' mk (Value.ref b :: As).toArray, t, U', L, E, ce, hT, X', hL, e1, e2, hq, hce, hcv, vx_cls hW₁ hcl, st⟩
theorem vx_runSX {hh : List (Nat × Nat × Nat × Nat)} (S : CallFix p m c cc nL s args Ts own) (hM : vx_Met l y ws rm Pc Qc XC mc ms free) (cw : vx_CSW R s args own index y bytes maxL ret hh ws rm mc ms n) (hp : PreS s H Pc As)
    (hg : g.method = m) (hn : As.length = n) (hsize : g.locals.size = nL) (hstack : g.stack = As.reverse ++ rest) (hW : 2 * g.monitorRoom + (rest.map fun v => v.category).sum ≤ 8) (hdg : decode cc g.pc = .ok (.invokestatic index, 3)) (hf : cells + mc ≤ R.cells ∧ slots + ms ≤ R.slots) :
    vx_Run p l e R s m args below meth c H locs cells slots mc ms g rest (Qc As.toArray) XC free := by
  obtain ⟨⟨hrc, hrs, hfr, hlo, hws, hcw⟩, hcode, hini, hy, hlen, hl, hstt⟩ := cw
  have hK : vx_Back l R p e below s args y 3 8 (PreOf R mc ms Pc) (PostOf Qc mc ms free) (vx_Post XC mc ms free) := vx_backW (hh := hh) (bytes := bytes) (maxL := maxL) (ret := ret) hM hp.1 hrc hrs hfr hlo hws hcw (fun a' U hW => word_at hW (Or.inl (by first | rfl | simp [Cond.onTables, Cond.keeps, Cond.steady])) hini)
  obtain ⟨hx, hb, hml, ho, -⟩ := S
  intro T hT X
  rcases vx_callSX X hx (hh := hh) (bytes := bytes) (maxL := maxL) (ret := ret) ho hl hstt hini hcode hy hK hg (hsize.trans hml.symm) (argsL := As) (rest := rest) (fun sig h => hn.trans (hlen sig h)) hstack hW (by rw [hb]; exact hdg)
    (fun vm₁ hW₁ => ⟨hf.1, hf.2, hp.2 (T.setVm vm₁) hT hW₁⟩) with ⟨v, vm₁, ⟨U', l2, c2, s2⟩, hW₁, X', ⟨g', mk, t, L, e1, e2, hq, h1, hL, h2, h3⟩, st⟩ | ⟨q, vm₁, ⟨U', l2, c2, s2⟩, hW₁, X', ⟨g', mk, t, L, E, ce, e1, e2, hq, hce, hcv, hcl, h1, hL, h2, h3⟩, st⟩
  · dsimp only [Pt.U, Pt.locs, Pt.cells, Pt.slots] at X' e1 e2 h1 h2 h3 st
    subst h1; subst h2; subst h3
    exact Or.inl ⟨v, (T.setVm vm₁).calling g' mk As.toArray, t, U', L, hT, X', hL, e1, e2, hq, st⟩
  · dsimp only [Pt.U, Pt.locs, Pt.cells, Pt.slots] at X' e1 e2 h1 h2 h3 st hcl
    subst h1; subst h2; subst h3
    exact Or.inr ⟨q, (T.setVm vm₁).calling g' mk As.toArray, t, U', L, E, ce, hT, X', hL, e1, e2, hq, hce, hcv, vx_cls hW₁ hcl, st⟩
end
end VXH
theorem vx_ofWH {l : Launch} {y : MethodName} {ws ws' : List Cond} {rm : Room} {Pc : Array Value → State → Prop} {Qc : Array Value → State → Outcome → State → Prop} {XC : String → State → State → Prop} {mc ms : Nat} {free : Addr → Prop} {cc : ByteArray} {maxL : Nat} {ret : Option FieldType} {hh : List (Nat × Nat × Nat × Nat)}
    (hy : plainName y.cls = true) (hw : ws = Cond.codeWith y cc maxL ret hh :: ws')
    (body : ∀ p e s m args below meth c s₁, BodyLoose p l y (headSpec ws rm) cc maxL ret e s m args below meth c s₁ → c.maxLocals = maxL → Pc args s →
      W p l e (headSpec ws rm).room s m args below meth c s.heap [] 0 0 (vx_MQ below Qc XC args s mc ms free) (entryFrame m args maxL)) : vx_Met l y ws rm Pc Qc XC mc ms free := by
  refine MetFree.of_bodyS (code := cc) (maxLocals := maxL) (ret := ret) hy ?_ ?_
  · intro args s m h hn
    obtain ⟨m9, meth, c, hn9, h1, h2, h3, h4, -, h5, h6, -⟩ := Cond.codeWith_spec (atoms_spec (ws := ws) h _ (by rw [hw]; exact List.mem_cons_self))
    cases hn.symm.trans hn9
    exact ⟨meth, c, h1, h2, h3, h4, h5, h6⟩
  · intro p e s m args below meth c s₁ B hml hP _
    have hh0 : s₁.heap = s.heap := by rw [B.state]; rfl
    obtain ⟨t, a1, o, b1, b2, b3⟩ := body p e s m args below meth c s₁ B hml hP s₁ hh0 (Stand.of_body B)
    exact ⟨t, o, a1, b1, b2, b3⟩
/-! ===== END ===== -/
end
section
def RX0 : String := "ByteFields$Division"
def TX0 : u_T := fun k => match k with
  | _ => ("ByteFields$Division", "field", "LByteFields$Field;", true)
def tyX0 : Nat → FieldType := fun k => match k with
  | _ => .object "ByteFields$Field"
abbrev wsX00 : List Cond := u_ws RX0 TX0 1
theorem nmX0 : ∀ a, a < 1 → ∀ b, b < 1 → a ≠ b → (TX0 a).2.1 ≠ (TX0 b).2.1 := by decide +kernel
theorem tyX0_ok : ∀ k, k < 1 → parseFieldDescriptor (TX0 k).2.2.1 = some (tyX0 k) := by decide +kernel
abbrev cX0_init : ByteArray := prog_2_method_1_code
def yX0_init : MethodName := ⟨RX0, "<init>", "(LByteFields$Field;)V"⟩
abbrev cX0_toRest : ByteArray := prog_2_method_2_code
def yX0_toRest : MethodName := ⟨RX0, "toRest", "(LByteFields$Polynomial;LByteFields$Polynomial;)V"⟩
abbrev cX0_toQuotient : ByteArray := prog_2_method_3_code
def yX0_toQuotient : MethodName := ⟨RX0, "toQuotient", "(LByteFields$Polynomial;LByteFields$Polynomial;)V"⟩
abbrev cX0_divideInPlace : ByteArray := prog_2_method_4_code
def yX0_divideInPlace : MethodName := ⟨RX0, "divideInPlace", "(LByteFields$Polynomial;LByteFields$Polynomial;)V"⟩
abbrev cX0_toGreatestDivisor : ByteArray := prog_2_method_5_code
def yX0_toGreatestDivisor : MethodName := ⟨RX0, "toGreatestDivisor", "(LByteFields$Polynomial;LByteFields$Polynomial;)V"⟩
abbrev cX0_takeOut : ByteArray := prog_2_method_6_code
def yX0_takeOut : MethodName := ⟨RX0, "takeOut", "(LByteFields$Polynomial;I)Z"⟩
abbrev cX0_toSquareRest : ByteArray := prog_2_method_7_code
def yX0_toSquareRest : MethodName := ⟨RX0, "toSquareRest", "(LByteFields$Polynomial;LByteFields$Polynomial;)V"⟩
def RX1 : String := "ByteFields$Elimination"
def TX1 : u_T := fun k => match k with
  | 0 => ("ByteFields$Elimination", "field", "LByteFields$Field;", true)
  | 1 => ("ByteFields$Elimination", "cells", "[[I", true)
  | 2 => ("ByteFields$Elimination", "pivotRows", "[I", true)
  | 3 => ("ByteFields$Elimination", "height", "I", false)
  | 4 => ("ByteFields$Elimination", "width", "I", false)
  | 5 => ("ByteFields$Elimination", "rank", "I", false)
  | _ => ("ByteFields$Elimination", "pivotProduct", "I", false)
def tyX1 : Nat → FieldType := fun k => match k with
  | 0 => .object "ByteFields$Field"
  | 1 => .array (.array .int)
  | 2 => .array .int
  | 3 => .int
  | 4 => .int
  | 5 => .int
  | _ => .int
abbrev wsX10 : List Cond := u_ws RX1 TX1 7
theorem nmX1 : ∀ a, a < 7 → ∀ b, b < 7 → a ≠ b → (TX1 a).2.1 ≠ (TX1 b).2.1 := by decide +kernel
theorem tyX1_ok : ∀ k, k < 7 → parseFieldDescriptor (TX1 k).2.2.1 = some (tyX1 k) := by decide +kernel
abbrev cX1_init : ByteArray := prog_3_method_1_code
def yX1_init : MethodName := ⟨RX1, "<init>", "(LByteFields$Field;)V"⟩
abbrev cX1_load : ByteArray := prog_3_method_2_code
def yX1_load : MethodName := ⟨RX1, "load", "(LByteFields$Matrix;)V"⟩
abbrev cX1_appendIdentity : ByteArray := prog_3_method_3_code
def yX1_appendIdentity : MethodName := ⟨RX1, "appendIdentity", "()V"⟩
abbrev cX1_appendColumn : ByteArray := prog_3_method_4_code
def yX1_appendColumn : MethodName := ⟨RX1, "appendColumn", "([I)V"⟩
abbrev cX1_reduce : ByteArray := prog_3_method_5_code
def yX1_reduce : MethodName := ⟨RX1, "reduce", "(I)I"⟩
abbrev cX1_rowWithMember : ByteArray := prog_3_method_6_code
def yX1_rowWithMember : MethodName := ⟨RX1, "rowWithMember", "(I)I"⟩
abbrev cX1_exchange : ByteArray := prog_3_method_7_code
def yX1_exchange : MethodName := ⟨RX1, "exchange", "(II)V"⟩
abbrev cX1_free : ByteArray := prog_3_method_8_code
def yX1_free : MethodName := ⟨RX1, "free", "(I)V"⟩
abbrev cX1_leavesOver : ByteArray := prog_3_method_9_code
def yX1_leavesOver : MethodName := ⟨RX1, "leavesOver", "(I)Z"⟩
abbrev cX1_solution : ByteArray := prog_3_method_10_code
def yX1_solution : MethodName := ⟨RX1, "solution", "(II)I"⟩
abbrev cX1_copyAppended : ByteArray := prog_3_method_11_code
def yX1_copyAppended : MethodName := ⟨RX1, "copyAppended", "(LByteFields$Matrix;)V"⟩
def RX2 : String := "ByteFields$Factors"
def TX2 : u_T := fun k => match k with
  | 0 => ("ByteFields$Factors", "field", "LByteFields$Field;", true)
  | 1 => ("ByteFields$Factors", "division", "LByteFields$Division;", true)
  | 2 => ("ByteFields$Factors", "left", "LByteFields$Polynomial;", true)
  | 3 => ("ByteFields$Factors", "power", "LByteFields$Polynomial;", true)
  | 4 => ("ByteFields$Factors", "shared", "LByteFields$Polynomial;", true)
  | _ => ("ByteFields$Factors", "other", "LByteFields$Polynomial;", true)
def tyX2 : Nat → FieldType := fun k => match k with
  | 0 => .object "ByteFields$Field"
  | 1 => .object "ByteFields$Division"
  | 2 => .object "ByteFields$Polynomial"
  | 3 => .object "ByteFields$Polynomial"
  | 4 => .object "ByteFields$Polynomial"
  | _ => .object "ByteFields$Polynomial"
abbrev wsX20 : List Cond := u_ws RX2 TX2 6
theorem nmX2 : ∀ a, a < 6 → ∀ b, b < 6 → a ≠ b → (TX2 a).2.1 ≠ (TX2 b).2.1 := by decide +kernel
theorem tyX2_ok : ∀ k, k < 6 → parseFieldDescriptor (TX2 k).2.2.1 = some (tyX2 k) := by decide +kernel
abbrev cX2_init : ByteArray := prog_4_method_1_code
def yX2_init : MethodName := ⟨RX2, "<init>", "(LByteFields$Field;LByteFields$Division;)V"⟩
abbrev cX2_count : ByteArray := prog_4_method_2_code
def yX2_count : MethodName := ⟨RX2, "count", "(LByteFields$Polynomial;[I)V"⟩
abbrev cX2_takeParts : ByteArray := prog_4_method_3_code
def yX2_takeParts : MethodName := ⟨RX2, "takeParts", "(I)I"⟩
def RX3 : String := "ByteFields$Field"
def TX3 : u_T := fun k => match k with
  | 0 => ("ByteFields$Field", "bits", "I", true)
  | 1 => ("ByteFields$Field", "size", "I", true)
  | 2 => ("ByteFields$Field", "units", "I", true)
  | 3 => ("ByteFields$Field", "poly", "I", true)
  | 4 => ("ByteFields$Field", "generator", "I", true)
  | _ => ("ByteFields$Field", "tables", "[I", true)
def tyX3 : Nat → FieldType := fun k => match k with
  | 0 => .int
  | 1 => .int
  | 2 => .int
  | 3 => .int
  | 4 => .int
  | _ => .array .int
abbrev wsX30 : List Cond := u_ws RX3 TX3 6
theorem nmX3 : ∀ a, a < 6 → ∀ b, b < 6 → a ≠ b → (TX3 a).2.1 ≠ (TX3 b).2.1 := by decide +kernel
theorem tyX3_ok : ∀ k, k < 6 → parseFieldDescriptor (TX3 k).2.2.1 = some (tyX3 k) := by decide +kernel
abbrev cX3_init : ByteArray := prog_5_method_1_code
def yX3_init : MethodName := ⟨RX3, "<init>", "(II)V"⟩
abbrev cX3_firstUnsplit : ByteArray := prog_5_method_2_code
def yX3_firstUnsplit : MethodName := ⟨RX3, "firstUnsplit", "(II)I"⟩
abbrev cX3_splits : ByteArray := prog_5_method_3_code
def yX3_splits : MethodName := ⟨RX3, "splits", "(II)Z"⟩
abbrev cX3_restOfBits : ByteArray := prog_5_method_4_code
def yX3_restOfBits : MethodName := ⟨RX3, "restOfBits", "(II)I"⟩
abbrev cX3_highestBit : ByteArray := prog_5_method_5_code
def yX3_highestBit : MethodName := ⟨RX3, "highestBit", "(I)I"⟩
abbrev cX3_slowProduct : ByteArray := prog_5_method_6_code
def yX3_slowProduct : MethodName := ⟨RX3, "slowProduct", "(II)I"⟩
abbrev cX3_slowPower : ByteArray := prog_5_method_7_code
def yX3_slowPower : MethodName := ⟨RX3, "slowPower", "(II)I"⟩
abbrev cX3_leastGenerator : ByteArray := prog_5_method_8_code
def yX3_leastGenerator : MethodName := ⟨RX3, "leastGenerator", "()I"⟩
abbrev cX3_generates : ByteArray := prog_5_method_9_code
def yX3_generates : MethodName := ⟨RX3, "generates", "(I)Z"⟩
abbrev cX3_logOf : ByteArray := prog_5_method_10_code
def yX3_logOf : MethodName := ⟨RX3, "logOf", "(I)I"⟩
abbrev cX3_mul : ByteArray := prog_5_method_11_code
def yX3_mul : MethodName := ⟨RX3, "mul", "(II)I"⟩
abbrev cX3_inverse : ByteArray := prog_5_method_12_code
def yX3_inverse : MethodName := ⟨RX3, "inverse", "(I)I"⟩
abbrev cX3_ratio : ByteArray := prog_5_method_13_code
def yX3_ratio : MethodName := ⟨RX3, "ratio", "(II)I"⟩
abbrev cX3_raised : ByteArray := prog_5_method_14_code
def yX3_raised : MethodName := ⟨RX3, "raised", "(IJ)I"⟩
abbrev cX3_orderOf : ByteArray := prog_5_method_15_code
def yX3_orderOf : MethodName := ⟨RX3, "orderOf", "(I)I"⟩
abbrev cX3_addMultiple : ByteArray := prog_5_method_16_code
def yX3_addMultiple : MethodName := ⟨RX3, "addMultiple", "([II[IIII)V"⟩
abbrev cX3_scale : ByteArray := prog_5_method_17_code
def yX3_scale : MethodName := ⟨RX3, "scale", "([III)V"⟩
def RX4 : String := "ByteFields$Interpolation"
def TX4 : u_T := fun k => match k with
  | 0 => ("ByteFields$Interpolation", "field", "LByteFields$Field;", true)
  | 1 => ("ByteFields$Interpolation", "xs", "[I", true)
  | _ => ("ByteFields$Interpolation", "ys", "[I", true)
def tyX4 : Nat → FieldType := fun k => match k with
  | 0 => .object "ByteFields$Field"
  | 1 => .array .int
  | _ => .array .int
abbrev wsX40 : List Cond := u_ws RX4 TX4 3
theorem nmX4 : ∀ a, a < 3 → ∀ b, b < 3 → a ≠ b → (TX4 a).2.1 ≠ (TX4 b).2.1 := by decide +kernel
theorem tyX4_ok : ∀ k, k < 3 → parseFieldDescriptor (TX4 k).2.2.1 = some (tyX4 k) := by decide +kernel
abbrev cX4_init : ByteArray := prog_6_method_1_code
def yX4_init : MethodName := ⟨RX4, "<init>", "(LByteFields$Field;)V"⟩
abbrev cX4_take : ByteArray := prog_6_method_2_code
def yX4_take : MethodName := ⟨RX4, "take", "(III)V"⟩
abbrev cX4_run : ByteArray := prog_6_method_3_code
def yX4_run : MethodName := ⟨RX4, "run", "(ILByteFields$Polynomial;)V"⟩
abbrev cX4_multiplyAndAdd : ByteArray := prog_6_method_4_code
def yX4_multiplyAndAdd : MethodName := ⟨RX4, "multiplyAndAdd", "(LByteFields$Polynomial;II)V"⟩
def RX5 : String := "ByteFields$Matrix"
def TX5 : u_T := fun k => match k with
  | 0 => ("ByteFields$Matrix", "rows", "I", true)
  | 1 => ("ByteFields$Matrix", "columns", "I", true)
  | _ => ("ByteFields$Matrix", "cells", "[I", true)
def tyX5 : Nat → FieldType := fun k => match k with
  | 0 => .int
  | 1 => .int
  | _ => .array .int
abbrev wsX50 : List Cond := u_ws RX5 TX5 3
theorem nmX5 : ∀ a, a < 3 → ∀ b, b < 3 → a ≠ b → (TX5 a).2.1 ≠ (TX5 b).2.1 := by decide +kernel
theorem tyX5_ok : ∀ k, k < 3 → parseFieldDescriptor (TX5 k).2.2.1 = some (tyX5 k) := by decide +kernel
abbrev cX5_init : ByteArray := prog_7_method_1_code
def yX5_init : MethodName := ⟨RX5, "<init>", "(II)V"⟩
def RX6 : String := "ByteFields$Minors"
def TX6 : u_T := fun k => match k with
  | 0 => ("ByteFields$Minors", "field", "LByteFields$Field;", true)
  | _ => ("ByteFields$Minors", "values", "[[I", true)
def tyX6 : Nat → FieldType := fun k => match k with
  | 0 => .object "ByteFields$Field"
  | _ => .array (.array .int)
abbrev wsX60 : List Cond := u_ws RX6 TX6 2
theorem nmX6 : ∀ a, a < 2 → ∀ b, b < 2 → a ≠ b → (TX6 a).2.1 ≠ (TX6 b).2.1 := by decide +kernel
theorem tyX6_ok : ∀ k, k < 2 → parseFieldDescriptor (TX6 k).2.2.1 = some (tyX6 k) := by decide +kernel
abbrev cX6_init : ByteArray := prog_8_method_1_code
def yX6_init : MethodName := ⟨RX6, "<init>", "(LByteFields$Field;)V"⟩
abbrev cX6_countZeros : ByteArray := prog_8_method_2_code
def yX6_countZeros : MethodName := ⟨RX6, "countZeros", "(LByteFields$Matrix;)I"⟩
abbrev cX6_addRow : ByteArray := prog_8_method_3_code
def yX6_addRow : MethodName := ⟨RX6, "addRow", "(LByteFields$Matrix;II)I"⟩
abbrev cX6_expanded : ByteArray := prog_8_method_4_code
def yX6_expanded : MethodName := ⟨RX6, "expanded", "(LByteFields$Matrix;II[I)I"⟩
def RX7 : String := "ByteFields$Polynomial"
def TX7 : u_T := fun k => match k with
  | 0 => ("ByteFields$Polynomial", "at", "[I", true)
  | 1 => ("ByteFields$Polynomial", "top", "I", false)
  | _ => ("ByteFields$Polynomial", "partCounts", "[I", false)
def tyX7 : Nat → FieldType := fun k => match k with
  | 0 => .array .int
  | 1 => .int
  | _ => .array .int
abbrev wsX70 : List Cond := u_ws RX7 TX7 3
theorem nmX7 : ∀ a, a < 3 → ∀ b, b < 3 → a ≠ b → (TX7 a).2.1 ≠ (TX7 b).2.1 := by decide +kernel
theorem tyX7_ok : ∀ k, k < 3 → parseFieldDescriptor (TX7 k).2.2.1 = some (tyX7 k) := by decide +kernel
abbrev cX7_init : ByteArray := prog_9_method_1_code
def yX7_init : MethodName := ⟨RX7, "<init>", "(I)V"⟩
abbrev cX7_clear : ByteArray := prog_9_method_2_code
def yX7_clear : MethodName := ⟨RX7, "clear", "()V"⟩
abbrev cX7_load : ByteArray := prog_9_method_3_code
def yX7_load : MethodName := ⟨RX7, "load", "([II)V"⟩
abbrev cX7_copyFrom : ByteArray := prog_9_method_4_code
def yX7_copyFrom : MethodName := ⟨RX7, "copyFrom", "(LByteFields$Polynomial;)V"⟩
abbrev cX7_settle : ByteArray := prog_9_method_5_code
def yX7_settle : MethodName := ⟨RX7, "settle", "(I)V"⟩
abbrev cX7_addScaled : ByteArray := prog_9_method_6_code
def yX7_addScaled : MethodName := ⟨RX7, "addScaled", "(LByteFields$Field;LByteFields$Polynomial;I)V"⟩
abbrev cX7_addMember : ByteArray := prog_9_method_7_code
def yX7_addMember : MethodName := ⟨RX7, "addMember", "(I)V"⟩
abbrev cX7_becomeX : ByteArray := prog_9_method_8_code
def yX7_becomeX : MethodName := ⟨RX7, "becomeX", "()V"⟩
abbrev cX7_shiftDown : ByteArray := prog_9_method_9_code
def yX7_shiftDown : MethodName := ⟨RX7, "shiftDown", "(I)V"⟩
def RX8 : String := "ByteFields$Roots"
def TX8 : u_T := fun k => match k with
  | 0 => ("ByteFields$Roots", "field", "LByteFields$Field;", true)
  | 1 => ("ByteFields$Roots", "division", "LByteFields$Division;", true)
  | 2 => ("ByteFields$Roots", "steps", "[I", true)
  | 3 => ("ByteFields$Roots", "rests", "[LByteFields$Polynomial;", true)
  | 4 => ("ByteFields$Roots", "left", "LByteFields$Polynomial;", true)
  | 5 => ("ByteFields$Roots", "lower", "LByteFields$Polynomial;", true)
  | _ => ("ByteFields$Roots", "other", "LByteFields$Polynomial;", true)
def tyX8 : Nat → FieldType := fun k => match k with
  | 0 => .object "ByteFields$Field"
  | 1 => .object "ByteFields$Division"
  | 2 => .array .int
  | 3 => .array (.object "ByteFields$Polynomial")
  | 4 => .object "ByteFields$Polynomial"
  | 5 => .object "ByteFields$Polynomial"
  | _ => .object "ByteFields$Polynomial"
abbrev wsX80 : List Cond := u_ws RX8 TX8 7
theorem nmX8 : ∀ a, a < 7 → ∀ b, b < 7 → a ≠ b → (TX8 a).2.1 ≠ (TX8 b).2.1 := by decide +kernel
theorem tyX8_ok : ∀ k, k < 7 → parseFieldDescriptor (TX8 k).2.2.1 = some (tyX8 k) := by decide +kernel
abbrev cX8_init : ByteArray := prog_10_method_1_code
def yX8_init : MethodName := ⟨RX8, "<init>", "(LByteFields$Field;LByteFields$Division;)V"⟩
abbrev cX8_valueAt : ByteArray := prog_10_method_2_code
def yX8_valueAt : MethodName := ⟨RX8, "valueAt", "(II)I"⟩
abbrev cX8_makeRests : ByteArray := prog_10_method_3_code
def yX8_makeRests : MethodName := ⟨RX8, "makeRests", "(LByteFields$Polynomial;)V"⟩
abbrev cX8_find : ByteArray := prog_10_method_4_code
def yX8_find : MethodName := ⟨RX8, "find", "(LByteFields$Polynomial;I)I"⟩
abbrev cX8_keepLower : ByteArray := prog_10_method_5_code
def yX8_keepLower : MethodName := ⟨RX8, "keepLower", "(II)V"⟩
def RX9 : String := "ByteFields"
def TX9 : u_T := fun k => match k with
  | 0 => ("ByteFields", "field", "LByteFields$Field;", true)
  | 1 => ("ByteFields", "elimination", "LByteFields$Elimination;", true)
  | 2 => ("ByteFields", "minors", "LByteFields$Minors;", true)
  | 3 => ("ByteFields", "division", "LByteFields$Division;", true)
  | 4 => ("ByteFields", "interpolation", "LByteFields$Interpolation;", true)
  | 5 => ("ByteFields", "roots", "LByteFields$Roots;", true)
  | 6 => ("ByteFields", "factors", "LByteFields$Factors;", true)
  | 7 => ("ByteFields", "work", "LByteFields$Polynomial;", true)
  | 8 => ("ByteFields", "otherWork", "LByteFields$Polynomial;", true)
  | 9 => ("ByteFields", "rowMembers", "[I", true)
  | 10 => ("ByteFields", "inRow", "I", false)
  | 11 => ("ByteFields", "matrices", "[LByteFields$Matrix;", true)
  | 12 => ("ByteFields", "matrixCount", "I", false)
  | 13 => ("ByteFields", "polynomials", "[LByteFields$Polynomial;", true)
  | 14 => ("ByteFields", "polynomialCount", "I", false)
  | 15 => ("ByteFields", "spanMembers", "[I", true)
  | _ => ("ByteFields", "inSpan", "I", false)
def tyX9 : Nat → FieldType := fun k => match k with
  | 0 => .object "ByteFields$Field"
  | 1 => .object "ByteFields$Elimination"
  | 2 => .object "ByteFields$Minors"
  | 3 => .object "ByteFields$Division"
  | 4 => .object "ByteFields$Interpolation"
  | 5 => .object "ByteFields$Roots"
  | 6 => .object "ByteFields$Factors"
  | 7 => .object "ByteFields$Polynomial"
  | 8 => .object "ByteFields$Polynomial"
  | 9 => .array .int
  | 10 => .int
  | 11 => .array (.object "ByteFields$Matrix")
  | 12 => .int
  | 13 => .array (.object "ByteFields$Polynomial")
  | 14 => .int
  | 15 => .array .int
  | _ => .int
abbrev wsX90 : List Cond := u_ws RX9 TX9 17
theorem nmX9 : ∀ a, a < 17 → ∀ b, b < 17 → a ≠ b → (TX9 a).2.1 ≠ (TX9 b).2.1 := by decide +kernel
theorem tyX9_ok : ∀ k, k < 17 → parseFieldDescriptor (TX9 k).2.2.1 = some (tyX9 k) := by decide +kernel
abbrev cX9_init : ByteArray := prog_1_method_1_code
def yX9_init : MethodName := ⟨RX9, "<init>", "(II)V"⟩
abbrev cX9_poly : ByteArray := prog_1_method_2_code
def yX9_poly : MethodName := ⟨RX9, "poly", "()I"⟩
abbrev cX9_generator : ByteArray := prog_1_method_3_code
def yX9_generator : MethodName := ⟨RX9, "generator", "()I"⟩
abbrev cX9_product : ByteArray := prog_1_method_4_code
def yX9_product : MethodName := ⟨RX9, "product", "(II)I"⟩
abbrev cX9_quotient : ByteArray := prog_1_method_5_code
def yX9_quotient : MethodName := ⟨RX9, "quotient", "(II)I"⟩
abbrev cX9_power : ByteArray := prog_1_method_6_code
def yX9_power : MethodName := ⟨RX9, "power", "(IJ)I"⟩
abbrev cX9_log : ByteArray := prog_1_method_7_code
def yX9_log : MethodName := ⟨RX9, "log", "(I)I"⟩
abbrev cX9_order : ByteArray := prog_1_method_8_code
def yX9_order : MethodName := ⟨RX9, "order", "(I)I"⟩
abbrev cX9_put : ByteArray := prog_1_method_9_code
def yX9_put : MethodName := ⟨RX9, "put", "(I)I"⟩
abbrev cX9_row : ByteArray := prog_1_method_10_code
def yX9_row : MethodName := ⟨RX9, "row", "(I)I"⟩
abbrev cX9_drop : ByteArray := prog_1_method_11_code
def yX9_drop : MethodName := ⟨RX9, "drop", "()I"⟩
abbrev cX9_matrix : ByteArray := prog_1_method_12_code
def yX9_matrix : MethodName := ⟨RX9, "matrix", "(II)I"⟩
abbrev cX9_powers : ByteArray := prog_1_method_13_code
def yX9_powers : MethodName := ⟨RX9, "powers", "(II)I"⟩
abbrev cX9_sums : ByteArray := prog_1_method_14_code
def yX9_sums : MethodName := ⟨RX9, "sums", "(II)I"⟩
abbrev cX9_size : ByteArray := prog_1_method_15_code
def yX9_size : MethodName := ⟨RX9, "size", "(II)I"⟩
abbrev cX9_cell : ByteArray := prog_1_method_16_code
def yX9_cell : MethodName := ⟨RX9, "cell", "(III)I"⟩
abbrev cX9_set : ByteArray := prog_1_method_17_code
def yX9_set : MethodName := ⟨RX9, "set", "(IIII)I"⟩
abbrev cX9_times : ByteArray := prog_1_method_18_code
def yX9_times : MethodName := ⟨RX9, "times", "(II)I"⟩
abbrev cX9_invert : ByteArray := prog_1_method_19_code
def yX9_invert : MethodName := ⟨RX9, "invert", "(I)I"⟩
abbrev cX9_rank : ByteArray := prog_1_method_20_code
def yX9_rank : MethodName := ⟨RX9, "rank", "(I)I"⟩
abbrev cX9_determinant : ByteArray := prog_1_method_21_code
def yX9_determinant : MethodName := ⟨RX9, "determinant", "(I)I"⟩
abbrev cX9_singular : ByteArray := prog_1_method_22_code
def yX9_singular : MethodName := ⟨RX9, "singular", "(I)I"⟩
abbrev cX9_solve : ByteArray := prog_1_method_23_code
def yX9_solve : MethodName := ⟨RX9, "solve", "(I)I"⟩
abbrev cX9_polynomial : ByteArray := prog_1_method_24_code
def yX9_polynomial : MethodName := ⟨RX9, "polynomial", "()I"⟩
abbrev cX9_through : ByteArray := prog_1_method_25_code
def yX9_through : MethodName := ⟨RX9, "through", "()I"⟩
abbrev cX9_degree : ByteArray := prog_1_method_26_code
def yX9_degree : MethodName := ⟨RX9, "degree", "(I)I"⟩
abbrev cX9_coefficient : ByteArray := prog_1_method_27_code
def yX9_coefficient : MethodName := ⟨RX9, "coefficient", "(II)I"⟩
abbrev cX9_value : ByteArray := prog_1_method_28_code
def yX9_value : MethodName := ⟨RX9, "value", "(II)I"⟩
abbrev cX9_plus : ByteArray := prog_1_method_29_code
def yX9_plus : MethodName := ⟨RX9, "plus", "(II)I"⟩
abbrev cX9_multiply : ByteArray := prog_1_method_30_code
def yX9_multiply : MethodName := ⟨RX9, "multiply", "(II)I"⟩
abbrev cX9_divide : ByteArray := prog_1_method_31_code
def yX9_divide : MethodName := ⟨RX9, "divide", "(IIZ)I"⟩
abbrev cX9_common : ByteArray := prog_1_method_32_code
def yX9_common : MethodName := ⟨RX9, "common", "(II)I"⟩
abbrev cX9_root : ByteArray := prog_1_method_33_code
def yX9_root : MethodName := ⟨RX9, "root", "(II)I"⟩
abbrev cX9_often : ByteArray := prog_1_method_34_code
def yX9_often : MethodName := ⟨RX9, "often", "(II)I"⟩
abbrev cX9_parts : ByteArray := prog_1_method_35_code
def yX9_parts : MethodName := ⟨RX9, "parts", "(II)I"⟩
abbrev cX9_span : ByteArray := prog_1_method_36_code
def yX9_span : MethodName := ⟨RX9, "span", "()I"⟩
abbrev cX9_forth : ByteArray := prog_1_method_37_code
def yX9_forth : MethodName := ⟨RX9, "forth", "(I)I"⟩
abbrev cX9_back : ByteArray := prog_1_method_38_code
def yX9_back : MethodName := ⟨RX9, "back", "()I"⟩
abbrev cX9_told : ByteArray := prog_1_method_39_code
def yX9_told : MethodName := ⟨RX9, "told", "(I)I"⟩
abbrev cX9_needMember : ByteArray := prog_1_method_40_code
def yX9_needMember : MethodName := ⟨RX9, "needMember", "(I)V"⟩
abbrev cX9_needSides : ByteArray := prog_1_method_41_code
def yX9_needSides : MethodName := ⟨RX9, "needSides", "(II)V"⟩
abbrev cX9_needSquare : ByteArray := prog_1_method_42_code
def yX9_needSquare : MethodName := ⟨RX9, "needSquare", "(LByteFields$Matrix;)V"⟩
abbrev cX9_needMatrixRoom : ByteArray := prog_1_method_43_code
def yX9_needMatrixRoom : MethodName := ⟨RX9, "needMatrixRoom", "()V"⟩
abbrev cX9_needPolynomialRoom : ByteArray := prog_1_method_44_code
def yX9_needPolynomialRoom : MethodName := ⟨RX9, "needPolynomialRoom", "()V"⟩
abbrev cX9_needSpan : ByteArray := prog_1_method_45_code
def yX9_needSpan : MethodName := ⟨RX9, "needSpan", "()V"⟩
abbrev cX9_matrixAt : ByteArray := prog_1_method_46_code
def yX9_matrixAt : MethodName := ⟨RX9, "matrixAt", "(I)LByteFields$Matrix;"⟩
abbrev cX9_placeIn : ByteArray := prog_1_method_47_code
def yX9_placeIn : MethodName := ⟨RX9, "placeIn", "(LByteFields$Matrix;II)I"⟩
abbrev cX9_polynomialAt : ByteArray := prog_1_method_48_code
def yX9_polynomialAt : MethodName := ⟨RX9, "polynomialAt", "(I)LByteFields$Polynomial;"⟩
abbrev cX9_keepMatrix : ByteArray := prog_1_method_49_code
def yX9_keepMatrix : MethodName := ⟨RX9, "keepMatrix", "(LByteFields$Matrix;)I"⟩
abbrev cX9_keepPolynomial : ByteArray := prog_1_method_50_code
def yX9_keepPolynomial : MethodName := ⟨RX9, "keepPolynomial", "(LByteFields$Polynomial;)I"⟩
abbrev cX9_hasAlike : ByteArray := prog_1_method_51_code
def yX9_hasAlike : MethodName := ⟨RX9, "hasAlike", "(I)Z"⟩
abbrev cX9_hasXorOfAhead : ByteArray := prog_1_method_52_code
def yX9_hasXorOfAhead : MethodName := ⟨RX9, "hasXorOfAhead", "()Z"⟩
abbrev cX9_xorOfChosen : ByteArray := prog_1_method_53_code
def yX9_xorOfChosen : MethodName := ⟨RX9, "xorOfChosen", "(II)I"⟩
abbrev cX9_valueOf : ByteArray := prog_1_method_54_code
def yX9_valueOf : MethodName := ⟨RX9, "valueOf", "(LByteFields$Polynomial;I)I"⟩
def RX10 : String := "ByteFieldsModel"
def TX10 : u_T := fun k => match k with
  | 0 => ("ByteFieldsModel", "bits", "I", false)
  | 1 => ("ByteFieldsModel", "poly", "I", false)
  | 2 => ("ByteFieldsModel", "members", "I", false)
  | 3 => ("ByteFieldsModel", "generator", "I", false)
  | 4 => ("ByteFieldsModel", "thrown", "I", false)
  | 5 => ("ByteFieldsModel", "many", "I", false)
  | 6 => ("ByteFieldsModel", "row", "[I", true)
  | 7 => ("ByteFieldsModel", "matrices", "I", false)
  | 8 => ("ByteFieldsModel", "rows", "[I", true)
  | 9 => ("ByteFieldsModel", "columns", "[I", true)
  | 10 => ("ByteFieldsModel", "cells", "[I", true)
  | 11 => ("ByteFieldsModel", "minor", "[I", true)
  | 12 => ("ByteFieldsModel", "work", "[I", true)
  | 13 => ("ByteFieldsModel", "lead", "[I", true)
  | 14 => ("ByteFieldsModel", "polynomials", "I", false)
  | 15 => ("ByteFieldsModel", "degree", "[I", true)
  | 16 => ("ByteFieldsModel", "coefficient", "[I", true)
  | 17 => ("ByteFieldsModel", "one", "[I", true)
  | 18 => ("ByteFieldsModel", "two", "[I", true)
  | 19 => ("ByteFieldsModel", "out", "[I", true)
  | 20 => ("ByteFieldsModel", "third", "[I", true)
  | 21 => ("ByteFieldsModel", "rooted", "I", false)
  | 22 => ("ByteFieldsModel", "roots", "I", false)
  | 23 => ("ByteFieldsModel", "root", "[I", true)
  | 24 => ("ByteFieldsModel", "parted", "I", false)
  | 25 => ("ByteFieldsModel", "parts", "[I", true)
  | 26 => ("ByteFieldsModel", "left", "[I", true)
  | 27 => ("ByteFieldsModel", "power", "[I", true)
  | 28 => ("ByteFieldsModel", "spanned", "I", false)
  | _ => ("ByteFieldsModel", "span", "[I", true)
def tyX10 : Nat → FieldType := fun k => match k with
  | 0 => .int
  | 1 => .int
  | 2 => .int
  | 3 => .int
  | 4 => .int
  | 5 => .int
  | 6 => .array .int
  | 7 => .int
  | 8 => .array .int
  | 9 => .array .int
  | 10 => .array .int
  | 11 => .array .int
  | 12 => .array .int
  | 13 => .array .int
  | 14 => .int
  | 15 => .array .int
  | 16 => .array .int
  | 17 => .array .int
  | 18 => .array .int
  | 19 => .array .int
  | 20 => .array .int
  | 21 => .int
  | 22 => .int
  | 23 => .array .int
  | 24 => .int
  | 25 => .array .int
  | 26 => .array .int
  | 27 => .array .int
  | 28 => .int
  | _ => .array .int
abbrev wsX100 : List Cond := u_ws RX10 TX10 30
theorem nmX10 : ∀ a, a < 30 → ∀ b, b < 30 → a ≠ b → (TX10 a).2.1 ≠ (TX10 b).2.1 := by decide +kernel
theorem tyX10_ok : ∀ k, k < 30 → parseFieldDescriptor (TX10 k).2.2.1 = some (tyX10 k) := by decide +kernel
abbrev cX10_thrown : ByteArray := prog_12_method_1_code
def yX10_thrown : MethodName := ⟨RX10, "thrown", "()I"⟩
abbrev cX10_fail : ByteArray := prog_12_method_2_code
def yX10_fail : MethodName := ⟨RX10, "fail", "(I)I"⟩
abbrev cX10_init : ByteArray := prog_12_method_3_code
def yX10_init : MethodName := ⟨RX10, "<init>", "(II)V"⟩
abbrev cX10_isPrime : ByteArray := prog_12_method_4_code
def yX10_isPrime : MethodName := ⟨RX10, "isPrime", "(I)Z"⟩
abbrev cX10_degreeOf : ByteArray := prog_12_method_5_code
def yX10_degreeOf : MethodName := ⟨RX10, "degreeOf", "(I)I"⟩
abbrev cX10_restOf : ByteArray := prog_12_method_6_code
def yX10_restOf : MethodName := ⟨RX10, "restOf", "(II)I"⟩
abbrev cX10_isMember : ByteArray := prog_12_method_7_code
def yX10_isMember : MethodName := ⟨RX10, "isMember", "(I)Z"⟩
abbrev cX10_mul : ByteArray := prog_12_method_8_code
def yX10_mul : MethodName := ⟨RX10, "mul", "(II)I"⟩
abbrev cX10_raised : ByteArray := prog_12_method_9_code
def yX10_raised : MethodName := ⟨RX10, "raised", "(II)I"⟩
abbrev cX10_inverse : ByteArray := prog_12_method_10_code
def yX10_inverse : MethodName := ⟨RX10, "inverse", "(I)I"⟩
abbrev cX10_factor : ByteArray := prog_12_method_11_code
def yX10_factor : MethodName := ⟨RX10, "factor", "(I)I"⟩
abbrev cX10_factors : ByteArray := prog_12_method_12_code
def yX10_factors : MethodName := ⟨RX10, "factors", "()I"⟩
abbrev cX10_orderOf : ByteArray := prog_12_method_13_code
def yX10_orderOf : MethodName := ⟨RX10, "orderOf", "(I)I"⟩
abbrev cX10_poly : ByteArray := prog_12_method_14_code
def yX10_poly : MethodName := ⟨RX10, "poly", "()I"⟩
abbrev cX10_generator : ByteArray := prog_12_method_15_code
def yX10_generator : MethodName := ⟨RX10, "generator", "()I"⟩
abbrev cX10_product : ByteArray := prog_12_method_16_code
def yX10_product : MethodName := ⟨RX10, "product", "(II)I"⟩
abbrev cX10_quotient : ByteArray := prog_12_method_17_code
def yX10_quotient : MethodName := ⟨RX10, "quotient", "(II)I"⟩
abbrev cX10_power : ByteArray := prog_12_method_18_code
def yX10_power : MethodName := ⟨RX10, "power", "(IJ)I"⟩
abbrev cX10_log : ByteArray := prog_12_method_19_code
def yX10_log : MethodName := ⟨RX10, "log", "(I)I"⟩
abbrev cX10_order : ByteArray := prog_12_method_20_code
def yX10_order : MethodName := ⟨RX10, "order", "(I)I"⟩
abbrev cX10_put : ByteArray := prog_12_method_21_code
def yX10_put : MethodName := ⟨RX10, "put", "(I)I"⟩
abbrev cX10_row : ByteArray := prog_12_method_22_code
def yX10_row : MethodName := ⟨RX10, "row", "(I)I"⟩
abbrev cX10_drop : ByteArray := prog_12_method_23_code
def yX10_drop : MethodName := ⟨RX10, "drop", "()I"⟩
abbrev cX10_hasAlike : ByteArray := prog_12_method_24_code
def yX10_hasAlike : MethodName := ⟨RX10, "hasAlike", "(II)Z"⟩
abbrev cX10_isSize : ByteArray := prog_12_method_25_code
def yX10_isSize : MethodName := ⟨RX10, "isSize", "(I)Z"⟩
abbrev cX10_isMatrix : ByteArray := prog_12_method_26_code
def yX10_isMatrix : MethodName := ⟨RX10, "isMatrix", "(I)Z"⟩
abbrev cX10_at : ByteArray := prog_12_method_27_code
def yX10_at : MethodName := ⟨RX10, "at", "(III)I"⟩
abbrev cX10_made : ByteArray := prog_12_method_28_code
def yX10_made : MethodName := ⟨RX10, "made", "(II)I"⟩
abbrev cX10_matrix : ByteArray := prog_12_method_29_code
def yX10_matrix : MethodName := ⟨RX10, "matrix", "(II)I"⟩
abbrev cX10_powers : ByteArray := prog_12_method_30_code
def yX10_powers : MethodName := ⟨RX10, "powers", "(II)I"⟩
abbrev cX10_sums : ByteArray := prog_12_method_31_code
def yX10_sums : MethodName := ⟨RX10, "sums", "(II)I"⟩
abbrev cX10_size : ByteArray := prog_12_method_32_code
def yX10_size : MethodName := ⟨RX10, "size", "(II)I"⟩
abbrev cX10_isCell : ByteArray := prog_12_method_33_code
def yX10_isCell : MethodName := ⟨RX10, "isCell", "(III)Z"⟩
abbrev cX10_cell : ByteArray := prog_12_method_34_code
def yX10_cell : MethodName := ⟨RX10, "cell", "(III)I"⟩
abbrev cX10_set : ByteArray := prog_12_method_35_code
def yX10_set : MethodName := ⟨RX10, "set", "(IIII)I"⟩
abbrev cX10_times : ByteArray := prog_12_method_36_code
def yX10_times : MethodName := ⟨RX10, "times", "(II)I"⟩
abbrev cX10_bitsOf : ByteArray := prog_12_method_37_code
def yX10_bitsOf : MethodName := ⟨RX10, "bitsOf", "(I)I"⟩
abbrev cX10_minors : ByteArray := prog_12_method_38_code
def yX10_minors : MethodName := ⟨RX10, "minors", "(I)V"⟩
abbrev cX10_singular : ByteArray := prog_12_method_39_code
def yX10_singular : MethodName := ⟨RX10, "singular", "(I)I"⟩
abbrev cX10_determinant : ByteArray := prog_12_method_40_code
def yX10_determinant : MethodName := ⟨RX10, "determinant", "(I)I"⟩
abbrev cX10_invert : ByteArray := prog_12_method_41_code
def yX10_invert : MethodName := ⟨RX10, "invert", "(I)I"⟩
abbrev cX10_rank : ByteArray := prog_12_method_42_code
def yX10_rank : MethodName := ⟨RX10, "rank", "(I)I"⟩
abbrev cX10_solve : ByteArray := prog_12_method_43_code
def yX10_solve : MethodName := ⟨RX10, "solve", "(I)I"⟩
abbrev cX10_isPolynomial : ByteArray := prog_12_method_44_code
def yX10_isPolynomial : MethodName := ⟨RX10, "isPolynomial", "(I)Z"⟩
abbrev cX10_high : ByteArray := prog_12_method_45_code
def yX10_high : MethodName := ⟨RX10, "high", "([I)I"⟩
abbrev cX10_nothing : ByteArray := prog_12_method_46_code
def yX10_nothing : MethodName := ⟨RX10, "nothing", "([I)V"⟩
abbrev cX10_copy : ByteArray := prog_12_method_47_code
def yX10_copy : MethodName := ⟨RX10, "copy", "([I[I)V"⟩
abbrev cX10_load : ByteArray := prog_12_method_48_code
def yX10_load : MethodName := ⟨RX10, "load", "([II)V"⟩
abbrev cX10_kept : ByteArray := prog_12_method_49_code
def yX10_kept : MethodName := ⟨RX10, "kept", "([I)I"⟩
abbrev cX10_at_ : ByteArray := prog_12_method_50_code
def yX10_at_ : MethodName := ⟨RX10, "at", "([II)I"⟩
abbrev cX10_polynomial : ByteArray := prog_12_method_51_code
def yX10_polynomial : MethodName := ⟨RX10, "polynomial", "()I"⟩
abbrev cX10_point : ByteArray := prog_12_method_52_code
def yX10_point : MethodName := ⟨RX10, "point", "(II)V"⟩
abbrev cX10_begin : ByteArray := prog_12_method_53_code
def yX10_begin : MethodName := ⟨RX10, "begin", "()V"⟩
abbrev cX10_through : ByteArray := prog_12_method_54_code
def yX10_through : MethodName := ⟨RX10, "through", "()I"⟩
abbrev cX10_degree : ByteArray := prog_12_method_55_code
def yX10_degree : MethodName := ⟨RX10, "degree", "(I)I"⟩
abbrev cX10_coefficient : ByteArray := prog_12_method_56_code
def yX10_coefficient : MethodName := ⟨RX10, "coefficient", "(II)I"⟩
abbrev cX10_value : ByteArray := prog_12_method_57_code
def yX10_value : MethodName := ⟨RX10, "value", "(II)I"⟩
abbrev cX10_plus : ByteArray := prog_12_method_58_code
def yX10_plus : MethodName := ⟨RX10, "plus", "(II)I"⟩
abbrev cX10_multiply : ByteArray := prog_12_method_59_code
def yX10_multiply : MethodName := ⟨RX10, "multiply", "(II)I"⟩
abbrev cX10_split : ByteArray := prog_12_method_60_code
def yX10_split : MethodName := ⟨RX10, "split", "([I[I)V"⟩
abbrev cX10_divide : ByteArray := prog_12_method_61_code
def yX10_divide : MethodName := ⟨RX10, "divide", "(IIZ)I"⟩
abbrev cX10_divisor : ByteArray := prog_12_method_62_code
def yX10_divisor : MethodName := ⟨RX10, "divisor", "([I[I)V"⟩
abbrev cX10_common : ByteArray := prog_12_method_63_code
def yX10_common : MethodName := ⟨RX10, "common", "(II)I"⟩
abbrev cX10_root : ByteArray := prog_12_method_64_code
def yX10_root : MethodName := ⟨RX10, "root", "(II)I"⟩
abbrev cX10_often : ByteArray := prog_12_method_65_code
def yX10_often : MethodName := ⟨RX10, "often", "(II)I"⟩
abbrev cX10_square : ByteArray := prog_12_method_66_code
def yX10_square : MethodName := ⟨RX10, "square", "([I)V"⟩
abbrev cX10_lookAtParts : ByteArray := prog_12_method_67_code
def yX10_lookAtParts : MethodName := ⟨RX10, "lookAtParts", "(I)V"⟩
abbrev cX10_parts : ByteArray := prog_12_method_68_code
def yX10_parts : MethodName := ⟨RX10, "parts", "(II)I"⟩
abbrev cX10_span : ByteArray := prog_12_method_69_code
def yX10_span : MethodName := ⟨RX10, "span", "()I"⟩
abbrev cX10_forth : ByteArray := prog_12_method_70_code
def yX10_forth : MethodName := ⟨RX10, "forth", "(I)I"⟩
abbrev cX10_back : ByteArray := prog_12_method_71_code
def yX10_back : MethodName := ⟨RX10, "back", "()I"⟩
abbrev cX10_told : ByteArray := prog_12_method_72_code
def yX10_told : MethodName := ⟨RX10, "told", "(I)I"⟩
def RJx00060 : String := "java/lang/ArrayIndexOutOfBoundsException"
def TJx00060 : u_T := fun k => match k with
  | 0 => ("java/lang/Throwable", "backtrace", "Ljava/lang/Object;", false)
  | 1 => ("java/lang/Throwable", "detailMessage", "Ljava/lang/String;", false)
  | 2 => ("java/lang/Throwable", "cause", "Ljava/lang/Throwable;", false)
  | 3 => ("java/lang/Throwable", "stackTrace", "[Ljava/lang/StackTraceElement;", false)
  | 4 => ("java/lang/Throwable", "depth", "I", false)
  | _ => ("java/lang/Throwable", "suppressedExceptions", "Ljava/util/List;", false)
def tyJx00060 : Nat → FieldType := fun k => match k with
  | 0 => .object "java/lang/Object"
  | 1 => .object "java/lang/String"
  | 2 => .object "java/lang/Throwable"
  | 3 => .array (.object "java/lang/StackTraceElement")
  | 4 => .int
  | _ => .object "java/util/List"
abbrev wsJx000600 : List Cond := u_ws RJx00060 TJx00060 6
theorem nmJx00060 : ∀ a, a < 6 → ∀ b, b < 6 → a ≠ b → (TJx00060 a).2.1 ≠ (TJx00060 b).2.1 := by decide +kernel
theorem tyJx00060_ok : ∀ k, k < 6 → parseFieldDescriptor (TJx00060 k).2.2.1 = some (tyJx00060 k) := by decide +kernel
abbrev cJx00060_init_a7421 : ByteArray := prog_14_method_2_code
def yJx00060_init_a7421 : MethodName := ⟨RJx00060, "<init>", "(Ljava/lang/String;)V"⟩
def RJ6 : String := "java/lang/Integer"
def TJ6 : u_T := fun k => match k with
  | _ => ("", "", "", false)
def tyJ6 : Nat → FieldType := fun k => match k with
  | _ => .int
abbrev wsJ60 : List Cond := u_ws RJ6 TJ6 0
theorem nmJ6 : ∀ a, a < 0 → ∀ b, b < 0 → a ≠ b → (TJ6 a).2.1 ≠ (TJ6 b).2.1 := by decide +kernel
theorem tyJ6_ok : ∀ k, k < 0 → parseFieldDescriptor (TJ6 k).2.2.1 = some (tyJ6 k) := by decide +kernel
abbrev cJ6_numberOfLeadingZeros_0f7a4 : ByteArray := prog_19_method_47_code
def yJ6_numberOfLeadingZeros_0f7a4 : MethodName := ⟨RJ6, "numberOfLeadingZeros", "(I)I"⟩
abbrev cJ6_numberOfTrailingZeros_0f7a4 : ByteArray := prog_19_method_48_code
def yJ6_numberOfTrailingZeros_0f7a4 : MethodName := ⟨RJ6, "numberOfTrailingZeros", "(I)I"⟩
abbrev cJ6_bitCount_0f7a4 : ByteArray := prog_19_method_49_code
def yJ6_bitCount_0f7a4 : MethodName := ⟨RJ6, "bitCount", "(I)I"⟩
def RJ9 : String := "java/lang/Math"
def TJ9 : u_T := fun k => match k with
  | _ => ("", "", "", false)
def tyJ9 : Nat → FieldType := fun k => match k with
  | _ => .int
abbrev wsJ90 : List Cond := u_ws RJ9 TJ9 0
theorem nmJ9 : ∀ a, a < 0 → ∀ b, b < 0 → a ≠ b → (TJ9 a).2.1 ≠ (TJ9 b).2.1 := by decide +kernel
theorem tyJ9_ok : ∀ k, k < 0 → parseFieldDescriptor (TJ9 k).2.2.1 = some (tyJ9 k) := by decide +kernel
abbrev cJ9_max_7cf53 : ByteArray := prog_20_method_65_code
def yJ9_max_7cf53 : MethodName := ⟨RJ9, "max", "(II)I"⟩
def RJ0 : String := "java/lang/String"
def TJ0 : u_T := fun k => match k with
  | 0 => ("java/lang/String", "value", "[B", true)
  | _ => ("java/lang/String", "coder", "B", true)
def tyJ0 : Nat → FieldType := fun k => match k with
  | 0 => .array .byte
  | _ => .byte
abbrev wsJ00 : List Cond := u_ws RJ0 TJ0 2
theorem nmJ0 : ∀ a, a < 2 → ∀ b, b < 2 → a ≠ b → (TJ0 a).2.1 ≠ (TJ0 b).2.1 := by decide +kernel
theorem tyJ0_ok : ∀ k, k < 2 → parseFieldDescriptor (TJ0 k).2.2.1 = some (tyJ0 k) := by decide +kernel
def RJ10 : String := "java/lang/System"
def TJ10 : u_T := fun k => match k with
  | _ => ("", "", "", false)
def tyJ10 : Nat → FieldType := fun k => match k with
  | _ => .int
abbrev wsJ100 : List Cond := u_ws RJ10 TJ10 0
theorem nmJ10 : ∀ a, a < 0 → ∀ b, b < 0 → a ≠ b → (TJ10 a).2.1 ≠ (TJ10 b).2.1 := by decide +kernel
theorem tyJ10_ok : ∀ k, k < 0 → parseFieldDescriptor (TJ10 k).2.2.1 = some (tyJ10 k) := by decide +kernel
def RL : String := "ByteFieldsLaw"
abbrev cL_cell : ByteArray := method_2_code
def yL_cell : MethodName := ⟨RL, "cell", "([II)I"⟩
abbrev cL_product : ByteArray := method_3_code
def yL_product : MethodName := ⟨RL, "product", "(LByteFields;II[J)I"⟩
abbrev cL_quotient : ByteArray := method_4_code
def yL_quotient : MethodName := ⟨RL, "quotient", "(LByteFields;II[J)I"⟩
abbrev cL_power : ByteArray := method_5_code
def yL_power : MethodName := ⟨RL, "power", "(LByteFields;IJ[J)I"⟩
abbrev cL_log : ByteArray := method_6_code
def yL_log : MethodName := ⟨RL, "log", "(LByteFields;I[J)I"⟩
abbrev cL_order : ByteArray := method_7_code
def yL_order : MethodName := ⟨RL, "order", "(LByteFields;I[J)I"⟩
abbrev cL_put : ByteArray := method_8_code
def yL_put : MethodName := ⟨RL, "put", "(LByteFields;I[J)I"⟩
abbrev cL_row : ByteArray := method_9_code
def yL_row : MethodName := ⟨RL, "row", "(LByteFields;I[J)I"⟩
abbrev cL_matrix : ByteArray := method_10_code
def yL_matrix : MethodName := ⟨RL, "matrix", "(LByteFields;II[J)I"⟩
abbrev cL_powers : ByteArray := method_11_code
def yL_powers : MethodName := ⟨RL, "powers", "(LByteFields;II[J)I"⟩
abbrev cL_sums : ByteArray := method_12_code
def yL_sums : MethodName := ⟨RL, "sums", "(LByteFields;II[J)I"⟩
abbrev cL_size : ByteArray := method_13_code
def yL_size : MethodName := ⟨RL, "size", "(LByteFields;II[J)I"⟩
abbrev cL_cell_ : ByteArray := method_14_code
def yL_cell_ : MethodName := ⟨RL, "cell", "(LByteFields;III[J)I"⟩
abbrev cL_set : ByteArray := method_15_code
def yL_set : MethodName := ⟨RL, "set", "(LByteFields;IIII[J)I"⟩
abbrev cL_times : ByteArray := method_16_code
def yL_times : MethodName := ⟨RL, "times", "(LByteFields;II[J)I"⟩
abbrev cL_invert : ByteArray := method_17_code
def yL_invert : MethodName := ⟨RL, "invert", "(LByteFields;I[J)I"⟩
abbrev cL_rank : ByteArray := method_18_code
def yL_rank : MethodName := ⟨RL, "rank", "(LByteFields;I[J)I"⟩
abbrev cL_determinant : ByteArray := method_19_code
def yL_determinant : MethodName := ⟨RL, "determinant", "(LByteFields;I[J)I"⟩
abbrev cL_singular : ByteArray := method_20_code
def yL_singular : MethodName := ⟨RL, "singular", "(LByteFields;I[J)I"⟩
abbrev cL_solve : ByteArray := method_21_code
def yL_solve : MethodName := ⟨RL, "solve", "(LByteFields;I[J)I"⟩
abbrev cL_polynomial : ByteArray := method_22_code
def yL_polynomial : MethodName := ⟨RL, "polynomial", "(LByteFields;[J)I"⟩
abbrev cL_through : ByteArray := method_23_code
def yL_through : MethodName := ⟨RL, "through", "(LByteFields;[J)I"⟩
abbrev cL_degree : ByteArray := method_24_code
def yL_degree : MethodName := ⟨RL, "degree", "(LByteFields;I[J)I"⟩
abbrev cL_coefficient : ByteArray := method_25_code
def yL_coefficient : MethodName := ⟨RL, "coefficient", "(LByteFields;II[J)I"⟩
abbrev cL_value : ByteArray := method_26_code
def yL_value : MethodName := ⟨RL, "value", "(LByteFields;II[J)I"⟩
abbrev cL_plus : ByteArray := method_27_code
def yL_plus : MethodName := ⟨RL, "plus", "(LByteFields;II[J)I"⟩
abbrev cL_multiply : ByteArray := method_28_code
def yL_multiply : MethodName := ⟨RL, "multiply", "(LByteFields;II[J)I"⟩
abbrev cL_divide : ByteArray := method_29_code
def yL_divide : MethodName := ⟨RL, "divide", "(LByteFields;IIZ[J)I"⟩
abbrev cL_common : ByteArray := method_30_code
def yL_common : MethodName := ⟨RL, "common", "(LByteFields;II[J)I"⟩
abbrev cL_root : ByteArray := method_31_code
def yL_root : MethodName := ⟨RL, "root", "(LByteFields;II[J)I"⟩
abbrev cL_often : ByteArray := method_32_code
def yL_often : MethodName := ⟨RL, "often", "(LByteFields;II[J)I"⟩
abbrev cL_parts : ByteArray := method_33_code
def yL_parts : MethodName := ⟨RL, "parts", "(LByteFields;II[J)I"⟩
abbrev cL_span : ByteArray := method_34_code
def yL_span : MethodName := ⟨RL, "span", "(LByteFields;[J)I"⟩
abbrev cL_forth : ByteArray := method_35_code
def yL_forth : MethodName := ⟨RL, "forth", "(LByteFields;I[J)I"⟩
abbrev cL_back : ByteArray := method_36_code
def yL_back : MethodName := ⟨RL, "back", "(LByteFields;[J)I"⟩
abbrev cL_told : ByteArray := method_37_code
def yL_told : MethodName := ⟨RL, "told", "(LByteFields;I[J)I"⟩
abbrev cL_law : ByteArray := code
def yL_law : MethodName := ⟨RL, "law", "([I)Z"⟩
abbrev vwCl : List vw_C := [(RJ0, TJ0, 2), (RJx00060, TJx00060, 6), (RX0, TX0, 1), (RX1, TX1, 7), (RX2, TX2, 6), (RX3, TX3, 6), (RX4, TX4, 3), (RX5, TX5, 3), (RX6, TX6, 2), (RX7, TX7, 3), (RX8, TX8, 7), (RX9, TX9, 17), (RX10, TX10, 30)]
end
section
/-! THE CORE: one judgement over an abstract heap, for every method of class, reference and law -/
/-- the abstract heap: its size, and the cells that are known -/
abbrev bw_H : Type := Nat × (Nat → Option va_E)
def bw_up (A : bw_H) (a : Nat) (e : va_E) : bw_H := (A.1, fun b => if b = a then some e else A.2 b)
def bw_nw (A : bw_H) (e : va_E) : bw_H := (A.1 + 1, fun b => if b = A.1 then some e else A.2 b)
/-- what is fixed over a run: class numbers and slots, array classes, the heap at the law's entry, where PRIMES lies, where the script lies, its length and ints -/
abbrev bw_G : Type := va_G × (Nat → ClassId) × Heap × Nat × Nat × Nat × (Nat → Int32)
def bw_lo (g : bw_G) : Nat := g.2.2.1.size
def bw_ty (c : Nat → ClassId) : List (ClassId × FieldType) := [(c 0, .int), (c 1, .long), (c 2, .array .int), (c 3, .object "ByteFields$Matrix"), (c 4, .object "ByteFields$Polynomial")]
def bw_fr (g : bw_G) : Nat → Prop := fun q => bw_lo g ≤ q
/-- the words that every method has: all good ones of the tables -/
def bw_uw : List Cond := lw_tbl.filter goodWord
theorem bw_uwg {w : Cond} (h : w ∈ bw_uw) : goodWord w = true := (List.mem_filter.mp h).2
theorem bw_uwi {w : Cond} (h : w ∈ bw_uw) : w ∈ lw_tbl := (List.mem_filter.mp h).1
def bw_pr (j : Nat) : Int32 := if j = 0 then 3 else if j = 1 then 5 else if j = 2 then 17 else 257
/-- texts of the class: own class, entry, text -/
abbrev bw_S : Type := String × Nat × String
def bw_ss : List bw_S := [("ByteFields", 345, "no member"), ("ByteFields", 109, "a quotient by 0"), ("ByteFields", 117, "a power of 0 below 0"), ("ByteFields", 125, "0 has no log"), ("ByteFields", 140, "the row is full"), ("ByteFields", 145, "a place below 0"), ("ByteFields", 347, "a matrix has 1 to 8 rows and columns"), ("ByteFields", 351, "a matrix too many"), ("ByteFields", 165, "the row must have one member for each row, none alike"), ("ByteFields", 171, "the row must have one member for each row and column, none alike"), ("ByteFields", 357, "no such matrix"), ("ByteFields", 182, "0 asks for the rows, 1 for the columns"), ("ByteFields", 359, "no such row or column"), ("ByteFields", 195, "the sides do not fit"), ("ByteFields", 349, "the matrix is not square"), ("ByteFields", 223, "the row must have one member for each row of the matrix"), ("ByteFields", 235, "the degree is too high"), ("ByteFields", 353, "a polynomial too many"), ("ByteFields", 247, "the row must have pairs, no two of one x"), ("ByteFields", 361, "no such polynomial"), ("ByteFields", 264, "a power below 0"), ("ByteFields", 287, "a quotient by the polynomial 0"), ("ByteFields", 299, "a root below 0"), ("ByteFields", 311, "no degree of a part"), ("ByteFields", 324, "the row must have at most 6, none an xor of those ahead"), ("ByteFields", 355, "there is no span yet"), ("ByteFields", 335, "the row must have one member for each of the span"), ("ByteFields", 343, "nothing that is told")]
/-- what may be caught as what, and what not -/
def bw_ca : List (String × String) := [("java/lang/IllegalArgumentException", "java/lang/IllegalArgumentException"), ("java/lang/IllegalStateException", "java/lang/IllegalStateException"), ("java/lang/IndexOutOfBoundsException", "java/lang/IndexOutOfBoundsException"), ("java/lang/ArithmeticException", "java/lang/ArithmeticException"), ("java/lang/UnsupportedOperationException", "java/lang/UnsupportedOperationException"), ("java/lang/ArrayIndexOutOfBoundsException", "java/lang/ArrayIndexOutOfBoundsException"), ("java/lang/ArrayIndexOutOfBoundsException", "java/lang/IndexOutOfBoundsException")]
def bw_nc : List (String × String) := [("java/lang/IllegalArgumentException", "java/lang/IllegalStateException"), ("java/lang/IllegalArgumentException", "java/lang/IndexOutOfBoundsException"), ("java/lang/IllegalArgumentException", "java/lang/ArithmeticException"), ("java/lang/IllegalArgumentException", "java/lang/UnsupportedOperationException"), ("java/lang/IllegalArgumentException", "java/lang/ArrayIndexOutOfBoundsException"), ("java/lang/IllegalStateException", "java/lang/IllegalArgumentException"), ("java/lang/IllegalStateException", "java/lang/IndexOutOfBoundsException"), ("java/lang/IllegalStateException", "java/lang/ArithmeticException"), ("java/lang/IllegalStateException", "java/lang/UnsupportedOperationException"), ("java/lang/IllegalStateException", "java/lang/ArrayIndexOutOfBoundsException"), ("java/lang/IndexOutOfBoundsException", "java/lang/IllegalArgumentException"), ("java/lang/IndexOutOfBoundsException", "java/lang/IllegalStateException"), ("java/lang/IndexOutOfBoundsException", "java/lang/ArithmeticException"), ("java/lang/IndexOutOfBoundsException", "java/lang/UnsupportedOperationException"), ("java/lang/IndexOutOfBoundsException", "java/lang/ArrayIndexOutOfBoundsException"), ("java/lang/ArithmeticException", "java/lang/IllegalArgumentException"), ("java/lang/ArithmeticException", "java/lang/IllegalStateException"), ("java/lang/ArithmeticException", "java/lang/IndexOutOfBoundsException"), ("java/lang/ArithmeticException", "java/lang/UnsupportedOperationException"), ("java/lang/ArithmeticException", "java/lang/ArrayIndexOutOfBoundsException"), ("java/lang/UnsupportedOperationException", "java/lang/IllegalArgumentException"), ("java/lang/UnsupportedOperationException", "java/lang/IllegalStateException"), ("java/lang/UnsupportedOperationException", "java/lang/IndexOutOfBoundsException"), ("java/lang/UnsupportedOperationException", "java/lang/ArithmeticException"), ("java/lang/UnsupportedOperationException", "java/lang/ArrayIndexOutOfBoundsException"), ("java/lang/ArrayIndexOutOfBoundsException", "java/lang/IllegalArgumentException"), ("java/lang/ArrayIndexOutOfBoundsException", "java/lang/IllegalStateException"), ("java/lang/ArrayIndexOutOfBoundsException", "java/lang/ArithmeticException"), ("java/lang/ArrayIndexOutOfBoundsException", "java/lang/UnsupportedOperationException")]
/-- the static facts, at the tables of U -/
def bw_gl (g : bw_G) (U : State) : Prop :=
  va_K g.1 vwCl (bw_ty g.2.1) U ∧
  (va_Z "ByteFields$Field" "PRIMES" "[I" (.ref g.2.2.2.1) (bw_fr g) U g.2.2.1 ∧ va_T .int g.2.2.2.1 4 (fun j => .int (bw_pr j)) (bw_fr g) U g.2.2.1) ∧
  (vx_Zq Bundle.tN "UNASSIGNED_STACK" Bundle.steD (bw_fr g) U g.2.2.1 ∧ vx_Zq Bundle.tN "SUPPRESSED_SENTINEL" Bundle.listD (bw_fr g) U g.2.2.1) ∧
  (∀ x ∈ bw_ss, ∃ sa : Nat, vk_R x.1 x.2.1 x.2.2 sa U) ∧
  (∀ x ∈ bw_ca, (Cond.castable x.1 x.2).before #[] U = true) ∧ (∀ x ∈ bw_nc, va_Nc x.1 x.2 U) ∧ va_AO "ByteFields$Matrix" U ∧ va_AO "ByteFields$Polynomial" U ∧ (Cond.arrayOver (.array .int)).before #[] U = true ∧ va_X g.2.2.2.2.1 g.2.2.2.2.2.1 g.2.2.2.2.2.2 U g.2.2.1 ∧ g.2.2.2.2.1 < g.2.2.1.size
theorem bw_AA.moved {u U : State} (hvm : u.vm.Alike U.vm) (h : (Cond.arrayOver (.array .int)).before #[] u = true) : (Cond.arrayOver (.array .int)).before #[] U = true := by
  obtain ⟨comp, c, k, h1, h2, h3, h4, h5⟩ := arrayOverA_spec h
  obtain ⟨k', hk', he⟩ := hvm.2.2 _ _ h3
  have hi : (U.vm.classes.findIdx? fun (x : Class) => match x.kind with | .array component _ => component == comp | _ => false) = some c := by
    rw [hvm.findIdx?_eq _ (fun _ => rfl)]
    exact h2
  have hkind : k'.kind = .array comp (.array .int) := by rw [he]; exact h4
  have f1 : U.vm.findClass (FieldType.array .int).toString = some comp := by rw [hvm.findClass]; exact h1
  have f2 : U.vm.findClass ("[" ++ (FieldType.array .int).toString) = some c := by rw [hvm.findClass]; exact h5
  unfold Cond.before Cond.holds
  simp only [Cond.value]
  rw [f1, Option.bind_some]
  refine (congrArg (fun o : Option Nat => (o.bind (fun c => (U.vm.classes[c]?).map fun (k : Class) => match k.kind with | .array _ ty => decide (ty = FieldType.array .int) && decide (U.vm.findClass ("[" ++ (FieldType.array .int).toString) = some c) | _ => false) == some true)) hi).trans ?_
  simp [hk', hkind, f2]
theorem bw_cas.moved {u U : State} {a b : String} (hvm : u.vm.Alike U.vm) (h : (Cond.castable a b).before #[] u = true) : (Cond.castable a b).before #[] U = true := by
  have h1 := Cond.castable_setVm (args := #[]) hvm a b
  rw [h] at h1
  have h2 := Cond.onTables_vm (A := #[]) (A' := #[]) (U := u) (U' := U) U.vm (.castable a b) rfl
  rw [h1] at h2
  rw [State.setVm_self] at h2
  exact h2.symm
theorem bw_gl.warm {g : bw_G} {s U : State} (hW : s.WarmedH U.vm) (h : bw_gl g s) : bw_gl g U := by
  obtain ⟨h1, ⟨h2, h3⟩, ⟨h4, h5⟩, h6, h7, h8, h9, h10, h11, h12, h13⟩ := h
  refine ⟨va_K.moved hW.alike h1, ⟨va_Z.moved hW.alike h2, va_T.moved hW.alike h3⟩, ⟨vx_Zq.moved hW.alike h4, vx_Zq.moved hW.alike h5⟩, fun x hx => ?_, fun x hx => bw_cas.moved hW.alike (h7 x hx), fun x hx => va_Nc.moved hW.alike (h8 x hx), va_AO.moved hW.alike h9, va_AO.moved hW.alike h10, bw_AA.moved hW.alike h11, va_X.moved hW.alike h12, h13⟩
  obtain ⟨sa, h⟩ := h6 x hx
  exact ⟨sa, vk_R.warm hW h⟩
theorem bw_gl.same {g : bw_G} {s U : State} (hv : U.vm = s.vm) (h : bw_gl g s) : bw_gl g U := bw_gl.warm (by rw [hv]; exact State.WarmedH.refl s) h
/-- the heap H is as A says -/
def bw_R (g : bw_G) (A : bw_H) (H : Heap) : Prop :=
  H.size = A.1 ∧ bw_lo g ≤ A.1 ∧ (∀ q : Nat, q < bw_lo g → H[q]? = g.2.2.1[q]?) ∧ ∀ (a : Nat) (e : va_E), A.2 a = some e → bw_lo g ≤ a ∧ va_at g.1 vwCl (a, e) H
/-- name, bytes, locals, answer, table of handlers -/
abbrev bw_M : Type := MethodName × ByteArray × Nat × Option FieldType × List (Nat × Nat × Nat × Nat)
abbrev bw_O : Type := Option Value ⊕ String
def bw_q (g : bw_G) (Q : bw_O → bw_H → Prop) : Array Value → State → Outcome → State → Prop := fun _ _ o t => ∃ (v : Option Value) (A : bw_H), o = .returned v ∧ bw_R g A t.heap ∧ Q (.inl v) A
def bw_x (g : bw_G) (Q : bw_O → bw_H → Prop) : String → State → State → Prop := fun E _ t => ∃ A : bw_H, bw_R g A t.heap ∧ Q (.inr E) A
/-- what a walk of the method k stands on -/
def bw_X (g : bw_G) (k : bw_M) (p : Program) (l : Launch) (s : State) (m : MethodId) (args : Array Value) (meth : Method) (c : Code) : Prop :=
  p.tables.exec = Jvm.exec ∧ c.code = k.2.1 ∧ c.maxLocals = k.2.2.1 ∧ meth.sig.returnType = k.2.2.2.1 ∧ s.vm.findClass k.1.cls = some m.cls ∧ (∀ w ∈ bw_uw, w.before args s = true) ∧ meth.locks = false ∧ meth.name = k.1.name ∧
  c.exceptionTable.toList = tableOf k.2.2.2.2 ∧ l.stackTraces = false ∧ bw_gl g s ∧ (bw_lo g ≤ s.heap.size ∧ ∀ q : Nat, q < bw_lo g → s.heap[q]? = g.2.2.1[q]?)
/-- THE JUDGEMENT: method k, at pc, locals lv, operands st, heap A, comes to an end with Q; cu cells and su slots are made so far -/
def bw_W (g : bw_G) (R : Room) (k : bw_M) (Q : bw_O → bw_H → Prop) (cu su pc : Nat) (lv : List (Nat × Value)) (st : List Value) (A : bw_H) : Prop :=
  ∀ (p : Program) (l : Launch) (e : Env) (s : State) (m : MethodId) (args : Array Value) (below : List Frame) (meth : Method) (c : Code) (H : Heap) (locs : List Loc) (ls : Array Slot),
    bw_X g k p l s m args meth c → bw_R g A H → s.heap.size ≤ H.size → (∀ z ∈ locs, bw_lo g ≤ z.base) → lv_has ls k.2.2.1 lv →
    W p l e R s m args below meth c H locs cu su (vx_MQ below (bw_q g Q) (bw_x g Q) args s R.cells R.slots (bw_fr g)) (F0 m pc ls st)
/-- A CONTRACT: method k from arguments av and heap A ends with Q, in the room R -/
def bw_C (g : bw_G) (R : Room) (k : bw_M) (av : List Value) (A : bw_H) (Q : bw_O → bw_H → Prop) : Prop :=
  ∀ l : Launch, l.stackTraces = false → vx_Met l k.1 (.code k.1 k.2.1 k.2.2.1 k.2.2.2.1 :: bw_uw) R (va_Pc av (fun U => bw_gl g U ∧ bw_R g A U.heap)) (bw_q g Q) (bw_x g Q) R.cells R.slots (bw_fr g)
/-- the same of a method with a table of handlers -/
def bw_CH (g : bw_G) (R : Room) (k : bw_M) (av : List Value) (A : bw_H) (Q : bw_O → bw_H → Prop) : Prop :=
  ∀ l : Launch, l.stackTraces = false → vx_Met l k.1 (.codeWith k.1 k.2.1 k.2.2.1 k.2.2.2.1 k.2.2.2.2 :: bw_uw) R (va_Pc av (fun U => bw_gl g U ∧ bw_R g A U.heap)) (bw_q g Q) (bw_x g Q) R.cells R.slots (bw_fr g)
section BWC
variable {g : bw_G} {R : Room} {k : bw_M} {Q : bw_O → bw_H → Prop} {A : bw_H} {av : List Value}
theorem bw_C.of (hy : plainName k.1.cls = true) (hn : (lg_sl av).length ≤ k.2.2.1) (ht : k.2.2.2.2 = []) (body : bw_W g R k Q 0 0 0 (lv_args 0 av) [] A) : bw_C g R k av A Q := by
  intro l htr
  refine vx_ofW hy rfl ?_
  intro p e s m args below meth c s₁ B hml hnt hP
  obtain ⟨rfl, hgl, hR⟩ := hP
  have hts := atoms_spec (ws := .code k.1 k.2.1 k.2.2.1 k.2.2.2.1 :: bw_uw) B.pre
  rw [lg_entry_eq]
  refine body p l e s m _ below meth c s.heap [] _ ⟨B.exec, B.bytes, hml, B.returns, findClass_of_methodNamed B.named, fun w h => hts w (List.mem_cons_of_mem _ h), B.notSynchronized, (name_of_methodNamed B.named B.method).1, ?_, htr, hgl, ⟨by rw [hR.1]; exact hR.2.1, hR.2.2.1⟩⟩ hR (Nat.le_refl _) (fun z h => by cases h) (lv_entry av hn)
  rw [ht]
  have : c.exceptionTable.toList = [] := List.eq_nil_iff_forall_not_mem.mpr fun x hx => hnt x hx
  rw [this]
  rfl
theorem bw_CH.of (hy : plainName k.1.cls = true) (hn : (lg_sl av).length ≤ k.2.2.1) (body : bw_W g R k Q 0 0 0 (lv_args 0 av) [] A) : bw_CH g R k av A Q := by
  intro l htr
  refine vx_ofWH hy rfl ?_
  intro p e s m args below meth c s₁ B hml hP
  obtain ⟨rfl, hgl, hR⟩ := hP
  have hts := atoms_spec (ws := .codeWith k.1 k.2.1 k.2.2.1 k.2.2.2.1 k.2.2.2.2 :: bw_uw) B.pre
  rw [lg_entry_eq]
  exact body p l e s m _ below meth c s.heap [] _ ⟨B.exec, B.bytes, hml, B.returns, findClass_of_methodNamed B.named, fun w h => hts w (List.mem_cons_of_mem _ h), B.notSynchronized, (name_of_methodNamed B.named B.method).1, vx_table (x := k.1) B (hts _ List.mem_cons_self), htr, hgl, ⟨by rw [hR.1]; exact hR.2.1, hR.2.2.1⟩⟩ hR (Nat.le_refl _) (fun z h => by cases h) (lv_entry av hn)
end BWC
/-! locals -/
def bw_lk : List (Nat × Value) → Nat → Option Value
  | [], _ => none
  | (j, v) :: r, i => if j = i then some v else bw_lk r i
theorem bw_lk_mem : ∀ {lv : List (Nat × Value)} {i : Nat} {v : Value}, bw_lk lv i = some v → (i, v) ∈ lv
  | [], _, _, h => by cases h
  | (j, w) :: r, i, v, h => by
    unfold bw_lk at h
    split at h
    · rename_i e
      cases h
      rw [e]
      exact List.mem_cons_self
    · exact List.mem_cons_of_mem _ (bw_lk_mem h)
theorem bw_lk_at {ls : Array Slot} {n : Nat} {lv : List (Nat × Value)} (hv : lv_has ls n lv) {i : Nat} {v : Value} (h : bw_lk lv i = some v) : ls[i]? = some (.val v) := hv.2.2 (i, v) (bw_lk_mem h)
abbrev bw_st (lv : List (Nat × Value)) (i : Nat) (v : Value) : List (Nat × Value) := (i, v) :: lv.filter (fun q => !(q.1 == i) && !(q.1 + 1 == i && q.2.category == 2))
abbrev bw_st2 (lv : List (Nat × Value)) (i : Nat) (v : Value) : List (Nat × Value) := (i, v) :: lv.filter (fun q => !(q.1 == i) && (!(q.1 == i + 1) && !(q.1 + 1 == i && q.2.category == 2)))
/-- fewer locals are told -/
def bw_sub (lv : List (Nat × Value)) : List (Nat × Value) → Prop
  | [] => True
  | (i, v) :: r => bw_lk lv i = some v ∧ bw_sub lv r
theorem bw_sub.mem {lv : List (Nat × Value)} : ∀ {r : List (Nat × Value)}, bw_sub lv r → ∀ q ∈ r, q ∈ lv
  | [], _, q, h => by cases h
  | (i, v) :: r, hs, q, h => by
    rcases List.mem_cons.mp h with e | h
    · rw [e]; exact bw_lk_mem hs.1
    · exact bw_sub.mem hs.2 q h

section BWR
variable {g : bw_G} {R : Room} {k : bw_M} {Q : bw_O → bw_H → Prop} {cu su pc : Nat} {lv : List (Nat × Value)} {st : List Value} {A : bw_H}
set_option linter.unusedVariables false

theorem bw_iconst {n : Int} (v : Int32) (pc' : Nat) (hd : decode k.2.1 pc = .ok (.iconst n, 1)) (hv0 : Int32.ofInt n = v) (hp : pc + 1 = pc') (kk : bw_W g R k Q cu su pc' lv (.int v :: st) A) : bw_W g R k Q cu su pc lv (st) A := by
  intro p l e s m args below meth c H locs ls hX hR hs hl hv
  subst hp
  exact lv_iconst hX.1 hX.2.1 hd hv0 (kk p l e s m args below meth c H locs ls hX hR hs hl hv)

theorem bw_bipush {n : Int} (v : Int32) (pc' : Nat) (hd : decode k.2.1 pc = .ok (.bipush n, 2)) (hv0 : (Int8.ofInt n).toInt32 = v) (hp : pc + 2 = pc') (kk : bw_W g R k Q cu su pc' lv (.int v :: st) A) : bw_W g R k Q cu su pc lv (st) A := by
  intro p l e s m args below meth c H locs ls hX hR hs hl hv
  subst hp
  exact lv_bipush hX.1 hX.2.1 hd hv0 (kk p l e s m args below meth c H locs ls hX hR hs hl hv)

theorem bw_sipush {n : Int} (v : Int32) (pc' : Nat) (hd : decode k.2.1 pc = .ok (.sipush n, 3)) (hv0 : (Int16.ofInt n).toInt32 = v) (hp : pc + 3 = pc') (kk : bw_W g R k Q cu su pc' lv (.int v :: st) A) : bw_W g R k Q cu su pc lv (st) A := by
  intro p l e s m args below meth c H locs ls hX hR hs hl hv
  subst hp
  exact lv_sipush hX.1 hX.2.1 hd hv0 (kk p l e s m args below meth c H locs ls hX hR hs hl hv)

theorem bw_lconst {n : Fin 2} (v : Int64) (pc' : Nat) (hd : decode k.2.1 pc = .ok (.lconst n, 1)) (hv0 : Int64.ofNat (n : Nat) = v) (hp : pc + 1 = pc') (kk : bw_W g R k Q cu su pc' lv (.long v :: st) A) : bw_W g R k Q cu su pc lv (st) A := by
  intro p l e s m args below meth c H locs ls hX hR hs hl hv
  subst hp
  exact lv_lconst hX.1 hX.2.1 hd hv0 (kk p l e s m args below meth c H locs ls hX hR hs hl hv)

theorem bw_null  (pc' : Nat) (hd : decode k.2.1 pc = .ok (.aconst_null, 1)) (hp : pc + 1 = pc') (kk : bw_W g R k Q cu su pc' lv (.null :: st) A) : bw_W g R k Q cu su pc lv (st) A := by
  intro p l e s m args below meth c H locs ls hX hR hs hl hv
  subst hp
  exact lv_null hX.1 hX.2.1 hd (kk p l e s m args below meth c H locs ls hX hR hs hl hv)

theorem bw_ldc {i : Nat} {v : Int32} (pc' : Nat) (hd : decode k.2.1 pc = .ok (.ldc i, 2)) (hc : Cond.constant k.1.cls i v ∈ bw_uw) (hp : pc + 2 = pc') (kk : bw_W g R k Q cu su pc' lv (.int v :: st) A) : bw_W g R k Q cu su pc lv (st) A := by
  intro p l e s m args below meth c H locs ls hX hR hs hl hv
  subst hp
  exact lv_ldc hX.1 hX.2.1 hX.2.2.2.2.1 (hX.2.2.2.2.2.1 _ hc) hd (kk p l e s m args below meth c H locs ls hX hR hs hl hv)

theorem bw_ldcw {i : Nat} {v : Int32} (pc' : Nat) (hd : decode k.2.1 pc = .ok (.ldc_w i, 3)) (hc : Cond.constant k.1.cls i v ∈ bw_uw) (hp : pc + 3 = pc') (kk : bw_W g R k Q cu su pc' lv (.int v :: st) A) : bw_W g R k Q cu su pc lv (st) A := by
  intro p l e s m args below meth c H locs ls hX hR hs hl hv
  subst hp
  exact lv_ldcw hX.1 hX.2.1 hX.2.2.2.2.1 (hX.2.2.2.2.2.1 _ hc) hd (kk p l e s m args below meth c H locs ls hX hR hs hl hv)

theorem bw_ldc2 {i : Nat} {v : Int64} (pc' : Nat) (hd : decode k.2.1 pc = .ok (.ldc2_w i, 3)) (hc : Cond.constantLong k.1.cls i v ∈ bw_uw) (hp : pc + 3 = pc') (kk : bw_W g R k Q cu su pc' lv (.long v :: st) A) : bw_W g R k Q cu su pc lv (st) A := by
  intro p l e s m args below meth c H locs ls hX hR hs hl hv
  subst hp
  exact lv_ldc2 hX.1 hX.2.1 hX.2.2.2.2.1 (hX.2.2.2.2.2.1 _ hc) hd (kk p l e s m args below meth c H locs ls hX hR hs hl hv)

theorem bw_iload_n {i : Fin 4} {x : Int32} (pc' : Nat) (hd : decode k.2.1 pc = .ok (.iload_n i, 1)) (hx : bw_lk lv (i : Nat) = some (.int x)) (hp : pc + 1 = pc') (kk : bw_W g R k Q cu su pc' lv (.int x :: st) A) : bw_W g R k Q cu su pc lv (st) A := by
  intro p l e s m args below meth c H locs ls hX hR hs hl hv
  subst hp
  exact lv_iload_n hX.1 hX.2.1 hd rfl (bw_lk_at hv hx) (kk p l e s m args below meth c H locs ls hX hR hs hl hv)

theorem bw_iload {i : Nat} {x : Int32} (pc' : Nat) (hd : decode k.2.1 pc = .ok (.iload i, 2)) (hx : bw_lk lv i = some (.int x)) (hp : pc + 2 = pc') (kk : bw_W g R k Q cu su pc' lv (.int x :: st) A) : bw_W g R k Q cu su pc lv (st) A := by
  intro p l e s m args below meth c H locs ls hX hR hs hl hv
  subst hp
  exact lv_iload hX.1 hX.2.1 hd (bw_lk_at hv hx) (kk p l e s m args below meth c H locs ls hX hR hs hl hv)

theorem bw_lload_n {i : Fin 4} {x : Int64} (pc' : Nat) (hd : decode k.2.1 pc = .ok (.lload_n i, 1)) (hx : bw_lk lv (i : Nat) = some (.long x)) (hp : pc + 1 = pc') (kk : bw_W g R k Q cu su pc' lv (.long x :: st) A) : bw_W g R k Q cu su pc lv (st) A := by
  intro p l e s m args below meth c H locs ls hX hR hs hl hv
  subst hp
  exact lv_lload_n hX.1 hX.2.1 hd rfl (bw_lk_at hv hx) (kk p l e s m args below meth c H locs ls hX hR hs hl hv)

theorem bw_lload {i : Nat} {x : Int64} (pc' : Nat) (hd : decode k.2.1 pc = .ok (.lload i, 2)) (hx : bw_lk lv i = some (.long x)) (hp : pc + 2 = pc') (kk : bw_W g R k Q cu su pc' lv (.long x :: st) A) : bw_W g R k Q cu su pc lv (st) A := by
  intro p l e s m args below meth c H locs ls hX hR hs hl hv
  subst hp
  exact lv_lload hX.1 hX.2.1 hd (bw_lk_at hv hx) (kk p l e s m args below meth c H locs ls hX hR hs hl hv)

theorem bw_aload_n {i : Fin 4} {x : Nat} (pc' : Nat) (hd : decode k.2.1 pc = .ok (.aload_n i, 1)) (hx : bw_lk lv (i : Nat) = some (.ref x)) (hp : pc + 1 = pc') (kk : bw_W g R k Q cu su pc' lv (.ref x :: st) A) : bw_W g R k Q cu su pc lv (st) A := by
  intro p l e s m args below meth c H locs ls hX hR hs hl hv
  subst hp
  exact lv_aload_n hX.1 hX.2.1 hd rfl (bw_lk_at hv hx) (kk p l e s m args below meth c H locs ls hX hR hs hl hv)

theorem bw_aload {i : Nat} {x : Nat} (pc' : Nat) (hd : decode k.2.1 pc = .ok (.aload i, 2)) (hx : bw_lk lv i = some (.ref x)) (hp : pc + 2 = pc') (kk : bw_W g R k Q cu su pc' lv (.ref x :: st) A) : bw_W g R k Q cu su pc lv (st) A := by
  intro p l e s m args below meth c H locs ls hX hR hs hl hv
  subst hp
  exact lv_aload hX.1 hX.2.1 hd (bw_lk_at hv hx) (kk p l e s m args below meth c H locs ls hX hR hs hl hv)

theorem bw_aloadN_n {i : Fin 4} (pc' : Nat) (hd : decode k.2.1 pc = .ok (.aload_n i, 1)) (hx : bw_lk lv (i : Nat) = some .null) (hp : pc + 1 = pc') (kk : bw_W g R k Q cu su pc' lv (.null :: st) A) : bw_W g R k Q cu su pc lv (st) A := by
  intro p l e s m args below meth c H locs ls hX hR hs hl hv
  subst hp
  exact lv_aload_nN hX.1 hX.2.1 hd rfl (bw_lk_at hv hx) (kk p l e s m args below meth c H locs ls hX hR hs hl hv)

theorem bw_aloadN {i : Nat} (pc' : Nat) (hd : decode k.2.1 pc = .ok (.aload i, 2)) (hx : bw_lk lv i = some .null) (hp : pc + 2 = pc') (kk : bw_W g R k Q cu su pc' lv (.null :: st) A) : bw_W g R k Q cu su pc lv (st) A := by
  intro p l e s m args below meth c H locs ls hX hR hs hl hv
  subst hp
  exact lv_aloadN hX.1 hX.2.1 hd (bw_lk_at hv hx) (kk p l e s m args below meth c H locs ls hX hR hs hl hv)

theorem bw_istore_n {i : Fin 4} {x : Int32} (pc' : Nat) (hd : decode k.2.1 pc = .ok (.istore_n i, 1)) (hp : pc + 1 = pc') (hn : (i : Nat) < k.2.2.1) (kk : bw_W g R k Q cu su pc' (bw_st lv (i : Nat) (.int x)) st A) : bw_W g R k Q cu su pc lv (.int x :: st) A := by
  intro p l e s m args below meth c H locs ls hX hR hs hl hv
  subst hp
  exact lv_istore_n hX.1 hX.2.1 hd rfl hv hn rfl (fun ls hv => kk p l e s m args below meth c H locs ls hX hR hs hl hv)

theorem bw_istore {i : Nat} {x : Int32} (pc' : Nat) (hd : decode k.2.1 pc = .ok (.istore i, 2)) (hp : pc + 2 = pc') (hn : (i : Nat) < k.2.2.1) (kk : bw_W g R k Q cu su pc' (bw_st lv i (.int x)) st A) : bw_W g R k Q cu su pc lv (.int x :: st) A := by
  intro p l e s m args below meth c H locs ls hX hR hs hl hv
  subst hp
  exact lv_istore hX.1 hX.2.1 hd  hv hn rfl (fun ls hv => kk p l e s m args below meth c H locs ls hX hR hs hl hv)

theorem bw_astore_n {i : Fin 4} {x : Nat} (pc' : Nat) (hd : decode k.2.1 pc = .ok (.astore_n i, 1)) (hp : pc + 1 = pc') (hn : (i : Nat) < k.2.2.1) (kk : bw_W g R k Q cu su pc' (bw_st lv (i : Nat) (.ref x)) st A) : bw_W g R k Q cu su pc lv (.ref x :: st) A := by
  intro p l e s m args below meth c H locs ls hX hR hs hl hv
  subst hp
  exact lv_astore_n hX.1 hX.2.1 hd rfl hv hn rfl (fun ls hv => kk p l e s m args below meth c H locs ls hX hR hs hl hv)

theorem bw_astore {i : Nat} {x : Nat} (pc' : Nat) (hd : decode k.2.1 pc = .ok (.astore i, 2)) (hp : pc + 2 = pc') (hn : (i : Nat) < k.2.2.1) (kk : bw_W g R k Q cu su pc' (bw_st lv i (.ref x)) st A) : bw_W g R k Q cu su pc lv (.ref x :: st) A := by
  intro p l e s m args below meth c H locs ls hX hR hs hl hv
  subst hp
  exact lv_astore hX.1 hX.2.1 hd  hv hn rfl (fun ls hv => kk p l e s m args below meth c H locs ls hX hR hs hl hv)

theorem bw_astoreN_n {i : Fin 4} (pc' : Nat) (hd : decode k.2.1 pc = .ok (.astore_n i, 1)) (hp : pc + 1 = pc') (hn : (i : Nat) < k.2.2.1) (kk : bw_W g R k Q cu su pc' (bw_st lv (i : Nat) .null) st A) : bw_W g R k Q cu su pc lv (.null :: st) A := by
  intro p l e s m args below meth c H locs ls hX hR hs hl hv
  subst hp
  exact lv_astore_nN hX.1 hX.2.1 hd rfl hv hn rfl (fun ls hv => kk p l e s m args below meth c H locs ls hX hR hs hl hv)

theorem bw_astoreN {i : Nat} (pc' : Nat) (hd : decode k.2.1 pc = .ok (.astore i, 2)) (hp : pc + 2 = pc') (hn : (i : Nat) < k.2.2.1) (kk : bw_W g R k Q cu su pc' (bw_st lv i .null) st A) : bw_W g R k Q cu su pc lv (.null :: st) A := by
  intro p l e s m args below meth c H locs ls hX hR hs hl hv
  subst hp
  exact lv_astoreN hX.1 hX.2.1 hd  hv hn rfl (fun ls hv => kk p l e s m args below meth c H locs ls hX hR hs hl hv)

theorem bw_lstore {i : Nat} {x : Int64} (pc' : Nat) (hd : decode k.2.1 pc = .ok (.lstore i, 2)) (hp : pc + 2 = pc') (hn : (i : Nat) + 1 < k.2.2.1) (kk : bw_W g R k Q cu su pc' (bw_st2 lv i (.long x)) st A) : bw_W g R k Q cu su pc lv (.long x :: st) A := by
  intro p l e s m args below meth c H locs ls hX hR hs hl hv
  subst hp
  exact lv_lstore hX.1 hX.2.1 hd  hv hn rfl (fun ls hv => kk p l e s m args below meth c H locs ls hX hR hs hl hv)

theorem bw_lstore_n {i : Fin 4} {x : Int64} (pc' : Nat) (hd : decode k.2.1 pc = .ok (.lstore_n i, 1)) (hp : pc + 1 = pc') (hn : (i : Nat) + 1 < k.2.2.1) (kk : bw_W g R k Q cu su pc' (bw_st2 lv (i : Nat) (.long x)) st A) : bw_W g R k Q cu su pc lv (.long x :: st) A := by
  intro p l e s m args below meth c H locs ls hX hR hs hl hv
  subst hp
  exact lv_lstore_n hX.1 hX.2.1 hd rfl hv hn rfl (fun ls hv => kk p l e s m args below meth c H locs ls hX hR hs hl hv)

theorem bw_iinc {i : Nat} {n : Int} {x : Int32} (v : Int32) (pc' : Nat) (hd : decode k.2.1 pc = .ok (.iinc i n, 3)) (hp : pc + 3 = pc') (hx : bw_lk lv i = some (.int x)) (hv0 : x + Int32.ofInt n = v) (hn : i < k.2.2.1) (kk : bw_W g R k Q cu su pc' (bw_st lv i (.int v)) st A) : bw_W g R k Q cu su pc lv st A := by
  intro p l e s m args below meth c H locs ls hX hR hs hl hv
  subst hp
  obtain ⟨j, hj⟩ := List.getElem?_of_mem (bw_lk_mem hx)
  exact lv_iinc hX.1 hX.2.1 hd hv hj hv0 hn rfl (fun ls hv => kk p l e s m args below meth c H locs ls hX hR hs hl hv)

theorem bw_iadd {x y : Int32} (pc' : Nat) (hd : decode k.2.1 pc = .ok (.iadd, 1)) (hp : pc + 1 = pc') (kk : bw_W g R k Q cu su pc' lv (.int (x + y) :: st) A) : bw_W g R k Q cu su pc lv (.int y :: .int x :: st) A := by
  intro p l e s m args below meth c H locs ls hX hR hs hl hv
  subst hp
  exact lv_iadd hX.1 hX.2.1 hd (kk p l e s m args below meth c H locs ls hX hR hs hl hv)

theorem bw_isub {x y : Int32} (pc' : Nat) (hd : decode k.2.1 pc = .ok (.isub, 1)) (hp : pc + 1 = pc') (kk : bw_W g R k Q cu su pc' lv (.int (x - y) :: st) A) : bw_W g R k Q cu su pc lv (.int y :: .int x :: st) A := by
  intro p l e s m args below meth c H locs ls hX hR hs hl hv
  subst hp
  exact lv_isub hX.1 hX.2.1 hd (kk p l e s m args below meth c H locs ls hX hR hs hl hv)

theorem bw_imul {x y : Int32} (pc' : Nat) (hd : decode k.2.1 pc = .ok (.imul, 1)) (hp : pc + 1 = pc') (kk : bw_W g R k Q cu su pc' lv (.int (x * y) :: st) A) : bw_W g R k Q cu su pc lv (.int y :: .int x :: st) A := by
  intro p l e s m args below meth c H locs ls hX hR hs hl hv
  subst hp
  exact lv_imul hX.1 hX.2.1 hd (kk p l e s m args below meth c H locs ls hX hR hs hl hv)

theorem bw_iand {x y : Int32} (pc' : Nat) (hd : decode k.2.1 pc = .ok (.iand, 1)) (hp : pc + 1 = pc') (kk : bw_W g R k Q cu su pc' lv (.int (x &&& y) :: st) A) : bw_W g R k Q cu su pc lv (.int y :: .int x :: st) A := by
  intro p l e s m args below meth c H locs ls hX hR hs hl hv
  subst hp
  exact lv_iand hX.1 hX.2.1 hd (kk p l e s m args below meth c H locs ls hX hR hs hl hv)

theorem bw_ior {x y : Int32} (pc' : Nat) (hd : decode k.2.1 pc = .ok (.ior, 1)) (hp : pc + 1 = pc') (kk : bw_W g R k Q cu su pc' lv (.int (x ||| y) :: st) A) : bw_W g R k Q cu su pc lv (.int y :: .int x :: st) A := by
  intro p l e s m args below meth c H locs ls hX hR hs hl hv
  subst hp
  exact lv_ior hX.1 hX.2.1 hd (kk p l e s m args below meth c H locs ls hX hR hs hl hv)

theorem bw_ixor {x y : Int32} (pc' : Nat) (hd : decode k.2.1 pc = .ok (.ixor, 1)) (hp : pc + 1 = pc') (kk : bw_W g R k Q cu su pc' lv (.int (x ^^^ y) :: st) A) : bw_W g R k Q cu su pc lv (.int y :: .int x :: st) A := by
  intro p l e s m args below meth c H locs ls hX hR hs hl hv
  subst hp
  exact lv_ixor hX.1 hX.2.1 hd (kk p l e s m args below meth c H locs ls hX hR hs hl hv)

theorem bw_ishl {x y : Int32} (pc' : Nat) (hd : decode k.2.1 pc = .ok (.ishl, 1)) (hp : pc + 1 = pc') (kk : bw_W g R k Q cu su pc' lv (.int (x <<< (y &&& 31)) :: st) A) : bw_W g R k Q cu su pc lv (.int y :: .int x :: st) A := by
  intro p l e s m args below meth c H locs ls hX hR hs hl hv
  subst hp
  exact lv_ishl hX.1 hX.2.1 hd (kk p l e s m args below meth c H locs ls hX hR hs hl hv)

theorem bw_ishr {x y : Int32} (pc' : Nat) (hd : decode k.2.1 pc = .ok (.ishr, 1)) (hp : pc + 1 = pc') (kk : bw_W g R k Q cu su pc' lv (.int (x >>> (y &&& 31)) :: st) A) : bw_W g R k Q cu su pc lv (.int y :: .int x :: st) A := by
  intro p l e s m args below meth c H locs ls hX hR hs hl hv
  subst hp
  exact lv_ishr hX.1 hX.2.1 hd (kk p l e s m args below meth c H locs ls hX hR hs hl hv)

theorem bw_iushr {x y : Int32} (pc' : Nat) (hd : decode k.2.1 pc = .ok (.iushr, 1)) (hp : pc + 1 = pc') (kk : bw_W g R k Q cu su pc' lv (.int ((x.toUInt32 >>> (y.toUInt32 &&& Int32.toUInt32 31)).toInt32) :: st) A) : bw_W g R k Q cu su pc lv (.int y :: .int x :: st) A := by
  intro p l e s m args below meth c H locs ls hX hR hs hl hv
  subst hp
  exact lv_iushr hX.1 hX.2.1 hd rfl (kk p l e s m args below meth c H locs ls hX hR hs hl hv)

theorem bw_idiv {x y : Int32} (pc' : Nat) (hd : decode k.2.1 pc = .ok (.idiv, 1)) (h0 : ¬ y = 0) (hp : pc + 1 = pc') (kk : bw_W g R k Q cu su pc' lv (.int (x / y) :: st) A) : bw_W g R k Q cu su pc lv (.int y :: .int x :: st) A := by
  intro p l e s m args below meth c H locs ls hX hR hs hl hv
  subst hp
  exact lv_idiv hX.1 hX.2.1 hd h0 (kk p l e s m args below meth c H locs ls hX hR hs hl hv)

theorem bw_irem {x y : Int32} (pc' : Nat) (hd : decode k.2.1 pc = .ok (.irem, 1)) (h0 : ¬ y = 0) (hp : pc + 1 = pc') (kk : bw_W g R k Q cu su pc' lv (.int (x - x / y * y) :: st) A) : bw_W g R k Q cu su pc lv (.int y :: .int x :: st) A := by
  intro p l e s m args below meth c H locs ls hX hR hs hl hv
  subst hp
  exact lv_irem hX.1 hX.2.1 hd h0 (kk p l e s m args below meth c H locs ls hX hR hs hl hv)

theorem bw_lrem {x y : Int64} (pc' : Nat) (hd : decode k.2.1 pc = .ok (.lrem, 1)) (h0 : ¬ y = 0) (hp : pc + 1 = pc') (kk : bw_W g R k Q cu su pc' lv (.long (x - x / y * y) :: st) A) : bw_W g R k Q cu su pc lv (.long y :: .long x :: st) A := by
  intro p l e s m args below meth c H locs ls hX hR hs hl hv
  subst hp
  exact lv_lrem hX.1 hX.2.1 hd h0 (kk p l e s m args below meth c H locs ls hX hR hs hl hv)

theorem bw_ladd {x y : Int64} (pc' : Nat) (hd : decode k.2.1 pc = .ok (.ladd, 1)) (hp : pc + 1 = pc') (kk : bw_W g R k Q cu su pc' lv (.long (x + y) :: st) A) : bw_W g R k Q cu su pc lv (.long y :: .long x :: st) A := by
  intro p l e s m args below meth c H locs ls hX hR hs hl hv
  subst hp
  exact lv_ladd hX.1 hX.2.1 hd (kk p l e s m args below meth c H locs ls hX hR hs hl hv)

theorem bw_lsub {x y : Int64} (pc' : Nat) (hd : decode k.2.1 pc = .ok (.lsub, 1)) (hp : pc + 1 = pc') (kk : bw_W g R k Q cu su pc' lv (.long (x - y) :: st) A) : bw_W g R k Q cu su pc lv (.long y :: .long x :: st) A := by
  intro p l e s m args below meth c H locs ls hX hR hs hl hv
  subst hp
  exact lv_lsub hX.1 hX.2.1 hd (kk p l e s m args below meth c H locs ls hX hR hs hl hv)

theorem bw_lmul {x y : Int64} (pc' : Nat) (hd : decode k.2.1 pc = .ok (.lmul, 1)) (hp : pc + 1 = pc') (kk : bw_W g R k Q cu su pc' lv (.long (x * y) :: st) A) : bw_W g R k Q cu su pc lv (.long y :: .long x :: st) A := by
  intro p l e s m args below meth c H locs ls hX hR hs hl hv
  subst hp
  exact lv_lmul hX.1 hX.2.1 hd (kk p l e s m args below meth c H locs ls hX hR hs hl hv)

theorem bw_land {x y : Int64} (pc' : Nat) (hd : decode k.2.1 pc = .ok (.land, 1)) (hp : pc + 1 = pc') (kk : bw_W g R k Q cu su pc' lv (.long (x &&& y) :: st) A) : bw_W g R k Q cu su pc lv (.long y :: .long x :: st) A := by
  intro p l e s m args below meth c H locs ls hX hR hs hl hv
  subst hp
  exact lv_land hX.1 hX.2.1 hd (kk p l e s m args below meth c H locs ls hX hR hs hl hv)

theorem bw_lor {x y : Int64} (pc' : Nat) (hd : decode k.2.1 pc = .ok (.lor, 1)) (hp : pc + 1 = pc') (kk : bw_W g R k Q cu su pc' lv (.long (x ||| y) :: st) A) : bw_W g R k Q cu su pc lv (.long y :: .long x :: st) A := by
  intro p l e s m args below meth c H locs ls hX hR hs hl hv
  subst hp
  exact lv_lor hX.1 hX.2.1 hd (kk p l e s m args below meth c H locs ls hX hR hs hl hv)

theorem bw_lshl {x : Int64} {y : Int32} (pc' : Nat) (hd : decode k.2.1 pc = .ok (.lshl, 1)) (hp : pc + 1 = pc') (kk : bw_W g R k Q cu su pc' lv (.long (x <<< (y.toInt64 &&& 63)) :: st) A) : bw_W g R k Q cu su pc lv (.int y :: .long x :: st) A := by
  intro p l e s m args below meth c H locs ls hX hR hs hl hv
  subst hp
  exact lv_lshl hX.1 hX.2.1 hd rfl (kk p l e s m args below meth c H locs ls hX hR hs hl hv)

theorem bw_i2l {x : Int32} (pc' : Nat) (hd : decode k.2.1 pc = .ok (.i2l, 1)) (hp : pc + 1 = pc') (kk : bw_W g R k Q cu su pc' lv (.long x.toInt64 :: st) A) : bw_W g R k Q cu su pc lv (.int x :: st) A := by
  intro p l e s m args below meth c H locs ls hX hR hs hl hv
  subst hp
  exact lv_i2l hX.1 hX.2.1 hd rfl (kk p l e s m args below meth c H locs ls hX hR hs hl hv)

theorem bw_l2i {x : Int64} (pc' : Nat) (hd : decode k.2.1 pc = .ok (.l2i, 1)) (hp : pc + 1 = pc') (kk : bw_W g R k Q cu su pc' lv (.int x.toInt32 :: st) A) : bw_W g R k Q cu su pc lv (.long x :: st) A := by
  intro p l e s m args below meth c H locs ls hX hR hs hl hv
  subst hp
  exact lv_l2i hX.1 hX.2.1 hd rfl (kk p l e s m args below meth c H locs ls hX hR hs hl hv)

theorem bw_lcmp {x y : Int64} (pc' : Nat) (hd : decode k.2.1 pc = .ok (.lcmp, 1)) (hp : pc + 1 = pc') (kk : bw_W g R k Q cu su pc' lv (.int (lg_cmp x y) :: st) A) : bw_W g R k Q cu su pc lv (.long y :: .long x :: st) A := by
  intro p l e s m args below meth c H locs ls hX hR hs hl hv
  subst hp
  exact W.lcmp hX.1 hX.2.1 hd (kk p l e s m args below meth c H locs ls hX hR hs hl hv)

theorem bw_dup {v : Value} (pc' : Nat) (hd : decode k.2.1 pc = .ok (.dup, 1)) (hc : v.category = 1) (hp : pc + 1 = pc') (kk : bw_W g R k Q cu su pc' lv (v :: v :: st) A) : bw_W g R k Q cu su pc lv (v :: st) A := by
  intro p l e s m args below meth c H locs ls hX hR hs hl hv
  subst hp
  exact lv_dup hX.1 hX.2.1 hd hc (kk p l e s m args below meth c H locs ls hX hR hs hl hv)

theorem bw_dup2 {v w : Value} (pc' : Nat) (hd : decode k.2.1 pc = .ok (.dup2, 1)) (hc : v.category = 1) (hc2 : w.category = 1) (hp : pc + 1 = pc') (kk : bw_W g R k Q cu su pc' lv (v :: w :: v :: w :: st) A) : bw_W g R k Q cu su pc lv (v :: w :: st) A := by
  intro p l e s m args below meth c H locs ls hX hR hs hl hv
  subst hp
  exact lv_dup2_11 hX.1 hX.2.1 hd hc hc2 (kk p l e s m args below meth c H locs ls hX hR hs hl hv)

theorem bw_if_eq {x : Int32} {off : Int} (tgt pc' : Nat) (hd : decode k.2.1 pc = .ok (.ifCond .eq off, 3)) (ht : (pc : Int) + off = (tgt : Int)) (hp : pc + 3 = pc') (kt : x = 0 → bw_W g R k Q cu su tgt lv st A) (kf : ¬ (x = 0) → bw_W g R k Q cu su pc' lv st A) : bw_W g R k Q cu su pc lv (.int x :: st) A := by
  intro p l e s m args below meth c H locs ls hX hR hs hl hv
  subst hp
  exact lv_if_eq hX.1 hX.2.1 hd ht (fun hb => kt hb p l e s m args below meth c H locs ls hX hR hs hl hv) (fun hb => kf hb p l e s m args below meth c H locs ls hX hR hs hl hv)

theorem bw_if_ne {x : Int32} {off : Int} (tgt pc' : Nat) (hd : decode k.2.1 pc = .ok (.ifCond .ne off, 3)) (ht : (pc : Int) + off = (tgt : Int)) (hp : pc + 3 = pc') (kt : ¬ x = 0 → bw_W g R k Q cu su tgt lv st A) (kf : x = 0 → bw_W g R k Q cu su pc' lv st A) : bw_W g R k Q cu su pc lv (.int x :: st) A := by
  intro p l e s m args below meth c H locs ls hX hR hs hl hv
  subst hp
  exact lv_if_ne hX.1 hX.2.1 hd ht (fun hb => kt hb p l e s m args below meth c H locs ls hX hR hs hl hv) (fun hb => kf hb p l e s m args below meth c H locs ls hX hR hs hl hv)

theorem bw_if_lt {x : Int32} {off : Int} (tgt pc' : Nat) (hd : decode k.2.1 pc = .ok (.ifCond .lt off, 3)) (ht : (pc : Int) + off = (tgt : Int)) (hp : pc + 3 = pc') (kt : x < 0 → bw_W g R k Q cu su tgt lv st A) (kf : ¬ (x < 0) → bw_W g R k Q cu su pc' lv st A) : bw_W g R k Q cu su pc lv (.int x :: st) A := by
  intro p l e s m args below meth c H locs ls hX hR hs hl hv
  subst hp
  exact lv_if_lt hX.1 hX.2.1 hd ht (fun hb => kt hb p l e s m args below meth c H locs ls hX hR hs hl hv) (fun hb => kf hb p l e s m args below meth c H locs ls hX hR hs hl hv)

theorem bw_if_ge {x : Int32} {off : Int} (tgt pc' : Nat) (hd : decode k.2.1 pc = .ok (.ifCond .ge off, 3)) (ht : (pc : Int) + off = (tgt : Int)) (hp : pc + 3 = pc') (kt : 0 ≤ x → bw_W g R k Q cu su tgt lv st A) (kf : ¬ (0 ≤ x) → bw_W g R k Q cu su pc' lv st A) : bw_W g R k Q cu su pc lv (.int x :: st) A := by
  intro p l e s m args below meth c H locs ls hX hR hs hl hv
  subst hp
  exact lv_if_ge hX.1 hX.2.1 hd ht (fun hb => kt hb p l e s m args below meth c H locs ls hX hR hs hl hv) (fun hb => kf hb p l e s m args below meth c H locs ls hX hR hs hl hv)

theorem bw_if_gt {x : Int32} {off : Int} (tgt pc' : Nat) (hd : decode k.2.1 pc = .ok (.ifCond .gt off, 3)) (ht : (pc : Int) + off = (tgt : Int)) (hp : pc + 3 = pc') (kt : 0 < x → bw_W g R k Q cu su tgt lv st A) (kf : ¬ (0 < x) → bw_W g R k Q cu su pc' lv st A) : bw_W g R k Q cu su pc lv (.int x :: st) A := by
  intro p l e s m args below meth c H locs ls hX hR hs hl hv
  subst hp
  exact lv_if_gt hX.1 hX.2.1 hd ht (fun hb => kt hb p l e s m args below meth c H locs ls hX hR hs hl hv) (fun hb => kf hb p l e s m args below meth c H locs ls hX hR hs hl hv)

theorem bw_if_le {x : Int32} {off : Int} (tgt pc' : Nat) (hd : decode k.2.1 pc = .ok (.ifCond .le off, 3)) (ht : (pc : Int) + off = (tgt : Int)) (hp : pc + 3 = pc') (kt : x ≤ 0 → bw_W g R k Q cu su tgt lv st A) (kf : ¬ (x ≤ 0) → bw_W g R k Q cu su pc' lv st A) : bw_W g R k Q cu su pc lv (.int x :: st) A := by
  intro p l e s m args below meth c H locs ls hX hR hs hl hv
  subst hp
  exact lv_if_le hX.1 hX.2.1 hd ht (fun hb => kt hb p l e s m args below meth c H locs ls hX hR hs hl hv) (fun hb => kf hb p l e s m args below meth c H locs ls hX hR hs hl hv)

theorem bw_icmp_eq {x y : Int32} {off : Int} (tgt pc' : Nat) (hd : decode k.2.1 pc = .ok (.if_icmp .eq off, 3)) (ht : (pc : Int) + off = (tgt : Int)) (hp : pc + 3 = pc') (kt : x = y → bw_W g R k Q cu su tgt lv st A) (kf : ¬ (x = y) → bw_W g R k Q cu su pc' lv st A) : bw_W g R k Q cu su pc lv (.int y :: .int x :: st) A := by
  intro p l e s m args below meth c H locs ls hX hR hs hl hv
  subst hp
  exact lv_icmp_eq hX.1 hX.2.1 hd ht (fun hb => kt hb p l e s m args below meth c H locs ls hX hR hs hl hv) (fun hb => kf hb p l e s m args below meth c H locs ls hX hR hs hl hv)

theorem bw_icmp_ne {x y : Int32} {off : Int} (tgt pc' : Nat) (hd : decode k.2.1 pc = .ok (.if_icmp .ne off, 3)) (ht : (pc : Int) + off = (tgt : Int)) (hp : pc + 3 = pc') (kt : ¬ x = y → bw_W g R k Q cu su tgt lv st A) (kf : x = y → bw_W g R k Q cu su pc' lv st A) : bw_W g R k Q cu su pc lv (.int y :: .int x :: st) A := by
  intro p l e s m args below meth c H locs ls hX hR hs hl hv
  subst hp
  exact lv_icmp_ne hX.1 hX.2.1 hd ht (fun hb => kt hb p l e s m args below meth c H locs ls hX hR hs hl hv) (fun hb => kf hb p l e s m args below meth c H locs ls hX hR hs hl hv)

theorem bw_icmp_lt {x y : Int32} {off : Int} (tgt pc' : Nat) (hd : decode k.2.1 pc = .ok (.if_icmp .lt off, 3)) (ht : (pc : Int) + off = (tgt : Int)) (hp : pc + 3 = pc') (kt : x < y → bw_W g R k Q cu su tgt lv st A) (kf : ¬ (x < y) → bw_W g R k Q cu su pc' lv st A) : bw_W g R k Q cu su pc lv (.int y :: .int x :: st) A := by
  intro p l e s m args below meth c H locs ls hX hR hs hl hv
  subst hp
  exact lv_icmp_lt hX.1 hX.2.1 hd ht (fun hb => kt hb p l e s m args below meth c H locs ls hX hR hs hl hv) (fun hb => kf hb p l e s m args below meth c H locs ls hX hR hs hl hv)

theorem bw_icmp_ge {x y : Int32} {off : Int} (tgt pc' : Nat) (hd : decode k.2.1 pc = .ok (.if_icmp .ge off, 3)) (ht : (pc : Int) + off = (tgt : Int)) (hp : pc + 3 = pc') (kt : y ≤ x → bw_W g R k Q cu su tgt lv st A) (kf : ¬ (y ≤ x) → bw_W g R k Q cu su pc' lv st A) : bw_W g R k Q cu su pc lv (.int y :: .int x :: st) A := by
  intro p l e s m args below meth c H locs ls hX hR hs hl hv
  subst hp
  exact lv_icmp_ge hX.1 hX.2.1 hd ht (fun hb => kt hb p l e s m args below meth c H locs ls hX hR hs hl hv) (fun hb => kf hb p l e s m args below meth c H locs ls hX hR hs hl hv)

theorem bw_icmp_gt {x y : Int32} {off : Int} (tgt pc' : Nat) (hd : decode k.2.1 pc = .ok (.if_icmp .gt off, 3)) (ht : (pc : Int) + off = (tgt : Int)) (hp : pc + 3 = pc') (kt : y < x → bw_W g R k Q cu su tgt lv st A) (kf : ¬ (y < x) → bw_W g R k Q cu su pc' lv st A) : bw_W g R k Q cu su pc lv (.int y :: .int x :: st) A := by
  intro p l e s m args below meth c H locs ls hX hR hs hl hv
  subst hp
  exact lv_icmp_gt hX.1 hX.2.1 hd ht (fun hb => kt hb p l e s m args below meth c H locs ls hX hR hs hl hv) (fun hb => kf hb p l e s m args below meth c H locs ls hX hR hs hl hv)

theorem bw_icmp_le {x y : Int32} {off : Int} (tgt pc' : Nat) (hd : decode k.2.1 pc = .ok (.if_icmp .le off, 3)) (ht : (pc : Int) + off = (tgt : Int)) (hp : pc + 3 = pc') (kt : x ≤ y → bw_W g R k Q cu su tgt lv st A) (kf : ¬ (x ≤ y) → bw_W g R k Q cu su pc' lv st A) : bw_W g R k Q cu su pc lv (.int y :: .int x :: st) A := by
  intro p l e s m args below meth c H locs ls hX hR hs hl hv
  subst hp
  exact lv_icmp_le hX.1 hX.2.1 hd ht (fun hb => kt hb p l e s m args below meth c H locs ls hX hR hs hl hv) (fun hb => kf hb p l e s m args below meth c H locs ls hX hR hs hl hv)

theorem bw_goto {off : Int} (tgt : Nat) (hd : decode k.2.1 pc = .ok (.goto off, 3)) (ht : (pc : Int) + off = (tgt : Int)) (kk : bw_W g R k Q cu su tgt lv st A) : bw_W g R k Q cu su pc lv st A := by
  intro p l e s m args below meth c H locs ls hX hR hs hl hv
  exact lv_goto hX.1 hX.2.1 hd ht (kk p l e s m args below meth c H locs ls hX hR hs hl hv)

theorem bw_ifnonnull {x : Nat} {off : Int} (tgt : Nat) (hd : decode k.2.1 pc = .ok (.ifnonnull off, 3)) (ht : (pc : Int) + off = (tgt : Int)) (kk : bw_W g R k Q cu su tgt lv st A) : bw_W g R k Q cu su pc lv (.ref x :: st) A := by
  intro p l e s m args below meth c H locs ls hX hR hs hl hv
  exact lv_ifnonnull hX.1 hX.2.1 hd ht (kk p l e s m args below meth c H locs ls hX hR hs hl hv)

theorem bw_ifnonnullN {off : Int} (pc' : Nat) (hd : decode k.2.1 pc = .ok (.ifnonnull off, 3)) (hp : pc + 3 = pc') (kk : bw_W g R k Q cu su pc' lv st A) : bw_W g R k Q cu su pc lv (.null :: st) A := by
  intro p l e s m args below meth c H locs ls hX hR hs hl hv
  subst hp
  exact lv_ifnonnullN hX.1 hX.2.1 hd (kk p l e s m args below meth c H locs ls hX hR hs hl hv)

theorem bw_acmp_eq {x y : Nat} {off : Int} (tgt pc' : Nat) (hd : decode k.2.1 pc = .ok (.if_acmp .eq off, 3)) (ht : (pc : Int) + off = (tgt : Int)) (hp : pc + 3 = pc') (kt : x = y → bw_W g R k Q cu su tgt lv st A) (kf : ¬ x = y → bw_W g R k Q cu su pc' lv st A) : bw_W g R k Q cu su pc lv (.ref y :: .ref x :: st) A := by
  intro p l e s m args below meth c H locs ls hX hR hs hl hv
  subst hp
  exact lv_acmp_eq (rx := some x) (ry := some y) hX.1 hX.2.1 hd ht (fun hb => kt (Option.some.inj hb) p l e s m args below meth c H locs ls hX hR hs hl hv) (fun hb => kf (fun h => hb (by rw [h])) p l e s m args below meth c H locs ls hX hR hs hl hv)

theorem bw_tsOut {x : Int32} {dflt lo hi : Int} {offs : Array Int} {len : Nat} (tgt : Nat) (hd : decode k.2.1 pc = .ok (.tableswitch dflt lo hi offs, len)) (h : x.toInt < lo ∨ hi < x.toInt) (ht : (pc : Int) + dflt = (tgt : Int)) (kk : bw_W g R k Q cu su tgt lv st A) : bw_W g R k Q cu su pc lv (.int x :: st) A := by
  intro p l e s m args below meth c H locs ls hX hR hs hl hv
  exact lv_tableOut hX.1 hX.2.1 hd h ht (kk p l e s m args below meth c H locs ls hX hR hs hl hv)

theorem bw_tsIn {x : Int32} {dflt lo hi off : Int} {offs : Array Int} {len : Nat} (tgt : Nat) (hd : decode k.2.1 pc = .ok (.tableswitch dflt lo hi offs, len)) (h1 : ¬ x.toInt < lo) (h2 : ¬ hi < x.toInt) (ho : offs[(x.toInt - lo).toNat]? = some off) (ht : (pc : Int) + off = (tgt : Int)) (kk : bw_W g R k Q cu su tgt lv st A) : bw_W g R k Q cu su pc lv (.int x :: st) A := by
  intro p l e s m args below meth c H locs ls hX hR hs hl hv
  exact lv_tableIn hX.1 hX.2.1 hd h1 h2 ho ht (kk p l e s m args below meth c H locs ls hX hR hs hl hv)

theorem bw_loc (lv' : List (Nat × Value)) (h : bw_sub lv lv') (kk : bw_W g R k Q cu su pc lv' st A) : bw_W g R k Q cu su pc lv st A := by
  intro p l e s m args below meth c H locs ls hX hR hs hl hv
  exact kk p l e s m args below meth c H locs ls hX hR hs hl ⟨hv.1, hv.2.1, fun q hq => hv.2.2 q (h.mem q hq)⟩
theorem bw_wid {cu' su' : Nat} (h1 : cu ≤ cu') (h2 : su ≤ su') (kk : bw_W g R k Q cu' su' pc lv st A) : bw_W g R k Q cu su pc lv st A := by
  intro p l e s m args below meth c H locs ls hX hR hs hl hv
  exact W.widen h1 h2 (kk p l e s m args below meth c H locs ls hX hR hs hl hv)
/-! the heap -/
theorem bw_R.up {A : bw_H} {H H1 : Heap} {a : Nat} {e0 e : va_E} (hR : bw_R g A H) (ha : A.2 a = some e0) (z : H1.size = H.size) (o : ∀ q : Nat, q ≠ a → H1[q]? = H[q]?) (h : va_at g.1 vwCl (a, e) H1) : bw_R g (bw_up A a e) H1 := by
  obtain ⟨h1, h2, h3, h4⟩ := hR
  have hla := (h4 a e0 ha).1
  refine ⟨z.trans h1, h2, fun q hq => ?_, fun b e' hb => ?_⟩
  · rw [o q (fun e => by omega)]; exact h3 q hq
  · by_cases hba : b = a
    · subst hba
      have : (if b = b then some e else A.2 b) = some e' := hb
      rw [if_pos rfl] at this
      cases this
      exact ⟨hla, h⟩
    · have : (if b = a then some e else A.2 b) = some e' := hb
      rw [if_neg hba] at this
      exact ⟨(h4 b e' this).1, va_at.kept (h4 b e' this).2 (o b hba)⟩
theorem bw_R.nw {A : bw_H} {H H1 : Heap} {e : va_E} (hR : bw_R g A H) (z : H1.size = A.1 + 1) (o : ∀ q : Nat, q < A.1 → H1[q]? = H[q]?) (h : va_at g.1 vwCl (A.1, e) H1) : bw_R g (bw_nw A e) H1 := by
  obtain ⟨h1, h2, h3, h4⟩ := hR
  refine ⟨z, by show _ ≤ A.1 + 1; omega, fun q hq => ?_, fun b e' hb => ?_⟩
  · rw [o q (by omega)]; exact h3 q hq
  · by_cases hba : b = A.1
    · subst hba
      have : (if A.1 = A.1 then some e else A.2 A.1) = some e' := hb
      rw [if_pos rfl] at this
      cases this
      exact ⟨h2, h⟩
    · have : (if b = A.1 then some e else A.2 b) = some e' := hb
      rw [if_neg hba] at this
      have h5 := h4 b e' this
      have hlt : b < H.size := va_at.lt h5.2
      exact ⟨h5.1, va_at.kept h5.2 (o b (by omega))⟩
theorem bw_R.P {A : bw_H} {H : Heap} {a : Nat} {e : va_E} (hR : bw_R g A H) (ha : A.2 a = some e) : va_P g.1 vwCl [(a, e)] H := by
  intro i q hq
  have hz : i < 1 := (List.getElem?_eq_some_iff.mp hq).1
  rw [show i = 0 by omega] at hq
  cases hq
  exact (hR.2.2.2 a e ha).2
/-- a field link: own class, entry; class number and field number -/
def bw_fl (own : String) (idx ci kf : Nat) : Prop := ∃ (C : String) (T : u_T) (N : Nat), vwCl[ci]? = some (C, T, N) ∧ kf < N ∧ (∀ w ∈ u_ws C T N, w ∈ bw_uw) ∧ Cond.fieldLink own idx (T kf).1 (T kf).2.1 (T kf).2.2.1 ∈ bw_uw
def bw_fp (own : String) (idx ci kf : Nat) (ty : FieldType) (fin : Bool) : Prop := ∃ (C : String) (T : u_T) (N : Nat) (ty0 : Nat → FieldType), vwCl[ci]? = some (C, T, N) ∧ kf < N ∧ (∀ w ∈ u_ws C T N, w ∈ bw_uw) ∧ Cond.fieldLink own idx (T kf).1 (T kf).2.1 (T kf).2.2.1 ∈ bw_uw ∧
  (∀ k, k < N → parseFieldDescriptor (T k).2.2.1 = some (ty0 k)) ∧ (∀ a, a < N → ∀ b, b < N → a ≠ b → (T a).2.1 ≠ (T b).2.1) ∧ (T kf).2.2.2 = fin ∧ (fin = true → (T kf).1 = own) ∧ ty0 kf = ty
theorem bw_get {i ci kf : Nat} {a : Nat} {fs : List Value} {v : Value} (pc' : Nat) (hd : decode k.2.1 pc = .ok (.getfield i, 3)) (hp : pc + 3 = pc') (hf : bw_fl k.1.cls i ci kf) (ha : A.2 a = some (.inr (ci, fs))) (hv0 : fs[kf]? = some v)
    (kk : bw_W g R k Q cu su pc' lv (v :: st) A) : bw_W g R k Q cu su pc lv (.ref a :: st) A := by
  intro p l e s m args below meth c H locs ls hX hR hs hl hv
  subst hp
  obtain ⟨C, T, N, h1, h2, h3, h4⟩ := hf
  exact va_get hX.1 hX.2.1 hX.2.2.2.2.2.1 h3 hX.2.2.2.2.1 hX.2.2.2.2.2.2.2.2.2.2.1.1 (hR.P ha) 0 rfl h1 kf h2 (hX.2.2.2.2.2.1 _ h4) (fun _ h => h) hv0 hd (kk p l e s m args below meth c H locs ls hX hR hs hl hv)
theorem bw_put {i ci kf : Nat} {a : Nat} {fs : List Value} {v : Value} {ty : FieldType} (pc' : Nat) (hd : decode k.2.1 pc = .ok (.putfield i, 3)) (hp : pc + 3 = pc') (hf : bw_fp k.1.cls i ci kf ty false) (ha : A.2 a = some (.inr (ci, fs))) (hn0 : narrow ty v = v) (hfit : fits ty v = true) (hlen : kf < fs.length)
    (kk : bw_W g R k Q cu su pc' lv st (bw_up A a (.inr (ci, fs.set kf v)))) : bw_W g R k Q cu su pc lv (v :: .ref a :: st) A := by
  intro p l e s m args below meth c H locs ls hX hR hs hl hv
  subst hp
  obtain ⟨C, T, N, ty0, hc, hk, hin, hlk, hty, hnm, hfin, -, het⟩ := hf
  have hts := hX.2.2.2.2.2.1
  have hK := hX.2.2.2.2.2.2.2.2.2.2.1.1
  have hap := va_apart (own := k.1.cls) hts hin ty0 hty hnm hK hc
  have hd' : parseFieldDescriptor (T kf).2.2.1 = some ty := by rw [hty kf hk, het]
  obtain ⟨r, h1, cell, q1, q2, q3, q4⟩ := (hR.2.2.2 a _ ha).2
  have hr : r = (C, T, N) := Option.some.inj (h1.symm.trans hc)
  subst hr
  obtain ⟨hS, hfc, kC, hkC, hkind⟩ := hK.1 ci _ hc
  obtain ⟨cf, kf', fi, f, hi, hsl⟩ := hS kf hk
  have hlay := hts _ (hin _ (u_in_lay hk))
  unfold u_lay at hlay
  rw [if_neg (by rw [hfin]; decide)] at hlay
  have hst := (u_facts hfc hkC (u_lays hts hin hk) hi).1
  have h6 := u_store hfc hkC hkind hlay hi hd' hn0 hfit
  refine W.putK hX.1 hX.2.1 (f := f) ⟨hX.2.2.2.2.1, hts _ hlk, ⟨_, _, _, hi⟩, hst⟩ (by rw [q2]; exact h6) q1 q3 (by rw [hsl]; exact k2_hasslot (q4 kf hk)) rfl rfl hd fun H' e1 e2 e3 => ?_
  rw [hsl] at e1 ⊢
  refine kk p l e s m args below meth c H' _ ls hX (hR.up ha e2 e3 ⟨_, hc, t_OB.to (V := updV (vp_V fs) kf v) ⟨_, e1, q2, q3, t_set q4 hap hk v⟩ (fun j _ => vp_updV_set hlen v j)⟩) (by rw [e2]; exact hs) (fun z hz => ?_) hv
  rcases List.mem_append.mp hz with h | h
  · exact hl z h
  · rw [List.mem_singleton.mp h]; exact (hR.2.2.2 a _ ha).1
theorem bw_putF {i ci kf : Nat} {a : Nat} {fs : List Value} {v : Value} {ty : FieldType} (pc' : Nat) (hd : decode k.2.1 pc = .ok (.putfield i, 3)) (hp : pc + 3 = pc') (hf : bw_fp k.1.cls i ci kf ty true) (hi0 : k.1.name = "<init>") (ha : A.2 a = some (.inr (ci, fs))) (hn0 : narrow ty v = v) (hfit : fits ty v = true) (hlen : kf < fs.length)
    (kk : bw_W g R k Q cu su pc' lv st (bw_up A a (.inr (ci, fs.set kf v)))) : bw_W g R k Q cu su pc lv (v :: .ref a :: st) A := by
  intro p l e s m args below meth c H locs ls hX hR hs hl hv
  subst hp
  obtain ⟨C, T, N, ty0, hc, hk, hin, hlk, hty, hnm, hfin, hdecl, het⟩ := hf
  have hdecl := hdecl rfl
  have hts := hX.2.2.2.2.2.1
  have hown := hX.2.2.2.2.1
  have hK := hX.2.2.2.2.2.2.2.2.2.2.1.1
  have hap := va_apart (own := k.1.cls) hts hin ty0 hty hnm hK hc
  have hd' : parseFieldDescriptor (T kf).2.2.1 = some ty := by rw [hty kf hk, het]
  obtain ⟨r, h1, cell, q1, q2, q3, q4⟩ := (hR.2.2.2 a _ ha).2
  have hr : r = (C, T, N) := Option.some.inj (h1.symm.trans hc)
  subst hr
  obtain ⟨hS, hfc, kC, hkC, hkind⟩ := hK.1 ci _ hc
  obtain ⟨cf, kf', fi, f, hi, hsl⟩ := hS kf hk
  have hlay := hts _ (hin _ (u_in_lay hk))
  unfold u_lay at hlay
  rw [if_pos hfin] at hlay
  have hst := (u_facts hfc hkC (u_lays hts hin hk) hi).1
  have hcf : m.cls = cf := by
    obtain ⟨_, _, c', _, _, _, -, -, hf', -, -, -, hown2, -⟩ := Cond.laysFinal_spec hlay
    have e1 : c' = cf := by have := hi.symm.trans hf'; simp at this; exact this.1.symm
    rw [hdecl] at hown2
    rw [← e1]; exact Option.some.inj (hown.symm.trans hown2)
  have h6 := u_fits hfc hkC hkind (Or.inr hlay) hi hd' hn0 hfit
  refine W.putFinK hX.1 hX.2.1 hown (hts _ hlk) hi hst hcf (hX.2.2.2.2.2.2.2.1.trans hi0) (by rw [q2]; exact h6) q1 q3 (by rw [hsl]; exact k2_hasslot (q4 kf hk)) rfl rfl hd fun H' e1 e2 e3 => ?_
  rw [hsl] at e1 ⊢
  refine kk p l e s m args below meth c H' _ ls hX (hR.up ha e2 e3 ⟨_, hc, t_OB.to (V := updV (vp_V fs) kf v) ⟨_, e1, q2, q3, t_set q4 hap hk v⟩ (fun j _ => vp_updV_set hlen v j)⟩) (by rw [e2]; exact hs) (fun z hz => ?_) hv
  rcases List.mem_append.mp hz with h | h
  · exact hl z h
  · rw [List.mem_singleton.mp h]; exact (hR.2.2.2 a _ ha).1
/-! arrays: kinds 0 int, 1 long, 2 int[], 3 Matrix, 4 Polynomial -/
abbrev bw_ai (g : bw_G) (n : Nat) (f : Nat → Int32) : va_E := .inl (g.2.1 0, n, .inl f)
abbrev bw_al (g : bw_G) (n : Nat) (f : Nat → Int64) : va_E := .inl (g.2.1 1, n, .inr (.inl f))
abbrev bw_aq (g : bw_G) (t n : Nat) (f : Nat → Option Nat) : va_E := .inl (g.2.1 t, n, .inr (.inr (.inr (.inr f))))
theorem bw_iald {a n : Nat} {f : Nat → Int32} {j : Int32} (pc' : Nat) (hd : decode k.2.1 pc = .ok (.iaload, 1)) (hp : pc + 1 = pc') (ha : A.2 a = some (bw_ai g n f)) (hin : vp_in j n)
    (kk : bw_W g R k Q cu su pc' lv (.int (f j.toNatClampNeg) :: st) A) : bw_W g R k Q cu su pc lv (.int j :: .ref a :: st) A := by
  intro p l e s m args below meth c H locs ls hX hR hs hl hv
  subst hp
  exact va_iald hX.1 hX.2.1 hX.2.2.2.2.2.2.2.2.2.2.1.1 (hR.P ha) 0 0 rfl rfl hin hd (kk p l e s m args below meth c H locs ls hX hR hs hl hv)
theorem bw_lald {a n : Nat} {f : Nat → Int64} {j : Int32} (pc' : Nat) (hd : decode k.2.1 pc = .ok (.laload, 1)) (hp : pc + 1 = pc') (ha : A.2 a = some (bw_al g n f)) (hin : vp_in j n)
    (kk : bw_W g R k Q cu su pc' lv (.long (f j.toNatClampNeg) :: st) A) : bw_W g R k Q cu su pc lv (.int j :: .ref a :: st) A := by
  intro p l e s m args below meth c H locs ls hX hR hs hl hv
  subst hp
  exact va_lald hX.1 hX.2.1 hX.2.2.2.2.2.2.2.2.2.2.1.1 (hR.P ha) 0 1 rfl rfl hin hd (kk p l e s m args below meth c H locs ls hX hR hs hl hv)
theorem bw_alen {a : Nat} {cA : ClassId} {x : vp_A} {v : Int32} (t : Nat) {ty : FieldType} (pc' : Nat) (hd : decode k.2.1 pc = .ok (.arraylength, 1)) (hp : pc + 1 = pc') (ht : (bw_ty g.2.1)[t]? = some (cA, ty)) (ha : A.2 a = some (.inl (cA, x))) (hv0 : Int32.ofNat x.1 = v)
    (kk : bw_W g R k Q cu su pc' lv (.int v :: st) A) : bw_W g R k Q cu su pc lv (.ref a :: st) A := by
  intro p l e s m args below meth c H locs ls hX hR hs hl hv
  subst hp
  exact va_alen hX.1 hX.2.1 hX.2.2.2.2.2.2.2.2.2.2.1.1 (hR.P ha) 0 t rfl ht hv0 hd (kk p l e s m args below meth c H locs ls hX hR hs hl hv)
theorem bw_iast {a n : Nat} {f : Nat → Int32} {j x : Int32} (pc' : Nat) (hd : decode k.2.1 pc = .ok (.iastore, 1)) (hp : pc + 1 = pc') (ha : A.2 a = some (bw_ai g n f)) (hin : vp_in j n)
    (kk : bw_W g R k Q cu su pc' lv st (bw_up A a (bw_ai g n (upd f j.toNatClampNeg x)))) : bw_W g R k Q cu su pc lv (.int x :: .int j :: .ref a :: st) A := by
  intro p l e s m args below meth c H locs ls hX hR hs hl hv
  subst hp
  have hK := hX.2.2.2.2.2.2.2.2.2.2.1.1
  refine W.iast hX.1 hX.2.1 (hR.2.2.2 a _ ha).2 ((hK.2 0 _ rfl).1 n (fun j => .int (f j))) (fun q => by cases q) (by show ¬ (j < 0 ∨ (arrV _ _ _).slots.size ≤ _); rw [arrV_size]; exact hin) rfl rfl hd fun H1 e1 z oq => ?_
  refine kk p l e s m args below meth c H1 _ ls hX (hR.up ha z oq ?_) (by rw [z]; exact hs) (fun z hz => ?_) hv
  · show H1[a]? = some (vp_cell _ _)
    rw [e1]
    rw [vp_cell_i, vp_cell_i, arrV_store]
    congr 2
    funext q
    by_cases hq : q = j.toNatClampNeg
    · subst hq
      simp [updV, upd]
    · simp [updV, upd, hq]
  · rcases List.mem_append.mp hz with h | h
    · exact hl z h
    · rw [List.mem_singleton.mp h]; exact (hR.2.2.2 a _ ha).1
theorem bw_last {a n : Nat} {f : Nat → Int64} {j : Int32} {x : Int64} (pc' : Nat) (hd : decode k.2.1 pc = .ok (.lastore, 1)) (hp : pc + 1 = pc') (ha : A.2 a = some (bw_al g n f)) (hin : vp_in j n)
    (kk : bw_W g R k Q cu su pc' lv st (bw_up A a (bw_al g n (vp_updL f j.toNatClampNeg x)))) : bw_W g R k Q cu su pc lv (.long x :: .int j :: .ref a :: st) A := by
  intro p l e s m args below meth c H locs ls hX hR hs hl hv
  subst hp
  have hK := hX.2.2.2.2.2.2.2.2.2.2.1.1
  refine W.last hX.1 hX.2.1 (hR.2.2.2 a _ ha).2 ((hK.2 1 _ rfl).1 n (fun j => .long (f j))) (fun q => by cases q) (by show ¬ (j < 0 ∨ (arrV _ _ _).slots.size ≤ _); rw [arrV_size]; exact hin) rfl rfl hd fun H1 e1 z oq => ?_
  refine kk p l e s m args below meth c H1 _ ls hX (hR.up ha z oq ?_) (by rw [z]; exact hs) (fun z hz => ?_) hv
  · show H1[a]? = some (vp_cell _ _)
    rw [e1]
    rw [vp_cell_l, vp_cell_l, arrV_store]
    congr 2
    funext q
    by_cases hq : q = j.toNatClampNeg
    · subst hq
      simp [updV, vp_updL]
    · simp [updV, vp_updL, hq]
  · rcases List.mem_append.mp hz with h | h
    · exact hl z h
    · rw [List.mem_singleton.mp h]; exact (hR.2.2.2 a _ ha).1
theorem bw_aald {a n t y : Nat} {f : Nat → Option Nat} {j : Int32} {ty : FieldType} (pc' : Nat) (hd : decode k.2.1 pc = .ok (.aaload, 1)) (hp : pc + 1 = pc') (ht : (bw_ty g.2.1)[t]? = some (g.2.1 t, ty)) (hr : ty.isReference = true) (ha : A.2 a = some (bw_aq g t n f)) (hin : vp_in j n) (hy : f j.toNatClampNeg = some y)
    (kk : bw_W g R k Q cu su pc' lv (.ref y :: st) A) : bw_W g R k Q cu su pc lv (.int j :: .ref a :: st) A := by
  intro p l e s m args below meth c H locs ls hX hR hs hl hv
  subst hp
  have hK := hX.2.2.2.2.2.2.2.2.2.2.1.1
  have hlt : j.toNatClampNeg < n := Nat.not_le.mp fun q => hin (Or.inr q)
  exact W.aald (v := .ref y) (ty := ty) hX.1 hX.2.1 (hR.2.2.2 a _ ha).2 ((hK.2 t _ ht).1 n (fun j => va_rf (f j))) hr (fun q => by cases q) (by show ¬ (j < 0 ∨ (arrV _ _ _).slots.size ≤ _); rw [arrV_size]; exact hin) (by show (arrV _ _ _).slots[_]? = _; rw [arrV_read _ _ hlt, hy]; rfl) rfl rfl hd (kk p l e s m args below meth c H locs ls hX hR hs hl hv)
theorem bw_aast {a n t v ci : Nat} {r : vw_C} {vs : List Value} {f : Nat → Option Nat} {j : Int32} (pc' : Nat) (hd : decode k.2.1 pc = .ok (.aastore, 1)) (hp : pc + 1 = pc') (ht : (bw_ty g.2.1)[t]? = some (g.2.1 t, .object r.1)) (hc : vwCl[ci]? = some r) (ha : A.2 a = some (bw_aq g t n f)) (hv0 : A.2 v = some (.inr (ci, vs))) (hin : vp_in j n)
    (kk : bw_W g R k Q cu su pc' lv st (bw_up A a (bw_aq g t n (va_up f j.toNatClampNeg (some v))))) : bw_W g R k Q cu su pc lv (.ref v :: .int j :: .ref a :: st) A := by
  intro p l e s m args below meth c H locs ls hX hR hs hl hv
  subst hp
  have hK := hX.2.2.2.2.2.2.2.2.2.2.1.1
  have hlt : j.toNatClampNeg < n := Nat.not_le.mp fun q => hin (Or.inr q)
  have h0 : ¬ j < 0 := fun q => hin (Or.inl q)
  obtain ⟨r', hr', cellV, g1, g2, g3, -⟩ := (hR.2.2.2 v _ hv0).2
  have hcls := (hK.1 ci r hc).2
  obtain ⟨kA, comp, k1, k2, k3, -⟩ := (hK.2 t _ ht).2
  have hcomp : comp = g.1.1 ci := Option.some.inj (k3.symm.trans hcls.1)
  subst hcomp
  obtain ⟨kC, hkC, -⟩ := hcls.2
  refine W.aast hX.1 hX.2.1 (hR.2.2.2 a _ ha).2 (fun q h => by cases h) (fun h => by cases h) k1 k2 rfl hkC ⟨h0, by show _ < (arrV _ _ _).slots.size; rw [arrV_size]; exact hlt⟩ g1 (fun q h => by rw [g3] at h; cases h) (by rw [g2]; exact hkC) (by rw [g2]; exact va_assign hcls) rfl rfl hd fun H1 e1 z oq => ?_
  refine kk p l e s m args below meth c H1 _ ls hX (hR.up ha z oq ?_) (by rw [z]; exact hs) (fun z hz => ?_) hv
  · show H1[a]? = some (vp_cell _ _)
    rw [e1]
    rw [vp_cell_q, vp_cell_q, arrV_store]
    congr 2
    funext q
    by_cases hq : q = j.toNatClampNeg
    · subst hq
      simp [updV, va_up, va_rf]
    · simp [updV, va_up, hq]
  · rcases List.mem_append.mp hz with h | h
    · exact hl z h
    · rw [List.mem_singleton.mp h]; exact (hR.2.2.2 a _ ha).1
/-! making -/
def bw_nl (own : String) (idx ci N : Nat) (fs : List Value) : Prop := ∃ (C : String) (T : u_T) (ty : Nat → FieldType), vwCl[ci]? = some (C, T, N) ∧ (∀ w ∈ u_ws C T N, w ∈ bw_uw) ∧ (∀ k, k < N → parseFieldDescriptor (T k).2.2.1 = some (ty k)) ∧
  Cond.classLink own idx C ∈ bw_uw ∧ Cond.instantiable C N ∈ bw_uw ∧ Cond.initialized C ∈ bw_uw ∧ ∀ j, j < N → defaultValue (ty j) = vp_V fs j
theorem bw_new {i ci N : Nat} {fs : List Value} (pc' : Nat) (hd : decode k.2.1 pc = .ok (.new i, 3)) (hp : pc + 3 = pc') (hn : bw_nl k.1.cls i ci N fs) (hc : cu + 1 ≤ R.cells) (hsl : su + N ≤ R.slots)
    (kk : bw_W g R k Q (cu + 1) (su + N) pc' lv (.ref A.1 :: st) (bw_nw A (.inr (ci, fs)))) : bw_W g R k Q cu su pc lv st A := by
  intro p l e s m args below meth c H locs ls hX hR hs hl hv
  subst hp
  obtain ⟨C, T, ty, h1, h2, h3, h4, h5, h6, h7⟩ := hn
  have hts := hX.2.2.2.2.2.1
  have hK := hX.2.2.2.2.2.2.2.2.2.2.1.1
  have hKn := hK.1 ci _ h1
  refine W.newcK hX.1 hX.2.1 hX.2.2.2.2.1 (hts _ h4) (hts _ h5) (hts _ h6) rfl hd hc hsl hKn.2.1 hR.1 fun H1 kC hkC e1 z1 o1 => ?_
  refine kk p l e s m args below meth c H1 locs ls hX (hR.nw z1 o1 ⟨_, h1, (u_born ty hts h2 hKn hkC e1 h3).to h7⟩) ?_ hl hv
  have := hR.1
  omega
theorem bw_arrK {t : Nat} {ty : FieldType} {cA : ClassId} {s : State} (hK : va_K g.1 vwCl (bw_ty g.2.1) s) (ht : (bw_ty g.2.1)[t]? = some (g.2.1 t, ty)) (hn : s.vm.findClass ("[" ++ ty.toString) = some cA) : cA = g.2.1 t := by
  have h := (hK.2 t _ ht).2
  cases ty with
  | object C =>
    obtain ⟨kA, comp, h1, h2, h3, h4⟩ := h
    exact Option.some.inj (hn.symm.trans h4)
  | _ => exact Option.some.inj (hn.symm.trans h)
theorem bw_newi {n : Int32} {N : Nat} (pc' : Nat) (hd : decode k.2.1 pc = .ok (.newarray .int, 2)) (hp : pc + 2 = pc') (hw : Cond.arrayClass .int ∈ bw_uw) (hn : ¬ n < 0) (hN : n.toNatClampNeg = N) (hb : N ≤ 134217728) (hc : cu + 1 ≤ R.cells) (hsl : su + N ≤ R.slots)
    (kk : bw_W g R k Q (cu + 1) (su + N) pc' lv (.ref A.1 :: st) (bw_nw A (bw_ai g N (fun _ => 0)))) : bw_W g R k Q cu su pc lv (.int n :: st) A := by
  intro p l e s m args below meth c H locs ls hX hR hs hl hv
  subst hp
  have hts := hX.2.2.2.2.2.1
  have hK := hX.2.2.2.2.2.2.2.2.2.2.1.1
  refine va_newaK (atype := .int) hX.1 hX.2.1 (hts _ hw) rfl hd rfl hn hN (by show N * 4 ≤ 536870912; omega) hc hsl hR.1 fun H1 cA e1 z1 o1 hAr hNm => ?_
  have hcA : cA = g.2.1 0 := bw_arrK (t := 0) (ty := .int) hK rfl hNm
  subst hcA
  refine kk p l e s m args below meth c H1 locs ls hX (hR.nw z1 o1 ?_) ?_ hl hv
  · exact e1
  · have := hR.1
    omega
theorem bw_newl {n : Int32} {N : Nat} (pc' : Nat) (hd : decode k.2.1 pc = .ok (.newarray .long, 2)) (hp : pc + 2 = pc') (hw : Cond.arrayClass .long ∈ bw_uw) (hn : ¬ n < 0) (hN : n.toNatClampNeg = N) (hb : N ≤ 67108864) (hc : cu + 1 ≤ R.cells) (hsl : su + N ≤ R.slots)
    (kk : bw_W g R k Q (cu + 1) (su + N) pc' lv (.ref A.1 :: st) (bw_nw A (bw_al g N (fun _ => 0)))) : bw_W g R k Q cu su pc lv (.int n :: st) A := by
  intro p l e s m args below meth c H locs ls hX hR hs hl hv
  subst hp
  have hts := hX.2.2.2.2.2.1
  have hK := hX.2.2.2.2.2.2.2.2.2.2.1.1
  refine va_newaK (atype := .long) hX.1 hX.2.1 (hts _ hw) rfl hd rfl hn hN (by show N * 8 ≤ 536870912; omega) hc hsl hR.1 fun H1 cA e1 z1 o1 hAr hNm => ?_
  have hcA : cA = g.2.1 1 := bw_arrK (t := 1) (ty := .long) hK rfl hNm
  subst hcA
  refine kk p l e s m args below meth c H1 locs ls hX (hR.nw z1 o1 ?_) ?_ hl hv
  · exact e1
  · have := hR.1
    omega
theorem bw_newq {n : Int32} {N i t : Nat} {C : String} (pc' : Nat) (hd : decode k.2.1 pc = .ok (.anewarray i, 3)) (hp : pc + 3 = pc') (ht : (bw_ty g.2.1)[t]? = some (g.2.1 t, .object C)) (hw : C = "ByteFields$Matrix" ∨ C = "ByteFields$Polynomial") (hlk : Cond.classLink k.1.cls i C ∈ bw_uw) (hn : ¬ n < 0) (hN : n.toNatClampNeg = N) (hb : N ≤ 134217728) (hc : cu + 1 ≤ R.cells) (hsl : su + N ≤ R.slots)
    (kk : bw_W g R k Q (cu + 1) (su + N) pc' lv (.ref A.1 :: st) (bw_nw A (bw_aq g t N (fun _ => none)))) : bw_W g R k Q cu su pc lv (.int n :: st) A := by
  intro p l e s m args below meth c H locs ls hX hR hs hl hv
  subst hp
  subst hN
  have hts := hX.2.2.2.2.2.1
  have hK := hX.2.2.2.2.2.2.2.2.2.2.1.1
  have hgl := hX.2.2.2.2.2.2.2.2.2.2.1.2.2.2.2
  have hAO : va_AO C s := by rcases hw with rfl | rfl; exact hgl.2.2.1; exact hgl.2.2.2.1
  refine W.anew hX.1 hX.2.1 hX.2.2.2.2.1 (hts _ hlk) (va_AO.use hAO) rfl hd rfl hn (by omega) hc hsl fun cA kA comp f1 f2 f3 f4 => ?_
  have hcA : cA = g.2.1 t := bw_arrK hK ht f1
  subst hcA
  have hsz := hR.1
  generalize hH1 : H.push ({ cls := g.2.1 t, slots := Array.replicate n.toNatClampNeg .null, vm := .none } : Cell) = H1
  have z1 : H1.size = A.1 + 1 := by rw [← hH1, Array.size_push, hsz]
  have e1 : H1[A.1]? = some (arrV (g.2.1 t) n.toNatClampNeg (fun _ => .null)) := by rw [← hH1, ← hsz, Array.getElem?_push_size, ← arrV_new]
  have o1 : ∀ q : Nat, q < A.1 → H1[q]? = H[q]? := fun q hq => by rw [← hH1, Array.getElem?_push, if_neg (by omega)]
  rw [hsz]
  exact kk p l e s m args below meth c H1 locs ls hX (hR.nw z1 o1 e1) (by omega) hl hv
/-- new int[N][M]: the outer array, then its rows -/
def bw_mna (g : bw_G) (N M : Nat) (A : bw_H) : bw_H := (A.1 + 1 + N, fun b => if b = A.1 then some (bw_aq g 2 N (fun i => if i < N then some (A.1 + 1 + i) else none)) else if A.1 < b ∧ b < A.1 + 1 + N then some (bw_ai g M (fun _ => 0)) else A.2 b)
theorem bw_multi {n q : Int32} {N M i : Nat} (pc' : Nat) (hd : decode k.2.1 pc = .ok (.multianewarray i 2, 4)) (hp : pc + 4 = pc') (hw2 : Cond.arrayClass .int ∈ bw_uw) (hlk : Cond.classLink k.1.cls i "[[I" ∈ bw_uw) (hn : ¬ n < 0) (hq : ¬ q < 0) (hN : n.toNatClampNeg = N) (hM : q.toNatClampNeg = M) (hb : N ≤ 134217728) (hb2 : M ≤ 134217728) (hc : cu + (1 + N) ≤ R.cells) (hsl : su + (N + N * M) ≤ R.slots)
    (kk : bw_W g R k Q (cu + 1 + N) (su + N + N * M) pc' lv (.ref A.1 :: st) (bw_mna g N M A)) : bw_W g R k Q cu su pc lv (.int q :: .int n :: st) A := by
  intro p l e s m args below meth c H locs ls hX hR hs hl hv
  subst hp
  subst hN
  subst hM
  have hts := hX.2.2.2.2.2.1
  have hK := hX.2.2.2.2.2.2.2.2.2.2.1.1
  intro T hT X
  obtain ⟨vm₁, cA, comp, -, fA, fC, hO, -, X', step⟩ := X.multianewarray2F (ty := .int) hX.1 hX.2.2.2.2.1 (hts _ hlk) hX.2.2.2.2.2.2.2.2.2.2.1.2.2.2.2.2.2.2.2.1 (hts _ hw2) (g := F0 m pc ls (.int q :: .int n :: st)) rfl (by rw [hX.2.1]; exact hd) rfl hn hq (by omega) (by show _ * 4 ≤ _; omega) (by omega) rfl rfl hc hsl
  have hcA : cA = g.2.1 2 := bw_arrK (t := 2) (ty := .array .int) hK rfl fA
  have hcC : comp = g.2.1 0 := bw_arrK (t := 0) (ty := .int) hK rfl fC
  subst hcA
  subst hcC
  generalize hF : Jvm.Free.Multi.fill (T.setVm vm₁) (g.2.1 2) (g.2.1 0) n.toNatClampNeg q.toNatClampNeg (defaultValue .int) n.toNatClampNeg = F at X' step
  have hTh : (T.setVm vm₁).heap = H := hT
  have hsz := hR.1
  obtain ⟨f1, f2, -, -⟩ := Jvm.Free.Multi.fill_facts (T.setVm vm₁) (g.2.1 2) (g.2.1 0) n.toNatClampNeg q.toNatClampNeg (defaultValue .int) n.toNatClampNeg
  rw [hF, hTh] at f1 f2
  have hold : ∀ x : Nat, x < H.size → F.heap[x]? = H[x]? := fun x hx => by
    have := Jvm.Free.Multi.fill_old (T.setVm vm₁) (g.2.1 2) (g.2.1 0) n.toNatClampNeg q.toNatClampNeg (defaultValue .int) (a := x) (by rw [hTh]; exact hx) n.toNatClampNeg
    rw [hF, hTh] at this
    exact this
  have hrow : ∀ j : Nat, j < n.toNatClampNeg → F.heap[H.size + 1 + j]? = some (vp_cell (g.2.1 0) (q.toNatClampNeg, .inl (fun _ => 0))) := fun j hj => by
    have := Jvm.Free.Multi.fill_inner (T.setVm vm₁) (g.2.1 2) (g.2.1 0) n.toNatClampNeg q.toNatClampNeg (defaultValue .int) n.toNatClampNeg j hj
    rw [hF, hTh] at this
    rw [this, vp_cell_i, ← arrV_new]
    rfl
  rw [vr_outer] at f2
  have hR' : bw_R g (bw_mna g n.toNatClampNeg q.toNatClampNeg A) F.heap := by
    obtain ⟨h1, h2, h3, h4⟩ := hR
    refine ⟨by show _ = A.1 + 1 + _; omega, by show _ ≤ A.1 + 1 + _; omega, fun x hx => by rw [hold x (by omega)]; exact h3 x hx, fun b e' hb => ?_⟩
    have hb : (if b = A.1 then some (bw_aq g 2 n.toNatClampNeg (fun i => if i < n.toNatClampNeg then some (A.1 + 1 + i) else none)) else if A.1 < b ∧ b < A.1 + 1 + n.toNatClampNeg then some (bw_ai g q.toNatClampNeg (fun _ => 0)) else A.2 b) = some e' := hb
    by_cases hb1 : b = A.1
    · rw [if_pos hb1] at hb
      cases hb
      subst hb1
      refine ⟨h2, ?_⟩
      rw [← h1]
      exact f2
    · rw [if_neg hb1] at hb
      by_cases hb2 : A.1 < b ∧ b < A.1 + 1 + n.toNatClampNeg
      · rw [if_pos hb2] at hb
        cases hb
        refine ⟨by omega, ?_⟩
        have := hrow (b - A.1 - 1) (by omega)
        rw [show H.size + 1 + (b - A.1 - 1) = b by omega] at this
        exact this
      · rw [if_neg hb2] at hb
        have h5 := h4 b e' hb
        have hlt : b < H.size := va_at.lt h5.2
        exact ⟨h5.1, va_at.kept h5.2 (hold b hlt)⟩
  have hTs : T.heap.size = A.1 := by rw [hT]; exact hsz
  rw [hTs] at step
  obtain ⟨t2, a1, b1⟩ := kk p l e s m args below meth c F.heap locs ls hX hR' (by have := hR'.1; have : F.heap.size = A.1 + 1 + n.toNatClampNeg := this; omega) hl hv F rfl X'
  exact ⟨t2, step t2 a1, b1⟩
/-! the tables of PRIMES -/
theorem bw_Sx {p : Program} {l : Launch} {s : State} {m : MethodId} {args : Array Value} {meth : Method} {c : Code} {H : Heap} {locs : List Loc} (hX : bw_X g k p l s m args meth c) (hR : bw_R g A H) (hs : s.heap.size ≤ H.size) (hl : ∀ z ∈ locs, bw_lo g ≤ z.base) : va_S (bw_fr g) s.heap H locs :=
  ⟨hs, fun q _ h => by
    have hq : q < bw_lo g := Nat.not_le.mp h
    rw [hR.2.2.1 q hq, hX.2.2.2.2.2.2.2.2.2.2.2.2 q hq], hl⟩
theorem bw_primes {i : Nat} (pc' : Nat) (hd : decode k.2.1 pc = .ok (.getstatic i, 3)) (hp : pc + 3 = pc') (hlk : Cond.fieldLink k.1.cls i "ByteFields$Field" "PRIMES" "[I" ∈ bw_uw)
    (kk : bw_W g R k Q cu su pc' lv (.ref g.2.2.2.1 :: st) A) : bw_W g R k Q cu su pc lv st A := by
  intro p l e s m args below meth c H locs ls hX hR hs hl hv
  subst hp
  have hZ := va_Z.kept hX.2.2.2.2.2.2.2.2.2.2.1.2.1.1 (H1 := s.heap) (fun a h1 h2 => hX.2.2.2.2.2.2.2.2.2.2.2.2 a h1)
  exact va_gets hX.1 hX.2.1 hZ (bw_Sx hX hR hs hl) hX.2.2.2.2.1 (hX.2.2.2.2.2.1 _ hlk) (fun _ h => h) hd (kk p l e s m args below meth c H locs ls hX hR hs hl hv)
theorem bw_primeLen (pc' : Nat) (hd : decode k.2.1 pc = .ok (.arraylength, 1)) (hp : pc + 1 = pc')
    (kk : bw_W g R k Q cu su pc' lv (.int 4 :: st) A) : bw_W g R k Q cu su pc lv (.ref g.2.2.2.1 :: st) A := by
  intro p l e s m args below meth c H locs ls hX hR hs hl hv
  subst hp
  have hT := va_T.kept hX.2.2.2.2.2.2.2.2.2.2.1.2.1.2 (H1 := s.heap) (fun a h1 h2 => hX.2.2.2.2.2.2.2.2.2.2.2.2 a h1)
  exact va_tlen hX.1 hX.2.1 hT (bw_Sx hX hR hs hl) rfl hd (kk p l e s m args below meth c H locs ls hX hR hs hl hv)
theorem bw_primeAt {j : Int32} (pc' : Nat) (hd : decode k.2.1 pc = .ok (.iaload, 1)) (hp : pc + 1 = pc') (hin : vp_in j 4)
    (kk : bw_W g R k Q cu su pc' lv (.int (bw_pr j.toNatClampNeg) :: st) A) : bw_W g R k Q cu su pc lv (.int j :: .ref g.2.2.2.1 :: st) A := by
  intro p l e s m args below meth c H locs ls hX hR hs hl hv
  subst hp
  have hT := va_T.kept hX.2.2.2.2.2.2.2.2.2.2.1.2.1.2 (H1 := s.heap) (fun a h1 h2 => hX.2.2.2.2.2.2.2.2.2.2.2.2 a h1)
  exact va_ti hX.1 hX.2.1 hT (bw_Sx hX hR hs hl) hin rfl hd (kk p l e s m args below meth c H locs ls hX hR hs hl hv)
/-! ends -/
theorem bw_iret {v : Int32} (hd : decode k.2.1 pc = .ok (.ireturn, 1)) (hr : k.2.2.2.1 = some .int) (hc : cu ≤ R.cells) (hsl : su ≤ R.slots) (hq : Q (.inl (some (.int v))) A) : bw_W g R k Q cu su pc lv [.int v] A := by
  intro p l e s m args below meth c H locs ls hX hR hs hl hv
  have hlocks : meth.locks = false := hX.2.2.2.2.2.2.1
  exact W.widen hc hsl (vx_ret (W.iret hX.1 hX.2.1 (hX.2.2.2.1.trans hr) (fun t ht _ => ⟨_, A, rfl, by rw [ht]; exact hR, hq⟩) hl hd hlocks))
theorem bw_zret {v : Int32} (hd : decode k.2.1 pc = .ok (.ireturn, 1)) (hr : k.2.2.2.1 = some .boolean) (h01 : v = 0 ∨ v = 1) (hc : cu ≤ R.cells) (hsl : su ≤ R.slots) (hq : Q (.inl (some (.int v))) A) : bw_W g R k Q cu su pc lv [.int v] A := by
  intro p l e s m args below meth c H locs ls hX hR hs hl hv
  have hlocks : meth.locks = false := hX.2.2.2.2.2.2.1
  exact W.widen hc hsl (vx_ret (W.zret hX.1 hX.2.1 (hX.2.2.2.1.trans hr) (by rcases h01 with rfl | rfl <;> rfl) (fun t ht _ => ⟨_, A, rfl, by rw [ht]; exact hR, hq⟩) hl hd hlocks))
theorem bw_vret (hd : decode k.2.1 pc = .ok (.return_, 1)) (hr : k.2.2.2.1 = none) (hc : cu ≤ R.cells) (hsl : su ≤ R.slots) (hq : Q (.inl none) A) : bw_W g R k Q cu su pc lv [] A := by
  intro p l e s m args below meth c H locs ls hX hR hs hl hv
  have hlocks : meth.locks = false := hX.2.2.2.2.2.2.1
  exact W.widen hc hsl (vx_ret (W.vret hX.1 hX.2.1 (hX.2.2.2.1.trans hr) (fun t ht _ => ⟨_, A, rfl, by rw [ht]; exact hR, hq⟩) hl hd hlocks))
theorem bw_aret {a : Nat} {C : String} (hd : decode k.2.1 pc = .ok (.areturn, 1)) (hr : k.2.2.2.1 = some (.object C)) (hc : cu ≤ R.cells) (hsl : su ≤ R.slots) (hq : Q (.inl (some (.ref a))) A) : bw_W g R k Q cu su pc lv [.ref a] A := by
  intro p l e s m args below meth c H locs ls hX hR hs hl hv
  have hlocks : meth.locks = false := hX.2.2.2.2.2.2.1
  exact W.widen hc hsl (vx_ret (W.aret hX.1 hX.2.1 (hX.2.2.2.1.trans hr) (Or.inl ⟨C, rfl⟩) (Or.inr ⟨a, rfl⟩) (fun t ht _ => ⟨_, A, rfl, by rw [ht]; exact hR, hq⟩) hl hd hlocks))
/-- an exception of class E is on its way at pc -/
def bw_T (g : bw_G) (R : Room) (k : bw_M) (Q : bw_O → bw_H → Prop) (cu su pc : Nat) (lv : List (Nat × Value)) (A : bw_H) (E : String) : Prop :=
  ∀ (p : Program) (l : Launch) (e : Env) (s : State) (m : MethodId) (args : Array Value) (below : List Frame) (meth : Method) (c : Code) (H : Heap) (locs : List Loc) (ls : Array Slot) (q : Addr) (ce : Cell) (rest : List Value),
    bw_X g k p l s m args meth c → bw_R g A H → s.heap.size ≤ H.size → (∀ z ∈ locs, bw_lo g ≤ z.base) → lv_has ls k.2.2.1 lv → H[q]? = some ce → ce.vm = .none → s.vm.findClass E = some ce.cls →
    vx_W p l e R s m args below meth c H locs cu su (vx_MQ below (bw_q g Q) (bw_x g Q) args s R.cells R.slots (bw_fr g)) (F0 m pc ls rest) q
theorem bw_Tout {E : String} (ht : k.2.2.2.2 = []) (hc : cu ≤ R.cells) (hsl : su ≤ R.slots) (hq : Q (.inr E) A) : bw_T g R k Q cu su pc lv A E := by
  intro p l e s m args below meth c H locs ls q ce rest hX hR hs hl hv h1 h2 h3
  refine vx_out (fun x hx => ?_) hX.2.2.2.2.2.2.1 h1 h2 h3 (fun t ht _ => ⟨A, by rw [ht]; exact hR, hq⟩) hl hc hsl
  rw [hX.2.2.2.2.2.2.2.2.1, ht] at hx
  cases hx
theorem bw_Tcatch {E name : String} (pre : List ExceptionTableEntry) (x : ExceptionTableEntry) (suf : List ExceptionTableEntry) (hsplit : tableOf k.2.2.2.2 = pre ++ x :: suf)
    (hpass : ∀ z ∈ pre, covers z pc = false ∨ (z.catchType ≠ 0 ∧ ∃ nm : String, Cond.classLink k.1.cls z.catchType nm ∈ bw_uw ∧ ∀ s : State, bw_gl g s → va_Nc E nm s)) (hx : covers x pc = true) (h0 : x.catchType ≠ 0)
    (hlink : Cond.classLink k.1.cls x.catchType name ∈ bw_uw) (hcast : ∀ (s : State) (args : Array Value), (∀ w ∈ bw_uw, w.before args s = true) → bw_gl g s → (Cond.castable E name).before args s = true)
    (kk : ∀ q : Nat, bw_W g R k Q cu su x.handlerPc lv [.ref q] A) : bw_T g R k Q cu su pc lv A E := by
  intro p l e s m args below meth c H locs ls q ce rest hX hR hs hl hv h1 h2 h3
  have hts := hX.2.2.2.2.2.1
  have hgl := hX.2.2.2.2.2.2.2.2.2.2.1
  refine vx_catch hX.2.2.2.2.1 pre x suf (hX.2.2.2.2.2.2.2.2.1.trans hsplit) (fun z hz => ?_) hx h0 (hts _ hlink) (hcast s args hts hgl) h1 h2 h3 (kk q p l e s m args below meth c H locs ls hX hR hs hl hv)
  rcases hpass z hz with h | ⟨h, nm, h4, h5⟩
  · exact Or.inl h
  · exact Or.inr ⟨h, nm, hts _ h4, h5 s hgl⟩
/-! calls -/
theorem bw_blind {av : List Value} : FrameBlind (va_Pc av (fun U => bw_gl g U ∧ bw_R g A U.heap)) := fun a U f mk h => ⟨h.1, bw_gl.same (s := U) rfl h.2.1, h.2.2⟩
theorem bw_pay {s : State} {args : Array Value} {w0 : Cond} (hts : ∀ w ∈ bw_uw, w.before args s = true) (h0 : w0 ∈ bw_uw) : ∀ w ∈ w0 :: bw_uw, ∀ (a' : Array Value) (U : State), s.WarmedH U.vm → w.before a' U = true := by
  intro w hw a' U hW
  have h : w ∈ bw_uw := by
    rcases List.mem_cons.mp hw with e | h
    · rw [e]; exact h0
    · exact h
  exact word_at hW (good_of_word (bw_uwg h)) (hts w h)
/-- the words of a call -/
def bw_cb (own : String) (idx : Nat) (k' : bw_M) (n : Nat) : Prop := Cond.methodLink own idx k'.1 ∈ bw_uw ∧ Cond.initialized k'.1.cls ∈ bw_uw ∧ Cond.code k'.1 k'.2.1 k'.2.2.1 k'.2.2.2.1 ∈ bw_uw ∧
  (k'.1.cls ≠ "java/lang/invoke/MethodHandle" ∧ k'.1.cls ≠ "java/lang/invoke/VarHandle") ∧ (parseMethodDescriptor k'.1.desc).map (fun d => d.parameters.length) = some n
def bw_cv (own : String) (idx : Nat) (k' : bw_M) (n ci : Nat) : Prop := bw_cb own idx k' n ∧ Cond.instanceMethod k'.1 ∈ bw_uw ∧ Cond.selects k'.1.cls k'.1 k'.1 ∈ bw_uw ∧ ∃ q : vw_C, vwCl[ci]? = some q ∧ q.1 = k'.1.cls
def bw_cs (own : String) (idx : Nat) (k' : bw_M) (n : Nat) : Prop := bw_cb own idx k' n ∧ Cond.static k'.1 ∈ bw_uw
def bw_ci (own : String) (idx : Nat) (k' : bw_M) (n : Nat) : Prop := bw_cb own idx k' n ∧ Cond.instanceMethod k'.1 ∈ bw_uw ∧ k'.1.name = "<init>" ∧ k'.2.2.2.1 = none
theorem bw_cB {own : String} {idx n : Nat} {k' : bw_M} {R' : Room} {s : State} {args : Array Value} (h : bw_cb own idx k' n) (hts : ∀ w ∈ bw_uw, w.before args s = true) (hR : R'.frames + 1 ≤ R.frames ∧ 8 + (k'.2.2.1 + 11) + R'.locals ≤ R.locals) :
    CallB R s args own idx k'.1 k'.2.1 k'.2.2.1 k'.2.2.2.1 (.code k'.1 k'.2.1 k'.2.2.1 k'.2.2.2.1 :: bw_uw) R' R'.cells R'.slots n := by
  obtain ⟨h1, h2, h3, h4, h5⟩ := h
  refine ⟨rfl, rfl, hR.1, hR.2, bw_pay hts h3, List.mem_cons_self, hts _ h3, hts _ h2, h4, fun sig hsig => ?_, hts _ h1⟩
  rw [hsig] at h5
  exact (Option.some.inj h5).symm
theorem bw_callV {i n ci b : Nat} {k' : bw_M} {R' : Room} {As : List Value} {fs : List Value} {st0 : List Value} {Q' : bw_O → bw_H → Prop} (pc' : Nat) (hd : decode k.2.1 pc = .ok (.invokevirtual i, 3)) (hp : pc + 3 = pc') (hw : bw_cv k.1.cls i k' n ci) (hM : bw_C g R' k' (.ref b :: As) A Q')
    (hb : A.2 b = some (.inr (ci, fs))) (hn : As.length = n) (hst : st0 = As.reverse ++ .ref b :: st) (hcat : (st.map fun v => v.category).sum ≤ 8) (hR : R'.frames + 1 ≤ R.frames ∧ 8 + (k'.2.2.1 + 11) + R'.locals ≤ R.locals) (hc : cu + R'.cells ≤ R.cells) (hsl : su + R'.slots ≤ R.slots)
    (kx : ∀ (E : String) (A' : bw_H), Q' (.inr E) A' → bw_T g R k Q (cu + R'.cells) (su + R'.slots) pc lv A' E)
    (kk : ∀ (v : Option Value) (A' : bw_H), Q' (.inl v) A' → bw_W g R k Q (cu + R'.cells) (su + R'.slots) pc' lv (v.toList ++ st) A') : bw_W g R k Q cu su pc lv st0 A := by
  intro p l e s m args below meth c H locs ls hX hRl hs hl hv
  subst hp
  subst hst
  obtain ⟨hw1, hw2, hw3, ⟨C9, T9, N9⟩, hq1, hq2⟩ := hw
  have hts := hX.2.2.2.2.2.1
  have hgl := hX.2.2.2.2.2.2.2.2.2.2.1
  have hK := hgl.1
  have hrun := vx_runV (own := k.1.cls) (Ts := bw_uw) (C := k'.1.cls) (b := b) (As := As) (rest := st) (g := F0 m pc ls (As.reverse ++ .ref b :: st)) (H := H) (e := e) (below := below) (locs := locs) (cells := cu) (slots := su) (R := R) (meth := meth) ⟨hX.1, hX.2.1, hX.2.2.1, hX.2.2.2.2.1, hts⟩ (hM l hX.2.2.2.2.2.2.2.2.2.1) ⟨bw_cB hw1 hts hR, hts _ hw2, hts _ hw3⟩
    ⟨bw_blind, by
      obtain ⟨cell, c1, c2, c3⟩ := va_recv hK (hRl.P hb) hq1 (q0 := 0) rfl
      exact ⟨cell, c1, c2, by rw [← hq2]; exact c3⟩, fun U hU hW => ⟨rfl, hgl.warm hW, by rw [hU]; exact hRl⟩⟩ rfl hn hv.1 rfl (lv_room hcat) hd ⟨hc, hsl⟩
  intro T hT X
  rcases hrun T hT X with ⟨v, st₀, t, T', L, h0, X', hL, e1, e2, ⟨v', A', hv', hA', hQ'⟩, hgo⟩ | ⟨q, st₀, t, T', L, E, ce, h0, X', hL, e1, e2, ⟨A', hA', hQ'⟩, hce, hcv, hcl, hgo⟩
  · cases hv'
    have hz : s.heap.size ≤ T'.heap.size := by
      have := X'.same.2.1
      exact this
    obtain ⟨t2, a1, b1⟩ := kk v A' hQ' p l e s m args below meth c T'.heap (locs ++ L) ls hX (by rw [e1]; exact hA') hz (fun z hz => (List.mem_append.mp hz).elim (hl z) (hL z)) hv T' rfl X'
    exact ⟨t2, hgo t2 a1, b1⟩
  · have hz : s.heap.size ≤ T'.heap.size := by
      have := X'.same.2.1
      exact this
    obtain ⟨t2, a1, b1⟩ := kx E A' hQ' p l e s m args below meth c T'.heap (locs ++ L) ls q ce st hX (by rw [e1]; exact hA') hz (fun z hz => (List.mem_append.mp hz).elim (hl z) (hL z)) hv (by rw [e1]; exact hce) hcv hcl T' rfl X'
    exact ⟨t2, hgo.trans a1, b1⟩
theorem bw_callS {i n : Nat} {k' : bw_M} {R' : Room} {As : List Value} {st0 : List Value} {Q' : bw_O → bw_H → Prop} (pc' : Nat) (hd : decode k.2.1 pc = .ok (.invokestatic i, 3)) (hp : pc + 3 = pc') (hw : bw_cs k.1.cls i k' n) (hM : bw_C g R' k' As A Q')
    (hn : As.length = n) (hst : st0 = As.reverse ++ st) (hcat : (st.map fun v => v.category).sum ≤ 8) (hR : R'.frames + 1 ≤ R.frames ∧ 8 + (k'.2.2.1 + 11) + R'.locals ≤ R.locals) (hc : cu + R'.cells ≤ R.cells) (hsl : su + R'.slots ≤ R.slots)
    (kx : ∀ (E : String) (A' : bw_H), Q' (.inr E) A' → bw_T g R k Q (cu + R'.cells) (su + R'.slots) pc lv A' E)
    (kk : ∀ (v : Option Value) (A' : bw_H), Q' (.inl v) A' → bw_W g R k Q (cu + R'.cells) (su + R'.slots) pc' lv (v.toList ++ st) A') : bw_W g R k Q cu su pc lv st0 A := by
  intro p l e s m args below meth c H locs ls hX hRl hs hl hv
  subst hp
  subst hst
  obtain ⟨hw1, hw2⟩ := hw
  have hts := hX.2.2.2.2.2.1
  have hgl := hX.2.2.2.2.2.2.2.2.2.2.1
  have hrun := vx_runS (own := k.1.cls) (Ts := bw_uw) (As := As) (rest := st) (g := F0 m pc ls (As.reverse ++ st)) (H := H) (e := e) (below := below) (locs := locs) (cells := cu) (slots := su) (R := R) (meth := meth) ⟨hX.1, hX.2.1, hX.2.2.1, hX.2.2.2.2.1, hts⟩ (hM l hX.2.2.2.2.2.2.2.2.2.1) ⟨bw_cB hw1 hts hR, hts _ hw2⟩
    ⟨bw_blind, fun U hU hW => ⟨rfl, hgl.warm hW, by rw [hU]; exact hRl⟩⟩ rfl hn hv.1 rfl (lv_room hcat) hd ⟨hc, hsl⟩
  intro T hT X
  rcases hrun T hT X with ⟨v, st₀, t, T', L, h0, X', hL, e1, e2, ⟨v', A', hv', hA', hQ'⟩, hgo⟩ | ⟨q, st₀, t, T', L, E, ce, h0, X', hL, e1, e2, ⟨A', hA', hQ'⟩, hce, hcv, hcl, hgo⟩
  · cases hv'
    obtain ⟨t2, a1, b1⟩ := kk v A' hQ' p l e s m args below meth c T'.heap (locs ++ L) ls hX (by rw [e1]; exact hA') X'.same.2.1 (fun z hz => (List.mem_append.mp hz).elim (hl z) (hL z)) hv T' rfl X'
    exact ⟨t2, hgo t2 a1, b1⟩
  · obtain ⟨t2, a1, b1⟩ := kx E A' hQ' p l e s m args below meth c T'.heap (locs ++ L) ls q ce st hX (by rw [e1]; exact hA') X'.same.2.1 (fun z hz => (List.mem_append.mp hz).elim (hl z) (hL z)) hv (by rw [e1]; exact hce) hcv hcl T' rfl X'
    exact ⟨t2, hgo.trans a1, b1⟩
/-- the words of a static call of a method with handlers -/
def bw_ch (own : String) (idx : Nat) (k' : bw_M) (n : Nat) : Prop := Cond.methodLink own idx k'.1 ∈ bw_uw ∧ Cond.initialized k'.1.cls ∈ bw_uw ∧ Cond.codeWith k'.1 k'.2.1 k'.2.2.1 k'.2.2.2.1 k'.2.2.2.2 ∈ bw_uw ∧ Cond.static k'.1 ∈ bw_uw ∧
  (k'.1.cls ≠ "java/lang/invoke/MethodHandle" ∧ k'.1.cls ≠ "java/lang/invoke/VarHandle") ∧ (parseMethodDescriptor k'.1.desc).map (fun d => d.parameters.length) = some n
theorem bw_callH {i n : Nat} {k' : bw_M} {R' : Room} {As : List Value} {st0 : List Value} {Q' : bw_O → bw_H → Prop} (pc' : Nat) (hd : decode k.2.1 pc = .ok (.invokestatic i, 3)) (hp : pc + 3 = pc') (hw : bw_ch k.1.cls i k' n) (hM : bw_CH g R' k' As A Q')
    (hn : As.length = n) (hst : st0 = As.reverse ++ st) (hcat : (st.map fun v => v.category).sum ≤ 8) (hR : R'.frames + 1 ≤ R.frames ∧ 8 + (k'.2.2.1 + 11) + R'.locals ≤ R.locals) (hc : cu + R'.cells ≤ R.cells) (hsl : su + R'.slots ≤ R.slots)
    (kx : ∀ (E : String) (A' : bw_H), Q' (.inr E) A' → bw_T g R k Q (cu + R'.cells) (su + R'.slots) pc lv A' E)
    (kk : ∀ (v : Option Value) (A' : bw_H), Q' (.inl v) A' → bw_W g R k Q (cu + R'.cells) (su + R'.slots) pc' lv (v.toList ++ st) A') : bw_W g R k Q cu su pc lv st0 A := by
  intro p l e s m args below meth c H locs ls hX hRl hs hl hv
  subst hp
  subst hst
  obtain ⟨hw1, hw2, hw3, hw4, hw5, hw6⟩ := hw
  have hts := hX.2.2.2.2.2.1
  have hgl := hX.2.2.2.2.2.2.2.2.2.2.1
  have hrun := vx_runSX (own := k.1.cls) (Ts := bw_uw) (hh := k'.2.2.2.2) (bytes := k'.2.1) (maxL := k'.2.2.1) (ret := k'.2.2.2.1) (n := n) (index := i) (As := As) (rest := st) (g := F0 m pc ls (As.reverse ++ st)) (H := H) (e := e) (below := below) (locs := locs) (cells := cu) (slots := su) (R := R) (meth := meth) ⟨hX.1, hX.2.1, hX.2.2.1, hX.2.2.2.2.1, hts⟩ (hM l hX.2.2.2.2.2.2.2.2.2.1)
    ⟨⟨rfl, rfl, hR.1, hR.2, bw_pay hts hw3, List.mem_cons_self⟩, hts _ hw3, hts _ hw2, hw5, fun sig hsig => by rw [hsig] at hw6; exact (Option.some.inj hw6).symm, hts _ hw1, hts _ hw4⟩
    ⟨bw_blind, fun U hU hW => ⟨rfl, hgl.warm hW, by rw [hU]; exact hRl⟩⟩ rfl hn hv.1 rfl (lv_room hcat) hd ⟨hc, hsl⟩
  intro T hT X
  rcases hrun T hT X with ⟨v, st₀, t, T', L, h0, X', hL, e1, e2, ⟨v', A', hv', hA', hQ'⟩, hgo⟩ | ⟨q, st₀, t, T', L, E, ce, h0, X', hL, e1, e2, ⟨A', hA', hQ'⟩, hce, hcv, hcl, hgo⟩
  · cases hv'
    obtain ⟨t2, a1, b1⟩ := kk v A' hQ' p l e s m args below meth c T'.heap (locs ++ L) ls hX (by rw [e1]; exact hA') X'.same.2.1 (fun z hz => (List.mem_append.mp hz).elim (hl z) (hL z)) hv T' rfl X'
    exact ⟨t2, hgo t2 a1, b1⟩
  · obtain ⟨t2, a1, b1⟩ := kx E A' hQ' p l e s m args below meth c T'.heap (locs ++ L) ls q ce st hX (by rw [e1]; exact hA') X'.same.2.1 (fun z hz => (List.mem_append.mp hz).elim (hl z) (hL z)) hv (by rw [e1]; exact hce) hcv hcl T' rfl X'
    exact ⟨t2, hgo.trans a1, b1⟩
/-- constructors: they throw nothing -/
theorem bw_C.met {k' : bw_M} {R' : Room} {av : List Value} {Q' : bw_O → bw_H → Prop} (h : bw_C g R' k' av A Q') (hx : ∀ (E : String) (A' : bw_H), ¬ Q' (.inr E) A') (l : Launch) (hl : l.stackTraces = false) :
    Met l k'.1 (.code k'.1 k'.2.1 k'.2.2.1 k'.2.2.2.1 :: bw_uw) R' (va_Pc av (fun U => bw_gl g U ∧ bw_R g A U.heap)) (bw_q g Q') R'.cells R'.slots (bw_fr g) := by
  intro p e a1 a2 a3 s m args below b1 b2 b3 b4
  obtain ⟨n, o, c1, c2, c3, c4⟩ := h l hl p e a1 a2 a3 s m args below b1 b2 b3 b4
  refine ⟨n, o, c1, c2, c3, ?_⟩
  rcases c4 with c4 | ⟨q, -, E, ce, L, ⟨A', hA', hQ⟩, -⟩
  · exact c4
  · exact absurd hQ (hx E A')
theorem bw_callI {i n b : Nat} {k' : bw_M} {R' : Room} {As : List Value} {st0 : List Value} {Q' : bw_O → bw_H → Prop} (pc' : Nat) (hd : decode k.2.1 pc = .ok (.invokespecial i, 3)) (hp : pc + 3 = pc') (hw : bw_ci k.1.cls i k' n) (hM : bw_C g R' k' (.ref b :: As) A Q')
    (hx : ∀ (E : String) (A' : bw_H), ¬ Q' (.inr E) A') (hn : As.length = n) (hst : st0 = As.reverse ++ .ref b :: st) (hcat : (st.map fun v => v.category).sum ≤ 8) (hR : R'.frames + 1 ≤ R.frames ∧ 8 + (k'.2.2.1 + 11) + R'.locals ≤ R.locals) (hc : cu + R'.cells ≤ R.cells) (hsl : su + R'.slots ≤ R.slots)
    (kk : ∀ (v : Option Value) (A' : bw_H), Q' (.inl v) A' → bw_W g R k Q (cu + R'.cells) (su + R'.slots) pc' lv (v.toList ++ st) A') : bw_W g R k Q cu su pc lv st0 A := by
  intro p l e s m args below meth c H locs ls hX hRl hs hl hv
  subst hp
  subst hst
  obtain ⟨hw1, hw2, hw3, hw4⟩ := hw
  have hts := hX.2.2.2.2.2.1
  have hgl := hX.2.2.2.2.2.2.2.2.2.2.1
  have hcb := bw_cB (R := R) (R' := R') hw1 hts hR
  have hMM := hM.met hx l hX.2.2.2.2.2.2.2.2.2.1
  rw [hw4] at hcb hMM
  have hrun := va_runI (own := k.1.cls) (Ts := bw_uw) (b := b) (As := As) (rest := st) (g := F0 m pc ls (As.reverse ++ .ref b :: st)) (H := H) (e := e) (below := below) (locs := locs) (cells := cu) (slots := su) (R := R) (meth := meth) ⟨hX.1, hX.2.1, hX.2.2.1, hX.2.2.2.2.1, hts⟩ hMM ⟨hcb, hw3, hts _ hw2⟩
    ⟨bw_blind, fun U hU hW => ⟨rfl, hgl.warm hW, by rw [hU]; exact hRl⟩⟩ rfl hn hv.1 rfl (lv_room hcat) hd ⟨hc, hsl⟩
  intro T hT X
  obtain ⟨v, st₀, t, T', L, h0, X', hL, e1, e2, ⟨v', A', hv', hA', hQ'⟩, hgo⟩ := hrun T hT X
  cases hv'
  obtain ⟨t2, a1, b1⟩ := kk v A' hQ' p l e s m args below meth c T'.heap (locs ++ L) ls hX (by rw [e1]; exact hA') X'.same.2.1 (fun z hz => (List.mem_append.mp hz).elim (hl z) (hL z)) hv T' rfl X'
  exact ⟨t2, hgo t2 a1, b1⟩
/-- super(): Object's -/
theorem bw_objInit {i b : Nat} (pc' : Nat) (hd : decode k.2.1 pc = .ok (.invokespecial i, 3)) (hp : pc + 3 = pc') (hw1 : Cond.methodLink k.1.cls i Lib.objectInit ∈ bw_uw) (hw2 : Cond.instanceMethod Lib.objectInit ∈ bw_uw) (hw3 : Cond.code Lib.objectInit ⟨#[0xb1]⟩ 1 none ∈ bw_uw) (hf : 1 ≤ R.frames) (hcat : (st.map fun v => v.category).sum + 12 ≤ R.locals)
    (kk : bw_W g R k Q cu su pc' lv st A) : bw_W g R k Q cu su pc lv (.ref b :: st) A := by
  intro p l e s m args below meth c H locs ls hX hR hs hl hv
  subst hp
  have hts := hX.2.2.2.2.2.1
  exact W.objInit hX.1 hX.2.1 hX.2.2.2.2.1 (hts _ hw1) (hts _ hw2) (hts _ hw3) rfl (hv.1.trans hX.2.2.1.symm) rfl hd hf (by show 2 * 0 + _ + 12 ≤ _; omega) (kk p l e s m args below meth c H locs ls hX hR hs hl hv)
theorem bw_max {i : Nat} {x y : Int32} (pc' : Nat) (hd : decode k.2.1 pc = .ok (.invokestatic i, 3)) (hp : pc + 3 = pc') (hw1 : Cond.methodLink k.1.cls i Lib.Math.max.name ∈ bw_uw) (hw2 : Cond.static Lib.Math.max.name ∈ bw_uw) (hw3 : Cond.initialized "java/lang/Math" ∈ bw_uw) (hw4 : Cond.code Lib.Math.max.name Lib.Math.max.code 2 (some .int) ∈ bw_uw) (hf : 1 ≤ R.frames) (hcat : (st.map fun v => v.category).sum + 13 ≤ R.locals) (hc : cu ≤ R.cells) (hsl : su ≤ R.slots)
    (kk : bw_W g R k Q cu su pc' lv (.int (if x < y then y else x) :: st) A) : bw_W g R k Q cu su pc lv (.int y :: .int x :: st) A := by
  intro p l e s m args below meth c H locs ls hX hR hs hl hv
  subst hp
  have hts := hX.2.2.2.2.2.1
  exact va_mmax hX.1 hX.2.1 (hX.2.2.1.trans hv.1.symm) hX.2.2.2.2.1 (hts _ hw1) (hts _ hw2) (hts _ hw3) (hts _ hw4) hf hcat hc hsl hd (kk p l e s m args below meth c H locs ls hX hR hs hl hv)
/-- System.arraycopy between two int arrays -/
theorem bw_copy {i a b na nb : Nat} {f h : Nat → Int32} {sp dp n : Int32} (pc' : Nat) (hd : decode k.2.1 pc = .ok (.invokestatic i, 3)) (hp : pc + 3 = pc') (hw1 : Cond.methodLink k.1.cls i arraycopyName ∈ bw_uw) (hw2 : Cond.native arraycopyName ∈ bw_uw) (hw3 : Cond.static arraycopyName ∈ bw_uw) (hw4 : Cond.initialized "java/lang/System" ∈ bw_uw)
    (ha : A.2 a = some (bw_ai g na f)) (hb : A.2 b = some (bw_ai g nb h)) (h1 : ¬ sp < 0) (h2 : ¬ dp < 0) (h3 : ¬ n < 0) (h4 : sp.toNatClampNeg + n.toNatClampNeg ≤ na) (h5 : dp.toNatClampNeg + n.toNatClampNeg ≤ nb) (hf : 1 ≤ R.frames) (hcat : (st.map fun v => v.category).sum + (nativeFrameWords "java/lang/System" "arraycopy" 5 + 11) ≤ R.locals)
    (kk : bw_W g R k Q cu su pc' lv st (bw_up A b (bw_ai g nb (va_cpy f h sp.toNatClampNeg dp.toNatClampNeg n.toNatClampNeg)))) : bw_W g R k Q cu su pc lv (.int n :: .int dp :: .ref b :: .int sp :: .ref a :: st) A := by
  intro p l e s m args below meth c H locs ls hX hR hs hl hv
  subst hp
  have hts := hX.2.2.2.2.2.1
  have hK := hX.2.2.2.2.2.2.2.2.2.2.1.1
  have nn : ∀ z : Int32, ¬ z < 0 → z.toInt = (z.toNatClampNeg : Int) := by
    intro z hz
    have hz0 : (0 : Int) ≤ z.toInt := by
      have := Int32.not_lt.mp hz
      simpa using Int32.le_iff_toInt_le.mp this
    show z.toInt = ((z.toInt.toNat : Nat) : Int)
    omega
  intro T hT X
  have hc0 : H[a]? = some (vp_cell (g.2.1 0) (na, .inl f)) := (hR.2.2.2 a _ ha).2
  have hc1 : H[b]? = some (vp_cell (g.2.1 0) (nb, .inl h)) := (hR.2.2.2 b _ hb).2
  obtain ⟨-, k0, hk0, cm0, hkk0⟩ := (hK.2 0 _ rfl).1 na (fun j => .int (f j))
  obtain ⟨-, k1, hk1, cm1, hkk1⟩ := (hK.2 0 _ rfl).1 nb (fun j => .int (h j))
  obtain ⟨vm', X', step⟩ := X.arraycopy hX.1 hX.2.2.2.2.1 (hts _ hw1) (hts _ hw2) (hts _ hw3) (hts _ hw4) (src := a) (dst := b) (cs := vp_cell (g.2.1 0) (na, .inl f)) (cd := vp_cell (g.2.1 0) (nb, .inl h)) (srcPos := sp) (destPos := dp) (n := n) (by rw [hT]; exact hc0) (by rw [hT]; exact hc1)
    (fun _ h => by cases h) (fun _ h => by cases h) (fun h => by cases h) (fun h => by cases h) hk0 hk1 hkk0 hkk1 (by rfl) h1 h2 h3
    (by rw [nn sp h1, nn n h3]; show ¬ _ > ((arrV (g.2.1 0) na (fun j => .int (f j))).slots.size : Int); rw [arrV_size]; omega)
    (by rw [nn dp h2, nn n h3]; show ¬ _ > ((arrV (g.2.1 0) nb (fun j => .int (h j))).slots.size : Int); rw [arrV_size]; omega)
    (fun vm₁ _ i hi => by
      have e : (vp_cell (g.2.1 0) (na, .inl f)).slots.getD (sp.toNatClampNeg + i) .null = .int (f (sp.toNatClampNeg + i)) := by
        show (arrV (g.2.1 0) na (fun j => .int (f j))).slots.getD _ _ = _
        rw [Array.getD_eq_getD_getElem?, arrV_read _ _ (by omega)]
        rfl
      refine ⟨?_, ?_⟩
      · rw [e]
        rfl
      · rw [e]
        exact trivial)
    (g := F0 m pc ls (.int n :: .int dp :: .ref b :: .int sp :: .ref a :: st)) rfl (by rw [hX.2.2.1]; exact hv.1) (rest := st) rfl (by rw [hX.2.1]; exact hd) hf (by show 2 * 0 + _ + _ ≤ _; omega)
  have e1 : copied (vp_cell (g.2.1 0) (na, .inl f)) (vp_cell (g.2.1 0) (nb, .inl h)) sp dp n = vp_cell (g.2.1 0) (nb, .inl (va_cpy f h sp.toNatClampNeg dp.toNatClampNeg n.toNatClampNeg)) := va_copied (fun z => .int z) (g.2.1 0) (g.2.1 0) f h h4
  rw [e1] at X' step
  have hlt : b < H.size := (Array.getElem?_eq_some_iff.mp hc1).1
  have hheap : ((T.setVm vm').setCell b (vp_cell (g.2.1 0) (nb, .inl (va_cpy f h sp.toNatClampNeg dp.toNatClampNeg n.toNatClampNeg)))).heap = H.setIfInBounds b (vp_cell (g.2.1 0) (nb, .inl (va_cpy f h sp.toNatClampNeg dp.toNatClampNeg n.toNatClampNeg))) := by rw [← hT]; rfl
  have oq : ∀ q : Nat, q ≠ b → (H.setIfInBounds b (vp_cell (g.2.1 0) (nb, .inl (va_cpy f h sp.toNatClampNeg dp.toNatClampNeg n.toNatClampNeg))))[q]? = H[q]? := fun q hq => by simp [Array.getElem?_setIfInBounds, Ne.symm hq]
  obtain ⟨t, a1, b1⟩ := kk p l e s m args below meth c _ _ ls hX (hR.up hb (by simp) oq (show (H.setIfInBounds b _)[b]? = some _ by simp [Array.getElem?_setIfInBounds, hlt])) (by simp; exact hs) (fun q hq => by
      rcases List.mem_append.mp hq with h | h
      · exact hl q h
      · obtain ⟨z, -, hz⟩ := List.mem_map.mp h
        rw [← hz]
        exact (hR.2.2.2 b _ hb).1) hv _ hheap X'
  exact ⟨t, step t a1, b1⟩
/-! throw new E("text") -/
def bw_tl (own : String) (ik ic : Nat) (E : String) (names : List String) : Prop := Bundle.fit E = true ∧ (∀ n ∈ names, Bundle.fit n = true) ∧ Cond.classLink own ik E ∈ bw_uw ∧ Cond.initialized E ∈ bw_uw ∧ (∀ w ∈ vx_atS own ic E names, w ∈ bw_uw ∨ ∃ x ∈ bw_ca, w = .castable x.1 x.2)
theorem bw_ot {w : Cond} (h : w ∈ bw_uw ∨ ∃ x ∈ bw_ca, w = .castable x.1 x.2) : vx_ot w = true := by
  rcases h with h | ⟨x, -, rfl⟩
  · unfold vx_ot
    rw [bw_uwg h]
    simp
  · rfl
theorem bw_throwX {p : Program} {l : Launch} {s : State} {m : MethodId} {args : Array Value} {meth : Method} {c : Code} {H : Heap} {locs : List Loc} {E : String} {own : String} {ic : Nat} {names : List String} (hX : bw_X g k p l s m args meth c) (h : ∀ w ∈ vx_atS own ic E names, w ∈ bw_uw ∨ ∃ x ∈ bw_ca, w = .castable x.1 x.2) : ∀ w ∈ vx_atS own ic E names, w.before args s = true := by
  intro w hw
  rcases h w hw with h | ⟨x, hx, rfl⟩
  · exact hX.2.2.2.2.2.1 w h
  · exact hX.2.2.2.2.2.2.2.2.2.2.1.2.2.2.2.1 x hx
theorem bw_thrown {H : Heap} {s t : State} {E : String} (hR : bw_R g A H) (hq : ∀ n : Nat, A.1 ≤ n → Q (.inr E) (n, A.2)) (hz : H.size ≤ t.heap.size) (hk : ∀ q : Nat, q < H.size → t.heap[q]? = H[q]?) : bw_x g Q E s t := by
  obtain ⟨h1, h2, h3, h4⟩ := hR
  refine ⟨(t.heap.size, A.2), ⟨rfl, by show _ ≤ t.heap.size; omega, fun q hq => by rw [hk q (by omega)]; exact h3 q hq, fun a e ha => ?_⟩, hq _ (by omega)⟩
  have h5 := h4 a e ha
  exact ⟨h5.1, va_at.kept h5.2 (hk a (va_at.lt h5.2))⟩
theorem bw_throw {ik is ic : Nat} {E : String} (text : String) {names : List String} (d0 : decode k.2.1 pc = .ok (.new ik, 3)) (d3 : decode k.2.1 (pc + 3) = .ok (.dup, 1)) (d4 : decode k.2.1 (pc + 4) = .ok (.ldc is, 2)) (d6 : decode k.2.1 (pc + 6) = .ok (.invokespecial ic, 3)) (d9 : decode k.2.1 (pc + 9) = .ok (.athrow, 1))
    (ht : bw_tl k.1.cls ik ic E names) (hs0 : (k.1.cls, is, text) ∈ bw_ss) (h0 : k.2.2.2.2 = []) (hf : names.length + 3 < R.frames) (hlo : (st.map fun v => v.category).sum + (13 * (names.length + 1) + 43) ≤ R.locals) (hc : cu + 1 ≤ R.cells) (hsl : su + 6 ≤ R.slots)
    (hq : ∀ n : Nat, A.1 ≤ n → Q (.inr E) (n, A.2)) : bw_W g R k Q cu su pc lv st A := by
  intro p l e s m args below meth c H locs ls hX hR hs hl hv
  obtain ⟨t1, t2, t3, t4, t5⟩ := ht
  have hts := hX.2.2.2.2.2.1
  have hgl := hX.2.2.2.2.2.2.2.2.2.2.1
  have hkp : ∀ a : Nat, a < g.2.2.1.size → ¬ bw_fr g a → s.heap[a]? = g.2.2.1[a]? := fun a h1 h2 => hX.2.2.2.2.2.2.2.2.2.2.2.2 a h1
  obtain ⟨sa, hsa⟩ := hgl.2.2.2.1 _ hs0
  refine vx_throwS (A := bw_fr g) hX.1 hX.2.1 hX.2.2.2.2.2.2.2.2.2.1 hX.2.2.2.2.1 t1 t2 (hts _ t3) (hts _ t4) hsa (bw_throwX (H := H) (locs := locs) hX t5) (fun w hw => ?_) (vx_Zq.kept hgl.2.2.1.1 hkp) (vx_Zq.kept hgl.2.2.1.2 hkp) (bw_Sx hX hR hs hl) (hv.1.trans hX.2.2.1.symm) d0 d3 d4 d6 d9 (fun x hx => ?_) hf hlo hc hsl hX.2.2.2.2.2.2.1 (fun t _ hz hk9 => bw_thrown hR hq hz hk9) hl hc hsl
  · rcases List.mem_cons.mp hw with rfl | hw
    · exact bw_ot (Or.inl t3)
    · rcases List.mem_cons.mp hw with rfl | hw
      · exact bw_ot (Or.inl t4)
      · exact bw_ot (t5 w hw)
  · rw [hX.2.2.2.2.2.2.2.2.1, h0] at hx
    cases hx
theorem bw_throwW {ik is ic : Nat} {E : String} (text : String) {names : List String} (d0 : decode k.2.1 pc = .ok (.new ik, 3)) (d3 : decode k.2.1 (pc + 3) = .ok (.dup, 1)) (d4 : decode k.2.1 (pc + 4) = .ok (.ldc_w is, 3)) (d6 : decode k.2.1 (pc + 7) = .ok (.invokespecial ic, 3)) (d9 : decode k.2.1 (pc + 10) = .ok (.athrow, 1))
    (ht : bw_tl k.1.cls ik ic E names) (hs0 : (k.1.cls, is, text) ∈ bw_ss) (h0 : k.2.2.2.2 = []) (hf : names.length + 3 < R.frames) (hlo : (st.map fun v => v.category).sum + (13 * (names.length + 1) + 43) ≤ R.locals) (hc : cu + 1 ≤ R.cells) (hsl : su + 6 ≤ R.slots)
    (hq : ∀ n : Nat, A.1 ≤ n → Q (.inr E) (n, A.2)) : bw_W g R k Q cu su pc lv st A := by
  intro p l e s m args below meth c H locs ls hX hR hs hl hv
  obtain ⟨t1, t2, t3, t4, t5⟩ := ht
  have hts := hX.2.2.2.2.2.1
  have hgl := hX.2.2.2.2.2.2.2.2.2.2.1
  have hkp : ∀ a : Nat, a < g.2.2.1.size → ¬ bw_fr g a → s.heap[a]? = g.2.2.1[a]? := fun a h1 h2 => hX.2.2.2.2.2.2.2.2.2.2.2.2 a h1
  obtain ⟨sa, hsa⟩ := hgl.2.2.2.1 _ hs0
  refine vx_throwSW (A := bw_fr g) hX.1 hX.2.1 hX.2.2.2.2.2.2.2.2.2.1 hX.2.2.2.2.1 t1 t2 (hts _ t3) (hts _ t4) hsa (bw_throwX (H := H) (locs := locs) hX t5) (fun w hw => ?_) (vx_Zq.kept hgl.2.2.1.1 hkp) (vx_Zq.kept hgl.2.2.1.2 hkp) (bw_Sx hX hR hs hl) (hv.1.trans hX.2.2.1.symm) d0 d3 d4 d6 d9 (fun x hx => ?_) hf hlo hc hsl hX.2.2.2.2.2.2.1 (fun t _ hz hk9 => bw_thrown hR hq hz hk9) hl hc hsl
  · rcases List.mem_cons.mp hw with rfl | hw
    · exact bw_ot (Or.inl t3)
    · rcases List.mem_cons.mp hw with rfl | hw
      · exact bw_ot (Or.inl t4)
      · exact bw_ot (t5 w hw)
  · rw [hX.2.2.2.2.2.2.2.2.1, h0] at hx
    cases hx
/-! the script -/
theorem bw_sld {j : Int32} (pc' : Nat) (hd : decode k.2.1 pc = .ok (.iaload, 1)) (hp : pc + 1 = pc') (hin : vp_in j g.2.2.2.2.2.1)
    (kk : bw_W g R k Q cu su pc' lv (.int (g.2.2.2.2.2.2 j.toNatClampNeg) :: st) A) : bw_W g R k Q cu su pc lv (.int j :: .ref g.2.2.2.2.1 :: st) A := by
  intro p l e s m args below meth c H locs ls hX hR hs hl hv
  subst hp
  obtain ⟨hx, hb⟩ := hX.2.2.2.2.2.2.2.2.2.2.1.2.2.2.2.2.2.2.2.2
  refine va_sld (A := bw_fr g) hX.1 hX.2.1 hx hb (Nat.not_le.mpr hb) (H0 := g.2.2.1) ⟨?_, fun q h1 h2 => hR.2.2.1 q h1, hl⟩ hin hd (kk p l e s m args below meth c H locs ls hX hR hs hl hv)
  have := hR.2.1
  have h2 := hR.1
  show bw_lo g ≤ H.size
  omega
theorem bw_slen (pc' : Nat) (hd : decode k.2.1 pc = .ok (.arraylength, 1)) (hp : pc + 1 = pc')
    (kk : bw_W g R k Q cu su pc' lv (.int (Int32.ofNat g.2.2.2.2.2.1) :: st) A) : bw_W g R k Q cu su pc lv (.ref g.2.2.2.2.1 :: st) A := by
  intro p l e s m args below meth c H locs ls hX hR hs hl hv
  subst hp
  obtain ⟨hx, hb⟩ := hX.2.2.2.2.2.2.2.2.2.2.1.2.2.2.2.2.2.2.2.2
  refine va_slen (A := bw_fr g) hX.1 hX.2.1 hx hb (Nat.not_le.mpr hb) (H0 := g.2.2.1) ⟨?_, fun q h1 h2 => hR.2.2.1 q h1, hl⟩ hd (kk p l e s m args below meth c H locs ls hX hR hs hl hv)
  have := hR.2.1
  have h2 := hR.1
  show bw_lo g ≤ H.size
  omega

end BWR
end
