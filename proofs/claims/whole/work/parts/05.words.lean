/-- the words that every method has: all good ones of the tables -/
def bw_uw : List Cond := lw_tbl.filter goodWord
theorem bw_uwg {w : Cond} (h : w ∈ bw_uw) : goodWord w = true := (List.mem_filter.mp h).2
theorem bw_uwi {w : Cond} (h : w ∈ bw_uw) : w ∈ lw_tbl := (List.mem_filter.mp h).1
theorem bw_in {i : Nat} {w : Cond} (h : lw_tbl[i]? = some w) (hg : goodWord w = true) : w ∈ bw_uw := List.mem_filter.mpr ⟨List.mem_of_getElem? h, hg⟩
theorem bw_ins {l : List Cond} (h : l.all (fun w => decide (w ∈ lw_tbl) && goodWord w) = true) : ∀ w ∈ l, w ∈ bw_uw := by
  intro w hw
  have h1 := List.all_eq_true.mp h w hw
  simp only [Bool.and_eq_true, decide_eq_true_eq] at h1
  exact List.mem_filter.mpr h1
theorem uX_X0 : ∀ w ∈ u_ws RX0 TX0 1, w ∈ bw_uw := bw_ins (by decide +kernel)
theorem uX_X1 : ∀ w ∈ u_ws RX1 TX1 7, w ∈ bw_uw := bw_ins (by decide +kernel)
theorem uX_X2 : ∀ w ∈ u_ws RX2 TX2 6, w ∈ bw_uw := bw_ins (by decide +kernel)
theorem uX_X3 : ∀ w ∈ u_ws RX3 TX3 6, w ∈ bw_uw := bw_ins (by decide +kernel)
theorem uX_X4 : ∀ w ∈ u_ws RX4 TX4 3, w ∈ bw_uw := bw_ins (by decide +kernel)
theorem uX_X5 : ∀ w ∈ u_ws RX5 TX5 3, w ∈ bw_uw := bw_ins (by decide +kernel)
theorem uX_X6 : ∀ w ∈ u_ws RX6 TX6 2, w ∈ bw_uw := bw_ins (by decide +kernel)
theorem uX_X7 : ∀ w ∈ u_ws RX7 TX7 3, w ∈ bw_uw := bw_ins (by decide +kernel)
theorem uX_X8 : ∀ w ∈ u_ws RX8 TX8 7, w ∈ bw_uw := bw_ins (by decide +kernel)
theorem uX_X9 : ∀ w ∈ u_ws RX9 TX9 17, w ∈ bw_uw := bw_ins (by decide +kernel)
theorem uX_X10 : ∀ w ∈ u_ws RX10 TX10 30, w ∈ bw_uw := bw_ins (by decide +kernel)
theorem w_230 : Cond.fieldLink "ByteFields$Division" 9 "ByteFields$Division" "field" "LByteFields$Field;" ∈ bw_uw := bw_in (i := 230) (by decide +kernel) rfl
theorem w_97 : Cond.fieldLink "ByteFields$Division" 15 "ByteFields$Polynomial" "top" "I" ∈ bw_uw := bw_in (i := 97) (by decide +kernel) rfl
theorem w_969 : Cond.methodLink "ByteFields$Division" 21 ⟨"ByteFields$Division", "divideInPlace", "(LByteFields$Polynomial;LByteFields$Polynomial;)V"⟩ ∈ bw_uw := bw_in (i := 969) (by decide +kernel) rfl
theorem w_59 : Cond.initialized "ByteFields$Division" ∈ bw_uw := bw_in (i := 59) (by decide +kernel) rfl
theorem w_972 : Cond.code ⟨"ByteFields$Division", "divideInPlace", "(LByteFields$Polynomial;LByteFields$Polynomial;)V"⟩ prog_2_method_4_code 7 (Option.none : Option FieldType) ∈ bw_uw := bw_in (i := 972) (by decide +kernel) rfl
theorem w_971 : Cond.instanceMethod ⟨"ByteFields$Division", "divideInPlace", "(LByteFields$Polynomial;LByteFields$Polynomial;)V"⟩ ∈ bw_uw := bw_in (i := 971) (by decide +kernel) rfl
theorem w_21 : Cond.selects "ByteFields$Division" ⟨"ByteFields$Division", "divideInPlace", "(LByteFields$Polynomial;LByteFields$Polynomial;)V"⟩ ⟨"ByteFields$Division", "divideInPlace", "(LByteFields$Polynomial;LByteFields$Polynomial;)V"⟩ ∈ bw_uw := bw_in (i := 21) (by decide +kernel) rfl
theorem w_92 : Cond.fieldLink "ByteFields$Division" 25 "ByteFields$Polynomial" "at" "[I" ∈ bw_uw := bw_in (i := 92) (by decide +kernel) rfl
theorem w_976 : Cond.methodLink "ByteFields$Division" 29 ⟨"ByteFields$Polynomial", "settle", "(I)V"⟩ ∈ bw_uw := bw_in (i := 976) (by decide +kernel) rfl
theorem w_54 : Cond.initialized "ByteFields$Polynomial" ∈ bw_uw := bw_in (i := 54) (by decide +kernel) rfl
theorem w_868 : Cond.code ⟨"ByteFields$Polynomial", "settle", "(I)V"⟩ prog_9_method_5_code 3 (Option.none : Option FieldType) ∈ bw_uw := bw_in (i := 868) (by decide +kernel) rfl
theorem w_866 : Cond.instanceMethod ⟨"ByteFields$Polynomial", "settle", "(I)V"⟩ ∈ bw_uw := bw_in (i := 866) (by decide +kernel) rfl
theorem w_867 : Cond.selects "ByteFields$Polynomial" ⟨"ByteFields$Polynomial", "settle", "(I)V"⟩ ⟨"ByteFields$Polynomial", "settle", "(I)V"⟩ ∈ bw_uw := bw_in (i := 867) (by decide +kernel) rfl
theorem w_981 : Cond.methodLink "ByteFields$Division" 33 ⟨"ByteFields$Polynomial", "clear", "()V"⟩ ∈ bw_uw := bw_in (i := 981) (by decide +kernel) rfl
theorem w_863 : Cond.code ⟨"ByteFields$Polynomial", "clear", "()V"⟩ prog_9_method_2_code 2 (Option.none : Option FieldType) ∈ bw_uw := bw_in (i := 863) (by decide +kernel) rfl
theorem w_861 : Cond.instanceMethod ⟨"ByteFields$Polynomial", "clear", "()V"⟩ ∈ bw_uw := bw_in (i := 861) (by decide +kernel) rfl
theorem w_862 : Cond.selects "ByteFields$Polynomial" ⟨"ByteFields$Polynomial", "clear", "()V"⟩ ⟨"ByteFields$Polynomial", "clear", "()V"⟩ ∈ bw_uw := bw_in (i := 862) (by decide +kernel) rfl
theorem w_982 : Cond.methodLink "ByteFields$Division" 36 ⟨"ByteFields$Polynomial", "shiftDown", "(I)V"⟩ ∈ bw_uw := bw_in (i := 982) (by decide +kernel) rfl
theorem w_985 : Cond.code ⟨"ByteFields$Polynomial", "shiftDown", "(I)V"⟩ prog_9_method_9_code 3 (Option.none : Option FieldType) ∈ bw_uw := bw_in (i := 985) (by decide +kernel) rfl
theorem w_983 : Cond.instanceMethod ⟨"ByteFields$Polynomial", "shiftDown", "(I)V"⟩ ∈ bw_uw := bw_in (i := 983) (by decide +kernel) rfl
theorem w_984 : Cond.selects "ByteFields$Polynomial" ⟨"ByteFields$Polynomial", "shiftDown", "(I)V"⟩ ⟨"ByteFields$Polynomial", "shiftDown", "(I)V"⟩ ∈ bw_uw := bw_in (i := 984) (by decide +kernel) rfl
theorem w_973 : Cond.methodLink "ByteFields$Division" 39 ⟨"ByteFields$Field", "inverse", "(I)I"⟩ ∈ bw_uw := bw_in (i := 973) (by decide +kernel) rfl
theorem w_55 : Cond.initialized "ByteFields$Field" ∈ bw_uw := bw_in (i := 55) (by decide +kernel) rfl
theorem w_503 : Cond.code ⟨"ByteFields$Field", "inverse", "(I)I"⟩ prog_5_method_12_code 3 (Option.some FieldType.int) ∈ bw_uw := bw_in (i := 503) (by decide +kernel) rfl
theorem w_501 : Cond.instanceMethod ⟨"ByteFields$Field", "inverse", "(I)I"⟩ ∈ bw_uw := bw_in (i := 501) (by decide +kernel) rfl
theorem w_502 : Cond.selects "ByteFields$Field" ⟨"ByteFields$Field", "inverse", "(I)I"⟩ ⟨"ByteFields$Field", "inverse", "(I)I"⟩ ∈ bw_uw := bw_in (i := 502) (by decide +kernel) rfl
theorem w_974 : Cond.methodLink "ByteFields$Division" 45 ⟨"ByteFields$Field", "mul", "(II)I"⟩ ∈ bw_uw := bw_in (i := 974) (by decide +kernel) rfl
theorem w_265 : Cond.code ⟨"ByteFields$Field", "mul", "(II)I"⟩ prog_5_method_11_code 4 (Option.some FieldType.int) ∈ bw_uw := bw_in (i := 265) (by decide +kernel) rfl
theorem w_263 : Cond.instanceMethod ⟨"ByteFields$Field", "mul", "(II)I"⟩ ∈ bw_uw := bw_in (i := 263) (by decide +kernel) rfl
theorem w_264 : Cond.selects "ByteFields$Field" ⟨"ByteFields$Field", "mul", "(II)I"⟩ ⟨"ByteFields$Field", "mul", "(II)I"⟩ ∈ bw_uw := bw_in (i := 264) (by decide +kernel) rfl
theorem w_975 : Cond.methodLink "ByteFields$Division" 49 ⟨"ByteFields$Field", "addMultiple", "([II[IIII)V"⟩ ∈ bw_uw := bw_in (i := 975) (by decide +kernel) rfl
theorem w_730 : Cond.code ⟨"ByteFields$Field", "addMultiple", "([II[IIII)V"⟩ prog_5_method_16_code 11 (Option.none : Option FieldType) ∈ bw_uw := bw_in (i := 730) (by decide +kernel) rfl
theorem w_728 : Cond.instanceMethod ⟨"ByteFields$Field", "addMultiple", "([II[IIII)V"⟩ ∈ bw_uw := bw_in (i := 728) (by decide +kernel) rfl
theorem w_729 : Cond.selects "ByteFields$Field" ⟨"ByteFields$Field", "addMultiple", "([II[IIII)V"⟩ ⟨"ByteFields$Field", "addMultiple", "([II[IIII)V"⟩ ∈ bw_uw := bw_in (i := 729) (by decide +kernel) rfl
theorem w_997 : Cond.methodLink "ByteFields$Division" 53 ⟨"ByteFields$Division", "toRest", "(LByteFields$Polynomial;LByteFields$Polynomial;)V"⟩ ∈ bw_uw := bw_in (i := 997) (by decide +kernel) rfl
theorem w_968 : Cond.code ⟨"ByteFields$Division", "toRest", "(LByteFields$Polynomial;LByteFields$Polynomial;)V"⟩ prog_2_method_2_code 4 (Option.none : Option FieldType) ∈ bw_uw := bw_in (i := 968) (by decide +kernel) rfl
theorem w_966 : Cond.instanceMethod ⟨"ByteFields$Division", "toRest", "(LByteFields$Polynomial;LByteFields$Polynomial;)V"⟩ ∈ bw_uw := bw_in (i := 966) (by decide +kernel) rfl
theorem w_967 : Cond.selects "ByteFields$Division" ⟨"ByteFields$Division", "toRest", "(LByteFields$Polynomial;LByteFields$Polynomial;)V"⟩ ⟨"ByteFields$Division", "toRest", "(LByteFields$Polynomial;LByteFields$Polynomial;)V"⟩ ∈ bw_uw := bw_in (i := 967) (by decide +kernel) rfl
theorem w_998 : Cond.methodLink "ByteFields$Division" 56 ⟨"ByteFields$Polynomial", "copyFrom", "(LByteFields$Polynomial;)V"⟩ ∈ bw_uw := bw_in (i := 998) (by decide +kernel) rfl
theorem w_876 : Cond.code ⟨"ByteFields$Polynomial", "copyFrom", "(LByteFields$Polynomial;)V"⟩ prog_9_method_4_code 2 (Option.none : Option FieldType) ∈ bw_uw := bw_in (i := 876) (by decide +kernel) rfl
theorem w_874 : Cond.instanceMethod ⟨"ByteFields$Polynomial", "copyFrom", "(LByteFields$Polynomial;)V"⟩ ∈ bw_uw := bw_in (i := 874) (by decide +kernel) rfl
theorem w_875 : Cond.selects "ByteFields$Polynomial" ⟨"ByteFields$Polynomial", "copyFrom", "(LByteFields$Polynomial;)V"⟩ ⟨"ByteFields$Polynomial", "copyFrom", "(LByteFields$Polynomial;)V"⟩ ∈ bw_uw := bw_in (i := 875) (by decide +kernel) rfl
theorem w_999 : Cond.methodLink "ByteFields$Division" 60 ⟨"ByteFields$Field", "scale", "([III)V"⟩ ∈ bw_uw := bw_in (i := 999) (by decide +kernel) rfl
theorem w_774 : Cond.code ⟨"ByteFields$Field", "scale", "([III)V"⟩ prog_5_method_17_code 5 (Option.none : Option FieldType) ∈ bw_uw := bw_in (i := 774) (by decide +kernel) rfl
theorem w_772 : Cond.instanceMethod ⟨"ByteFields$Field", "scale", "([III)V"⟩ ∈ bw_uw := bw_in (i := 772) (by decide +kernel) rfl
theorem w_773 : Cond.selects "ByteFields$Field" ⟨"ByteFields$Field", "scale", "([III)V"⟩ ⟨"ByteFields$Field", "scale", "([III)V"⟩ ∈ bw_uw := bw_in (i := 773) (by decide +kernel) rfl
theorem w_185 : Cond.classLink "ByteFields$Elimination" 9 "[[I" ∈ bw_uw := bw_in (i := 185) (by decide +kernel) rfl
theorem w_188 : Cond.fieldLink "ByteFields$Elimination" 11 "ByteFields$Elimination" "cells" "[[I" ∈ bw_uw := bw_in (i := 188) (by decide +kernel) rfl
theorem w_189 : Cond.fieldLink "ByteFields$Elimination" 16 "ByteFields$Elimination" "pivotRows" "[I" ∈ bw_uw := bw_in (i := 189) (by decide +kernel) rfl
theorem w_187 : Cond.fieldLink "ByteFields$Elimination" 20 "ByteFields$Elimination" "field" "LByteFields$Field;" ∈ bw_uw := bw_in (i := 187) (by decide +kernel) rfl
theorem w_629 : Cond.fieldLink "ByteFields$Elimination" 24 "ByteFields$Matrix" "rows" "I" ∈ bw_uw := bw_in (i := 629) (by decide +kernel) rfl
theorem w_190 : Cond.fieldLink "ByteFields$Elimination" 30 "ByteFields$Elimination" "height" "I" ∈ bw_uw := bw_in (i := 190) (by decide +kernel) rfl
theorem w_633 : Cond.fieldLink "ByteFields$Elimination" 33 "ByteFields$Matrix" "columns" "I" ∈ bw_uw := bw_in (i := 633) (by decide +kernel) rfl
theorem w_191 : Cond.fieldLink "ByteFields$Elimination" 36 "ByteFields$Elimination" "width" "I" ∈ bw_uw := bw_in (i := 191) (by decide +kernel) rfl
theorem w_637 : Cond.fieldLink "ByteFields$Elimination" 39 "ByteFields$Matrix" "cells" "[I" ∈ bw_uw := bw_in (i := 637) (by decide +kernel) rfl
theorem w_192 : Cond.fieldLink "ByteFields$Elimination" 47 "ByteFields$Elimination" "rank" "I" ∈ bw_uw := bw_in (i := 192) (by decide +kernel) rfl
theorem w_193 : Cond.fieldLink "ByteFields$Elimination" 50 "ByteFields$Elimination" "pivotProduct" "I" ∈ bw_uw := bw_in (i := 193) (by decide +kernel) rfl
theorem w_757 : Cond.methodLink "ByteFields$Elimination" 53 ⟨"ByteFields$Elimination", "rowWithMember", "(I)I"⟩ ∈ bw_uw := bw_in (i := 757) (by decide +kernel) rfl
theorem w_57 : Cond.initialized "ByteFields$Elimination" ∈ bw_uw := bw_in (i := 57) (by decide +kernel) rfl
theorem w_760 : Cond.code ⟨"ByteFields$Elimination", "rowWithMember", "(I)I"⟩ prog_3_method_6_code 3 (Option.some FieldType.int) ∈ bw_uw := bw_in (i := 760) (by decide +kernel) rfl
theorem w_759 : Cond.instanceMethod ⟨"ByteFields$Elimination", "rowWithMember", "(I)I"⟩ ∈ bw_uw := bw_in (i := 759) (by decide +kernel) rfl
theorem w_11 : Cond.selects "ByteFields$Elimination" ⟨"ByteFields$Elimination", "rowWithMember", "(I)I"⟩ ⟨"ByteFields$Elimination", "rowWithMember", "(I)I"⟩ ∈ bw_uw := bw_in (i := 11) (by decide +kernel) rfl
theorem w_761 : Cond.methodLink "ByteFields$Elimination" 57 ⟨"ByteFields$Elimination", "exchange", "(II)V"⟩ ∈ bw_uw := bw_in (i := 761) (by decide +kernel) rfl
theorem w_764 : Cond.code ⟨"ByteFields$Elimination", "exchange", "(II)V"⟩ prog_3_method_7_code 5 (Option.none : Option FieldType) ∈ bw_uw := bw_in (i := 764) (by decide +kernel) rfl
theorem w_763 : Cond.instanceMethod ⟨"ByteFields$Elimination", "exchange", "(II)V"⟩ ∈ bw_uw := bw_in (i := 763) (by decide +kernel) rfl
theorem w_12 : Cond.selects "ByteFields$Elimination" ⟨"ByteFields$Elimination", "exchange", "(II)V"⟩ ⟨"ByteFields$Elimination", "exchange", "(II)V"⟩ ∈ bw_uw := bw_in (i := 12) (by decide +kernel) rfl
theorem w_765 : Cond.methodLink "ByteFields$Elimination" 61 ⟨"ByteFields$Field", "mul", "(II)I"⟩ ∈ bw_uw := bw_in (i := 765) (by decide +kernel) rfl
theorem w_766 : Cond.methodLink "ByteFields$Elimination" 67 ⟨"ByteFields$Elimination", "free", "(I)V"⟩ ∈ bw_uw := bw_in (i := 766) (by decide +kernel) rfl
theorem w_769 : Cond.code ⟨"ByteFields$Elimination", "free", "(I)V"⟩ prog_3_method_8_code 4 (Option.none : Option FieldType) ∈ bw_uw := bw_in (i := 769) (by decide +kernel) rfl
theorem w_768 : Cond.instanceMethod ⟨"ByteFields$Elimination", "free", "(I)V"⟩ ∈ bw_uw := bw_in (i := 768) (by decide +kernel) rfl
theorem w_13 : Cond.selects "ByteFields$Elimination" ⟨"ByteFields$Elimination", "free", "(I)V"⟩ ⟨"ByteFields$Elimination", "free", "(I)V"⟩ ∈ bw_uw := bw_in (i := 13) (by decide +kernel) rfl
theorem w_770 : Cond.methodLink "ByteFields$Elimination" 71 ⟨"ByteFields$Field", "inverse", "(I)I"⟩ ∈ bw_uw := bw_in (i := 770) (by decide +kernel) rfl
theorem w_771 : Cond.methodLink "ByteFields$Elimination" 74 ⟨"ByteFields$Field", "scale", "([III)V"⟩ ∈ bw_uw := bw_in (i := 771) (by decide +kernel) rfl
theorem w_775 : Cond.methodLink "ByteFields$Elimination" 78 ⟨"ByteFields$Field", "addMultiple", "([II[IIII)V"⟩ ∈ bw_uw := bw_in (i := 775) (by decide +kernel) rfl
theorem w_295 : Cond.classLink "ByteFields$Factors" 9 "ByteFields$Polynomial" ∈ bw_uw := bw_in (i := 295) (by decide +kernel) rfl
theorem w_86 : Cond.instantiable "ByteFields$Polynomial" 3 ∈ bw_uw := bw_in (i := 86) (by decide +kernel) rfl
theorem w_296 : Cond.methodLink "ByteFields$Factors" 11 ⟨"ByteFields$Polynomial", "<init>", "(I)V"⟩ ∈ bw_uw := bw_in (i := 296) (by decide +kernel) rfl
theorem w_89 : Cond.code ⟨"ByteFields$Polynomial", "<init>", "(I)V"⟩ prog_9_method_1_code 2 (Option.none : Option FieldType) ∈ bw_uw := bw_in (i := 89) (by decide +kernel) rfl
theorem w_88 : Cond.instanceMethod ⟨"ByteFields$Polynomial", "<init>", "(I)V"⟩ ∈ bw_uw := bw_in (i := 88) (by decide +kernel) rfl
theorem w_299 : Cond.fieldLink "ByteFields$Factors" 14 "ByteFields$Factors" "left" "LByteFields$Polynomial;" ∈ bw_uw := bw_in (i := 299) (by decide +kernel) rfl
theorem w_300 : Cond.fieldLink "ByteFields$Factors" 20 "ByteFields$Factors" "power" "LByteFields$Polynomial;" ∈ bw_uw := bw_in (i := 300) (by decide +kernel) rfl
theorem w_301 : Cond.fieldLink "ByteFields$Factors" 23 "ByteFields$Factors" "shared" "LByteFields$Polynomial;" ∈ bw_uw := bw_in (i := 301) (by decide +kernel) rfl
theorem w_302 : Cond.fieldLink "ByteFields$Factors" 26 "ByteFields$Factors" "other" "LByteFields$Polynomial;" ∈ bw_uw := bw_in (i := 302) (by decide +kernel) rfl
theorem w_297 : Cond.fieldLink "ByteFields$Factors" 29 "ByteFields$Factors" "field" "LByteFields$Field;" ∈ bw_uw := bw_in (i := 297) (by decide +kernel) rfl
theorem w_298 : Cond.fieldLink "ByteFields$Factors" 33 "ByteFields$Factors" "division" "LByteFields$Division;" ∈ bw_uw := bw_in (i := 298) (by decide +kernel) rfl
theorem w_1061 : Cond.methodLink "ByteFields$Factors" 37 ⟨"ByteFields$Polynomial", "copyFrom", "(LByteFields$Polynomial;)V"⟩ ∈ bw_uw := bw_in (i := 1061) (by decide +kernel) rfl
theorem w_1062 : Cond.methodLink "ByteFields$Factors" 41 ⟨"ByteFields$Polynomial", "becomeX", "()V"⟩ ∈ bw_uw := bw_in (i := 1062) (by decide +kernel) rfl
theorem w_1019 : Cond.code ⟨"ByteFields$Polynomial", "becomeX", "()V"⟩ prog_9_method_8_code 1 (Option.none : Option FieldType) ∈ bw_uw := bw_in (i := 1019) (by decide +kernel) rfl
theorem w_1017 : Cond.instanceMethod ⟨"ByteFields$Polynomial", "becomeX", "()V"⟩ ∈ bw_uw := bw_in (i := 1017) (by decide +kernel) rfl
theorem w_1018 : Cond.selects "ByteFields$Polynomial" ⟨"ByteFields$Polynomial", "becomeX", "()V"⟩ ⟨"ByteFields$Polynomial", "becomeX", "()V"⟩ ∈ bw_uw := bw_in (i := 1018) (by decide +kernel) rfl
theorem w_1063 : Cond.methodLink "ByteFields$Factors" 44 ⟨"ByteFields$Division", "toRest", "(LByteFields$Polynomial;LByteFields$Polynomial;)V"⟩ ∈ bw_uw := bw_in (i := 1063) (by decide +kernel) rfl
theorem w_98 : Cond.fieldLink "ByteFields$Factors" 50 "ByteFields$Polynomial" "top" "I" ∈ bw_uw := bw_in (i := 98) (by decide +kernel) rfl
theorem w_157 : Cond.fieldLink "ByteFields$Factors" 54 "ByteFields$Field" "bits" "I" ∈ bw_uw := bw_in (i := 157) (by decide +kernel) rfl
theorem w_1064 : Cond.methodLink "ByteFields$Factors" 59 ⟨"ByteFields$Division", "toSquareRest", "(LByteFields$Polynomial;LByteFields$Polynomial;)V"⟩ ∈ bw_uw := bw_in (i := 1064) (by decide +kernel) rfl
theorem w_1025 : Cond.code ⟨"ByteFields$Division", "toSquareRest", "(LByteFields$Polynomial;LByteFields$Polynomial;)V"⟩ prog_2_method_7_code 5 (Option.none : Option FieldType) ∈ bw_uw := bw_in (i := 1025) (by decide +kernel) rfl
theorem w_1023 : Cond.instanceMethod ⟨"ByteFields$Division", "toSquareRest", "(LByteFields$Polynomial;LByteFields$Polynomial;)V"⟩ ∈ bw_uw := bw_in (i := 1023) (by decide +kernel) rfl
theorem w_1024 : Cond.selects "ByteFields$Division" ⟨"ByteFields$Division", "toSquareRest", "(LByteFields$Polynomial;LByteFields$Polynomial;)V"⟩ ⟨"ByteFields$Division", "toSquareRest", "(LByteFields$Polynomial;LByteFields$Polynomial;)V"⟩ ∈ bw_uw := bw_in (i := 1024) (by decide +kernel) rfl
theorem w_1065 : Cond.methodLink "ByteFields$Factors" 62 ⟨"ByteFields$Factors", "takeParts", "(I)I"⟩ ∈ bw_uw := bw_in (i := 1065) (by decide +kernel) rfl
theorem w_62 : Cond.initialized "ByteFields$Factors" ∈ bw_uw := bw_in (i := 62) (by decide +kernel) rfl
theorem w_1068 : Cond.code ⟨"ByteFields$Factors", "takeParts", "(I)I"⟩ prog_4_method_3_code 4 (Option.some FieldType.int) ∈ bw_uw := bw_in (i := 1068) (by decide +kernel) rfl
theorem w_1067 : Cond.instanceMethod ⟨"ByteFields$Factors", "takeParts", "(I)I"⟩ ∈ bw_uw := bw_in (i := 1067) (by decide +kernel) rfl
theorem w_24 : Cond.selects "ByteFields$Factors" ⟨"ByteFields$Factors", "takeParts", "(I)I"⟩ ⟨"ByteFields$Factors", "takeParts", "(I)I"⟩ ∈ bw_uw := bw_in (i := 24) (by decide +kernel) rfl
theorem w_1069 : Cond.methodLink "ByteFields$Factors" 66 ⟨"ByteFields$Polynomial", "addScaled", "(LByteFields$Field;LByteFields$Polynomial;I)V"⟩ ∈ bw_uw := bw_in (i := 1069) (by decide +kernel) rfl
theorem w_943 : Cond.code ⟨"ByteFields$Polynomial", "addScaled", "(LByteFields$Field;LByteFields$Polynomial;I)V"⟩ prog_9_method_6_code 4 (Option.none : Option FieldType) ∈ bw_uw := bw_in (i := 943) (by decide +kernel) rfl
theorem w_941 : Cond.instanceMethod ⟨"ByteFields$Polynomial", "addScaled", "(LByteFields$Field;LByteFields$Polynomial;I)V"⟩ ∈ bw_uw := bw_in (i := 941) (by decide +kernel) rfl
theorem w_942 : Cond.selects "ByteFields$Polynomial" ⟨"ByteFields$Polynomial", "addScaled", "(LByteFields$Field;LByteFields$Polynomial;I)V"⟩ ⟨"ByteFields$Polynomial", "addScaled", "(LByteFields$Field;LByteFields$Polynomial;I)V"⟩ ∈ bw_uw := bw_in (i := 942) (by decide +kernel) rfl
theorem w_1070 : Cond.methodLink "ByteFields$Factors" 70 ⟨"ByteFields$Division", "toGreatestDivisor", "(LByteFields$Polynomial;LByteFields$Polynomial;)V"⟩ ∈ bw_uw := bw_in (i := 1070) (by decide +kernel) rfl
theorem w_996 : Cond.code ⟨"ByteFields$Division", "toGreatestDivisor", "(LByteFields$Polynomial;LByteFields$Polynomial;)V"⟩ prog_2_method_5_code 7 (Option.none : Option FieldType) ∈ bw_uw := bw_in (i := 996) (by decide +kernel) rfl
theorem w_994 : Cond.instanceMethod ⟨"ByteFields$Division", "toGreatestDivisor", "(LByteFields$Polynomial;LByteFields$Polynomial;)V"⟩ ∈ bw_uw := bw_in (i := 994) (by decide +kernel) rfl
theorem w_995 : Cond.selects "ByteFields$Division" ⟨"ByteFields$Division", "toGreatestDivisor", "(LByteFields$Polynomial;LByteFields$Polynomial;)V"⟩ ⟨"ByteFields$Division", "toGreatestDivisor", "(LByteFields$Polynomial;LByteFields$Polynomial;)V"⟩ ∈ bw_uw := bw_in (i := 995) (by decide +kernel) rfl
theorem w_1071 : Cond.methodLink "ByteFields$Factors" 73 ⟨"ByteFields$Division", "toQuotient", "(LByteFields$Polynomial;LByteFields$Polynomial;)V"⟩ ∈ bw_uw := bw_in (i := 1071) (by decide +kernel) rfl
theorem w_980 : Cond.code ⟨"ByteFields$Division", "toQuotient", "(LByteFields$Polynomial;LByteFields$Polynomial;)V"⟩ prog_2_method_3_code 3 (Option.none : Option FieldType) ∈ bw_uw := bw_in (i := 980) (by decide +kernel) rfl
theorem w_978 : Cond.instanceMethod ⟨"ByteFields$Division", "toQuotient", "(LByteFields$Polynomial;LByteFields$Polynomial;)V"⟩ ∈ bw_uw := bw_in (i := 978) (by decide +kernel) rfl
theorem w_979 : Cond.selects "ByteFields$Division" ⟨"ByteFields$Division", "toQuotient", "(LByteFields$Polynomial;LByteFields$Polynomial;)V"⟩ ⟨"ByteFields$Division", "toQuotient", "(LByteFields$Polynomial;LByteFields$Polynomial;)V"⟩ ∈ bw_uw := bw_in (i := 979) (by decide +kernel) rfl
theorem w_155 : Cond.fieldLink "ByteFields$Field" 7 "ByteFields$Field" "bits" "I" ∈ bw_uw := bw_in (i := 155) (by decide +kernel) rfl
theorem w_158 : Cond.fieldLink "ByteFields$Field" 13 "ByteFields$Field" "size" "I" ∈ bw_uw := bw_in (i := 158) (by decide +kernel) rfl
theorem w_160 : Cond.fieldLink "ByteFields$Field" 16 "ByteFields$Field" "units" "I" ∈ bw_uw := bw_in (i := 160) (by decide +kernel) rfl
theorem w_121 : Cond.methodLink "ByteFields$Field" 19 ⟨"ByteFields$Field", "firstUnsplit", "(II)I"⟩ ∈ bw_uw := bw_in (i := 121) (by decide +kernel) rfl
theorem w_123 : Cond.code ⟨"ByteFields$Field", "firstUnsplit", "(II)I"⟩ prog_5_method_2_code 5 (Option.some FieldType.int) ∈ bw_uw := bw_in (i := 123) (by decide +kernel) rfl
theorem w_122 : Cond.static ⟨"ByteFields$Field", "firstUnsplit", "(II)I"⟩ ∈ bw_uw := bw_in (i := 122) (by decide +kernel) rfl
theorem w_161 : Cond.fieldLink "ByteFields$Field" 23 "ByteFields$Field" "poly" "I" ∈ bw_uw := bw_in (i := 161) (by decide +kernel) rfl
theorem w_137 : Cond.methodLink "ByteFields$Field" 26 ⟨"ByteFields$Field", "leastGenerator", "()I"⟩ ∈ bw_uw := bw_in (i := 137) (by decide +kernel) rfl
theorem w_140 : Cond.code ⟨"ByteFields$Field", "leastGenerator", "()I"⟩ prog_5_method_8_code 2 (Option.some FieldType.int) ∈ bw_uw := bw_in (i := 140) (by decide +kernel) rfl
theorem w_139 : Cond.instanceMethod ⟨"ByteFields$Field", "leastGenerator", "()I"⟩ ∈ bw_uw := bw_in (i := 139) (by decide +kernel) rfl
theorem w_0 : Cond.selects "ByteFields$Field" ⟨"ByteFields$Field", "leastGenerator", "()I"⟩ ⟨"ByteFields$Field", "leastGenerator", "()I"⟩ ∈ bw_uw := bw_in (i := 0) (by decide +kernel) rfl
theorem w_163 : Cond.fieldLink "ByteFields$Field" 30 "ByteFields$Field" "generator" "I" ∈ bw_uw := bw_in (i := 163) (by decide +kernel) rfl
theorem w_165 : Cond.fieldLink "ByteFields$Field" 33 "ByteFields$Field" "tables" "[I" ∈ bw_uw := bw_in (i := 165) (by decide +kernel) rfl
theorem w_151 : Cond.methodLink "ByteFields$Field" 37 ⟨"ByteFields$Field", "slowProduct", "(II)I"⟩ ∈ bw_uw := bw_in (i := 151) (by decide +kernel) rfl
theorem w_154 : Cond.code ⟨"ByteFields$Field", "slowProduct", "(II)I"⟩ prog_5_method_6_code 6 (Option.some FieldType.int) ∈ bw_uw := bw_in (i := 154) (by decide +kernel) rfl
theorem w_153 : Cond.instanceMethod ⟨"ByteFields$Field", "slowProduct", "(II)I"⟩ ∈ bw_uw := bw_in (i := 153) (by decide +kernel) rfl
theorem w_3 : Cond.selects "ByteFields$Field" ⟨"ByteFields$Field", "slowProduct", "(II)I"⟩ ⟨"ByteFields$Field", "slowProduct", "(II)I"⟩ ∈ bw_uw := bw_in (i := 3) (by decide +kernel) rfl
theorem w_124 : Cond.methodLink "ByteFields$Field" 40 ⟨"ByteFields$Field", "splits", "(II)Z"⟩ ∈ bw_uw := bw_in (i := 124) (by decide +kernel) rfl
theorem w_126 : Cond.code ⟨"ByteFields$Field", "splits", "(II)Z"⟩ prog_5_method_3_code 4 (Option.some FieldType.boolean) ∈ bw_uw := bw_in (i := 126) (by decide +kernel) rfl
theorem w_125 : Cond.static ⟨"ByteFields$Field", "splits", "(II)Z"⟩ ∈ bw_uw := bw_in (i := 125) (by decide +kernel) rfl
theorem w_127 : Cond.methodLink "ByteFields$Field" 44 ⟨"ByteFields$Field", "restOfBits", "(II)I"⟩ ∈ bw_uw := bw_in (i := 127) (by decide +kernel) rfl
theorem w_129 : Cond.code ⟨"ByteFields$Field", "restOfBits", "(II)I"⟩ prog_5_method_4_code 5 (Option.some FieldType.int) ∈ bw_uw := bw_in (i := 129) (by decide +kernel) rfl
theorem w_128 : Cond.static ⟨"ByteFields$Field", "restOfBits", "(II)I"⟩ ∈ bw_uw := bw_in (i := 128) (by decide +kernel) rfl
theorem w_130 : Cond.methodLink "ByteFields$Field" 47 ⟨"ByteFields$Field", "highestBit", "(I)I"⟩ ∈ bw_uw := bw_in (i := 130) (by decide +kernel) rfl
theorem w_132 : Cond.code ⟨"ByteFields$Field", "highestBit", "(I)I"⟩ prog_5_method_5_code 1 (Option.some FieldType.int) ∈ bw_uw := bw_in (i := 132) (by decide +kernel) rfl
theorem w_131 : Cond.static ⟨"ByteFields$Field", "highestBit", "(I)I"⟩ ∈ bw_uw := bw_in (i := 131) (by decide +kernel) rfl
theorem w_133 : Cond.methodLink "ByteFields$Field" 51 ⟨"java/lang/Integer", "numberOfLeadingZeros", "(I)I"⟩ ∈ bw_uw := bw_in (i := 133) (by decide +kernel) rfl
theorem w_56 : Cond.initialized "java/lang/Integer" ∈ bw_uw := bw_in (i := 56) (by decide +kernel) rfl
theorem w_135 : Cond.code ⟨"java/lang/Integer", "numberOfLeadingZeros", "(I)I"⟩ prog_19_method_47_code 2 (Option.some FieldType.int) ∈ bw_uw := bw_in (i := 135) (by decide +kernel) rfl
theorem w_134 : Cond.static ⟨"java/lang/Integer", "numberOfLeadingZeros", "(I)I"⟩ ∈ bw_uw := bw_in (i := 134) (by decide +kernel) rfl
theorem w_141 : Cond.methodLink "ByteFields$Field" 56 ⟨"ByteFields$Field", "generates", "(I)Z"⟩ ∈ bw_uw := bw_in (i := 141) (by decide +kernel) rfl
theorem w_144 : Cond.code ⟨"ByteFields$Field", "generates", "(I)Z"⟩ prog_5_method_9_code 6 (Option.some FieldType.boolean) ∈ bw_uw := bw_in (i := 144) (by decide +kernel) rfl
theorem w_143 : Cond.instanceMethod ⟨"ByteFields$Field", "generates", "(I)Z"⟩ ∈ bw_uw := bw_in (i := 143) (by decide +kernel) rfl
theorem w_1 : Cond.selects "ByteFields$Field" ⟨"ByteFields$Field", "generates", "(I)Z"⟩ ⟨"ByteFields$Field", "generates", "(I)Z"⟩ ∈ bw_uw := bw_in (i := 1) (by decide +kernel) rfl
theorem w_145 : Cond.fieldLink "ByteFields$Field" 60 "ByteFields$Field" "PRIMES" "[I" ∈ bw_uw := bw_in (i := 145) (by decide +kernel) rfl
theorem w_147 : Cond.methodLink "ByteFields$Field" 63 ⟨"ByteFields$Field", "slowPower", "(II)I"⟩ ∈ bw_uw := bw_in (i := 147) (by decide +kernel) rfl
theorem w_150 : Cond.code ⟨"ByteFields$Field", "slowPower", "(II)I"⟩ prog_5_method_7_code 6 (Option.some FieldType.int) ∈ bw_uw := bw_in (i := 150) (by decide +kernel) rfl
theorem w_149 : Cond.instanceMethod ⟨"ByteFields$Field", "slowPower", "(II)I"⟩ ∈ bw_uw := bw_in (i := 149) (by decide +kernel) rfl
theorem w_2 : Cond.selects "ByteFields$Field" ⟨"ByteFields$Field", "slowPower", "(II)I"⟩ ⟨"ByteFields$Field", "slowPower", "(II)I"⟩ ∈ bw_uw := bw_in (i := 2) (by decide +kernel) rfl
theorem w_266 : Cond.constant "ByteFields$Field" 66 (65535 : Int32) ∈ bw_uw := bw_in (i := 266) (by decide +kernel) rfl
theorem w_500 : Cond.methodLink "ByteFields$Field" 67 ⟨"ByteFields$Field", "inverse", "(I)I"⟩ ∈ bw_uw := bw_in (i := 500) (by decide +kernel) rfl
theorem w_504 : Cond.methodLink "ByteFields$Field" 70 ⟨"ByteFields$Field", "mul", "(II)I"⟩ ∈ bw_uw := bw_in (i := 504) (by decide +kernel) rfl
theorem w_517 : Cond.methodLink "ByteFields$Field" 73 ⟨"ByteFields$Field", "logOf", "(I)I"⟩ ∈ bw_uw := bw_in (i := 517) (by decide +kernel) rfl
theorem w_520 : Cond.code ⟨"ByteFields$Field", "logOf", "(I)I"⟩ prog_5_method_10_code 2 (Option.some FieldType.int) ∈ bw_uw := bw_in (i := 520) (by decide +kernel) rfl
theorem w_518 : Cond.instanceMethod ⟨"ByteFields$Field", "logOf", "(I)I"⟩ ∈ bw_uw := bw_in (i := 518) (by decide +kernel) rfl
theorem w_519 : Cond.selects "ByteFields$Field" ⟨"ByteFields$Field", "logOf", "(I)I"⟩ ⟨"ByteFields$Field", "logOf", "(I)I"⟩ ∈ bw_uw := bw_in (i := 519) (by decide +kernel) rfl
theorem w_241 : Cond.fieldLink "ByteFields$Interpolation" 9 "ByteFields$Interpolation" "xs" "[I" ∈ bw_uw := bw_in (i := 241) (by decide +kernel) rfl
theorem w_242 : Cond.fieldLink "ByteFields$Interpolation" 15 "ByteFields$Interpolation" "ys" "[I" ∈ bw_uw := bw_in (i := 242) (by decide +kernel) rfl
theorem w_240 : Cond.fieldLink "ByteFields$Interpolation" 18 "ByteFields$Interpolation" "field" "LByteFields$Field;" ∈ bw_uw := bw_in (i := 240) (by decide +kernel) rfl
theorem w_894 : Cond.methodLink "ByteFields$Interpolation" 22 ⟨"ByteFields$Field", "ratio", "(II)I"⟩ ∈ bw_uw := bw_in (i := 894) (by decide +kernel) rfl
theorem w_499 : Cond.code ⟨"ByteFields$Field", "ratio", "(II)I"⟩ prog_5_method_13_code 3 (Option.some FieldType.int) ∈ bw_uw := bw_in (i := 499) (by decide +kernel) rfl
theorem w_497 : Cond.instanceMethod ⟨"ByteFields$Field", "ratio", "(II)I"⟩ ∈ bw_uw := bw_in (i := 497) (by decide +kernel) rfl
theorem w_498 : Cond.selects "ByteFields$Field" ⟨"ByteFields$Field", "ratio", "(II)I"⟩ ⟨"ByteFields$Field", "ratio", "(II)I"⟩ ∈ bw_uw := bw_in (i := 498) (by decide +kernel) rfl
theorem w_895 : Cond.methodLink "ByteFields$Interpolation" 28 ⟨"ByteFields$Polynomial", "clear", "()V"⟩ ∈ bw_uw := bw_in (i := 895) (by decide +kernel) rfl
theorem w_896 : Cond.methodLink "ByteFields$Interpolation" 33 ⟨"ByteFields$Interpolation", "multiplyAndAdd", "(LByteFields$Polynomial;II)V"⟩ ∈ bw_uw := bw_in (i := 896) (by decide +kernel) rfl
theorem w_60 : Cond.initialized "ByteFields$Interpolation" ∈ bw_uw := bw_in (i := 60) (by decide +kernel) rfl
theorem w_899 : Cond.code ⟨"ByteFields$Interpolation", "multiplyAndAdd", "(LByteFields$Polynomial;II)V"⟩ prog_6_method_4_code 7 (Option.none : Option FieldType) ∈ bw_uw := bw_in (i := 899) (by decide +kernel) rfl
theorem w_898 : Cond.instanceMethod ⟨"ByteFields$Interpolation", "multiplyAndAdd", "(LByteFields$Polynomial;II)V"⟩ ∈ bw_uw := bw_in (i := 898) (by decide +kernel) rfl
theorem w_18 : Cond.selects "ByteFields$Interpolation" ⟨"ByteFields$Interpolation", "multiplyAndAdd", "(LByteFields$Polynomial;II)V"⟩ ⟨"ByteFields$Interpolation", "multiplyAndAdd", "(LByteFields$Polynomial;II)V"⟩ ∈ bw_uw := bw_in (i := 18) (by decide +kernel) rfl
theorem w_99 : Cond.fieldLink "ByteFields$Interpolation" 37 "ByteFields$Polynomial" "top" "I" ∈ bw_uw := bw_in (i := 99) (by decide +kernel) rfl
theorem w_93 : Cond.fieldLink "ByteFields$Interpolation" 41 "ByteFields$Polynomial" "at" "[I" ∈ bw_uw := bw_in (i := 93) (by decide +kernel) rfl
theorem w_900 : Cond.methodLink "ByteFields$Interpolation" 44 ⟨"ByteFields$Field", "mul", "(II)I"⟩ ∈ bw_uw := bw_in (i := 900) (by decide +kernel) rfl
theorem w_901 : Cond.methodLink "ByteFields$Interpolation" 47 ⟨"ByteFields$Polynomial", "settle", "(I)V"⟩ ∈ bw_uw := bw_in (i := 901) (by decide +kernel) rfl
theorem w_628 : Cond.fieldLink "ByteFields$Matrix" 7 "ByteFields$Matrix" "rows" "I" ∈ bw_uw := bw_in (i := 628) (by decide +kernel) rfl
theorem w_632 : Cond.fieldLink "ByteFields$Matrix" 13 "ByteFields$Matrix" "columns" "I" ∈ bw_uw := bw_in (i := 632) (by decide +kernel) rfl
theorem w_636 : Cond.fieldLink "ByteFields$Matrix" 16 "ByteFields$Matrix" "cells" "[I" ∈ bw_uw := bw_in (i := 636) (by decide +kernel) rfl
theorem w_216 : Cond.classLink "ByteFields$Minors" 9 "[[I" ∈ bw_uw := bw_in (i := 216) (by decide +kernel) rfl
theorem w_218 : Cond.fieldLink "ByteFields$Minors" 11 "ByteFields$Minors" "values" "[[I" ∈ bw_uw := bw_in (i := 218) (by decide +kernel) rfl
theorem w_217 : Cond.fieldLink "ByteFields$Minors" 16 "ByteFields$Minors" "field" "LByteFields$Field;" ∈ bw_uw := bw_in (i := 217) (by decide +kernel) rfl
theorem w_630 : Cond.fieldLink "ByteFields$Minors" 20 "ByteFields$Matrix" "rows" "I" ∈ bw_uw := bw_in (i := 630) (by decide +kernel) rfl
theorem w_805 : Cond.methodLink "ByteFields$Minors" 26 ⟨"java/lang/Integer", "bitCount", "(I)I"⟩ ∈ bw_uw := bw_in (i := 805) (by decide +kernel) rfl
theorem w_807 : Cond.code ⟨"java/lang/Integer", "bitCount", "(I)I"⟩ prog_19_method_49_code 1 (Option.some FieldType.int) ∈ bw_uw := bw_in (i := 807) (by decide +kernel) rfl
theorem w_806 : Cond.static ⟨"java/lang/Integer", "bitCount", "(I)I"⟩ ∈ bw_uw := bw_in (i := 806) (by decide +kernel) rfl
theorem w_811 : Cond.methodLink "ByteFields$Minors" 32 ⟨"java/lang/Integer", "numberOfTrailingZeros", "(I)I"⟩ ∈ bw_uw := bw_in (i := 811) (by decide +kernel) rfl
theorem w_813 : Cond.code ⟨"java/lang/Integer", "numberOfTrailingZeros", "(I)I"⟩ prog_19_method_48_code 2 (Option.some FieldType.int) ∈ bw_uw := bw_in (i := 813) (by decide +kernel) rfl
theorem w_812 : Cond.static ⟨"java/lang/Integer", "numberOfTrailingZeros", "(I)I"⟩ ∈ bw_uw := bw_in (i := 812) (by decide +kernel) rfl
theorem w_814 : Cond.methodLink "ByteFields$Minors" 35 ⟨"ByteFields$Minors", "addRow", "(LByteFields$Matrix;II)I"⟩ ∈ bw_uw := bw_in (i := 814) (by decide +kernel) rfl
theorem w_58 : Cond.initialized "ByteFields$Minors" ∈ bw_uw := bw_in (i := 58) (by decide +kernel) rfl
theorem w_817 : Cond.code ⟨"ByteFields$Minors", "addRow", "(LByteFields$Matrix;II)I"⟩ prog_8_method_3_code 7 (Option.some FieldType.int) ∈ bw_uw := bw_in (i := 817) (by decide +kernel) rfl
theorem w_816 : Cond.instanceMethod ⟨"ByteFields$Minors", "addRow", "(LByteFields$Matrix;II)I"⟩ ∈ bw_uw := bw_in (i := 816) (by decide +kernel) rfl
theorem w_14 : Cond.selects "ByteFields$Minors" ⟨"ByteFields$Minors", "addRow", "(LByteFields$Matrix;II)I"⟩ ⟨"ByteFields$Minors", "addRow", "(LByteFields$Matrix;II)I"⟩ ∈ bw_uw := bw_in (i := 14) (by decide +kernel) rfl
theorem w_634 : Cond.fieldLink "ByteFields$Minors" 39 "ByteFields$Matrix" "columns" "I" ∈ bw_uw := bw_in (i := 634) (by decide +kernel) rfl
theorem w_818 : Cond.methodLink "ByteFields$Minors" 42 ⟨"ByteFields$Minors", "expanded", "(LByteFields$Matrix;II[I)I"⟩ ∈ bw_uw := bw_in (i := 818) (by decide +kernel) rfl
theorem w_821 : Cond.code ⟨"ByteFields$Minors", "expanded", "(LByteFields$Matrix;II[I)I"⟩ prog_8_method_4_code 7 (Option.some FieldType.int) ∈ bw_uw := bw_in (i := 821) (by decide +kernel) rfl
theorem w_820 : Cond.instanceMethod ⟨"ByteFields$Minors", "expanded", "(LByteFields$Matrix;II[I)I"⟩ ∈ bw_uw := bw_in (i := 820) (by decide +kernel) rfl
theorem w_15 : Cond.selects "ByteFields$Minors" ⟨"ByteFields$Minors", "expanded", "(LByteFields$Matrix;II[I)I"⟩ ⟨"ByteFields$Minors", "expanded", "(LByteFields$Matrix;II[I)I"⟩ ∈ bw_uw := bw_in (i := 15) (by decide +kernel) rfl
theorem w_638 : Cond.fieldLink "ByteFields$Minors" 46 "ByteFields$Matrix" "cells" "[I" ∈ bw_uw := bw_in (i := 638) (by decide +kernel) rfl
theorem w_822 : Cond.methodLink "ByteFields$Minors" 50 ⟨"ByteFields$Field", "mul", "(II)I"⟩ ∈ bw_uw := bw_in (i := 822) (by decide +kernel) rfl
theorem w_96 : Cond.fieldLink "ByteFields$Polynomial" 9 "ByteFields$Polynomial" "top" "I" ∈ bw_uw := bw_in (i := 96) (by decide +kernel) rfl
theorem w_102 : Cond.fieldLink "ByteFields$Polynomial" 15 "ByteFields$Polynomial" "partCounts" "[I" ∈ bw_uw := bw_in (i := 102) (by decide +kernel) rfl
theorem w_91 : Cond.fieldLink "ByteFields$Polynomial" 19 "ByteFields$Polynomial" "at" "[I" ∈ bw_uw := bw_in (i := 91) (by decide +kernel) rfl
theorem w_860 : Cond.methodLink "ByteFields$Polynomial" 22 ⟨"ByteFields$Polynomial", "clear", "()V"⟩ ∈ bw_uw := bw_in (i := 860) (by decide +kernel) rfl
theorem w_865 : Cond.methodLink "ByteFields$Polynomial" 31 ⟨"ByteFields$Polynomial", "settle", "(I)V"⟩ ∈ bw_uw := bw_in (i := 865) (by decide +kernel) rfl
theorem w_877 : Cond.methodLink "ByteFields$Polynomial" 35 ⟨"ByteFields$Polynomial", "load", "([II)V"⟩ ∈ bw_uw := bw_in (i := 877) (by decide +kernel) rfl
theorem w_859 : Cond.code ⟨"ByteFields$Polynomial", "load", "([II)V"⟩ prog_9_method_3_code 3 (Option.none : Option FieldType) ∈ bw_uw := bw_in (i := 859) (by decide +kernel) rfl
theorem w_857 : Cond.instanceMethod ⟨"ByteFields$Polynomial", "load", "([II)V"⟩ ∈ bw_uw := bw_in (i := 857) (by decide +kernel) rfl
theorem w_858 : Cond.selects "ByteFields$Polynomial" ⟨"ByteFields$Polynomial", "load", "([II)V"⟩ ⟨"ByteFields$Polynomial", "load", "([II)V"⟩ ∈ bw_uw := bw_in (i := 858) (by decide +kernel) rfl
theorem w_944 : Cond.methodLink "ByteFields$Polynomial" 39 ⟨"ByteFields$Field", "addMultiple", "([II[IIII)V"⟩ ∈ bw_uw := bw_in (i := 944) (by decide +kernel) rfl
theorem w_945 : Cond.methodLink "ByteFields$Polynomial" 45 ⟨"java/lang/Math", "max", "(II)I"⟩ ∈ bw_uw := bw_in (i := 945) (by decide +kernel) rfl
theorem w_76 : Cond.initialized "java/lang/Math" ∈ bw_uw := bw_in (i := 76) (by decide +kernel) rfl
theorem w_947 : Cond.code ⟨"java/lang/Math", "max", "(II)I"⟩ prog_20_method_65_code 2 (Option.some FieldType.int) ∈ bw_uw := bw_in (i := 947) (by decide +kernel) rfl
theorem w_946 : Cond.static ⟨"java/lang/Math", "max", "(II)I"⟩ ∈ bw_uw := bw_in (i := 946) (by decide +kernel) rfl
theorem w_256 : Cond.classLink "ByteFields$Roots" 9 "ByteFields$Polynomial" ∈ bw_uw := bw_in (i := 256) (by decide +kernel) rfl
theorem w_257 : Cond.methodLink "ByteFields$Roots" 11 ⟨"ByteFields$Polynomial", "<init>", "(I)V"⟩ ∈ bw_uw := bw_in (i := 257) (by decide +kernel) rfl
theorem w_271 : Cond.fieldLink "ByteFields$Roots" 14 "ByteFields$Roots" "left" "LByteFields$Polynomial;" ∈ bw_uw := bw_in (i := 271) (by decide +kernel) rfl
theorem w_272 : Cond.fieldLink "ByteFields$Roots" 20 "ByteFields$Roots" "lower" "LByteFields$Polynomial;" ∈ bw_uw := bw_in (i := 272) (by decide +kernel) rfl
theorem w_273 : Cond.fieldLink "ByteFields$Roots" 23 "ByteFields$Roots" "other" "LByteFields$Polynomial;" ∈ bw_uw := bw_in (i := 273) (by decide +kernel) rfl
theorem w_267 : Cond.fieldLink "ByteFields$Roots" 26 "ByteFields$Roots" "field" "LByteFields$Field;" ∈ bw_uw := bw_in (i := 267) (by decide +kernel) rfl
theorem w_268 : Cond.fieldLink "ByteFields$Roots" 30 "ByteFields$Roots" "division" "LByteFields$Division;" ∈ bw_uw := bw_in (i := 268) (by decide +kernel) rfl
theorem w_156 : Cond.fieldLink "ByteFields$Roots" 34 "ByteFields$Field" "bits" "I" ∈ bw_uw := bw_in (i := 156) (by decide +kernel) rfl
theorem w_269 : Cond.fieldLink "ByteFields$Roots" 40 "ByteFields$Roots" "steps" "[I" ∈ bw_uw := bw_in (i := 269) (by decide +kernel) rfl
theorem w_258 : Cond.methodLink "ByteFields$Roots" 44 ⟨"ByteFields$Roots", "valueAt", "(II)I"⟩ ∈ bw_uw := bw_in (i := 258) (by decide +kernel) rfl
theorem w_61 : Cond.initialized "ByteFields$Roots" ∈ bw_uw := bw_in (i := 61) (by decide +kernel) rfl
theorem w_261 : Cond.code ⟨"ByteFields$Roots", "valueAt", "(II)I"⟩ prog_10_method_2_code 5 (Option.some FieldType.int) ∈ bw_uw := bw_in (i := 261) (by decide +kernel) rfl
theorem w_260 : Cond.instanceMethod ⟨"ByteFields$Roots", "valueAt", "(II)I"⟩ ∈ bw_uw := bw_in (i := 260) (by decide +kernel) rfl
theorem w_4 : Cond.selects "ByteFields$Roots" ⟨"ByteFields$Roots", "valueAt", "(II)I"⟩ ⟨"ByteFields$Roots", "valueAt", "(II)I"⟩ ∈ bw_uw := bw_in (i := 4) (by decide +kernel) rfl
theorem w_270 : Cond.fieldLink "ByteFields$Roots" 48 "ByteFields$Roots" "rests" "[LByteFields$Polynomial;" ∈ bw_uw := bw_in (i := 270) (by decide +kernel) rfl
theorem w_262 : Cond.methodLink "ByteFields$Roots" 52 ⟨"ByteFields$Field", "mul", "(II)I"⟩ ∈ bw_uw := bw_in (i := 262) (by decide +kernel) rfl
theorem w_1016 : Cond.methodLink "ByteFields$Roots" 55 ⟨"ByteFields$Polynomial", "becomeX", "()V"⟩ ∈ bw_uw := bw_in (i := 1016) (by decide +kernel) rfl
theorem w_1020 : Cond.methodLink "ByteFields$Roots" 58 ⟨"ByteFields$Division", "toRest", "(LByteFields$Polynomial;LByteFields$Polynomial;)V"⟩ ∈ bw_uw := bw_in (i := 1020) (by decide +kernel) rfl
theorem w_1021 : Cond.methodLink "ByteFields$Roots" 64 ⟨"ByteFields$Polynomial", "copyFrom", "(LByteFields$Polynomial;)V"⟩ ∈ bw_uw := bw_in (i := 1021) (by decide +kernel) rfl
theorem w_1022 : Cond.methodLink "ByteFields$Roots" 68 ⟨"ByteFields$Division", "toSquareRest", "(LByteFields$Polynomial;LByteFields$Polynomial;)V"⟩ ∈ bw_uw := bw_in (i := 1022) (by decide +kernel) rfl
theorem w_1026 : Cond.methodLink "ByteFields$Roots" 71 ⟨"ByteFields$Polynomial", "addScaled", "(LByteFields$Field;LByteFields$Polynomial;I)V"⟩ ∈ bw_uw := bw_in (i := 1026) (by decide +kernel) rfl
theorem w_100 : Cond.fieldLink "ByteFields$Roots" 75 "ByteFields$Polynomial" "top" "I" ∈ bw_uw := bw_in (i := 100) (by decide +kernel) rfl
theorem w_1012 : Cond.methodLink "ByteFields$Roots" 78 ⟨"ByteFields$Roots", "makeRests", "(LByteFields$Polynomial;)V"⟩ ∈ bw_uw := bw_in (i := 1012) (by decide +kernel) rfl
theorem w_1015 : Cond.code ⟨"ByteFields$Roots", "makeRests", "(LByteFields$Polynomial;)V"⟩ prog_10_method_3_code 3 (Option.none : Option FieldType) ∈ bw_uw := bw_in (i := 1015) (by decide +kernel) rfl
theorem w_1014 : Cond.instanceMethod ⟨"ByteFields$Roots", "makeRests", "(LByteFields$Polynomial;)V"⟩ ∈ bw_uw := bw_in (i := 1014) (by decide +kernel) rfl
theorem w_22 : Cond.selects "ByteFields$Roots" ⟨"ByteFields$Roots", "makeRests", "(LByteFields$Polynomial;)V"⟩ ⟨"ByteFields$Roots", "makeRests", "(LByteFields$Polynomial;)V"⟩ ∈ bw_uw := bw_in (i := 22) (by decide +kernel) rfl
theorem w_1027 : Cond.methodLink "ByteFields$Roots" 81 ⟨"ByteFields$Division", "toGreatestDivisor", "(LByteFields$Polynomial;LByteFields$Polynomial;)V"⟩ ∈ bw_uw := bw_in (i := 1027) (by decide +kernel) rfl
theorem w_1028 : Cond.methodLink "ByteFields$Roots" 84 ⟨"ByteFields$Roots", "keepLower", "(II)V"⟩ ∈ bw_uw := bw_in (i := 1028) (by decide +kernel) rfl
theorem w_1031 : Cond.code ⟨"ByteFields$Roots", "keepLower", "(II)V"⟩ prog_10_method_5_code 3 (Option.none : Option FieldType) ∈ bw_uw := bw_in (i := 1031) (by decide +kernel) rfl
theorem w_1030 : Cond.instanceMethod ⟨"ByteFields$Roots", "keepLower", "(II)V"⟩ ∈ bw_uw := bw_in (i := 1030) (by decide +kernel) rfl
theorem w_23 : Cond.selects "ByteFields$Roots" ⟨"ByteFields$Roots", "keepLower", "(II)V"⟩ ⟨"ByteFields$Roots", "keepLower", "(II)V"⟩ ∈ bw_uw := bw_in (i := 23) (by decide +kernel) rfl
theorem w_1036 : Cond.methodLink "ByteFields$Roots" 88 ⟨"ByteFields$Division", "toQuotient", "(LByteFields$Polynomial;LByteFields$Polynomial;)V"⟩ ∈ bw_uw := bw_in (i := 1036) (by decide +kernel) rfl
theorem w_94 : Cond.fieldLink "ByteFields$Roots" 91 "ByteFields$Polynomial" "at" "[I" ∈ bw_uw := bw_in (i := 94) (by decide +kernel) rfl
theorem w_1037 : Cond.methodLink "ByteFields$Roots" 94 ⟨"ByteFields$Field", "ratio", "(II)I"⟩ ∈ bw_uw := bw_in (i := 1037) (by decide +kernel) rfl
theorem w_1032 : Cond.methodLink "ByteFields$Roots" 97 ⟨"ByteFields$Polynomial", "addMember", "(I)V"⟩ ∈ bw_uw := bw_in (i := 1032) (by decide +kernel) rfl
theorem w_1035 : Cond.code ⟨"ByteFields$Polynomial", "addMember", "(I)V"⟩ prog_9_method_7_code 2 (Option.none : Option FieldType) ∈ bw_uw := bw_in (i := 1035) (by decide +kernel) rfl
theorem w_1033 : Cond.instanceMethod ⟨"ByteFields$Polynomial", "addMember", "(I)V"⟩ ∈ bw_uw := bw_in (i := 1033) (by decide +kernel) rfl
theorem w_1034 : Cond.selects "ByteFields$Polynomial" ⟨"ByteFields$Polynomial", "addMember", "(I)V"⟩ ⟨"ByteFields$Polynomial", "addMember", "(I)V"⟩ ∈ bw_uw := bw_in (i := 1034) (by decide +kernel) rfl
theorem w_85 : Cond.classLink "ByteFields" 9 "ByteFields$Polynomial" ∈ bw_uw := bw_in (i := 85) (by decide +kernel) rfl
theorem w_87 : Cond.methodLink "ByteFields" 11 ⟨"ByteFields$Polynomial", "<init>", "(I)V"⟩ ∈ bw_uw := bw_in (i := 87) (by decide +kernel) rfl
theorem w_323 : Cond.fieldLink "ByteFields" 14 "ByteFields" "work" "LByteFields$Polynomial;" ∈ bw_uw := bw_in (i := 323) (by decide +kernel) rfl
theorem w_324 : Cond.fieldLink "ByteFields" 18 "ByteFields" "otherWork" "LByteFields$Polynomial;" ∈ bw_uw := bw_in (i := 324) (by decide +kernel) rfl
theorem w_325 : Cond.fieldLink "ByteFields" 21 "ByteFields" "rowMembers" "[I" ∈ bw_uw := bw_in (i := 325) (by decide +kernel) rfl
theorem w_112 : Cond.classLink "ByteFields" 25 "ByteFields$Matrix" ∈ bw_uw := bw_in (i := 112) (by decide +kernel) rfl
theorem w_327 : Cond.fieldLink "ByteFields" 27 "ByteFields" "matrices" "[LByteFields$Matrix;" ∈ bw_uw := bw_in (i := 327) (by decide +kernel) rfl
theorem w_329 : Cond.fieldLink "ByteFields" 31 "ByteFields" "polynomials" "[LByteFields$Polynomial;" ∈ bw_uw := bw_in (i := 329) (by decide +kernel) rfl
theorem w_331 : Cond.fieldLink "ByteFields" 35 "ByteFields" "spanMembers" "[I" ∈ bw_uw := bw_in (i := 331) (by decide +kernel) rfl
theorem w_115 : Cond.classLink "ByteFields" 38 "ByteFields$Field" ∈ bw_uw := bw_in (i := 115) (by decide +kernel) rfl
theorem w_116 : Cond.instantiable "ByteFields$Field" 6 ∈ bw_uw := bw_in (i := 116) (by decide +kernel) rfl
theorem w_117 : Cond.methodLink "ByteFields" 40 ⟨"ByteFields$Field", "<init>", "(II)V"⟩ ∈ bw_uw := bw_in (i := 117) (by decide +kernel) rfl
theorem w_119 : Cond.code ⟨"ByteFields$Field", "<init>", "(II)V"⟩ prog_5_method_1_code 5 (Option.none : Option FieldType) ∈ bw_uw := bw_in (i := 119) (by decide +kernel) rfl
theorem w_118 : Cond.instanceMethod ⟨"ByteFields$Field", "<init>", "(II)V"⟩ ∈ bw_uw := bw_in (i := 118) (by decide +kernel) rfl
theorem w_316 : Cond.fieldLink "ByteFields" 43 "ByteFields" "field" "LByteFields$Field;" ∈ bw_uw := bw_in (i := 316) (by decide +kernel) rfl
theorem w_179 : Cond.classLink "ByteFields" 47 "ByteFields$Elimination" ∈ bw_uw := bw_in (i := 179) (by decide +kernel) rfl
theorem w_180 : Cond.instantiable "ByteFields$Elimination" 7 ∈ bw_uw := bw_in (i := 180) (by decide +kernel) rfl
theorem w_181 : Cond.methodLink "ByteFields" 49 ⟨"ByteFields$Elimination", "<init>", "(LByteFields$Field;)V"⟩ ∈ bw_uw := bw_in (i := 181) (by decide +kernel) rfl
theorem w_183 : Cond.code ⟨"ByteFields$Elimination", "<init>", "(LByteFields$Field;)V"⟩ prog_3_method_1_code 2 (Option.none : Option FieldType) ∈ bw_uw := bw_in (i := 183) (by decide +kernel) rfl
theorem w_182 : Cond.instanceMethod ⟨"ByteFields$Elimination", "<init>", "(LByteFields$Field;)V"⟩ ∈ bw_uw := bw_in (i := 182) (by decide +kernel) rfl
theorem w_317 : Cond.fieldLink "ByteFields" 52 "ByteFields" "elimination" "LByteFields$Elimination;" ∈ bw_uw := bw_in (i := 317) (by decide +kernel) rfl
theorem w_210 : Cond.classLink "ByteFields" 56 "ByteFields$Minors" ∈ bw_uw := bw_in (i := 210) (by decide +kernel) rfl
theorem w_211 : Cond.instantiable "ByteFields$Minors" 2 ∈ bw_uw := bw_in (i := 211) (by decide +kernel) rfl
theorem w_212 : Cond.methodLink "ByteFields" 58 ⟨"ByteFields$Minors", "<init>", "(LByteFields$Field;)V"⟩ ∈ bw_uw := bw_in (i := 212) (by decide +kernel) rfl
theorem w_214 : Cond.code ⟨"ByteFields$Minors", "<init>", "(LByteFields$Field;)V"⟩ prog_8_method_1_code 2 (Option.none : Option FieldType) ∈ bw_uw := bw_in (i := 214) (by decide +kernel) rfl
theorem w_213 : Cond.instanceMethod ⟨"ByteFields$Minors", "<init>", "(LByteFields$Field;)V"⟩ ∈ bw_uw := bw_in (i := 213) (by decide +kernel) rfl
theorem w_318 : Cond.fieldLink "ByteFields" 59 "ByteFields" "minors" "LByteFields$Minors;" ∈ bw_uw := bw_in (i := 318) (by decide +kernel) rfl
theorem w_224 : Cond.classLink "ByteFields" 63 "ByteFields$Division" ∈ bw_uw := bw_in (i := 224) (by decide +kernel) rfl
theorem w_225 : Cond.instantiable "ByteFields$Division" 1 ∈ bw_uw := bw_in (i := 225) (by decide +kernel) rfl
theorem w_226 : Cond.methodLink "ByteFields" 65 ⟨"ByteFields$Division", "<init>", "(LByteFields$Field;)V"⟩ ∈ bw_uw := bw_in (i := 226) (by decide +kernel) rfl
theorem w_228 : Cond.code ⟨"ByteFields$Division", "<init>", "(LByteFields$Field;)V"⟩ prog_2_method_1_code 2 (Option.none : Option FieldType) ∈ bw_uw := bw_in (i := 228) (by decide +kernel) rfl
theorem w_227 : Cond.instanceMethod ⟨"ByteFields$Division", "<init>", "(LByteFields$Field;)V"⟩ ∈ bw_uw := bw_in (i := 227) (by decide +kernel) rfl
theorem w_319 : Cond.fieldLink "ByteFields" 66 "ByteFields" "division" "LByteFields$Division;" ∈ bw_uw := bw_in (i := 319) (by decide +kernel) rfl
theorem w_234 : Cond.classLink "ByteFields" 70 "ByteFields$Interpolation" ∈ bw_uw := bw_in (i := 234) (by decide +kernel) rfl
theorem w_235 : Cond.instantiable "ByteFields$Interpolation" 3 ∈ bw_uw := bw_in (i := 235) (by decide +kernel) rfl
theorem w_236 : Cond.methodLink "ByteFields" 72 ⟨"ByteFields$Interpolation", "<init>", "(LByteFields$Field;)V"⟩ ∈ bw_uw := bw_in (i := 236) (by decide +kernel) rfl
theorem w_238 : Cond.code ⟨"ByteFields$Interpolation", "<init>", "(LByteFields$Field;)V"⟩ prog_6_method_1_code 2 (Option.none : Option FieldType) ∈ bw_uw := bw_in (i := 238) (by decide +kernel) rfl
theorem w_237 : Cond.instanceMethod ⟨"ByteFields$Interpolation", "<init>", "(LByteFields$Field;)V"⟩ ∈ bw_uw := bw_in (i := 237) (by decide +kernel) rfl
theorem w_320 : Cond.fieldLink "ByteFields" 73 "ByteFields" "interpolation" "LByteFields$Interpolation;" ∈ bw_uw := bw_in (i := 320) (by decide +kernel) rfl
theorem w_250 : Cond.classLink "ByteFields" 77 "ByteFields$Roots" ∈ bw_uw := bw_in (i := 250) (by decide +kernel) rfl
theorem w_251 : Cond.instantiable "ByteFields$Roots" 7 ∈ bw_uw := bw_in (i := 251) (by decide +kernel) rfl
theorem w_252 : Cond.methodLink "ByteFields" 79 ⟨"ByteFields$Roots", "<init>", "(LByteFields$Field;LByteFields$Division;)V"⟩ ∈ bw_uw := bw_in (i := 252) (by decide +kernel) rfl
theorem w_254 : Cond.code ⟨"ByteFields$Roots", "<init>", "(LByteFields$Field;LByteFields$Division;)V"⟩ prog_10_method_1_code 4 (Option.none : Option FieldType) ∈ bw_uw := bw_in (i := 254) (by decide +kernel) rfl
theorem w_253 : Cond.instanceMethod ⟨"ByteFields$Roots", "<init>", "(LByteFields$Field;LByteFields$Division;)V"⟩ ∈ bw_uw := bw_in (i := 253) (by decide +kernel) rfl
theorem w_321 : Cond.fieldLink "ByteFields" 82 "ByteFields" "roots" "LByteFields$Roots;" ∈ bw_uw := bw_in (i := 321) (by decide +kernel) rfl
theorem w_289 : Cond.classLink "ByteFields" 86 "ByteFields$Factors" ∈ bw_uw := bw_in (i := 289) (by decide +kernel) rfl
theorem w_290 : Cond.instantiable "ByteFields$Factors" 6 ∈ bw_uw := bw_in (i := 290) (by decide +kernel) rfl
theorem w_291 : Cond.methodLink "ByteFields" 88 ⟨"ByteFields$Factors", "<init>", "(LByteFields$Field;LByteFields$Division;)V"⟩ ∈ bw_uw := bw_in (i := 291) (by decide +kernel) rfl
theorem w_293 : Cond.code ⟨"ByteFields$Factors", "<init>", "(LByteFields$Field;LByteFields$Division;)V"⟩ prog_4_method_1_code 3 (Option.none : Option FieldType) ∈ bw_uw := bw_in (i := 293) (by decide +kernel) rfl
theorem w_292 : Cond.instanceMethod ⟨"ByteFields$Factors", "<init>", "(LByteFields$Field;LByteFields$Division;)V"⟩ ∈ bw_uw := bw_in (i := 292) (by decide +kernel) rfl
theorem w_322 : Cond.fieldLink "ByteFields" 89 "ByteFields" "factors" "LByteFields$Factors;" ∈ bw_uw := bw_in (i := 322) (by decide +kernel) rfl
theorem w_162 : Cond.fieldLink "ByteFields" 93 "ByteFields$Field" "poly" "I" ∈ bw_uw := bw_in (i := 162) (by decide +kernel) rfl
theorem w_164 : Cond.fieldLink "ByteFields" 97 "ByteFields$Field" "generator" "I" ∈ bw_uw := bw_in (i := 164) (by decide +kernel) rfl
theorem w_391 : Cond.methodLink "ByteFields" 100 ⟨"ByteFields", "needMember", "(I)V"⟩ ∈ bw_uw := bw_in (i := 391) (by decide +kernel) rfl
theorem w_53 : Cond.initialized "ByteFields" ∈ bw_uw := bw_in (i := 53) (by decide +kernel) rfl
theorem w_394 : Cond.code ⟨"ByteFields", "needMember", "(I)V"⟩ prog_1_method_40_code 2 (Option.none : Option FieldType) ∈ bw_uw := bw_in (i := 394) (by decide +kernel) rfl
theorem w_393 : Cond.instanceMethod ⟨"ByteFields", "needMember", "(I)V"⟩ ∈ bw_uw := bw_in (i := 393) (by decide +kernel) rfl
theorem w_5 : Cond.selects "ByteFields" ⟨"ByteFields", "needMember", "(I)V"⟩ ⟨"ByteFields", "needMember", "(I)V"⟩ ∈ bw_uw := bw_in (i := 5) (by decide +kernel) rfl
theorem w_466 : Cond.methodLink "ByteFields" 103 ⟨"ByteFields$Field", "mul", "(II)I"⟩ ∈ bw_uw := bw_in (i := 466) (by decide +kernel) rfl
theorem w_493 : Cond.classLink "ByteFields" 107 "java/lang/ArithmeticException" ∈ bw_uw := bw_in (i := 493) (by decide +kernel) rfl
theorem w_68 : Cond.initialized "java/lang/ArithmeticException" ∈ bw_uw := bw_in (i := 68) (by decide +kernel) rfl
theorem w_496 : Cond.methodLink "ByteFields" 114 ⟨"ByteFields$Field", "ratio", "(II)I"⟩ ∈ bw_uw := bw_in (i := 496) (by decide +kernel) rfl
theorem w_513 : Cond.methodLink "ByteFields" 119 ⟨"ByteFields$Field", "raised", "(IJ)I"⟩ ∈ bw_uw := bw_in (i := 513) (by decide +kernel) rfl
theorem w_516 : Cond.code ⟨"ByteFields$Field", "raised", "(IJ)I"⟩ prog_5_method_14_code 8 (Option.some FieldType.int) ∈ bw_uw := bw_in (i := 516) (by decide +kernel) rfl
theorem w_514 : Cond.instanceMethod ⟨"ByteFields$Field", "raised", "(IJ)I"⟩ ∈ bw_uw := bw_in (i := 514) (by decide +kernel) rfl
theorem w_515 : Cond.selects "ByteFields$Field" ⟨"ByteFields$Field", "raised", "(IJ)I"⟩ ⟨"ByteFields$Field", "raised", "(IJ)I"⟩ ∈ bw_uw := bw_in (i := 515) (by decide +kernel) rfl
theorem w_547 : Cond.classLink "ByteFields" 123 "java/lang/ArrayIndexOutOfBoundsException" ∈ bw_uw := bw_in (i := 547) (by decide +kernel) rfl
theorem w_71 : Cond.initialized "java/lang/ArrayIndexOutOfBoundsException" ∈ bw_uw := bw_in (i := 71) (by decide +kernel) rfl
theorem w_549 : Cond.methodLink "ByteFields" 127 ⟨"java/lang/ArrayIndexOutOfBoundsException", "<init>", "(Ljava/lang/String;)V"⟩ ∈ bw_uw := bw_in (i := 549) (by decide +kernel) rfl
theorem w_527 : Cond.code ⟨"java/lang/ArrayIndexOutOfBoundsException", "<init>", "(Ljava/lang/String;)V"⟩ prog_14_method_2_code 2 (Option.none : Option FieldType) ∈ bw_uw := bw_in (i := 527) (by decide +kernel) rfl
theorem w_526 : Cond.instanceMethod ⟨"java/lang/ArrayIndexOutOfBoundsException", "<init>", "(Ljava/lang/String;)V"⟩ ∈ bw_uw := bw_in (i := 526) (by decide +kernel) rfl
theorem w_550 : Cond.methodLink "ByteFields" 128 ⟨"ByteFields$Field", "logOf", "(I)I"⟩ ∈ bw_uw := bw_in (i := 550) (by decide +kernel) rfl
theorem w_558 : Cond.methodLink "ByteFields" 132 ⟨"ByteFields$Field", "orderOf", "(I)I"⟩ ∈ bw_uw := bw_in (i := 558) (by decide +kernel) rfl
theorem w_561 : Cond.code ⟨"ByteFields$Field", "orderOf", "(I)I"⟩ prog_5_method_15_code 7 (Option.some FieldType.int) ∈ bw_uw := bw_in (i := 561) (by decide +kernel) rfl
theorem w_559 : Cond.instanceMethod ⟨"ByteFields$Field", "orderOf", "(I)I"⟩ ∈ bw_uw := bw_in (i := 559) (by decide +kernel) rfl
theorem w_560 : Cond.selects "ByteFields$Field" ⟨"ByteFields$Field", "orderOf", "(I)I"⟩ ⟨"ByteFields$Field", "orderOf", "(I)I"⟩ ∈ bw_uw := bw_in (i := 560) (by decide +kernel) rfl
theorem w_326 : Cond.fieldLink "ByteFields" 135 "ByteFields" "inRow" "I" ∈ bw_uw := bw_in (i := 326) (by decide +kernel) rfl
theorem w_570 : Cond.classLink "ByteFields" 138 "java/lang/UnsupportedOperationException" ∈ bw_uw := bw_in (i := 570) (by decide +kernel) rfl
theorem w_72 : Cond.initialized "java/lang/UnsupportedOperationException" ∈ bw_uw := bw_in (i := 72) (by decide +kernel) rfl
theorem w_594 : Cond.classLink "ByteFields" 143 "java/lang/IndexOutOfBoundsException" ∈ bw_uw := bw_in (i := 594) (by decide +kernel) rfl
theorem w_70 : Cond.initialized "java/lang/IndexOutOfBoundsException" ∈ bw_uw := bw_in (i := 70) (by decide +kernel) rfl
theorem w_614 : Cond.methodLink "ByteFields" 148 ⟨"ByteFields", "needSides", "(II)V"⟩ ∈ bw_uw := bw_in (i := 614) (by decide +kernel) rfl
theorem w_616 : Cond.code ⟨"ByteFields", "needSides", "(II)V"⟩ prog_1_method_41_code 2 (Option.none : Option FieldType) ∈ bw_uw := bw_in (i := 616) (by decide +kernel) rfl
theorem w_615 : Cond.static ⟨"ByteFields", "needSides", "(II)V"⟩ ∈ bw_uw := bw_in (i := 615) (by decide +kernel) rfl
theorem w_618 : Cond.methodLink "ByteFields" 151 ⟨"ByteFields", "needMatrixRoom", "()V"⟩ ∈ bw_uw := bw_in (i := 618) (by decide +kernel) rfl
theorem w_621 : Cond.code ⟨"ByteFields", "needMatrixRoom", "()V"⟩ prog_1_method_43_code 1 (Option.none : Option FieldType) ∈ bw_uw := bw_in (i := 621) (by decide +kernel) rfl
theorem w_620 : Cond.instanceMethod ⟨"ByteFields", "needMatrixRoom", "()V"⟩ ∈ bw_uw := bw_in (i := 620) (by decide +kernel) rfl
theorem w_7 : Cond.selects "ByteFields" ⟨"ByteFields", "needMatrixRoom", "()V"⟩ ⟨"ByteFields", "needMatrixRoom", "()V"⟩ ∈ bw_uw := bw_in (i := 7) (by decide +kernel) rfl
theorem w_623 : Cond.instantiable "ByteFields$Matrix" 3 ∈ bw_uw := bw_in (i := 623) (by decide +kernel) rfl
theorem w_73 : Cond.initialized "ByteFields$Matrix" ∈ bw_uw := bw_in (i := 73) (by decide +kernel) rfl
theorem w_624 : Cond.methodLink "ByteFields" 154 ⟨"ByteFields$Matrix", "<init>", "(II)V"⟩ ∈ bw_uw := bw_in (i := 624) (by decide +kernel) rfl
theorem w_626 : Cond.code ⟨"ByteFields$Matrix", "<init>", "(II)V"⟩ prog_7_method_1_code 3 (Option.none : Option FieldType) ∈ bw_uw := bw_in (i := 626) (by decide +kernel) rfl
theorem w_625 : Cond.instanceMethod ⟨"ByteFields$Matrix", "<init>", "(II)V"⟩ ∈ bw_uw := bw_in (i := 625) (by decide +kernel) rfl
theorem w_647 : Cond.methodLink "ByteFields" 155 ⟨"ByteFields", "keepMatrix", "(LByteFields$Matrix;)I"⟩ ∈ bw_uw := bw_in (i := 647) (by decide +kernel) rfl
theorem w_650 : Cond.code ⟨"ByteFields", "keepMatrix", "(LByteFields$Matrix;)I"⟩ prog_1_method_49_code 3 (Option.some FieldType.int) ∈ bw_uw := bw_in (i := 650) (by decide +kernel) rfl
theorem w_649 : Cond.instanceMethod ⟨"ByteFields", "keepMatrix", "(LByteFields$Matrix;)I"⟩ ∈ bw_uw := bw_in (i := 649) (by decide +kernel) rfl
theorem w_8 : Cond.selects "ByteFields" ⟨"ByteFields", "keepMatrix", "(LByteFields$Matrix;)I"⟩ ⟨"ByteFields", "keepMatrix", "(LByteFields$Matrix;)I"⟩ ∈ bw_uw := bw_in (i := 8) (by decide +kernel) rfl
theorem w_659 : Cond.methodLink "ByteFields" 159 ⟨"ByteFields", "hasAlike", "(I)Z"⟩ ∈ bw_uw := bw_in (i := 659) (by decide +kernel) rfl
theorem w_662 : Cond.code ⟨"ByteFields", "hasAlike", "(I)Z"⟩ prog_1_method_51_code 4 (Option.some FieldType.boolean) ∈ bw_uw := bw_in (i := 662) (by decide +kernel) rfl
theorem w_661 : Cond.instanceMethod ⟨"ByteFields", "hasAlike", "(I)Z"⟩ ∈ bw_uw := bw_in (i := 661) (by decide +kernel) rfl
theorem w_9 : Cond.selects "ByteFields" ⟨"ByteFields", "hasAlike", "(I)Z"⟩ ⟨"ByteFields", "hasAlike", "(I)Z"⟩ ∈ bw_uw := bw_in (i := 9) (by decide +kernel) rfl
theorem w_663 : Cond.classLink "ByteFields" 163 "java/lang/IllegalStateException" ∈ bw_uw := bw_in (i := 663) (by decide +kernel) rfl
theorem w_74 : Cond.initialized "java/lang/IllegalStateException" ∈ bw_uw := bw_in (i := 74) (by decide +kernel) rfl
theorem w_639 : Cond.fieldLink "ByteFields" 168 "ByteFields$Matrix" "cells" "[I" ∈ bw_uw := bw_in (i := 639) (by decide +kernel) rfl
theorem w_687 : Cond.methodLink "ByteFields" 173 ⟨"ByteFields$Field", "inverse", "(I)I"⟩ ∈ bw_uw := bw_in (i := 687) (by decide +kernel) rfl
theorem w_695 : Cond.methodLink "ByteFields" 176 ⟨"ByteFields", "matrixAt", "(I)LByteFields$Matrix;"⟩ ∈ bw_uw := bw_in (i := 695) (by decide +kernel) rfl
theorem w_698 : Cond.code ⟨"ByteFields", "matrixAt", "(I)LByteFields$Matrix;"⟩ prog_1_method_46_code 3 (Option.some (FieldType.object "ByteFields$Matrix")) ∈ bw_uw := bw_in (i := 698) (by decide +kernel) rfl
theorem w_697 : Cond.instanceMethod ⟨"ByteFields", "matrixAt", "(I)LByteFields$Matrix;"⟩ ∈ bw_uw := bw_in (i := 697) (by decide +kernel) rfl
theorem w_10 : Cond.selects "ByteFields" ⟨"ByteFields", "matrixAt", "(I)LByteFields$Matrix;"⟩ ⟨"ByteFields", "matrixAt", "(I)LByteFields$Matrix;"⟩ ∈ bw_uw := bw_in (i := 10) (by decide +kernel) rfl
theorem w_395 : Cond.classLink "ByteFields" 180 "java/lang/IllegalArgumentException" ∈ bw_uw := bw_in (i := 395) (by decide +kernel) rfl
theorem w_67 : Cond.initialized "java/lang/IllegalArgumentException" ∈ bw_uw := bw_in (i := 67) (by decide +kernel) rfl
theorem w_631 : Cond.fieldLink "ByteFields" 185 "ByteFields$Matrix" "rows" "I" ∈ bw_uw := bw_in (i := 631) (by decide +kernel) rfl
theorem w_635 : Cond.fieldLink "ByteFields" 188 "ByteFields$Matrix" "columns" "I" ∈ bw_uw := bw_in (i := 635) (by decide +kernel) rfl
theorem w_708 : Cond.methodLink "ByteFields" 191 ⟨"ByteFields", "placeIn", "(LByteFields$Matrix;II)I"⟩ ∈ bw_uw := bw_in (i := 708) (by decide +kernel) rfl
theorem w_710 : Cond.code ⟨"ByteFields", "placeIn", "(LByteFields$Matrix;II)I"⟩ prog_1_method_47_code 3 (Option.some FieldType.int) ∈ bw_uw := bw_in (i := 710) (by decide +kernel) rfl
theorem w_709 : Cond.static ⟨"ByteFields", "placeIn", "(LByteFields$Matrix;II)I"⟩ ∈ bw_uw := bw_in (i := 709) (by decide +kernel) rfl
theorem w_727 : Cond.methodLink "ByteFields" 197 ⟨"ByteFields$Field", "addMultiple", "([II[IIII)V"⟩ ∈ bw_uw := bw_in (i := 727) (by decide +kernel) rfl
theorem w_738 : Cond.methodLink "ByteFields" 201 ⟨"ByteFields", "needSquare", "(LByteFields$Matrix;)V"⟩ ∈ bw_uw := bw_in (i := 738) (by decide +kernel) rfl
theorem w_740 : Cond.code ⟨"ByteFields", "needSquare", "(LByteFields$Matrix;)V"⟩ prog_1_method_42_code 1 (Option.none : Option FieldType) ∈ bw_uw := bw_in (i := 740) (by decide +kernel) rfl
theorem w_739 : Cond.static ⟨"ByteFields", "needSquare", "(LByteFields$Matrix;)V"⟩ ∈ bw_uw := bw_in (i := 739) (by decide +kernel) rfl
theorem w_742 : Cond.methodLink "ByteFields" 205 ⟨"ByteFields$Elimination", "load", "(LByteFields$Matrix;)V"⟩ ∈ bw_uw := bw_in (i := 742) (by decide +kernel) rfl
theorem w_745 : Cond.code ⟨"ByteFields$Elimination", "load", "(LByteFields$Matrix;)V"⟩ prog_3_method_2_code 3 (Option.none : Option FieldType) ∈ bw_uw := bw_in (i := 745) (by decide +kernel) rfl
theorem w_743 : Cond.instanceMethod ⟨"ByteFields$Elimination", "load", "(LByteFields$Matrix;)V"⟩ ∈ bw_uw := bw_in (i := 743) (by decide +kernel) rfl
theorem w_744 : Cond.selects "ByteFields$Elimination" ⟨"ByteFields$Elimination", "load", "(LByteFields$Matrix;)V"⟩ ⟨"ByteFields$Elimination", "load", "(LByteFields$Matrix;)V"⟩ ∈ bw_uw := bw_in (i := 744) (by decide +kernel) rfl
theorem w_749 : Cond.methodLink "ByteFields" 208 ⟨"ByteFields$Elimination", "appendIdentity", "()V"⟩ ∈ bw_uw := bw_in (i := 749) (by decide +kernel) rfl
theorem w_752 : Cond.code ⟨"ByteFields$Elimination", "appendIdentity", "()V"⟩ prog_3_method_3_code 3 (Option.none : Option FieldType) ∈ bw_uw := bw_in (i := 752) (by decide +kernel) rfl
theorem w_750 : Cond.instanceMethod ⟨"ByteFields$Elimination", "appendIdentity", "()V"⟩ ∈ bw_uw := bw_in (i := 750) (by decide +kernel) rfl
theorem w_751 : Cond.selects "ByteFields$Elimination" ⟨"ByteFields$Elimination", "appendIdentity", "()V"⟩ ⟨"ByteFields$Elimination", "appendIdentity", "()V"⟩ ∈ bw_uw := bw_in (i := 751) (by decide +kernel) rfl
theorem w_753 : Cond.methodLink "ByteFields" 211 ⟨"ByteFields$Elimination", "reduce", "(I)I"⟩ ∈ bw_uw := bw_in (i := 753) (by decide +kernel) rfl
theorem w_756 : Cond.code ⟨"ByteFields$Elimination", "reduce", "(I)I"⟩ prog_3_method_5_code 4 (Option.some FieldType.int) ∈ bw_uw := bw_in (i := 756) (by decide +kernel) rfl
theorem w_754 : Cond.instanceMethod ⟨"ByteFields$Elimination", "reduce", "(I)I"⟩ ∈ bw_uw := bw_in (i := 754) (by decide +kernel) rfl
theorem w_755 : Cond.selects "ByteFields$Elimination" ⟨"ByteFields$Elimination", "reduce", "(I)I"⟩ ⟨"ByteFields$Elimination", "reduce", "(I)I"⟩ ∈ bw_uw := bw_in (i := 755) (by decide +kernel) rfl
theorem w_776 : Cond.methodLink "ByteFields" 214 ⟨"ByteFields$Elimination", "copyAppended", "(LByteFields$Matrix;)V"⟩ ∈ bw_uw := bw_in (i := 776) (by decide +kernel) rfl
theorem w_779 : Cond.code ⟨"ByteFields$Elimination", "copyAppended", "(LByteFields$Matrix;)V"⟩ prog_3_method_11_code 3 (Option.none : Option FieldType) ∈ bw_uw := bw_in (i := 779) (by decide +kernel) rfl
theorem w_777 : Cond.instanceMethod ⟨"ByteFields$Elimination", "copyAppended", "(LByteFields$Matrix;)V"⟩ ∈ bw_uw := bw_in (i := 777) (by decide +kernel) rfl
theorem w_778 : Cond.selects "ByteFields$Elimination" ⟨"ByteFields$Elimination", "copyAppended", "(LByteFields$Matrix;)V"⟩ ⟨"ByteFields$Elimination", "copyAppended", "(LByteFields$Matrix;)V"⟩ ∈ bw_uw := bw_in (i := 778) (by decide +kernel) rfl
theorem w_194 : Cond.fieldLink "ByteFields" 217 "ByteFields$Elimination" "pivotProduct" "I" ∈ bw_uw := bw_in (i := 194) (by decide +kernel) rfl
theorem w_801 : Cond.methodLink "ByteFields" 220 ⟨"ByteFields$Minors", "countZeros", "(LByteFields$Matrix;)I"⟩ ∈ bw_uw := bw_in (i := 801) (by decide +kernel) rfl
theorem w_804 : Cond.code ⟨"ByteFields$Minors", "countZeros", "(LByteFields$Matrix;)I"⟩ prog_8_method_2_code 6 (Option.some FieldType.int) ∈ bw_uw := bw_in (i := 804) (by decide +kernel) rfl
theorem w_802 : Cond.instanceMethod ⟨"ByteFields$Minors", "countZeros", "(LByteFields$Matrix;)I"⟩ ∈ bw_uw := bw_in (i := 802) (by decide +kernel) rfl
theorem w_803 : Cond.selects "ByteFields$Minors" ⟨"ByteFields$Minors", "countZeros", "(LByteFields$Matrix;)I"⟩ ⟨"ByteFields$Minors", "countZeros", "(LByteFields$Matrix;)I"⟩ ∈ bw_uw := bw_in (i := 803) (by decide +kernel) rfl
theorem w_831 : Cond.methodLink "ByteFields" 225 ⟨"ByteFields$Elimination", "appendColumn", "([I)V"⟩ ∈ bw_uw := bw_in (i := 831) (by decide +kernel) rfl
theorem w_834 : Cond.code ⟨"ByteFields$Elimination", "appendColumn", "([I)V"⟩ prog_3_method_4_code 3 (Option.none : Option FieldType) ∈ bw_uw := bw_in (i := 834) (by decide +kernel) rfl
theorem w_832 : Cond.instanceMethod ⟨"ByteFields$Elimination", "appendColumn", "([I)V"⟩ ∈ bw_uw := bw_in (i := 832) (by decide +kernel) rfl
theorem w_833 : Cond.selects "ByteFields$Elimination" ⟨"ByteFields$Elimination", "appendColumn", "([I)V"⟩ ⟨"ByteFields$Elimination", "appendColumn", "([I)V"⟩ ∈ bw_uw := bw_in (i := 833) (by decide +kernel) rfl
theorem w_835 : Cond.methodLink "ByteFields" 229 ⟨"ByteFields$Elimination", "leavesOver", "(I)Z"⟩ ∈ bw_uw := bw_in (i := 835) (by decide +kernel) rfl
theorem w_838 : Cond.code ⟨"ByteFields$Elimination", "leavesOver", "(I)Z"⟩ prog_3_method_9_code 3 (Option.some FieldType.boolean) ∈ bw_uw := bw_in (i := 838) (by decide +kernel) rfl
theorem w_836 : Cond.instanceMethod ⟨"ByteFields$Elimination", "leavesOver", "(I)Z"⟩ ∈ bw_uw := bw_in (i := 836) (by decide +kernel) rfl
theorem w_837 : Cond.selects "ByteFields$Elimination" ⟨"ByteFields$Elimination", "leavesOver", "(I)Z"⟩ ⟨"ByteFields$Elimination", "leavesOver", "(I)Z"⟩ ∈ bw_uw := bw_in (i := 837) (by decide +kernel) rfl
theorem w_839 : Cond.methodLink "ByteFields" 232 ⟨"ByteFields$Elimination", "solution", "(II)I"⟩ ∈ bw_uw := bw_in (i := 839) (by decide +kernel) rfl
theorem w_842 : Cond.code ⟨"ByteFields$Elimination", "solution", "(II)I"⟩ prog_3_method_10_code 4 (Option.some FieldType.int) ∈ bw_uw := bw_in (i := 842) (by decide +kernel) rfl
theorem w_840 : Cond.instanceMethod ⟨"ByteFields$Elimination", "solution", "(II)I"⟩ ∈ bw_uw := bw_in (i := 840) (by decide +kernel) rfl
theorem w_841 : Cond.selects "ByteFields$Elimination" ⟨"ByteFields$Elimination", "solution", "(II)I"⟩ ⟨"ByteFields$Elimination", "solution", "(II)I"⟩ ∈ bw_uw := bw_in (i := 841) (by decide +kernel) rfl
theorem w_851 : Cond.methodLink "ByteFields" 237 ⟨"ByteFields", "needPolynomialRoom", "()V"⟩ ∈ bw_uw := bw_in (i := 851) (by decide +kernel) rfl
theorem w_854 : Cond.code ⟨"ByteFields", "needPolynomialRoom", "()V"⟩ prog_1_method_44_code 1 (Option.none : Option FieldType) ∈ bw_uw := bw_in (i := 854) (by decide +kernel) rfl
theorem w_853 : Cond.instanceMethod ⟨"ByteFields", "needPolynomialRoom", "()V"⟩ ∈ bw_uw := bw_in (i := 853) (by decide +kernel) rfl
theorem w_16 : Cond.selects "ByteFields" ⟨"ByteFields", "needPolynomialRoom", "()V"⟩ ⟨"ByteFields", "needPolynomialRoom", "()V"⟩ ∈ bw_uw := bw_in (i := 16) (by decide +kernel) rfl
theorem w_856 : Cond.methodLink "ByteFields" 240 ⟨"ByteFields$Polynomial", "load", "([II)V"⟩ ∈ bw_uw := bw_in (i := 856) (by decide +kernel) rfl
theorem w_869 : Cond.methodLink "ByteFields" 243 ⟨"ByteFields", "keepPolynomial", "(LByteFields$Polynomial;)I"⟩ ∈ bw_uw := bw_in (i := 869) (by decide +kernel) rfl
theorem w_872 : Cond.code ⟨"ByteFields", "keepPolynomial", "(LByteFields$Polynomial;)I"⟩ prog_1_method_50_code 4 (Option.some FieldType.int) ∈ bw_uw := bw_in (i := 872) (by decide +kernel) rfl
theorem w_871 : Cond.instanceMethod ⟨"ByteFields", "keepPolynomial", "(LByteFields$Polynomial;)I"⟩ ∈ bw_uw := bw_in (i := 871) (by decide +kernel) rfl
theorem w_17 : Cond.selects "ByteFields" ⟨"ByteFields", "keepPolynomial", "(LByteFields$Polynomial;)I"⟩ ⟨"ByteFields", "keepPolynomial", "(LByteFields$Polynomial;)I"⟩ ∈ bw_uw := bw_in (i := 17) (by decide +kernel) rfl
theorem w_886 : Cond.methodLink "ByteFields" 249 ⟨"ByteFields$Interpolation", "take", "(III)V"⟩ ∈ bw_uw := bw_in (i := 886) (by decide +kernel) rfl
theorem w_889 : Cond.code ⟨"ByteFields$Interpolation", "take", "(III)V"⟩ prog_6_method_2_code 4 (Option.none : Option FieldType) ∈ bw_uw := bw_in (i := 889) (by decide +kernel) rfl
theorem w_887 : Cond.instanceMethod ⟨"ByteFields$Interpolation", "take", "(III)V"⟩ ∈ bw_uw := bw_in (i := 887) (by decide +kernel) rfl
theorem w_888 : Cond.selects "ByteFields$Interpolation" ⟨"ByteFields$Interpolation", "take", "(III)V"⟩ ⟨"ByteFields$Interpolation", "take", "(III)V"⟩ ∈ bw_uw := bw_in (i := 888) (by decide +kernel) rfl
theorem w_890 : Cond.methodLink "ByteFields" 253 ⟨"ByteFields$Interpolation", "run", "(ILByteFields$Polynomial;)V"⟩ ∈ bw_uw := bw_in (i := 890) (by decide +kernel) rfl
theorem w_893 : Cond.code ⟨"ByteFields$Interpolation", "run", "(ILByteFields$Polynomial;)V"⟩ prog_6_method_3_code 5 (Option.none : Option FieldType) ∈ bw_uw := bw_in (i := 893) (by decide +kernel) rfl
theorem w_891 : Cond.instanceMethod ⟨"ByteFields$Interpolation", "run", "(ILByteFields$Polynomial;)V"⟩ ∈ bw_uw := bw_in (i := 891) (by decide +kernel) rfl
theorem w_892 : Cond.selects "ByteFields$Interpolation" ⟨"ByteFields$Interpolation", "run", "(ILByteFields$Polynomial;)V"⟩ ⟨"ByteFields$Interpolation", "run", "(ILByteFields$Polynomial;)V"⟩ ∈ bw_uw := bw_in (i := 892) (by decide +kernel) rfl
theorem w_909 : Cond.methodLink "ByteFields" 257 ⟨"ByteFields", "polynomialAt", "(I)LByteFields$Polynomial;"⟩ ∈ bw_uw := bw_in (i := 909) (by decide +kernel) rfl
theorem w_912 : Cond.code ⟨"ByteFields", "polynomialAt", "(I)LByteFields$Polynomial;"⟩ prog_1_method_48_code 3 (Option.some (FieldType.object "ByteFields$Polynomial")) ∈ bw_uw := bw_in (i := 912) (by decide +kernel) rfl
theorem w_911 : Cond.instanceMethod ⟨"ByteFields", "polynomialAt", "(I)LByteFields$Polynomial;"⟩ ∈ bw_uw := bw_in (i := 911) (by decide +kernel) rfl
theorem w_19 : Cond.selects "ByteFields" ⟨"ByteFields", "polynomialAt", "(I)LByteFields$Polynomial;"⟩ ⟨"ByteFields", "polynomialAt", "(I)LByteFields$Polynomial;"⟩ ∈ bw_uw := bw_in (i := 19) (by decide +kernel) rfl
theorem w_101 : Cond.fieldLink "ByteFields" 261 "ByteFields$Polynomial" "top" "I" ∈ bw_uw := bw_in (i := 101) (by decide +kernel) rfl
theorem w_95 : Cond.fieldLink "ByteFields" 266 "ByteFields$Polynomial" "at" "[I" ∈ bw_uw := bw_in (i := 95) (by decide +kernel) rfl
theorem w_929 : Cond.methodLink "ByteFields" 269 ⟨"ByteFields", "valueOf", "(LByteFields$Polynomial;I)I"⟩ ∈ bw_uw := bw_in (i := 929) (by decide +kernel) rfl
theorem w_932 : Cond.code ⟨"ByteFields", "valueOf", "(LByteFields$Polynomial;I)I"⟩ prog_1_method_54_code 5 (Option.some FieldType.int) ∈ bw_uw := bw_in (i := 932) (by decide +kernel) rfl
theorem w_931 : Cond.instanceMethod ⟨"ByteFields", "valueOf", "(LByteFields$Polynomial;I)I"⟩ ∈ bw_uw := bw_in (i := 931) (by decide +kernel) rfl
theorem w_20 : Cond.selects "ByteFields" ⟨"ByteFields", "valueOf", "(LByteFields$Polynomial;I)I"⟩ ⟨"ByteFields", "valueOf", "(LByteFields$Polynomial;I)I"⟩ ∈ bw_uw := bw_in (i := 20) (by decide +kernel) rfl
theorem w_873 : Cond.methodLink "ByteFields" 273 ⟨"ByteFields$Polynomial", "copyFrom", "(LByteFields$Polynomial;)V"⟩ ∈ bw_uw := bw_in (i := 873) (by decide +kernel) rfl
theorem w_940 : Cond.methodLink "ByteFields" 277 ⟨"ByteFields$Polynomial", "addScaled", "(LByteFields$Field;LByteFields$Polynomial;I)V"⟩ ∈ bw_uw := bw_in (i := 940) (by decide +kernel) rfl
theorem w_955 : Cond.methodLink "ByteFields" 281 ⟨"ByteFields$Polynomial", "clear", "()V"⟩ ∈ bw_uw := bw_in (i := 955) (by decide +kernel) rfl
theorem w_956 : Cond.methodLink "ByteFields" 284 ⟨"ByteFields$Polynomial", "settle", "(I)V"⟩ ∈ bw_uw := bw_in (i := 956) (by decide +kernel) rfl
theorem w_965 : Cond.methodLink "ByteFields" 289 ⟨"ByteFields$Division", "toRest", "(LByteFields$Polynomial;LByteFields$Polynomial;)V"⟩ ∈ bw_uw := bw_in (i := 965) (by decide +kernel) rfl
theorem w_977 : Cond.methodLink "ByteFields" 293 ⟨"ByteFields$Division", "toQuotient", "(LByteFields$Polynomial;LByteFields$Polynomial;)V"⟩ ∈ bw_uw := bw_in (i := 977) (by decide +kernel) rfl
theorem w_993 : Cond.methodLink "ByteFields" 296 ⟨"ByteFields$Division", "toGreatestDivisor", "(LByteFields$Polynomial;LByteFields$Polynomial;)V"⟩ ∈ bw_uw := bw_in (i := 993) (by decide +kernel) rfl
theorem w_159 : Cond.fieldLink "ByteFields" 301 "ByteFields$Field" "size" "I" ∈ bw_uw := bw_in (i := 159) (by decide +kernel) rfl
theorem w_1008 : Cond.methodLink "ByteFields" 304 ⟨"ByteFields$Roots", "find", "(LByteFields$Polynomial;I)I"⟩ ∈ bw_uw := bw_in (i := 1008) (by decide +kernel) rfl
theorem w_1011 : Cond.code ⟨"ByteFields$Roots", "find", "(LByteFields$Polynomial;I)I"⟩ prog_10_method_4_code 6 (Option.some FieldType.int) ∈ bw_uw := bw_in (i := 1011) (by decide +kernel) rfl
theorem w_1009 : Cond.instanceMethod ⟨"ByteFields$Roots", "find", "(LByteFields$Polynomial;I)I"⟩ ∈ bw_uw := bw_in (i := 1009) (by decide +kernel) rfl
theorem w_1010 : Cond.selects "ByteFields$Roots" ⟨"ByteFields$Roots", "find", "(LByteFields$Polynomial;I)I"⟩ ⟨"ByteFields$Roots", "find", "(LByteFields$Polynomial;I)I"⟩ ∈ bw_uw := bw_in (i := 1010) (by decide +kernel) rfl
theorem w_1045 : Cond.methodLink "ByteFields" 307 ⟨"ByteFields$Division", "takeOut", "(LByteFields$Polynomial;I)Z"⟩ ∈ bw_uw := bw_in (i := 1045) (by decide +kernel) rfl
theorem w_1048 : Cond.code ⟨"ByteFields$Division", "takeOut", "(LByteFields$Polynomial;I)Z"⟩ prog_2_method_6_code 4 (Option.some FieldType.boolean) ∈ bw_uw := bw_in (i := 1048) (by decide +kernel) rfl
theorem w_1046 : Cond.instanceMethod ⟨"ByteFields$Division", "takeOut", "(LByteFields$Polynomial;I)Z"⟩ ∈ bw_uw := bw_in (i := 1046) (by decide +kernel) rfl
theorem w_1047 : Cond.selects "ByteFields$Division" ⟨"ByteFields$Division", "takeOut", "(LByteFields$Polynomial;I)Z"⟩ ⟨"ByteFields$Division", "takeOut", "(LByteFields$Polynomial;I)Z"⟩ ∈ bw_uw := bw_in (i := 1047) (by decide +kernel) rfl
theorem w_103 : Cond.fieldLink "ByteFields" 313 "ByteFields$Polynomial" "partCounts" "[I" ∈ bw_uw := bw_in (i := 103) (by decide +kernel) rfl
theorem w_1057 : Cond.methodLink "ByteFields" 316 ⟨"ByteFields$Factors", "count", "(LByteFields$Polynomial;[I)V"⟩ ∈ bw_uw := bw_in (i := 1057) (by decide +kernel) rfl
theorem w_1060 : Cond.code ⟨"ByteFields$Factors", "count", "(LByteFields$Polynomial;[I)V"⟩ prog_4_method_2_code 5 (Option.none : Option FieldType) ∈ bw_uw := bw_in (i := 1060) (by decide +kernel) rfl
theorem w_1058 : Cond.instanceMethod ⟨"ByteFields$Factors", "count", "(LByteFields$Polynomial;[I)V"⟩ ∈ bw_uw := bw_in (i := 1058) (by decide +kernel) rfl
theorem w_1059 : Cond.selects "ByteFields$Factors" ⟨"ByteFields$Factors", "count", "(LByteFields$Polynomial;[I)V"⟩ ⟨"ByteFields$Factors", "count", "(LByteFields$Polynomial;[I)V"⟩ ∈ bw_uw := bw_in (i := 1059) (by decide +kernel) rfl
theorem w_1079 : Cond.methodLink "ByteFields" 320 ⟨"ByteFields", "hasXorOfAhead", "()Z"⟩ ∈ bw_uw := bw_in (i := 1079) (by decide +kernel) rfl
theorem w_1082 : Cond.code ⟨"ByteFields", "hasXorOfAhead", "()Z"⟩ prog_1_method_52_code 3 (Option.some FieldType.boolean) ∈ bw_uw := bw_in (i := 1082) (by decide +kernel) rfl
theorem w_1081 : Cond.instanceMethod ⟨"ByteFields", "hasXorOfAhead", "()Z"⟩ ∈ bw_uw := bw_in (i := 1081) (by decide +kernel) rfl
theorem w_25 : Cond.selects "ByteFields" ⟨"ByteFields", "hasXorOfAhead", "()Z"⟩ ⟨"ByteFields", "hasXorOfAhead", "()Z"⟩ ∈ bw_uw := bw_in (i := 25) (by decide +kernel) rfl
theorem w_332 : Cond.fieldLink "ByteFields" 326 "ByteFields" "inSpan" "I" ∈ bw_uw := bw_in (i := 332) (by decide +kernel) rfl
theorem w_1083 : Cond.methodLink "ByteFields" 329 ⟨"ByteFields", "xorOfChosen", "(II)I"⟩ ∈ bw_uw := bw_in (i := 1083) (by decide +kernel) rfl
theorem w_1086 : Cond.code ⟨"ByteFields", "xorOfChosen", "(II)I"⟩ prog_1_method_53_code 5 (Option.some FieldType.int) ∈ bw_uw := bw_in (i := 1086) (by decide +kernel) rfl
theorem w_1085 : Cond.instanceMethod ⟨"ByteFields", "xorOfChosen", "(II)I"⟩ ∈ bw_uw := bw_in (i := 1085) (by decide +kernel) rfl
theorem w_26 : Cond.selects "ByteFields" ⟨"ByteFields", "xorOfChosen", "(II)I"⟩ ⟨"ByteFields", "xorOfChosen", "(II)I"⟩ ∈ bw_uw := bw_in (i := 26) (by decide +kernel) rfl
theorem w_1095 : Cond.methodLink "ByteFields" 332 ⟨"ByteFields", "needSpan", "()V"⟩ ∈ bw_uw := bw_in (i := 1095) (by decide +kernel) rfl
theorem w_1098 : Cond.code ⟨"ByteFields", "needSpan", "()V"⟩ prog_1_method_45_code 1 (Option.none : Option FieldType) ∈ bw_uw := bw_in (i := 1098) (by decide +kernel) rfl
theorem w_1097 : Cond.instanceMethod ⟨"ByteFields", "needSpan", "()V"⟩ ∈ bw_uw := bw_in (i := 1097) (by decide +kernel) rfl
theorem w_27 : Cond.selects "ByteFields" ⟨"ByteFields", "needSpan", "()V"⟩ ⟨"ByteFields", "needSpan", "()V"⟩ ∈ bw_uw := bw_in (i := 27) (by decide +kernel) rfl
theorem w_328 : Cond.fieldLink "ByteFields" 337 "ByteFields" "matrixCount" "I" ∈ bw_uw := bw_in (i := 328) (by decide +kernel) rfl
theorem w_330 : Cond.fieldLink "ByteFields" 340 "ByteFields" "polynomialCount" "I" ∈ bw_uw := bw_in (i := 330) (by decide +kernel) rfl
theorem w_1160 : Cond.fieldLink "ByteFieldsModel" 1 "ByteFieldsModel" "thrown" "I" ∈ bw_uw := bw_in (i := 1160) (by decide +kernel) rfl
theorem w_1162 : Cond.fieldLink "ByteFieldsModel" 13 "ByteFieldsModel" "row" "[I" ∈ bw_uw := bw_in (i := 1162) (by decide +kernel) rfl
theorem w_1164 : Cond.fieldLink "ByteFieldsModel" 17 "ByteFieldsModel" "rows" "[I" ∈ bw_uw := bw_in (i := 1164) (by decide +kernel) rfl
theorem w_1165 : Cond.fieldLink "ByteFieldsModel" 20 "ByteFieldsModel" "columns" "[I" ∈ bw_uw := bw_in (i := 1165) (by decide +kernel) rfl
theorem w_1166 : Cond.fieldLink "ByteFieldsModel" 23 "ByteFieldsModel" "cells" "[I" ∈ bw_uw := bw_in (i := 1166) (by decide +kernel) rfl
theorem w_1126 : Cond.constant "ByteFieldsModel" 26 (65536 : Int32) ∈ bw_uw := bw_in (i := 1126) (by decide +kernel) rfl
theorem w_1167 : Cond.fieldLink "ByteFieldsModel" 27 "ByteFieldsModel" "minor" "[I" ∈ bw_uw := bw_in (i := 1167) (by decide +kernel) rfl
theorem w_1168 : Cond.fieldLink "ByteFieldsModel" 30 "ByteFieldsModel" "work" "[I" ∈ bw_uw := bw_in (i := 1168) (by decide +kernel) rfl
theorem w_1169 : Cond.fieldLink "ByteFieldsModel" 33 "ByteFieldsModel" "lead" "[I" ∈ bw_uw := bw_in (i := 1169) (by decide +kernel) rfl
theorem w_1171 : Cond.fieldLink "ByteFieldsModel" 36 "ByteFieldsModel" "degree" "[I" ∈ bw_uw := bw_in (i := 1171) (by decide +kernel) rfl
theorem w_1172 : Cond.fieldLink "ByteFieldsModel" 39 "ByteFieldsModel" "coefficient" "[I" ∈ bw_uw := bw_in (i := 1172) (by decide +kernel) rfl
theorem w_1173 : Cond.fieldLink "ByteFieldsModel" 42 "ByteFieldsModel" "one" "[I" ∈ bw_uw := bw_in (i := 1173) (by decide +kernel) rfl
theorem w_1174 : Cond.fieldLink "ByteFieldsModel" 45 "ByteFieldsModel" "two" "[I" ∈ bw_uw := bw_in (i := 1174) (by decide +kernel) rfl
theorem w_1175 : Cond.fieldLink "ByteFieldsModel" 48 "ByteFieldsModel" "out" "[I" ∈ bw_uw := bw_in (i := 1175) (by decide +kernel) rfl
theorem w_1176 : Cond.fieldLink "ByteFieldsModel" 51 "ByteFieldsModel" "third" "[I" ∈ bw_uw := bw_in (i := 1176) (by decide +kernel) rfl
theorem w_1177 : Cond.fieldLink "ByteFieldsModel" 54 "ByteFieldsModel" "rooted" "I" ∈ bw_uw := bw_in (i := 1177) (by decide +kernel) rfl
theorem w_1179 : Cond.fieldLink "ByteFieldsModel" 57 "ByteFieldsModel" "root" "[I" ∈ bw_uw := bw_in (i := 1179) (by decide +kernel) rfl
theorem w_1180 : Cond.fieldLink "ByteFieldsModel" 60 "ByteFieldsModel" "parted" "I" ∈ bw_uw := bw_in (i := 1180) (by decide +kernel) rfl
theorem w_1181 : Cond.fieldLink "ByteFieldsModel" 63 "ByteFieldsModel" "parts" "[I" ∈ bw_uw := bw_in (i := 1181) (by decide +kernel) rfl
theorem w_1182 : Cond.fieldLink "ByteFieldsModel" 66 "ByteFieldsModel" "left" "[I" ∈ bw_uw := bw_in (i := 1182) (by decide +kernel) rfl
theorem w_1183 : Cond.fieldLink "ByteFieldsModel" 69 "ByteFieldsModel" "power" "[I" ∈ bw_uw := bw_in (i := 1183) (by decide +kernel) rfl
theorem w_1185 : Cond.fieldLink "ByteFieldsModel" 72 "ByteFieldsModel" "span" "[I" ∈ bw_uw := bw_in (i := 1185) (by decide +kernel) rfl
theorem w_1156 : Cond.fieldLink "ByteFieldsModel" 75 "ByteFieldsModel" "bits" "I" ∈ bw_uw := bw_in (i := 1156) (by decide +kernel) rfl
theorem w_1158 : Cond.fieldLink "ByteFieldsModel" 78 "ByteFieldsModel" "members" "I" ∈ bw_uw := bw_in (i := 1158) (by decide +kernel) rfl
theorem w_1157 : Cond.fieldLink "ByteFieldsModel" 81 "ByteFieldsModel" "poly" "I" ∈ bw_uw := bw_in (i := 1157) (by decide +kernel) rfl
theorem w_1127 : Cond.methodLink "ByteFieldsModel" 84 ⟨"ByteFieldsModel", "isPrime", "(I)Z"⟩ ∈ bw_uw := bw_in (i := 1127) (by decide +kernel) rfl
theorem w_63 : Cond.initialized "ByteFieldsModel" ∈ bw_uw := bw_in (i := 63) (by decide +kernel) rfl
theorem w_1130 : Cond.code ⟨"ByteFieldsModel", "isPrime", "(I)Z"⟩ prog_12_method_4_code 4 (Option.some FieldType.boolean) ∈ bw_uw := bw_in (i := 1130) (by decide +kernel) rfl
theorem w_1129 : Cond.instanceMethod ⟨"ByteFieldsModel", "isPrime", "(I)Z"⟩ ∈ bw_uw := bw_in (i := 1129) (by decide +kernel) rfl
theorem w_28 : Cond.selects "ByteFieldsModel" ⟨"ByteFieldsModel", "isPrime", "(I)Z"⟩ ⟨"ByteFieldsModel", "isPrime", "(I)Z"⟩ ∈ bw_uw := bw_in (i := 28) (by decide +kernel) rfl
theorem w_1159 : Cond.fieldLink "ByteFieldsModel" 88 "ByteFieldsModel" "generator" "I" ∈ bw_uw := bw_in (i := 1159) (by decide +kernel) rfl
theorem w_1137 : Cond.methodLink "ByteFieldsModel" 91 ⟨"ByteFieldsModel", "orderOf", "(I)I"⟩ ∈ bw_uw := bw_in (i := 1137) (by decide +kernel) rfl
theorem w_1140 : Cond.code ⟨"ByteFieldsModel", "orderOf", "(I)I"⟩ prog_12_method_13_code 4 (Option.some FieldType.int) ∈ bw_uw := bw_in (i := 1140) (by decide +kernel) rfl
theorem w_1139 : Cond.instanceMethod ⟨"ByteFieldsModel", "orderOf", "(I)I"⟩ ∈ bw_uw := bw_in (i := 1139) (by decide +kernel) rfl
theorem w_29 : Cond.selects "ByteFieldsModel" ⟨"ByteFieldsModel", "orderOf", "(I)I"⟩ ⟨"ByteFieldsModel", "orderOf", "(I)I"⟩ ∈ bw_uw := bw_in (i := 29) (by decide +kernel) rfl
theorem w_1131 : Cond.methodLink "ByteFieldsModel" 95 ⟨"ByteFieldsModel", "restOf", "(II)I"⟩ ∈ bw_uw := bw_in (i := 1131) (by decide +kernel) rfl
theorem w_1133 : Cond.code ⟨"ByteFieldsModel", "restOf", "(II)I"⟩ prog_12_method_6_code 5 (Option.some FieldType.int) ∈ bw_uw := bw_in (i := 1133) (by decide +kernel) rfl
theorem w_1132 : Cond.static ⟨"ByteFieldsModel", "restOf", "(II)I"⟩ ∈ bw_uw := bw_in (i := 1132) (by decide +kernel) rfl
theorem w_1134 : Cond.methodLink "ByteFieldsModel" 99 ⟨"ByteFieldsModel", "degreeOf", "(I)I"⟩ ∈ bw_uw := bw_in (i := 1134) (by decide +kernel) rfl
theorem w_1136 : Cond.code ⟨"ByteFieldsModel", "degreeOf", "(I)I"⟩ prog_12_method_5_code 3 (Option.some FieldType.int) ∈ bw_uw := bw_in (i := 1136) (by decide +kernel) rfl
theorem w_1135 : Cond.static ⟨"ByteFieldsModel", "degreeOf", "(I)I"⟩ ∈ bw_uw := bw_in (i := 1135) (by decide +kernel) rfl
theorem w_1152 : Cond.methodLink "ByteFieldsModel" 102 ⟨"ByteFieldsModel", "mul", "(II)I"⟩ ∈ bw_uw := bw_in (i := 1152) (by decide +kernel) rfl
theorem w_1155 : Cond.code ⟨"ByteFieldsModel", "mul", "(II)I"⟩ prog_12_method_8_code 6 (Option.some FieldType.int) ∈ bw_uw := bw_in (i := 1155) (by decide +kernel) rfl
theorem w_1154 : Cond.instanceMethod ⟨"ByteFieldsModel", "mul", "(II)I"⟩ ∈ bw_uw := bw_in (i := 1154) (by decide +kernel) rfl
theorem w_32 : Cond.selects "ByteFieldsModel" ⟨"ByteFieldsModel", "mul", "(II)I"⟩ ⟨"ByteFieldsModel", "mul", "(II)I"⟩ ∈ bw_uw := bw_in (i := 32) (by decide +kernel) rfl
theorem w_1148 : Cond.methodLink "ByteFieldsModel" 105 ⟨"ByteFieldsModel", "raised", "(II)I"⟩ ∈ bw_uw := bw_in (i := 1148) (by decide +kernel) rfl
theorem w_1151 : Cond.code ⟨"ByteFieldsModel", "raised", "(II)I"⟩ prog_12_method_9_code 6 (Option.some FieldType.int) ∈ bw_uw := bw_in (i := 1151) (by decide +kernel) rfl
theorem w_1150 : Cond.instanceMethod ⟨"ByteFieldsModel", "raised", "(II)I"⟩ ∈ bw_uw := bw_in (i := 1150) (by decide +kernel) rfl
theorem w_31 : Cond.selects "ByteFieldsModel" ⟨"ByteFieldsModel", "raised", "(II)I"⟩ ⟨"ByteFieldsModel", "raised", "(II)I"⟩ ∈ bw_uw := bw_in (i := 31) (by decide +kernel) rfl
theorem w_1141 : Cond.methodLink "ByteFieldsModel" 108 ⟨"ByteFieldsModel", "factors", "()I"⟩ ∈ bw_uw := bw_in (i := 1141) (by decide +kernel) rfl
theorem w_1144 : Cond.code ⟨"ByteFieldsModel", "factors", "()I"⟩ prog_12_method_12_code 1 (Option.some FieldType.int) ∈ bw_uw := bw_in (i := 1144) (by decide +kernel) rfl
theorem w_1143 : Cond.instanceMethod ⟨"ByteFieldsModel", "factors", "()I"⟩ ∈ bw_uw := bw_in (i := 1143) (by decide +kernel) rfl
theorem w_30 : Cond.selects "ByteFieldsModel" ⟨"ByteFieldsModel", "factors", "()I"⟩ ⟨"ByteFieldsModel", "factors", "()I"⟩ ∈ bw_uw := bw_in (i := 30) (by decide +kernel) rfl
theorem w_1145 : Cond.methodLink "ByteFieldsModel" 112 ⟨"ByteFieldsModel", "factor", "(I)I"⟩ ∈ bw_uw := bw_in (i := 1145) (by decide +kernel) rfl
theorem w_1147 : Cond.code ⟨"ByteFieldsModel", "factor", "(I)I"⟩ prog_12_method_11_code 1 (Option.some FieldType.int) ∈ bw_uw := bw_in (i := 1147) (by decide +kernel) rfl
theorem w_1146 : Cond.static ⟨"ByteFieldsModel", "factor", "(I)I"⟩ ∈ bw_uw := bw_in (i := 1146) (by decide +kernel) rfl
theorem w_1259 : Cond.methodLink "ByteFieldsModel" 115 ⟨"ByteFieldsModel", "isMember", "(I)Z"⟩ ∈ bw_uw := bw_in (i := 1259) (by decide +kernel) rfl
theorem w_1262 : Cond.code ⟨"ByteFieldsModel", "isMember", "(I)Z"⟩ prog_12_method_7_code 2 (Option.some FieldType.boolean) ∈ bw_uw := bw_in (i := 1262) (by decide +kernel) rfl
theorem w_1261 : Cond.instanceMethod ⟨"ByteFieldsModel", "isMember", "(I)Z"⟩ ∈ bw_uw := bw_in (i := 1261) (by decide +kernel) rfl
theorem w_33 : Cond.selects "ByteFieldsModel" ⟨"ByteFieldsModel", "isMember", "(I)Z"⟩ ⟨"ByteFieldsModel", "isMember", "(I)Z"⟩ ∈ bw_uw := bw_in (i := 33) (by decide +kernel) rfl
theorem w_1263 : Cond.methodLink "ByteFieldsModel" 118 ⟨"ByteFieldsModel", "fail", "(I)I"⟩ ∈ bw_uw := bw_in (i := 1263) (by decide +kernel) rfl
theorem w_1266 : Cond.code ⟨"ByteFieldsModel", "fail", "(I)I"⟩ prog_12_method_2_code 2 (Option.some FieldType.int) ∈ bw_uw := bw_in (i := 1266) (by decide +kernel) rfl
theorem w_1265 : Cond.instanceMethod ⟨"ByteFieldsModel", "fail", "(I)I"⟩ ∈ bw_uw := bw_in (i := 1265) (by decide +kernel) rfl
theorem w_34 : Cond.selects "ByteFieldsModel" ⟨"ByteFieldsModel", "fail", "(I)I"⟩ ⟨"ByteFieldsModel", "fail", "(I)I"⟩ ∈ bw_uw := bw_in (i := 34) (by decide +kernel) rfl
theorem w_1271 : Cond.methodLink "ByteFieldsModel" 121 ⟨"ByteFieldsModel", "inverse", "(I)I"⟩ ∈ bw_uw := bw_in (i := 1271) (by decide +kernel) rfl
theorem w_1274 : Cond.code ⟨"ByteFieldsModel", "inverse", "(I)I"⟩ prog_12_method_10_code 2 (Option.some FieldType.int) ∈ bw_uw := bw_in (i := 1274) (by decide +kernel) rfl
theorem w_1273 : Cond.instanceMethod ⟨"ByteFieldsModel", "inverse", "(I)I"⟩ ∈ bw_uw := bw_in (i := 1273) (by decide +kernel) rfl
theorem w_35 : Cond.selects "ByteFieldsModel" ⟨"ByteFieldsModel", "inverse", "(I)I"⟩ ⟨"ByteFieldsModel", "inverse", "(I)I"⟩ ∈ bw_uw := bw_in (i := 35) (by decide +kernel) rfl
theorem w_1161 : Cond.fieldLink "ByteFieldsModel" 124 "ByteFieldsModel" "many" "I" ∈ bw_uw := bw_in (i := 1161) (by decide +kernel) rfl
theorem w_1163 : Cond.fieldLink "ByteFieldsModel" 127 "ByteFieldsModel" "matrices" "I" ∈ bw_uw := bw_in (i := 1163) (by decide +kernel) rfl
theorem w_1303 : Cond.methodLink "ByteFieldsModel" 130 ⟨"ByteFieldsModel", "isSize", "(I)Z"⟩ ∈ bw_uw := bw_in (i := 1303) (by decide +kernel) rfl
theorem w_1305 : Cond.code ⟨"ByteFieldsModel", "isSize", "(I)Z"⟩ prog_12_method_25_code 1 (Option.some FieldType.boolean) ∈ bw_uw := bw_in (i := 1305) (by decide +kernel) rfl
theorem w_1304 : Cond.static ⟨"ByteFieldsModel", "isSize", "(I)Z"⟩ ∈ bw_uw := bw_in (i := 1304) (by decide +kernel) rfl
theorem w_1306 : Cond.methodLink "ByteFieldsModel" 133 ⟨"ByteFieldsModel", "made", "(II)I"⟩ ∈ bw_uw := bw_in (i := 1306) (by decide +kernel) rfl
theorem w_1309 : Cond.code ⟨"ByteFieldsModel", "made", "(II)I"⟩ prog_12_method_28_code 4 (Option.some FieldType.int) ∈ bw_uw := bw_in (i := 1309) (by decide +kernel) rfl
theorem w_1308 : Cond.instanceMethod ⟨"ByteFieldsModel", "made", "(II)I"⟩ ∈ bw_uw := bw_in (i := 1308) (by decide +kernel) rfl
theorem w_36 : Cond.selects "ByteFieldsModel" ⟨"ByteFieldsModel", "made", "(II)I"⟩ ⟨"ByteFieldsModel", "made", "(II)I"⟩ ∈ bw_uw := bw_in (i := 36) (by decide +kernel) rfl
theorem w_1314 : Cond.methodLink "ByteFieldsModel" 136 ⟨"ByteFieldsModel", "hasAlike", "(II)Z"⟩ ∈ bw_uw := bw_in (i := 1314) (by decide +kernel) rfl
theorem w_1317 : Cond.code ⟨"ByteFieldsModel", "hasAlike", "(II)Z"⟩ prog_12_method_24_code 6 (Option.some FieldType.boolean) ∈ bw_uw := bw_in (i := 1317) (by decide +kernel) rfl
theorem w_1316 : Cond.instanceMethod ⟨"ByteFieldsModel", "hasAlike", "(II)Z"⟩ ∈ bw_uw := bw_in (i := 1316) (by decide +kernel) rfl
theorem w_37 : Cond.selects "ByteFieldsModel" ⟨"ByteFieldsModel", "hasAlike", "(II)Z"⟩ ⟨"ByteFieldsModel", "hasAlike", "(II)Z"⟩ ∈ bw_uw := bw_in (i := 37) (by decide +kernel) rfl
theorem w_1318 : Cond.methodLink "ByteFieldsModel" 140 ⟨"ByteFieldsModel", "at", "(III)I"⟩ ∈ bw_uw := bw_in (i := 1318) (by decide +kernel) rfl
theorem w_1321 : Cond.code ⟨"ByteFieldsModel", "at", "(III)I"⟩ prog_12_method_27_code 4 (Option.some FieldType.int) ∈ bw_uw := bw_in (i := 1321) (by decide +kernel) rfl
theorem w_1320 : Cond.instanceMethod ⟨"ByteFieldsModel", "at", "(III)I"⟩ ∈ bw_uw := bw_in (i := 1320) (by decide +kernel) rfl
theorem w_38 : Cond.selects "ByteFieldsModel" ⟨"ByteFieldsModel", "at", "(III)I"⟩ ⟨"ByteFieldsModel", "at", "(III)I"⟩ ∈ bw_uw := bw_in (i := 38) (by decide +kernel) rfl
theorem w_1330 : Cond.methodLink "ByteFieldsModel" 144 ⟨"ByteFieldsModel", "isMatrix", "(I)Z"⟩ ∈ bw_uw := bw_in (i := 1330) (by decide +kernel) rfl
theorem w_1333 : Cond.code ⟨"ByteFieldsModel", "isMatrix", "(I)Z"⟩ prog_12_method_26_code 2 (Option.some FieldType.boolean) ∈ bw_uw := bw_in (i := 1333) (by decide +kernel) rfl
theorem w_1332 : Cond.instanceMethod ⟨"ByteFieldsModel", "isMatrix", "(I)Z"⟩ ∈ bw_uw := bw_in (i := 1332) (by decide +kernel) rfl
theorem w_39 : Cond.selects "ByteFieldsModel" ⟨"ByteFieldsModel", "isMatrix", "(I)Z"⟩ ⟨"ByteFieldsModel", "isMatrix", "(I)Z"⟩ ∈ bw_uw := bw_in (i := 39) (by decide +kernel) rfl
theorem w_1338 : Cond.methodLink "ByteFieldsModel" 147 ⟨"ByteFieldsModel", "isCell", "(III)Z"⟩ ∈ bw_uw := bw_in (i := 1338) (by decide +kernel) rfl
theorem w_1341 : Cond.code ⟨"ByteFieldsModel", "isCell", "(III)Z"⟩ prog_12_method_33_code 4 (Option.some FieldType.boolean) ∈ bw_uw := bw_in (i := 1341) (by decide +kernel) rfl
theorem w_1340 : Cond.instanceMethod ⟨"ByteFieldsModel", "isCell", "(III)Z"⟩ ∈ bw_uw := bw_in (i := 1340) (by decide +kernel) rfl
theorem w_40 : Cond.selects "ByteFieldsModel" ⟨"ByteFieldsModel", "isCell", "(III)Z"⟩ ⟨"ByteFieldsModel", "isCell", "(III)Z"⟩ ∈ bw_uw := bw_in (i := 40) (by decide +kernel) rfl
theorem w_1358 : Cond.methodLink "ByteFieldsModel" 151 ⟨"ByteFieldsModel", "bitsOf", "(I)I"⟩ ∈ bw_uw := bw_in (i := 1358) (by decide +kernel) rfl
theorem w_1360 : Cond.code ⟨"ByteFieldsModel", "bitsOf", "(I)I"⟩ prog_12_method_37_code 3 (Option.some FieldType.int) ∈ bw_uw := bw_in (i := 1360) (by decide +kernel) rfl
theorem w_1359 : Cond.static ⟨"ByteFieldsModel", "bitsOf", "(I)I"⟩ ∈ bw_uw := bw_in (i := 1359) (by decide +kernel) rfl
theorem w_1354 : Cond.methodLink "ByteFieldsModel" 154 ⟨"ByteFieldsModel", "minors", "(I)V"⟩ ∈ bw_uw := bw_in (i := 1354) (by decide +kernel) rfl
theorem w_1357 : Cond.code ⟨"ByteFieldsModel", "minors", "(I)V"⟩ prog_12_method_38_code 7 (Option.none : Option FieldType) ∈ bw_uw := bw_in (i := 1357) (by decide +kernel) rfl
theorem w_1356 : Cond.instanceMethod ⟨"ByteFieldsModel", "minors", "(I)V"⟩ ∈ bw_uw := bw_in (i := 1356) (by decide +kernel) rfl
theorem w_41 : Cond.selects "ByteFieldsModel" ⟨"ByteFieldsModel", "minors", "(I)V"⟩ ⟨"ByteFieldsModel", "minors", "(I)V"⟩ ∈ bw_uw := bw_in (i := 41) (by decide +kernel) rfl
theorem w_1170 : Cond.fieldLink "ByteFieldsModel" 158 "ByteFieldsModel" "polynomials" "I" ∈ bw_uw := bw_in (i := 1170) (by decide +kernel) rfl
theorem w_1381 : Cond.methodLink "ByteFieldsModel" 161 ⟨"ByteFieldsModel", "nothing", "([I)V"⟩ ∈ bw_uw := bw_in (i := 1381) (by decide +kernel) rfl
theorem w_1383 : Cond.code ⟨"ByteFieldsModel", "nothing", "([I)V"⟩ prog_12_method_46_code 2 (Option.none : Option FieldType) ∈ bw_uw := bw_in (i := 1383) (by decide +kernel) rfl
theorem w_1382 : Cond.static ⟨"ByteFieldsModel", "nothing", "([I)V"⟩ ∈ bw_uw := bw_in (i := 1382) (by decide +kernel) rfl
theorem w_1384 : Cond.methodLink "ByteFieldsModel" 165 ⟨"ByteFieldsModel", "high", "([I)I"⟩ ∈ bw_uw := bw_in (i := 1384) (by decide +kernel) rfl
theorem w_1386 : Cond.code ⟨"ByteFieldsModel", "high", "([I)I"⟩ prog_12_method_45_code 2 (Option.some FieldType.int) ∈ bw_uw := bw_in (i := 1386) (by decide +kernel) rfl
theorem w_1385 : Cond.static ⟨"ByteFieldsModel", "high", "([I)I"⟩ ∈ bw_uw := bw_in (i := 1385) (by decide +kernel) rfl
theorem w_1387 : Cond.methodLink "ByteFieldsModel" 169 ⟨"ByteFieldsModel", "kept", "([I)I"⟩ ∈ bw_uw := bw_in (i := 1387) (by decide +kernel) rfl
theorem w_1390 : Cond.code ⟨"ByteFieldsModel", "kept", "([I)I"⟩ prog_12_method_49_code 3 (Option.some FieldType.int) ∈ bw_uw := bw_in (i := 1390) (by decide +kernel) rfl
theorem w_1389 : Cond.instanceMethod ⟨"ByteFieldsModel", "kept", "([I)I"⟩ ∈ bw_uw := bw_in (i := 1389) (by decide +kernel) rfl
theorem w_42 : Cond.selects "ByteFieldsModel" ⟨"ByteFieldsModel", "kept", "([I)I"⟩ ⟨"ByteFieldsModel", "kept", "([I)I"⟩ ∈ bw_uw := bw_in (i := 42) (by decide +kernel) rfl
theorem w_1403 : Cond.methodLink "ByteFieldsModel" 172 ⟨"ByteFieldsModel", "at", "([II)I"⟩ ∈ bw_uw := bw_in (i := 1403) (by decide +kernel) rfl
theorem w_1406 : Cond.code ⟨"ByteFieldsModel", "at", "([II)I"⟩ prog_12_method_50_code 5 (Option.some FieldType.int) ∈ bw_uw := bw_in (i := 1406) (by decide +kernel) rfl
theorem w_1405 : Cond.instanceMethod ⟨"ByteFieldsModel", "at", "([II)I"⟩ ∈ bw_uw := bw_in (i := 1405) (by decide +kernel) rfl
theorem w_45 : Cond.selects "ByteFieldsModel" ⟨"ByteFieldsModel", "at", "([II)I"⟩ ⟨"ByteFieldsModel", "at", "([II)I"⟩ ∈ bw_uw := bw_in (i := 45) (by decide +kernel) rfl
theorem w_1395 : Cond.methodLink "ByteFieldsModel" 175 ⟨"ByteFieldsModel", "begin", "()V"⟩ ∈ bw_uw := bw_in (i := 1395) (by decide +kernel) rfl
theorem w_1398 : Cond.code ⟨"ByteFieldsModel", "begin", "()V"⟩ prog_12_method_53_code 1 (Option.none : Option FieldType) ∈ bw_uw := bw_in (i := 1398) (by decide +kernel) rfl
theorem w_1397 : Cond.instanceMethod ⟨"ByteFieldsModel", "begin", "()V"⟩ ∈ bw_uw := bw_in (i := 1397) (by decide +kernel) rfl
theorem w_43 : Cond.selects "ByteFieldsModel" ⟨"ByteFieldsModel", "begin", "()V"⟩ ⟨"ByteFieldsModel", "begin", "()V"⟩ ∈ bw_uw := bw_in (i := 43) (by decide +kernel) rfl
theorem w_1399 : Cond.methodLink "ByteFieldsModel" 178 ⟨"ByteFieldsModel", "point", "(II)V"⟩ ∈ bw_uw := bw_in (i := 1399) (by decide +kernel) rfl
theorem w_1402 : Cond.code ⟨"ByteFieldsModel", "point", "(II)V"⟩ prog_12_method_52_code 6 (Option.none : Option FieldType) ∈ bw_uw := bw_in (i := 1402) (by decide +kernel) rfl
theorem w_1401 : Cond.instanceMethod ⟨"ByteFieldsModel", "point", "(II)V"⟩ ∈ bw_uw := bw_in (i := 1401) (by decide +kernel) rfl
theorem w_44 : Cond.selects "ByteFieldsModel" ⟨"ByteFieldsModel", "point", "(II)V"⟩ ⟨"ByteFieldsModel", "point", "(II)V"⟩ ∈ bw_uw := bw_in (i := 44) (by decide +kernel) rfl
theorem w_1411 : Cond.methodLink "ByteFieldsModel" 182 ⟨"ByteFieldsModel", "isPolynomial", "(I)Z"⟩ ∈ bw_uw := bw_in (i := 1411) (by decide +kernel) rfl
theorem w_1414 : Cond.code ⟨"ByteFieldsModel", "isPolynomial", "(I)Z"⟩ prog_12_method_44_code 2 (Option.some FieldType.boolean) ∈ bw_uw := bw_in (i := 1414) (by decide +kernel) rfl
theorem w_1413 : Cond.instanceMethod ⟨"ByteFieldsModel", "isPolynomial", "(I)Z"⟩ ∈ bw_uw := bw_in (i := 1413) (by decide +kernel) rfl
theorem w_46 : Cond.selects "ByteFieldsModel" ⟨"ByteFieldsModel", "isPolynomial", "(I)Z"⟩ ⟨"ByteFieldsModel", "isPolynomial", "(I)Z"⟩ ∈ bw_uw := bw_in (i := 46) (by decide +kernel) rfl
theorem w_1423 : Cond.methodLink "ByteFieldsModel" 185 ⟨"ByteFieldsModel", "load", "([II)V"⟩ ∈ bw_uw := bw_in (i := 1423) (by decide +kernel) rfl
theorem w_1426 : Cond.code ⟨"ByteFieldsModel", "load", "([II)V"⟩ prog_12_method_48_code 4 (Option.none : Option FieldType) ∈ bw_uw := bw_in (i := 1426) (by decide +kernel) rfl
theorem w_1425 : Cond.instanceMethod ⟨"ByteFieldsModel", "load", "([II)V"⟩ ∈ bw_uw := bw_in (i := 1425) (by decide +kernel) rfl
theorem w_47 : Cond.selects "ByteFieldsModel" ⟨"ByteFieldsModel", "load", "([II)V"⟩ ⟨"ByteFieldsModel", "load", "([II)V"⟩ ∈ bw_uw := bw_in (i := 47) (by decide +kernel) rfl
theorem w_1439 : Cond.methodLink "ByteFieldsModel" 189 ⟨"ByteFieldsModel", "split", "([I[I)V"⟩ ∈ bw_uw := bw_in (i := 1439) (by decide +kernel) rfl
theorem w_1442 : Cond.code ⟨"ByteFieldsModel", "split", "([I[I)V"⟩ prog_12_method_60_code 8 (Option.none : Option FieldType) ∈ bw_uw := bw_in (i := 1442) (by decide +kernel) rfl
theorem w_1441 : Cond.instanceMethod ⟨"ByteFieldsModel", "split", "([I[I)V"⟩ ∈ bw_uw := bw_in (i := 1441) (by decide +kernel) rfl
theorem w_48 : Cond.selects "ByteFieldsModel" ⟨"ByteFieldsModel", "split", "([I[I)V"⟩ ⟨"ByteFieldsModel", "split", "([I[I)V"⟩ ∈ bw_uw := bw_in (i := 48) (by decide +kernel) rfl
theorem w_1451 : Cond.methodLink "ByteFieldsModel" 193 ⟨"ByteFieldsModel", "copy", "([I[I)V"⟩ ∈ bw_uw := bw_in (i := 1451) (by decide +kernel) rfl
theorem w_1453 : Cond.code ⟨"ByteFieldsModel", "copy", "([I[I)V"⟩ prog_12_method_47_code 3 (Option.none : Option FieldType) ∈ bw_uw := bw_in (i := 1453) (by decide +kernel) rfl
theorem w_1452 : Cond.static ⟨"ByteFieldsModel", "copy", "([I[I)V"⟩ ∈ bw_uw := bw_in (i := 1452) (by decide +kernel) rfl
theorem w_1447 : Cond.methodLink "ByteFieldsModel" 196 ⟨"ByteFieldsModel", "divisor", "([I[I)V"⟩ ∈ bw_uw := bw_in (i := 1447) (by decide +kernel) rfl
theorem w_1450 : Cond.code ⟨"ByteFieldsModel", "divisor", "([I[I)V"⟩ prog_12_method_62_code 6 (Option.none : Option FieldType) ∈ bw_uw := bw_in (i := 1450) (by decide +kernel) rfl
theorem w_1449 : Cond.instanceMethod ⟨"ByteFieldsModel", "divisor", "([I[I)V"⟩ ∈ bw_uw := bw_in (i := 1449) (by decide +kernel) rfl
theorem w_49 : Cond.selects "ByteFieldsModel" ⟨"ByteFieldsModel", "divisor", "([I[I)V"⟩ ⟨"ByteFieldsModel", "divisor", "([I[I)V"⟩ ∈ bw_uw := bw_in (i := 49) (by decide +kernel) rfl
theorem w_1178 : Cond.fieldLink "ByteFieldsModel" 199 "ByteFieldsModel" "roots" "I" ∈ bw_uw := bw_in (i := 1178) (by decide +kernel) rfl
theorem w_1470 : Cond.methodLink "ByteFieldsModel" 202 ⟨"ByteFieldsModel", "square", "([I)V"⟩ ∈ bw_uw := bw_in (i := 1470) (by decide +kernel) rfl
theorem w_1473 : Cond.code ⟨"ByteFieldsModel", "square", "([I)V"⟩ prog_12_method_66_code 3 (Option.none : Option FieldType) ∈ bw_uw := bw_in (i := 1473) (by decide +kernel) rfl
theorem w_1472 : Cond.instanceMethod ⟨"ByteFieldsModel", "square", "([I)V"⟩ ∈ bw_uw := bw_in (i := 1472) (by decide +kernel) rfl
theorem w_51 : Cond.selects "ByteFieldsModel" ⟨"ByteFieldsModel", "square", "([I)V"⟩ ⟨"ByteFieldsModel", "square", "([I)V"⟩ ∈ bw_uw := bw_in (i := 51) (by decide +kernel) rfl
theorem w_1466 : Cond.methodLink "ByteFieldsModel" 205 ⟨"ByteFieldsModel", "lookAtParts", "(I)V"⟩ ∈ bw_uw := bw_in (i := 1466) (by decide +kernel) rfl
theorem w_1469 : Cond.code ⟨"ByteFieldsModel", "lookAtParts", "(I)V"⟩ prog_12_method_67_code 4 (Option.none : Option FieldType) ∈ bw_uw := bw_in (i := 1469) (by decide +kernel) rfl
theorem w_1468 : Cond.instanceMethod ⟨"ByteFieldsModel", "lookAtParts", "(I)V"⟩ ∈ bw_uw := bw_in (i := 1468) (by decide +kernel) rfl
theorem w_50 : Cond.selects "ByteFieldsModel" ⟨"ByteFieldsModel", "lookAtParts", "(I)V"⟩ ⟨"ByteFieldsModel", "lookAtParts", "(I)V"⟩ ∈ bw_uw := bw_in (i := 50) (by decide +kernel) rfl
theorem w_1184 : Cond.fieldLink "ByteFieldsModel" 208 "ByteFieldsModel" "spanned" "I" ∈ bw_uw := bw_in (i := 1184) (by decide +kernel) rfl
theorem w_136 : Cond.constant "java/lang/Integer" 264 (65536 : Int32) ∈ bw_uw := bw_in (i := 136) (by decide +kernel) rfl
theorem w_808 : Cond.constant "java/lang/Integer" 265 (1431655765 : Int32) ∈ bw_uw := bw_in (i := 808) (by decide +kernel) rfl
theorem w_809 : Cond.constant "java/lang/Integer" 266 (858993459 : Int32) ∈ bw_uw := bw_in (i := 809) (by decide +kernel) rfl
theorem w_810 : Cond.constant "java/lang/Integer" 267 (252645135 : Int32) ∈ bw_uw := bw_in (i := 810) (by decide +kernel) rfl
theorem w_387 : Cond.methodLink "ByteFieldsLaw" 7 ⟨"ByteFields", "product", "(II)I"⟩ ∈ bw_uw := bw_in (i := 387) (by decide +kernel) rfl
theorem w_390 : Cond.code ⟨"ByteFields", "product", "(II)I"⟩ prog_1_method_4_code 3 (Option.some FieldType.int) ∈ bw_uw := bw_in (i := 390) (by decide +kernel) rfl
theorem w_388 : Cond.instanceMethod ⟨"ByteFields", "product", "(II)I"⟩ ∈ bw_uw := bw_in (i := 388) (by decide +kernel) rfl
theorem w_389 : Cond.selects "ByteFields" ⟨"ByteFields", "product", "(II)I"⟩ ⟨"ByteFields", "product", "(II)I"⟩ ∈ bw_uw := bw_in (i := 389) (by decide +kernel) rfl
theorem w_489 : Cond.methodLink "ByteFieldsLaw" 15 ⟨"ByteFields", "quotient", "(II)I"⟩ ∈ bw_uw := bw_in (i := 489) (by decide +kernel) rfl
theorem w_492 : Cond.code ⟨"ByteFields", "quotient", "(II)I"⟩ prog_1_method_5_code 3 (Option.some FieldType.int) ∈ bw_uw := bw_in (i := 492) (by decide +kernel) rfl
theorem w_490 : Cond.instanceMethod ⟨"ByteFields", "quotient", "(II)I"⟩ ∈ bw_uw := bw_in (i := 490) (by decide +kernel) rfl
theorem w_491 : Cond.selects "ByteFields" ⟨"ByteFields", "quotient", "(II)I"⟩ ⟨"ByteFields", "quotient", "(II)I"⟩ ∈ bw_uw := bw_in (i := 491) (by decide +kernel) rfl
theorem w_508 : Cond.methodLink "ByteFieldsLaw" 20 ⟨"ByteFields", "power", "(IJ)I"⟩ ∈ bw_uw := bw_in (i := 508) (by decide +kernel) rfl
theorem w_511 : Cond.code ⟨"ByteFields", "power", "(IJ)I"⟩ prog_1_method_6_code 4 (Option.some FieldType.int) ∈ bw_uw := bw_in (i := 511) (by decide +kernel) rfl
theorem w_509 : Cond.instanceMethod ⟨"ByteFields", "power", "(IJ)I"⟩ ∈ bw_uw := bw_in (i := 509) (by decide +kernel) rfl
theorem w_510 : Cond.selects "ByteFields" ⟨"ByteFields", "power", "(IJ)I"⟩ ⟨"ByteFields", "power", "(IJ)I"⟩ ∈ bw_uw := bw_in (i := 510) (by decide +kernel) rfl
theorem w_543 : Cond.methodLink "ByteFieldsLaw" 24 ⟨"ByteFields", "log", "(I)I"⟩ ∈ bw_uw := bw_in (i := 543) (by decide +kernel) rfl
theorem w_546 : Cond.code ⟨"ByteFields", "log", "(I)I"⟩ prog_1_method_7_code 2 (Option.some FieldType.int) ∈ bw_uw := bw_in (i := 546) (by decide +kernel) rfl
theorem w_544 : Cond.instanceMethod ⟨"ByteFields", "log", "(I)I"⟩ ∈ bw_uw := bw_in (i := 544) (by decide +kernel) rfl
theorem w_545 : Cond.selects "ByteFields" ⟨"ByteFields", "log", "(I)I"⟩ ⟨"ByteFields", "log", "(I)I"⟩ ∈ bw_uw := bw_in (i := 545) (by decide +kernel) rfl
theorem w_554 : Cond.methodLink "ByteFieldsLaw" 30 ⟨"ByteFields", "order", "(I)I"⟩ ∈ bw_uw := bw_in (i := 554) (by decide +kernel) rfl
theorem w_557 : Cond.code ⟨"ByteFields", "order", "(I)I"⟩ prog_1_method_8_code 2 (Option.some FieldType.int) ∈ bw_uw := bw_in (i := 557) (by decide +kernel) rfl
theorem w_555 : Cond.instanceMethod ⟨"ByteFields", "order", "(I)I"⟩ ∈ bw_uw := bw_in (i := 555) (by decide +kernel) rfl
theorem w_556 : Cond.selects "ByteFields" ⟨"ByteFields", "order", "(I)I"⟩ ⟨"ByteFields", "order", "(I)I"⟩ ∈ bw_uw := bw_in (i := 556) (by decide +kernel) rfl
theorem w_566 : Cond.methodLink "ByteFieldsLaw" 33 ⟨"ByteFields", "put", "(I)I"⟩ ∈ bw_uw := bw_in (i := 566) (by decide +kernel) rfl
theorem w_569 : Cond.code ⟨"ByteFields", "put", "(I)I"⟩ prog_1_method_9_code 2 (Option.some FieldType.int) ∈ bw_uw := bw_in (i := 569) (by decide +kernel) rfl
theorem w_567 : Cond.instanceMethod ⟨"ByteFields", "put", "(I)I"⟩ ∈ bw_uw := bw_in (i := 567) (by decide +kernel) rfl
theorem w_568 : Cond.selects "ByteFields" ⟨"ByteFields", "put", "(I)I"⟩ ⟨"ByteFields", "put", "(I)I"⟩ ∈ bw_uw := bw_in (i := 568) (by decide +kernel) rfl
theorem w_590 : Cond.methodLink "ByteFieldsLaw" 38 ⟨"ByteFields", "row", "(I)I"⟩ ∈ bw_uw := bw_in (i := 590) (by decide +kernel) rfl
theorem w_593 : Cond.code ⟨"ByteFields", "row", "(I)I"⟩ prog_1_method_10_code 2 (Option.some FieldType.int) ∈ bw_uw := bw_in (i := 593) (by decide +kernel) rfl
theorem w_591 : Cond.instanceMethod ⟨"ByteFields", "row", "(I)I"⟩ ∈ bw_uw := bw_in (i := 591) (by decide +kernel) rfl
theorem w_592 : Cond.selects "ByteFields" ⟨"ByteFields", "row", "(I)I"⟩ ⟨"ByteFields", "row", "(I)I"⟩ ∈ bw_uw := bw_in (i := 592) (by decide +kernel) rfl
theorem w_610 : Cond.methodLink "ByteFieldsLaw" 43 ⟨"ByteFields", "matrix", "(II)I"⟩ ∈ bw_uw := bw_in (i := 610) (by decide +kernel) rfl
theorem w_613 : Cond.code ⟨"ByteFields", "matrix", "(II)I"⟩ prog_1_method_12_code 3 (Option.some FieldType.int) ∈ bw_uw := bw_in (i := 613) (by decide +kernel) rfl
theorem w_611 : Cond.instanceMethod ⟨"ByteFields", "matrix", "(II)I"⟩ ∈ bw_uw := bw_in (i := 611) (by decide +kernel) rfl
theorem w_612 : Cond.selects "ByteFields" ⟨"ByteFields", "matrix", "(II)I"⟩ ⟨"ByteFields", "matrix", "(II)I"⟩ ∈ bw_uw := bw_in (i := 612) (by decide +kernel) rfl
theorem w_655 : Cond.methodLink "ByteFieldsLaw" 46 ⟨"ByteFields", "powers", "(II)I"⟩ ∈ bw_uw := bw_in (i := 655) (by decide +kernel) rfl
theorem w_658 : Cond.code ⟨"ByteFields", "powers", "(II)I"⟩ prog_1_method_13_code 7 (Option.some FieldType.int) ∈ bw_uw := bw_in (i := 658) (by decide +kernel) rfl
theorem w_656 : Cond.instanceMethod ⟨"ByteFields", "powers", "(II)I"⟩ ∈ bw_uw := bw_in (i := 656) (by decide +kernel) rfl
theorem w_657 : Cond.selects "ByteFields" ⟨"ByteFields", "powers", "(II)I"⟩ ⟨"ByteFields", "powers", "(II)I"⟩ ∈ bw_uw := bw_in (i := 657) (by decide +kernel) rfl
theorem w_682 : Cond.methodLink "ByteFieldsLaw" 51 ⟨"ByteFields", "sums", "(II)I"⟩ ∈ bw_uw := bw_in (i := 682) (by decide +kernel) rfl
theorem w_685 : Cond.code ⟨"ByteFields", "sums", "(II)I"⟩ prog_1_method_14_code 6 (Option.some FieldType.int) ∈ bw_uw := bw_in (i := 685) (by decide +kernel) rfl
theorem w_683 : Cond.instanceMethod ⟨"ByteFields", "sums", "(II)I"⟩ ∈ bw_uw := bw_in (i := 683) (by decide +kernel) rfl
theorem w_684 : Cond.selects "ByteFields" ⟨"ByteFields", "sums", "(II)I"⟩ ⟨"ByteFields", "sums", "(II)I"⟩ ∈ bw_uw := bw_in (i := 684) (by decide +kernel) rfl
theorem w_691 : Cond.methodLink "ByteFieldsLaw" 54 ⟨"ByteFields", "size", "(II)I"⟩ ∈ bw_uw := bw_in (i := 691) (by decide +kernel) rfl
theorem w_694 : Cond.code ⟨"ByteFields", "size", "(II)I"⟩ prog_1_method_15_code 4 (Option.some FieldType.int) ∈ bw_uw := bw_in (i := 694) (by decide +kernel) rfl
theorem w_692 : Cond.instanceMethod ⟨"ByteFields", "size", "(II)I"⟩ ∈ bw_uw := bw_in (i := 692) (by decide +kernel) rfl
theorem w_693 : Cond.selects "ByteFields" ⟨"ByteFields", "size", "(II)I"⟩ ⟨"ByteFields", "size", "(II)I"⟩ ∈ bw_uw := bw_in (i := 693) (by decide +kernel) rfl
theorem w_704 : Cond.methodLink "ByteFieldsLaw" 57 ⟨"ByteFields", "cell", "(III)I"⟩ ∈ bw_uw := bw_in (i := 704) (by decide +kernel) rfl
theorem w_707 : Cond.code ⟨"ByteFields", "cell", "(III)I"⟩ prog_1_method_16_code 5 (Option.some FieldType.int) ∈ bw_uw := bw_in (i := 707) (by decide +kernel) rfl
theorem w_705 : Cond.instanceMethod ⟨"ByteFields", "cell", "(III)I"⟩ ∈ bw_uw := bw_in (i := 705) (by decide +kernel) rfl
theorem w_706 : Cond.selects "ByteFields" ⟨"ByteFields", "cell", "(III)I"⟩ ⟨"ByteFields", "cell", "(III)I"⟩ ∈ bw_uw := bw_in (i := 706) (by decide +kernel) rfl
theorem w_715 : Cond.methodLink "ByteFieldsLaw" 61 ⟨"ByteFields", "set", "(IIII)I"⟩ ∈ bw_uw := bw_in (i := 715) (by decide +kernel) rfl
theorem w_718 : Cond.code ⟨"ByteFields", "set", "(IIII)I"⟩ prog_1_method_17_code 8 (Option.some FieldType.int) ∈ bw_uw := bw_in (i := 718) (by decide +kernel) rfl
theorem w_716 : Cond.instanceMethod ⟨"ByteFields", "set", "(IIII)I"⟩ ∈ bw_uw := bw_in (i := 716) (by decide +kernel) rfl
theorem w_717 : Cond.selects "ByteFields" ⟨"ByteFields", "set", "(IIII)I"⟩ ⟨"ByteFields", "set", "(IIII)I"⟩ ∈ bw_uw := bw_in (i := 717) (by decide +kernel) rfl
theorem w_722 : Cond.methodLink "ByteFieldsLaw" 65 ⟨"ByteFields", "times", "(II)I"⟩ ∈ bw_uw := bw_in (i := 722) (by decide +kernel) rfl
theorem w_725 : Cond.code ⟨"ByteFields", "times", "(II)I"⟩ prog_1_method_18_code 9 (Option.some FieldType.int) ∈ bw_uw := bw_in (i := 725) (by decide +kernel) rfl
theorem w_723 : Cond.instanceMethod ⟨"ByteFields", "times", "(II)I"⟩ ∈ bw_uw := bw_in (i := 723) (by decide +kernel) rfl
theorem w_724 : Cond.selects "ByteFields" ⟨"ByteFields", "times", "(II)I"⟩ ⟨"ByteFields", "times", "(II)I"⟩ ∈ bw_uw := bw_in (i := 724) (by decide +kernel) rfl
theorem w_734 : Cond.methodLink "ByteFieldsLaw" 68 ⟨"ByteFields", "invert", "(I)I"⟩ ∈ bw_uw := bw_in (i := 734) (by decide +kernel) rfl
theorem w_737 : Cond.code ⟨"ByteFields", "invert", "(I)I"⟩ prog_1_method_19_code 4 (Option.some FieldType.int) ∈ bw_uw := bw_in (i := 737) (by decide +kernel) rfl
theorem w_735 : Cond.instanceMethod ⟨"ByteFields", "invert", "(I)I"⟩ ∈ bw_uw := bw_in (i := 735) (by decide +kernel) rfl
theorem w_736 : Cond.selects "ByteFields" ⟨"ByteFields", "invert", "(I)I"⟩ ⟨"ByteFields", "invert", "(I)I"⟩ ∈ bw_uw := bw_in (i := 736) (by decide +kernel) rfl
theorem w_783 : Cond.methodLink "ByteFieldsLaw" 71 ⟨"ByteFields", "rank", "(I)I"⟩ ∈ bw_uw := bw_in (i := 783) (by decide +kernel) rfl
theorem w_786 : Cond.code ⟨"ByteFields", "rank", "(I)I"⟩ prog_1_method_20_code 3 (Option.some FieldType.int) ∈ bw_uw := bw_in (i := 786) (by decide +kernel) rfl
theorem w_784 : Cond.instanceMethod ⟨"ByteFields", "rank", "(I)I"⟩ ∈ bw_uw := bw_in (i := 784) (by decide +kernel) rfl
theorem w_785 : Cond.selects "ByteFields" ⟨"ByteFields", "rank", "(I)I"⟩ ⟨"ByteFields", "rank", "(I)I"⟩ ∈ bw_uw := bw_in (i := 785) (by decide +kernel) rfl
theorem w_790 : Cond.methodLink "ByteFieldsLaw" 74 ⟨"ByteFields", "determinant", "(I)I"⟩ ∈ bw_uw := bw_in (i := 790) (by decide +kernel) rfl
theorem w_793 : Cond.code ⟨"ByteFields", "determinant", "(I)I"⟩ prog_1_method_21_code 3 (Option.some FieldType.int) ∈ bw_uw := bw_in (i := 793) (by decide +kernel) rfl
theorem w_791 : Cond.instanceMethod ⟨"ByteFields", "determinant", "(I)I"⟩ ∈ bw_uw := bw_in (i := 791) (by decide +kernel) rfl
theorem w_792 : Cond.selects "ByteFields" ⟨"ByteFields", "determinant", "(I)I"⟩ ⟨"ByteFields", "determinant", "(I)I"⟩ ∈ bw_uw := bw_in (i := 792) (by decide +kernel) rfl
theorem w_797 : Cond.methodLink "ByteFieldsLaw" 77 ⟨"ByteFields", "singular", "(I)I"⟩ ∈ bw_uw := bw_in (i := 797) (by decide +kernel) rfl
theorem w_800 : Cond.code ⟨"ByteFields", "singular", "(I)I"⟩ prog_1_method_22_code 2 (Option.some FieldType.int) ∈ bw_uw := bw_in (i := 800) (by decide +kernel) rfl
theorem w_798 : Cond.instanceMethod ⟨"ByteFields", "singular", "(I)I"⟩ ∈ bw_uw := bw_in (i := 798) (by decide +kernel) rfl
theorem w_799 : Cond.selects "ByteFields" ⟨"ByteFields", "singular", "(I)I"⟩ ⟨"ByteFields", "singular", "(I)I"⟩ ∈ bw_uw := bw_in (i := 799) (by decide +kernel) rfl
theorem w_826 : Cond.methodLink "ByteFieldsLaw" 80 ⟨"ByteFields", "solve", "(I)I"⟩ ∈ bw_uw := bw_in (i := 826) (by decide +kernel) rfl
theorem w_829 : Cond.code ⟨"ByteFields", "solve", "(I)I"⟩ prog_1_method_23_code 5 (Option.some FieldType.int) ∈ bw_uw := bw_in (i := 829) (by decide +kernel) rfl
theorem w_827 : Cond.instanceMethod ⟨"ByteFields", "solve", "(I)I"⟩ ∈ bw_uw := bw_in (i := 827) (by decide +kernel) rfl
theorem w_828 : Cond.selects "ByteFields" ⟨"ByteFields", "solve", "(I)I"⟩ ⟨"ByteFields", "solve", "(I)I"⟩ ∈ bw_uw := bw_in (i := 828) (by decide +kernel) rfl
theorem w_846 : Cond.methodLink "ByteFieldsLaw" 83 ⟨"ByteFields", "polynomial", "()I"⟩ ∈ bw_uw := bw_in (i := 846) (by decide +kernel) rfl
theorem w_849 : Cond.code ⟨"ByteFields", "polynomial", "()I"⟩ prog_1_method_24_code 2 (Option.some FieldType.int) ∈ bw_uw := bw_in (i := 849) (by decide +kernel) rfl
theorem w_847 : Cond.instanceMethod ⟨"ByteFields", "polynomial", "()I"⟩ ∈ bw_uw := bw_in (i := 847) (by decide +kernel) rfl
theorem w_848 : Cond.selects "ByteFields" ⟨"ByteFields", "polynomial", "()I"⟩ ⟨"ByteFields", "polynomial", "()I"⟩ ∈ bw_uw := bw_in (i := 848) (by decide +kernel) rfl
theorem w_881 : Cond.methodLink "ByteFieldsLaw" 87 ⟨"ByteFields", "through", "()I"⟩ ∈ bw_uw := bw_in (i := 881) (by decide +kernel) rfl
theorem w_884 : Cond.code ⟨"ByteFields", "through", "()I"⟩ prog_1_method_25_code 3 (Option.some FieldType.int) ∈ bw_uw := bw_in (i := 884) (by decide +kernel) rfl
theorem w_882 : Cond.instanceMethod ⟨"ByteFields", "through", "()I"⟩ ∈ bw_uw := bw_in (i := 882) (by decide +kernel) rfl
theorem w_883 : Cond.selects "ByteFields" ⟨"ByteFields", "through", "()I"⟩ ⟨"ByteFields", "through", "()I"⟩ ∈ bw_uw := bw_in (i := 883) (by decide +kernel) rfl
theorem w_905 : Cond.methodLink "ByteFieldsLaw" 90 ⟨"ByteFields", "degree", "(I)I"⟩ ∈ bw_uw := bw_in (i := 905) (by decide +kernel) rfl
theorem w_908 : Cond.code ⟨"ByteFields", "degree", "(I)I"⟩ prog_1_method_26_code 2 (Option.some FieldType.int) ∈ bw_uw := bw_in (i := 908) (by decide +kernel) rfl
theorem w_906 : Cond.instanceMethod ⟨"ByteFields", "degree", "(I)I"⟩ ∈ bw_uw := bw_in (i := 906) (by decide +kernel) rfl
theorem w_907 : Cond.selects "ByteFields" ⟨"ByteFields", "degree", "(I)I"⟩ ⟨"ByteFields", "degree", "(I)I"⟩ ∈ bw_uw := bw_in (i := 907) (by decide +kernel) rfl
theorem w_917 : Cond.methodLink "ByteFieldsLaw" 93 ⟨"ByteFields", "coefficient", "(II)I"⟩ ∈ bw_uw := bw_in (i := 917) (by decide +kernel) rfl
theorem w_920 : Cond.code ⟨"ByteFields", "coefficient", "(II)I"⟩ prog_1_method_27_code 4 (Option.some FieldType.int) ∈ bw_uw := bw_in (i := 920) (by decide +kernel) rfl
theorem w_918 : Cond.instanceMethod ⟨"ByteFields", "coefficient", "(II)I"⟩ ∈ bw_uw := bw_in (i := 918) (by decide +kernel) rfl
theorem w_919 : Cond.selects "ByteFields" ⟨"ByteFields", "coefficient", "(II)I"⟩ ⟨"ByteFields", "coefficient", "(II)I"⟩ ∈ bw_uw := bw_in (i := 919) (by decide +kernel) rfl
theorem w_925 : Cond.methodLink "ByteFieldsLaw" 96 ⟨"ByteFields", "value", "(II)I"⟩ ∈ bw_uw := bw_in (i := 925) (by decide +kernel) rfl
theorem w_928 : Cond.code ⟨"ByteFields", "value", "(II)I"⟩ prog_1_method_28_code 4 (Option.some FieldType.int) ∈ bw_uw := bw_in (i := 928) (by decide +kernel) rfl
theorem w_926 : Cond.instanceMethod ⟨"ByteFields", "value", "(II)I"⟩ ∈ bw_uw := bw_in (i := 926) (by decide +kernel) rfl
theorem w_927 : Cond.selects "ByteFields" ⟨"ByteFields", "value", "(II)I"⟩ ⟨"ByteFields", "value", "(II)I"⟩ ∈ bw_uw := bw_in (i := 927) (by decide +kernel) rfl
theorem w_936 : Cond.methodLink "ByteFieldsLaw" 99 ⟨"ByteFields", "plus", "(II)I"⟩ ∈ bw_uw := bw_in (i := 936) (by decide +kernel) rfl
theorem w_939 : Cond.code ⟨"ByteFields", "plus", "(II)I"⟩ prog_1_method_29_code 5 (Option.some FieldType.int) ∈ bw_uw := bw_in (i := 939) (by decide +kernel) rfl
theorem w_937 : Cond.instanceMethod ⟨"ByteFields", "plus", "(II)I"⟩ ∈ bw_uw := bw_in (i := 937) (by decide +kernel) rfl
theorem w_938 : Cond.selects "ByteFields" ⟨"ByteFields", "plus", "(II)I"⟩ ⟨"ByteFields", "plus", "(II)I"⟩ ∈ bw_uw := bw_in (i := 938) (by decide +kernel) rfl
theorem w_951 : Cond.methodLink "ByteFieldsLaw" 102 ⟨"ByteFields", "multiply", "(II)I"⟩ ∈ bw_uw := bw_in (i := 951) (by decide +kernel) rfl
theorem w_954 : Cond.code ⟨"ByteFields", "multiply", "(II)I"⟩ prog_1_method_30_code 6 (Option.some FieldType.int) ∈ bw_uw := bw_in (i := 954) (by decide +kernel) rfl
theorem w_952 : Cond.instanceMethod ⟨"ByteFields", "multiply", "(II)I"⟩ ∈ bw_uw := bw_in (i := 952) (by decide +kernel) rfl
theorem w_953 : Cond.selects "ByteFields" ⟨"ByteFields", "multiply", "(II)I"⟩ ⟨"ByteFields", "multiply", "(II)I"⟩ ∈ bw_uw := bw_in (i := 953) (by decide +kernel) rfl
theorem w_960 : Cond.methodLink "ByteFieldsLaw" 105 ⟨"ByteFields", "divide", "(IIZ)I"⟩ ∈ bw_uw := bw_in (i := 960) (by decide +kernel) rfl
theorem w_963 : Cond.code ⟨"ByteFields", "divide", "(IIZ)I"⟩ prog_1_method_31_code 6 (Option.some FieldType.int) ∈ bw_uw := bw_in (i := 963) (by decide +kernel) rfl
theorem w_961 : Cond.instanceMethod ⟨"ByteFields", "divide", "(IIZ)I"⟩ ∈ bw_uw := bw_in (i := 961) (by decide +kernel) rfl
theorem w_962 : Cond.selects "ByteFields" ⟨"ByteFields", "divide", "(IIZ)I"⟩ ⟨"ByteFields", "divide", "(IIZ)I"⟩ ∈ bw_uw := bw_in (i := 962) (by decide +kernel) rfl
theorem w_989 : Cond.methodLink "ByteFieldsLaw" 109 ⟨"ByteFields", "common", "(II)I"⟩ ∈ bw_uw := bw_in (i := 989) (by decide +kernel) rfl
theorem w_992 : Cond.code ⟨"ByteFields", "common", "(II)I"⟩ prog_1_method_32_code 5 (Option.some FieldType.int) ∈ bw_uw := bw_in (i := 992) (by decide +kernel) rfl
theorem w_990 : Cond.instanceMethod ⟨"ByteFields", "common", "(II)I"⟩ ∈ bw_uw := bw_in (i := 990) (by decide +kernel) rfl
theorem w_991 : Cond.selects "ByteFields" ⟨"ByteFields", "common", "(II)I"⟩ ⟨"ByteFields", "common", "(II)I"⟩ ∈ bw_uw := bw_in (i := 991) (by decide +kernel) rfl
theorem w_1003 : Cond.methodLink "ByteFieldsLaw" 112 ⟨"ByteFields", "root", "(II)I"⟩ ∈ bw_uw := bw_in (i := 1003) (by decide +kernel) rfl
theorem w_1006 : Cond.code ⟨"ByteFields", "root", "(II)I"⟩ prog_1_method_33_code 4 (Option.some FieldType.int) ∈ bw_uw := bw_in (i := 1006) (by decide +kernel) rfl
theorem w_1004 : Cond.instanceMethod ⟨"ByteFields", "root", "(II)I"⟩ ∈ bw_uw := bw_in (i := 1004) (by decide +kernel) rfl
theorem w_1005 : Cond.selects "ByteFields" ⟨"ByteFields", "root", "(II)I"⟩ ⟨"ByteFields", "root", "(II)I"⟩ ∈ bw_uw := bw_in (i := 1005) (by decide +kernel) rfl
theorem w_1041 : Cond.methodLink "ByteFieldsLaw" 115 ⟨"ByteFields", "often", "(II)I"⟩ ∈ bw_uw := bw_in (i := 1041) (by decide +kernel) rfl
theorem w_1044 : Cond.code ⟨"ByteFields", "often", "(II)I"⟩ prog_1_method_34_code 5 (Option.some FieldType.int) ∈ bw_uw := bw_in (i := 1044) (by decide +kernel) rfl
theorem w_1042 : Cond.instanceMethod ⟨"ByteFields", "often", "(II)I"⟩ ∈ bw_uw := bw_in (i := 1042) (by decide +kernel) rfl
theorem w_1043 : Cond.selects "ByteFields" ⟨"ByteFields", "often", "(II)I"⟩ ⟨"ByteFields", "often", "(II)I"⟩ ∈ bw_uw := bw_in (i := 1043) (by decide +kernel) rfl
theorem w_1052 : Cond.methodLink "ByteFieldsLaw" 118 ⟨"ByteFields", "parts", "(II)I"⟩ ∈ bw_uw := bw_in (i := 1052) (by decide +kernel) rfl
theorem w_1055 : Cond.code ⟨"ByteFields", "parts", "(II)I"⟩ prog_1_method_35_code 5 (Option.some FieldType.int) ∈ bw_uw := bw_in (i := 1055) (by decide +kernel) rfl
theorem w_1053 : Cond.instanceMethod ⟨"ByteFields", "parts", "(II)I"⟩ ∈ bw_uw := bw_in (i := 1053) (by decide +kernel) rfl
theorem w_1054 : Cond.selects "ByteFields" ⟨"ByteFields", "parts", "(II)I"⟩ ⟨"ByteFields", "parts", "(II)I"⟩ ∈ bw_uw := bw_in (i := 1054) (by decide +kernel) rfl
theorem w_1075 : Cond.methodLink "ByteFieldsLaw" 121 ⟨"ByteFields", "span", "()I"⟩ ∈ bw_uw := bw_in (i := 1075) (by decide +kernel) rfl
theorem w_1078 : Cond.code ⟨"ByteFields", "span", "()I"⟩ prog_1_method_36_code 2 (Option.some FieldType.int) ∈ bw_uw := bw_in (i := 1078) (by decide +kernel) rfl
theorem w_1076 : Cond.instanceMethod ⟨"ByteFields", "span", "()I"⟩ ∈ bw_uw := bw_in (i := 1076) (by decide +kernel) rfl
theorem w_1077 : Cond.selects "ByteFields" ⟨"ByteFields", "span", "()I"⟩ ⟨"ByteFields", "span", "()I"⟩ ∈ bw_uw := bw_in (i := 1077) (by decide +kernel) rfl
theorem w_1091 : Cond.methodLink "ByteFieldsLaw" 124 ⟨"ByteFields", "forth", "(I)I"⟩ ∈ bw_uw := bw_in (i := 1091) (by decide +kernel) rfl
theorem w_1094 : Cond.code ⟨"ByteFields", "forth", "(I)I"⟩ prog_1_method_37_code 4 (Option.some FieldType.int) ∈ bw_uw := bw_in (i := 1094) (by decide +kernel) rfl
theorem w_1092 : Cond.instanceMethod ⟨"ByteFields", "forth", "(I)I"⟩ ∈ bw_uw := bw_in (i := 1092) (by decide +kernel) rfl
theorem w_1093 : Cond.selects "ByteFields" ⟨"ByteFields", "forth", "(I)I"⟩ ⟨"ByteFields", "forth", "(I)I"⟩ ∈ bw_uw := bw_in (i := 1093) (by decide +kernel) rfl
theorem w_1103 : Cond.methodLink "ByteFieldsLaw" 127 ⟨"ByteFields", "back", "()I"⟩ ∈ bw_uw := bw_in (i := 1103) (by decide +kernel) rfl
theorem w_1106 : Cond.code ⟨"ByteFields", "back", "()I"⟩ prog_1_method_38_code 2 (Option.some FieldType.int) ∈ bw_uw := bw_in (i := 1106) (by decide +kernel) rfl
theorem w_1104 : Cond.instanceMethod ⟨"ByteFields", "back", "()I"⟩ ∈ bw_uw := bw_in (i := 1104) (by decide +kernel) rfl
theorem w_1105 : Cond.selects "ByteFields" ⟨"ByteFields", "back", "()I"⟩ ⟨"ByteFields", "back", "()I"⟩ ∈ bw_uw := bw_in (i := 1105) (by decide +kernel) rfl
theorem w_1111 : Cond.methodLink "ByteFieldsLaw" 130 ⟨"ByteFields", "told", "(I)I"⟩ ∈ bw_uw := bw_in (i := 1111) (by decide +kernel) rfl
theorem w_1114 : Cond.code ⟨"ByteFields", "told", "(I)I"⟩ prog_1_method_39_code 2 (Option.some FieldType.int) ∈ bw_uw := bw_in (i := 1114) (by decide +kernel) rfl
theorem w_1112 : Cond.instanceMethod ⟨"ByteFields", "told", "(I)I"⟩ ∈ bw_uw := bw_in (i := 1112) (by decide +kernel) rfl
theorem w_1113 : Cond.selects "ByteFields" ⟨"ByteFields", "told", "(I)I"⟩ ⟨"ByteFields", "told", "(I)I"⟩ ∈ bw_uw := bw_in (i := 1113) (by decide +kernel) rfl
theorem w_77 : Cond.classLink "ByteFieldsLaw" 8 "ByteFields" ∈ bw_uw := bw_in (i := 77) (by decide +kernel) rfl
theorem w_78 : Cond.instantiable "ByteFields" 17 ∈ bw_uw := bw_in (i := 78) (by decide +kernel) rfl
theorem w_380 : Cond.methodLink "ByteFieldsLaw" 133 ⟨"ByteFieldsLaw", "cell", "([II)I"⟩ ∈ bw_uw := bw_in (i := 380) (by decide +kernel) rfl
theorem w_52 : Cond.initialized "ByteFieldsLaw" ∈ bw_uw := bw_in (i := 52) (by decide +kernel) rfl
theorem w_382 : Cond.code ⟨"ByteFieldsLaw", "cell", "([II)I"⟩ method_2_code 2 (Option.some FieldType.int) ∈ bw_uw := bw_in (i := 382) (by decide +kernel) rfl
theorem w_381 : Cond.static ⟨"ByteFieldsLaw", "cell", "([II)I"⟩ ∈ bw_uw := bw_in (i := 381) (by decide +kernel) rfl
theorem w_79 : Cond.methodLink "ByteFieldsLaw" 138 ⟨"ByteFields", "<init>", "(II)V"⟩ ∈ bw_uw := bw_in (i := 79) (by decide +kernel) rfl
theorem w_81 : Cond.code ⟨"ByteFields", "<init>", "(II)V"⟩ prog_1_method_1_code 3 (Option.none : Option FieldType) ∈ bw_uw := bw_in (i := 81) (by decide +kernel) rfl
theorem w_80 : Cond.instanceMethod ⟨"ByteFields", "<init>", "(II)V"⟩ ∈ bw_uw := bw_in (i := 80) (by decide +kernel) rfl
theorem w_1120 : Cond.classLink "ByteFieldsLaw" 141 "ByteFieldsModel" ∈ bw_uw := bw_in (i := 1120) (by decide +kernel) rfl
theorem w_1121 : Cond.instantiable "ByteFieldsModel" 30 ∈ bw_uw := bw_in (i := 1121) (by decide +kernel) rfl
theorem w_1122 : Cond.methodLink "ByteFieldsLaw" 143 ⟨"ByteFieldsModel", "<init>", "(II)V"⟩ ∈ bw_uw := bw_in (i := 1122) (by decide +kernel) rfl
theorem w_1124 : Cond.code ⟨"ByteFieldsModel", "<init>", "(II)V"⟩ prog_12_method_3_code 3 (Option.none : Option FieldType) ∈ bw_uw := bw_in (i := 1124) (by decide +kernel) rfl
theorem w_1123 : Cond.instanceMethod ⟨"ByteFieldsModel", "<init>", "(II)V"⟩ ∈ bw_uw := bw_in (i := 1123) (by decide +kernel) rfl
theorem w_368 : Cond.methodLink "ByteFieldsLaw" 144 ⟨"ByteFields", "poly", "()I"⟩ ∈ bw_uw := bw_in (i := 368) (by decide +kernel) rfl
theorem w_371 : Cond.code ⟨"ByteFields", "poly", "()I"⟩ prog_1_method_2_code 1 (Option.some FieldType.int) ∈ bw_uw := bw_in (i := 371) (by decide +kernel) rfl
theorem w_369 : Cond.instanceMethod ⟨"ByteFields", "poly", "()I"⟩ ∈ bw_uw := bw_in (i := 369) (by decide +kernel) rfl
theorem w_370 : Cond.selects "ByteFields" ⟨"ByteFields", "poly", "()I"⟩ ⟨"ByteFields", "poly", "()I"⟩ ∈ bw_uw := bw_in (i := 370) (by decide +kernel) rfl
theorem w_1247 : Cond.methodLink "ByteFieldsLaw" 147 ⟨"ByteFieldsModel", "poly", "()I"⟩ ∈ bw_uw := bw_in (i := 1247) (by decide +kernel) rfl
theorem w_1250 : Cond.code ⟨"ByteFieldsModel", "poly", "()I"⟩ prog_12_method_14_code 1 (Option.some FieldType.int) ∈ bw_uw := bw_in (i := 1250) (by decide +kernel) rfl
theorem w_1248 : Cond.instanceMethod ⟨"ByteFieldsModel", "poly", "()I"⟩ ∈ bw_uw := bw_in (i := 1248) (by decide +kernel) rfl
theorem w_1249 : Cond.selects "ByteFieldsModel" ⟨"ByteFieldsModel", "poly", "()I"⟩ ⟨"ByteFieldsModel", "poly", "()I"⟩ ∈ bw_uw := bw_in (i := 1249) (by decide +kernel) rfl
theorem w_372 : Cond.methodLink "ByteFieldsLaw" 148 ⟨"ByteFields", "generator", "()I"⟩ ∈ bw_uw := bw_in (i := 372) (by decide +kernel) rfl
theorem w_375 : Cond.code ⟨"ByteFields", "generator", "()I"⟩ prog_1_method_3_code 1 (Option.some FieldType.int) ∈ bw_uw := bw_in (i := 375) (by decide +kernel) rfl
theorem w_373 : Cond.instanceMethod ⟨"ByteFields", "generator", "()I"⟩ ∈ bw_uw := bw_in (i := 373) (by decide +kernel) rfl
theorem w_374 : Cond.selects "ByteFields" ⟨"ByteFields", "generator", "()I"⟩ ⟨"ByteFields", "generator", "()I"⟩ ∈ bw_uw := bw_in (i := 374) (by decide +kernel) rfl
theorem w_1251 : Cond.methodLink "ByteFieldsLaw" 151 ⟨"ByteFieldsModel", "generator", "()I"⟩ ∈ bw_uw := bw_in (i := 1251) (by decide +kernel) rfl
theorem w_1254 : Cond.code ⟨"ByteFieldsModel", "generator", "()I"⟩ prog_12_method_15_code 1 (Option.some FieldType.int) ∈ bw_uw := bw_in (i := 1254) (by decide +kernel) rfl
theorem w_1252 : Cond.instanceMethod ⟨"ByteFieldsModel", "generator", "()I"⟩ ∈ bw_uw := bw_in (i := 1252) (by decide +kernel) rfl
theorem w_1253 : Cond.selects "ByteFieldsModel" ⟨"ByteFieldsModel", "generator", "()I"⟩ ⟨"ByteFieldsModel", "generator", "()I"⟩ ∈ bw_uw := bw_in (i := 1253) (by decide +kernel) rfl
theorem w_383 : Cond.methodLink "ByteFieldsLaw" 152 ⟨"ByteFieldsLaw", "product", "(LByteFields;II[J)I"⟩ ∈ bw_uw := bw_in (i := 383) (by decide +kernel) rfl
theorem w_385 : Cond.codeWith ⟨"ByteFieldsLaw", "product", "(LByteFields;II[J)I"⟩ method_3_code 5 (Option.some FieldType.int) [(0, 10, 13, 13)] ∈ bw_uw := bw_in (i := 385) (by decide +kernel) rfl
theorem w_384 : Cond.static ⟨"ByteFieldsLaw", "product", "(LByteFields;II[J)I"⟩ ∈ bw_uw := bw_in (i := 384) (by decide +kernel) rfl
theorem w_1255 : Cond.methodLink "ByteFieldsLaw" 155 ⟨"ByteFieldsModel", "product", "(II)I"⟩ ∈ bw_uw := bw_in (i := 1255) (by decide +kernel) rfl
theorem w_1258 : Cond.code ⟨"ByteFieldsModel", "product", "(II)I"⟩ prog_12_method_16_code 3 (Option.some FieldType.int) ∈ bw_uw := bw_in (i := 1258) (by decide +kernel) rfl
theorem w_1256 : Cond.instanceMethod ⟨"ByteFieldsModel", "product", "(II)I"⟩ ∈ bw_uw := bw_in (i := 1256) (by decide +kernel) rfl
theorem w_1257 : Cond.selects "ByteFieldsModel" ⟨"ByteFieldsModel", "product", "(II)I"⟩ ⟨"ByteFieldsModel", "product", "(II)I"⟩ ∈ bw_uw := bw_in (i := 1257) (by decide +kernel) rfl
theorem w_1116 : Cond.methodLink "ByteFieldsLaw" 156 ⟨"ByteFieldsModel", "thrown", "()I"⟩ ∈ bw_uw := bw_in (i := 1116) (by decide +kernel) rfl
theorem w_1119 : Cond.code ⟨"ByteFieldsModel", "thrown", "()I"⟩ prog_12_method_1_code 1 (Option.some FieldType.int) ∈ bw_uw := bw_in (i := 1119) (by decide +kernel) rfl
theorem w_1117 : Cond.instanceMethod ⟨"ByteFieldsModel", "thrown", "()I"⟩ ∈ bw_uw := bw_in (i := 1117) (by decide +kernel) rfl
theorem w_1118 : Cond.selects "ByteFieldsModel" ⟨"ByteFieldsModel", "thrown", "()I"⟩ ⟨"ByteFieldsModel", "thrown", "()I"⟩ ∈ bw_uw := bw_in (i := 1118) (by decide +kernel) rfl
theorem w_467 : Cond.methodLink "ByteFieldsLaw" 159 ⟨"ByteFieldsLaw", "quotient", "(LByteFields;II[J)I"⟩ ∈ bw_uw := bw_in (i := 467) (by decide +kernel) rfl
theorem w_469 : Cond.codeWith ⟨"ByteFieldsLaw", "quotient", "(LByteFields;II[J)I"⟩ method_4_code 5 (Option.some FieldType.int) [(0, 10, 13, 13), (0, 10, 17, 18)] ∈ bw_uw := bw_in (i := 469) (by decide +kernel) rfl
theorem w_468 : Cond.static ⟨"ByteFieldsLaw", "quotient", "(LByteFields;II[J)I"⟩ ∈ bw_uw := bw_in (i := 468) (by decide +kernel) rfl
theorem w_1267 : Cond.methodLink "ByteFieldsLaw" 161 ⟨"ByteFieldsModel", "quotient", "(II)I"⟩ ∈ bw_uw := bw_in (i := 1267) (by decide +kernel) rfl
theorem w_1270 : Cond.code ⟨"ByteFieldsModel", "quotient", "(II)I"⟩ prog_12_method_17_code 3 (Option.some FieldType.int) ∈ bw_uw := bw_in (i := 1270) (by decide +kernel) rfl
theorem w_1268 : Cond.instanceMethod ⟨"ByteFieldsModel", "quotient", "(II)I"⟩ ∈ bw_uw := bw_in (i := 1268) (by decide +kernel) rfl
theorem w_1269 : Cond.selects "ByteFieldsModel" ⟨"ByteFieldsModel", "quotient", "(II)I"⟩ ⟨"ByteFieldsModel", "quotient", "(II)I"⟩ ∈ bw_uw := bw_in (i := 1269) (by decide +kernel) rfl
theorem w_1490 : Cond.constantLong "ByteFieldsLaw" 162 (4294967295 : Int64) ∈ bw_uw := bw_in (i := 1490) (by decide +kernel) rfl
theorem w_505 : Cond.methodLink "ByteFieldsLaw" 164 ⟨"ByteFieldsLaw", "power", "(LByteFields;IJ[J)I"⟩ ∈ bw_uw := bw_in (i := 505) (by decide +kernel) rfl
theorem w_507 : Cond.codeWith ⟨"ByteFieldsLaw", "power", "(LByteFields;IJ[J)I"⟩ method_5_code 6 (Option.some FieldType.int) [(0, 11, 14, 13), (0, 11, 18, 18)] ∈ bw_uw := bw_in (i := 507) (by decide +kernel) rfl
theorem w_506 : Cond.static ⟨"ByteFieldsLaw", "power", "(LByteFields;IJ[J)I"⟩ ∈ bw_uw := bw_in (i := 506) (by decide +kernel) rfl
theorem w_1275 : Cond.methodLink "ByteFieldsLaw" 167 ⟨"ByteFieldsModel", "power", "(IJ)I"⟩ ∈ bw_uw := bw_in (i := 1275) (by decide +kernel) rfl
theorem w_1278 : Cond.code ⟨"ByteFieldsModel", "power", "(IJ)I"⟩ prog_12_method_18_code 6 (Option.some FieldType.int) ∈ bw_uw := bw_in (i := 1278) (by decide +kernel) rfl
theorem w_1276 : Cond.instanceMethod ⟨"ByteFieldsModel", "power", "(IJ)I"⟩ ∈ bw_uw := bw_in (i := 1276) (by decide +kernel) rfl
theorem w_1277 : Cond.selects "ByteFieldsModel" ⟨"ByteFieldsModel", "power", "(IJ)I"⟩ ⟨"ByteFieldsModel", "power", "(IJ)I"⟩ ∈ bw_uw := bw_in (i := 1277) (by decide +kernel) rfl
theorem w_521 : Cond.methodLink "ByteFieldsLaw" 168 ⟨"ByteFieldsLaw", "log", "(LByteFields;I[J)I"⟩ ∈ bw_uw := bw_in (i := 521) (by decide +kernel) rfl
theorem w_523 : Cond.codeWith ⟨"ByteFieldsLaw", "log", "(LByteFields;I[J)I"⟩ method_6_code 4 (Option.some FieldType.int) [(0, 9, 12, 13), (0, 9, 15, 28)] ∈ bw_uw := bw_in (i := 523) (by decide +kernel) rfl
theorem w_522 : Cond.static ⟨"ByteFieldsLaw", "log", "(LByteFields;I[J)I"⟩ ∈ bw_uw := bw_in (i := 522) (by decide +kernel) rfl
theorem w_1279 : Cond.methodLink "ByteFieldsLaw" 171 ⟨"ByteFieldsModel", "log", "(I)I"⟩ ∈ bw_uw := bw_in (i := 1279) (by decide +kernel) rfl
theorem w_1282 : Cond.code ⟨"ByteFieldsModel", "log", "(I)I"⟩ prog_12_method_19_code 11 (Option.some FieldType.int) ∈ bw_uw := bw_in (i := 1282) (by decide +kernel) rfl
theorem w_1280 : Cond.instanceMethod ⟨"ByteFieldsModel", "log", "(I)I"⟩ ∈ bw_uw := bw_in (i := 1280) (by decide +kernel) rfl
theorem w_1281 : Cond.selects "ByteFieldsModel" ⟨"ByteFieldsModel", "log", "(I)I"⟩ ⟨"ByteFieldsModel", "log", "(I)I"⟩ ∈ bw_uw := bw_in (i := 1281) (by decide +kernel) rfl
theorem w_551 : Cond.methodLink "ByteFieldsLaw" 172 ⟨"ByteFieldsLaw", "order", "(LByteFields;I[J)I"⟩ ∈ bw_uw := bw_in (i := 551) (by decide +kernel) rfl
theorem w_553 : Cond.codeWith ⟨"ByteFieldsLaw", "order", "(LByteFields;I[J)I"⟩ method_7_code 4 (Option.some FieldType.int) [(0, 9, 12, 13)] ∈ bw_uw := bw_in (i := 553) (by decide +kernel) rfl
theorem w_552 : Cond.static ⟨"ByteFieldsLaw", "order", "(LByteFields;I[J)I"⟩ ∈ bw_uw := bw_in (i := 552) (by decide +kernel) rfl
theorem w_1283 : Cond.methodLink "ByteFieldsLaw" 174 ⟨"ByteFieldsModel", "order", "(I)I"⟩ ∈ bw_uw := bw_in (i := 1283) (by decide +kernel) rfl
theorem w_1286 : Cond.code ⟨"ByteFieldsModel", "order", "(I)I"⟩ prog_12_method_20_code 2 (Option.some FieldType.int) ∈ bw_uw := bw_in (i := 1286) (by decide +kernel) rfl
theorem w_1284 : Cond.instanceMethod ⟨"ByteFieldsModel", "order", "(I)I"⟩ ∈ bw_uw := bw_in (i := 1284) (by decide +kernel) rfl
theorem w_1285 : Cond.selects "ByteFieldsModel" ⟨"ByteFieldsModel", "order", "(I)I"⟩ ⟨"ByteFieldsModel", "order", "(I)I"⟩ ∈ bw_uw := bw_in (i := 1285) (by decide +kernel) rfl
theorem w_562 : Cond.methodLink "ByteFieldsLaw" 175 ⟨"ByteFieldsLaw", "put", "(LByteFields;I[J)I"⟩ ∈ bw_uw := bw_in (i := 562) (by decide +kernel) rfl
theorem w_564 : Cond.codeWith ⟨"ByteFieldsLaw", "put", "(LByteFields;I[J)I"⟩ method_8_code 4 (Option.some FieldType.int) [(0, 9, 12, 13), (0, 9, 15, 36)] ∈ bw_uw := bw_in (i := 564) (by decide +kernel) rfl
theorem w_563 : Cond.static ⟨"ByteFieldsLaw", "put", "(LByteFields;I[J)I"⟩ ∈ bw_uw := bw_in (i := 563) (by decide +kernel) rfl
theorem w_1287 : Cond.methodLink "ByteFieldsLaw" 177 ⟨"ByteFieldsModel", "put", "(I)I"⟩ ∈ bw_uw := bw_in (i := 1287) (by decide +kernel) rfl
theorem w_1290 : Cond.code ⟨"ByteFieldsModel", "put", "(I)I"⟩ prog_12_method_21_code 2 (Option.some FieldType.int) ∈ bw_uw := bw_in (i := 1290) (by decide +kernel) rfl
theorem w_1288 : Cond.instanceMethod ⟨"ByteFieldsModel", "put", "(I)I"⟩ ∈ bw_uw := bw_in (i := 1288) (by decide +kernel) rfl
theorem w_1289 : Cond.selects "ByteFieldsModel" ⟨"ByteFieldsModel", "put", "(I)I"⟩ ⟨"ByteFieldsModel", "put", "(I)I"⟩ ∈ bw_uw := bw_in (i := 1289) (by decide +kernel) rfl
theorem w_586 : Cond.methodLink "ByteFieldsLaw" 178 ⟨"ByteFieldsLaw", "row", "(LByteFields;I[J)I"⟩ ∈ bw_uw := bw_in (i := 586) (by decide +kernel) rfl
theorem w_588 : Cond.codeWith ⟨"ByteFieldsLaw", "row", "(LByteFields;I[J)I"⟩ method_9_code 4 (Option.some FieldType.int) [(0, 9, 12, 41)] ∈ bw_uw := bw_in (i := 588) (by decide +kernel) rfl
theorem w_587 : Cond.static ⟨"ByteFieldsLaw", "row", "(LByteFields;I[J)I"⟩ ∈ bw_uw := bw_in (i := 587) (by decide +kernel) rfl
theorem w_1291 : Cond.methodLink "ByteFieldsLaw" 180 ⟨"ByteFieldsModel", "row", "(I)I"⟩ ∈ bw_uw := bw_in (i := 1291) (by decide +kernel) rfl
theorem w_1294 : Cond.code ⟨"ByteFieldsModel", "row", "(I)I"⟩ prog_12_method_22_code 2 (Option.some FieldType.int) ∈ bw_uw := bw_in (i := 1294) (by decide +kernel) rfl
theorem w_1292 : Cond.instanceMethod ⟨"ByteFieldsModel", "row", "(I)I"⟩ ∈ bw_uw := bw_in (i := 1292) (by decide +kernel) rfl
theorem w_1293 : Cond.selects "ByteFieldsModel" ⟨"ByteFieldsModel", "row", "(I)I"⟩ ⟨"ByteFieldsModel", "row", "(I)I"⟩ ∈ bw_uw := bw_in (i := 1293) (by decide +kernel) rfl
theorem w_376 : Cond.methodLink "ByteFieldsLaw" 181 ⟨"ByteFields", "drop", "()I"⟩ ∈ bw_uw := bw_in (i := 376) (by decide +kernel) rfl
theorem w_379 : Cond.code ⟨"ByteFields", "drop", "()I"⟩ prog_1_method_11_code 2 (Option.some FieldType.int) ∈ bw_uw := bw_in (i := 379) (by decide +kernel) rfl
theorem w_377 : Cond.instanceMethod ⟨"ByteFields", "drop", "()I"⟩ ∈ bw_uw := bw_in (i := 377) (by decide +kernel) rfl
theorem w_378 : Cond.selects "ByteFields" ⟨"ByteFields", "drop", "()I"⟩ ⟨"ByteFields", "drop", "()I"⟩ ∈ bw_uw := bw_in (i := 378) (by decide +kernel) rfl
theorem w_1295 : Cond.methodLink "ByteFieldsLaw" 184 ⟨"ByteFieldsModel", "drop", "()I"⟩ ∈ bw_uw := bw_in (i := 1295) (by decide +kernel) rfl
theorem w_1298 : Cond.code ⟨"ByteFieldsModel", "drop", "()I"⟩ prog_12_method_23_code 2 (Option.some FieldType.int) ∈ bw_uw := bw_in (i := 1298) (by decide +kernel) rfl
theorem w_1296 : Cond.instanceMethod ⟨"ByteFieldsModel", "drop", "()I"⟩ ∈ bw_uw := bw_in (i := 1296) (by decide +kernel) rfl
theorem w_1297 : Cond.selects "ByteFieldsModel" ⟨"ByteFieldsModel", "drop", "()I"⟩ ⟨"ByteFieldsModel", "drop", "()I"⟩ ∈ bw_uw := bw_in (i := 1297) (by decide +kernel) rfl
theorem w_607 : Cond.methodLink "ByteFieldsLaw" 185 ⟨"ByteFieldsLaw", "matrix", "(LByteFields;II[J)I"⟩ ∈ bw_uw := bw_in (i := 607) (by decide +kernel) rfl
theorem w_609 : Cond.codeWith ⟨"ByteFieldsLaw", "matrix", "(LByteFields;II[J)I"⟩ method_10_code 5 (Option.some FieldType.int) [(0, 10, 13, 13), (0, 10, 17, 36)] ∈ bw_uw := bw_in (i := 609) (by decide +kernel) rfl
theorem w_608 : Cond.static ⟨"ByteFieldsLaw", "matrix", "(LByteFields;II[J)I"⟩ ∈ bw_uw := bw_in (i := 608) (by decide +kernel) rfl
theorem w_1299 : Cond.methodLink "ByteFieldsLaw" 187 ⟨"ByteFieldsModel", "matrix", "(II)I"⟩ ∈ bw_uw := bw_in (i := 1299) (by decide +kernel) rfl
theorem w_1302 : Cond.code ⟨"ByteFieldsModel", "matrix", "(II)I"⟩ prog_12_method_29_code 3 (Option.some FieldType.int) ∈ bw_uw := bw_in (i := 1302) (by decide +kernel) rfl
theorem w_1300 : Cond.instanceMethod ⟨"ByteFieldsModel", "matrix", "(II)I"⟩ ∈ bw_uw := bw_in (i := 1300) (by decide +kernel) rfl
theorem w_1301 : Cond.selects "ByteFieldsModel" ⟨"ByteFieldsModel", "matrix", "(II)I"⟩ ⟨"ByteFieldsModel", "matrix", "(II)I"⟩ ∈ bw_uw := bw_in (i := 1301) (by decide +kernel) rfl
theorem w_651 : Cond.methodLink "ByteFieldsLaw" 188 ⟨"ByteFieldsLaw", "powers", "(LByteFields;II[J)I"⟩ ∈ bw_uw := bw_in (i := 651) (by decide +kernel) rfl
theorem w_653 : Cond.codeWith ⟨"ByteFieldsLaw", "powers", "(LByteFields;II[J)I"⟩ method_11_code 5 (Option.some FieldType.int) [(0, 10, 13, 13), (0, 10, 17, 49), (0, 10, 21, 36)] ∈ bw_uw := bw_in (i := 653) (by decide +kernel) rfl
theorem w_652 : Cond.static ⟨"ByteFieldsLaw", "powers", "(LByteFields;II[J)I"⟩ ∈ bw_uw := bw_in (i := 652) (by decide +kernel) rfl
theorem w_1310 : Cond.methodLink "ByteFieldsLaw" 190 ⟨"ByteFieldsModel", "powers", "(II)I"⟩ ∈ bw_uw := bw_in (i := 1310) (by decide +kernel) rfl
theorem w_1313 : Cond.code ⟨"ByteFieldsModel", "powers", "(II)I"⟩ prog_12_method_30_code 6 (Option.some FieldType.int) ∈ bw_uw := bw_in (i := 1313) (by decide +kernel) rfl
theorem w_1311 : Cond.instanceMethod ⟨"ByteFieldsModel", "powers", "(II)I"⟩ ∈ bw_uw := bw_in (i := 1311) (by decide +kernel) rfl
theorem w_1312 : Cond.selects "ByteFieldsModel" ⟨"ByteFieldsModel", "powers", "(II)I"⟩ ⟨"ByteFieldsModel", "powers", "(II)I"⟩ ∈ bw_uw := bw_in (i := 1312) (by decide +kernel) rfl
theorem w_679 : Cond.methodLink "ByteFieldsLaw" 191 ⟨"ByteFieldsLaw", "sums", "(LByteFields;II[J)I"⟩ ∈ bw_uw := bw_in (i := 679) (by decide +kernel) rfl
theorem w_681 : Cond.codeWith ⟨"ByteFieldsLaw", "sums", "(LByteFields;II[J)I"⟩ method_12_code 5 (Option.some FieldType.int) [(0, 10, 13, 13), (0, 10, 17, 49), (0, 10, 21, 36)] ∈ bw_uw := bw_in (i := 681) (by decide +kernel) rfl
theorem w_680 : Cond.static ⟨"ByteFieldsLaw", "sums", "(LByteFields;II[J)I"⟩ ∈ bw_uw := bw_in (i := 680) (by decide +kernel) rfl
theorem w_1322 : Cond.methodLink "ByteFieldsLaw" 193 ⟨"ByteFieldsModel", "sums", "(II)I"⟩ ∈ bw_uw := bw_in (i := 1322) (by decide +kernel) rfl
theorem w_1325 : Cond.code ⟨"ByteFieldsModel", "sums", "(II)I"⟩ prog_12_method_31_code 6 (Option.some FieldType.int) ∈ bw_uw := bw_in (i := 1325) (by decide +kernel) rfl
theorem w_1323 : Cond.instanceMethod ⟨"ByteFieldsModel", "sums", "(II)I"⟩ ∈ bw_uw := bw_in (i := 1323) (by decide +kernel) rfl
theorem w_1324 : Cond.selects "ByteFieldsModel" ⟨"ByteFieldsModel", "sums", "(II)I"⟩ ⟨"ByteFieldsModel", "sums", "(II)I"⟩ ∈ bw_uw := bw_in (i := 1324) (by decide +kernel) rfl
theorem w_688 : Cond.methodLink "ByteFieldsLaw" 194 ⟨"ByteFieldsLaw", "size", "(LByteFields;II[J)I"⟩ ∈ bw_uw := bw_in (i := 688) (by decide +kernel) rfl
theorem w_690 : Cond.codeWith ⟨"ByteFieldsLaw", "size", "(LByteFields;II[J)I"⟩ method_13_code 5 (Option.some FieldType.int) [(0, 10, 13, 41), (0, 10, 17, 13)] ∈ bw_uw := bw_in (i := 690) (by decide +kernel) rfl
theorem w_689 : Cond.static ⟨"ByteFieldsLaw", "size", "(LByteFields;II[J)I"⟩ ∈ bw_uw := bw_in (i := 689) (by decide +kernel) rfl
theorem w_1326 : Cond.methodLink "ByteFieldsLaw" 196 ⟨"ByteFieldsModel", "size", "(II)I"⟩ ∈ bw_uw := bw_in (i := 1326) (by decide +kernel) rfl
theorem w_1329 : Cond.code ⟨"ByteFieldsModel", "size", "(II)I"⟩ prog_12_method_32_code 3 (Option.some FieldType.int) ∈ bw_uw := bw_in (i := 1329) (by decide +kernel) rfl
theorem w_1327 : Cond.instanceMethod ⟨"ByteFieldsModel", "size", "(II)I"⟩ ∈ bw_uw := bw_in (i := 1327) (by decide +kernel) rfl
theorem w_1328 : Cond.selects "ByteFieldsModel" ⟨"ByteFieldsModel", "size", "(II)I"⟩ ⟨"ByteFieldsModel", "size", "(II)I"⟩ ∈ bw_uw := bw_in (i := 1328) (by decide +kernel) rfl
theorem w_701 : Cond.methodLink "ByteFieldsLaw" 197 ⟨"ByteFieldsLaw", "cell", "(LByteFields;III[J)I"⟩ ∈ bw_uw := bw_in (i := 701) (by decide +kernel) rfl
theorem w_703 : Cond.codeWith ⟨"ByteFieldsLaw", "cell", "(LByteFields;III[J)I"⟩ method_14_code 6 (Option.some FieldType.int) [(0, 12, 15, 41)] ∈ bw_uw := bw_in (i := 703) (by decide +kernel) rfl
theorem w_702 : Cond.static ⟨"ByteFieldsLaw", "cell", "(LByteFields;III[J)I"⟩ ∈ bw_uw := bw_in (i := 702) (by decide +kernel) rfl
theorem w_1334 : Cond.methodLink "ByteFieldsLaw" 200 ⟨"ByteFieldsModel", "cell", "(III)I"⟩ ∈ bw_uw := bw_in (i := 1334) (by decide +kernel) rfl
theorem w_1337 : Cond.code ⟨"ByteFieldsModel", "cell", "(III)I"⟩ prog_12_method_34_code 4 (Option.some FieldType.int) ∈ bw_uw := bw_in (i := 1337) (by decide +kernel) rfl
theorem w_1335 : Cond.instanceMethod ⟨"ByteFieldsModel", "cell", "(III)I"⟩ ∈ bw_uw := bw_in (i := 1335) (by decide +kernel) rfl
theorem w_1336 : Cond.selects "ByteFieldsModel" ⟨"ByteFieldsModel", "cell", "(III)I"⟩ ⟨"ByteFieldsModel", "cell", "(III)I"⟩ ∈ bw_uw := bw_in (i := 1336) (by decide +kernel) rfl
theorem w_712 : Cond.methodLink "ByteFieldsLaw" 201 ⟨"ByteFieldsLaw", "set", "(LByteFields;IIII[J)I"⟩ ∈ bw_uw := bw_in (i := 712) (by decide +kernel) rfl
theorem w_714 : Cond.codeWith ⟨"ByteFieldsLaw", "set", "(LByteFields;IIII[J)I"⟩ method_15_code 7 (Option.some FieldType.int) [(0, 14, 17, 41), (0, 14, 21, 13)] ∈ bw_uw := bw_in (i := 714) (by decide +kernel) rfl
theorem w_713 : Cond.static ⟨"ByteFieldsLaw", "set", "(LByteFields;IIII[J)I"⟩ ∈ bw_uw := bw_in (i := 713) (by decide +kernel) rfl
theorem w_1342 : Cond.methodLink "ByteFieldsLaw" 204 ⟨"ByteFieldsModel", "set", "(IIII)I"⟩ ∈ bw_uw := bw_in (i := 1342) (by decide +kernel) rfl
theorem w_1345 : Cond.code ⟨"ByteFieldsModel", "set", "(IIII)I"⟩ prog_12_method_35_code 6 (Option.some FieldType.int) ∈ bw_uw := bw_in (i := 1345) (by decide +kernel) rfl
theorem w_1343 : Cond.instanceMethod ⟨"ByteFieldsModel", "set", "(IIII)I"⟩ ∈ bw_uw := bw_in (i := 1343) (by decide +kernel) rfl
theorem w_1344 : Cond.selects "ByteFieldsModel" ⟨"ByteFieldsModel", "set", "(IIII)I"⟩ ⟨"ByteFieldsModel", "set", "(IIII)I"⟩ ∈ bw_uw := bw_in (i := 1344) (by decide +kernel) rfl
theorem w_719 : Cond.methodLink "ByteFieldsLaw" 205 ⟨"ByteFieldsLaw", "times", "(LByteFields;II[J)I"⟩ ∈ bw_uw := bw_in (i := 719) (by decide +kernel) rfl
theorem w_721 : Cond.codeWith ⟨"ByteFieldsLaw", "times", "(LByteFields;II[J)I"⟩ method_16_code 5 (Option.some FieldType.int) [(0, 10, 13, 41), (0, 10, 17, 49), (0, 10, 21, 36)] ∈ bw_uw := bw_in (i := 721) (by decide +kernel) rfl
theorem w_720 : Cond.static ⟨"ByteFieldsLaw", "times", "(LByteFields;II[J)I"⟩ ∈ bw_uw := bw_in (i := 720) (by decide +kernel) rfl
theorem w_1346 : Cond.methodLink "ByteFieldsLaw" 207 ⟨"ByteFieldsModel", "times", "(II)I"⟩ ∈ bw_uw := bw_in (i := 1346) (by decide +kernel) rfl
theorem w_1349 : Cond.code ⟨"ByteFieldsModel", "times", "(II)I"⟩ prog_12_method_36_code 8 (Option.some FieldType.int) ∈ bw_uw := bw_in (i := 1349) (by decide +kernel) rfl
theorem w_1347 : Cond.instanceMethod ⟨"ByteFieldsModel", "times", "(II)I"⟩ ∈ bw_uw := bw_in (i := 1347) (by decide +kernel) rfl
theorem w_1348 : Cond.selects "ByteFieldsModel" ⟨"ByteFieldsModel", "times", "(II)I"⟩ ⟨"ByteFieldsModel", "times", "(II)I"⟩ ∈ bw_uw := bw_in (i := 1348) (by decide +kernel) rfl
theorem w_731 : Cond.methodLink "ByteFieldsLaw" 208 ⟨"ByteFieldsLaw", "invert", "(LByteFields;I[J)I"⟩ ∈ bw_uw := bw_in (i := 731) (by decide +kernel) rfl
theorem w_733 : Cond.codeWith ⟨"ByteFieldsLaw", "invert", "(LByteFields;I[J)I"⟩ method_17_code 4 (Option.some FieldType.int) [(0, 9, 12, 41), (0, 9, 15, 49), (0, 9, 18, 36)] ∈ bw_uw := bw_in (i := 733) (by decide +kernel) rfl
theorem w_732 : Cond.static ⟨"ByteFieldsLaw", "invert", "(LByteFields;I[J)I"⟩ ∈ bw_uw := bw_in (i := 732) (by decide +kernel) rfl
theorem w_1365 : Cond.methodLink "ByteFieldsLaw" 210 ⟨"ByteFieldsModel", "invert", "(I)I"⟩ ∈ bw_uw := bw_in (i := 1365) (by decide +kernel) rfl
theorem w_1368 : Cond.code ⟨"ByteFieldsModel", "invert", "(I)I"⟩ prog_12_method_41_code 8 (Option.some FieldType.int) ∈ bw_uw := bw_in (i := 1368) (by decide +kernel) rfl
theorem w_1366 : Cond.instanceMethod ⟨"ByteFieldsModel", "invert", "(I)I"⟩ ∈ bw_uw := bw_in (i := 1366) (by decide +kernel) rfl
theorem w_1367 : Cond.selects "ByteFieldsModel" ⟨"ByteFieldsModel", "invert", "(I)I"⟩ ⟨"ByteFieldsModel", "invert", "(I)I"⟩ ∈ bw_uw := bw_in (i := 1367) (by decide +kernel) rfl
theorem w_780 : Cond.methodLink "ByteFieldsLaw" 211 ⟨"ByteFieldsLaw", "rank", "(LByteFields;I[J)I"⟩ ∈ bw_uw := bw_in (i := 780) (by decide +kernel) rfl
theorem w_782 : Cond.codeWith ⟨"ByteFieldsLaw", "rank", "(LByteFields;I[J)I"⟩ method_18_code 4 (Option.some FieldType.int) [(0, 9, 12, 41)] ∈ bw_uw := bw_in (i := 782) (by decide +kernel) rfl
theorem w_781 : Cond.static ⟨"ByteFieldsLaw", "rank", "(LByteFields;I[J)I"⟩ ∈ bw_uw := bw_in (i := 781) (by decide +kernel) rfl
theorem w_1369 : Cond.methodLink "ByteFieldsLaw" 213 ⟨"ByteFieldsModel", "rank", "(I)I"⟩ ∈ bw_uw := bw_in (i := 1369) (by decide +kernel) rfl
theorem w_1372 : Cond.code ⟨"ByteFieldsModel", "rank", "(I)I"⟩ prog_12_method_42_code 5 (Option.some FieldType.int) ∈ bw_uw := bw_in (i := 1372) (by decide +kernel) rfl
theorem w_1370 : Cond.instanceMethod ⟨"ByteFieldsModel", "rank", "(I)I"⟩ ∈ bw_uw := bw_in (i := 1370) (by decide +kernel) rfl
theorem w_1371 : Cond.selects "ByteFieldsModel" ⟨"ByteFieldsModel", "rank", "(I)I"⟩ ⟨"ByteFieldsModel", "rank", "(I)I"⟩ ∈ bw_uw := bw_in (i := 1371) (by decide +kernel) rfl
theorem w_787 : Cond.methodLink "ByteFieldsLaw" 214 ⟨"ByteFieldsLaw", "determinant", "(LByteFields;I[J)I"⟩ ∈ bw_uw := bw_in (i := 787) (by decide +kernel) rfl
theorem w_789 : Cond.codeWith ⟨"ByteFieldsLaw", "determinant", "(LByteFields;I[J)I"⟩ method_19_code 4 (Option.some FieldType.int) [(0, 9, 12, 41), (0, 9, 15, 49)] ∈ bw_uw := bw_in (i := 789) (by decide +kernel) rfl
theorem w_788 : Cond.static ⟨"ByteFieldsLaw", "determinant", "(LByteFields;I[J)I"⟩ ∈ bw_uw := bw_in (i := 788) (by decide +kernel) rfl
theorem w_1361 : Cond.methodLink "ByteFieldsLaw" 216 ⟨"ByteFieldsModel", "determinant", "(I)I"⟩ ∈ bw_uw := bw_in (i := 1361) (by decide +kernel) rfl
theorem w_1364 : Cond.code ⟨"ByteFieldsModel", "determinant", "(I)I"⟩ prog_12_method_40_code 3 (Option.some FieldType.int) ∈ bw_uw := bw_in (i := 1364) (by decide +kernel) rfl
theorem w_1362 : Cond.instanceMethod ⟨"ByteFieldsModel", "determinant", "(I)I"⟩ ∈ bw_uw := bw_in (i := 1362) (by decide +kernel) rfl
theorem w_1363 : Cond.selects "ByteFieldsModel" ⟨"ByteFieldsModel", "determinant", "(I)I"⟩ ⟨"ByteFieldsModel", "determinant", "(I)I"⟩ ∈ bw_uw := bw_in (i := 1363) (by decide +kernel) rfl
theorem w_794 : Cond.methodLink "ByteFieldsLaw" 217 ⟨"ByteFieldsLaw", "singular", "(LByteFields;I[J)I"⟩ ∈ bw_uw := bw_in (i := 794) (by decide +kernel) rfl
theorem w_796 : Cond.codeWith ⟨"ByteFieldsLaw", "singular", "(LByteFields;I[J)I"⟩ method_20_code 4 (Option.some FieldType.int) [(0, 9, 12, 41)] ∈ bw_uw := bw_in (i := 796) (by decide +kernel) rfl
theorem w_795 : Cond.static ⟨"ByteFieldsLaw", "singular", "(LByteFields;I[J)I"⟩ ∈ bw_uw := bw_in (i := 795) (by decide +kernel) rfl
theorem w_1350 : Cond.methodLink "ByteFieldsLaw" 219 ⟨"ByteFieldsModel", "singular", "(I)I"⟩ ∈ bw_uw := bw_in (i := 1350) (by decide +kernel) rfl
theorem w_1353 : Cond.code ⟨"ByteFieldsModel", "singular", "(I)I"⟩ prog_12_method_39_code 5 (Option.some FieldType.int) ∈ bw_uw := bw_in (i := 1353) (by decide +kernel) rfl
theorem w_1351 : Cond.instanceMethod ⟨"ByteFieldsModel", "singular", "(I)I"⟩ ∈ bw_uw := bw_in (i := 1351) (by decide +kernel) rfl
theorem w_1352 : Cond.selects "ByteFieldsModel" ⟨"ByteFieldsModel", "singular", "(I)I"⟩ ⟨"ByteFieldsModel", "singular", "(I)I"⟩ ∈ bw_uw := bw_in (i := 1352) (by decide +kernel) rfl
theorem w_823 : Cond.methodLink "ByteFieldsLaw" 220 ⟨"ByteFieldsLaw", "solve", "(LByteFields;I[J)I"⟩ ∈ bw_uw := bw_in (i := 823) (by decide +kernel) rfl
theorem w_825 : Cond.codeWith ⟨"ByteFieldsLaw", "solve", "(LByteFields;I[J)I"⟩ method_21_code 4 (Option.some FieldType.int) [(0, 9, 12, 41), (0, 9, 15, 49)] ∈ bw_uw := bw_in (i := 825) (by decide +kernel) rfl
theorem w_824 : Cond.static ⟨"ByteFieldsLaw", "solve", "(LByteFields;I[J)I"⟩ ∈ bw_uw := bw_in (i := 824) (by decide +kernel) rfl
theorem w_1373 : Cond.methodLink "ByteFieldsLaw" 222 ⟨"ByteFieldsModel", "solve", "(I)I"⟩ ∈ bw_uw := bw_in (i := 1373) (by decide +kernel) rfl
theorem w_1376 : Cond.code ⟨"ByteFieldsModel", "solve", "(I)I"⟩ prog_12_method_43_code 11 (Option.some FieldType.int) ∈ bw_uw := bw_in (i := 1376) (by decide +kernel) rfl
theorem w_1374 : Cond.instanceMethod ⟨"ByteFieldsModel", "solve", "(I)I"⟩ ∈ bw_uw := bw_in (i := 1374) (by decide +kernel) rfl
theorem w_1375 : Cond.selects "ByteFieldsModel" ⟨"ByteFieldsModel", "solve", "(I)I"⟩ ⟨"ByteFieldsModel", "solve", "(I)I"⟩ ∈ bw_uw := bw_in (i := 1375) (by decide +kernel) rfl
theorem w_843 : Cond.methodLink "ByteFieldsLaw" 223 ⟨"ByteFieldsLaw", "polynomial", "(LByteFields;[J)I"⟩ ∈ bw_uw := bw_in (i := 843) (by decide +kernel) rfl
theorem w_845 : Cond.codeWith ⟨"ByteFieldsLaw", "polynomial", "(LByteFields;[J)I"⟩ method_22_code 3 (Option.some FieldType.int) [(0, 8, 11, 36)] ∈ bw_uw := bw_in (i := 845) (by decide +kernel) rfl
theorem w_844 : Cond.static ⟨"ByteFieldsLaw", "polynomial", "(LByteFields;[J)I"⟩ ∈ bw_uw := bw_in (i := 844) (by decide +kernel) rfl
theorem w_1377 : Cond.methodLink "ByteFieldsLaw" 226 ⟨"ByteFieldsModel", "polynomial", "()I"⟩ ∈ bw_uw := bw_in (i := 1377) (by decide +kernel) rfl
theorem w_1380 : Cond.code ⟨"ByteFieldsModel", "polynomial", "()I"⟩ prog_12_method_51_code 2 (Option.some FieldType.int) ∈ bw_uw := bw_in (i := 1380) (by decide +kernel) rfl
theorem w_1378 : Cond.instanceMethod ⟨"ByteFieldsModel", "polynomial", "()I"⟩ ∈ bw_uw := bw_in (i := 1378) (by decide +kernel) rfl
theorem w_1379 : Cond.selects "ByteFieldsModel" ⟨"ByteFieldsModel", "polynomial", "()I"⟩ ⟨"ByteFieldsModel", "polynomial", "()I"⟩ ∈ bw_uw := bw_in (i := 1379) (by decide +kernel) rfl
theorem w_878 : Cond.methodLink "ByteFieldsLaw" 227 ⟨"ByteFieldsLaw", "through", "(LByteFields;[J)I"⟩ ∈ bw_uw := bw_in (i := 878) (by decide +kernel) rfl
theorem w_880 : Cond.codeWith ⟨"ByteFieldsLaw", "through", "(LByteFields;[J)I"⟩ method_23_code 3 (Option.some FieldType.int) [(0, 8, 11, 49), (0, 8, 14, 36)] ∈ bw_uw := bw_in (i := 880) (by decide +kernel) rfl
theorem w_879 : Cond.static ⟨"ByteFieldsLaw", "through", "(LByteFields;[J)I"⟩ ∈ bw_uw := bw_in (i := 879) (by decide +kernel) rfl
theorem w_1391 : Cond.methodLink "ByteFieldsLaw" 229 ⟨"ByteFieldsModel", "through", "()I"⟩ ∈ bw_uw := bw_in (i := 1391) (by decide +kernel) rfl
theorem w_1394 : Cond.code ⟨"ByteFieldsModel", "through", "()I"⟩ prog_12_method_54_code 2 (Option.some FieldType.int) ∈ bw_uw := bw_in (i := 1394) (by decide +kernel) rfl
theorem w_1392 : Cond.instanceMethod ⟨"ByteFieldsModel", "through", "()I"⟩ ∈ bw_uw := bw_in (i := 1392) (by decide +kernel) rfl
theorem w_1393 : Cond.selects "ByteFieldsModel" ⟨"ByteFieldsModel", "through", "()I"⟩ ⟨"ByteFieldsModel", "through", "()I"⟩ ∈ bw_uw := bw_in (i := 1393) (by decide +kernel) rfl
theorem w_902 : Cond.methodLink "ByteFieldsLaw" 230 ⟨"ByteFieldsLaw", "degree", "(LByteFields;I[J)I"⟩ ∈ bw_uw := bw_in (i := 902) (by decide +kernel) rfl
theorem w_904 : Cond.codeWith ⟨"ByteFieldsLaw", "degree", "(LByteFields;I[J)I"⟩ method_24_code 4 (Option.some FieldType.int) [(0, 9, 12, 41)] ∈ bw_uw := bw_in (i := 904) (by decide +kernel) rfl
theorem w_903 : Cond.static ⟨"ByteFieldsLaw", "degree", "(LByteFields;I[J)I"⟩ ∈ bw_uw := bw_in (i := 903) (by decide +kernel) rfl
theorem w_1407 : Cond.methodLink "ByteFieldsLaw" 232 ⟨"ByteFieldsModel", "degree", "(I)I"⟩ ∈ bw_uw := bw_in (i := 1407) (by decide +kernel) rfl
theorem w_1410 : Cond.code ⟨"ByteFieldsModel", "degree", "(I)I"⟩ prog_12_method_55_code 2 (Option.some FieldType.int) ∈ bw_uw := bw_in (i := 1410) (by decide +kernel) rfl
theorem w_1408 : Cond.instanceMethod ⟨"ByteFieldsModel", "degree", "(I)I"⟩ ∈ bw_uw := bw_in (i := 1408) (by decide +kernel) rfl
theorem w_1409 : Cond.selects "ByteFieldsModel" ⟨"ByteFieldsModel", "degree", "(I)I"⟩ ⟨"ByteFieldsModel", "degree", "(I)I"⟩ ∈ bw_uw := bw_in (i := 1409) (by decide +kernel) rfl
theorem w_914 : Cond.methodLink "ByteFieldsLaw" 233 ⟨"ByteFieldsLaw", "coefficient", "(LByteFields;II[J)I"⟩ ∈ bw_uw := bw_in (i := 914) (by decide +kernel) rfl
theorem w_916 : Cond.codeWith ⟨"ByteFieldsLaw", "coefficient", "(LByteFields;II[J)I"⟩ method_25_code 5 (Option.some FieldType.int) [(0, 10, 13, 41)] ∈ bw_uw := bw_in (i := 916) (by decide +kernel) rfl
theorem w_915 : Cond.static ⟨"ByteFieldsLaw", "coefficient", "(LByteFields;II[J)I"⟩ ∈ bw_uw := bw_in (i := 915) (by decide +kernel) rfl
theorem w_1415 : Cond.methodLink "ByteFieldsLaw" 235 ⟨"ByteFieldsModel", "coefficient", "(II)I"⟩ ∈ bw_uw := bw_in (i := 1415) (by decide +kernel) rfl
theorem w_1418 : Cond.code ⟨"ByteFieldsModel", "coefficient", "(II)I"⟩ prog_12_method_56_code 3 (Option.some FieldType.int) ∈ bw_uw := bw_in (i := 1418) (by decide +kernel) rfl
theorem w_1416 : Cond.instanceMethod ⟨"ByteFieldsModel", "coefficient", "(II)I"⟩ ∈ bw_uw := bw_in (i := 1416) (by decide +kernel) rfl
theorem w_1417 : Cond.selects "ByteFieldsModel" ⟨"ByteFieldsModel", "coefficient", "(II)I"⟩ ⟨"ByteFieldsModel", "coefficient", "(II)I"⟩ ∈ bw_uw := bw_in (i := 1417) (by decide +kernel) rfl
theorem w_922 : Cond.methodLink "ByteFieldsLaw" 236 ⟨"ByteFieldsLaw", "value", "(LByteFields;II[J)I"⟩ ∈ bw_uw := bw_in (i := 922) (by decide +kernel) rfl
theorem w_924 : Cond.codeWith ⟨"ByteFieldsLaw", "value", "(LByteFields;II[J)I"⟩ method_26_code 5 (Option.some FieldType.int) [(0, 10, 13, 41), (0, 10, 17, 13)] ∈ bw_uw := bw_in (i := 924) (by decide +kernel) rfl
theorem w_923 : Cond.static ⟨"ByteFieldsLaw", "value", "(LByteFields;II[J)I"⟩ ∈ bw_uw := bw_in (i := 923) (by decide +kernel) rfl
theorem w_1419 : Cond.methodLink "ByteFieldsLaw" 238 ⟨"ByteFieldsModel", "value", "(II)I"⟩ ∈ bw_uw := bw_in (i := 1419) (by decide +kernel) rfl
theorem w_1422 : Cond.code ⟨"ByteFieldsModel", "value", "(II)I"⟩ prog_12_method_57_code 3 (Option.some FieldType.int) ∈ bw_uw := bw_in (i := 1422) (by decide +kernel) rfl
theorem w_1420 : Cond.instanceMethod ⟨"ByteFieldsModel", "value", "(II)I"⟩ ∈ bw_uw := bw_in (i := 1420) (by decide +kernel) rfl
theorem w_1421 : Cond.selects "ByteFieldsModel" ⟨"ByteFieldsModel", "value", "(II)I"⟩ ⟨"ByteFieldsModel", "value", "(II)I"⟩ ∈ bw_uw := bw_in (i := 1421) (by decide +kernel) rfl
theorem w_933 : Cond.methodLink "ByteFieldsLaw" 239 ⟨"ByteFieldsLaw", "plus", "(LByteFields;II[J)I"⟩ ∈ bw_uw := bw_in (i := 933) (by decide +kernel) rfl
theorem w_935 : Cond.codeWith ⟨"ByteFieldsLaw", "plus", "(LByteFields;II[J)I"⟩ method_27_code 5 (Option.some FieldType.int) [(0, 10, 13, 41), (0, 10, 17, 36)] ∈ bw_uw := bw_in (i := 935) (by decide +kernel) rfl
theorem w_934 : Cond.static ⟨"ByteFieldsLaw", "plus", "(LByteFields;II[J)I"⟩ ∈ bw_uw := bw_in (i := 934) (by decide +kernel) rfl
theorem w_1427 : Cond.methodLink "ByteFieldsLaw" 241 ⟨"ByteFieldsModel", "plus", "(II)I"⟩ ∈ bw_uw := bw_in (i := 1427) (by decide +kernel) rfl
theorem w_1430 : Cond.code ⟨"ByteFieldsModel", "plus", "(II)I"⟩ prog_12_method_58_code 4 (Option.some FieldType.int) ∈ bw_uw := bw_in (i := 1430) (by decide +kernel) rfl
theorem w_1428 : Cond.instanceMethod ⟨"ByteFieldsModel", "plus", "(II)I"⟩ ∈ bw_uw := bw_in (i := 1428) (by decide +kernel) rfl
theorem w_1429 : Cond.selects "ByteFieldsModel" ⟨"ByteFieldsModel", "plus", "(II)I"⟩ ⟨"ByteFieldsModel", "plus", "(II)I"⟩ ∈ bw_uw := bw_in (i := 1429) (by decide +kernel) rfl
theorem w_948 : Cond.methodLink "ByteFieldsLaw" 242 ⟨"ByteFieldsLaw", "multiply", "(LByteFields;II[J)I"⟩ ∈ bw_uw := bw_in (i := 948) (by decide +kernel) rfl
theorem w_950 : Cond.codeWith ⟨"ByteFieldsLaw", "multiply", "(LByteFields;II[J)I"⟩ method_28_code 5 (Option.some FieldType.int) [(0, 10, 13, 41), (0, 10, 17, 36)] ∈ bw_uw := bw_in (i := 950) (by decide +kernel) rfl
theorem w_949 : Cond.static ⟨"ByteFieldsLaw", "multiply", "(LByteFields;II[J)I"⟩ ∈ bw_uw := bw_in (i := 949) (by decide +kernel) rfl
theorem w_1431 : Cond.methodLink "ByteFieldsLaw" 244 ⟨"ByteFieldsModel", "multiply", "(II)I"⟩ ∈ bw_uw := bw_in (i := 1431) (by decide +kernel) rfl
theorem w_1434 : Cond.code ⟨"ByteFieldsModel", "multiply", "(II)I"⟩ prog_12_method_59_code 5 (Option.some FieldType.int) ∈ bw_uw := bw_in (i := 1434) (by decide +kernel) rfl
theorem w_1432 : Cond.instanceMethod ⟨"ByteFieldsModel", "multiply", "(II)I"⟩ ∈ bw_uw := bw_in (i := 1432) (by decide +kernel) rfl
theorem w_1433 : Cond.selects "ByteFieldsModel" ⟨"ByteFieldsModel", "multiply", "(II)I"⟩ ⟨"ByteFieldsModel", "multiply", "(II)I"⟩ ∈ bw_uw := bw_in (i := 1433) (by decide +kernel) rfl
theorem w_957 : Cond.methodLink "ByteFieldsLaw" 245 ⟨"ByteFieldsLaw", "divide", "(LByteFields;IIZ[J)I"⟩ ∈ bw_uw := bw_in (i := 957) (by decide +kernel) rfl
theorem w_959 : Cond.codeWith ⟨"ByteFieldsLaw", "divide", "(LByteFields;IIZ[J)I"⟩ method_29_code 6 (Option.some FieldType.int) [(0, 12, 15, 41), (0, 12, 19, 18), (0, 12, 23, 36)] ∈ bw_uw := bw_in (i := 959) (by decide +kernel) rfl
theorem w_958 : Cond.static ⟨"ByteFieldsLaw", "divide", "(LByteFields;IIZ[J)I"⟩ ∈ bw_uw := bw_in (i := 958) (by decide +kernel) rfl
theorem w_1435 : Cond.methodLink "ByteFieldsLaw" 248 ⟨"ByteFieldsModel", "divide", "(IIZ)I"⟩ ∈ bw_uw := bw_in (i := 1435) (by decide +kernel) rfl
theorem w_1438 : Cond.code ⟨"ByteFieldsModel", "divide", "(IIZ)I"⟩ prog_12_method_61_code 4 (Option.some FieldType.int) ∈ bw_uw := bw_in (i := 1438) (by decide +kernel) rfl
theorem w_1436 : Cond.instanceMethod ⟨"ByteFieldsModel", "divide", "(IIZ)I"⟩ ∈ bw_uw := bw_in (i := 1436) (by decide +kernel) rfl
theorem w_1437 : Cond.selects "ByteFieldsModel" ⟨"ByteFieldsModel", "divide", "(IIZ)I"⟩ ⟨"ByteFieldsModel", "divide", "(IIZ)I"⟩ ∈ bw_uw := bw_in (i := 1437) (by decide +kernel) rfl
theorem w_986 : Cond.methodLink "ByteFieldsLaw" 249 ⟨"ByteFieldsLaw", "common", "(LByteFields;II[J)I"⟩ ∈ bw_uw := bw_in (i := 986) (by decide +kernel) rfl
theorem w_988 : Cond.codeWith ⟨"ByteFieldsLaw", "common", "(LByteFields;II[J)I"⟩ method_30_code 5 (Option.some FieldType.int) [(0, 10, 13, 41), (0, 10, 17, 36)] ∈ bw_uw := bw_in (i := 988) (by decide +kernel) rfl
theorem w_987 : Cond.static ⟨"ByteFieldsLaw", "common", "(LByteFields;II[J)I"⟩ ∈ bw_uw := bw_in (i := 987) (by decide +kernel) rfl
theorem w_1443 : Cond.methodLink "ByteFieldsLaw" 251 ⟨"ByteFieldsModel", "common", "(II)I"⟩ ∈ bw_uw := bw_in (i := 1443) (by decide +kernel) rfl
theorem w_1446 : Cond.code ⟨"ByteFieldsModel", "common", "(II)I"⟩ prog_12_method_63_code 3 (Option.some FieldType.int) ∈ bw_uw := bw_in (i := 1446) (by decide +kernel) rfl
theorem w_1444 : Cond.instanceMethod ⟨"ByteFieldsModel", "common", "(II)I"⟩ ∈ bw_uw := bw_in (i := 1444) (by decide +kernel) rfl
theorem w_1445 : Cond.selects "ByteFieldsModel" ⟨"ByteFieldsModel", "common", "(II)I"⟩ ⟨"ByteFieldsModel", "common", "(II)I"⟩ ∈ bw_uw := bw_in (i := 1445) (by decide +kernel) rfl
theorem w_1000 : Cond.methodLink "ByteFieldsLaw" 252 ⟨"ByteFieldsLaw", "root", "(LByteFields;II[J)I"⟩ ∈ bw_uw := bw_in (i := 1000) (by decide +kernel) rfl
theorem w_1002 : Cond.codeWith ⟨"ByteFieldsLaw", "root", "(LByteFields;II[J)I"⟩ method_31_code 5 (Option.some FieldType.int) [(0, 10, 13, 41)] ∈ bw_uw := bw_in (i := 1002) (by decide +kernel) rfl
theorem w_1001 : Cond.static ⟨"ByteFieldsLaw", "root", "(LByteFields;II[J)I"⟩ ∈ bw_uw := bw_in (i := 1001) (by decide +kernel) rfl
theorem w_1454 : Cond.methodLink "ByteFieldsLaw" 254 ⟨"ByteFieldsModel", "root", "(II)I"⟩ ∈ bw_uw := bw_in (i := 1454) (by decide +kernel) rfl
theorem w_1457 : Cond.code ⟨"ByteFieldsModel", "root", "(II)I"⟩ prog_12_method_64_code 4 (Option.some FieldType.int) ∈ bw_uw := bw_in (i := 1457) (by decide +kernel) rfl
theorem w_1455 : Cond.instanceMethod ⟨"ByteFieldsModel", "root", "(II)I"⟩ ∈ bw_uw := bw_in (i := 1455) (by decide +kernel) rfl
theorem w_1456 : Cond.selects "ByteFieldsModel" ⟨"ByteFieldsModel", "root", "(II)I"⟩ ⟨"ByteFieldsModel", "root", "(II)I"⟩ ∈ bw_uw := bw_in (i := 1456) (by decide +kernel) rfl
theorem w_1038 : Cond.methodLink "ByteFieldsLaw" 255 ⟨"ByteFieldsLaw", "often", "(LByteFields;II[J)I"⟩ ∈ bw_uw := bw_in (i := 1038) (by decide +kernel) rfl
theorem w_1040 : Cond.codeWith ⟨"ByteFieldsLaw", "often", "(LByteFields;II[J)I"⟩ method_32_code 5 (Option.some FieldType.int) [(0, 10, 13, 41), (0, 10, 17, 13)] ∈ bw_uw := bw_in (i := 1040) (by decide +kernel) rfl
theorem w_1039 : Cond.static ⟨"ByteFieldsLaw", "often", "(LByteFields;II[J)I"⟩ ∈ bw_uw := bw_in (i := 1039) (by decide +kernel) rfl
theorem w_1458 : Cond.methodLink "ByteFieldsLaw" 257 ⟨"ByteFieldsModel", "often", "(II)I"⟩ ∈ bw_uw := bw_in (i := 1458) (by decide +kernel) rfl
theorem w_1461 : Cond.code ⟨"ByteFieldsModel", "often", "(II)I"⟩ prog_12_method_65_code 4 (Option.some FieldType.int) ∈ bw_uw := bw_in (i := 1461) (by decide +kernel) rfl
theorem w_1459 : Cond.instanceMethod ⟨"ByteFieldsModel", "often", "(II)I"⟩ ∈ bw_uw := bw_in (i := 1459) (by decide +kernel) rfl
theorem w_1460 : Cond.selects "ByteFieldsModel" ⟨"ByteFieldsModel", "often", "(II)I"⟩ ⟨"ByteFieldsModel", "often", "(II)I"⟩ ∈ bw_uw := bw_in (i := 1460) (by decide +kernel) rfl
theorem w_1049 : Cond.methodLink "ByteFieldsLaw" 258 ⟨"ByteFieldsLaw", "parts", "(LByteFields;II[J)I"⟩ ∈ bw_uw := bw_in (i := 1049) (by decide +kernel) rfl
theorem w_1051 : Cond.codeWith ⟨"ByteFieldsLaw", "parts", "(LByteFields;II[J)I"⟩ method_33_code 5 (Option.some FieldType.int) [(0, 10, 13, 41), (0, 10, 17, 13)] ∈ bw_uw := bw_in (i := 1051) (by decide +kernel) rfl
theorem w_1050 : Cond.static ⟨"ByteFieldsLaw", "parts", "(LByteFields;II[J)I"⟩ ∈ bw_uw := bw_in (i := 1050) (by decide +kernel) rfl
theorem w_1462 : Cond.methodLink "ByteFieldsLaw" 260 ⟨"ByteFieldsModel", "parts", "(II)I"⟩ ∈ bw_uw := bw_in (i := 1462) (by decide +kernel) rfl
theorem w_1465 : Cond.code ⟨"ByteFieldsModel", "parts", "(II)I"⟩ prog_12_method_68_code 3 (Option.some FieldType.int) ∈ bw_uw := bw_in (i := 1465) (by decide +kernel) rfl
theorem w_1463 : Cond.instanceMethod ⟨"ByteFieldsModel", "parts", "(II)I"⟩ ∈ bw_uw := bw_in (i := 1463) (by decide +kernel) rfl
theorem w_1464 : Cond.selects "ByteFieldsModel" ⟨"ByteFieldsModel", "parts", "(II)I"⟩ ⟨"ByteFieldsModel", "parts", "(II)I"⟩ ∈ bw_uw := bw_in (i := 1464) (by decide +kernel) rfl
theorem w_1072 : Cond.methodLink "ByteFieldsLaw" 261 ⟨"ByteFieldsLaw", "span", "(LByteFields;[J)I"⟩ ∈ bw_uw := bw_in (i := 1072) (by decide +kernel) rfl
theorem w_1074 : Cond.codeWith ⟨"ByteFieldsLaw", "span", "(LByteFields;[J)I"⟩ method_34_code 3 (Option.some FieldType.int) [(0, 8, 11, 49)] ∈ bw_uw := bw_in (i := 1074) (by decide +kernel) rfl
theorem w_1073 : Cond.static ⟨"ByteFieldsLaw", "span", "(LByteFields;[J)I"⟩ ∈ bw_uw := bw_in (i := 1073) (by decide +kernel) rfl
theorem w_1474 : Cond.methodLink "ByteFieldsLaw" 263 ⟨"ByteFieldsModel", "span", "()I"⟩ ∈ bw_uw := bw_in (i := 1474) (by decide +kernel) rfl
theorem w_1477 : Cond.code ⟨"ByteFieldsModel", "span", "()I"⟩ prog_12_method_69_code 5 (Option.some FieldType.int) ∈ bw_uw := bw_in (i := 1477) (by decide +kernel) rfl
theorem w_1475 : Cond.instanceMethod ⟨"ByteFieldsModel", "span", "()I"⟩ ∈ bw_uw := bw_in (i := 1475) (by decide +kernel) rfl
theorem w_1476 : Cond.selects "ByteFieldsModel" ⟨"ByteFieldsModel", "span", "()I"⟩ ⟨"ByteFieldsModel", "span", "()I"⟩ ∈ bw_uw := bw_in (i := 1476) (by decide +kernel) rfl
theorem w_1088 : Cond.methodLink "ByteFieldsLaw" 264 ⟨"ByteFieldsLaw", "forth", "(LByteFields;I[J)I"⟩ ∈ bw_uw := bw_in (i := 1088) (by decide +kernel) rfl
theorem w_1090 : Cond.codeWith ⟨"ByteFieldsLaw", "forth", "(LByteFields;I[J)I"⟩ method_35_code 4 (Option.some FieldType.int) [(0, 9, 12, 41), (0, 9, 15, 49)] ∈ bw_uw := bw_in (i := 1090) (by decide +kernel) rfl
theorem w_1089 : Cond.static ⟨"ByteFieldsLaw", "forth", "(LByteFields;I[J)I"⟩ ∈ bw_uw := bw_in (i := 1089) (by decide +kernel) rfl
theorem w_1478 : Cond.methodLink "ByteFieldsLaw" 266 ⟨"ByteFieldsModel", "forth", "(I)I"⟩ ∈ bw_uw := bw_in (i := 1478) (by decide +kernel) rfl
theorem w_1481 : Cond.code ⟨"ByteFieldsModel", "forth", "(I)I"⟩ prog_12_method_70_code 3 (Option.some FieldType.int) ∈ bw_uw := bw_in (i := 1481) (by decide +kernel) rfl
theorem w_1479 : Cond.instanceMethod ⟨"ByteFieldsModel", "forth", "(I)I"⟩ ∈ bw_uw := bw_in (i := 1479) (by decide +kernel) rfl
theorem w_1480 : Cond.selects "ByteFieldsModel" ⟨"ByteFieldsModel", "forth", "(I)I"⟩ ⟨"ByteFieldsModel", "forth", "(I)I"⟩ ∈ bw_uw := bw_in (i := 1480) (by decide +kernel) rfl
theorem w_1100 : Cond.methodLink "ByteFieldsLaw" 267 ⟨"ByteFieldsLaw", "back", "(LByteFields;[J)I"⟩ ∈ bw_uw := bw_in (i := 1100) (by decide +kernel) rfl
theorem w_1102 : Cond.codeWith ⟨"ByteFieldsLaw", "back", "(LByteFields;[J)I"⟩ method_36_code 3 (Option.some FieldType.int) [(0, 8, 11, 49), (0, 8, 14, 36)] ∈ bw_uw := bw_in (i := 1102) (by decide +kernel) rfl
theorem w_1101 : Cond.static ⟨"ByteFieldsLaw", "back", "(LByteFields;[J)I"⟩ ∈ bw_uw := bw_in (i := 1101) (by decide +kernel) rfl
theorem w_1482 : Cond.methodLink "ByteFieldsLaw" 269 ⟨"ByteFieldsModel", "back", "()I"⟩ ∈ bw_uw := bw_in (i := 1482) (by decide +kernel) rfl
theorem w_1485 : Cond.code ⟨"ByteFieldsModel", "back", "()I"⟩ prog_12_method_71_code 2 (Option.some FieldType.int) ∈ bw_uw := bw_in (i := 1485) (by decide +kernel) rfl
theorem w_1483 : Cond.instanceMethod ⟨"ByteFieldsModel", "back", "()I"⟩ ∈ bw_uw := bw_in (i := 1483) (by decide +kernel) rfl
theorem w_1484 : Cond.selects "ByteFieldsModel" ⟨"ByteFieldsModel", "back", "()I"⟩ ⟨"ByteFieldsModel", "back", "()I"⟩ ∈ bw_uw := bw_in (i := 1484) (by decide +kernel) rfl
theorem w_1108 : Cond.methodLink "ByteFieldsLaw" 270 ⟨"ByteFieldsLaw", "told", "(LByteFields;I[J)I"⟩ ∈ bw_uw := bw_in (i := 1108) (by decide +kernel) rfl
theorem w_1110 : Cond.codeWith ⟨"ByteFieldsLaw", "told", "(LByteFields;I[J)I"⟩ method_37_code 4 (Option.some FieldType.int) [(0, 9, 12, 13)] ∈ bw_uw := bw_in (i := 1110) (by decide +kernel) rfl
theorem w_1109 : Cond.static ⟨"ByteFieldsLaw", "told", "(LByteFields;I[J)I"⟩ ∈ bw_uw := bw_in (i := 1109) (by decide +kernel) rfl
theorem w_1486 : Cond.methodLink "ByteFieldsLaw" 272 ⟨"ByteFieldsModel", "told", "(I)I"⟩ ∈ bw_uw := bw_in (i := 1486) (by decide +kernel) rfl
theorem w_1489 : Cond.code ⟨"ByteFieldsModel", "told", "(I)I"⟩ prog_12_method_72_code 2 (Option.some FieldType.int) ∈ bw_uw := bw_in (i := 1489) (by decide +kernel) rfl
theorem w_1487 : Cond.instanceMethod ⟨"ByteFieldsModel", "told", "(I)I"⟩ ∈ bw_uw := bw_in (i := 1487) (by decide +kernel) rfl
theorem w_1488 : Cond.selects "ByteFieldsModel" ⟨"ByteFieldsModel", "told", "(I)I"⟩ ⟨"ByteFieldsModel", "told", "(I)I"⟩ ∈ bw_uw := bw_in (i := 1488) (by decide +kernel) rfl
theorem w_229 : Cond.methodLink "ByteFields$Division" 3 ⟨"java/lang/Object", "<init>", "()V"⟩ ∈ bw_uw := bw_in (i := 229) (by decide +kernel) rfl
theorem w_184 : Cond.methodLink "ByteFields$Elimination" 3 ⟨"java/lang/Object", "<init>", "()V"⟩ ∈ bw_uw := bw_in (i := 184) (by decide +kernel) rfl
theorem w_746 : Cond.methodLink "ByteFields$Elimination" 41 ⟨"java/lang/System", "arraycopy", "(Ljava/lang/Object;ILjava/lang/Object;II)V"⟩ ∈ bw_uw := bw_in (i := 746) (by decide +kernel) rfl
theorem w_294 : Cond.methodLink "ByteFields$Factors" 3 ⟨"java/lang/Object", "<init>", "()V"⟩ ∈ bw_uw := bw_in (i := 294) (by decide +kernel) rfl
theorem w_120 : Cond.methodLink "ByteFields$Field" 1 ⟨"java/lang/Object", "<init>", "()V"⟩ ∈ bw_uw := bw_in (i := 120) (by decide +kernel) rfl
theorem w_239 : Cond.methodLink "ByteFields$Interpolation" 3 ⟨"java/lang/Object", "<init>", "()V"⟩ ∈ bw_uw := bw_in (i := 239) (by decide +kernel) rfl
theorem w_627 : Cond.methodLink "ByteFields$Matrix" 1 ⟨"java/lang/Object", "<init>", "()V"⟩ ∈ bw_uw := bw_in (i := 627) (by decide +kernel) rfl
theorem w_215 : Cond.methodLink "ByteFields$Minors" 3 ⟨"java/lang/Object", "<init>", "()V"⟩ ∈ bw_uw := bw_in (i := 215) (by decide +kernel) rfl
theorem w_90 : Cond.methodLink "ByteFields$Polynomial" 3 ⟨"java/lang/Object", "<init>", "()V"⟩ ∈ bw_uw := bw_in (i := 90) (by decide +kernel) rfl
theorem w_864 : Cond.methodLink "ByteFields$Polynomial" 25 ⟨"java/lang/System", "arraycopy", "(Ljava/lang/Object;ILjava/lang/Object;II)V"⟩ ∈ bw_uw := bw_in (i := 864) (by decide +kernel) rfl
theorem w_255 : Cond.methodLink "ByteFields$Roots" 3 ⟨"java/lang/Object", "<init>", "()V"⟩ ∈ bw_uw := bw_in (i := 255) (by decide +kernel) rfl
theorem w_82 : Cond.methodLink "ByteFields" 3 ⟨"java/lang/Object", "<init>", "()V"⟩ ∈ bw_uw := bw_in (i := 82) (by decide +kernel) rfl
theorem w_1125 : Cond.methodLink "ByteFieldsModel" 7 ⟨"java/lang/Object", "<init>", "()V"⟩ ∈ bw_uw := bw_in (i := 1125) (by decide +kernel) rfl
theorem w_83 : Cond.instanceMethod ⟨"java/lang/Object", "<init>", "()V"⟩ ∈ bw_uw := bw_in (i := 83) (by decide +kernel) rfl
theorem w_84 : Cond.code ⟨"java/lang/Object", "<init>", "()V"⟩ object_method_1_code 1 (Option.none : Option FieldType) ∈ bw_uw := bw_in (i := 84) (by decide +kernel) rfl
theorem w_748 : Cond.native ⟨"java/lang/System", "arraycopy", "(Ljava/lang/Object;ILjava/lang/Object;II)V"⟩ ∈ bw_uw := bw_in (i := 748) (by decide +kernel) rfl
theorem w_747 : Cond.static ⟨"java/lang/System", "arraycopy", "(Ljava/lang/Object;ILjava/lang/Object;II)V"⟩ ∈ bw_uw := bw_in (i := 747) (by decide +kernel) rfl
theorem w_75 : Cond.initialized "java/lang/System" ∈ bw_uw := bw_in (i := 75) (by decide +kernel) rfl
theorem w_111 : Cond.arrayClass FieldType.int ∈ bw_uw := bw_in (i := 111) (by decide +kernel) rfl
theorem w_1491 : Cond.arrayClass FieldType.long ∈ bw_uw := bw_in (i := 1491) (by decide +kernel) rfl
