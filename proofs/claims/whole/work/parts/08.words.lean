/-! ===== cells, methods, words ===== -/
theorem sh_0 : mj_sh[0]? = some (.inr (11, [4, 6, 8, 10, 15, 22, 26, 30, 31, 35, 40, 3, 0])) := rfl
theorem sh_1 : mj_sh[1]? = some (.inl (.int, 5)) := rfl
theorem sh_2 : mj_sh[2]? = some (.inr (10, [5, 0, 0, 0])) := rfl
theorem sh_3 : mj_sh[3]? = some (.inl (.int, 240)) := rfl
theorem sh_4 : mj_sh[4]? = some (.inr (1, [43, 4, 7, 0])) := rfl
theorem sh_5 : mj_sh[5]? = some (.inl (.int, 10)) := rfl
theorem sh_6 : mj_sh[6]? = some (.inr (4, [9, 0, 4])) := rfl
theorem sh_7 : mj_sh[7]? = some (.inl (.int, 240)) := rfl
theorem sh_8 : mj_sh[8]? = some (.inr (5, [0, 0, 11, 12, 13, 14])) := rfl
theorem sh_9 : mj_sh[9]? = some (.inl (.int, 6)) := rfl
theorem sh_10 : mj_sh[10]? = some (.inl (.int, 960)) := rfl
theorem sh_11 : mj_sh[11]? = some (.inl (.int, 4)) := rfl
theorem sh_12 : mj_sh[12]? = some (.inl (.int, 32)) := rfl
theorem sh_13 : mj_sh[13]? = some (.inr (0, [0, 0, 0, 0, 0, 0, 16, 17, 18, 19, 20, 21])) := rfl
theorem sh_14 : mj_sh[14]? = some (.inl (.int, 6)) := rfl
theorem sh_15 : mj_sh[15]? = some (.inl (.int, 6)) := rfl
theorem sh_16 : mj_sh[16]? = some (.inl (.int, 6)) := rfl
theorem sh_17 : mj_sh[17]? = some (.inl (.int, 6)) := rfl
theorem sh_18 : mj_sh[18]? = some (.inl (.int, 6)) := rfl
theorem sh_19 : mj_sh[19]? = some (.inl (.int, 6)) := rfl
theorem sh_20 : mj_sh[20]? = some (.inr (8, [0, 0, 0, 0, 0, 0, 0, 23, 24, 25])) := rfl
theorem sh_21 : mj_sh[21]? = some (.inl (.int, 6)) := rfl
theorem sh_22 : mj_sh[22]? = some (.inl (.int, 36)) := rfl
theorem sh_23 : mj_sh[23]? = some (.inl (.int, 100)) := rfl
theorem sh_24 : mj_sh[24]? = some (.inr (6, [0, 0, 0, 27, 28, 29])) := rfl
theorem sh_25 : mj_sh[25]? = some (.inl (.int, 1960)) := rfl
theorem sh_26 : mj_sh[26]? = some (.inl (.int, 49)) := rfl
theorem sh_27 : mj_sh[27]? = some (.inl (.int, 100)) := rfl
theorem sh_28 : mj_sh[28]? = some (.inr (9, [15, 22, 10])) := rfl
theorem sh_29 : mj_sh[29]? = some (.inr (3, [0, 15, 30, 32, 33, 34])) := rfl
theorem sh_30 : mj_sh[30]? = some (.inl (.int, 10)) := rfl
theorem sh_31 : mj_sh[31]? = some (.inl (.int, 10)) := rfl
theorem sh_32 : mj_sh[32]? = some (.inl (.boolean, 10)) := rfl
theorem sh_33 : mj_sh[33]? = some (.inr (7, [0, 0, 0, 0, 0, 0, 0, 15, 22, 30, 36, 37, 38, 39])) := rfl
theorem sh_34 : mj_sh[34]? = some (.inl (.int, 36)) := rfl
theorem sh_35 : mj_sh[35]? = some (.inl (.int, 36)) := rfl
theorem sh_36 : mj_sh[36]? = some (.inl (.int, 36)) := rfl
theorem sh_37 : mj_sh[37]? = some (.inl (.int, 448)) := rfl
theorem sh_38 : mj_sh[38]? = some (.inr (2, [15, 30, 41, 42])) := rfl
theorem sh_39 : mj_sh[39]? = some (.inl (.int, 6)) := rfl
theorem sh_40 : mj_sh[40]? = some (.inl (.int, 6)) := rfl
theorem sh_41 : mj_sh[41]? = some (.inr (0, [0, 0, 0, 0, 0, 0, 44, 45, 46, 47, 48, 49])) := rfl
theorem sh_42 : mj_sh[42]? = some (.inl (.int, 6)) := rfl
theorem sh_43 : mj_sh[43]? = some (.inl (.int, 6)) := rfl
theorem sh_44 : mj_sh[44]? = some (.inl (.int, 6)) := rfl
theorem sh_45 : mj_sh[45]? = some (.inl (.int, 6)) := rfl
theorem sh_46 : mj_sh[46]? = some (.inl (.int, 6)) := rfl
theorem sh_47 : mj_sh[47]? = some (.inl (.int, 6)) := rfl
theorem sh_48 : mj_sh[48]? = some (.inr (12, [0, 51, 0, 0, 0, 0, 52, 53, 54, 55, 56, 57, 58, 0, 0, 59, 60, 61, 62, 63, 0, 0, 64, 65, 66, 0, 0, 67, 68, 0, 0, 69, 0, 1, 70, 0, 0, 71, 72, 73, 0, 0, 0, 74, 0])) := rfl
theorem sh_49 : mj_sh[49]? = some (.inl (.int, 240)) := rfl
theorem sh_50 : mj_sh[50]? = some (.inl (.int, 2600)) := rfl
theorem sh_51 : mj_sh[51]? = some (.inl (.int, 2600)) := rfl
theorem sh_52 : mj_sh[52]? = some (.inl (.int, 5)) := rfl
theorem sh_53 : mj_sh[53]? = some (.inl (.int, 5)) := rfl
theorem sh_54 : mj_sh[54]? = some (.inl (.int, 700)) := rfl
theorem sh_55 : mj_sh[55]? = some (.inl (.int, 700)) := rfl
theorem sh_56 : mj_sh[56]? = some (.inl (.int, 700)) := rfl
theorem sh_57 : mj_sh[57]? = some (.inl (.int, 6)) := rfl
theorem sh_58 : mj_sh[58]? = some (.inl (.int, 80)) := rfl
theorem sh_59 : mj_sh[59]? = some (.inl (.int, 4)) := rfl
theorem sh_60 : mj_sh[60]? = some (.inl (.int, 18)) := rfl
theorem sh_61 : mj_sh[61]? = some (.inl (.int, 18)) := rfl
theorem sh_62 : mj_sh[62]? = some (.inl (.int, 4)) := rfl
theorem sh_63 : mj_sh[63]? = some (.inl (.int, 18)) := rfl
theorem sh_64 : mj_sh[64]? = some (.inl (.int, 18)) := rfl
theorem sh_65 : mj_sh[65]? = some (.inl (.int, 229)) := rfl
theorem sh_66 : mj_sh[66]? = some (.inl (.int, 5)) := rfl
theorem sh_67 : mj_sh[67]? = some (.inl (.int, 9160)) := rfl
theorem sh_68 : mj_sh[68]? = some (.inl (.int, 144)) := rfl
theorem sh_69 : mj_sh[69]? = some (.inl (.int, 10)) := rfl
theorem sh_70 : mj_sh[70]? = some (.inl (.int, 10)) := rfl
theorem sh_71 : mj_sh[71]? = some (.inl (.boolean, 10)) := rfl
theorem sh_72 : mj_sh[72]? = some (.inl (.int, 229)) := rfl
theorem sh_73 : mj_sh[73]? = some (.inl (.long, 1)) := rfl
theorem cl_0 : mj_cl[0]? = some (mj_R0, mj_T0, 12) := rfl
theorem cl_1 : mj_cl[1]? = some (mj_R1, mj_T1, 4) := rfl
theorem cl_2 : mj_cl[2]? = some (mj_R2, mj_T2, 4) := rfl
theorem cl_3 : mj_cl[3]? = some (mj_R3, mj_T3, 6) := rfl
theorem cl_4 : mj_cl[4]? = some (mj_R4, mj_T4, 3) := rfl
theorem cl_5 : mj_cl[5]? = some (mj_R5, mj_T5, 6) := rfl
theorem cl_6 : mj_cl[6]? = some (mj_R6, mj_T6, 6) := rfl
theorem cl_7 : mj_cl[7]? = some (mj_R7, mj_T7, 14) := rfl
theorem cl_8 : mj_cl[8]? = some (mj_R8, mj_T8, 10) := rfl
theorem cl_9 : mj_cl[9]? = some (mj_R9, mj_T9, 3) := rfl
theorem cl_10 : mj_cl[10]? = some (mj_R10, mj_T10, 4) := rfl
theorem cl_11 : mj_cl[11]? = some (mj_R11, mj_T11, 13) := rfl
theorem cl_12 : mj_cl[12]? = some (mj_R12, mj_T12, 45) := rfl
abbrev c_Tape_signsOf : ByteArray := prog_12_method_2_code
def y_Tape_signsOf : MethodName := ⟨"WinterTellers$Tape", "signsOf", "(I)I"⟩
abbrev c_Tape_add : ByteArray := prog_12_method_3_code
def y_Tape_add : MethodName := ⟨"WinterTellers$Tape", "add", "(I)V"⟩
abbrev c_W_feed : ByteArray := prog_1_method_2_code
def y_W_feed : MethodName := ⟨"WinterTellers", "feed", "(IIIII)I"⟩
abbrev c_M_byteOf : ByteArray := prog_14_method_5_code
def y_M_byteOf : MethodName := ⟨"WinterTellersModel", "byteOf", "(IIIIII)I"⟩
abbrev c_M_feed : ByteArray := prog_14_method_6_code
def y_M_feed : MethodName := ⟨"WinterTellersModel", "feed", "(IIIII)I"⟩
abbrev c_W_end : ByteArray := prog_1_method_3_code
def y_W_end : MethodName := ⟨"WinterTellers", "end", "(I)Z"⟩
abbrev c_M_end : ByteArray := prog_14_method_7_code
def y_M_end : MethodName := ⟨"WinterTellersModel", "end", "(I)Z"⟩
abbrev c_Tape_rewind : ByteArray := prog_12_method_4_code
def y_Tape_rewind : MethodName := ⟨"WinterTellers$Tape", "rewind", "()V"⟩
abbrev c_Tape_skipBlanks : ByteArray := prog_12_method_7_code
def y_Tape_skipBlanks : MethodName := ⟨"WinterTellers$Tape", "skipBlanks", "()V"⟩
abbrev c_Tape_peek : ByteArray := prog_12_method_6_code
def y_Tape_peek : MethodName := ⟨"WinterTellers$Tape", "peek", "()I"⟩
abbrev c_Tape_fail : ByteArray := prog_12_method_5_code
def y_Tape_fail : MethodName := ⟨"WinterTellers$Tape", "fail", "(I)V"⟩
abbrev c_Tape_demand : ByteArray := prog_12_method_9_code
def y_Tape_demand : MethodName := ⟨"WinterTellers$Tape", "demand", "(I)V"⟩
abbrev c_Tape_atDigit : ByteArray := prog_12_method_11_code
def y_Tape_atDigit : MethodName := ⟨"WinterTellers$Tape", "atDigit", "()Z"⟩
abbrev c_Tape_number : ByteArray := prog_12_method_12_code
def y_Tape_number : MethodName := ⟨"WinterTellers$Tape", "number", "(III)I"⟩
abbrev c_LawReader_write : ByteArray := prog_6_method_3_code
def y_LawReader_write : MethodName := ⟨"WinterTellers$LawReader", "write", "(II)V"⟩
abbrev c_LawReader_readLetter : ByteArray := prog_6_method_13_code
def y_LawReader_readLetter : MethodName := ⟨"WinterTellers$LawReader", "readLetter", "(I)V"⟩
abbrev c_LawReader_goesDeeper : ByteArray := prog_6_method_9_code
def y_LawReader_goesDeeper : MethodName := ⟨"WinterTellers$LawReader", "goesDeeper", "(I)Z"⟩
abbrev c_LawReader_readAtom : ByteArray := prog_6_method_12_code
def y_LawReader_readAtom : MethodName := ⟨"WinterTellers$LawReader", "readAtom", "(I)V"⟩
abbrev c_LawReader_readTerm : ByteArray := prog_6_method_11_code
def y_LawReader_readTerm : MethodName := ⟨"WinterTellers$LawReader", "readTerm", "(I)V"⟩
abbrev c_LawReader_readSum : ByteArray := prog_6_method_10_code
def y_LawReader_readSum : MethodName := ⟨"WinterTellers$LawReader", "readSum", "(I)V"⟩
abbrev c_LawReader_isComparison : ByteArray := prog_6_method_5_code
def y_LawReader_isComparison : MethodName := ⟨"WinterTellers$LawReader", "isComparison", "(I)Z"⟩
abbrev c_Tape_takes : ByteArray := prog_12_method_8_code
def y_Tape_takes : MethodName := ⟨"WinterTellers$Tape", "takes", "(I)Z"⟩
abbrev c_LawReader_readTruth : ByteArray := prog_6_method_7_code
def y_LawReader_readTruth : MethodName := ⟨"WinterTellers$LawReader", "readTruth", "(IZ)V"⟩
abbrev c_LawReader_readCondition : ByteArray := prog_6_method_6_code
def y_LawReader_readCondition : MethodName := ⟨"WinterTellers$LawReader", "readCondition", "(IZ)V"⟩
abbrev c_LawReader_readUnit : ByteArray := prog_6_method_8_code
def y_LawReader_readUnit : MethodName := ⟨"WinterTellers$LawReader", "readUnit", "(IZ)V"⟩
abbrev c_LawReader_readClause : ByteArray := prog_6_method_4_code
def y_LawReader_readClause : MethodName := ⟨"WinterTellers$LawReader", "readClause", "()V"⟩
abbrev c_Tape_demandEnd : ByteArray := prog_12_method_10_code
def y_Tape_demandEnd : MethodName := ⟨"WinterTellers$Tape", "demandEnd", "()V"⟩
abbrev c_LawReader_read : ByteArray := prog_6_method_2_code
def y_LawReader_read : MethodName := ⟨"WinterTellers$LawReader", "read", "()I"⟩
abbrev c_CoastReader_takeItemsWithout : ByteArray := prog_3_method_4_code
def y_CoastReader_takeItemsWithout : MethodName := ⟨"WinterTellers$CoastReader", "takeItemsWithout", "(II)V"⟩
abbrev c_CoastReader_keepRules : ByteArray := prog_3_method_7_code
def y_CoastReader_keepRules : MethodName := ⟨"WinterTellers$CoastReader", "keepRules", "()V"⟩
abbrev c_CoastReader_itemAt : ByteArray := prog_3_method_6_code
def y_CoastReader_itemAt : MethodName := ⟨"WinterTellers$CoastReader", "itemAt", "(III)I"⟩
abbrev c_CoastReader_readItems : ByteArray := prog_3_method_5_code
def y_CoastReader_readItems : MethodName := ⟨"WinterTellers$CoastReader", "readItems", "(II)V"⟩
abbrev c_CoastReader_keepHouse : ByteArray := prog_3_method_8_code
def y_CoastReader_keepHouse : MethodName := ⟨"WinterTellers$CoastReader", "keepHouse", "()V"⟩
abbrev c_CoastReader_keepTale : ByteArray := prog_3_method_9_code
def y_CoastReader_keepTale : MethodName := ⟨"WinterTellers$CoastReader", "keepTale", "()V"⟩
abbrev c_CoastReader_readClause : ByteArray := prog_3_method_3_code
def y_CoastReader_readClause : MethodName := ⟨"WinterTellers$CoastReader", "readClause", "()V"⟩
abbrev c_CoastReader_read : ByteArray := prog_3_method_2_code
def y_CoastReader_read : MethodName := ⟨"WinterTellers$CoastReader", "read", "()I"⟩
abbrev c_W_fault : ByteArray := prog_1_method_4_code
def y_W_fault : MethodName := ⟨"WinterTellers", "fault", "(I)I"⟩
abbrev c_M_open : ByteArray := prog_14_method_27_code
def y_M_open : MethodName := ⟨"WinterTellersModel", "open", "(I)V"⟩
abbrev c_M_here : ByteArray := prog_14_method_8_code
def y_M_here : MethodName := ⟨"WinterTellersModel", "here", "()I"⟩
abbrev c_M_look : ByteArray := prog_14_method_9_code
def y_M_look : MethodName := ⟨"WinterTellersModel", "look", "()I"⟩
abbrev c_M_bad : ByteArray := prog_14_method_10_code
def y_M_bad : MethodName := ⟨"WinterTellersModel", "bad", "()V"⟩
abbrev c_M_isDigit : ByteArray := prog_14_method_11_code
def y_M_isDigit : MethodName := ⟨"WinterTellersModel", "isDigit", "(I)Z"⟩
abbrev c_M_letterOf : ByteArray := prog_14_method_13_code
def y_M_letterOf : MethodName := ⟨"WinterTellersModel", "letterOf", "(I)I"⟩
abbrev c_M_opens : ByteArray := prog_14_method_14_code
def y_M_opens : MethodName := ⟨"WinterTellersModel", "opens", "()V"⟩
abbrev c_M_closes : ByteArray := prog_14_method_15_code
def y_M_closes : MethodName := ⟨"WinterTellersModel", "closes", "(I)V"⟩
abbrev c_M_put : ByteArray := prog_14_method_12_code
def y_M_put : MethodName := ⟨"WinterTellersModel", "put", "(II)V"⟩
abbrev c_M_plainNumber : ByteArray := prog_14_method_16_code
def y_M_plainNumber : MethodName := ⟨"WinterTellersModel", "plainNumber", "()I"⟩
abbrev c_M_atom : ByteArray := prog_14_method_17_code
def y_M_atom : MethodName := ⟨"WinterTellersModel", "atom", "()V"⟩
abbrev c_M_term : ByteArray := prog_14_method_18_code
def y_M_term : MethodName := ⟨"WinterTellersModel", "term", "()V"⟩
abbrev c_M_sum : ByteArray := prog_14_method_19_code
def y_M_sum : MethodName := ⟨"WinterTellersModel", "sum", "()V"⟩
abbrev c_M_isSign : ByteArray := prog_14_method_20_code
def y_M_isSign : MethodName := ⟨"WinterTellersModel", "isSign", "(I)Z"⟩
abbrev c_M_compare : ByteArray := prog_14_method_21_code
def y_M_compare : MethodName := ⟨"WinterTellersModel", "compare", "()V"⟩
abbrev c_M_goOnAnd : ByteArray := prog_14_method_23_code
def y_M_goOnAnd : MethodName := ⟨"WinterTellersModel", "goOnAnd", "()V"⟩
abbrev c_M_goOnOr : ByteArray := prog_14_method_24_code
def y_M_goOnOr : MethodName := ⟨"WinterTellersModel", "goOnOr", "()V"⟩
abbrev c_M_condition : ByteArray := prog_14_method_25_code
def y_M_condition : MethodName := ⟨"WinterTellersModel", "condition", "()V"⟩
abbrev c_M_unit : ByteArray := prog_14_method_22_code
def y_M_unit : MethodName := ⟨"WinterTellersModel", "unit", "()V"⟩
abbrev c_M_clause : ByteArray := prog_14_method_26_code
def y_M_clause : MethodName := ⟨"WinterTellersModel", "clause", "()V"⟩
abbrev c_M_atEnd : ByteArray := prog_14_method_28_code
def y_M_atEnd : MethodName := ⟨"WinterTellersModel", "atEnd", "()I"⟩
abbrev c_M_readLaw : ByteArray := prog_14_method_29_code
def y_M_readLaw : MethodName := ⟨"WinterTellersModel", "readLaw", "(I)I"⟩
abbrev c_M_usual : ByteArray := prog_14_method_37_code
def y_M_usual : MethodName := ⟨"WinterTellersModel", "usual", "(II)I"⟩
abbrev c_M_itemOf : ByteArray := prog_14_method_35_code
def y_M_itemOf : MethodName := ⟨"WinterTellersModel", "itemOf", "(II)I"⟩
abbrev c_M_has : ByteArray := prog_14_method_2_code
def y_M_has : MethodName := ⟨"WinterTellersModel", "has", "(II)Z"⟩
abbrev c_M_highest : ByteArray := prog_14_method_36_code
def y_M_highest : MethodName := ⟨"WinterTellersModel", "highest", "(II)I"⟩
abbrev c_M_in : ByteArray := prog_14_method_1_code
def y_M_in : MethodName := ⟨"WinterTellersModel", "in", "(III)Z"⟩
abbrev c_M_number : ByteArray := prog_14_method_34_code
def y_M_number : MethodName := ⟨"WinterTellersModel", "number", "(II)I"⟩
abbrev c_M_items : ByteArray := prog_14_method_38_code
def y_M_items : MethodName := ⟨"WinterTellersModel", "items", "(I[III)V"⟩
abbrev c_M_readCoast : ByteArray := prog_14_method_39_code
def y_M_readCoast : MethodName := ⟨"WinterTellersModel", "readCoast", "()I"⟩
abbrev c_M_fault : ByteArray := prog_14_method_40_code
def y_M_fault : MethodName := ⟨"WinterTellersModel", "fault", "(I)I"⟩
abbrev c_Coast_become : ByteArray := prog_2_method_9_code
def y_Coast_become : MethodName := ⟨"WinterTellers$Coast", "become", "(LWinterTellers$Coast;)V"⟩
abbrev c_Coast_allTales : ByteArray := prog_2_method_6_code
def y_Coast_allTales : MethodName := ⟨"WinterTellers$Coast", "allTales", "()I"⟩
abbrev c_Arrays_fill : ByteArray := prog_22_method_103_code
def y_Arrays_fill : MethodName := ⟨"java/util/Arrays", "fill", "([II)V"⟩
abbrev c_Coast_knows : ByteArray := prog_2_method_7_code
def y_Coast_knows : MethodName := ⟨"WinterTellers$Coast", "knows", "(II)Z"⟩
abbrev c_Stand_begin : ByteArray := prog_10_method_2_code
def y_Stand_begin : MethodName := ⟨"WinterTellers$Stand", "begin", "(LWinterTellers$Coast;)V"⟩
abbrev c_Past_forget : ByteArray := prog_8_method_2_code
def y_Past_forget : MethodName := ⟨"WinterTellers$Past", "forget", "()V"⟩
abbrev c_W_takeCoast : ByteArray := prog_1_method_6_code
def y_W_takeCoast : MethodName := ⟨"WinterTellers", "takeCoast", "()V"⟩
abbrev c_Laws_add : ByteArray := prog_7_method_2_code
def y_Laws_add : MethodName := ⟨"WinterTellers$Laws", "add", "([II)V"⟩
abbrev c_W_text : ByteArray := prog_1_method_5_code
def y_W_text : MethodName := ⟨"WinterTellers", "text", "(I)I"⟩
abbrev c_M_ofTale : ByteArray := prog_14_method_44_code
def y_M_ofTale : MethodName := ⟨"WinterTellersModel", "ofTale", "(II)I"⟩
abbrev c_M_ofHouse : ByteArray := prog_14_method_43_code
def y_M_ofHouse : MethodName := ⟨"WinterTellersModel", "ofHouse", "(II)I"⟩
abbrev c_M_takeCoast : ByteArray := prog_14_method_41_code
def y_M_takeCoast : MethodName := ⟨"WinterTellersModel", "takeCoast", "()I"⟩
abbrev c_M_text : ByteArray := prog_14_method_42_code
def y_M_text : MethodName := ⟨"WinterTellersModel", "text", "(I)I"⟩
abbrev c_Coast_hasHouse : ByteArray := prog_2_method_3_code
def y_Coast_hasHouse : MethodName := ⟨"WinterTellers$Coast", "hasHouse", "(I)Z"⟩
abbrev c_Stand_heardBits : ByteArray := prog_10_method_6_code
def y_Stand_heardBits : MethodName := ⟨"WinterTellers$Stand", "heardBits", "(I)I"⟩
abbrev c_W_house : ByteArray := prog_1_method_7_code
def y_W_house : MethodName := ⟨"WinterTellers", "house", "(II)I"⟩
abbrev c_M_isHouse : ByteArray := prog_14_method_45_code
def y_M_isHouse : MethodName := ⟨"WinterTellersModel", "isHouse", "(I)Z"⟩
abbrev c_M_heardOf : ByteArray := prog_14_method_48_code
def y_M_heardOf : MethodName := ⟨"WinterTellersModel", "heardOf", "(II)I"⟩
abbrev c_M_heardSet : ByteArray := prog_14_method_56_code
def y_M_heardSet : MethodName := ⟨"WinterTellersModel", "heardSet", "(I)I"⟩
abbrev c_M_house : ByteArray := prog_14_method_57_code
def y_M_house : MethodName := ⟨"WinterTellersModel", "house", "(II)I"⟩
abbrev c_M_isTale : ByteArray := prog_14_method_46_code
def y_M_isTale : MethodName := ⟨"WinterTellersModel", "isTale", "(I)Z"⟩
abbrev c_M_owns : ByteArray := prog_14_method_47_code
def y_M_owns : MethodName := ⟨"WinterTellersModel", "owns", "(I)Z"⟩
abbrev c_M_tale : ByteArray := prog_14_method_58_code
def y_M_tale : MethodName := ⟨"WinterTellersModel", "tale", "(II)I"⟩
abbrev c_M_thrown : ByteArray := prog_14_method_4_code
def y_M_thrown : MethodName := ⟨"WinterTellersModel", "thrown", "()I"⟩
abbrev c_Coast_hasTale : ByteArray := prog_2_method_4_code
def y_Coast_hasTale : MethodName := ⟨"WinterTellers$Coast", "hasTale", "(I)Z"⟩
abbrev c_Coast_hasBoth : ByteArray := prog_2_method_5_code
def y_Coast_hasBoth : MethodName := ⟨"WinterTellers$Coast", "hasBoth", "(II)Z"⟩
abbrev c_W_heard : ByteArray := prog_1_method_9_code
def y_W_heard : MethodName := ⟨"WinterTellers", "heard", "(II)I"⟩
abbrev c_M_heard : ByteArray := prog_14_method_59_code
def y_M_heard : MethodName := ⟨"WinterTellersModel", "heard", "(II)I"⟩
abbrev c_Laws_held : ByteArray := prog_7_method_6_code
def y_Laws_held : MethodName := ⟨"WinterTellers$Laws", "held", "(J)I"⟩
abbrev c_Laws_joined : ByteArray := prog_7_method_5_code
def y_Laws_joined : MethodName := ⟨"WinterTellers$Laws", "joined", "(III)I"⟩
abbrev c_Laws_operand : ByteArray := prog_7_method_4_code
def y_Laws_operand : MethodName := ⟨"WinterTellers$Laws", "operand", "(II)I"⟩
abbrev c_Laws_worth : ByteArray := prog_7_method_3_code
def y_Laws_worth : MethodName := ⟨"WinterTellers$Laws", "worth", "()I"⟩
abbrev c_Stays_worthWithoutLaw : ByteArray := prog_11_method_6_code
def y_Stays_worthWithoutLaw : MethodName := ⟨"WinterTellers$Stays", "worthWithoutLaw", "(IIII)I"⟩
abbrev c_Stays_by : ByteArray := prog_11_method_5_code
def y_Stays_by : MethodName := ⟨"WinterTellers$Stays", "by", "(IIII)I"⟩
abbrev c_Stays_now : ByteArray := prog_11_method_2_code
def y_Stays_now : MethodName := ⟨"WinterTellers$Stays", "now", "(II)I"⟩
abbrev c_W_nights : ByteArray := prog_1_method_10_code
def y_W_nights : MethodName := ⟨"WinterTellers", "nights", "(II)I"⟩
abbrev c_M_bounded : ByteArray := prog_14_method_30_code
def y_M_bounded : MethodName := ⟨"WinterTellersModel", "bounded", "(J)I"⟩
abbrev c_M_worked : ByteArray := prog_14_method_31_code
def y_M_worked : MethodName := ⟨"WinterTellersModel", "worked", "(IJJ)I"⟩
abbrev c_M_workOut : ByteArray := prog_14_method_32_code
def y_M_workOut : MethodName := ⟨"WinterTellersModel", "workOut", "(III)I"⟩
abbrev c_M_worthOf : ByteArray := prog_14_method_33_code
def y_M_worthOf : MethodName := ⟨"WinterTellersModel", "worthOf", "(I)I"⟩
abbrev c_M_nightsBy : ByteArray := prog_14_method_49_code
def y_M_nightsBy : MethodName := ⟨"WinterTellersModel", "nightsBy", "(IIII)I"⟩
abbrev c_M_nightsNow : ByteArray := prog_14_method_50_code
def y_M_nightsNow : MethodName := ⟨"WinterTellersModel", "nightsNow", "(II)I"⟩
abbrev c_M_nights : ByteArray := prog_14_method_60_code
def y_M_nights : MethodName := ⟨"WinterTellersModel", "nights", "(II)I"⟩
abbrev c_W_law : ByteArray := prog_1_method_11_code
def y_W_law : MethodName := ⟨"WinterTellers", "law", "(I)Z"⟩
abbrev c_M_law : ByteArray := prog_14_method_61_code
def y_M_law : MethodName := ⟨"WinterTellersModel", "law", "(I)Z"⟩
abbrev c_Stand_owns : ByteArray := prog_10_method_3_code
def y_Stand_owns : MethodName := ⟨"WinterTellers$Stand", "owns", "(I)Z"⟩
abbrev c_Stand_daysOf : ByteArray := prog_10_method_8_code
def y_Stand_daysOf : MethodName := ⟨"WinterTellers$Stand", "daysOf", "(I)I"⟩
abbrev c_Stand_hasDays : ByteArray := prog_10_method_4_code
def y_Stand_hasDays : MethodName := ⟨"WinterTellers$Stand", "hasDays", "(I)Z"⟩
abbrev c_Stand_save : ByteArray := prog_10_method_14_code
def y_Stand_save : MethodName := ⟨"WinterTellers$Stand", "save", "([II)V"⟩
abbrev c_Past_keep : ByteArray := prog_8_method_3_code
def y_Past_keep : MethodName := ⟨"WinterTellers$Past", "keep", "(LWinterTellers$Stand;)V"⟩
abbrev c_Stand_heardOnceMore : ByteArray := prog_10_method_7_code
def y_Stand_heardOnceMore : MethodName := ⟨"WinterTellers$Stand", "heardOnceMore", "(I)I"⟩
abbrev c_Stand_breadAfter : ByteArray := prog_10_method_9_code
def y_Stand_breadAfter : MethodName := ⟨"WinterTellers$Stand", "breadAfter", "(II)I"⟩
abbrev c_Stand_tellHere : ByteArray := prog_10_method_11_code
def y_Stand_tellHere : MethodName := ⟨"WinterTellers$Stand", "tellHere", "(II)V"⟩
abbrev c_W_refuse : ByteArray := prog_1_method_12_code
def y_W_refuse : MethodName := ⟨"WinterTellers", "refuse", "(I)I"⟩
abbrev c_W_tells : ByteArray := prog_1_method_13_code
def y_W_tells : MethodName := ⟨"WinterTellers", "tells", "(I)I"⟩
abbrev c_M_isLate : ByteArray := prog_14_method_64_code
def y_M_isLate : MethodName := ⟨"WinterTellersModel", "isLate", "(I)Z"⟩
abbrev c_M_isTooLong : ByteArray := prog_14_method_65_code
def y_M_isTooLong : MethodName := ⟨"WinterTellersModel", "isTooLong", "(I)Z"⟩
abbrev c_M_isRefused : ByteArray := prog_14_method_63_code
def y_M_isRefused : MethodName := ⟨"WinterTellersModel", "isRefused", "(I)Z"⟩
abbrev c_M_keep : ByteArray := prog_14_method_62_code
def y_M_keep : MethodName := ⟨"WinterTellersModel", "keep", "()V"⟩
abbrev c_M_tellNow : ByteArray := prog_14_method_51_code
def y_M_tellNow : MethodName := ⟨"WinterTellersModel", "tellNow", "(I)I"⟩
abbrev c_M_noteTelling : ByteArray := prog_14_method_54_code
def y_M_noteTelling : MethodName := ⟨"WinterTellersModel", "noteTelling", "(III)V"⟩
abbrev c_M_tellLogged : ByteArray := prog_14_method_55_code
def y_M_tellLogged : MethodName := ⟨"WinterTellersModel", "tellLogged", "(I)I"⟩
abbrev c_M_tells : ByteArray := prog_14_method_66_code
def y_M_tells : MethodName := ⟨"WinterTellersModel", "tells", "(I)I"⟩
abbrev c_Stand_farTo : ByteArray := prog_10_method_5_code
def y_Stand_farTo : MethodName := ⟨"WinterTellers$Stand", "farTo", "(I)I"⟩
abbrev c_Stand_walkTo : ByteArray := prog_10_method_10_code
def y_Stand_walkTo : MethodName := ⟨"WinterTellers$Stand", "walkTo", "(I)V"⟩
abbrev c_W_goes : ByteArray := prog_1_method_14_code
def y_W_goes : MethodName := ⟨"WinterTellers", "goes", "(I)I"⟩
abbrev c_M_farTo : ByteArray := prog_14_method_52_code
def y_M_farTo : MethodName := ⟨"WinterTellersModel", "farTo", "(I)I"⟩
abbrev c_M_goNow : ByteArray := prog_14_method_53_code
def y_M_goNow : MethodName := ⟨"WinterTellersModel", "goNow", "(I)V"⟩
abbrev c_M_goes : ByteArray := prog_14_method_67_code
def y_M_goes : MethodName := ⟨"WinterTellersModel", "goes", "(I)I"⟩
abbrev c_Integer_bitCount : ByteArray := prog_17_method_49_code
def y_Integer_bitCount : MethodName := ⟨"java/lang/Integer", "bitCount", "(I)I"⟩
abbrev c_W_learns : ByteArray := prog_1_method_15_code
def y_W_learns : MethodName := ⟨"WinterTellers", "learns", "(I)I"⟩
abbrev c_M_learns : ByteArray := prog_14_method_68_code
def y_M_learns : MethodName := ⟨"WinterTellersModel", "learns", "(I)I"⟩
abbrev c_W_ties : ByteArray := prog_1_method_16_code
def y_W_ties : MethodName := ⟨"WinterTellers", "ties", "(I)I"⟩
abbrev c_M_ties : ByteArray := prog_14_method_69_code
def y_M_ties : MethodName := ⟨"WinterTellersModel", "ties", "(I)I"⟩
abbrev c_Coast_isTold : ByteArray := prog_2_method_2_code
def y_Coast_isTold : MethodName := ⟨"WinterTellers$Coast", "isTold", "()Z"⟩
abbrev c_W_rest : ByteArray := prog_1_method_17_code
def y_W_rest : MethodName := ⟨"WinterTellers", "rest", "()I"⟩
abbrev c_M_rest : ByteArray := prog_14_method_70_code
def y_M_rest : MethodName := ⟨"WinterTellersModel", "rest", "()I"⟩
abbrev c_W_give : ByteArray := prog_1_method_18_code
def y_W_give : MethodName := ⟨"WinterTellers", "give", "(I)I"⟩
abbrev c_M_give : ByteArray := prog_14_method_71_code
def y_M_give : MethodName := ⟨"WinterTellersModel", "give", "(I)I"⟩
abbrev c_W_whys : ByteArray := prog_1_method_19_code
def y_W_whys : MethodName := ⟨"WinterTellers", "whys", "(I)Z"⟩
abbrev c_M_whys : ByteArray := prog_14_method_72_code
def y_M_whys : MethodName := ⟨"WinterTellersModel", "whys", "(I)Z"⟩
abbrev c_W_turned : ByteArray := prog_1_method_21_code
def y_W_turned : MethodName := ⟨"WinterTellers", "turned", "(J)J"⟩
abbrev c_W_drawn : ByteArray := prog_1_method_22_code
def y_W_drawn : MethodName := ⟨"WinterTellers", "drawn", "(JI)I"⟩
abbrev c_W_walkIfHeCan : ByteArray := prog_1_method_23_code
def y_W_walkIfHeCan : MethodName := ⟨"WinterTellers", "walkIfHeCan", "(I)V"⟩
abbrev c_W_tellIfHeCan : ByteArray := prog_1_method_24_code
def y_W_tellIfHeCan : MethodName := ⟨"WinterTellers", "tellIfHeCan", "(I)V"⟩
abbrev c_W_years : ByteArray := prog_1_method_20_code
def y_W_years : MethodName := ⟨"WinterTellers", "years", "(IJ)I"⟩
abbrev c_M_draw : ByteArray := prog_14_method_73_code
def y_M_draw : MethodName := ⟨"WinterTellersModel", "draw", "(I)I"⟩
abbrev c_M_drawRound : ByteArray := prog_14_method_74_code
def y_M_drawRound : MethodName := ⟨"WinterTellersModel", "drawRound", "()V"⟩
abbrev c_M_years : ByteArray := prog_14_method_75_code
def y_M_years : MethodName := ⟨"WinterTellersModel", "years", "(IJ)I"⟩
abbrev c_W_status : ByteArray := prog_1_method_25_code
def y_W_status : MethodName := ⟨"WinterTellers", "status", "(I)I"⟩
abbrev c_M_status : ByteArray := prog_14_method_76_code
def y_M_status : MethodName := ⟨"WinterTellersModel", "status", "(I)I"⟩
abbrev c_Stand_load : ByteArray := prog_10_method_15_code
def y_Stand_load : MethodName := ⟨"WinterTellers$Stand", "load", "([II)V"⟩
abbrev c_Past_takeBack : ByteArray := prog_8_method_4_code
def y_Past_takeBack : MethodName := ⟨"WinterTellers$Past", "takeBack", "(LWinterTellers$Stand;)V"⟩
abbrev c_W_undo : ByteArray := prog_1_method_26_code
def y_W_undo : MethodName := ⟨"WinterTellers", "undo", "()I"⟩
abbrev c_M_undo : ByteArray := prog_14_method_77_code
def y_M_undo : MethodName := ⟨"WinterTellersModel", "undo", "()I"⟩
abbrev c_Stand_logSize : ByteArray := prog_10_method_12_code
def y_Stand_logSize : MethodName := ⟨"WinterTellers$Stand", "logSize", "()I"⟩
abbrev c_Stand_telling : ByteArray := prog_10_method_13_code
def y_Stand_telling : MethodName := ⟨"WinterTellers$Stand", "telling", "(I)I"⟩
abbrev c_W_log : ByteArray := prog_1_method_27_code
def y_W_log : MethodName := ⟨"WinterTellers", "log", "(II)I"⟩
abbrev c_M_log : ByteArray := prog_14_method_78_code
def y_M_log : MethodName := ⟨"WinterTellersModel", "log", "(II)I"⟩
abbrev c_Plans_findBest : ByteArray := prog_9_method_2_code
def y_Plans_findBest : MethodName := ⟨"WinterTellers$Plans", "findBest", "(I[I)V"⟩
abbrev c_W_best : ByteArray := prog_1_method_28_code
def y_W_best : MethodName := ⟨"WinterTellers", "best", "(II)I"⟩
abbrev c_M_bestIn : ByteArray := prog_14_method_79_code
def y_M_bestIn : MethodName := ⟨"WinterTellersModel", "bestIn", "(I)I"⟩
abbrev c_M_best : ByteArray := prog_14_method_80_code
def y_M_best : MethodName := ⟨"WinterTellersModel", "best", "(II)I"⟩
abbrev c_Plans_weighAll : ByteArray := prog_9_method_3_code
def y_Plans_weighAll : MethodName := ⟨"WinterTellers$Plans", "weighAll", "()V"⟩
abbrev c_Stays_onceMore : ByteArray := prog_11_method_3_code
def y_Stays_onceMore : MethodName := ⟨"WinterTellers$Stays", "onceMore", "(II)I"⟩
abbrev c_Plans_digitsOf : ByteArray := prog_9_method_7_code
def y_Plans_digitsOf : MethodName := ⟨"WinterTellers$Plans", "digitsOf", "(I)I"⟩
abbrev c_Plans_trySecondsIn : ByteArray := prog_9_method_6_code
def y_Plans_trySecondsIn : MethodName := ⟨"WinterTellers$Plans", "trySecondsIn", "(II)V"⟩
abbrev c_Plans_trySecondsBehind : ByteArray := prog_9_method_5_code
def y_Plans_trySecondsBehind : MethodName := ⟨"WinterTellers$Plans", "trySecondsBehind", "(II)V"⟩
abbrev c_Plans_findTwo : ByteArray := prog_9_method_4_code
def y_Plans_findTwo : MethodName := ⟨"WinterTellers$Plans", "findTwo", "()V"⟩
abbrev c_W_two : ByteArray := prog_1_method_29_code
def y_W_two : MethodName := ⟨"WinterTellers", "two", "(I)I"⟩
abbrev c_M_putAside : ByteArray := prog_14_method_81_code
def y_M_putAside : MethodName := ⟨"WinterTellersModel", "putAside", "(I)V"⟩
abbrev c_M_takeBack : ByteArray := prog_14_method_82_code
def y_M_takeBack : MethodName := ⟨"WinterTellersModel", "takeBack", "(I)V"⟩
abbrev c_M_tryTwo : ByteArray := prog_14_method_83_code
def y_M_tryTwo : MethodName := ⟨"WinterTellersModel", "tryTwo", "(III)V"⟩
abbrev c_M_two : ByteArray := prog_14_method_84_code
def y_M_two : MethodName := ⟨"WinterTellersModel", "two", "(I)I"⟩
abbrev c_Plans_with : ByteArray := prog_9_method_9_code
def y_Plans_with : MethodName := ⟨"WinterTellers$Plans", "with", "(II)I"⟩
abbrev c_Plans_nightsBy : ByteArray := prog_9_method_10_code
def y_Plans_nightsBy : MethodName := ⟨"WinterTellers$Plans", "nightsBy", "(III)I"⟩
abbrev c_Plans_placeFor : ByteArray := prog_9_method_11_code
def y_Plans_placeFor : MethodName := ⟨"WinterTellers$Plans", "placeFor", "(II)I"⟩
abbrev c_Plans_findPlaces : ByteArray := prog_9_method_8_code
def y_Plans_findPlaces : MethodName := ⟨"WinterTellers$Plans", "findPlaces", "()V"⟩
abbrev c_W_places : ByteArray := prog_1_method_30_code
def y_W_places : MethodName := ⟨"WinterTellers", "places", "(I)I"⟩
abbrev c_M_tryPlaces : ByteArray := prog_14_method_85_code
def y_M_tryPlaces : MethodName := ⟨"WinterTellersModel", "tryPlaces", "(IIII)V"⟩
abbrev c_M_places : ByteArray := prog_14_method_86_code
def y_M_places : MethodName := ⟨"WinterTellersModel", "places", "(I)I"⟩
abbrev c_Plans_serves : ByteArray := prog_9_method_14_code
def y_Plans_serves : MethodName := ⟨"WinterTellers$Plans", "serves", "(III)Z"⟩
abbrev c_Plans_servesAll : ByteArray := prog_9_method_13_code
def y_Plans_servesAll : MethodName := ⟨"WinterTellers$Plans", "servesAll", "(II)Z"⟩
abbrev c_Plans_fewestFor : ByteArray := prog_9_method_12_code
def y_Plans_fewestFor : MethodName := ⟨"WinterTellers$Plans", "fewestFor", "(I)I"⟩
abbrev c_W_fewest : ByteArray := prog_1_method_31_code
def y_W_fewest : MethodName := ⟨"WinterTellers", "fewest", "(I)I"⟩
abbrev c_M_whereOf : ByteArray := prog_14_method_87_code
def y_M_whereOf : MethodName := ⟨"WinterTellersModel", "whereOf", "(II)I"⟩
abbrev c_M_fewest : ByteArray := prog_14_method_89_code
def y_M_fewest : MethodName := ⟨"WinterTellersModel", "fewest", "(I)I"⟩
abbrev c_Guess_add : ByteArray := prog_5_method_2_code
def y_Guess_add : MethodName := ⟨"WinterTellers$Guess", "add", "(IIZ)V"⟩
abbrev c_W_seen : ByteArray := prog_1_method_32_code
def y_W_seen : MethodName := ⟨"WinterTellers", "seen", "(IIZ)I"⟩
abbrev c_M_seen : ByteArray := prog_14_method_90_code
def y_M_seen : MethodName := ⟨"WinterTellersModel", "seen", "(IIZ)I"⟩
abbrev c_Stays_asTold : ByteArray := prog_11_method_4_code
def y_Stays_asTold : MethodName := ⟨"WinterTellers$Stays", "asTold", "(II)I"⟩
abbrev c_Guess_fits : ByteArray := prog_5_method_4_code
def y_Guess_fits : MethodName := ⟨"WinterTellers$Guess", "fits", "(I)Z"⟩
abbrev c_Guess_fitting : ByteArray := prog_5_method_3_code
def y_Guess_fitting : MethodName := ⟨"WinterTellers$Guess", "fitting", "()I"⟩
abbrev c_Guess_bitAt : ByteArray := prog_5_method_5_code
def y_Guess_bitAt : MethodName := ⟨"WinterTellers$Guess", "bitAt", "(II)I"⟩
abbrev c_W_told : ByteArray := prog_1_method_33_code
def y_W_told : MethodName := ⟨"WinterTellers", "told", "(I)I"⟩
abbrev c_M_toldNights : ByteArray := prog_14_method_91_code
def y_M_toldNights : MethodName := ⟨"WinterTellersModel", "toldNights", "(II)I"⟩
abbrev c_M_isTold : ByteArray := prog_14_method_92_code
def y_M_isTold : MethodName := ⟨"WinterTellersModel", "isTold", "(I)Z"⟩
abbrev c_M_told : ByteArray := prog_14_method_93_code
def y_M_told : MethodName := ⟨"WinterTellersModel", "told", "(I)I"⟩
abbrev c_Guess_apartIn : ByteArray := prog_5_method_7_code
def y_Guess_apartIn : MethodName := ⟨"WinterTellers$Guess", "apartIn", "(III)I"⟩
abbrev c_Guess_houseToAsk : ByteArray := prog_5_method_6_code
def y_Guess_houseToAsk : MethodName := ⟨"WinterTellers$Guess", "houseToAsk", "(II)I"⟩
abbrev c_W_ask : ByteArray := prog_1_method_34_code
def y_W_ask : MethodName := ⟨"WinterTellers", "ask", "(I)I"⟩
abbrev c_M_ask : ByteArray := prog_14_method_94_code
def y_M_ask : MethodName := ⟨"WinterTellersModel", "ask", "(I)I"⟩
abbrev c_Duel_standIn : ByteArray := prog_4_method_2_code
def y_Duel_standIn : MethodName := ⟨"WinterTellers$Duel", "standIn", "(I)V"⟩
abbrev c_Duel_secondStay : ByteArray := prog_4_method_3_code
def y_Duel_secondStay : MethodName := ⟨"WinterTellers$Duel", "secondStay", "(II)I"⟩
abbrev c_Duel_has : ByteArray := prog_4_method_6_code
def y_Duel_has : MethodName := ⟨"WinterTellers$Duel", "has", "(III)I"⟩
abbrev c_Duel_secondHas : ByteArray := prog_4_method_5_code
def y_Duel_secondHas : MethodName := ⟨"WinterTellers$Duel", "secondHas", "(II)I"⟩
abbrev c_Duel_firstHas : ByteArray := prog_4_method_4_code
def y_Duel_firstHas : MethodName := ⟨"WinterTellers$Duel", "firstHas", "(II)I"⟩
abbrev c_W_game : ByteArray := prog_1_method_35_code
def y_W_game : MethodName := ⟨"WinterTellers", "game", "(IIII)I"⟩
abbrev c_M_gameOf : ByteArray := prog_14_method_95_code
def y_M_gameOf : MethodName := ⟨"WinterTellersModel", "gameOf", "(IIII)I"⟩
abbrev c_M_game : ByteArray := prog_14_method_96_code
def y_M_game : MethodName := ⟨"WinterTellersModel", "game", "(IIII)I"⟩
abbrev c_Duel_isQuiet : ByteArray := prog_4_method_7_code
def y_Duel_isQuiet : MethodName := ⟨"WinterTellers$Duel", "isQuiet", "(II)Z"⟩
abbrev c_Duel_quietPair : ByteArray := prog_4_method_8_code
def y_Duel_quietPair : MethodName := ⟨"WinterTellers$Duel", "quietPair", "(I)I"⟩
abbrev c_W_rests : ByteArray := prog_1_method_36_code
def y_W_rests : MethodName := ⟨"WinterTellers", "rests", "(II)I"⟩
abbrev c_M_isRest : ByteArray := prog_14_method_97_code
def y_M_isRest : MethodName := ⟨"WinterTellersModel", "isRest", "(III)Z"⟩
abbrev c_M_rests : ByteArray := prog_14_method_98_code
def y_M_rests : MethodName := ⟨"WinterTellersModel", "rests", "(II)I"⟩
abbrev c_W_odds : ByteArray := prog_1_method_37_code
def y_W_odds : MethodName := ⟨"WinterTellers", "odds", "(IIII)I"⟩
abbrev c_M_odds : ByteArray := prog_14_method_99_code
def y_M_odds : MethodName := ⟨"WinterTellersModel", "odds", "(IIII)I"⟩
abbrev c_W_reach : ByteArray := prog_1_method_38_code
def y_W_reach : MethodName := ⟨"WinterTellers", "reach", "()I"⟩
abbrev c_M_reach : ByteArray := prog_14_method_100_code
def y_M_reach : MethodName := ⟨"WinterTellersModel", "reach", "()I"⟩
abbrev c_W_shares : ByteArray := prog_1_method_39_code
def y_W_shares : MethodName := ⟨"WinterTellers", "shares", "(II)I"⟩
abbrev c_M_shares : ByteArray := prog_14_method_101_code
def y_M_shares : MethodName := ⟨"WinterTellersModel", "shares", "(II)I"⟩
abbrev c_W_fresh : ByteArray := prog_1_method_40_code
def y_W_fresh : MethodName := ⟨"WinterTellers", "fresh", "(II)I"⟩
abbrev c_M_fresh : ByteArray := prog_14_method_102_code
def y_M_fresh : MethodName := ⟨"WinterTellersModel", "fresh", "(II)I"⟩
abbrev c_W_where : ByteArray := prog_1_method_41_code
def y_W_where : MethodName := ⟨"WinterTellers", "where", "(II)I"⟩
abbrev c_M_where : ByteArray := prog_14_method_88_code
def y_M_where : MethodName := ⟨"WinterTellersModel", "where", "(II)I"⟩
abbrev c_Plans_tellBestOnRound : ByteArray := prog_9_method_20_code
def y_Plans_tellBestOnRound : MethodName := ⟨"WinterTellers$Plans", "tellBestOnRound", "(I)V"⟩
abbrev c_Plans_goRound : ByteArray := prog_9_method_19_code
def y_Plans_goRound : MethodName := ⟨"WinterTellers$Plans", "goRound", "()V"⟩
abbrev c_W_round : ByteArray := prog_1_method_42_code
def y_W_round : MethodName := ⟨"WinterTellers", "round", "(I)I"⟩
abbrev c_M_tellBest : ByteArray := prog_14_method_103_code
def y_M_tellBest : MethodName := ⟨"WinterTellersModel", "tellBest", "()V"⟩
abbrev c_M_stepsTo : ByteArray := prog_14_method_104_code
def y_M_stepsTo : MethodName := ⟨"WinterTellersModel", "stepsTo", "(I)Z"⟩
abbrev c_M_round : ByteArray := prog_14_method_105_code
def y_M_round : MethodName := ⟨"WinterTellersModel", "round", "(I)I"⟩
abbrev c_W_highest : ByteArray := prog_1_method_44_code
def y_W_highest : MethodName := ⟨"WinterTellers", "highest", "([II)I"⟩
abbrev c_Plans_nightsIn : ByteArray := prog_9_method_15_code
def y_Plans_nightsIn : MethodName := ⟨"WinterTellers$Plans", "nightsIn", "(I)I"⟩
abbrev c_Plans_dullest : ByteArray := prog_9_method_16_code
def y_Plans_dullest : MethodName := ⟨"WinterTellers$Plans", "dullest", "()I"⟩
abbrev c_Coast_trueBits : ByteArray := prog_2_method_8_code
def y_Coast_trueBits : MethodName := ⟨"WinterTellers$Coast", "trueBits", "()I"⟩
abbrev c_W_commonBits : ByteArray := prog_1_method_45_code
def y_W_commonBits : MethodName := ⟨"WinterTellers", "commonBits", "()I"⟩
abbrev c_Plans_allNights : ByteArray := prog_9_method_17_code
def y_Plans_allNights : MethodName := ⟨"WinterTellers$Plans", "allNights", "()I"⟩
abbrev c_Plans_holdingHouses : ByteArray := prog_9_method_18_code
def y_Plans_holdingHouses : MethodName := ⟨"WinterTellers$Plans", "holdingHouses", "()I"⟩
abbrev c_W_most : ByteArray := prog_1_method_43_code
def y_W_most : MethodName := ⟨"WinterTellers", "most", "(I)I"⟩
abbrev c_M_topTale : ByteArray := prog_14_method_106_code
def y_M_topTale : MethodName := ⟨"WinterTellersModel", "topTale", "(Z)I"⟩
abbrev c_M_nightsOfAll : ByteArray := prog_14_method_107_code
def y_M_nightsOfAll : MethodName := ⟨"WinterTellersModel", "nightsOfAll", "(I)I"⟩
abbrev c_M_topHouse : ByteArray := prog_14_method_108_code
def y_M_topHouse : MethodName := ⟨"WinterTellersModel", "topHouse", "(I)I"⟩
abbrev c_M_trueOnes : ByteArray := prog_14_method_109_code
def y_M_trueOnes : MethodName := ⟨"WinterTellersModel", "trueOnes", "()I"⟩
abbrev c_M_commonOnes : ByteArray := prog_14_method_110_code
def y_M_commonOnes : MethodName := ⟨"WinterTellersModel", "commonOnes", "()I"⟩
abbrev c_M_overAll : ByteArray := prog_14_method_111_code
def y_M_overAll : MethodName := ⟨"WinterTellersModel", "overAll", "(Z)I"⟩
abbrev c_M_most : ByteArray := prog_14_method_112_code
def y_M_most : MethodName := ⟨"WinterTellersModel", "most", "(I)I"⟩
abbrev c_Past_keepImage : ByteArray := prog_8_method_5_code
def y_Past_keepImage : MethodName := ⟨"WinterTellers$Past", "keepImage", "(LWinterTellers$Stand;)V"⟩
abbrev c_W_image : ByteArray := prog_1_method_46_code
def y_W_image : MethodName := ⟨"WinterTellers", "image", "()I"⟩
abbrev c_M_image : ByteArray := prog_14_method_113_code
def y_M_image : MethodName := ⟨"WinterTellersModel", "image", "()I"⟩
abbrev c_Past_takeImage : ByteArray := prog_8_method_6_code
def y_Past_takeImage : MethodName := ⟨"WinterTellers$Past", "takeImage", "(LWinterTellers$Stand;)V"⟩
abbrev c_W_back : ByteArray := prog_1_method_47_code
def y_W_back : MethodName := ⟨"WinterTellers", "back", "()I"⟩
abbrev c_M_back : ByteArray := prog_14_method_114_code
def y_M_back : MethodName := ⟨"WinterTellersModel", "back", "()I"⟩
abbrev c_W_countOfStand : ByteArray := prog_1_method_49_code
def y_W_countOfStand : MethodName := ⟨"WinterTellers", "countOfStand", "(I)I"⟩
abbrev c_W_count : ByteArray := prog_1_method_48_code
def y_W_count : MethodName := ⟨"WinterTellers", "count", "(I)I"⟩
abbrev c_M_count : ByteArray := prog_14_method_115_code
def y_M_count : MethodName := ⟨"WinterTellersModel", "count", "(I)I"⟩
abbrev c_W_tale : ByteArray := prog_1_method_8_code
def y_W_tale : MethodName := ⟨"WinterTellers", "tale", "(II)I"⟩
theorem es_Tape_signsOf : mj_ES y_Tape_signsOf c_Tape_signsOf 3 (some .int) 1 := ⟨mj_tt (List.mem_of_getElem? (i := 446) (by decide +kernel)) (by decide +kernel), mj_tt (List.mem_of_getElem? (i := 2) (by decide +kernel)) (by decide +kernel), mj_tt (List.mem_of_getElem? (i := 445) (by decide +kernel)) (by decide +kernel), ⟨by decide +kernel, by decide +kernel, by decide +kernel⟩, by decide⟩
theorem ev_Tape_add : mj_EV mj_R10 y_Tape_add c_Tape_add 4 none 1 := ⟨mj_tt (List.mem_of_getElem? (i := 450) (by decide +kernel)) (by decide +kernel), mj_tt (List.mem_of_getElem? (i := 2) (by decide +kernel)) (by decide +kernel), mj_tt (List.mem_of_getElem? (i := 448) (by decide +kernel)) (by decide +kernel), mj_tt (List.mem_of_getElem? (i := 449) (by decide +kernel)) (by decide +kernel), ⟨by decide +kernel, by decide +kernel, by decide +kernel⟩, by decide⟩
theorem ev_W_feed : mj_EV mj_R11 y_W_feed c_W_feed 7 (some .int) 5 := ⟨mj_tt (List.mem_of_getElem? (i := 443) (by decide +kernel)) (by decide +kernel), mj_tt (List.mem_of_getElem? (i := 1) (by decide +kernel)) (by decide +kernel), mj_tt (List.mem_of_getElem? (i := 441) (by decide +kernel)) (by decide +kernel), mj_tt (List.mem_of_getElem? (i := 442) (by decide +kernel)) (by decide +kernel), ⟨by decide +kernel, by decide +kernel, by decide +kernel⟩, by decide⟩
theorem es_M_byteOf : mj_ES y_M_byteOf c_M_byteOf 7 (some .int) 6 := ⟨mj_tt (List.mem_of_getElem? (i := 1317) (by decide +kernel)) (by decide +kernel), mj_tt (List.mem_of_getElem? (i := 13) (by decide +kernel)) (by decide +kernel), mj_tt (List.mem_of_getElem? (i := 1316) (by decide +kernel)) (by decide +kernel), ⟨by decide +kernel, by decide +kernel, by decide +kernel⟩, by decide⟩
theorem ev_M_feed : mj_EV mj_R12 y_M_feed c_M_feed 9 (some .int) 5 := ⟨mj_tt (List.mem_of_getElem? (i := 1314) (by decide +kernel)) (by decide +kernel), mj_tt (List.mem_of_getElem? (i := 13) (by decide +kernel)) (by decide +kernel), mj_tt (List.mem_of_getElem? (i := 1312) (by decide +kernel)) (by decide +kernel), mj_tt (List.mem_of_getElem? (i := 1313) (by decide +kernel)) (by decide +kernel), ⟨by decide +kernel, by decide +kernel, by decide +kernel⟩, by decide⟩
theorem ev_W_end : mj_EV mj_R11 y_W_end c_W_end 2 (some .boolean) 1 := ⟨mj_tt (List.mem_of_getElem? (i := 454) (by decide +kernel)) (by decide +kernel), mj_tt (List.mem_of_getElem? (i := 1) (by decide +kernel)) (by decide +kernel), mj_tt (List.mem_of_getElem? (i := 452) (by decide +kernel)) (by decide +kernel), mj_tt (List.mem_of_getElem? (i := 453) (by decide +kernel)) (by decide +kernel), ⟨by decide +kernel, by decide +kernel, by decide +kernel⟩, by decide⟩
theorem ev_M_end : mj_EV mj_R12 y_M_end c_M_end 2 (some .boolean) 1 := ⟨mj_tt (List.mem_of_getElem? (i := 1321) (by decide +kernel)) (by decide +kernel), mj_tt (List.mem_of_getElem? (i := 13) (by decide +kernel)) (by decide +kernel), mj_tt (List.mem_of_getElem? (i := 1319) (by decide +kernel)) (by decide +kernel), mj_tt (List.mem_of_getElem? (i := 1320) (by decide +kernel)) (by decide +kernel), ⟨by decide +kernel, by decide +kernel, by decide +kernel⟩, by decide⟩
theorem ev_Tape_rewind : mj_EV mj_R10 y_Tape_rewind c_Tape_rewind 1 none 0 := ⟨mj_tt (List.mem_of_getElem? (i := 466) (by decide +kernel)) (by decide +kernel), mj_tt (List.mem_of_getElem? (i := 2) (by decide +kernel)) (by decide +kernel), mj_tt (List.mem_of_getElem? (i := 464) (by decide +kernel)) (by decide +kernel), mj_tt (List.mem_of_getElem? (i := 465) (by decide +kernel)) (by decide +kernel), ⟨by decide +kernel, by decide +kernel, by decide +kernel⟩, by decide⟩
theorem ev_Tape_skipBlanks : mj_EV mj_R10 y_Tape_skipBlanks c_Tape_skipBlanks 1 none 0 := ⟨mj_tt (List.mem_of_getElem? (i := 491) (by decide +kernel)) (by decide +kernel), mj_tt (List.mem_of_getElem? (i := 2) (by decide +kernel)) (by decide +kernel), mj_tt (List.mem_of_getElem? (i := 490) (by decide +kernel)) (by decide +kernel), mj_tp (List.mem_of_getElem? (i := 3) (by decide +kernel)) (by decide +kernel), ⟨by decide +kernel, by decide +kernel, by decide +kernel⟩, by decide⟩
theorem ev_Tape_peek : mj_EV mj_R10 y_Tape_peek c_Tape_peek 1 (some .int) 0 := ⟨mj_tt (List.mem_of_getElem? (i := 487) (by decide +kernel)) (by decide +kernel), mj_tt (List.mem_of_getElem? (i := 2) (by decide +kernel)) (by decide +kernel), mj_tt (List.mem_of_getElem? (i := 485) (by decide +kernel)) (by decide +kernel), mj_tt (List.mem_of_getElem? (i := 486) (by decide +kernel)) (by decide +kernel), ⟨by decide +kernel, by decide +kernel, by decide +kernel⟩, by decide⟩
theorem ev_Tape_fail : mj_EV mj_R10 y_Tape_fail c_Tape_fail 2 none 1 := ⟨mj_tt (List.mem_of_getElem? (i := 517) (by decide +kernel)) (by decide +kernel), mj_tt (List.mem_of_getElem? (i := 2) (by decide +kernel)) (by decide +kernel), mj_tt (List.mem_of_getElem? (i := 515) (by decide +kernel)) (by decide +kernel), mj_tt (List.mem_of_getElem? (i := 516) (by decide +kernel)) (by decide +kernel), ⟨by decide +kernel, by decide +kernel, by decide +kernel⟩, by decide⟩
theorem ev_Tape_demand : mj_EV mj_R10 y_Tape_demand c_Tape_demand 2 none 1 := ⟨mj_tt (List.mem_of_getElem? (i := 548) (by decide +kernel)) (by decide +kernel), mj_tt (List.mem_of_getElem? (i := 2) (by decide +kernel)) (by decide +kernel), mj_tt (List.mem_of_getElem? (i := 546) (by decide +kernel)) (by decide +kernel), mj_tt (List.mem_of_getElem? (i := 547) (by decide +kernel)) (by decide +kernel), ⟨by decide +kernel, by decide +kernel, by decide +kernel⟩, by decide⟩
theorem ev_Tape_atDigit : mj_EV mj_R10 y_Tape_atDigit c_Tape_atDigit 1 (some .boolean) 0 := ⟨mj_tt (List.mem_of_getElem? (i := 513) (by decide +kernel)) (by decide +kernel), mj_tt (List.mem_of_getElem? (i := 2) (by decide +kernel)) (by decide +kernel), mj_tt (List.mem_of_getElem? (i := 512) (by decide +kernel)) (by decide +kernel), mj_tp (List.mem_of_getElem? (i := 6) (by decide +kernel)) (by decide +kernel), ⟨by decide +kernel, by decide +kernel, by decide +kernel⟩, by decide⟩
theorem ev_Tape_number : mj_EV mj_R10 y_Tape_number c_Tape_number 6 (some .int) 3 := ⟨mj_tt (List.mem_of_getElem? (i := 509) (by decide +kernel)) (by decide +kernel), mj_tt (List.mem_of_getElem? (i := 2) (by decide +kernel)) (by decide +kernel), mj_tt (List.mem_of_getElem? (i := 507) (by decide +kernel)) (by decide +kernel), mj_tt (List.mem_of_getElem? (i := 508) (by decide +kernel)) (by decide +kernel), ⟨by decide +kernel, by decide +kernel, by decide +kernel⟩, by decide⟩
theorem ev_LawReader_write : mj_EV mj_R4 y_LawReader_write c_LawReader_write 3 none 2 := ⟨mj_tt (List.mem_of_getElem? (i := 566) (by decide +kernel)) (by decide +kernel), mj_tt (List.mem_of_getElem? (i := 5) (by decide +kernel)) (by decide +kernel), mj_tt (List.mem_of_getElem? (i := 565) (by decide +kernel)) (by decide +kernel), mj_tp (List.mem_of_getElem? (i := 13) (by decide +kernel)) (by decide +kernel), ⟨by decide +kernel, by decide +kernel, by decide +kernel⟩, by decide⟩
theorem ev_LawReader_readLetter : mj_EV mj_R4 y_LawReader_readLetter c_LawReader_readLetter 3 none 1 := ⟨mj_tt (List.mem_of_getElem? (i := 575) (by decide +kernel)) (by decide +kernel), mj_tt (List.mem_of_getElem? (i := 5) (by decide +kernel)) (by decide +kernel), mj_tt (List.mem_of_getElem? (i := 574) (by decide +kernel)) (by decide +kernel), mj_tp (List.mem_of_getElem? (i := 15) (by decide +kernel)) (by decide +kernel), ⟨by decide +kernel, by decide +kernel, by decide +kernel⟩, by decide⟩
theorem ev_LawReader_goesDeeper : mj_EV mj_R4 y_LawReader_goesDeeper c_LawReader_goesDeeper 2 (some .boolean) 1 := ⟨mj_tt (List.mem_of_getElem? (i := 570) (by decide +kernel)) (by decide +kernel), mj_tt (List.mem_of_getElem? (i := 5) (by decide +kernel)) (by decide +kernel), mj_tt (List.mem_of_getElem? (i := 569) (by decide +kernel)) (by decide +kernel), mj_tp (List.mem_of_getElem? (i := 14) (by decide +kernel)) (by decide +kernel), ⟨by decide +kernel, by decide +kernel, by decide +kernel⟩, by decide⟩
theorem ev_LawReader_readAtom : mj_EV mj_R4 y_LawReader_readAtom c_LawReader_readAtom 3 none 1 := ⟨mj_tt (List.mem_of_getElem? (i := 561) (by decide +kernel)) (by decide +kernel), mj_tt (List.mem_of_getElem? (i := 5) (by decide +kernel)) (by decide +kernel), mj_tt (List.mem_of_getElem? (i := 560) (by decide +kernel)) (by decide +kernel), mj_tp (List.mem_of_getElem? (i := 12) (by decide +kernel)) (by decide +kernel), ⟨by decide +kernel, by decide +kernel, by decide +kernel⟩, by decide⟩
theorem ev_LawReader_readTerm : mj_EV mj_R4 y_LawReader_readTerm c_LawReader_readTerm 4 none 1 := ⟨mj_tt (List.mem_of_getElem? (i := 557) (by decide +kernel)) (by decide +kernel), mj_tt (List.mem_of_getElem? (i := 5) (by decide +kernel)) (by decide +kernel), mj_tt (List.mem_of_getElem? (i := 556) (by decide +kernel)) (by decide +kernel), mj_tp (List.mem_of_getElem? (i := 11) (by decide +kernel)) (by decide +kernel), ⟨by decide +kernel, by decide +kernel, by decide +kernel⟩, by decide⟩
theorem ev_LawReader_readSum : mj_EV mj_R4 y_LawReader_readSum c_LawReader_readSum 4 none 1 := ⟨mj_tt (List.mem_of_getElem? (i := 553) (by decide +kernel)) (by decide +kernel), mj_tt (List.mem_of_getElem? (i := 5) (by decide +kernel)) (by decide +kernel), mj_tt (List.mem_of_getElem? (i := 552) (by decide +kernel)) (by decide +kernel), mj_tp (List.mem_of_getElem? (i := 10) (by decide +kernel)) (by decide +kernel), ⟨by decide +kernel, by decide +kernel, by decide +kernel⟩, by decide⟩
theorem es_LawReader_isComparison : mj_ES y_LawReader_isComparison c_LawReader_isComparison 1 (some .boolean) 1 := ⟨mj_tt (List.mem_of_getElem? (i := 580) (by decide +kernel)) (by decide +kernel), mj_tt (List.mem_of_getElem? (i := 5) (by decide +kernel)) (by decide +kernel), mj_tt (List.mem_of_getElem? (i := 579) (by decide +kernel)) (by decide +kernel), ⟨by decide +kernel, by decide +kernel, by decide +kernel⟩, by decide⟩
theorem ev_Tape_takes : mj_EV mj_R10 y_Tape_takes c_Tape_takes 2 (some .boolean) 1 := ⟨mj_tt (List.mem_of_getElem? (i := 530) (by decide +kernel)) (by decide +kernel), mj_tt (List.mem_of_getElem? (i := 2) (by decide +kernel)) (by decide +kernel), mj_tt (List.mem_of_getElem? (i := 528) (by decide +kernel)) (by decide +kernel), mj_tt (List.mem_of_getElem? (i := 529) (by decide +kernel)) (by decide +kernel), ⟨by decide +kernel, by decide +kernel, by decide +kernel⟩, by decide⟩
theorem ev_LawReader_readTruth : mj_EV mj_R4 y_LawReader_readTruth c_LawReader_readTruth 4 none 2 := ⟨mj_tt (List.mem_of_getElem? (i := 588) (by decide +kernel)) (by decide +kernel), mj_tt (List.mem_of_getElem? (i := 5) (by decide +kernel)) (by decide +kernel), mj_tt (List.mem_of_getElem? (i := 587) (by decide +kernel)) (by decide +kernel), mj_tp (List.mem_of_getElem? (i := 17) (by decide +kernel)) (by decide +kernel), ⟨by decide +kernel, by decide +kernel, by decide +kernel⟩, by decide⟩
theorem ev_LawReader_readCondition : mj_EV mj_R4 y_LawReader_readCondition c_LawReader_readCondition 4 none 2 := ⟨mj_tt (List.mem_of_getElem? (i := 584) (by decide +kernel)) (by decide +kernel), mj_tt (List.mem_of_getElem? (i := 5) (by decide +kernel)) (by decide +kernel), mj_tt (List.mem_of_getElem? (i := 583) (by decide +kernel)) (by decide +kernel), mj_tp (List.mem_of_getElem? (i := 16) (by decide +kernel)) (by decide +kernel), ⟨by decide +kernel, by decide +kernel, by decide +kernel⟩, by decide⟩
theorem ev_LawReader_readUnit : mj_EV mj_R4 y_LawReader_readUnit c_LawReader_readUnit 5 none 2 := ⟨mj_tt (List.mem_of_getElem? (i := 592) (by decide +kernel)) (by decide +kernel), mj_tt (List.mem_of_getElem? (i := 5) (by decide +kernel)) (by decide +kernel), mj_tt (List.mem_of_getElem? (i := 591) (by decide +kernel)) (by decide +kernel), mj_tp (List.mem_of_getElem? (i := 18) (by decide +kernel)) (by decide +kernel), ⟨by decide +kernel, by decide +kernel, by decide +kernel⟩, by decide⟩
theorem ev_LawReader_readClause : mj_EV mj_R4 y_LawReader_readClause c_LawReader_readClause 3 none 0 := ⟨mj_tt (List.mem_of_getElem? (i := 544) (by decide +kernel)) (by decide +kernel), mj_tt (List.mem_of_getElem? (i := 5) (by decide +kernel)) (by decide +kernel), mj_tt (List.mem_of_getElem? (i := 543) (by decide +kernel)) (by decide +kernel), mj_tp (List.mem_of_getElem? (i := 9) (by decide +kernel)) (by decide +kernel), ⟨by decide +kernel, by decide +kernel, by decide +kernel⟩, by decide⟩
theorem ev_Tape_demandEnd : mj_EV mj_R10 y_Tape_demandEnd c_Tape_demandEnd 1 none 0 := ⟨mj_tt (List.mem_of_getElem? (i := 535) (by decide +kernel)) (by decide +kernel), mj_tt (List.mem_of_getElem? (i := 2) (by decide +kernel)) (by decide +kernel), mj_tt (List.mem_of_getElem? (i := 533) (by decide +kernel)) (by decide +kernel), mj_tt (List.mem_of_getElem? (i := 534) (by decide +kernel)) (by decide +kernel), ⟨by decide +kernel, by decide +kernel, by decide +kernel⟩, by decide⟩
theorem ev_LawReader_read : mj_EV mj_R4 y_LawReader_read c_LawReader_read 2 (some .int) 0 := ⟨mj_tt (List.mem_of_getElem? (i := 539) (by decide +kernel)) (by decide +kernel), mj_tt (List.mem_of_getElem? (i := 5) (by decide +kernel)) (by decide +kernel), mj_tt (List.mem_of_getElem? (i := 537) (by decide +kernel)) (by decide +kernel), mj_tt (List.mem_of_getElem? (i := 538) (by decide +kernel)) (by decide +kernel), ⟨by decide +kernel, by decide +kernel, by decide +kernel⟩, by decide⟩
theorem ev_CoastReader_takeItemsWithout : mj_EV mj_R1 y_CoastReader_takeItemsWithout c_CoastReader_takeItemsWithout 3 none 2 := ⟨mj_tt (List.mem_of_getElem? (i := 470) (by decide +kernel)) (by decide +kernel), mj_tt (List.mem_of_getElem? (i := 3) (by decide +kernel)) (by decide +kernel), mj_tt (List.mem_of_getElem? (i := 469) (by decide +kernel)) (by decide +kernel), mj_tp (List.mem_of_getElem? (i := 0) (by decide +kernel)) (by decide +kernel), ⟨by decide +kernel, by decide +kernel, by decide +kernel⟩, by decide⟩
theorem ev_CoastReader_keepRules : mj_EV mj_R1 y_CoastReader_keepRules c_CoastReader_keepRules 1 none 0 := ⟨mj_tt (List.mem_of_getElem? (i := 479) (by decide +kernel)) (by decide +kernel), mj_tt (List.mem_of_getElem? (i := 3) (by decide +kernel)) (by decide +kernel), mj_tt (List.mem_of_getElem? (i := 478) (by decide +kernel)) (by decide +kernel), mj_tp (List.mem_of_getElem? (i := 1) (by decide +kernel)) (by decide +kernel), ⟨by decide +kernel, by decide +kernel, by decide +kernel⟩, by decide⟩
theorem ev_CoastReader_itemAt : mj_EV mj_R1 y_CoastReader_itemAt c_CoastReader_itemAt 6 (some .int) 3 := ⟨mj_tt (List.mem_of_getElem? (i := 499) (by decide +kernel)) (by decide +kernel), mj_tt (List.mem_of_getElem? (i := 3) (by decide +kernel)) (by decide +kernel), mj_tt (List.mem_of_getElem? (i := 498) (by decide +kernel)) (by decide +kernel), mj_tp (List.mem_of_getElem? (i := 5) (by decide +kernel)) (by decide +kernel), ⟨by decide +kernel, by decide +kernel, by decide +kernel⟩, by decide⟩
theorem ev_CoastReader_readItems : mj_EV mj_R1 y_CoastReader_readItems c_CoastReader_readItems 6 none 2 := ⟨mj_tt (List.mem_of_getElem? (i := 495) (by decide +kernel)) (by decide +kernel), mj_tt (List.mem_of_getElem? (i := 3) (by decide +kernel)) (by decide +kernel), mj_tt (List.mem_of_getElem? (i := 494) (by decide +kernel)) (by decide +kernel), mj_tp (List.mem_of_getElem? (i := 4) (by decide +kernel)) (by decide +kernel), ⟨by decide +kernel, by decide +kernel, by decide +kernel⟩, by decide⟩
theorem ev_CoastReader_keepHouse : mj_EV mj_R1 y_CoastReader_keepHouse c_CoastReader_keepHouse 2 none 0 := ⟨mj_tt (List.mem_of_getElem? (i := 521) (by decide +kernel)) (by decide +kernel), mj_tt (List.mem_of_getElem? (i := 3) (by decide +kernel)) (by decide +kernel), mj_tt (List.mem_of_getElem? (i := 520) (by decide +kernel)) (by decide +kernel), mj_tp (List.mem_of_getElem? (i := 7) (by decide +kernel)) (by decide +kernel), ⟨by decide +kernel, by decide +kernel, by decide +kernel⟩, by decide⟩
theorem ev_CoastReader_keepTale : mj_EV mj_R1 y_CoastReader_keepTale c_CoastReader_keepTale 2 none 0 := ⟨mj_tt (List.mem_of_getElem? (i := 525) (by decide +kernel)) (by decide +kernel), mj_tt (List.mem_of_getElem? (i := 3) (by decide +kernel)) (by decide +kernel), mj_tt (List.mem_of_getElem? (i := 524) (by decide +kernel)) (by decide +kernel), mj_tp (List.mem_of_getElem? (i := 8) (by decide +kernel)) (by decide +kernel), ⟨by decide +kernel, by decide +kernel, by decide +kernel⟩, by decide⟩
theorem ev_CoastReader_readClause : mj_EV mj_R1 y_CoastReader_readClause c_CoastReader_readClause 2 none 0 := ⟨mj_tt (List.mem_of_getElem? (i := 483) (by decide +kernel)) (by decide +kernel), mj_tt (List.mem_of_getElem? (i := 3) (by decide +kernel)) (by decide +kernel), mj_tt (List.mem_of_getElem? (i := 482) (by decide +kernel)) (by decide +kernel), mj_tp (List.mem_of_getElem? (i := 2) (by decide +kernel)) (by decide +kernel), ⟨by decide +kernel, by decide +kernel, by decide +kernel⟩, by decide⟩
theorem ev_CoastReader_read : mj_EV mj_R1 y_CoastReader_read c_CoastReader_read 2 (some .int) 0 := ⟨mj_tt (List.mem_of_getElem? (i := 462) (by decide +kernel)) (by decide +kernel), mj_tt (List.mem_of_getElem? (i := 3) (by decide +kernel)) (by decide +kernel), mj_tt (List.mem_of_getElem? (i := 460) (by decide +kernel)) (by decide +kernel), mj_tt (List.mem_of_getElem? (i := 461) (by decide +kernel)) (by decide +kernel), ⟨by decide +kernel, by decide +kernel, by decide +kernel⟩, by decide⟩
theorem ev_W_fault : mj_EV mj_R11 y_W_fault c_W_fault 2 (some .int) 1 := ⟨mj_tt (List.mem_of_getElem? (i := 458) (by decide +kernel)) (by decide +kernel), mj_tt (List.mem_of_getElem? (i := 1) (by decide +kernel)) (by decide +kernel), mj_tt (List.mem_of_getElem? (i := 456) (by decide +kernel)) (by decide +kernel), mj_tt (List.mem_of_getElem? (i := 457) (by decide +kernel)) (by decide +kernel), ⟨by decide +kernel, by decide +kernel, by decide +kernel⟩, by decide⟩
theorem ev_M_open : mj_EV mj_R12 y_M_open c_M_open 2 none 1 := ⟨mj_tt (List.mem_of_getElem? (i := 1375) (by decide +kernel)) (by decide +kernel), mj_tt (List.mem_of_getElem? (i := 13) (by decide +kernel)) (by decide +kernel), mj_tt (List.mem_of_getElem? (i := 1374) (by decide +kernel)) (by decide +kernel), mj_tp (List.mem_of_getElem? (i := 49) (by decide +kernel)) (by decide +kernel), ⟨by decide +kernel, by decide +kernel, by decide +kernel⟩, by decide⟩
theorem ev_M_here : mj_EV mj_R12 y_M_here c_M_here 1 (some .int) 0 := ⟨mj_tt (List.mem_of_getElem? (i := 1340) (by decide +kernel)) (by decide +kernel), mj_tt (List.mem_of_getElem? (i := 13) (by decide +kernel)) (by decide +kernel), mj_tt (List.mem_of_getElem? (i := 1339) (by decide +kernel)) (by decide +kernel), mj_tp (List.mem_of_getElem? (i := 44) (by decide +kernel)) (by decide +kernel), ⟨by decide +kernel, by decide +kernel, by decide +kernel⟩, by decide⟩
theorem ev_M_look : mj_EV mj_R12 y_M_look c_M_look 1 (some .int) 0 := ⟨mj_tt (List.mem_of_getElem? (i := 1336) (by decide +kernel)) (by decide +kernel), mj_tt (List.mem_of_getElem? (i := 13) (by decide +kernel)) (by decide +kernel), mj_tt (List.mem_of_getElem? (i := 1335) (by decide +kernel)) (by decide +kernel), mj_tp (List.mem_of_getElem? (i := 43) (by decide +kernel)) (by decide +kernel), ⟨by decide +kernel, by decide +kernel, by decide +kernel⟩, by decide⟩
theorem ev_M_bad : mj_EV mj_R12 y_M_bad c_M_bad 1 none 0 := ⟨mj_tt (List.mem_of_getElem? (i := 1364) (by decide +kernel)) (by decide +kernel), mj_tt (List.mem_of_getElem? (i := 13) (by decide +kernel)) (by decide +kernel), mj_tt (List.mem_of_getElem? (i := 1363) (by decide +kernel)) (by decide +kernel), mj_tp (List.mem_of_getElem? (i := 47) (by decide +kernel)) (by decide +kernel), ⟨by decide +kernel, by decide +kernel, by decide +kernel⟩, by decide⟩
theorem es_M_isDigit : mj_ES y_M_isDigit c_M_isDigit 1 (some .boolean) 1 := ⟨mj_tt (List.mem_of_getElem? (i := 1360) (by decide +kernel)) (by decide +kernel), mj_tt (List.mem_of_getElem? (i := 13) (by decide +kernel)) (by decide +kernel), mj_tt (List.mem_of_getElem? (i := 1359) (by decide +kernel)) (by decide +kernel), ⟨by decide +kernel, by decide +kernel, by decide +kernel⟩, by decide⟩
theorem es_M_letterOf : mj_ES y_M_letterOf c_M_letterOf 1 (some .int) 1 := ⟨mj_tt (List.mem_of_getElem? (i := 1418) (by decide +kernel)) (by decide +kernel), mj_tt (List.mem_of_getElem? (i := 13) (by decide +kernel)) (by decide +kernel), mj_tt (List.mem_of_getElem? (i := 1417) (by decide +kernel)) (by decide +kernel), ⟨by decide +kernel, by decide +kernel, by decide +kernel⟩, by decide⟩
theorem ev_M_opens : mj_EV mj_R12 y_M_opens c_M_opens 1 none 0 := ⟨mj_tt (List.mem_of_getElem? (i := 1391) (by decide +kernel)) (by decide +kernel), mj_tt (List.mem_of_getElem? (i := 13) (by decide +kernel)) (by decide +kernel), mj_tt (List.mem_of_getElem? (i := 1390) (by decide +kernel)) (by decide +kernel), mj_tp (List.mem_of_getElem? (i := 53) (by decide +kernel)) (by decide +kernel), ⟨by decide +kernel, by decide +kernel, by decide +kernel⟩, by decide⟩
theorem ev_M_closes : mj_EV mj_R12 y_M_closes c_M_closes 2 none 1 := ⟨mj_tt (List.mem_of_getElem? (i := 1399) (by decide +kernel)) (by decide +kernel), mj_tt (List.mem_of_getElem? (i := 13) (by decide +kernel)) (by decide +kernel), mj_tt (List.mem_of_getElem? (i := 1398) (by decide +kernel)) (by decide +kernel), mj_tp (List.mem_of_getElem? (i := 55) (by decide +kernel)) (by decide +kernel), ⟨by decide +kernel, by decide +kernel, by decide +kernel⟩, by decide⟩
theorem ev_M_put : mj_EV mj_R12 y_M_put c_M_put 3 none 2 := ⟨mj_tt (List.mem_of_getElem? (i := 1395) (by decide +kernel)) (by decide +kernel), mj_tt (List.mem_of_getElem? (i := 13) (by decide +kernel)) (by decide +kernel), mj_tt (List.mem_of_getElem? (i := 1394) (by decide +kernel)) (by decide +kernel), mj_tp (List.mem_of_getElem? (i := 54) (by decide +kernel)) (by decide +kernel), ⟨by decide +kernel, by decide +kernel, by decide +kernel⟩, by decide⟩
theorem ev_M_plainNumber : mj_EV mj_R12 y_M_plainNumber c_M_plainNumber 3 (some .int) 0 := ⟨mj_tt (List.mem_of_getElem? (i := 1415) (by decide +kernel)) (by decide +kernel), mj_tt (List.mem_of_getElem? (i := 13) (by decide +kernel)) (by decide +kernel), mj_tt (List.mem_of_getElem? (i := 1414) (by decide +kernel)) (by decide +kernel), mj_tp (List.mem_of_getElem? (i := 59) (by decide +kernel)) (by decide +kernel), ⟨by decide +kernel, by decide +kernel, by decide +kernel⟩, by decide⟩
theorem ev_M_atom : mj_EV mj_R12 y_M_atom c_M_atom 2 none 0 := ⟨mj_tt (List.mem_of_getElem? (i := 1411) (by decide +kernel)) (by decide +kernel), mj_tt (List.mem_of_getElem? (i := 13) (by decide +kernel)) (by decide +kernel), mj_tt (List.mem_of_getElem? (i := 1410) (by decide +kernel)) (by decide +kernel), mj_tp (List.mem_of_getElem? (i := 58) (by decide +kernel)) (by decide +kernel), ⟨by decide +kernel, by decide +kernel, by decide +kernel⟩, by decide⟩
theorem ev_M_term : mj_EV mj_R12 y_M_term c_M_term 2 none 0 := ⟨mj_tt (List.mem_of_getElem? (i := 1407) (by decide +kernel)) (by decide +kernel), mj_tt (List.mem_of_getElem? (i := 13) (by decide +kernel)) (by decide +kernel), mj_tt (List.mem_of_getElem? (i := 1406) (by decide +kernel)) (by decide +kernel), mj_tp (List.mem_of_getElem? (i := 57) (by decide +kernel)) (by decide +kernel), ⟨by decide +kernel, by decide +kernel, by decide +kernel⟩, by decide⟩
theorem ev_M_sum : mj_EV mj_R12 y_M_sum c_M_sum 2 none 0 := ⟨mj_tt (List.mem_of_getElem? (i := 1403) (by decide +kernel)) (by decide +kernel), mj_tt (List.mem_of_getElem? (i := 13) (by decide +kernel)) (by decide +kernel), mj_tt (List.mem_of_getElem? (i := 1402) (by decide +kernel)) (by decide +kernel), mj_tp (List.mem_of_getElem? (i := 56) (by decide +kernel)) (by decide +kernel), ⟨by decide +kernel, by decide +kernel, by decide +kernel⟩, by decide⟩
theorem es_M_isSign : mj_ES y_M_isSign c_M_isSign 1 (some .boolean) 1 := ⟨mj_tt (List.mem_of_getElem? (i := 1425) (by decide +kernel)) (by decide +kernel), mj_tt (List.mem_of_getElem? (i := 13) (by decide +kernel)) (by decide +kernel), mj_tt (List.mem_of_getElem? (i := 1424) (by decide +kernel)) (by decide +kernel), ⟨by decide +kernel, by decide +kernel, by decide +kernel⟩, by decide⟩
theorem ev_M_compare : mj_EV mj_R12 y_M_compare c_M_compare 2 none 0 := ⟨mj_tt (List.mem_of_getElem? (i := 1422) (by decide +kernel)) (by decide +kernel), mj_tt (List.mem_of_getElem? (i := 13) (by decide +kernel)) (by decide +kernel), mj_tt (List.mem_of_getElem? (i := 1421) (by decide +kernel)) (by decide +kernel), mj_tp (List.mem_of_getElem? (i := 60) (by decide +kernel)) (by decide +kernel), ⟨by decide +kernel, by decide +kernel, by decide +kernel⟩, by decide⟩
theorem ev_M_goOnAnd : mj_EV mj_R12 y_M_goOnAnd c_M_goOnAnd 1 none 0 := ⟨mj_tt (List.mem_of_getElem? (i := 1429) (by decide +kernel)) (by decide +kernel), mj_tt (List.mem_of_getElem? (i := 13) (by decide +kernel)) (by decide +kernel), mj_tt (List.mem_of_getElem? (i := 1428) (by decide +kernel)) (by decide +kernel), mj_tp (List.mem_of_getElem? (i := 61) (by decide +kernel)) (by decide +kernel), ⟨by decide +kernel, by decide +kernel, by decide +kernel⟩, by decide⟩
theorem ev_M_goOnOr : mj_EV mj_R12 y_M_goOnOr c_M_goOnOr 1 none 0 := ⟨mj_tt (List.mem_of_getElem? (i := 1433) (by decide +kernel)) (by decide +kernel), mj_tt (List.mem_of_getElem? (i := 13) (by decide +kernel)) (by decide +kernel), mj_tt (List.mem_of_getElem? (i := 1432) (by decide +kernel)) (by decide +kernel), mj_tp (List.mem_of_getElem? (i := 62) (by decide +kernel)) (by decide +kernel), ⟨by decide +kernel, by decide +kernel, by decide +kernel⟩, by decide⟩
theorem ev_M_condition : mj_EV mj_R12 y_M_condition c_M_condition 1 none 0 := ⟨mj_tt (List.mem_of_getElem? (i := 1383) (by decide +kernel)) (by decide +kernel), mj_tt (List.mem_of_getElem? (i := 13) (by decide +kernel)) (by decide +kernel), mj_tt (List.mem_of_getElem? (i := 1382) (by decide +kernel)) (by decide +kernel), mj_tp (List.mem_of_getElem? (i := 51) (by decide +kernel)) (by decide +kernel), ⟨by decide +kernel, by decide +kernel, by decide +kernel⟩, by decide⟩
theorem ev_M_unit : mj_EV mj_R12 y_M_unit c_M_unit 2 none 0 := ⟨mj_tt (List.mem_of_getElem? (i := 1387) (by decide +kernel)) (by decide +kernel), mj_tt (List.mem_of_getElem? (i := 13) (by decide +kernel)) (by decide +kernel), mj_tt (List.mem_of_getElem? (i := 1386) (by decide +kernel)) (by decide +kernel), mj_tp (List.mem_of_getElem? (i := 52) (by decide +kernel)) (by decide +kernel), ⟨by decide +kernel, by decide +kernel, by decide +kernel⟩, by decide⟩
theorem ev_M_clause : mj_EV mj_R12 y_M_clause c_M_clause 3 none 0 := ⟨mj_tt (List.mem_of_getElem? (i := 1379) (by decide +kernel)) (by decide +kernel), mj_tt (List.mem_of_getElem? (i := 13) (by decide +kernel)) (by decide +kernel), mj_tt (List.mem_of_getElem? (i := 1378) (by decide +kernel)) (by decide +kernel), mj_tp (List.mem_of_getElem? (i := 50) (by decide +kernel)) (by decide +kernel), ⟨by decide +kernel, by decide +kernel, by decide +kernel⟩, by decide⟩
theorem ev_M_atEnd : mj_EV mj_R12 y_M_atEnd c_M_atEnd 1 (some .int) 0 := ⟨mj_tt (List.mem_of_getElem? (i := 1437) (by decide +kernel)) (by decide +kernel), mj_tt (List.mem_of_getElem? (i := 13) (by decide +kernel)) (by decide +kernel), mj_tt (List.mem_of_getElem? (i := 1436) (by decide +kernel)) (by decide +kernel), mj_tp (List.mem_of_getElem? (i := 63) (by decide +kernel)) (by decide +kernel), ⟨by decide +kernel, by decide +kernel, by decide +kernel⟩, by decide⟩
theorem ev_M_readLaw : mj_EV mj_R12 y_M_readLaw c_M_readLaw 2 (some .int) 1 := ⟨mj_tt (List.mem_of_getElem? (i := 1371) (by decide +kernel)) (by decide +kernel), mj_tt (List.mem_of_getElem? (i := 13) (by decide +kernel)) (by decide +kernel), mj_tt (List.mem_of_getElem? (i := 1370) (by decide +kernel)) (by decide +kernel), mj_tp (List.mem_of_getElem? (i := 48) (by decide +kernel)) (by decide +kernel), ⟨by decide +kernel, by decide +kernel, by decide +kernel⟩, by decide⟩
theorem es_M_usual : mj_ES y_M_usual c_M_usual 2 (some .int) 2 := ⟨mj_tt (List.mem_of_getElem? (i := 1332) (by decide +kernel)) (by decide +kernel), mj_tt (List.mem_of_getElem? (i := 13) (by decide +kernel)) (by decide +kernel), mj_tt (List.mem_of_getElem? (i := 1331) (by decide +kernel)) (by decide +kernel), ⟨by decide +kernel, by decide +kernel, by decide +kernel⟩, by decide⟩
theorem es_M_itemOf : mj_ES y_M_itemOf c_M_itemOf 2 (some .int) 2 := ⟨mj_tt (List.mem_of_getElem? (i := 1347) (by decide +kernel)) (by decide +kernel), mj_tt (List.mem_of_getElem? (i := 13) (by decide +kernel)) (by decide +kernel), mj_tt (List.mem_of_getElem? (i := 1346) (by decide +kernel)) (by decide +kernel), ⟨by decide +kernel, by decide +kernel, by decide +kernel⟩, by decide⟩
theorem es_M_has : mj_ES y_M_has c_M_has 2 (some .boolean) 2 := ⟨mj_tt (List.mem_of_getElem? (i := 1350) (by decide +kernel)) (by decide +kernel), mj_tt (List.mem_of_getElem? (i := 13) (by decide +kernel)) (by decide +kernel), mj_tt (List.mem_of_getElem? (i := 1349) (by decide +kernel)) (by decide +kernel), ⟨by decide +kernel, by decide +kernel, by decide +kernel⟩, by decide⟩
theorem es_M_highest : mj_ES y_M_highest c_M_highest 2 (some .int) 2 := ⟨mj_tt (List.mem_of_getElem? (i := 1353) (by decide +kernel)) (by decide +kernel), mj_tt (List.mem_of_getElem? (i := 13) (by decide +kernel)) (by decide +kernel), mj_tt (List.mem_of_getElem? (i := 1352) (by decide +kernel)) (by decide +kernel), ⟨by decide +kernel, by decide +kernel, by decide +kernel⟩, by decide⟩
theorem es_M_in : mj_ES y_M_in c_M_in 3 (some .boolean) 3 := ⟨mj_tt (List.mem_of_getElem? (i := 1367) (by decide +kernel)) (by decide +kernel), mj_tt (List.mem_of_getElem? (i := 13) (by decide +kernel)) (by decide +kernel), mj_tt (List.mem_of_getElem? (i := 1366) (by decide +kernel)) (by decide +kernel), ⟨by decide +kernel, by decide +kernel, by decide +kernel⟩, by decide⟩
theorem ev_M_number : mj_EV mj_R12 y_M_number c_M_number 4 (some .int) 2 := ⟨mj_tt (List.mem_of_getElem? (i := 1357) (by decide +kernel)) (by decide +kernel), mj_tt (List.mem_of_getElem? (i := 13) (by decide +kernel)) (by decide +kernel), mj_tt (List.mem_of_getElem? (i := 1356) (by decide +kernel)) (by decide +kernel), mj_tp (List.mem_of_getElem? (i := 46) (by decide +kernel)) (by decide +kernel), ⟨by decide +kernel, by decide +kernel, by decide +kernel⟩, by decide⟩
theorem ev_M_items : mj_EV mj_R12 y_M_items c_M_items 7 none 4 := ⟨mj_tt (List.mem_of_getElem? (i := 1344) (by decide +kernel)) (by decide +kernel), mj_tt (List.mem_of_getElem? (i := 13) (by decide +kernel)) (by decide +kernel), mj_tt (List.mem_of_getElem? (i := 1343) (by decide +kernel)) (by decide +kernel), mj_tp (List.mem_of_getElem? (i := 45) (by decide +kernel)) (by decide +kernel), ⟨by decide +kernel, by decide +kernel, by decide +kernel⟩, by decide⟩
theorem ev_M_readCoast : mj_EV mj_R12 y_M_readCoast c_M_readCoast 4 (some .int) 0 := ⟨mj_tt (List.mem_of_getElem? (i := 1329) (by decide +kernel)) (by decide +kernel), mj_tt (List.mem_of_getElem? (i := 13) (by decide +kernel)) (by decide +kernel), mj_tt (List.mem_of_getElem? (i := 1328) (by decide +kernel)) (by decide +kernel), mj_tp (List.mem_of_getElem? (i := 42) (by decide +kernel)) (by decide +kernel), ⟨by decide +kernel, by decide +kernel, by decide +kernel⟩, by decide⟩
theorem ev_M_fault : mj_EV mj_R12 y_M_fault c_M_fault 2 (some .int) 1 := ⟨mj_tt (List.mem_of_getElem? (i := 1325) (by decide +kernel)) (by decide +kernel), mj_tt (List.mem_of_getElem? (i := 13) (by decide +kernel)) (by decide +kernel), mj_tt (List.mem_of_getElem? (i := 1323) (by decide +kernel)) (by decide +kernel), mj_tt (List.mem_of_getElem? (i := 1324) (by decide +kernel)) (by decide +kernel), ⟨by decide +kernel, by decide +kernel, by decide +kernel⟩, by decide⟩
theorem ev_Coast_become : mj_EV mj_R0 y_Coast_become c_Coast_become 2 none 1 := ⟨mj_tt (List.mem_of_getElem? (i := 606) (by decide +kernel)) (by decide +kernel), mj_tt (List.mem_of_getElem? (i := 4) (by decide +kernel)) (by decide +kernel), mj_tt (List.mem_of_getElem? (i := 604) (by decide +kernel)) (by decide +kernel), mj_tt (List.mem_of_getElem? (i := 605) (by decide +kernel)) (by decide +kernel), ⟨by decide +kernel, by decide +kernel, by decide +kernel⟩, by decide⟩
theorem ev_Coast_allTales : mj_EV mj_R0 y_Coast_allTales c_Coast_allTales 1 (some .int) 0 := ⟨mj_tt (List.mem_of_getElem? (i := 615) (by decide +kernel)) (by decide +kernel), mj_tt (List.mem_of_getElem? (i := 4) (by decide +kernel)) (by decide +kernel), mj_tt (List.mem_of_getElem? (i := 613) (by decide +kernel)) (by decide +kernel), mj_tt (List.mem_of_getElem? (i := 614) (by decide +kernel)) (by decide +kernel), ⟨by decide +kernel, by decide +kernel, by decide +kernel⟩, by decide⟩
theorem es_Arrays_fill : mj_ES y_Arrays_fill c_Arrays_fill 4 none 2 := ⟨mj_tt (List.mem_of_getElem? (i := 619) (by decide +kernel)) (by decide +kernel), mj_tt (List.mem_of_getElem? (i := 15) (by decide +kernel)) (by decide +kernel), mj_tt (List.mem_of_getElem? (i := 618) (by decide +kernel)) (by decide +kernel), ⟨by decide +kernel, by decide +kernel, by decide +kernel⟩, by decide⟩
theorem ev_Coast_knows : mj_EV mj_R0 y_Coast_knows c_Coast_knows 3 (some .boolean) 2 := ⟨mj_tt (List.mem_of_getElem? (i := 623) (by decide +kernel)) (by decide +kernel), mj_tt (List.mem_of_getElem? (i := 4) (by decide +kernel)) (by decide +kernel), mj_tt (List.mem_of_getElem? (i := 621) (by decide +kernel)) (by decide +kernel), mj_tt (List.mem_of_getElem? (i := 622) (by decide +kernel)) (by decide +kernel), ⟨by decide +kernel, by decide +kernel, by decide +kernel⟩, by decide⟩
theorem ev_Stand_begin : mj_EV mj_R8 y_Stand_begin c_Stand_begin 4 none 1 := ⟨mj_tt (List.mem_of_getElem? (i := 611) (by decide +kernel)) (by decide +kernel), mj_tt (List.mem_of_getElem? (i := 7) (by decide +kernel)) (by decide +kernel), mj_tt (List.mem_of_getElem? (i := 609) (by decide +kernel)) (by decide +kernel), mj_tt (List.mem_of_getElem? (i := 610) (by decide +kernel)) (by decide +kernel), ⟨by decide +kernel, by decide +kernel, by decide +kernel⟩, by decide⟩
theorem ev_Past_forget : mj_EV mj_R6 y_Past_forget c_Past_forget 1 none 0 := ⟨mj_tt (List.mem_of_getElem? (i := 627) (by decide +kernel)) (by decide +kernel), mj_tt (List.mem_of_getElem? (i := 8) (by decide +kernel)) (by decide +kernel), mj_tt (List.mem_of_getElem? (i := 625) (by decide +kernel)) (by decide +kernel), mj_tt (List.mem_of_getElem? (i := 626) (by decide +kernel)) (by decide +kernel), ⟨by decide +kernel, by decide +kernel, by decide +kernel⟩, by decide⟩
theorem ev_W_takeCoast : mj_EV mj_R11 y_W_takeCoast c_W_takeCoast 1 none 0 := ⟨mj_tt (List.mem_of_getElem? (i := 602) (by decide +kernel)) (by decide +kernel), mj_tt (List.mem_of_getElem? (i := 1) (by decide +kernel)) (by decide +kernel), mj_tt (List.mem_of_getElem? (i := 601) (by decide +kernel)) (by decide +kernel), mj_tp (List.mem_of_getElem? (i := 19) (by decide +kernel)) (by decide +kernel), ⟨by decide +kernel, by decide +kernel, by decide +kernel⟩, by decide⟩
theorem ev_Laws_add : mj_EV mj_R5 y_Laws_add c_Laws_add 3 none 2 := ⟨mj_tt (List.mem_of_getElem? (i := 631) (by decide +kernel)) (by decide +kernel), mj_tt (List.mem_of_getElem? (i := 6) (by decide +kernel)) (by decide +kernel), mj_tt (List.mem_of_getElem? (i := 629) (by decide +kernel)) (by decide +kernel), mj_tt (List.mem_of_getElem? (i := 630) (by decide +kernel)) (by decide +kernel), ⟨by decide +kernel, by decide +kernel, by decide +kernel⟩, by decide⟩
theorem ev_W_text : mj_EV mj_R11 y_W_text c_W_text 2 (some .int) 1 := ⟨mj_tt (List.mem_of_getElem? (i := 598) (by decide +kernel)) (by decide +kernel), mj_tt (List.mem_of_getElem? (i := 1) (by decide +kernel)) (by decide +kernel), mj_tt (List.mem_of_getElem? (i := 596) (by decide +kernel)) (by decide +kernel), mj_tt (List.mem_of_getElem? (i := 597) (by decide +kernel)) (by decide +kernel), ⟨by decide +kernel, by decide +kernel, by decide +kernel⟩, by decide⟩
theorem ev_M_ofTale : mj_EV mj_R12 y_M_ofTale c_M_ofTale 3 (some .int) 2 := ⟨mj_tt (List.mem_of_getElem? (i := 1449) (by decide +kernel)) (by decide +kernel), mj_tt (List.mem_of_getElem? (i := 13) (by decide +kernel)) (by decide +kernel), mj_tt (List.mem_of_getElem? (i := 1448) (by decide +kernel)) (by decide +kernel), mj_tp (List.mem_of_getElem? (i := 65) (by decide +kernel)) (by decide +kernel), ⟨by decide +kernel, by decide +kernel, by decide +kernel⟩, by decide⟩
theorem ev_M_ofHouse : mj_EV mj_R12 y_M_ofHouse c_M_ofHouse 3 (some .int) 2 := ⟨mj_tt (List.mem_of_getElem? (i := 1453) (by decide +kernel)) (by decide +kernel), mj_tt (List.mem_of_getElem? (i := 13) (by decide +kernel)) (by decide +kernel), mj_tt (List.mem_of_getElem? (i := 1452) (by decide +kernel)) (by decide +kernel), mj_tp (List.mem_of_getElem? (i := 66) (by decide +kernel)) (by decide +kernel), ⟨by decide +kernel, by decide +kernel, by decide +kernel⟩, by decide⟩
theorem ev_M_takeCoast : mj_EV mj_R12 y_M_takeCoast c_M_takeCoast 3 (some .int) 0 := ⟨mj_tt (List.mem_of_getElem? (i := 1445) (by decide +kernel)) (by decide +kernel), mj_tt (List.mem_of_getElem? (i := 13) (by decide +kernel)) (by decide +kernel), mj_tt (List.mem_of_getElem? (i := 1444) (by decide +kernel)) (by decide +kernel), mj_tp (List.mem_of_getElem? (i := 64) (by decide +kernel)) (by decide +kernel), ⟨by decide +kernel, by decide +kernel, by decide +kernel⟩, by decide⟩
theorem ev_M_text : mj_EV mj_R12 y_M_text c_M_text 2 (some .int) 1 := ⟨mj_tt (List.mem_of_getElem? (i := 1441) (by decide +kernel)) (by decide +kernel), mj_tt (List.mem_of_getElem? (i := 13) (by decide +kernel)) (by decide +kernel), mj_tt (List.mem_of_getElem? (i := 1439) (by decide +kernel)) (by decide +kernel), mj_tt (List.mem_of_getElem? (i := 1440) (by decide +kernel)) (by decide +kernel), ⟨by decide +kernel, by decide +kernel, by decide +kernel⟩, by decide⟩
theorem ev_Coast_hasHouse : mj_EV mj_R0 y_Coast_hasHouse c_Coast_hasHouse 2 (some .boolean) 1 := ⟨mj_tt (List.mem_of_getElem? (i := 640) (by decide +kernel)) (by decide +kernel), mj_tt (List.mem_of_getElem? (i := 4) (by decide +kernel)) (by decide +kernel), mj_tt (List.mem_of_getElem? (i := 638) (by decide +kernel)) (by decide +kernel), mj_tt (List.mem_of_getElem? (i := 639) (by decide +kernel)) (by decide +kernel), ⟨by decide +kernel, by decide +kernel, by decide +kernel⟩, by decide⟩
theorem ev_Stand_heardBits : mj_EV mj_R8 y_Stand_heardBits c_Stand_heardBits 4 (some .int) 1 := ⟨mj_tt (List.mem_of_getElem? (i := 644) (by decide +kernel)) (by decide +kernel), mj_tt (List.mem_of_getElem? (i := 7) (by decide +kernel)) (by decide +kernel), mj_tt (List.mem_of_getElem? (i := 642) (by decide +kernel)) (by decide +kernel), mj_tt (List.mem_of_getElem? (i := 643) (by decide +kernel)) (by decide +kernel), ⟨by decide +kernel, by decide +kernel, by decide +kernel⟩, by decide⟩
theorem ev_W_house : mj_EV mj_R11 y_W_house c_W_house 3 (some .int) 2 := ⟨mj_tt (List.mem_of_getElem? (i := 636) (by decide +kernel)) (by decide +kernel), mj_tt (List.mem_of_getElem? (i := 1) (by decide +kernel)) (by decide +kernel), mj_tt (List.mem_of_getElem? (i := 634) (by decide +kernel)) (by decide +kernel), mj_tt (List.mem_of_getElem? (i := 635) (by decide +kernel)) (by decide +kernel), ⟨by decide +kernel, by decide +kernel, by decide +kernel⟩, by decide⟩
theorem ev_M_isHouse : mj_EV mj_R12 y_M_isHouse c_M_isHouse 2 (some .boolean) 1 := ⟨mj_tt (List.mem_of_getElem? (i := 1461) (by decide +kernel)) (by decide +kernel), mj_tt (List.mem_of_getElem? (i := 13) (by decide +kernel)) (by decide +kernel), mj_tt (List.mem_of_getElem? (i := 1460) (by decide +kernel)) (by decide +kernel), mj_tp (List.mem_of_getElem? (i := 67) (by decide +kernel)) (by decide +kernel), ⟨by decide +kernel, by decide +kernel, by decide +kernel⟩, by decide⟩
theorem ev_M_heardOf : mj_EV mj_R12 y_M_heardOf c_M_heardOf 3 (some .int) 2 := ⟨mj_tt (List.mem_of_getElem? (i := 1469) (by decide +kernel)) (by decide +kernel), mj_tt (List.mem_of_getElem? (i := 13) (by decide +kernel)) (by decide +kernel), mj_tt (List.mem_of_getElem? (i := 1468) (by decide +kernel)) (by decide +kernel), mj_tp (List.mem_of_getElem? (i := 69) (by decide +kernel)) (by decide +kernel), ⟨by decide +kernel, by decide +kernel, by decide +kernel⟩, by decide⟩
theorem ev_M_heardSet : mj_EV mj_R12 y_M_heardSet c_M_heardSet 4 (some .int) 1 := ⟨mj_tt (List.mem_of_getElem? (i := 1465) (by decide +kernel)) (by decide +kernel), mj_tt (List.mem_of_getElem? (i := 13) (by decide +kernel)) (by decide +kernel), mj_tt (List.mem_of_getElem? (i := 1464) (by decide +kernel)) (by decide +kernel), mj_tp (List.mem_of_getElem? (i := 68) (by decide +kernel)) (by decide +kernel), ⟨by decide +kernel, by decide +kernel, by decide +kernel⟩, by decide⟩
theorem ev_M_house : mj_EV mj_R12 y_M_house c_M_house 3 (some .int) 2 := ⟨mj_tt (List.mem_of_getElem? (i := 1457) (by decide +kernel)) (by decide +kernel), mj_tt (List.mem_of_getElem? (i := 13) (by decide +kernel)) (by decide +kernel), mj_tt (List.mem_of_getElem? (i := 1455) (by decide +kernel)) (by decide +kernel), mj_tt (List.mem_of_getElem? (i := 1456) (by decide +kernel)) (by decide +kernel), ⟨by decide +kernel, by decide +kernel, by decide +kernel⟩, by decide⟩
theorem ev_M_isTale : mj_EV mj_R12 y_M_isTale c_M_isTale 2 (some .boolean) 1 := ⟨mj_tt (List.mem_of_getElem? (i := 1477) (by decide +kernel)) (by decide +kernel), mj_tt (List.mem_of_getElem? (i := 13) (by decide +kernel)) (by decide +kernel), mj_tt (List.mem_of_getElem? (i := 1476) (by decide +kernel)) (by decide +kernel), mj_tp (List.mem_of_getElem? (i := 70) (by decide +kernel)) (by decide +kernel), ⟨by decide +kernel, by decide +kernel, by decide +kernel⟩, by decide⟩
theorem ev_M_owns : mj_EV mj_R12 y_M_owns c_M_owns 2 (some .boolean) 1 := ⟨mj_tt (List.mem_of_getElem? (i := 1481) (by decide +kernel)) (by decide +kernel), mj_tt (List.mem_of_getElem? (i := 13) (by decide +kernel)) (by decide +kernel), mj_tt (List.mem_of_getElem? (i := 1480) (by decide +kernel)) (by decide +kernel), mj_tp (List.mem_of_getElem? (i := 71) (by decide +kernel)) (by decide +kernel), ⟨by decide +kernel, by decide +kernel, by decide +kernel⟩, by decide⟩
theorem ev_M_tale : mj_EV mj_R12 y_M_tale c_M_tale 3 (some .int) 2 := ⟨mj_tt (List.mem_of_getElem? (i := 1473) (by decide +kernel)) (by decide +kernel), mj_tt (List.mem_of_getElem? (i := 13) (by decide +kernel)) (by decide +kernel), mj_tt (List.mem_of_getElem? (i := 1471) (by decide +kernel)) (by decide +kernel), mj_tt (List.mem_of_getElem? (i := 1472) (by decide +kernel)) (by decide +kernel), ⟨by decide +kernel, by decide +kernel, by decide +kernel⟩, by decide⟩
theorem ev_M_thrown : mj_EV mj_R12 y_M_thrown c_M_thrown 1 (some .int) 0 := ⟨mj_tt (List.mem_of_getElem? (i := 1310) (by decide +kernel)) (by decide +kernel), mj_tt (List.mem_of_getElem? (i := 13) (by decide +kernel)) (by decide +kernel), mj_tt (List.mem_of_getElem? (i := 1308) (by decide +kernel)) (by decide +kernel), mj_tt (List.mem_of_getElem? (i := 1309) (by decide +kernel)) (by decide +kernel), ⟨by decide +kernel, by decide +kernel, by decide +kernel⟩, by decide⟩
theorem ev_Coast_hasTale : mj_EV mj_R0 y_Coast_hasTale c_Coast_hasTale 2 (some .boolean) 1 := ⟨mj_tt (List.mem_of_getElem? (i := 657) (by decide +kernel)) (by decide +kernel), mj_tt (List.mem_of_getElem? (i := 4) (by decide +kernel)) (by decide +kernel), mj_tt (List.mem_of_getElem? (i := 655) (by decide +kernel)) (by decide +kernel), mj_tt (List.mem_of_getElem? (i := 656) (by decide +kernel)) (by decide +kernel), ⟨by decide +kernel, by decide +kernel, by decide +kernel⟩, by decide⟩
theorem ev_Coast_hasBoth : mj_EV mj_R0 y_Coast_hasBoth c_Coast_hasBoth 3 (some .boolean) 2 := ⟨mj_tt (List.mem_of_getElem? (i := 652) (by decide +kernel)) (by decide +kernel), mj_tt (List.mem_of_getElem? (i := 4) (by decide +kernel)) (by decide +kernel), mj_tt (List.mem_of_getElem? (i := 650) (by decide +kernel)) (by decide +kernel), mj_tt (List.mem_of_getElem? (i := 651) (by decide +kernel)) (by decide +kernel), ⟨by decide +kernel, by decide +kernel, by decide +kernel⟩, by decide⟩
theorem ev_W_heard : mj_EV mj_R11 y_W_heard c_W_heard 3 (some .int) 2 := ⟨mj_tt (List.mem_of_getElem? (i := 648) (by decide +kernel)) (by decide +kernel), mj_tt (List.mem_of_getElem? (i := 1) (by decide +kernel)) (by decide +kernel), mj_tt (List.mem_of_getElem? (i := 646) (by decide +kernel)) (by decide +kernel), mj_tt (List.mem_of_getElem? (i := 647) (by decide +kernel)) (by decide +kernel), ⟨by decide +kernel, by decide +kernel, by decide +kernel⟩, by decide⟩
theorem ev_M_heard : mj_EV mj_R12 y_M_heard c_M_heard 3 (some .int) 2 := ⟨mj_tt (List.mem_of_getElem? (i := 1485) (by decide +kernel)) (by decide +kernel), mj_tt (List.mem_of_getElem? (i := 13) (by decide +kernel)) (by decide +kernel), mj_tt (List.mem_of_getElem? (i := 1483) (by decide +kernel)) (by decide +kernel), mj_tt (List.mem_of_getElem? (i := 1484) (by decide +kernel)) (by decide +kernel), ⟨by decide +kernel, by decide +kernel, by decide +kernel⟩, by decide⟩
theorem es_Laws_held : mj_ES y_Laws_held c_Laws_held 2 (some .int) 1 := ⟨mj_tt (List.mem_of_getElem? (i := 687) (by decide +kernel)) (by decide +kernel), mj_tt (List.mem_of_getElem? (i := 6) (by decide +kernel)) (by decide +kernel), mj_tt (List.mem_of_getElem? (i := 686) (by decide +kernel)) (by decide +kernel), ⟨by decide +kernel, by decide +kernel, by decide +kernel⟩, by decide⟩
theorem es_Laws_joined : mj_ES y_Laws_joined c_Laws_joined 3 (some .int) 3 := ⟨mj_tt (List.mem_of_getElem? (i := 684) (by decide +kernel)) (by decide +kernel), mj_tt (List.mem_of_getElem? (i := 6) (by decide +kernel)) (by decide +kernel), mj_tt (List.mem_of_getElem? (i := 683) (by decide +kernel)) (by decide +kernel), ⟨by decide +kernel, by decide +kernel, by decide +kernel⟩, by decide⟩
theorem ev_Laws_operand : mj_EV mj_R5 y_Laws_operand c_Laws_operand 3 (some .int) 2 := ⟨mj_tt (List.mem_of_getElem? (i := 681) (by decide +kernel)) (by decide +kernel), mj_tt (List.mem_of_getElem? (i := 6) (by decide +kernel)) (by decide +kernel), mj_tt (List.mem_of_getElem? (i := 680) (by decide +kernel)) (by decide +kernel), mj_tp (List.mem_of_getElem? (i := 21) (by decide +kernel)) (by decide +kernel), ⟨by decide +kernel, by decide +kernel, by decide +kernel⟩, by decide⟩
theorem ev_Laws_worth : mj_EV mj_R5 y_Laws_worth c_Laws_worth 7 (some .int) 0 := ⟨mj_tt (List.mem_of_getElem? (i := 677) (by decide +kernel)) (by decide +kernel), mj_tt (List.mem_of_getElem? (i := 6) (by decide +kernel)) (by decide +kernel), mj_tt (List.mem_of_getElem? (i := 675) (by decide +kernel)) (by decide +kernel), mj_tt (List.mem_of_getElem? (i := 676) (by decide +kernel)) (by decide +kernel), ⟨by decide +kernel, by decide +kernel, by decide +kernel⟩, by decide⟩
theorem ev_Stays_worthWithoutLaw : mj_EV mj_R9 y_Stays_worthWithoutLaw c_Stays_worthWithoutLaw 6 (some .int) 4 := ⟨mj_tt (List.mem_of_getElem? (i := 673) (by decide +kernel)) (by decide +kernel), mj_tt (List.mem_of_getElem? (i := 9) (by decide +kernel)) (by decide +kernel), mj_tt (List.mem_of_getElem? (i := 672) (by decide +kernel)) (by decide +kernel), mj_tp (List.mem_of_getElem? (i := 20) (by decide +kernel)) (by decide +kernel), ⟨by decide +kernel, by decide +kernel, by decide +kernel⟩, by decide⟩
theorem ev_Stays_by : mj_EV mj_R9 y_Stays_by c_Stays_by 6 (some .int) 4 := ⟨mj_tt (List.mem_of_getElem? (i := 669) (by decide +kernel)) (by decide +kernel), mj_tt (List.mem_of_getElem? (i := 9) (by decide +kernel)) (by decide +kernel), mj_tt (List.mem_of_getElem? (i := 667) (by decide +kernel)) (by decide +kernel), mj_tt (List.mem_of_getElem? (i := 668) (by decide +kernel)) (by decide +kernel), ⟨by decide +kernel, by decide +kernel, by decide +kernel⟩, by decide⟩
theorem ev_Stays_now : mj_EV mj_R9 y_Stays_now c_Stays_now 3 (some .int) 2 := ⟨mj_tt (List.mem_of_getElem? (i := 665) (by decide +kernel)) (by decide +kernel), mj_tt (List.mem_of_getElem? (i := 9) (by decide +kernel)) (by decide +kernel), mj_tt (List.mem_of_getElem? (i := 663) (by decide +kernel)) (by decide +kernel), mj_tt (List.mem_of_getElem? (i := 664) (by decide +kernel)) (by decide +kernel), ⟨by decide +kernel, by decide +kernel, by decide +kernel⟩, by decide⟩
theorem ev_W_nights : mj_EV mj_R11 y_W_nights c_W_nights 3 (some .int) 2 := ⟨mj_tt (List.mem_of_getElem? (i := 661) (by decide +kernel)) (by decide +kernel), mj_tt (List.mem_of_getElem? (i := 1) (by decide +kernel)) (by decide +kernel), mj_tt (List.mem_of_getElem? (i := 659) (by decide +kernel)) (by decide +kernel), mj_tt (List.mem_of_getElem? (i := 660) (by decide +kernel)) (by decide +kernel), ⟨by decide +kernel, by decide +kernel, by decide +kernel⟩, by decide⟩
theorem es_M_bounded : mj_ES y_M_bounded c_M_bounded 2 (some .int) 1 := ⟨mj_tt (List.mem_of_getElem? (i := 1511) (by decide +kernel)) (by decide +kernel), mj_tt (List.mem_of_getElem? (i := 13) (by decide +kernel)) (by decide +kernel), mj_tt (List.mem_of_getElem? (i := 1510) (by decide +kernel)) (by decide +kernel), ⟨by decide +kernel, by decide +kernel, by decide +kernel⟩, by decide⟩
theorem es_M_worked : mj_ES y_M_worked c_M_worked 5 (some .int) 3 := ⟨mj_tt (List.mem_of_getElem? (i := 1508) (by decide +kernel)) (by decide +kernel), mj_tt (List.mem_of_getElem? (i := 13) (by decide +kernel)) (by decide +kernel), mj_tt (List.mem_of_getElem? (i := 1507) (by decide +kernel)) (by decide +kernel), ⟨by decide +kernel, by decide +kernel, by decide +kernel⟩, by decide⟩
theorem ev_M_workOut : mj_EV mj_R12 y_M_workOut c_M_workOut 6 (some .int) 3 := ⟨mj_tt (List.mem_of_getElem? (i := 1505) (by decide +kernel)) (by decide +kernel), mj_tt (List.mem_of_getElem? (i := 13) (by decide +kernel)) (by decide +kernel), mj_tt (List.mem_of_getElem? (i := 1504) (by decide +kernel)) (by decide +kernel), mj_tp (List.mem_of_getElem? (i := 75) (by decide +kernel)) (by decide +kernel), ⟨by decide +kernel, by decide +kernel, by decide +kernel⟩, by decide⟩
theorem ev_M_worthOf : mj_EV mj_R12 y_M_worthOf c_M_worthOf 3 (some .int) 1 := ⟨mj_tt (List.mem_of_getElem? (i := 1501) (by decide +kernel)) (by decide +kernel), mj_tt (List.mem_of_getElem? (i := 13) (by decide +kernel)) (by decide +kernel), mj_tt (List.mem_of_getElem? (i := 1500) (by decide +kernel)) (by decide +kernel), mj_tp (List.mem_of_getElem? (i := 74) (by decide +kernel)) (by decide +kernel), ⟨by decide +kernel, by decide +kernel, by decide +kernel⟩, by decide⟩
theorem ev_M_nightsBy : mj_EV mj_R12 y_M_nightsBy c_M_nightsBy 6 (some .int) 4 := ⟨mj_tt (List.mem_of_getElem? (i := 1497) (by decide +kernel)) (by decide +kernel), mj_tt (List.mem_of_getElem? (i := 13) (by decide +kernel)) (by decide +kernel), mj_tt (List.mem_of_getElem? (i := 1496) (by decide +kernel)) (by decide +kernel), mj_tp (List.mem_of_getElem? (i := 73) (by decide +kernel)) (by decide +kernel), ⟨by decide +kernel, by decide +kernel, by decide +kernel⟩, by decide⟩
theorem ev_M_nightsNow : mj_EV mj_R12 y_M_nightsNow c_M_nightsNow 3 (some .int) 2 := ⟨mj_tt (List.mem_of_getElem? (i := 1493) (by decide +kernel)) (by decide +kernel), mj_tt (List.mem_of_getElem? (i := 13) (by decide +kernel)) (by decide +kernel), mj_tt (List.mem_of_getElem? (i := 1492) (by decide +kernel)) (by decide +kernel), mj_tp (List.mem_of_getElem? (i := 72) (by decide +kernel)) (by decide +kernel), ⟨by decide +kernel, by decide +kernel, by decide +kernel⟩, by decide⟩
theorem ev_M_nights : mj_EV mj_R12 y_M_nights c_M_nights 3 (some .int) 2 := ⟨mj_tt (List.mem_of_getElem? (i := 1489) (by decide +kernel)) (by decide +kernel), mj_tt (List.mem_of_getElem? (i := 13) (by decide +kernel)) (by decide +kernel), mj_tt (List.mem_of_getElem? (i := 1487) (by decide +kernel)) (by decide +kernel), mj_tt (List.mem_of_getElem? (i := 1488) (by decide +kernel)) (by decide +kernel), ⟨by decide +kernel, by decide +kernel, by decide +kernel⟩, by decide⟩
theorem ev_W_law : mj_EV mj_R11 y_W_law c_W_law 2 (some .boolean) 1 := ⟨mj_tt (List.mem_of_getElem? (i := 701) (by decide +kernel)) (by decide +kernel), mj_tt (List.mem_of_getElem? (i := 1) (by decide +kernel)) (by decide +kernel), mj_tt (List.mem_of_getElem? (i := 699) (by decide +kernel)) (by decide +kernel), mj_tt (List.mem_of_getElem? (i := 700) (by decide +kernel)) (by decide +kernel), ⟨by decide +kernel, by decide +kernel, by decide +kernel⟩, by decide⟩
theorem ev_M_law : mj_EV mj_R12 y_M_law c_M_law 2 (some .boolean) 1 := ⟨mj_tt (List.mem_of_getElem? (i := 1525) (by decide +kernel)) (by decide +kernel), mj_tt (List.mem_of_getElem? (i := 13) (by decide +kernel)) (by decide +kernel), mj_tt (List.mem_of_getElem? (i := 1523) (by decide +kernel)) (by decide +kernel), mj_tt (List.mem_of_getElem? (i := 1524) (by decide +kernel)) (by decide +kernel), ⟨by decide +kernel, by decide +kernel, by decide +kernel⟩, by decide⟩
theorem ev_Stand_owns : mj_EV mj_R8 y_Stand_owns c_Stand_owns 2 (some .boolean) 1 := ⟨mj_tt (List.mem_of_getElem? (i := 714) (by decide +kernel)) (by decide +kernel), mj_tt (List.mem_of_getElem? (i := 7) (by decide +kernel)) (by decide +kernel), mj_tt (List.mem_of_getElem? (i := 712) (by decide +kernel)) (by decide +kernel), mj_tt (List.mem_of_getElem? (i := 713) (by decide +kernel)) (by decide +kernel), ⟨by decide +kernel, by decide +kernel, by decide +kernel⟩, by decide⟩
theorem es_Stand_daysOf : mj_ES y_Stand_daysOf c_Stand_daysOf 1 (some .int) 1 := ⟨mj_tt (List.mem_of_getElem? (i := 717) (by decide +kernel)) (by decide +kernel), mj_tt (List.mem_of_getElem? (i := 7) (by decide +kernel)) (by decide +kernel), mj_tt (List.mem_of_getElem? (i := 716) (by decide +kernel)) (by decide +kernel), ⟨by decide +kernel, by decide +kernel, by decide +kernel⟩, by decide⟩
theorem ev_Stand_hasDays : mj_EV mj_R8 y_Stand_hasDays c_Stand_hasDays 2 (some .boolean) 1 := ⟨mj_tt (List.mem_of_getElem? (i := 722) (by decide +kernel)) (by decide +kernel), mj_tt (List.mem_of_getElem? (i := 7) (by decide +kernel)) (by decide +kernel), mj_tt (List.mem_of_getElem? (i := 720) (by decide +kernel)) (by decide +kernel), mj_tt (List.mem_of_getElem? (i := 721) (by decide +kernel)) (by decide +kernel), ⟨by decide +kernel, by decide +kernel, by decide +kernel⟩, by decide⟩
theorem ev_Stand_save : mj_EV mj_R8 y_Stand_save c_Stand_save 3 none 2 := ⟨mj_tt (List.mem_of_getElem? (i := 730) (by decide +kernel)) (by decide +kernel), mj_tt (List.mem_of_getElem? (i := 7) (by decide +kernel)) (by decide +kernel), mj_tt (List.mem_of_getElem? (i := 728) (by decide +kernel)) (by decide +kernel), mj_tt (List.mem_of_getElem? (i := 729) (by decide +kernel)) (by decide +kernel), ⟨by decide +kernel, by decide +kernel, by decide +kernel⟩, by decide⟩
theorem ev_Past_keep : mj_EV mj_R6 y_Past_keep c_Past_keep 2 none 1 := ⟨mj_tt (List.mem_of_getElem? (i := 726) (by decide +kernel)) (by decide +kernel), mj_tt (List.mem_of_getElem? (i := 8) (by decide +kernel)) (by decide +kernel), mj_tt (List.mem_of_getElem? (i := 724) (by decide +kernel)) (by decide +kernel), mj_tt (List.mem_of_getElem? (i := 725) (by decide +kernel)) (by decide +kernel), ⟨by decide +kernel, by decide +kernel, by decide +kernel⟩, by decide⟩
theorem es_Stand_heardOnceMore : mj_ES y_Stand_heardOnceMore c_Stand_heardOnceMore 1 (some .int) 1 := ⟨mj_tt (List.mem_of_getElem? (i := 738) (by decide +kernel)) (by decide +kernel), mj_tt (List.mem_of_getElem? (i := 7) (by decide +kernel)) (by decide +kernel), mj_tt (List.mem_of_getElem? (i := 737) (by decide +kernel)) (by decide +kernel), ⟨by decide +kernel, by decide +kernel, by decide +kernel⟩, by decide⟩
theorem es_Stand_breadAfter : mj_ES y_Stand_breadAfter c_Stand_breadAfter 2 (some .int) 2 := ⟨mj_tt (List.mem_of_getElem? (i := 743) (by decide +kernel)) (by decide +kernel), mj_tt (List.mem_of_getElem? (i := 7) (by decide +kernel)) (by decide +kernel), mj_tt (List.mem_of_getElem? (i := 742) (by decide +kernel)) (by decide +kernel), ⟨by decide +kernel, by decide +kernel, by decide +kernel⟩, by decide⟩
theorem ev_Stand_tellHere : mj_EV mj_R8 y_Stand_tellHere c_Stand_tellHere 4 none 2 := ⟨mj_tt (List.mem_of_getElem? (i := 735) (by decide +kernel)) (by decide +kernel), mj_tt (List.mem_of_getElem? (i := 7) (by decide +kernel)) (by decide +kernel), mj_tt (List.mem_of_getElem? (i := 733) (by decide +kernel)) (by decide +kernel), mj_tt (List.mem_of_getElem? (i := 734) (by decide +kernel)) (by decide +kernel), ⟨by decide +kernel, by decide +kernel, by decide +kernel⟩, by decide⟩
theorem ev_W_refuse : mj_EV mj_R11 y_W_refuse c_W_refuse 2 (some .int) 1 := ⟨mj_tt (List.mem_of_getElem? (i := 710) (by decide +kernel)) (by decide +kernel), mj_tt (List.mem_of_getElem? (i := 1) (by decide +kernel)) (by decide +kernel), mj_tt (List.mem_of_getElem? (i := 709) (by decide +kernel)) (by decide +kernel), mj_tp (List.mem_of_getElem? (i := 22) (by decide +kernel)) (by decide +kernel), ⟨by decide +kernel, by decide +kernel, by decide +kernel⟩, by decide⟩
theorem ev_W_tells : mj_EV mj_R11 y_W_tells c_W_tells 3 (some .int) 1 := ⟨mj_tt (List.mem_of_getElem? (i := 705) (by decide +kernel)) (by decide +kernel), mj_tt (List.mem_of_getElem? (i := 1) (by decide +kernel)) (by decide +kernel), mj_tt (List.mem_of_getElem? (i := 703) (by decide +kernel)) (by decide +kernel), mj_tt (List.mem_of_getElem? (i := 704) (by decide +kernel)) (by decide +kernel), ⟨by decide +kernel, by decide +kernel, by decide +kernel⟩, by decide⟩
theorem ev_M_isLate : mj_EV mj_R12 y_M_isLate c_M_isLate 2 (some .boolean) 1 := ⟨mj_tt (List.mem_of_getElem? (i := 1537) (by decide +kernel)) (by decide +kernel), mj_tt (List.mem_of_getElem? (i := 13) (by decide +kernel)) (by decide +kernel), mj_tt (List.mem_of_getElem? (i := 1536) (by decide +kernel)) (by decide +kernel), mj_tp (List.mem_of_getElem? (i := 77) (by decide +kernel)) (by decide +kernel), ⟨by decide +kernel, by decide +kernel, by decide +kernel⟩, by decide⟩
theorem ev_M_isTooLong : mj_EV mj_R12 y_M_isTooLong c_M_isTooLong 2 (some .boolean) 1 := ⟨mj_tt (List.mem_of_getElem? (i := 1533) (by decide +kernel)) (by decide +kernel), mj_tt (List.mem_of_getElem? (i := 13) (by decide +kernel)) (by decide +kernel), mj_tt (List.mem_of_getElem? (i := 1532) (by decide +kernel)) (by decide +kernel), mj_tp (List.mem_of_getElem? (i := 76) (by decide +kernel)) (by decide +kernel), ⟨by decide +kernel, by decide +kernel, by decide +kernel⟩, by decide⟩
theorem ev_M_isRefused : mj_EV mj_R12 y_M_isRefused c_M_isRefused 2 (some .boolean) 1 := ⟨mj_tt (List.mem_of_getElem? (i := 1541) (by decide +kernel)) (by decide +kernel), mj_tt (List.mem_of_getElem? (i := 13) (by decide +kernel)) (by decide +kernel), mj_tt (List.mem_of_getElem? (i := 1540) (by decide +kernel)) (by decide +kernel), mj_tp (List.mem_of_getElem? (i := 78) (by decide +kernel)) (by decide +kernel), ⟨by decide +kernel, by decide +kernel, by decide +kernel⟩, by decide⟩
theorem ev_M_keep : mj_EV mj_R12 y_M_keep c_M_keep 2 none 0 := ⟨mj_tt (List.mem_of_getElem? (i := 1545) (by decide +kernel)) (by decide +kernel), mj_tt (List.mem_of_getElem? (i := 13) (by decide +kernel)) (by decide +kernel), mj_tt (List.mem_of_getElem? (i := 1544) (by decide +kernel)) (by decide +kernel), mj_tp (List.mem_of_getElem? (i := 79) (by decide +kernel)) (by decide +kernel), ⟨by decide +kernel, by decide +kernel, by decide +kernel⟩, by decide⟩
theorem ev_M_tellNow : mj_EV mj_R12 y_M_tellNow c_M_tellNow 4 (some .int) 1 := ⟨mj_tt (List.mem_of_getElem? (i := 1553) (by decide +kernel)) (by decide +kernel), mj_tt (List.mem_of_getElem? (i := 13) (by decide +kernel)) (by decide +kernel), mj_tt (List.mem_of_getElem? (i := 1552) (by decide +kernel)) (by decide +kernel), mj_tp (List.mem_of_getElem? (i := 81) (by decide +kernel)) (by decide +kernel), ⟨by decide +kernel, by decide +kernel, by decide +kernel⟩, by decide⟩
theorem ev_M_noteTelling : mj_EV mj_R12 y_M_noteTelling c_M_noteTelling 5 none 3 := ⟨mj_tt (List.mem_of_getElem? (i := 1557) (by decide +kernel)) (by decide +kernel), mj_tt (List.mem_of_getElem? (i := 13) (by decide +kernel)) (by decide +kernel), mj_tt (List.mem_of_getElem? (i := 1556) (by decide +kernel)) (by decide +kernel), mj_tp (List.mem_of_getElem? (i := 82) (by decide +kernel)) (by decide +kernel), ⟨by decide +kernel, by decide +kernel, by decide +kernel⟩, by decide⟩
theorem ev_M_tellLogged : mj_EV mj_R12 y_M_tellLogged c_M_tellLogged 4 (some .int) 1 := ⟨mj_tt (List.mem_of_getElem? (i := 1549) (by decide +kernel)) (by decide +kernel), mj_tt (List.mem_of_getElem? (i := 13) (by decide +kernel)) (by decide +kernel), mj_tt (List.mem_of_getElem? (i := 1548) (by decide +kernel)) (by decide +kernel), mj_tp (List.mem_of_getElem? (i := 80) (by decide +kernel)) (by decide +kernel), ⟨by decide +kernel, by decide +kernel, by decide +kernel⟩, by decide⟩
theorem ev_M_tells : mj_EV mj_R12 y_M_tells c_M_tells 2 (some .int) 1 := ⟨mj_tt (List.mem_of_getElem? (i := 1529) (by decide +kernel)) (by decide +kernel), mj_tt (List.mem_of_getElem? (i := 13) (by decide +kernel)) (by decide +kernel), mj_tt (List.mem_of_getElem? (i := 1527) (by decide +kernel)) (by decide +kernel), mj_tt (List.mem_of_getElem? (i := 1528) (by decide +kernel)) (by decide +kernel), ⟨by decide +kernel, by decide +kernel, by decide +kernel⟩, by decide⟩
theorem ev_Stand_farTo : mj_EV mj_R8 y_Stand_farTo c_Stand_farTo 2 (some .int) 1 := ⟨mj_tt (List.mem_of_getElem? (i := 751) (by decide +kernel)) (by decide +kernel), mj_tt (List.mem_of_getElem? (i := 7) (by decide +kernel)) (by decide +kernel), mj_tt (List.mem_of_getElem? (i := 749) (by decide +kernel)) (by decide +kernel), mj_tt (List.mem_of_getElem? (i := 750) (by decide +kernel)) (by decide +kernel), ⟨by decide +kernel, by decide +kernel, by decide +kernel⟩, by decide⟩
theorem ev_Stand_walkTo : mj_EV mj_R8 y_Stand_walkTo c_Stand_walkTo 3 none 1 := ⟨mj_tt (List.mem_of_getElem? (i := 758) (by decide +kernel)) (by decide +kernel), mj_tt (List.mem_of_getElem? (i := 7) (by decide +kernel)) (by decide +kernel), mj_tt (List.mem_of_getElem? (i := 756) (by decide +kernel)) (by decide +kernel), mj_tt (List.mem_of_getElem? (i := 757) (by decide +kernel)) (by decide +kernel), ⟨by decide +kernel, by decide +kernel, by decide +kernel⟩, by decide⟩
theorem ev_W_goes : mj_EV mj_R11 y_W_goes c_W_goes 3 (some .int) 1 := ⟨mj_tt (List.mem_of_getElem? (i := 747) (by decide +kernel)) (by decide +kernel), mj_tt (List.mem_of_getElem? (i := 1) (by decide +kernel)) (by decide +kernel), mj_tt (List.mem_of_getElem? (i := 745) (by decide +kernel)) (by decide +kernel), mj_tt (List.mem_of_getElem? (i := 746) (by decide +kernel)) (by decide +kernel), ⟨by decide +kernel, by decide +kernel, by decide +kernel⟩, by decide⟩
theorem ev_M_farTo : mj_EV mj_R12 y_M_farTo c_M_farTo 2 (some .int) 1 := ⟨mj_tt (List.mem_of_getElem? (i := 1565) (by decide +kernel)) (by decide +kernel), mj_tt (List.mem_of_getElem? (i := 13) (by decide +kernel)) (by decide +kernel), mj_tt (List.mem_of_getElem? (i := 1564) (by decide +kernel)) (by decide +kernel), mj_tp (List.mem_of_getElem? (i := 83) (by decide +kernel)) (by decide +kernel), ⟨by decide +kernel, by decide +kernel, by decide +kernel⟩, by decide⟩
theorem ev_M_goNow : mj_EV mj_R12 y_M_goNow c_M_goNow 2 none 1 := ⟨mj_tt (List.mem_of_getElem? (i := 1570) (by decide +kernel)) (by decide +kernel), mj_tt (List.mem_of_getElem? (i := 13) (by decide +kernel)) (by decide +kernel), mj_tt (List.mem_of_getElem? (i := 1569) (by decide +kernel)) (by decide +kernel), mj_tp (List.mem_of_getElem? (i := 84) (by decide +kernel)) (by decide +kernel), ⟨by decide +kernel, by decide +kernel, by decide +kernel⟩, by decide⟩
theorem ev_M_goes : mj_EV mj_R12 y_M_goes c_M_goes 3 (some .int) 1 := ⟨mj_tt (List.mem_of_getElem? (i := 1561) (by decide +kernel)) (by decide +kernel), mj_tt (List.mem_of_getElem? (i := 13) (by decide +kernel)) (by decide +kernel), mj_tt (List.mem_of_getElem? (i := 1559) (by decide +kernel)) (by decide +kernel), mj_tt (List.mem_of_getElem? (i := 1560) (by decide +kernel)) (by decide +kernel), ⟨by decide +kernel, by decide +kernel, by decide +kernel⟩, by decide⟩
theorem es_Integer_bitCount : mj_ES y_Integer_bitCount c_Integer_bitCount 1 (some .int) 1 := ⟨mj_tt (List.mem_of_getElem? (i := 766) (by decide +kernel)) (by decide +kernel), mj_tt (List.mem_of_getElem? (i := 21) (by decide +kernel)) (by decide +kernel), mj_tt (List.mem_of_getElem? (i := 765) (by decide +kernel)) (by decide +kernel), ⟨by decide +kernel, by decide +kernel, by decide +kernel⟩, by decide⟩
theorem ev_W_learns : mj_EV mj_R11 y_W_learns c_W_learns 2 (some .int) 1 := ⟨mj_tt (List.mem_of_getElem? (i := 763) (by decide +kernel)) (by decide +kernel), mj_tt (List.mem_of_getElem? (i := 1) (by decide +kernel)) (by decide +kernel), mj_tt (List.mem_of_getElem? (i := 761) (by decide +kernel)) (by decide +kernel), mj_tt (List.mem_of_getElem? (i := 762) (by decide +kernel)) (by decide +kernel), ⟨by decide +kernel, by decide +kernel, by decide +kernel⟩, by decide⟩
theorem ev_M_learns : mj_EV mj_R12 y_M_learns c_M_learns 2 (some .int) 1 := ⟨mj_tt (List.mem_of_getElem? (i := 1574) (by decide +kernel)) (by decide +kernel), mj_tt (List.mem_of_getElem? (i := 13) (by decide +kernel)) (by decide +kernel), mj_tt (List.mem_of_getElem? (i := 1572) (by decide +kernel)) (by decide +kernel), mj_tt (List.mem_of_getElem? (i := 1573) (by decide +kernel)) (by decide +kernel), ⟨by decide +kernel, by decide +kernel, by decide +kernel⟩, by decide⟩
theorem ev_W_ties : mj_EV mj_R11 y_W_ties c_W_ties 2 (some .int) 1 := ⟨mj_tt (List.mem_of_getElem? (i := 773) (by decide +kernel)) (by decide +kernel), mj_tt (List.mem_of_getElem? (i := 1) (by decide +kernel)) (by decide +kernel), mj_tt (List.mem_of_getElem? (i := 771) (by decide +kernel)) (by decide +kernel), mj_tt (List.mem_of_getElem? (i := 772) (by decide +kernel)) (by decide +kernel), ⟨by decide +kernel, by decide +kernel, by decide +kernel⟩, by decide⟩
theorem ev_M_ties : mj_EV mj_R12 y_M_ties c_M_ties 2 (some .int) 1 := ⟨mj_tt (List.mem_of_getElem? (i := 1579) (by decide +kernel)) (by decide +kernel), mj_tt (List.mem_of_getElem? (i := 13) (by decide +kernel)) (by decide +kernel), mj_tt (List.mem_of_getElem? (i := 1577) (by decide +kernel)) (by decide +kernel), mj_tt (List.mem_of_getElem? (i := 1578) (by decide +kernel)) (by decide +kernel), ⟨by decide +kernel, by decide +kernel, by decide +kernel⟩, by decide⟩
theorem ev_Coast_isTold : mj_EV mj_R0 y_Coast_isTold c_Coast_isTold 1 (some .boolean) 0 := ⟨mj_tt (List.mem_of_getElem? (i := 781) (by decide +kernel)) (by decide +kernel), mj_tt (List.mem_of_getElem? (i := 4) (by decide +kernel)) (by decide +kernel), mj_tt (List.mem_of_getElem? (i := 779) (by decide +kernel)) (by decide +kernel), mj_tt (List.mem_of_getElem? (i := 780) (by decide +kernel)) (by decide +kernel), ⟨by decide +kernel, by decide +kernel, by decide +kernel⟩, by decide⟩
theorem ev_W_rest : mj_EV mj_R11 y_W_rest c_W_rest 2 (some .int) 0 := ⟨mj_tt (List.mem_of_getElem? (i := 777) (by decide +kernel)) (by decide +kernel), mj_tt (List.mem_of_getElem? (i := 1) (by decide +kernel)) (by decide +kernel), mj_tt (List.mem_of_getElem? (i := 775) (by decide +kernel)) (by decide +kernel), mj_tt (List.mem_of_getElem? (i := 776) (by decide +kernel)) (by decide +kernel), ⟨by decide +kernel, by decide +kernel, by decide +kernel⟩, by decide⟩
theorem ev_M_rest : mj_EV mj_R12 y_M_rest c_M_rest 2 (some .int) 0 := ⟨mj_tt (List.mem_of_getElem? (i := 1583) (by decide +kernel)) (by decide +kernel), mj_tt (List.mem_of_getElem? (i := 13) (by decide +kernel)) (by decide +kernel), mj_tt (List.mem_of_getElem? (i := 1581) (by decide +kernel)) (by decide +kernel), mj_tt (List.mem_of_getElem? (i := 1582) (by decide +kernel)) (by decide +kernel), ⟨by decide +kernel, by decide +kernel, by decide +kernel⟩, by decide⟩
theorem ev_W_give : mj_EV mj_R11 y_W_give c_W_give 2 (some .int) 1 := ⟨mj_tt (List.mem_of_getElem? (i := 785) (by decide +kernel)) (by decide +kernel), mj_tt (List.mem_of_getElem? (i := 1) (by decide +kernel)) (by decide +kernel), mj_tt (List.mem_of_getElem? (i := 783) (by decide +kernel)) (by decide +kernel), mj_tt (List.mem_of_getElem? (i := 784) (by decide +kernel)) (by decide +kernel), ⟨by decide +kernel, by decide +kernel, by decide +kernel⟩, by decide⟩
theorem ev_M_give : mj_EV mj_R12 y_M_give c_M_give 2 (some .int) 1 := ⟨mj_tt (List.mem_of_getElem? (i := 1587) (by decide +kernel)) (by decide +kernel), mj_tt (List.mem_of_getElem? (i := 13) (by decide +kernel)) (by decide +kernel), mj_tt (List.mem_of_getElem? (i := 1585) (by decide +kernel)) (by decide +kernel), mj_tt (List.mem_of_getElem? (i := 1586) (by decide +kernel)) (by decide +kernel), ⟨by decide +kernel, by decide +kernel, by decide +kernel⟩, by decide⟩
theorem ev_W_whys : mj_EV mj_R11 y_W_whys c_W_whys 2 (some .boolean) 1 := ⟨mj_tt (List.mem_of_getElem? (i := 789) (by decide +kernel)) (by decide +kernel), mj_tt (List.mem_of_getElem? (i := 1) (by decide +kernel)) (by decide +kernel), mj_tt (List.mem_of_getElem? (i := 787) (by decide +kernel)) (by decide +kernel), mj_tt (List.mem_of_getElem? (i := 788) (by decide +kernel)) (by decide +kernel), ⟨by decide +kernel, by decide +kernel, by decide +kernel⟩, by decide⟩
theorem ev_M_whys : mj_EV mj_R12 y_M_whys c_M_whys 2 (some .boolean) 1 := ⟨mj_tt (List.mem_of_getElem? (i := 1591) (by decide +kernel)) (by decide +kernel), mj_tt (List.mem_of_getElem? (i := 13) (by decide +kernel)) (by decide +kernel), mj_tt (List.mem_of_getElem? (i := 1589) (by decide +kernel)) (by decide +kernel), mj_tt (List.mem_of_getElem? (i := 1590) (by decide +kernel)) (by decide +kernel), ⟨by decide +kernel, by decide +kernel, by decide +kernel⟩, by decide⟩
theorem es_W_turned : mj_ES y_W_turned c_W_turned 2 (some .long) 1 := ⟨mj_tt (List.mem_of_getElem? (i := 796) (by decide +kernel)) (by decide +kernel), mj_tt (List.mem_of_getElem? (i := 1) (by decide +kernel)) (by decide +kernel), mj_tt (List.mem_of_getElem? (i := 795) (by decide +kernel)) (by decide +kernel), ⟨by decide +kernel, by decide +kernel, by decide +kernel⟩, by decide⟩
theorem es_W_drawn : mj_ES y_W_drawn c_W_drawn 3 (some .int) 2 := ⟨mj_tt (List.mem_of_getElem? (i := 801) (by decide +kernel)) (by decide +kernel), mj_tt (List.mem_of_getElem? (i := 1) (by decide +kernel)) (by decide +kernel), mj_tt (List.mem_of_getElem? (i := 800) (by decide +kernel)) (by decide +kernel), ⟨by decide +kernel, by decide +kernel, by decide +kernel⟩, by decide⟩
theorem ev_W_walkIfHeCan : mj_EV mj_R11 y_W_walkIfHeCan c_W_walkIfHeCan 3 none 1 := ⟨mj_tt (List.mem_of_getElem? (i := 805) (by decide +kernel)) (by decide +kernel), mj_tt (List.mem_of_getElem? (i := 1) (by decide +kernel)) (by decide +kernel), mj_tt (List.mem_of_getElem? (i := 804) (by decide +kernel)) (by decide +kernel), mj_tp (List.mem_of_getElem? (i := 23) (by decide +kernel)) (by decide +kernel), ⟨by decide +kernel, by decide +kernel, by decide +kernel⟩, by decide⟩
theorem ev_W_tellIfHeCan : mj_EV mj_R11 y_W_tellIfHeCan c_W_tellIfHeCan 3 none 1 := ⟨mj_tt (List.mem_of_getElem? (i := 809) (by decide +kernel)) (by decide +kernel), mj_tt (List.mem_of_getElem? (i := 1) (by decide +kernel)) (by decide +kernel), mj_tt (List.mem_of_getElem? (i := 808) (by decide +kernel)) (by decide +kernel), mj_tp (List.mem_of_getElem? (i := 24) (by decide +kernel)) (by decide +kernel), ⟨by decide +kernel, by decide +kernel, by decide +kernel⟩, by decide⟩
theorem ev_W_years : mj_EV mj_R11 y_W_years c_W_years 7 (some .int) 2 := ⟨mj_tt (List.mem_of_getElem? (i := 793) (by decide +kernel)) (by decide +kernel), mj_tt (List.mem_of_getElem? (i := 1) (by decide +kernel)) (by decide +kernel), mj_tt (List.mem_of_getElem? (i := 791) (by decide +kernel)) (by decide +kernel), mj_tt (List.mem_of_getElem? (i := 792) (by decide +kernel)) (by decide +kernel), ⟨by decide +kernel, by decide +kernel, by decide +kernel⟩, by decide⟩
theorem ev_M_draw : mj_EV mj_R12 y_M_draw c_M_draw 2 (some .int) 1 := ⟨mj_tt (List.mem_of_getElem? (i := 1603) (by decide +kernel)) (by decide +kernel), mj_tt (List.mem_of_getElem? (i := 13) (by decide +kernel)) (by decide +kernel), mj_tt (List.mem_of_getElem? (i := 1602) (by decide +kernel)) (by decide +kernel), mj_tp (List.mem_of_getElem? (i := 86) (by decide +kernel)) (by decide +kernel), ⟨by decide +kernel, by decide +kernel, by decide +kernel⟩, by decide⟩
theorem ev_M_drawRound : mj_EV mj_R12 y_M_drawRound c_M_drawRound 4 none 0 := ⟨mj_tt (List.mem_of_getElem? (i := 1599) (by decide +kernel)) (by decide +kernel), mj_tt (List.mem_of_getElem? (i := 13) (by decide +kernel)) (by decide +kernel), mj_tt (List.mem_of_getElem? (i := 1598) (by decide +kernel)) (by decide +kernel), mj_tp (List.mem_of_getElem? (i := 85) (by decide +kernel)) (by decide +kernel), ⟨by decide +kernel, by decide +kernel, by decide +kernel⟩, by decide⟩
theorem ev_M_years : mj_EV mj_R12 y_M_years c_M_years 5 (some .int) 2 := ⟨mj_tt (List.mem_of_getElem? (i := 1595) (by decide +kernel)) (by decide +kernel), mj_tt (List.mem_of_getElem? (i := 13) (by decide +kernel)) (by decide +kernel), mj_tt (List.mem_of_getElem? (i := 1593) (by decide +kernel)) (by decide +kernel), mj_tt (List.mem_of_getElem? (i := 1594) (by decide +kernel)) (by decide +kernel), ⟨by decide +kernel, by decide +kernel, by decide +kernel⟩, by decide⟩
theorem ev_W_status : mj_EV mj_R11 y_W_status c_W_status 2 (some .int) 1 := ⟨mj_tt (List.mem_of_getElem? (i := 814) (by decide +kernel)) (by decide +kernel), mj_tt (List.mem_of_getElem? (i := 1) (by decide +kernel)) (by decide +kernel), mj_tt (List.mem_of_getElem? (i := 812) (by decide +kernel)) (by decide +kernel), mj_tt (List.mem_of_getElem? (i := 813) (by decide +kernel)) (by decide +kernel), ⟨by decide +kernel, by decide +kernel, by decide +kernel⟩, by decide⟩
theorem ev_M_status : mj_EV mj_R12 y_M_status c_M_status 2 (some .int) 1 := ⟨mj_tt (List.mem_of_getElem? (i := 1609) (by decide +kernel)) (by decide +kernel), mj_tt (List.mem_of_getElem? (i := 13) (by decide +kernel)) (by decide +kernel), mj_tt (List.mem_of_getElem? (i := 1607) (by decide +kernel)) (by decide +kernel), mj_tt (List.mem_of_getElem? (i := 1608) (by decide +kernel)) (by decide +kernel), ⟨by decide +kernel, by decide +kernel, by decide +kernel⟩, by decide⟩
theorem ev_Stand_load : mj_EV mj_R8 y_Stand_load c_Stand_load 3 none 2 := ⟨mj_tt (List.mem_of_getElem? (i := 826) (by decide +kernel)) (by decide +kernel), mj_tt (List.mem_of_getElem? (i := 7) (by decide +kernel)) (by decide +kernel), mj_tt (List.mem_of_getElem? (i := 824) (by decide +kernel)) (by decide +kernel), mj_tt (List.mem_of_getElem? (i := 825) (by decide +kernel)) (by decide +kernel), ⟨by decide +kernel, by decide +kernel, by decide +kernel⟩, by decide⟩
theorem ev_Past_takeBack : mj_EV mj_R6 y_Past_takeBack c_Past_takeBack 2 none 1 := ⟨mj_tt (List.mem_of_getElem? (i := 822) (by decide +kernel)) (by decide +kernel), mj_tt (List.mem_of_getElem? (i := 8) (by decide +kernel)) (by decide +kernel), mj_tt (List.mem_of_getElem? (i := 820) (by decide +kernel)) (by decide +kernel), mj_tt (List.mem_of_getElem? (i := 821) (by decide +kernel)) (by decide +kernel), ⟨by decide +kernel, by decide +kernel, by decide +kernel⟩, by decide⟩
theorem ev_W_undo : mj_EV mj_R11 y_W_undo c_W_undo 1 (some .int) 0 := ⟨mj_tt (List.mem_of_getElem? (i := 818) (by decide +kernel)) (by decide +kernel), mj_tt (List.mem_of_getElem? (i := 1) (by decide +kernel)) (by decide +kernel), mj_tt (List.mem_of_getElem? (i := 816) (by decide +kernel)) (by decide +kernel), mj_tt (List.mem_of_getElem? (i := 817) (by decide +kernel)) (by decide +kernel), ⟨by decide +kernel, by decide +kernel, by decide +kernel⟩, by decide⟩
theorem ev_M_undo : mj_EV mj_R12 y_M_undo c_M_undo 2 (some .int) 0 := ⟨mj_tt (List.mem_of_getElem? (i := 1613) (by decide +kernel)) (by decide +kernel), mj_tt (List.mem_of_getElem? (i := 13) (by decide +kernel)) (by decide +kernel), mj_tt (List.mem_of_getElem? (i := 1611) (by decide +kernel)) (by decide +kernel), mj_tt (List.mem_of_getElem? (i := 1612) (by decide +kernel)) (by decide +kernel), ⟨by decide +kernel, by decide +kernel, by decide +kernel⟩, by decide⟩
theorem ev_Stand_logSize : mj_EV mj_R8 y_Stand_logSize c_Stand_logSize 1 (some .int) 0 := ⟨mj_tt (List.mem_of_getElem? (i := 834) (by decide +kernel)) (by decide +kernel), mj_tt (List.mem_of_getElem? (i := 7) (by decide +kernel)) (by decide +kernel), mj_tt (List.mem_of_getElem? (i := 832) (by decide +kernel)) (by decide +kernel), mj_tt (List.mem_of_getElem? (i := 833) (by decide +kernel)) (by decide +kernel), ⟨by decide +kernel, by decide +kernel, by decide +kernel⟩, by decide⟩
theorem ev_Stand_telling : mj_EV mj_R8 y_Stand_telling c_Stand_telling 3 (some .int) 1 := ⟨mj_tt (List.mem_of_getElem? (i := 838) (by decide +kernel)) (by decide +kernel), mj_tt (List.mem_of_getElem? (i := 7) (by decide +kernel)) (by decide +kernel), mj_tt (List.mem_of_getElem? (i := 836) (by decide +kernel)) (by decide +kernel), mj_tt (List.mem_of_getElem? (i := 837) (by decide +kernel)) (by decide +kernel), ⟨by decide +kernel, by decide +kernel, by decide +kernel⟩, by decide⟩
theorem ev_W_log : mj_EV mj_R11 y_W_log c_W_log 4 (some .int) 2 := ⟨mj_tt (List.mem_of_getElem? (i := 830) (by decide +kernel)) (by decide +kernel), mj_tt (List.mem_of_getElem? (i := 1) (by decide +kernel)) (by decide +kernel), mj_tt (List.mem_of_getElem? (i := 828) (by decide +kernel)) (by decide +kernel), mj_tt (List.mem_of_getElem? (i := 829) (by decide +kernel)) (by decide +kernel), ⟨by decide +kernel, by decide +kernel, by decide +kernel⟩, by decide⟩
theorem ev_M_log : mj_EV mj_R12 y_M_log c_M_log 3 (some .int) 2 := ⟨mj_tt (List.mem_of_getElem? (i := 1617) (by decide +kernel)) (by decide +kernel), mj_tt (List.mem_of_getElem? (i := 13) (by decide +kernel)) (by decide +kernel), mj_tt (List.mem_of_getElem? (i := 1615) (by decide +kernel)) (by decide +kernel), mj_tt (List.mem_of_getElem? (i := 1616) (by decide +kernel)) (by decide +kernel), ⟨by decide +kernel, by decide +kernel, by decide +kernel⟩, by decide⟩
theorem ev_Plans_findBest : mj_EV mj_R7 y_Plans_findBest c_Plans_findBest 5 none 2 := ⟨mj_tt (List.mem_of_getElem? (i := 846) (by decide +kernel)) (by decide +kernel), mj_tt (List.mem_of_getElem? (i := 11) (by decide +kernel)) (by decide +kernel), mj_tt (List.mem_of_getElem? (i := 844) (by decide +kernel)) (by decide +kernel), mj_tt (List.mem_of_getElem? (i := 845) (by decide +kernel)) (by decide +kernel), ⟨by decide +kernel, by decide +kernel, by decide +kernel⟩, by decide⟩
theorem ev_W_best : mj_EV mj_R11 y_W_best c_W_best 3 (some .int) 2 := ⟨mj_tt (List.mem_of_getElem? (i := 842) (by decide +kernel)) (by decide +kernel), mj_tt (List.mem_of_getElem? (i := 1) (by decide +kernel)) (by decide +kernel), mj_tt (List.mem_of_getElem? (i := 840) (by decide +kernel)) (by decide +kernel), mj_tt (List.mem_of_getElem? (i := 841) (by decide +kernel)) (by decide +kernel), ⟨by decide +kernel, by decide +kernel, by decide +kernel⟩, by decide⟩
theorem ev_M_bestIn : mj_EV mj_R12 y_M_bestIn c_M_bestIn 4 (some .int) 1 := ⟨mj_tt (List.mem_of_getElem? (i := 1625) (by decide +kernel)) (by decide +kernel), mj_tt (List.mem_of_getElem? (i := 13) (by decide +kernel)) (by decide +kernel), mj_tt (List.mem_of_getElem? (i := 1624) (by decide +kernel)) (by decide +kernel), mj_tp (List.mem_of_getElem? (i := 87) (by decide +kernel)) (by decide +kernel), ⟨by decide +kernel, by decide +kernel, by decide +kernel⟩, by decide⟩
theorem ev_M_best : mj_EV mj_R12 y_M_best c_M_best 4 (some .int) 2 := ⟨mj_tt (List.mem_of_getElem? (i := 1621) (by decide +kernel)) (by decide +kernel), mj_tt (List.mem_of_getElem? (i := 13) (by decide +kernel)) (by decide +kernel), mj_tt (List.mem_of_getElem? (i := 1619) (by decide +kernel)) (by decide +kernel), mj_tt (List.mem_of_getElem? (i := 1620) (by decide +kernel)) (by decide +kernel), ⟨by decide +kernel, by decide +kernel, by decide +kernel⟩, by decide⟩
theorem ev_Plans_weighAll : mj_EV mj_R7 y_Plans_weighAll c_Plans_weighAll 3 none 0 := ⟨mj_tt (List.mem_of_getElem? (i := 860) (by decide +kernel)) (by decide +kernel), mj_tt (List.mem_of_getElem? (i := 11) (by decide +kernel)) (by decide +kernel), mj_tt (List.mem_of_getElem? (i := 859) (by decide +kernel)) (by decide +kernel), mj_tp (List.mem_of_getElem? (i := 25) (by decide +kernel)) (by decide +kernel), ⟨by decide +kernel, by decide +kernel, by decide +kernel⟩, by decide⟩
theorem ev_Stays_onceMore : mj_EV mj_R9 y_Stays_onceMore c_Stays_onceMore 4 (some .int) 2 := ⟨mj_tt (List.mem_of_getElem? (i := 866) (by decide +kernel)) (by decide +kernel), mj_tt (List.mem_of_getElem? (i := 9) (by decide +kernel)) (by decide +kernel), mj_tt (List.mem_of_getElem? (i := 864) (by decide +kernel)) (by decide +kernel), mj_tt (List.mem_of_getElem? (i := 865) (by decide +kernel)) (by decide +kernel), ⟨by decide +kernel, by decide +kernel, by decide +kernel⟩, by decide⟩
theorem es_Plans_digitsOf : mj_ES y_Plans_digitsOf c_Plans_digitsOf 1 (some .int) 1 := ⟨mj_tt (List.mem_of_getElem? (i := 880) (by decide +kernel)) (by decide +kernel), mj_tt (List.mem_of_getElem? (i := 11) (by decide +kernel)) (by decide +kernel), mj_tt (List.mem_of_getElem? (i := 879) (by decide +kernel)) (by decide +kernel), ⟨by decide +kernel, by decide +kernel, by decide +kernel⟩, by decide⟩
theorem ev_Plans_trySecondsIn : mj_EV mj_R7 y_Plans_trySecondsIn c_Plans_trySecondsIn 6 none 2 := ⟨mj_tt (List.mem_of_getElem? (i := 877) (by decide +kernel)) (by decide +kernel), mj_tt (List.mem_of_getElem? (i := 11) (by decide +kernel)) (by decide +kernel), mj_tt (List.mem_of_getElem? (i := 876) (by decide +kernel)) (by decide +kernel), mj_tp (List.mem_of_getElem? (i := 27) (by decide +kernel)) (by decide +kernel), ⟨by decide +kernel, by decide +kernel, by decide +kernel⟩, by decide⟩
theorem ev_Plans_trySecondsBehind : mj_EV mj_R7 y_Plans_trySecondsBehind c_Plans_trySecondsBehind 6 none 2 := ⟨mj_tt (List.mem_of_getElem? (i := 871) (by decide +kernel)) (by decide +kernel), mj_tt (List.mem_of_getElem? (i := 11) (by decide +kernel)) (by decide +kernel), mj_tt (List.mem_of_getElem? (i := 870) (by decide +kernel)) (by decide +kernel), mj_tp (List.mem_of_getElem? (i := 26) (by decide +kernel)) (by decide +kernel), ⟨by decide +kernel, by decide +kernel, by decide +kernel⟩, by decide⟩
theorem ev_Plans_findTwo : mj_EV mj_R7 y_Plans_findTwo c_Plans_findTwo 3 none 0 := ⟨mj_tt (List.mem_of_getElem? (i := 856) (by decide +kernel)) (by decide +kernel), mj_tt (List.mem_of_getElem? (i := 11) (by decide +kernel)) (by decide +kernel), mj_tt (List.mem_of_getElem? (i := 854) (by decide +kernel)) (by decide +kernel), mj_tt (List.mem_of_getElem? (i := 855) (by decide +kernel)) (by decide +kernel), ⟨by decide +kernel, by decide +kernel, by decide +kernel⟩, by decide⟩
theorem ev_W_two : mj_EV mj_R11 y_W_two c_W_two 2 (some .int) 1 := ⟨mj_tt (List.mem_of_getElem? (i := 852) (by decide +kernel)) (by decide +kernel), mj_tt (List.mem_of_getElem? (i := 1) (by decide +kernel)) (by decide +kernel), mj_tt (List.mem_of_getElem? (i := 850) (by decide +kernel)) (by decide +kernel), mj_tt (List.mem_of_getElem? (i := 851) (by decide +kernel)) (by decide +kernel), ⟨by decide +kernel, by decide +kernel, by decide +kernel⟩, by decide⟩
theorem ev_M_putAside : mj_EV mj_R12 y_M_putAside c_M_putAside 3 none 1 := ⟨mj_tt (List.mem_of_getElem? (i := 1637) (by decide +kernel)) (by decide +kernel), mj_tt (List.mem_of_getElem? (i := 13) (by decide +kernel)) (by decide +kernel), mj_tt (List.mem_of_getElem? (i := 1636) (by decide +kernel)) (by decide +kernel), mj_tp (List.mem_of_getElem? (i := 89) (by decide +kernel)) (by decide +kernel), ⟨by decide +kernel, by decide +kernel, by decide +kernel⟩, by decide⟩
theorem ev_M_takeBack : mj_EV mj_R12 y_M_takeBack c_M_takeBack 3 none 1 := ⟨mj_tt (List.mem_of_getElem? (i := 1641) (by decide +kernel)) (by decide +kernel), mj_tt (List.mem_of_getElem? (i := 13) (by decide +kernel)) (by decide +kernel), mj_tt (List.mem_of_getElem? (i := 1640) (by decide +kernel)) (by decide +kernel), mj_tp (List.mem_of_getElem? (i := 90) (by decide +kernel)) (by decide +kernel), ⟨by decide +kernel, by decide +kernel, by decide +kernel⟩, by decide⟩
theorem ev_M_tryTwo : mj_EV mj_R12 y_M_tryTwo c_M_tryTwo 8 none 3 := ⟨mj_tt (List.mem_of_getElem? (i := 1633) (by decide +kernel)) (by decide +kernel), mj_tt (List.mem_of_getElem? (i := 13) (by decide +kernel)) (by decide +kernel), mj_tt (List.mem_of_getElem? (i := 1632) (by decide +kernel)) (by decide +kernel), mj_tp (List.mem_of_getElem? (i := 88) (by decide +kernel)) (by decide +kernel), ⟨by decide +kernel, by decide +kernel, by decide +kernel⟩, by decide⟩
theorem ev_M_two : mj_EV mj_R12 y_M_two c_M_two 2 (some .int) 1 := ⟨mj_tt (List.mem_of_getElem? (i := 1629) (by decide +kernel)) (by decide +kernel), mj_tt (List.mem_of_getElem? (i := 13) (by decide +kernel)) (by decide +kernel), mj_tt (List.mem_of_getElem? (i := 1627) (by decide +kernel)) (by decide +kernel), mj_tt (List.mem_of_getElem? (i := 1628) (by decide +kernel)) (by decide +kernel), ⟨by decide +kernel, by decide +kernel, by decide +kernel⟩, by decide⟩
theorem es_Plans_with : mj_ES y_Plans_with c_Plans_with 2 (some .int) 2 := ⟨mj_tt (List.mem_of_getElem? (i := 901) (by decide +kernel)) (by decide +kernel), mj_tt (List.mem_of_getElem? (i := 11) (by decide +kernel)) (by decide +kernel), mj_tt (List.mem_of_getElem? (i := 900) (by decide +kernel)) (by decide +kernel), ⟨by decide +kernel, by decide +kernel, by decide +kernel⟩, by decide⟩
theorem ev_Plans_nightsBy : mj_EV mj_R7 y_Plans_nightsBy c_Plans_nightsBy 5 (some .int) 3 := ⟨mj_tt (List.mem_of_getElem? (i := 898) (by decide +kernel)) (by decide +kernel), mj_tt (List.mem_of_getElem? (i := 11) (by decide +kernel)) (by decide +kernel), mj_tt (List.mem_of_getElem? (i := 897) (by decide +kernel)) (by decide +kernel), mj_tp (List.mem_of_getElem? (i := 29) (by decide +kernel)) (by decide +kernel), ⟨by decide +kernel, by decide +kernel, by decide +kernel⟩, by decide⟩
theorem ev_Plans_placeFor : mj_EV mj_R7 y_Plans_placeFor c_Plans_placeFor 7 (some .int) 2 := ⟨mj_tt (List.mem_of_getElem? (i := 894) (by decide +kernel)) (by decide +kernel), mj_tt (List.mem_of_getElem? (i := 11) (by decide +kernel)) (by decide +kernel), mj_tt (List.mem_of_getElem? (i := 893) (by decide +kernel)) (by decide +kernel), mj_tp (List.mem_of_getElem? (i := 28) (by decide +kernel)) (by decide +kernel), ⟨by decide +kernel, by decide +kernel, by decide +kernel⟩, by decide⟩
theorem ev_Plans_findPlaces : mj_EV mj_R7 y_Plans_findPlaces c_Plans_findPlaces 4 none 0 := ⟨mj_tt (List.mem_of_getElem? (i := 888) (by decide +kernel)) (by decide +kernel), mj_tt (List.mem_of_getElem? (i := 11) (by decide +kernel)) (by decide +kernel), mj_tt (List.mem_of_getElem? (i := 886) (by decide +kernel)) (by decide +kernel), mj_tt (List.mem_of_getElem? (i := 887) (by decide +kernel)) (by decide +kernel), ⟨by decide +kernel, by decide +kernel, by decide +kernel⟩, by decide⟩
theorem ev_W_places : mj_EV mj_R11 y_W_places c_W_places 2 (some .int) 1 := ⟨mj_tt (List.mem_of_getElem? (i := 884) (by decide +kernel)) (by decide +kernel), mj_tt (List.mem_of_getElem? (i := 1) (by decide +kernel)) (by decide +kernel), mj_tt (List.mem_of_getElem? (i := 882) (by decide +kernel)) (by decide +kernel), mj_tt (List.mem_of_getElem? (i := 883) (by decide +kernel)) (by decide +kernel), ⟨by decide +kernel, by decide +kernel, by decide +kernel⟩, by decide⟩
theorem ev_M_tryPlaces : mj_EV mj_R12 y_M_tryPlaces c_M_tryPlaces 6 none 4 := ⟨mj_tt (List.mem_of_getElem? (i := 1649) (by decide +kernel)) (by decide +kernel), mj_tt (List.mem_of_getElem? (i := 13) (by decide +kernel)) (by decide +kernel), mj_tt (List.mem_of_getElem? (i := 1648) (by decide +kernel)) (by decide +kernel), mj_tp (List.mem_of_getElem? (i := 91) (by decide +kernel)) (by decide +kernel), ⟨by decide +kernel, by decide +kernel, by decide +kernel⟩, by decide⟩
theorem ev_M_places : mj_EV mj_R12 y_M_places c_M_places 2 (some .int) 1 := ⟨mj_tt (List.mem_of_getElem? (i := 1645) (by decide +kernel)) (by decide +kernel), mj_tt (List.mem_of_getElem? (i := 13) (by decide +kernel)) (by decide +kernel), mj_tt (List.mem_of_getElem? (i := 1643) (by decide +kernel)) (by decide +kernel), mj_tt (List.mem_of_getElem? (i := 1644) (by decide +kernel)) (by decide +kernel), ⟨by decide +kernel, by decide +kernel, by decide +kernel⟩, by decide⟩
theorem ev_Plans_serves : mj_EV mj_R7 y_Plans_serves c_Plans_serves 5 (some .boolean) 3 := ⟨mj_tt (List.mem_of_getElem? (i := 918) (by decide +kernel)) (by decide +kernel), mj_tt (List.mem_of_getElem? (i := 11) (by decide +kernel)) (by decide +kernel), mj_tt (List.mem_of_getElem? (i := 917) (by decide +kernel)) (by decide +kernel), mj_tp (List.mem_of_getElem? (i := 31) (by decide +kernel)) (by decide +kernel), ⟨by decide +kernel, by decide +kernel, by decide +kernel⟩, by decide⟩
theorem ev_Plans_servesAll : mj_EV mj_R7 y_Plans_servesAll c_Plans_servesAll 4 (some .boolean) 2 := ⟨mj_tt (List.mem_of_getElem? (i := 914) (by decide +kernel)) (by decide +kernel), mj_tt (List.mem_of_getElem? (i := 11) (by decide +kernel)) (by decide +kernel), mj_tt (List.mem_of_getElem? (i := 913) (by decide +kernel)) (by decide +kernel), mj_tp (List.mem_of_getElem? (i := 30) (by decide +kernel)) (by decide +kernel), ⟨by decide +kernel, by decide +kernel, by decide +kernel⟩, by decide⟩
theorem ev_Plans_fewestFor : mj_EV mj_R7 y_Plans_fewestFor c_Plans_fewestFor 6 (some .int) 1 := ⟨mj_tt (List.mem_of_getElem? (i := 909) (by decide +kernel)) (by decide +kernel), mj_tt (List.mem_of_getElem? (i := 11) (by decide +kernel)) (by decide +kernel), mj_tt (List.mem_of_getElem? (i := 907) (by decide +kernel)) (by decide +kernel), mj_tt (List.mem_of_getElem? (i := 908) (by decide +kernel)) (by decide +kernel), ⟨by decide +kernel, by decide +kernel, by decide +kernel⟩, by decide⟩
theorem ev_W_fewest : mj_EV mj_R11 y_W_fewest c_W_fewest 2 (some .int) 1 := ⟨mj_tt (List.mem_of_getElem? (i := 905) (by decide +kernel)) (by decide +kernel), mj_tt (List.mem_of_getElem? (i := 1) (by decide +kernel)) (by decide +kernel), mj_tt (List.mem_of_getElem? (i := 903) (by decide +kernel)) (by decide +kernel), mj_tt (List.mem_of_getElem? (i := 904) (by decide +kernel)) (by decide +kernel), ⟨by decide +kernel, by decide +kernel, by decide +kernel⟩, by decide⟩
theorem ev_M_whereOf : mj_EV mj_R12 y_M_whereOf c_M_whereOf 5 (some .int) 2 := ⟨mj_tt (List.mem_of_getElem? (i := 1657) (by decide +kernel)) (by decide +kernel), mj_tt (List.mem_of_getElem? (i := 13) (by decide +kernel)) (by decide +kernel), mj_tt (List.mem_of_getElem? (i := 1656) (by decide +kernel)) (by decide +kernel), mj_tp (List.mem_of_getElem? (i := 92) (by decide +kernel)) (by decide +kernel), ⟨by decide +kernel, by decide +kernel, by decide +kernel⟩, by decide⟩
theorem ev_M_fewest : mj_EV mj_R12 y_M_fewest c_M_fewest 6 (some .int) 1 := ⟨mj_tt (List.mem_of_getElem? (i := 1661) (by decide +kernel)) (by decide +kernel), mj_tt (List.mem_of_getElem? (i := 13) (by decide +kernel)) (by decide +kernel), mj_tt (List.mem_of_getElem? (i := 1659) (by decide +kernel)) (by decide +kernel), mj_tt (List.mem_of_getElem? (i := 1660) (by decide +kernel)) (by decide +kernel), ⟨by decide +kernel, by decide +kernel, by decide +kernel⟩, by decide⟩
theorem ev_Guess_add : mj_EV mj_R3 y_Guess_add c_Guess_add 4 none 3 := ⟨mj_tt (List.mem_of_getElem? (i := 926) (by decide +kernel)) (by decide +kernel), mj_tt (List.mem_of_getElem? (i := 10) (by decide +kernel)) (by decide +kernel), mj_tt (List.mem_of_getElem? (i := 924) (by decide +kernel)) (by decide +kernel), mj_tt (List.mem_of_getElem? (i := 925) (by decide +kernel)) (by decide +kernel), ⟨by decide +kernel, by decide +kernel, by decide +kernel⟩, by decide⟩
theorem ev_W_seen : mj_EV mj_R11 y_W_seen c_W_seen 4 (some .int) 3 := ⟨mj_tt (List.mem_of_getElem? (i := 922) (by decide +kernel)) (by decide +kernel), mj_tt (List.mem_of_getElem? (i := 1) (by decide +kernel)) (by decide +kernel), mj_tt (List.mem_of_getElem? (i := 920) (by decide +kernel)) (by decide +kernel), mj_tt (List.mem_of_getElem? (i := 921) (by decide +kernel)) (by decide +kernel), ⟨by decide +kernel, by decide +kernel, by decide +kernel⟩, by decide⟩
theorem ev_M_seen : mj_EV mj_R12 y_M_seen c_M_seen 4 (some .int) 3 := ⟨mj_tt (List.mem_of_getElem? (i := 1665) (by decide +kernel)) (by decide +kernel), mj_tt (List.mem_of_getElem? (i := 13) (by decide +kernel)) (by decide +kernel), mj_tt (List.mem_of_getElem? (i := 1663) (by decide +kernel)) (by decide +kernel), mj_tt (List.mem_of_getElem? (i := 1664) (by decide +kernel)) (by decide +kernel), ⟨by decide +kernel, by decide +kernel, by decide +kernel⟩, by decide⟩
theorem ev_Stays_asTold : mj_EV mj_R9 y_Stays_asTold c_Stays_asTold 3 (some .int) 2 := ⟨mj_tt (List.mem_of_getElem? (i := 942) (by decide +kernel)) (by decide +kernel), mj_tt (List.mem_of_getElem? (i := 9) (by decide +kernel)) (by decide +kernel), mj_tt (List.mem_of_getElem? (i := 940) (by decide +kernel)) (by decide +kernel), mj_tt (List.mem_of_getElem? (i := 941) (by decide +kernel)) (by decide +kernel), ⟨by decide +kernel, by decide +kernel, by decide +kernel⟩, by decide⟩
theorem ev_Guess_fits : mj_EV mj_R3 y_Guess_fits c_Guess_fits 3 (some .boolean) 1 := ⟨mj_tt (List.mem_of_getElem? (i := 938) (by decide +kernel)) (by decide +kernel), mj_tt (List.mem_of_getElem? (i := 10) (by decide +kernel)) (by decide +kernel), mj_tt (List.mem_of_getElem? (i := 937) (by decide +kernel)) (by decide +kernel), mj_tp (List.mem_of_getElem? (i := 32) (by decide +kernel)) (by decide +kernel), ⟨by decide +kernel, by decide +kernel, by decide +kernel⟩, by decide⟩
theorem ev_Guess_fitting : mj_EV mj_R3 y_Guess_fitting c_Guess_fitting 3 (some .int) 0 := ⟨mj_tt (List.mem_of_getElem? (i := 934) (by decide +kernel)) (by decide +kernel), mj_tt (List.mem_of_getElem? (i := 10) (by decide +kernel)) (by decide +kernel), mj_tt (List.mem_of_getElem? (i := 932) (by decide +kernel)) (by decide +kernel), mj_tt (List.mem_of_getElem? (i := 933) (by decide +kernel)) (by decide +kernel), ⟨by decide +kernel, by decide +kernel, by decide +kernel⟩, by decide⟩
theorem es_Guess_bitAt : mj_ES y_Guess_bitAt c_Guess_bitAt 4 (some .int) 2 := ⟨mj_tt (List.mem_of_getElem? (i := 946) (by decide +kernel)) (by decide +kernel), mj_tt (List.mem_of_getElem? (i := 10) (by decide +kernel)) (by decide +kernel), mj_tt (List.mem_of_getElem? (i := 945) (by decide +kernel)) (by decide +kernel), ⟨by decide +kernel, by decide +kernel, by decide +kernel⟩, by decide⟩
theorem ev_W_told : mj_EV mj_R11 y_W_told c_W_told 3 (some .int) 1 := ⟨mj_tt (List.mem_of_getElem? (i := 930) (by decide +kernel)) (by decide +kernel), mj_tt (List.mem_of_getElem? (i := 1) (by decide +kernel)) (by decide +kernel), mj_tt (List.mem_of_getElem? (i := 928) (by decide +kernel)) (by decide +kernel), mj_tt (List.mem_of_getElem? (i := 929) (by decide +kernel)) (by decide +kernel), ⟨by decide +kernel, by decide +kernel, by decide +kernel⟩, by decide⟩
theorem ev_M_toldNights : mj_EV mj_R12 y_M_toldNights c_M_toldNights 3 (some .int) 2 := ⟨mj_tt (List.mem_of_getElem? (i := 1677) (by decide +kernel)) (by decide +kernel), mj_tt (List.mem_of_getElem? (i := 13) (by decide +kernel)) (by decide +kernel), mj_tt (List.mem_of_getElem? (i := 1676) (by decide +kernel)) (by decide +kernel), mj_tp (List.mem_of_getElem? (i := 94) (by decide +kernel)) (by decide +kernel), ⟨by decide +kernel, by decide +kernel, by decide +kernel⟩, by decide⟩
theorem ev_M_isTold : mj_EV mj_R12 y_M_isTold c_M_isTold 3 (some .boolean) 1 := ⟨mj_tt (List.mem_of_getElem? (i := 1673) (by decide +kernel)) (by decide +kernel), mj_tt (List.mem_of_getElem? (i := 13) (by decide +kernel)) (by decide +kernel), mj_tt (List.mem_of_getElem? (i := 1672) (by decide +kernel)) (by decide +kernel), mj_tp (List.mem_of_getElem? (i := 93) (by decide +kernel)) (by decide +kernel), ⟨by decide +kernel, by decide +kernel, by decide +kernel⟩, by decide⟩
theorem ev_M_told : mj_EV mj_R12 y_M_told c_M_told 4 (some .int) 1 := ⟨mj_tt (List.mem_of_getElem? (i := 1669) (by decide +kernel)) (by decide +kernel), mj_tt (List.mem_of_getElem? (i := 13) (by decide +kernel)) (by decide +kernel), mj_tt (List.mem_of_getElem? (i := 1667) (by decide +kernel)) (by decide +kernel), mj_tt (List.mem_of_getElem? (i := 1668) (by decide +kernel)) (by decide +kernel), ⟨by decide +kernel, by decide +kernel, by decide +kernel⟩, by decide⟩
theorem ev_Guess_apartIn : mj_EV mj_R3 y_Guess_apartIn c_Guess_apartIn 6 (some .int) 3 := ⟨mj_tt (List.mem_of_getElem? (i := 958) (by decide +kernel)) (by decide +kernel), mj_tt (List.mem_of_getElem? (i := 10) (by decide +kernel)) (by decide +kernel), mj_tt (List.mem_of_getElem? (i := 957) (by decide +kernel)) (by decide +kernel), mj_tp (List.mem_of_getElem? (i := 33) (by decide +kernel)) (by decide +kernel), ⟨by decide +kernel, by decide +kernel, by decide +kernel⟩, by decide⟩
theorem ev_Guess_houseToAsk : mj_EV mj_R3 y_Guess_houseToAsk c_Guess_houseToAsk 7 (some .int) 2 := ⟨mj_tt (List.mem_of_getElem? (i := 954) (by decide +kernel)) (by decide +kernel), mj_tt (List.mem_of_getElem? (i := 10) (by decide +kernel)) (by decide +kernel), mj_tt (List.mem_of_getElem? (i := 952) (by decide +kernel)) (by decide +kernel), mj_tt (List.mem_of_getElem? (i := 953) (by decide +kernel)) (by decide +kernel), ⟨by decide +kernel, by decide +kernel, by decide +kernel⟩, by decide⟩
theorem ev_W_ask : mj_EV mj_R11 y_W_ask c_W_ask 2 (some .int) 1 := ⟨mj_tt (List.mem_of_getElem? (i := 950) (by decide +kernel)) (by decide +kernel), mj_tt (List.mem_of_getElem? (i := 1) (by decide +kernel)) (by decide +kernel), mj_tt (List.mem_of_getElem? (i := 948) (by decide +kernel)) (by decide +kernel), mj_tt (List.mem_of_getElem? (i := 949) (by decide +kernel)) (by decide +kernel), ⟨by decide +kernel, by decide +kernel, by decide +kernel⟩, by decide⟩
theorem ev_M_ask : mj_EV mj_R12 y_M_ask c_M_ask 7 (some .int) 1 := ⟨mj_tt (List.mem_of_getElem? (i := 1681) (by decide +kernel)) (by decide +kernel), mj_tt (List.mem_of_getElem? (i := 13) (by decide +kernel)) (by decide +kernel), mj_tt (List.mem_of_getElem? (i := 1679) (by decide +kernel)) (by decide +kernel), mj_tt (List.mem_of_getElem? (i := 1680) (by decide +kernel)) (by decide +kernel), ⟨by decide +kernel, by decide +kernel, by decide +kernel⟩, by decide⟩
theorem ev_Duel_standIn : mj_EV mj_R2 y_Duel_standIn c_Duel_standIn 4 none 1 := ⟨mj_tt (List.mem_of_getElem? (i := 968) (by decide +kernel)) (by decide +kernel), mj_tt (List.mem_of_getElem? (i := 12) (by decide +kernel)) (by decide +kernel), mj_tt (List.mem_of_getElem? (i := 966) (by decide +kernel)) (by decide +kernel), mj_tt (List.mem_of_getElem? (i := 967) (by decide +kernel)) (by decide +kernel), ⟨by decide +kernel, by decide +kernel, by decide +kernel⟩, by decide⟩
theorem ev_Duel_secondStay : mj_EV mj_R2 y_Duel_secondStay c_Duel_secondStay 3 (some .int) 2 := ⟨mj_tt (List.mem_of_getElem? (i := 979) (by decide +kernel)) (by decide +kernel), mj_tt (List.mem_of_getElem? (i := 12) (by decide +kernel)) (by decide +kernel), mj_tt (List.mem_of_getElem? (i := 978) (by decide +kernel)) (by decide +kernel), mj_tp (List.mem_of_getElem? (i := 34) (by decide +kernel)) (by decide +kernel), ⟨by decide +kernel, by decide +kernel, by decide +kernel⟩, by decide⟩
theorem ev_Duel_has : mj_EV mj_R2 y_Duel_has c_Duel_has 5 (some .int) 3 := ⟨mj_tt (List.mem_of_getElem? (i := 983) (by decide +kernel)) (by decide +kernel), mj_tt (List.mem_of_getElem? (i := 12) (by decide +kernel)) (by decide +kernel), mj_tt (List.mem_of_getElem? (i := 982) (by decide +kernel)) (by decide +kernel), mj_tp (List.mem_of_getElem? (i := 35) (by decide +kernel)) (by decide +kernel), ⟨by decide +kernel, by decide +kernel, by decide +kernel⟩, by decide⟩
theorem ev_Duel_secondHas : mj_EV mj_R2 y_Duel_secondHas c_Duel_secondHas 3 (some .int) 2 := ⟨mj_tt (List.mem_of_getElem? (i := 987) (by decide +kernel)) (by decide +kernel), mj_tt (List.mem_of_getElem? (i := 12) (by decide +kernel)) (by decide +kernel), mj_tt (List.mem_of_getElem? (i := 985) (by decide +kernel)) (by decide +kernel), mj_tt (List.mem_of_getElem? (i := 986) (by decide +kernel)) (by decide +kernel), ⟨by decide +kernel, by decide +kernel, by decide +kernel⟩, by decide⟩
theorem ev_Duel_firstHas : mj_EV mj_R2 y_Duel_firstHas c_Duel_firstHas 3 (some .int) 2 := ⟨mj_tt (List.mem_of_getElem? (i := 975) (by decide +kernel)) (by decide +kernel), mj_tt (List.mem_of_getElem? (i := 12) (by decide +kernel)) (by decide +kernel), mj_tt (List.mem_of_getElem? (i := 973) (by decide +kernel)) (by decide +kernel), mj_tt (List.mem_of_getElem? (i := 974) (by decide +kernel)) (by decide +kernel), ⟨by decide +kernel, by decide +kernel, by decide +kernel⟩, by decide⟩
theorem ev_W_game : mj_EV mj_R11 y_W_game c_W_game 5 (some .int) 4 := ⟨mj_tt (List.mem_of_getElem? (i := 963) (by decide +kernel)) (by decide +kernel), mj_tt (List.mem_of_getElem? (i := 1) (by decide +kernel)) (by decide +kernel), mj_tt (List.mem_of_getElem? (i := 961) (by decide +kernel)) (by decide +kernel), mj_tt (List.mem_of_getElem? (i := 962) (by decide +kernel)) (by decide +kernel), ⟨by decide +kernel, by decide +kernel, by decide +kernel⟩, by decide⟩
theorem ev_M_gameOf : mj_EV mj_R12 y_M_gameOf c_M_gameOf 9 (some .int) 4 := ⟨mj_tt (List.mem_of_getElem? (i := 1691) (by decide +kernel)) (by decide +kernel), mj_tt (List.mem_of_getElem? (i := 13) (by decide +kernel)) (by decide +kernel), mj_tt (List.mem_of_getElem? (i := 1690) (by decide +kernel)) (by decide +kernel), mj_tp (List.mem_of_getElem? (i := 95) (by decide +kernel)) (by decide +kernel), ⟨by decide +kernel, by decide +kernel, by decide +kernel⟩, by decide⟩
theorem ev_M_game : mj_EV mj_R12 y_M_game c_M_game 5 (some .int) 4 := ⟨mj_tt (List.mem_of_getElem? (i := 1686) (by decide +kernel)) (by decide +kernel), mj_tt (List.mem_of_getElem? (i := 13) (by decide +kernel)) (by decide +kernel), mj_tt (List.mem_of_getElem? (i := 1684) (by decide +kernel)) (by decide +kernel), mj_tt (List.mem_of_getElem? (i := 1685) (by decide +kernel)) (by decide +kernel), ⟨by decide +kernel, by decide +kernel, by decide +kernel⟩, by decide⟩
theorem ev_Duel_isQuiet : mj_EV mj_R2 y_Duel_isQuiet c_Duel_isQuiet 6 (some .boolean) 2 := ⟨mj_tt (List.mem_of_getElem? (i := 999) (by decide +kernel)) (by decide +kernel), mj_tt (List.mem_of_getElem? (i := 12) (by decide +kernel)) (by decide +kernel), mj_tt (List.mem_of_getElem? (i := 998) (by decide +kernel)) (by decide +kernel), mj_tp (List.mem_of_getElem? (i := 36) (by decide +kernel)) (by decide +kernel), ⟨by decide +kernel, by decide +kernel, by decide +kernel⟩, by decide⟩
theorem ev_Duel_quietPair : mj_EV mj_R2 y_Duel_quietPair c_Duel_quietPair 5 (some .int) 1 := ⟨mj_tt (List.mem_of_getElem? (i := 995) (by decide +kernel)) (by decide +kernel), mj_tt (List.mem_of_getElem? (i := 12) (by decide +kernel)) (by decide +kernel), mj_tt (List.mem_of_getElem? (i := 993) (by decide +kernel)) (by decide +kernel), mj_tt (List.mem_of_getElem? (i := 994) (by decide +kernel)) (by decide +kernel), ⟨by decide +kernel, by decide +kernel, by decide +kernel⟩, by decide⟩
theorem ev_W_rests : mj_EV mj_R11 y_W_rests c_W_rests 3 (some .int) 2 := ⟨mj_tt (List.mem_of_getElem? (i := 991) (by decide +kernel)) (by decide +kernel), mj_tt (List.mem_of_getElem? (i := 1) (by decide +kernel)) (by decide +kernel), mj_tt (List.mem_of_getElem? (i := 989) (by decide +kernel)) (by decide +kernel), mj_tt (List.mem_of_getElem? (i := 990) (by decide +kernel)) (by decide +kernel), ⟨by decide +kernel, by decide +kernel, by decide +kernel⟩, by decide⟩
theorem ev_M_isRest : mj_EV mj_R12 y_M_isRest c_M_isRest 5 (some .boolean) 3 := ⟨mj_tt (List.mem_of_getElem? (i := 1699) (by decide +kernel)) (by decide +kernel), mj_tt (List.mem_of_getElem? (i := 13) (by decide +kernel)) (by decide +kernel), mj_tt (List.mem_of_getElem? (i := 1698) (by decide +kernel)) (by decide +kernel), mj_tp (List.mem_of_getElem? (i := 96) (by decide +kernel)) (by decide +kernel), ⟨by decide +kernel, by decide +kernel, by decide +kernel⟩, by decide⟩
theorem ev_M_rests : mj_EV mj_R12 y_M_rests c_M_rests 6 (some .int) 2 := ⟨mj_tt (List.mem_of_getElem? (i := 1695) (by decide +kernel)) (by decide +kernel), mj_tt (List.mem_of_getElem? (i := 13) (by decide +kernel)) (by decide +kernel), mj_tt (List.mem_of_getElem? (i := 1693) (by decide +kernel)) (by decide +kernel), mj_tt (List.mem_of_getElem? (i := 1694) (by decide +kernel)) (by decide +kernel), ⟨by decide +kernel, by decide +kernel, by decide +kernel⟩, by decide⟩
theorem ev_W_odds : mj_EV mj_R11 y_W_odds c_W_odds 8 (some .int) 4 := ⟨mj_tt (List.mem_of_getElem? (i := 1005) (by decide +kernel)) (by decide +kernel), mj_tt (List.mem_of_getElem? (i := 1) (by decide +kernel)) (by decide +kernel), mj_tt (List.mem_of_getElem? (i := 1003) (by decide +kernel)) (by decide +kernel), mj_tt (List.mem_of_getElem? (i := 1004) (by decide +kernel)) (by decide +kernel), ⟨by decide +kernel, by decide +kernel, by decide +kernel⟩, by decide⟩
theorem ev_M_odds : mj_EV mj_R12 y_M_odds c_M_odds 7 (some .int) 4 := ⟨mj_tt (List.mem_of_getElem? (i := 1703) (by decide +kernel)) (by decide +kernel), mj_tt (List.mem_of_getElem? (i := 13) (by decide +kernel)) (by decide +kernel), mj_tt (List.mem_of_getElem? (i := 1701) (by decide +kernel)) (by decide +kernel), mj_tt (List.mem_of_getElem? (i := 1702) (by decide +kernel)) (by decide +kernel), ⟨by decide +kernel, by decide +kernel, by decide +kernel⟩, by decide⟩
theorem ev_W_reach : mj_EV mj_R11 y_W_reach c_W_reach 3 (some .int) 0 := ⟨mj_tt (List.mem_of_getElem? (i := 1011) (by decide +kernel)) (by decide +kernel), mj_tt (List.mem_of_getElem? (i := 1) (by decide +kernel)) (by decide +kernel), mj_tt (List.mem_of_getElem? (i := 1009) (by decide +kernel)) (by decide +kernel), mj_tt (List.mem_of_getElem? (i := 1010) (by decide +kernel)) (by decide +kernel), ⟨by decide +kernel, by decide +kernel, by decide +kernel⟩, by decide⟩
theorem ev_M_reach : mj_EV mj_R12 y_M_reach c_M_reach 3 (some .int) 0 := ⟨mj_tt (List.mem_of_getElem? (i := 1709) (by decide +kernel)) (by decide +kernel), mj_tt (List.mem_of_getElem? (i := 13) (by decide +kernel)) (by decide +kernel), mj_tt (List.mem_of_getElem? (i := 1707) (by decide +kernel)) (by decide +kernel), mj_tt (List.mem_of_getElem? (i := 1708) (by decide +kernel)) (by decide +kernel), ⟨by decide +kernel, by decide +kernel, by decide +kernel⟩, by decide⟩
theorem ev_W_shares : mj_EV mj_R11 y_W_shares c_W_shares 5 (some .int) 2 := ⟨mj_tt (List.mem_of_getElem? (i := 1015) (by decide +kernel)) (by decide +kernel), mj_tt (List.mem_of_getElem? (i := 1) (by decide +kernel)) (by decide +kernel), mj_tt (List.mem_of_getElem? (i := 1013) (by decide +kernel)) (by decide +kernel), mj_tt (List.mem_of_getElem? (i := 1014) (by decide +kernel)) (by decide +kernel), ⟨by decide +kernel, by decide +kernel, by decide +kernel⟩, by decide⟩
theorem ev_M_shares : mj_EV mj_R12 y_M_shares c_M_shares 5 (some .int) 2 := ⟨mj_tt (List.mem_of_getElem? (i := 1713) (by decide +kernel)) (by decide +kernel), mj_tt (List.mem_of_getElem? (i := 13) (by decide +kernel)) (by decide +kernel), mj_tt (List.mem_of_getElem? (i := 1711) (by decide +kernel)) (by decide +kernel), mj_tt (List.mem_of_getElem? (i := 1712) (by decide +kernel)) (by decide +kernel), ⟨by decide +kernel, by decide +kernel, by decide +kernel⟩, by decide⟩
theorem ev_W_fresh : mj_EV mj_R11 y_W_fresh c_W_fresh 4 (some .int) 2 := ⟨mj_tt (List.mem_of_getElem? (i := 1019) (by decide +kernel)) (by decide +kernel), mj_tt (List.mem_of_getElem? (i := 1) (by decide +kernel)) (by decide +kernel), mj_tt (List.mem_of_getElem? (i := 1017) (by decide +kernel)) (by decide +kernel), mj_tt (List.mem_of_getElem? (i := 1018) (by decide +kernel)) (by decide +kernel), ⟨by decide +kernel, by decide +kernel, by decide +kernel⟩, by decide⟩
theorem ev_M_fresh : mj_EV mj_R12 y_M_fresh c_M_fresh 3 (some .int) 2 := ⟨mj_tt (List.mem_of_getElem? (i := 1717) (by decide +kernel)) (by decide +kernel), mj_tt (List.mem_of_getElem? (i := 13) (by decide +kernel)) (by decide +kernel), mj_tt (List.mem_of_getElem? (i := 1715) (by decide +kernel)) (by decide +kernel), mj_tt (List.mem_of_getElem? (i := 1716) (by decide +kernel)) (by decide +kernel), ⟨by decide +kernel, by decide +kernel, by decide +kernel⟩, by decide⟩
theorem ev_W_where : mj_EV mj_R11 y_W_where c_W_where 5 (some .int) 2 := ⟨mj_tt (List.mem_of_getElem? (i := 1023) (by decide +kernel)) (by decide +kernel), mj_tt (List.mem_of_getElem? (i := 1) (by decide +kernel)) (by decide +kernel), mj_tt (List.mem_of_getElem? (i := 1021) (by decide +kernel)) (by decide +kernel), mj_tt (List.mem_of_getElem? (i := 1022) (by decide +kernel)) (by decide +kernel), ⟨by decide +kernel, by decide +kernel, by decide +kernel⟩, by decide⟩
theorem ev_M_where : mj_EV mj_R12 y_M_where c_M_where 3 (some .int) 2 := ⟨mj_tt (List.mem_of_getElem? (i := 1653) (by decide +kernel)) (by decide +kernel), mj_tt (List.mem_of_getElem? (i := 13) (by decide +kernel)) (by decide +kernel), mj_tt (List.mem_of_getElem? (i := 1651) (by decide +kernel)) (by decide +kernel), mj_tt (List.mem_of_getElem? (i := 1652) (by decide +kernel)) (by decide +kernel), ⟨by decide +kernel, by decide +kernel, by decide +kernel⟩, by decide⟩
theorem ev_Plans_tellBestOnRound : mj_EV mj_R7 y_Plans_tellBestOnRound c_Plans_tellBestOnRound 3 none 1 := ⟨mj_tt (List.mem_of_getElem? (i := 1036) (by decide +kernel)) (by decide +kernel), mj_tt (List.mem_of_getElem? (i := 11) (by decide +kernel)) (by decide +kernel), mj_tt (List.mem_of_getElem? (i := 1035) (by decide +kernel)) (by decide +kernel), mj_tp (List.mem_of_getElem? (i := 37) (by decide +kernel)) (by decide +kernel), ⟨by decide +kernel, by decide +kernel, by decide +kernel⟩, by decide⟩
theorem ev_Plans_goRound : mj_EV mj_R7 y_Plans_goRound c_Plans_goRound 5 none 0 := ⟨mj_tt (List.mem_of_getElem? (i := 1031) (by decide +kernel)) (by decide +kernel), mj_tt (List.mem_of_getElem? (i := 11) (by decide +kernel)) (by decide +kernel), mj_tt (List.mem_of_getElem? (i := 1029) (by decide +kernel)) (by decide +kernel), mj_tt (List.mem_of_getElem? (i := 1030) (by decide +kernel)) (by decide +kernel), ⟨by decide +kernel, by decide +kernel, by decide +kernel⟩, by decide⟩
theorem ev_W_round : mj_EV mj_R11 y_W_round c_W_round 2 (some .int) 1 := ⟨mj_tt (List.mem_of_getElem? (i := 1027) (by decide +kernel)) (by decide +kernel), mj_tt (List.mem_of_getElem? (i := 1) (by decide +kernel)) (by decide +kernel), mj_tt (List.mem_of_getElem? (i := 1025) (by decide +kernel)) (by decide +kernel), mj_tt (List.mem_of_getElem? (i := 1026) (by decide +kernel)) (by decide +kernel), ⟨by decide +kernel, by decide +kernel, by decide +kernel⟩, by decide⟩
theorem ev_M_tellBest : mj_EV mj_R12 y_M_tellBest c_M_tellBest 2 none 0 := ⟨mj_tt (List.mem_of_getElem? (i := 1725) (by decide +kernel)) (by decide +kernel), mj_tt (List.mem_of_getElem? (i := 13) (by decide +kernel)) (by decide +kernel), mj_tt (List.mem_of_getElem? (i := 1724) (by decide +kernel)) (by decide +kernel), mj_tp (List.mem_of_getElem? (i := 97) (by decide +kernel)) (by decide +kernel), ⟨by decide +kernel, by decide +kernel, by decide +kernel⟩, by decide⟩
theorem ev_M_stepsTo : mj_EV mj_R12 y_M_stepsTo c_M_stepsTo 2 (some .boolean) 1 := ⟨mj_tt (List.mem_of_getElem? (i := 1729) (by decide +kernel)) (by decide +kernel), mj_tt (List.mem_of_getElem? (i := 13) (by decide +kernel)) (by decide +kernel), mj_tt (List.mem_of_getElem? (i := 1728) (by decide +kernel)) (by decide +kernel), mj_tp (List.mem_of_getElem? (i := 98) (by decide +kernel)) (by decide +kernel), ⟨by decide +kernel, by decide +kernel, by decide +kernel⟩, by decide⟩
theorem ev_M_round : mj_EV mj_R12 y_M_round c_M_round 3 (some .int) 1 := ⟨mj_tt (List.mem_of_getElem? (i := 1721) (by decide +kernel)) (by decide +kernel), mj_tt (List.mem_of_getElem? (i := 13) (by decide +kernel)) (by decide +kernel), mj_tt (List.mem_of_getElem? (i := 1719) (by decide +kernel)) (by decide +kernel), mj_tt (List.mem_of_getElem? (i := 1720) (by decide +kernel)) (by decide +kernel), ⟨by decide +kernel, by decide +kernel, by decide +kernel⟩, by decide⟩
theorem es_W_highest : mj_ES y_W_highest c_W_highest 4 (some .int) 2 := ⟨mj_tt (List.mem_of_getElem? (i := 1045) (by decide +kernel)) (by decide +kernel), mj_tt (List.mem_of_getElem? (i := 1) (by decide +kernel)) (by decide +kernel), mj_tt (List.mem_of_getElem? (i := 1044) (by decide +kernel)) (by decide +kernel), ⟨by decide +kernel, by decide +kernel, by decide +kernel⟩, by decide⟩
theorem ev_Plans_nightsIn : mj_EV mj_R7 y_Plans_nightsIn c_Plans_nightsIn 4 (some .int) 1 := ⟨mj_tt (List.mem_of_getElem? (i := 1053) (by decide +kernel)) (by decide +kernel), mj_tt (List.mem_of_getElem? (i := 11) (by decide +kernel)) (by decide +kernel), mj_tt (List.mem_of_getElem? (i := 1052) (by decide +kernel)) (by decide +kernel), mj_tp (List.mem_of_getElem? (i := 38) (by decide +kernel)) (by decide +kernel), ⟨by decide +kernel, by decide +kernel, by decide +kernel⟩, by decide⟩
theorem ev_Plans_dullest : mj_EV mj_R7 y_Plans_dullest c_Plans_dullest 5 (some .int) 0 := ⟨mj_tt (List.mem_of_getElem? (i := 1049) (by decide +kernel)) (by decide +kernel), mj_tt (List.mem_of_getElem? (i := 11) (by decide +kernel)) (by decide +kernel), mj_tt (List.mem_of_getElem? (i := 1047) (by decide +kernel)) (by decide +kernel), mj_tt (List.mem_of_getElem? (i := 1048) (by decide +kernel)) (by decide +kernel), ⟨by decide +kernel, by decide +kernel, by decide +kernel⟩, by decide⟩
theorem ev_Coast_trueBits : mj_EV mj_R0 y_Coast_trueBits c_Coast_trueBits 3 (some .int) 0 := ⟨mj_tt (List.mem_of_getElem? (i := 1057) (by decide +kernel)) (by decide +kernel), mj_tt (List.mem_of_getElem? (i := 4) (by decide +kernel)) (by decide +kernel), mj_tt (List.mem_of_getElem? (i := 1055) (by decide +kernel)) (by decide +kernel), mj_tt (List.mem_of_getElem? (i := 1056) (by decide +kernel)) (by decide +kernel), ⟨by decide +kernel, by decide +kernel, by decide +kernel⟩, by decide⟩
theorem ev_W_commonBits : mj_EV mj_R11 y_W_commonBits c_W_commonBits 3 (some .int) 0 := ⟨mj_tt (List.mem_of_getElem? (i := 1061) (by decide +kernel)) (by decide +kernel), mj_tt (List.mem_of_getElem? (i := 1) (by decide +kernel)) (by decide +kernel), mj_tt (List.mem_of_getElem? (i := 1060) (by decide +kernel)) (by decide +kernel), mj_tp (List.mem_of_getElem? (i := 39) (by decide +kernel)) (by decide +kernel), ⟨by decide +kernel, by decide +kernel, by decide +kernel⟩, by decide⟩
theorem ev_Plans_allNights : mj_EV mj_R7 y_Plans_allNights c_Plans_allNights 3 (some .int) 0 := ⟨mj_tt (List.mem_of_getElem? (i := 1066) (by decide +kernel)) (by decide +kernel), mj_tt (List.mem_of_getElem? (i := 11) (by decide +kernel)) (by decide +kernel), mj_tt (List.mem_of_getElem? (i := 1064) (by decide +kernel)) (by decide +kernel), mj_tt (List.mem_of_getElem? (i := 1065) (by decide +kernel)) (by decide +kernel), ⟨by decide +kernel, by decide +kernel, by decide +kernel⟩, by decide⟩
theorem ev_Plans_holdingHouses : mj_EV mj_R7 y_Plans_holdingHouses c_Plans_holdingHouses 3 (some .int) 0 := ⟨mj_tt (List.mem_of_getElem? (i := 1070) (by decide +kernel)) (by decide +kernel), mj_tt (List.mem_of_getElem? (i := 11) (by decide +kernel)) (by decide +kernel), mj_tt (List.mem_of_getElem? (i := 1068) (by decide +kernel)) (by decide +kernel), mj_tt (List.mem_of_getElem? (i := 1069) (by decide +kernel)) (by decide +kernel), ⟨by decide +kernel, by decide +kernel, by decide +kernel⟩, by decide⟩
theorem ev_W_most : mj_EV mj_R11 y_W_most c_W_most 2 (some .int) 1 := ⟨mj_tt (List.mem_of_getElem? (i := 1042) (by decide +kernel)) (by decide +kernel), mj_tt (List.mem_of_getElem? (i := 1) (by decide +kernel)) (by decide +kernel), mj_tt (List.mem_of_getElem? (i := 1040) (by decide +kernel)) (by decide +kernel), mj_tt (List.mem_of_getElem? (i := 1041) (by decide +kernel)) (by decide +kernel), ⟨by decide +kernel, by decide +kernel, by decide +kernel⟩, by decide⟩
theorem ev_M_topTale : mj_EV mj_R12 y_M_topTale c_M_topTale 5 (some .int) 1 := ⟨mj_tt (List.mem_of_getElem? (i := 1737) (by decide +kernel)) (by decide +kernel), mj_tt (List.mem_of_getElem? (i := 13) (by decide +kernel)) (by decide +kernel), mj_tt (List.mem_of_getElem? (i := 1736) (by decide +kernel)) (by decide +kernel), mj_tp (List.mem_of_getElem? (i := 99) (by decide +kernel)) (by decide +kernel), ⟨by decide +kernel, by decide +kernel, by decide +kernel⟩, by decide⟩
theorem ev_M_nightsOfAll : mj_EV mj_R12 y_M_nightsOfAll c_M_nightsOfAll 4 (some .int) 1 := ⟨mj_tt (List.mem_of_getElem? (i := 1745) (by decide +kernel)) (by decide +kernel), mj_tt (List.mem_of_getElem? (i := 13) (by decide +kernel)) (by decide +kernel), mj_tt (List.mem_of_getElem? (i := 1744) (by decide +kernel)) (by decide +kernel), mj_tp (List.mem_of_getElem? (i := 101) (by decide +kernel)) (by decide +kernel), ⟨by decide +kernel, by decide +kernel, by decide +kernel⟩, by decide⟩
theorem ev_M_topHouse : mj_EV mj_R12 y_M_topHouse c_M_topHouse 5 (some .int) 1 := ⟨mj_tt (List.mem_of_getElem? (i := 1741) (by decide +kernel)) (by decide +kernel), mj_tt (List.mem_of_getElem? (i := 13) (by decide +kernel)) (by decide +kernel), mj_tt (List.mem_of_getElem? (i := 1740) (by decide +kernel)) (by decide +kernel), mj_tp (List.mem_of_getElem? (i := 100) (by decide +kernel)) (by decide +kernel), ⟨by decide +kernel, by decide +kernel, by decide +kernel⟩, by decide⟩
theorem ev_M_trueOnes : mj_EV mj_R12 y_M_trueOnes c_M_trueOnes 3 (some .int) 0 := ⟨mj_tt (List.mem_of_getElem? (i := 1749) (by decide +kernel)) (by decide +kernel), mj_tt (List.mem_of_getElem? (i := 13) (by decide +kernel)) (by decide +kernel), mj_tt (List.mem_of_getElem? (i := 1748) (by decide +kernel)) (by decide +kernel), mj_tp (List.mem_of_getElem? (i := 102) (by decide +kernel)) (by decide +kernel), ⟨by decide +kernel, by decide +kernel, by decide +kernel⟩, by decide⟩
theorem ev_M_commonOnes : mj_EV mj_R12 y_M_commonOnes c_M_commonOnes 3 (some .int) 0 := ⟨mj_tt (List.mem_of_getElem? (i := 1753) (by decide +kernel)) (by decide +kernel), mj_tt (List.mem_of_getElem? (i := 13) (by decide +kernel)) (by decide +kernel), mj_tt (List.mem_of_getElem? (i := 1752) (by decide +kernel)) (by decide +kernel), mj_tp (List.mem_of_getElem? (i := 103) (by decide +kernel)) (by decide +kernel), ⟨by decide +kernel, by decide +kernel, by decide +kernel⟩, by decide⟩
theorem ev_M_overAll : mj_EV mj_R12 y_M_overAll c_M_overAll 5 (some .int) 1 := ⟨mj_tt (List.mem_of_getElem? (i := 1757) (by decide +kernel)) (by decide +kernel), mj_tt (List.mem_of_getElem? (i := 13) (by decide +kernel)) (by decide +kernel), mj_tt (List.mem_of_getElem? (i := 1756) (by decide +kernel)) (by decide +kernel), mj_tp (List.mem_of_getElem? (i := 104) (by decide +kernel)) (by decide +kernel), ⟨by decide +kernel, by decide +kernel, by decide +kernel⟩, by decide⟩
theorem ev_M_most : mj_EV mj_R12 y_M_most c_M_most 2 (some .int) 1 := ⟨mj_tt (List.mem_of_getElem? (i := 1733) (by decide +kernel)) (by decide +kernel), mj_tt (List.mem_of_getElem? (i := 13) (by decide +kernel)) (by decide +kernel), mj_tt (List.mem_of_getElem? (i := 1731) (by decide +kernel)) (by decide +kernel), mj_tt (List.mem_of_getElem? (i := 1732) (by decide +kernel)) (by decide +kernel), ⟨by decide +kernel, by decide +kernel, by decide +kernel⟩, by decide⟩
theorem ev_Past_keepImage : mj_EV mj_R6 y_Past_keepImage c_Past_keepImage 2 none 1 := ⟨mj_tt (List.mem_of_getElem? (i := 1078) (by decide +kernel)) (by decide +kernel), mj_tt (List.mem_of_getElem? (i := 8) (by decide +kernel)) (by decide +kernel), mj_tt (List.mem_of_getElem? (i := 1076) (by decide +kernel)) (by decide +kernel), mj_tt (List.mem_of_getElem? (i := 1077) (by decide +kernel)) (by decide +kernel), ⟨by decide +kernel, by decide +kernel, by decide +kernel⟩, by decide⟩
theorem ev_W_image : mj_EV mj_R11 y_W_image c_W_image 1 (some .int) 0 := ⟨mj_tt (List.mem_of_getElem? (i := 1074) (by decide +kernel)) (by decide +kernel), mj_tt (List.mem_of_getElem? (i := 1) (by decide +kernel)) (by decide +kernel), mj_tt (List.mem_of_getElem? (i := 1072) (by decide +kernel)) (by decide +kernel), mj_tt (List.mem_of_getElem? (i := 1073) (by decide +kernel)) (by decide +kernel), ⟨by decide +kernel, by decide +kernel, by decide +kernel⟩, by decide⟩
theorem ev_M_image : mj_EV mj_R12 y_M_image c_M_image 2 (some .int) 0 := ⟨mj_tt (List.mem_of_getElem? (i := 1761) (by decide +kernel)) (by decide +kernel), mj_tt (List.mem_of_getElem? (i := 13) (by decide +kernel)) (by decide +kernel), mj_tt (List.mem_of_getElem? (i := 1759) (by decide +kernel)) (by decide +kernel), mj_tt (List.mem_of_getElem? (i := 1760) (by decide +kernel)) (by decide +kernel), ⟨by decide +kernel, by decide +kernel, by decide +kernel⟩, by decide⟩
theorem ev_Past_takeImage : mj_EV mj_R6 y_Past_takeImage c_Past_takeImage 2 none 1 := ⟨mj_tt (List.mem_of_getElem? (i := 1087) (by decide +kernel)) (by decide +kernel), mj_tt (List.mem_of_getElem? (i := 8) (by decide +kernel)) (by decide +kernel), mj_tt (List.mem_of_getElem? (i := 1085) (by decide +kernel)) (by decide +kernel), mj_tt (List.mem_of_getElem? (i := 1086) (by decide +kernel)) (by decide +kernel), ⟨by decide +kernel, by decide +kernel, by decide +kernel⟩, by decide⟩
theorem ev_W_back : mj_EV mj_R11 y_W_back c_W_back 1 (some .int) 0 := ⟨mj_tt (List.mem_of_getElem? (i := 1083) (by decide +kernel)) (by decide +kernel), mj_tt (List.mem_of_getElem? (i := 1) (by decide +kernel)) (by decide +kernel), mj_tt (List.mem_of_getElem? (i := 1081) (by decide +kernel)) (by decide +kernel), mj_tt (List.mem_of_getElem? (i := 1082) (by decide +kernel)) (by decide +kernel), ⟨by decide +kernel, by decide +kernel, by decide +kernel⟩, by decide⟩
theorem ev_M_back : mj_EV mj_R12 y_M_back c_M_back 2 (some .int) 0 := ⟨mj_tt (List.mem_of_getElem? (i := 1765) (by decide +kernel)) (by decide +kernel), mj_tt (List.mem_of_getElem? (i := 13) (by decide +kernel)) (by decide +kernel), mj_tt (List.mem_of_getElem? (i := 1763) (by decide +kernel)) (by decide +kernel), mj_tt (List.mem_of_getElem? (i := 1764) (by decide +kernel)) (by decide +kernel), ⟨by decide +kernel, by decide +kernel, by decide +kernel⟩, by decide⟩
theorem ev_W_countOfStand : mj_EV mj_R11 y_W_countOfStand c_W_countOfStand 2 (some .int) 1 := ⟨mj_tt (List.mem_of_getElem? (i := 1095) (by decide +kernel)) (by decide +kernel), mj_tt (List.mem_of_getElem? (i := 1) (by decide +kernel)) (by decide +kernel), mj_tt (List.mem_of_getElem? (i := 1094) (by decide +kernel)) (by decide +kernel), mj_tp (List.mem_of_getElem? (i := 40) (by decide +kernel)) (by decide +kernel), ⟨by decide +kernel, by decide +kernel, by decide +kernel⟩, by decide⟩
theorem ev_W_count : mj_EV mj_R11 y_W_count c_W_count 2 (some .int) 1 := ⟨mj_tt (List.mem_of_getElem? (i := 1091) (by decide +kernel)) (by decide +kernel), mj_tt (List.mem_of_getElem? (i := 1) (by decide +kernel)) (by decide +kernel), mj_tt (List.mem_of_getElem? (i := 1089) (by decide +kernel)) (by decide +kernel), mj_tt (List.mem_of_getElem? (i := 1090) (by decide +kernel)) (by decide +kernel), ⟨by decide +kernel, by decide +kernel, by decide +kernel⟩, by decide⟩
theorem ev_M_count : mj_EV mj_R12 y_M_count c_M_count 2 (some .int) 1 := ⟨mj_tt (List.mem_of_getElem? (i := 1769) (by decide +kernel)) (by decide +kernel), mj_tt (List.mem_of_getElem? (i := 13) (by decide +kernel)) (by decide +kernel), mj_tt (List.mem_of_getElem? (i := 1767) (by decide +kernel)) (by decide +kernel), mj_tt (List.mem_of_getElem? (i := 1768) (by decide +kernel)) (by decide +kernel), ⟨by decide +kernel, by decide +kernel, by decide +kernel⟩, by decide⟩
theorem ev_W_tale : mj_EV mj_R11 y_W_tale c_W_tale 3 (some .int) 2 := ⟨mj_tt (List.mem_of_getElem? (i := 1103) (by decide +kernel)) (by decide +kernel), mj_tt (List.mem_of_getElem? (i := 1) (by decide +kernel)) (by decide +kernel), mj_tt (List.mem_of_getElem? (i := 1101) (by decide +kernel)) (by decide +kernel), mj_tt (List.mem_of_getElem? (i := 1102) (by decide +kernel)) (by decide +kernel), ⟨by decide +kernel, by decide +kernel, by decide +kernel⟩, by decide⟩
theorem qc_Integer_265 : Cond.constant "java/lang/Integer" 265 (1431655765 : Int32) ∈ mj_TT := mj_tt (List.mem_of_getElem? (i := 767) (by decide +kernel)) (by decide +kernel)
theorem qc_Integer_266 : Cond.constant "java/lang/Integer" 266 (858993459 : Int32) ∈ mj_TT := mj_tt (List.mem_of_getElem? (i := 768) (by decide +kernel)) (by decide +kernel)
theorem qc_Integer_267 : Cond.constant "java/lang/Integer" 267 (252645135 : Int32) ∈ mj_TT := mj_tt (List.mem_of_getElem? (i := 769) (by decide +kernel)) (by decide +kernel)
theorem qc_Laws_55 : Cond.constant "WinterTellers$Laws" 55 (1000000 : Int32) ∈ mj_TT := mj_tt (List.mem_of_getElem? (i := 689) (by decide +kernel)) (by decide +kernel)
theorem qc_Laws_58 : Cond.constant "WinterTellers$Laws" 58 (-1000000 : Int32) ∈ mj_TT := mj_tt (List.mem_of_getElem? (i := 691) (by decide +kernel)) (by decide +kernel)
theorem qc_M_383 : Cond.constant "WinterTellersModel" 383 (-1000000 : Int32) ∈ mj_TT := mj_tt (List.mem_of_getElem? (i := 1687) (by decide +kernel)) (by decide +kernel)
theorem qc_M_390 : Cond.constant "WinterTellersModel" 390 (1000000000 : Int32) ∈ mj_TT := mj_tt (List.mem_of_getElem? (i := 1704) (by decide +kernel)) (by decide +kernel)
theorem qc_W_314 : Cond.constant "WinterTellers" 314 (-1000000 : Int32) ∈ mj_TT := mj_tt (List.mem_of_getElem? (i := 964) (by decide +kernel)) (by decide +kernel)
theorem qd_Laws_53 : Cond.constantLong "WinterTellers$Laws" 53 (1000000 : Int64) ∈ mj_TT := mj_tt (List.mem_of_getElem? (i := 688) (by decide +kernel)) (by decide +kernel)
theorem qd_Laws_56 : Cond.constantLong "WinterTellers$Laws" 56 (-1000000 : Int64) ∈ mj_TT := mj_tt (List.mem_of_getElem? (i := 690) (by decide +kernel)) (by decide +kernel)
theorem qd_M_180 : Cond.constantLong "WinterTellersModel" 180 (-1000000 : Int64) ∈ mj_TT := mj_tt (List.mem_of_getElem? (i := 1512) (by decide +kernel)) (by decide +kernel)
theorem qd_M_182 : Cond.constantLong "WinterTellersModel" 182 (1000000 : Int64) ∈ mj_TT := mj_tt (List.mem_of_getElem? (i := 1513) (by decide +kernel)) (by decide +kernel)
theorem qd_M_339 : Cond.constantLong "WinterTellersModel" 339 (6364136223846793005 : Int64) ∈ mj_TT := mj_tt (List.mem_of_getElem? (i := 1604) (by decide +kernel)) (by decide +kernel)
theorem qd_M_341 : Cond.constantLong "WinterTellersModel" 341 (1442695040888963407 : Int64) ∈ mj_TT := mj_tt (List.mem_of_getElem? (i := 1605) (by decide +kernel)) (by decide +kernel)
theorem qd_M_391 : Cond.constantLong "WinterTellersModel" 391 (100 : Int64) ∈ mj_TT := mj_tt (List.mem_of_getElem? (i := 1705) (by decide +kernel)) (by decide +kernel)
theorem qd_W_261 : Cond.constantLong "WinterTellers" 261 (6364136223846793005 : Int64) ∈ mj_TT := mj_tt (List.mem_of_getElem? (i := 797) (by decide +kernel)) (by decide +kernel)
theorem qd_W_263 : Cond.constantLong "WinterTellers" 263 (1442695040888963407 : Int64) ∈ mj_TT := mj_tt (List.mem_of_getElem? (i := 798) (by decide +kernel)) (by decide +kernel)
theorem qd_W_327 : Cond.constantLong "WinterTellers" 327 (1000000000 : Int64) ∈ mj_TT := mj_tt (List.mem_of_getElem? (i := 1006) (by decide +kernel)) (by decide +kernel)
theorem qd_W_329 : Cond.constantLong "WinterTellers" 329 (100 : Int64) ∈ mj_TT := mj_tt (List.mem_of_getElem? (i := 1007) (by decide +kernel)) (by decide +kernel)
theorem qf_CoastReader_101 : Cond.fieldLink "WinterTellers$CoastReader" 101 "WinterTellers$CoastReader" "LOWS" "[I" ∈ mj_TT := mj_tt (List.mem_of_getElem? (i := 502) (by decide +kernel)) (by decide +kernel)
theorem qf_CoastReader_104 : Cond.fieldLink "WinterTellers$CoastReader" 104 "WinterTellers$CoastReader" "HIGHS" "[I" ∈ mj_TT := mj_tt (List.mem_of_getElem? (i := 504) (by decide +kernel)) (by decide +kernel)
theorem qf_CoastReader_110 : Cond.fieldLink "WinterTellers$CoastReader" 110 "WinterTellers$CoastReader" "LETTERS" "[C" ∈ mj_TT := mj_tt (List.mem_of_getElem? (i := 500) (by decide +kernel)) (by decide +kernel)
theorem qf_CoastReader_114 : Cond.fieldLink "WinterTellers$CoastReader" 114 "WinterTellers$Coast" "bread" "I" ∈ mj_TT := mj_tt (List.mem_of_getElem? (i := 82) (by decide +kernel)) (by decide +kernel)
theorem qf_CoastReader_117 : Cond.fieldLink "WinterTellers$CoastReader" 117 "WinterTellers$Coast" "owned" "I" ∈ mj_TT := mj_tt (List.mem_of_getElem? (i := 85) (by decide +kernel)) (by decide +kernel)
theorem qf_CoastReader_12 : Cond.fieldLink "WinterTellers$CoastReader" 12 "WinterTellers$CoastReader" "draft" "LWinterTellers$Coast;" ∈ mj_TT := mj_tt (List.mem_of_getElem? (i := 140) (by decide +kernel)) (by decide +kernel)
theorem qf_CoastReader_120 : Cond.fieldLink "WinterTellers$CoastReader" 120 "WinterTellers$Coast" "often" "I" ∈ mj_TT := mj_tt (List.mem_of_getElem? (i := 91) (by decide +kernel)) (by decide +kernel)
theorem qf_CoastReader_123 : Cond.fieldLink "WinterTellers$CoastReader" 123 "WinterTellers$Coast" "known" "[I" ∈ mj_TT := mj_tt (List.mem_of_getElem? (i := 94) (by decide +kernel)) (by decide +kernel)
theorem qf_CoastReader_126 : Cond.fieldLink "WinterTellers$CoastReader" 126 "WinterTellers$Coast" "curious" "[I" ∈ mj_TT := mj_tt (List.mem_of_getElem? (i := 98) (by decide +kernel)) (by decide +kernel)
theorem qf_CoastReader_129 : Cond.fieldLink "WinterTellers$CoastReader" 129 "WinterTellers$Coast" "warm" "[I" ∈ mj_TT := mj_tt (List.mem_of_getElem? (i := 102) (by decide +kernel)) (by decide +kernel)
theorem qf_CoastReader_132 : Cond.fieldLink "WinterTellers$CoastReader" 132 "WinterTellers$Coast" "lengths" "[I" ∈ mj_TT := mj_tt (List.mem_of_getElem? (i := 106) (by decide +kernel)) (by decide +kernel)
theorem qf_CoastReader_135 : Cond.fieldLink "WinterTellers$CoastReader" 135 "WinterTellers$Coast" "knots" "[I" ∈ mj_TT := mj_tt (List.mem_of_getElem? (i := 110) (by decide +kernel)) (by decide +kernel)
theorem qf_CoastReader_138 : Cond.fieldLink "WinterTellers$CoastReader" 138 "WinterTellers$Coast" "truths" "[I" ∈ mj_TT := mj_tt (List.mem_of_getElem? (i := 114) (by decide +kernel)) (by decide +kernel)
theorem qf_CoastReader_18 : Cond.fieldLink "WinterTellers$CoastReader" 18 "WinterTellers$CoastReader" "items" "[I" ∈ mj_TT := mj_tt (List.mem_of_getElem? (i := 143) (by decide +kernel)) (by decide +kernel)
theorem qf_CoastReader_22 : Cond.fieldLink "WinterTellers$CoastReader" 22 "WinterTellers$CoastReader" "tape" "LWinterTellers$Tape;" ∈ mj_TT := mj_tt (List.mem_of_getElem? (i := 142) (by decide +kernel)) (by decide +kernel)
theorem qf_CoastReader_31 : Cond.fieldLink "WinterTellers$CoastReader" 31 "WinterTellers$Coast" "houses" "I" ∈ mj_TT := mj_tt (List.mem_of_getElem? (i := 69) (by decide +kernel)) (by decide +kernel)
theorem qf_CoastReader_35 : Cond.fieldLink "WinterTellers$CoastReader" 35 "WinterTellers$Coast" "tales" "I" ∈ mj_TT := mj_tt (List.mem_of_getElem? (i := 75) (by decide +kernel)) (by decide +kernel)
theorem qf_CoastReader_38 : Cond.fieldLink "WinterTellers$CoastReader" 38 "WinterTellers$CoastReader" "ruled" "Z" ∈ mj_TT := mj_tt (List.mem_of_getElem? (i := 144) (by decide +kernel)) (by decide +kernel)
theorem qf_CoastReader_59 : Cond.fieldLink "WinterTellers$CoastReader" 59 "WinterTellers$Coast" "at" "I" ∈ mj_TT := mj_tt (List.mem_of_getElem? (i := 88) (by decide +kernel)) (by decide +kernel)
theorem qf_CoastReader_62 : Cond.fieldLink "WinterTellers$CoastReader" 62 "WinterTellers$Tape" "size" "I" ∈ mj_TT := mj_tt (List.mem_of_getElem? (i := 38) (by decide +kernel)) (by decide +kernel)
theorem qf_CoastReader_69 : Cond.fieldLink "WinterTellers$CoastReader" 69 "WinterTellers$Tape" "wrong" "I" ∈ mj_TT := mj_tt (List.mem_of_getElem? (i := 44) (by decide +kernel)) (by decide +kernel)
theorem qf_CoastReader_85 : Cond.fieldLink "WinterTellers$CoastReader" 85 "WinterTellers$Tape" "place" "I" ∈ mj_TT := mj_tt (List.mem_of_getElem? (i := 40) (by decide +kernel)) (by decide +kernel)
theorem qf_CoastReader_88 : Cond.fieldLink "WinterTellers$CoastReader" 88 "WinterTellers$CoastReader" "WITHOUT" "[I" ∈ mj_TT := mj_tt (List.mem_of_getElem? (i := 471) (by decide +kernel)) (by decide +kernel)
theorem qf_Coast_15 : Cond.fieldLink "WinterTellers$Coast" 15 "WinterTellers$Coast" "curious" "[I" ∈ mj_TT := mj_tt (List.mem_of_getElem? (i := 95) (by decide +kernel)) (by decide +kernel)
theorem qf_Coast_18 : Cond.fieldLink "WinterTellers$Coast" 18 "WinterTellers$Coast" "warm" "[I" ∈ mj_TT := mj_tt (List.mem_of_getElem? (i := 99) (by decide +kernel)) (by decide +kernel)
theorem qf_Coast_21 : Cond.fieldLink "WinterTellers$Coast" 21 "WinterTellers$Coast" "lengths" "[I" ∈ mj_TT := mj_tt (List.mem_of_getElem? (i := 103) (by decide +kernel)) (by decide +kernel)
theorem qf_Coast_24 : Cond.fieldLink "WinterTellers$Coast" 24 "WinterTellers$Coast" "knots" "[I" ∈ mj_TT := mj_tt (List.mem_of_getElem? (i := 107) (by decide +kernel)) (by decide +kernel)
theorem qf_Coast_27 : Cond.fieldLink "WinterTellers$Coast" 27 "WinterTellers$Coast" "truths" "[I" ∈ mj_TT := mj_tt (List.mem_of_getElem? (i := 111) (by decide +kernel)) (by decide +kernel)
theorem qf_Coast_30 : Cond.fieldLink "WinterTellers$Coast" 30 "WinterTellers$Coast" "houses" "I" ∈ mj_TT := mj_tt (List.mem_of_getElem? (i := 68) (by decide +kernel)) (by decide +kernel)
theorem qf_Coast_34 : Cond.fieldLink "WinterTellers$Coast" 34 "WinterTellers$Coast" "tales" "I" ∈ mj_TT := mj_tt (List.mem_of_getElem? (i := 78) (by decide +kernel)) (by decide +kernel)
theorem qf_Coast_44 : Cond.fieldLink "WinterTellers$Coast" 44 "WinterTellers$Coast" "bread" "I" ∈ mj_TT := mj_tt (List.mem_of_getElem? (i := 83) (by decide +kernel)) (by decide +kernel)
theorem qf_Coast_47 : Cond.fieldLink "WinterTellers$Coast" 47 "WinterTellers$Coast" "owned" "I" ∈ mj_TT := mj_tt (List.mem_of_getElem? (i := 86) (by decide +kernel)) (by decide +kernel)
theorem qf_Coast_50 : Cond.fieldLink "WinterTellers$Coast" 50 "WinterTellers$Coast" "at" "I" ∈ mj_TT := mj_tt (List.mem_of_getElem? (i := 89) (by decide +kernel)) (by decide +kernel)
theorem qf_Coast_53 : Cond.fieldLink "WinterTellers$Coast" 53 "WinterTellers$Coast" "often" "I" ∈ mj_TT := mj_tt (List.mem_of_getElem? (i := 92) (by decide +kernel)) (by decide +kernel)
theorem qf_Coast_9 : Cond.fieldLink "WinterTellers$Coast" 9 "WinterTellers$Coast" "known" "[I" ∈ mj_TT := mj_tt (List.mem_of_getElem? (i := 93) (by decide +kernel)) (by decide +kernel)
theorem qf_Duel_15 : Cond.fieldLink "WinterTellers$Duel" 15 "WinterTellers$Duel" "onceMore" "[I" ∈ mj_TT := mj_tt (List.mem_of_getElem? (i := 390) (by decide +kernel)) (by decide +kernel)
theorem qf_Duel_18 : Cond.fieldLink "WinterTellers$Duel" 18 "WinterTellers$Duel" "coast" "LWinterTellers$Coast;" ∈ mj_TT := mj_tt (List.mem_of_getElem? (i := 387) (by decide +kernel)) (by decide +kernel)
theorem qf_Duel_22 : Cond.fieldLink "WinterTellers$Duel" 22 "WinterTellers$Duel" "stays" "LWinterTellers$Stays;" ∈ mj_TT := mj_tt (List.mem_of_getElem? (i := 388) (by decide +kernel)) (by decide +kernel)
theorem qf_Duel_52 : Cond.fieldLink "WinterTellers$Duel" 52 "WinterTellers$Coast" "tales" "I" ∈ mj_TT := mj_tt (List.mem_of_getElem? (i := 79) (by decide +kernel)) (by decide +kernel)
theorem qf_Duel_9 : Cond.fieldLink "WinterTellers$Duel" 9 "WinterTellers$Duel" "now" "[I" ∈ mj_TT := mj_tt (List.mem_of_getElem? (i := 389) (by decide +kernel)) (by decide +kernel)
theorem qf_Guess_11 : Cond.fieldLink "WinterTellers$Guess" 11 "WinterTellers$Guess" "houses" "[I" ∈ mj_TT := mj_tt (List.mem_of_getElem? (i := 308) (by decide +kernel)) (by decide +kernel)
theorem qf_Guess_15 : Cond.fieldLink "WinterTellers$Guess" 15 "WinterTellers$Guess" "bounds" "[I" ∈ mj_TT := mj_tt (List.mem_of_getElem? (i := 309) (by decide +kernel)) (by decide +kernel)
theorem qf_Guess_18 : Cond.fieldLink "WinterTellers$Guess" 18 "WinterTellers$Guess" "reached" "[Z" ∈ mj_TT := mj_tt (List.mem_of_getElem? (i := 310) (by decide +kernel)) (by decide +kernel)
theorem qf_Guess_22 : Cond.fieldLink "WinterTellers$Guess" 22 "WinterTellers$Guess" "coast" "LWinterTellers$Coast;" ∈ mj_TT := mj_tt (List.mem_of_getElem? (i := 306) (by decide +kernel)) (by decide +kernel)
theorem qf_Guess_26 : Cond.fieldLink "WinterTellers$Guess" 26 "WinterTellers$Guess" "stays" "LWinterTellers$Stays;" ∈ mj_TT := mj_tt (List.mem_of_getElem? (i := 307) (by decide +kernel)) (by decide +kernel)
theorem qf_Guess_30 : Cond.fieldLink "WinterTellers$Guess" 30 "WinterTellers$Guess" "sights" "I" ∈ mj_TT := mj_tt (List.mem_of_getElem? (i := 304) (by decide +kernel)) (by decide +kernel)
theorem qf_Guess_34 : Cond.fieldLink "WinterTellers$Guess" 34 "WinterTellers$Coast" "tales" "I" ∈ mj_TT := mj_tt (List.mem_of_getElem? (i := 77) (by decide +kernel)) (by decide +kernel)
theorem qf_Guess_49 : Cond.fieldLink "WinterTellers$Guess" 49 "WinterTellers$Coast" "houses" "I" ∈ mj_TT := mj_tt (List.mem_of_getElem? (i := 73) (by decide +kernel)) (by decide +kernel)
theorem qf_LawReader_15 : Cond.fieldLink "WinterTellers$LawReader" 15 "WinterTellers$LawReader" "tape" "LWinterTellers$Tape;" ∈ mj_TT := mj_tt (List.mem_of_getElem? (i := 164) (by decide +kernel)) (by decide +kernel)
theorem qf_LawReader_22 : Cond.fieldLink "WinterTellers$LawReader" 22 "WinterTellers$LawReader" "size" "I" ∈ mj_TT := mj_tt (List.mem_of_getElem? (i := 162) (by decide +kernel)) (by decide +kernel)
theorem qf_LawReader_36 : Cond.fieldLink "WinterTellers$LawReader" 36 "WinterTellers$Tape" "wrong" "I" ∈ mj_TT := mj_tt (List.mem_of_getElem? (i := 43) (by decide +kernel)) (by decide +kernel)
theorem qf_LawReader_70 : Cond.fieldLink "WinterTellers$LawReader" 70 "WinterTellers$Tape" "place" "I" ∈ mj_TT := mj_tt (List.mem_of_getElem? (i := 42) (by decide +kernel)) (by decide +kernel)
theorem qf_LawReader_89 : Cond.fieldLink "WinterTellers$LawReader" 89 "WinterTellers$LawReader" "LETTERS" "[C" ∈ mj_TT := mj_tt (List.mem_of_getElem? (i := 576) (by decide +kernel)) (by decide +kernel)
theorem qf_LawReader_9 : Cond.fieldLink "WinterTellers$LawReader" 9 "WinterTellers$LawReader" "codes" "[I" ∈ mj_TT := mj_tt (List.mem_of_getElem? (i := 160) (by decide +kernel)) (by decide +kernel)
theorem qf_Laws_15 : Cond.fieldLink "WinterTellers$Laws" 15 "WinterTellers$Laws" "letters" "[I" ∈ mj_TT := mj_tt (List.mem_of_getElem? (i := 183) (by decide +kernel)) (by decide +kernel)
theorem qf_Laws_21 : Cond.fieldLink "WinterTellers$Laws" 21 "WinterTellers$Laws" "codes" "[I" ∈ mj_TT := mj_tt (List.mem_of_getElem? (i := 185) (by decide +kernel)) (by decide +kernel)
theorem qf_Laws_24 : Cond.fieldLink "WinterTellers$Laws" 24 "WinterTellers$Laws" "sizes" "[I" ∈ mj_TT := mj_tt (List.mem_of_getElem? (i := 186) (by decide +kernel)) (by decide +kernel)
theorem qf_Laws_27 : Cond.fieldLink "WinterTellers$Laws" 27 "WinterTellers$Laws" "stack" "[I" ∈ mj_TT := mj_tt (List.mem_of_getElem? (i := 187) (by decide +kernel)) (by decide +kernel)
theorem qf_Laws_30 : Cond.fieldLink "WinterTellers$Laws" 30 "WinterTellers$Laws" "known" "I" ∈ mj_TT := mj_tt (List.mem_of_getElem? (i := 178) (by decide +kernel)) (by decide +kernel)
theorem qf_Laws_9 : Cond.fieldLink "WinterTellers$Laws" 9 "WinterTellers$Laws" "holding" "I" ∈ mj_TT := mj_tt (List.mem_of_getElem? (i := 180) (by decide +kernel)) (by decide +kernel)
theorem qf_M_100 : Cond.fieldLink "WinterTellersModel" 100 "WinterTellersModel" "at" "I" ∈ mj_TT := mj_tt (List.mem_of_getElem? (i := 1174) (by decide +kernel)) (by decide +kernel)
theorem qf_M_107 : Cond.fieldLink "WinterTellersModel" 107 "WinterTellersModel" "wrong" "I" ∈ mj_TT := mj_tt (List.mem_of_getElem? (i := 1175) (by decide +kernel)) (by decide +kernel)
theorem qf_M_110 : Cond.fieldLink "WinterTellersModel" 110 "WinterTellersModel" "text" "I" ∈ mj_TT := mj_tt (List.mem_of_getElem? (i := 1185) (by decide +kernel)) (by decide +kernel)
theorem qf_M_113 : Cond.fieldLink "WinterTellersModel" 113 "WinterTellersModel" "deep" "I" ∈ mj_TT := mj_tt (List.mem_of_getElem? (i := 1176) (by decide +kernel)) (by decide +kernel)
theorem qf_M_13 : Cond.fieldLink "WinterTellersModel" 13 "WinterTellersModel" "code" "[I" ∈ mj_TT := mj_tt (List.mem_of_getElem? (i := 1177) (by decide +kernel)) (by decide +kernel)
theorem qf_M_16 : Cond.fieldLink "WinterTellersModel" 16 "WinterTellersModel" "value" "[I" ∈ mj_TT := mj_tt (List.mem_of_getElem? (i := 1178) (by decide +kernel)) (by decide +kernel)
theorem qf_M_19 : Cond.fieldLink "WinterTellersModel" 19 "WinterTellersModel" "codes" "[I" ∈ mj_TT := mj_tt (List.mem_of_getElem? (i := 1179) (by decide +kernel)) (by decide +kernel)
theorem qf_M_22 : Cond.fieldLink "WinterTellersModel" 22 "WinterTellersModel" "clauses" "[I" ∈ mj_TT := mj_tt (List.mem_of_getElem? (i := 1180) (by decide +kernel)) (by decide +kernel)
theorem qf_M_226 : Cond.fieldLink "WinterTellersModel" 226 "WinterTellersModel" "readHouses" "I" ∈ mj_TT := mj_tt (List.mem_of_getElem? (i := 1191) (by decide +kernel)) (by decide +kernel)
theorem qf_M_229 : Cond.fieldLink "WinterTellersModel" 229 "WinterTellersModel" "readTales" "I" ∈ mj_TT := mj_tt (List.mem_of_getElem? (i := 1192) (by decide +kernel)) (by decide +kernel)
theorem qf_M_242 : Cond.fieldLink "WinterTellersModel" 242 "WinterTellersModel" "houses" "I" ∈ mj_TT := mj_tt (List.mem_of_getElem? (i := 1196) (by decide +kernel)) (by decide +kernel)
theorem qf_M_245 : Cond.fieldLink "WinterTellersModel" 245 "WinterTellersModel" "tales" "I" ∈ mj_TT := mj_tt (List.mem_of_getElem? (i := 1197) (by decide +kernel)) (by decide +kernel)
theorem qf_M_25 : Cond.fieldLink "WinterTellersModel" 25 "WinterTellersModel" "testFrom" "[I" ∈ mj_TT := mj_tt (List.mem_of_getElem? (i := 1181) (by decide +kernel)) (by decide +kernel)
theorem qf_M_254 : Cond.fieldLink "WinterTellersModel" 254 "WinterTellersModel" "noted" "I" ∈ mj_TT := mj_tt (List.mem_of_getElem? (i := 1211) (by decide +kernel)) (by decide +kernel)
theorem qf_M_257 : Cond.fieldLink "WinterTellersModel" 257 "WinterTellersModel" "acts" "I" ∈ mj_TT := mj_tt (List.mem_of_getElem? (i := 1203) (by decide +kernel)) (by decide +kernel)
theorem qf_M_260 : Cond.fieldLink "WinterTellersModel" 260 "WinterTellersModel" "hasImage" "Z" ∈ mj_TT := mj_tt (List.mem_of_getElem? (i := 1215) (by decide +kernel)) (by decide +kernel)
theorem qf_M_267 : Cond.fieldLink "WinterTellersModel" 267 "WinterTellersModel" "laws" "I" ∈ mj_TT := mj_tt (List.mem_of_getElem? (i := 1184) (by decide +kernel)) (by decide +kernel)
theorem qf_M_28 : Cond.fieldLink "WinterTellersModel" 28 "WinterTellersModel" "sumFrom" "[I" ∈ mj_TT := mj_tt (List.mem_of_getElem? (i := 1182) (by decide +kernel)) (by decide +kernel)
theorem qf_M_31 : Cond.fieldLink "WinterTellersModel" 31 "WinterTellersModel" "sumTo" "[I" ∈ mj_TT := mj_tt (List.mem_of_getElem? (i := 1183) (by decide +kernel)) (by decide +kernel)
theorem qf_M_335 : Cond.fieldLink "WinterTellersModel" 335 "WinterTellersModel" "draws" "J" ∈ mj_TT := mj_tt (List.mem_of_getElem? (i := 1204) (by decide +kernel)) (by decide +kernel)
theorem qf_M_34 : Cond.fieldLink "WinterTellersModel" 34 "WinterTellersModel" "letters" "[I" ∈ mj_TT := mj_tt (List.mem_of_getElem? (i := 1186) (by decide +kernel)) (by decide +kernel)
theorem qf_M_352 : Cond.fieldLink "WinterTellersModel" 352 "WinterTellersModel" "bestRow" "I" ∈ mj_TT := mj_tt (List.mem_of_getElem? (i := 1206) (by decide +kernel)) (by decide +kernel)
theorem qf_M_355 : Cond.fieldLink "WinterTellersModel" 355 "WinterTellersModel" "bestMany" "I" ∈ mj_TT := mj_tt (List.mem_of_getElem? (i := 1207) (by decide +kernel)) (by decide +kernel)
theorem qf_M_37 : Cond.fieldLink "WinterTellersModel" 37 "WinterTellersModel" "stack" "[I" ∈ mj_TT := mj_tt (List.mem_of_getElem? (i := 1187) (by decide +kernel)) (by decide +kernel)
theorem qf_M_393 : Cond.fieldLink "WinterTellersModel" 393 "WinterTellersModel" "goneNights" "I" ∈ mj_TT := mj_tt (List.mem_of_getElem? (i := 1213) (by decide +kernel)) (by decide +kernel)
theorem qf_M_396 : Cond.fieldLink "WinterTellersModel" 396 "WinterTellersModel" "goneHouses" "I" ∈ mj_TT := mj_tt (List.mem_of_getElem? (i := 1212) (by decide +kernel)) (by decide +kernel)
theorem qf_M_40 : Cond.fieldLink "WinterTellersModel" 40 "WinterTellersModel" "readRule" "[I" ∈ mj_TT := mj_tt (List.mem_of_getElem? (i := 1188) (by decide +kernel)) (by decide +kernel)
theorem qf_M_43 : Cond.fieldLink "WinterTellersModel" 43 "WinterTellersModel" "readHouse" "[I" ∈ mj_TT := mj_tt (List.mem_of_getElem? (i := 1189) (by decide +kernel)) (by decide +kernel)
theorem qf_M_46 : Cond.fieldLink "WinterTellersModel" 46 "WinterTellersModel" "readTale" "[I" ∈ mj_TT := mj_tt (List.mem_of_getElem? (i := 1190) (by decide +kernel)) (by decide +kernel)
theorem qf_M_49 : Cond.fieldLink "WinterTellersModel" 49 "WinterTellersModel" "rule" "[I" ∈ mj_TT := mj_tt (List.mem_of_getElem? (i := 1193) (by decide +kernel)) (by decide +kernel)
theorem qf_M_52 : Cond.fieldLink "WinterTellersModel" 52 "WinterTellersModel" "house" "[I" ∈ mj_TT := mj_tt (List.mem_of_getElem? (i := 1194) (by decide +kernel)) (by decide +kernel)
theorem qf_M_55 : Cond.fieldLink "WinterTellersModel" 55 "WinterTellersModel" "tale" "[I" ∈ mj_TT := mj_tt (List.mem_of_getElem? (i := 1195) (by decide +kernel)) (by decide +kernel)
theorem qf_M_58 : Cond.fieldLink "WinterTellersModel" 58 "WinterTellersModel" "now" "[I" ∈ mj_TT := mj_tt (List.mem_of_getElem? (i := 1198) (by decide +kernel)) (by decide +kernel)
theorem qf_M_61 : Cond.fieldLink "WinterTellersModel" 61 "WinterTellersModel" "refused" "[I" ∈ mj_TT := mj_tt (List.mem_of_getElem? (i := 1199) (by decide +kernel)) (by decide +kernel)
theorem qf_M_64 : Cond.fieldLink "WinterTellersModel" 64 "WinterTellersModel" "holding" "I" ∈ mj_TT := mj_tt (List.mem_of_getElem? (i := 1200) (by decide +kernel)) (by decide +kernel)
theorem qf_M_68 : Cond.fieldLink "WinterTellersModel" 68 "WinterTellersModel" "curious" "I" ∈ mj_TT := mj_tt (List.mem_of_getElem? (i := 1201) (by decide +kernel)) (by decide +kernel)
theorem qf_M_71 : Cond.fieldLink "WinterTellersModel" 71 "WinterTellersModel" "kept" "[I" ∈ mj_TT := mj_tt (List.mem_of_getElem? (i := 1202) (by decide +kernel)) (by decide +kernel)
theorem qf_M_74 : Cond.fieldLink "WinterTellersModel" 74 "WinterTellersModel" "aside" "[I" ∈ mj_TT := mj_tt (List.mem_of_getElem? (i := 1205) (by decide +kernel)) (by decide +kernel)
theorem qf_M_77 : Cond.fieldLink "WinterTellersModel" 77 "WinterTellersModel" "noteHouse" "[I" ∈ mj_TT := mj_tt (List.mem_of_getElem? (i := 1208) (by decide +kernel)) (by decide +kernel)
theorem qf_M_80 : Cond.fieldLink "WinterTellersModel" 80 "WinterTellersModel" "noteNights" "[I" ∈ mj_TT := mj_tt (List.mem_of_getElem? (i := 1209) (by decide +kernel)) (by decide +kernel)
theorem qf_M_83 : Cond.fieldLink "WinterTellersModel" 83 "WinterTellersModel" "noteIs" "[Z" ∈ mj_TT := mj_tt (List.mem_of_getElem? (i := 1210) (by decide +kernel)) (by decide +kernel)
theorem qf_M_87 : Cond.fieldLink "WinterTellersModel" 87 "WinterTellersModel" "image" "[I" ∈ mj_TT := mj_tt (List.mem_of_getElem? (i := 1214) (by decide +kernel)) (by decide +kernel)
theorem qf_M_9 : Cond.fieldLink "WinterTellersModel" 9 "WinterTellersModel" "tape" "[I" ∈ mj_TT := mj_tt (List.mem_of_getElem? (i := 1172) (by decide +kernel)) (by decide +kernel)
theorem qf_M_90 : Cond.fieldLink "WinterTellersModel" 90 "WinterTellersModel" "thrown" "I" ∈ mj_TT := mj_tt (List.mem_of_getElem? (i := 1171) (by decide +kernel)) (by decide +kernel)
theorem qf_M_97 : Cond.fieldLink "WinterTellersModel" 97 "WinterTellersModel" "size" "I" ∈ mj_TT := mj_tt (List.mem_of_getElem? (i := 1173) (by decide +kernel)) (by decide +kernel)
theorem qf_Past_11 : Cond.fieldLink "WinterTellers$Past" 11 "WinterTellers$Past" "rows" "[I" ∈ mj_TT := mj_tt (List.mem_of_getElem? (i := 266) (by decide +kernel)) (by decide +kernel)
theorem qf_Past_15 : Cond.fieldLink "WinterTellers$Past" 15 "WinterTellers$Past" "imageRow" "[I" ∈ mj_TT := mj_tt (List.mem_of_getElem? (i := 267) (by decide +kernel)) (by decide +kernel)
theorem qf_Past_18 : Cond.fieldLink "WinterTellers$Past" 18 "WinterTellers$Past" "imageTellings" "[I" ∈ mj_TT := mj_tt (List.mem_of_getElem? (i := 268) (by decide +kernel)) (by decide +kernel)
theorem qf_Past_21 : Cond.fieldLink "WinterTellers$Past" 21 "WinterTellers$Past" "kept" "I" ∈ mj_TT := mj_tt (List.mem_of_getElem? (i := 261) (by decide +kernel)) (by decide +kernel)
theorem qf_Past_25 : Cond.fieldLink "WinterTellers$Past" 25 "WinterTellers$Past" "imaged" "Z" ∈ mj_TT := mj_tt (List.mem_of_getElem? (i := 263) (by decide +kernel)) (by decide +kernel)
theorem qf_Past_29 : Cond.fieldLink "WinterTellers$Past" 29 "WinterTellers$Past" "next" "I" ∈ mj_TT := mj_tt (List.mem_of_getElem? (i := 265) (by decide +kernel)) (by decide +kernel)
theorem qf_Past_45 : Cond.fieldLink "WinterTellers$Past" 45 "WinterTellers$Stand" "tellings" "[I" ∈ mj_TT := mj_tt (List.mem_of_getElem? (i := 233) (by decide +kernel)) (by decide +kernel)
theorem qf_Plans_141 : Cond.fieldLink "WinterTellers$Plans" 141 "WinterTellers$Plans" "roundTellings" "I" ∈ mj_TT := mj_tt (List.mem_of_getElem? (i := 339) (by decide +kernel)) (by decide +kernel)
theorem qf_Plans_144 : Cond.fieldLink "WinterTellers$Plans" 144 "WinterTellers$Plans" "roundNights" "I" ∈ mj_TT := mj_tt (List.mem_of_getElem? (i := 341) (by decide +kernel)) (by decide +kernel)
theorem qf_Plans_147 : Cond.fieldLink "WinterTellers$Plans" 147 "WinterTellers$Plans" "roundBread" "I" ∈ mj_TT := mj_tt (List.mem_of_getElem? (i := 343) (by decide +kernel)) (by decide +kernel)
theorem qf_Plans_15 : Cond.fieldLink "WinterTellers$Plans" 15 "WinterTellers$Plans" "onceMore" "[I" ∈ mj_TT := mj_tt (List.mem_of_getElem? (i := 349) (by decide +kernel)) (by decide +kernel)
theorem qf_Plans_150 : Cond.fieldLink "WinterTellers$Plans" 150 "WinterTellers$Stand" "heard" "[I" ∈ mj_TT := mj_tt (List.mem_of_getElem? (i := 231) (by decide +kernel)) (by decide +kernel)
theorem qf_Plans_159 : Cond.fieldLink "WinterTellers$Plans" 159 "WinterTellers$Stand" "at" "I" ∈ mj_TT := mj_tt (List.mem_of_getElem? (i := 211) (by decide +kernel)) (by decide +kernel)
theorem qf_Plans_18 : Cond.fieldLink "WinterTellers$Plans" 18 "WinterTellers$Plans" "roundHeard" "[I" ∈ mj_TT := mj_tt (List.mem_of_getElem? (i := 350) (by decide +kernel)) (by decide +kernel)
theorem qf_Plans_21 : Cond.fieldLink "WinterTellers$Plans" 21 "WinterTellers$Plans" "mostFrom" "[I" ∈ mj_TT := mj_tt (List.mem_of_getElem? (i := 351) (by decide +kernel)) (by decide +kernel)
theorem qf_Plans_24 : Cond.fieldLink "WinterTellers$Plans" 24 "WinterTellers$Plans" "coast" "LWinterTellers$Coast;" ∈ mj_TT := mj_tt (List.mem_of_getElem? (i := 345) (by decide +kernel)) (by decide +kernel)
theorem qf_Plans_28 : Cond.fieldLink "WinterTellers$Plans" 28 "WinterTellers$Plans" "stand" "LWinterTellers$Stand;" ∈ mj_TT := mj_tt (List.mem_of_getElem? (i := 346) (by decide +kernel)) (by decide +kernel)
theorem qf_Plans_32 : Cond.fieldLink "WinterTellers$Plans" 32 "WinterTellers$Plans" "stays" "LWinterTellers$Stays;" ∈ mj_TT := mj_tt (List.mem_of_getElem? (i := 347) (by decide +kernel)) (by decide +kernel)
theorem qf_Plans_36 : Cond.fieldLink "WinterTellers$Plans" 36 "WinterTellers$Plans" "bestTale" "I" ∈ mj_TT := mj_tt (List.mem_of_getElem? (i := 331) (by decide +kernel)) (by decide +kernel)
theorem qf_Plans_40 : Cond.fieldLink "WinterTellers$Plans" 40 "WinterTellers$Plans" "bestStay" "I" ∈ mj_TT := mj_tt (List.mem_of_getElem? (i := 333) (by decide +kernel)) (by decide +kernel)
theorem qf_Plans_43 : Cond.fieldLink "WinterTellers$Plans" 43 "WinterTellers$Coast" "tales" "I" ∈ mj_TT := mj_tt (List.mem_of_getElem? (i := 74) (by decide +kernel)) (by decide +kernel)
theorem qf_Plans_54 : Cond.fieldLink "WinterTellers$Plans" 54 "WinterTellers$Stand" "knots" "[I" ∈ mj_TT := mj_tt (List.mem_of_getElem? (i := 226) (by decide +kernel)) (by decide +kernel)
theorem qf_Plans_63 : Cond.fieldLink "WinterTellers$Plans" 63 "WinterTellers$Coast" "houses" "I" ∈ mj_TT := mj_tt (List.mem_of_getElem? (i := 71) (by decide +kernel)) (by decide +kernel)
theorem qf_Plans_69 : Cond.fieldLink "WinterTellers$Plans" 69 "WinterTellers$Plans" "row" "I" ∈ mj_TT := mj_tt (List.mem_of_getElem? (i := 335) (by decide +kernel)) (by decide +kernel)
theorem qf_Plans_72 : Cond.fieldLink "WinterTellers$Plans" 72 "WinterTellers$Plans" "sum" "I" ∈ mj_TT := mj_tt (List.mem_of_getElem? (i := 337) (by decide +kernel)) (by decide +kernel)
theorem qf_Plans_82 : Cond.fieldLink "WinterTellers$Plans" 82 "WinterTellers$Stand" "bread" "I" ∈ mj_TT := mj_tt (List.mem_of_getElem? (i := 215) (by decide +kernel)) (by decide +kernel)
theorem qf_Plans_9 : Cond.fieldLink "WinterTellers$Plans" 9 "WinterTellers$Plans" "now" "[I" ∈ mj_TT := mj_tt (List.mem_of_getElem? (i := 348) (by decide +kernel)) (by decide +kernel)
theorem qf_Stand_13 : Cond.fieldLink "WinterTellers$Stand" 13 "WinterTellers$Stand" "knots" "[I" ∈ mj_TT := mj_tt (List.mem_of_getElem? (i := 224) (by decide +kernel)) (by decide +kernel)
theorem qf_Stand_17 : Cond.fieldLink "WinterTellers$Stand" 17 "WinterTellers$Stand" "heard" "[I" ∈ mj_TT := mj_tt (List.mem_of_getElem? (i := 228) (by decide +kernel)) (by decide +kernel)
theorem qf_Stand_20 : Cond.fieldLink "WinterTellers$Stand" 20 "WinterTellers$Stand" "tellings" "[I" ∈ mj_TT := mj_tt (List.mem_of_getElem? (i := 232) (by decide +kernel)) (by decide +kernel)
theorem qf_Stand_23 : Cond.fieldLink "WinterTellers$Stand" 23 "WinterTellers$Coast" "at" "I" ∈ mj_TT := mj_tt (List.mem_of_getElem? (i := 87) (by decide +kernel)) (by decide +kernel)
theorem qf_Stand_29 : Cond.fieldLink "WinterTellers$Stand" 29 "WinterTellers$Stand" "at" "I" ∈ mj_TT := mj_tt (List.mem_of_getElem? (i := 209) (by decide +kernel)) (by decide +kernel)
theorem qf_Stand_30 : Cond.fieldLink "WinterTellers$Stand" 30 "WinterTellers$Coast" "owned" "I" ∈ mj_TT := mj_tt (List.mem_of_getElem? (i := 84) (by decide +kernel)) (by decide +kernel)
theorem qf_Stand_37 : Cond.fieldLink "WinterTellers$Stand" 37 "WinterTellers$Stand" "owned" "I" ∈ mj_TT := mj_tt (List.mem_of_getElem? (i := 212) (by decide +kernel)) (by decide +kernel)
theorem qf_Stand_38 : Cond.fieldLink "WinterTellers$Stand" 38 "WinterTellers$Coast" "bread" "I" ∈ mj_TT := mj_tt (List.mem_of_getElem? (i := 81) (by decide +kernel)) (by decide +kernel)
theorem qf_Stand_41 : Cond.fieldLink "WinterTellers$Stand" 41 "WinterTellers$Stand" "bread" "I" ∈ mj_TT := mj_tt (List.mem_of_getElem? (i := 214) (by decide +kernel)) (by decide +kernel)
theorem qf_Stand_42 : Cond.fieldLink "WinterTellers$Stand" 42 "WinterTellers$Stand" "day" "I" ∈ mj_TT := mj_tt (List.mem_of_getElem? (i := 217) (by decide +kernel)) (by decide +kernel)
theorem qf_Stand_45 : Cond.fieldLink "WinterTellers$Stand" 45 "WinterTellers$Stand" "nightsInAll" "I" ∈ mj_TT := mj_tt (List.mem_of_getElem? (i := 219) (by decide +kernel)) (by decide +kernel)
theorem qf_Stand_48 : Cond.fieldLink "WinterTellers$Stand" 48 "WinterTellers$Stand" "putOut" "I" ∈ mj_TT := mj_tt (List.mem_of_getElem? (i := 221) (by decide +kernel)) (by decide +kernel)
theorem qf_Stand_51 : Cond.fieldLink "WinterTellers$Stand" 51 "WinterTellers$Stand" "logged" "I" ∈ mj_TT := mj_tt (List.mem_of_getElem? (i := 223) (by decide +kernel)) (by decide +kernel)
theorem qf_Stand_54 : Cond.fieldLink "WinterTellers$Stand" 54 "WinterTellers$Coast" "knots" "[I" ∈ mj_TT := mj_tt (List.mem_of_getElem? (i := 108) (by decide +kernel)) (by decide +kernel)
theorem qf_Stand_67 : Cond.fieldLink "WinterTellers$Stand" 67 "WinterTellers$Coast" "houses" "I" ∈ mj_TT := mj_tt (List.mem_of_getElem? (i := 70) (by decide +kernel)) (by decide +kernel)
theorem qf_Stand_70 : Cond.fieldLink "WinterTellers$Stand" 70 "WinterTellers$Coast" "tales" "I" ∈ mj_TT := mj_tt (List.mem_of_getElem? (i := 76) (by decide +kernel)) (by decide +kernel)
theorem qf_Stays_15 : Cond.fieldLink "WinterTellers$Stays" 15 "WinterTellers$Stays" "stand" "LWinterTellers$Stand;" ∈ mj_TT := mj_tt (List.mem_of_getElem? (i := 289) (by decide +kernel)) (by decide +kernel)
theorem qf_Stays_19 : Cond.fieldLink "WinterTellers$Stays" 19 "WinterTellers$Stays" "laws" "LWinterTellers$Laws;" ∈ mj_TT := mj_tt (List.mem_of_getElem? (i := 290) (by decide +kernel)) (by decide +kernel)
theorem qf_Stays_23 : Cond.fieldLink "WinterTellers$Stays" 23 "WinterTellers$Stand" "heard" "[I" ∈ mj_TT := mj_tt (List.mem_of_getElem? (i := 229) (by decide +kernel)) (by decide +kernel)
theorem qf_Stays_29 : Cond.fieldLink "WinterTellers$Stays" 29 "WinterTellers$Stand" "knots" "[I" ∈ mj_TT := mj_tt (List.mem_of_getElem? (i := 225) (by decide +kernel)) (by decide +kernel)
theorem qf_Stays_46 : Cond.fieldLink "WinterTellers$Stays" 46 "WinterTellers$Coast" "knots" "[I" ∈ mj_TT := mj_tt (List.mem_of_getElem? (i := 109) (by decide +kernel)) (by decide +kernel)
theorem qf_Stays_47 : Cond.fieldLink "WinterTellers$Stays" 47 "WinterTellers$Laws" "letters" "[I" ∈ mj_TT := mj_tt (List.mem_of_getElem? (i := 184) (by decide +kernel)) (by decide +kernel)
theorem qf_Stays_52 : Cond.fieldLink "WinterTellers$Stays" 52 "WinterTellers$Coast" "lengths" "[I" ∈ mj_TT := mj_tt (List.mem_of_getElem? (i := 104) (by decide +kernel)) (by decide +kernel)
theorem qf_Stays_55 : Cond.fieldLink "WinterTellers$Stays" 55 "WinterTellers$Coast" "curious" "[I" ∈ mj_TT := mj_tt (List.mem_of_getElem? (i := 96) (by decide +kernel)) (by decide +kernel)
theorem qf_Stays_58 : Cond.fieldLink "WinterTellers$Stays" 58 "WinterTellers$Coast" "warm" "[I" ∈ mj_TT := mj_tt (List.mem_of_getElem? (i := 100) (by decide +kernel)) (by decide +kernel)
theorem qf_Stays_61 : Cond.fieldLink "WinterTellers$Stays" 61 "WinterTellers$Coast" "truths" "[I" ∈ mj_TT := mj_tt (List.mem_of_getElem? (i := 112) (by decide +kernel)) (by decide +kernel)
theorem qf_Stays_64 : Cond.fieldLink "WinterTellers$Stays" 64 "WinterTellers$Laws" "holding" "I" ∈ mj_TT := mj_tt (List.mem_of_getElem? (i := 181) (by decide +kernel)) (by decide +kernel)
theorem qf_Stays_84 : Cond.fieldLink "WinterTellers$Stays" 84 "WinterTellers$Coast" "often" "I" ∈ mj_TT := mj_tt (List.mem_of_getElem? (i := 90) (by decide +kernel)) (by decide +kernel)
theorem qf_Stays_9 : Cond.fieldLink "WinterTellers$Stays" 9 "WinterTellers$Stays" "coast" "LWinterTellers$Coast;" ∈ mj_TT := mj_tt (List.mem_of_getElem? (i := 288) (by decide +kernel)) (by decide +kernel)
theorem qf_Tape_11 : Cond.fieldLink "WinterTellers$Tape" 11 "WinterTellers$Tape" "signs" "[I" ∈ mj_TT := mj_tt (List.mem_of_getElem? (i := 36) (by decide +kernel)) (by decide +kernel)
theorem qf_Tape_15 : Cond.fieldLink "WinterTellers$Tape" 15 "WinterTellers$Tape" "size" "I" ∈ mj_TT := mj_tt (List.mem_of_getElem? (i := 39) (by decide +kernel)) (by decide +kernel)
theorem qf_Tape_19 : Cond.fieldLink "WinterTellers$Tape" 19 "WinterTellers$Tape" "place" "I" ∈ mj_TT := mj_tt (List.mem_of_getElem? (i := 41) (by decide +kernel)) (by decide +kernel)
theorem qf_Tape_22 : Cond.fieldLink "WinterTellers$Tape" 22 "WinterTellers$Tape" "wrong" "I" ∈ mj_TT := mj_tt (List.mem_of_getElem? (i := 45) (by decide +kernel)) (by decide +kernel)
theorem qf_W_106 : Cond.fieldLink "WinterTellers" 106 "WinterTellers$Tape" "size" "I" ∈ mj_TT := mj_tt (List.mem_of_getElem? (i := 37) (by decide +kernel)) (by decide +kernel)
theorem qf_W_12 : Cond.fieldLink "WinterTellers" 12 "WinterTellers" "tape" "LWinterTellers$Tape;" ∈ mj_TT := mj_tt (List.mem_of_getElem? (i := 400) (by decide +kernel)) (by decide +kernel)
theorem qf_W_121 : Cond.fieldLink "WinterTellers" 121 "WinterTellers$Coast" "houses" "I" ∈ mj_TT := mj_tt (List.mem_of_getElem? (i := 72) (by decide +kernel)) (by decide +kernel)
theorem qf_W_124 : Cond.fieldLink "WinterTellers" 124 "WinterTellers$Laws" "known" "I" ∈ mj_TT := mj_tt (List.mem_of_getElem? (i := 179) (by decide +kernel)) (by decide +kernel)
theorem qf_W_127 : Cond.fieldLink "WinterTellers" 127 "WinterTellers$LawReader" "codes" "[I" ∈ mj_TT := mj_tt (List.mem_of_getElem? (i := 161) (by decide +kernel)) (by decide +kernel)
theorem qf_W_130 : Cond.fieldLink "WinterTellers" 130 "WinterTellers$LawReader" "size" "I" ∈ mj_TT := mj_tt (List.mem_of_getElem? (i := 163) (by decide +kernel)) (by decide +kernel)
theorem qf_W_134 : Cond.fieldLink "WinterTellers" 134 "WinterTellers$CoastReader" "draft" "LWinterTellers$Coast;" ∈ mj_TT := mj_tt (List.mem_of_getElem? (i := 141) (by decide +kernel)) (by decide +kernel)
theorem qf_W_147 : Cond.fieldLink "WinterTellers" 147 "WinterTellers$Guess" "sights" "I" ∈ mj_TT := mj_tt (List.mem_of_getElem? (i := 305) (by decide +kernel)) (by decide +kernel)
theorem qf_W_157 : Cond.fieldLink "WinterTellers" 157 "WinterTellers$Coast" "curious" "[I" ∈ mj_TT := mj_tt (List.mem_of_getElem? (i := 97) (by decide +kernel)) (by decide +kernel)
theorem qf_W_160 : Cond.fieldLink "WinterTellers" 160 "WinterTellers$Coast" "warm" "[I" ∈ mj_TT := mj_tt (List.mem_of_getElem? (i := 101) (by decide +kernel)) (by decide +kernel)
theorem qf_W_169 : Cond.fieldLink "WinterTellers" 169 "WinterTellers$Coast" "lengths" "[I" ∈ mj_TT := mj_tt (List.mem_of_getElem? (i := 105) (by decide +kernel)) (by decide +kernel)
theorem qf_W_172 : Cond.fieldLink "WinterTellers" 172 "WinterTellers$Stand" "knots" "[I" ∈ mj_TT := mj_tt (List.mem_of_getElem? (i := 227) (by decide +kernel)) (by decide +kernel)
theorem qf_W_175 : Cond.fieldLink "WinterTellers" 175 "WinterTellers$Coast" "truths" "[I" ∈ mj_TT := mj_tt (List.mem_of_getElem? (i := 113) (by decide +kernel)) (by decide +kernel)
theorem qf_W_185 : Cond.fieldLink "WinterTellers" 185 "WinterTellers$Stand" "heard" "[I" ∈ mj_TT := mj_tt (List.mem_of_getElem? (i := 230) (by decide +kernel)) (by decide +kernel)
theorem qf_W_192 : Cond.fieldLink "WinterTellers" 192 "WinterTellers$Laws" "holding" "I" ∈ mj_TT := mj_tt (List.mem_of_getElem? (i := 182) (by decide +kernel)) (by decide +kernel)
theorem qf_W_198 : Cond.fieldLink "WinterTellers" 198 "WinterTellers$Stand" "at" "I" ∈ mj_TT := mj_tt (List.mem_of_getElem? (i := 210) (by decide +kernel)) (by decide +kernel)
theorem qf_W_21 : Cond.fieldLink "WinterTellers" 21 "WinterTellers" "coastReader" "LWinterTellers$CoastReader;" ∈ mj_TT := mj_tt (List.mem_of_getElem? (i := 401) (by decide +kernel)) (by decide +kernel)
theorem qf_W_218 : Cond.fieldLink "WinterTellers" 218 "WinterTellers$Stand" "bread" "I" ∈ mj_TT := mj_tt (List.mem_of_getElem? (i := 216) (by decide +kernel)) (by decide +kernel)
theorem qf_W_224 : Cond.fieldLink "WinterTellers" 224 "WinterTellers$Stand" "day" "I" ∈ mj_TT := mj_tt (List.mem_of_getElem? (i := 218) (by decide +kernel)) (by decide +kernel)
theorem qf_W_227 : Cond.fieldLink "WinterTellers" 227 "WinterTellers$Stand" "owned" "I" ∈ mj_TT := mj_tt (List.mem_of_getElem? (i := 213) (by decide +kernel)) (by decide +kernel)
theorem qf_W_250 : Cond.fieldLink "WinterTellers" 250 "WinterTellers$Coast" "tales" "I" ∈ mj_TT := mj_tt (List.mem_of_getElem? (i := 80) (by decide +kernel)) (by decide +kernel)
theorem qf_W_265 : Cond.fieldLink "WinterTellers" 265 "WinterTellers$Past" "kept" "I" ∈ mj_TT := mj_tt (List.mem_of_getElem? (i := 262) (by decide +kernel)) (by decide +kernel)
theorem qf_W_28 : Cond.fieldLink "WinterTellers" 28 "WinterTellers" "lawReader" "LWinterTellers$LawReader;" ∈ mj_TT := mj_tt (List.mem_of_getElem? (i := 402) (by decide +kernel)) (by decide +kernel)
theorem qf_W_281 : Cond.fieldLink "WinterTellers" 281 "WinterTellers$Plans" "bestTale" "I" ∈ mj_TT := mj_tt (List.mem_of_getElem? (i := 332) (by decide +kernel)) (by decide +kernel)
theorem qf_W_284 : Cond.fieldLink "WinterTellers" 284 "WinterTellers$Plans" "bestStay" "I" ∈ mj_TT := mj_tt (List.mem_of_getElem? (i := 334) (by decide +kernel)) (by decide +kernel)
theorem qf_W_290 : Cond.fieldLink "WinterTellers" 290 "WinterTellers$Plans" "row" "I" ∈ mj_TT := mj_tt (List.mem_of_getElem? (i := 336) (by decide +kernel)) (by decide +kernel)
theorem qf_W_293 : Cond.fieldLink "WinterTellers" 293 "WinterTellers$Plans" "sum" "I" ∈ mj_TT := mj_tt (List.mem_of_getElem? (i := 338) (by decide +kernel)) (by decide +kernel)
theorem qf_W_334 : Cond.fieldLink "WinterTellers" 334 "WinterTellers$Plans" "roundTellings" "I" ∈ mj_TT := mj_tt (List.mem_of_getElem? (i := 340) (by decide +kernel)) (by decide +kernel)
theorem qf_W_337 : Cond.fieldLink "WinterTellers" 337 "WinterTellers$Plans" "roundNights" "I" ∈ mj_TT := mj_tt (List.mem_of_getElem? (i := 342) (by decide +kernel)) (by decide +kernel)
theorem qf_W_340 : Cond.fieldLink "WinterTellers" 340 "WinterTellers$Plans" "roundBread" "I" ∈ mj_TT := mj_tt (List.mem_of_getElem? (i := 344) (by decide +kernel)) (by decide +kernel)
theorem qf_W_35 : Cond.fieldLink "WinterTellers" 35 "WinterTellers" "laws" "LWinterTellers$Laws;" ∈ mj_TT := mj_tt (List.mem_of_getElem? (i := 403) (by decide +kernel)) (by decide +kernel)
theorem qf_W_368 : Cond.fieldLink "WinterTellers" 368 "WinterTellers$Past" "imaged" "Z" ∈ mj_TT := mj_tt (List.mem_of_getElem? (i := 264) (by decide +kernel)) (by decide +kernel)
theorem qf_W_378 : Cond.fieldLink "WinterTellers" 378 "WinterTellers$Stand" "nightsInAll" "I" ∈ mj_TT := mj_tt (List.mem_of_getElem? (i := 220) (by decide +kernel)) (by decide +kernel)
theorem qf_W_381 : Cond.fieldLink "WinterTellers" 381 "WinterTellers$Stand" "putOut" "I" ∈ mj_TT := mj_tt (List.mem_of_getElem? (i := 222) (by decide +kernel)) (by decide +kernel)
theorem qf_W_42 : Cond.fieldLink "WinterTellers" 42 "WinterTellers" "coast" "LWinterTellers$Coast;" ∈ mj_TT := mj_tt (List.mem_of_getElem? (i := 404) (by decide +kernel)) (by decide +kernel)
theorem qf_W_49 : Cond.fieldLink "WinterTellers" 49 "WinterTellers" "stand" "LWinterTellers$Stand;" ∈ mj_TT := mj_tt (List.mem_of_getElem? (i := 405) (by decide +kernel)) (by decide +kernel)
theorem qf_W_56 : Cond.fieldLink "WinterTellers" 56 "WinterTellers" "past" "LWinterTellers$Past;" ∈ mj_TT := mj_tt (List.mem_of_getElem? (i := 406) (by decide +kernel)) (by decide +kernel)
theorem qf_W_65 : Cond.fieldLink "WinterTellers" 65 "WinterTellers" "stays" "LWinterTellers$Stays;" ∈ mj_TT := mj_tt (List.mem_of_getElem? (i := 407) (by decide +kernel)) (by decide +kernel)
theorem qf_W_74 : Cond.fieldLink "WinterTellers" 74 "WinterTellers" "guess" "LWinterTellers$Guess;" ∈ mj_TT := mj_tt (List.mem_of_getElem? (i := 408) (by decide +kernel)) (by decide +kernel)
theorem qf_W_83 : Cond.fieldLink "WinterTellers" 83 "WinterTellers" "plans" "LWinterTellers$Plans;" ∈ mj_TT := mj_tt (List.mem_of_getElem? (i := 409) (by decide +kernel)) (by decide +kernel)
theorem qf_W_90 : Cond.fieldLink "WinterTellers" 90 "WinterTellers" "duel" "LWinterTellers$Duel;" ∈ mj_TT := mj_tt (List.mem_of_getElem? (i := 410) (by decide +kernel)) (by decide +kernel)
theorem qf_W_94 : Cond.fieldLink "WinterTellers" 94 "WinterTellers" "refused" "[I" ∈ mj_TT := mj_tt (List.mem_of_getElem? (i := 411) (by decide +kernel)) (by decide +kernel)
theorem qf_W_98 : Cond.fieldLink "WinterTellers" 98 "WinterTellers" "whyBelow" "I" ∈ mj_TT := mj_tt (List.mem_of_getElem? (i := 412) (by decide +kernel)) (by decide +kernel)
theorem ql_CoastReader_107 : Cond.methodLink "WinterTellers$CoastReader" 107 y_Tape_number ∈ mj_TT := mj_tt (List.mem_of_getElem? (i := 506) (by decide +kernel)) (by decide +kernel)
theorem ql_CoastReader_26 : Cond.methodLink "WinterTellers$CoastReader" 26 y_Tape_rewind ∈ mj_TT := mj_tt (List.mem_of_getElem? (i := 463) (by decide +kernel)) (by decide +kernel)
theorem ql_CoastReader_42 : Cond.methodLink "WinterTellers$CoastReader" 42 y_CoastReader_takeItemsWithout ∈ mj_TT := mj_tt (List.mem_of_getElem? (i := 467) (by decide +kernel)) (by decide +kernel)
theorem ql_CoastReader_46 : Cond.methodLink "WinterTellers$CoastReader" 46 y_CoastReader_keepRules ∈ mj_TT := mj_tt (List.mem_of_getElem? (i := 476) (by decide +kernel)) (by decide +kernel)
theorem ql_CoastReader_49 : Cond.methodLink "WinterTellers$CoastReader" 49 y_CoastReader_readClause ∈ mj_TT := mj_tt (List.mem_of_getElem? (i := 480) (by decide +kernel)) (by decide +kernel)
theorem ql_CoastReader_52 : Cond.methodLink "WinterTellers$CoastReader" 52 y_Tape_takes ∈ mj_TT := mj_tt (List.mem_of_getElem? (i := 527) (by decide +kernel)) (by decide +kernel)
theorem ql_CoastReader_56 : Cond.methodLink "WinterTellers$CoastReader" 56 y_Tape_demandEnd ∈ mj_TT := mj_tt (List.mem_of_getElem? (i := 532) (by decide +kernel)) (by decide +kernel)
theorem ql_CoastReader_65 : Cond.methodLink "WinterTellers$CoastReader" 65 y_Tape_fail ∈ mj_TT := mj_tt (List.mem_of_getElem? (i := 526) (by decide +kernel)) (by decide +kernel)
theorem ql_CoastReader_72 : Cond.methodLink "WinterTellers$CoastReader" 72 y_Tape_peek ∈ mj_TT := mj_tt (List.mem_of_getElem? (i := 484) (by decide +kernel)) (by decide +kernel)
theorem ql_CoastReader_76 : Cond.methodLink "WinterTellers$CoastReader" 76 y_CoastReader_readItems ∈ mj_TT := mj_tt (List.mem_of_getElem? (i := 492) (by decide +kernel)) (by decide +kernel)
theorem ql_CoastReader_79 : Cond.methodLink "WinterTellers$CoastReader" 79 y_CoastReader_keepHouse ∈ mj_TT := mj_tt (List.mem_of_getElem? (i := 518) (by decide +kernel)) (by decide +kernel)
theorem ql_CoastReader_82 : Cond.methodLink "WinterTellers$CoastReader" 82 y_CoastReader_keepTale ∈ mj_TT := mj_tt (List.mem_of_getElem? (i := 522) (by decide +kernel)) (by decide +kernel)
theorem ql_CoastReader_97 : Cond.methodLink "WinterTellers$CoastReader" 97 y_CoastReader_itemAt ∈ mj_TT := mj_tt (List.mem_of_getElem? (i := 496) (by decide +kernel)) (by decide +kernel)
theorem ql_Coast_37 : Cond.methodLink "WinterTellers$Coast" 37 y_Coast_hasHouse ∈ mj_TT := mj_tt (List.mem_of_getElem? (i := 653) (by decide +kernel)) (by decide +kernel)
theorem ql_Coast_41 : Cond.methodLink "WinterTellers$Coast" 41 y_Coast_hasTale ∈ mj_TT := mj_tt (List.mem_of_getElem? (i := 654) (by decide +kernel)) (by decide +kernel)
theorem ql_Duel_26 : Cond.methodLink "WinterTellers$Duel" 26 y_Coast_hasTale ∈ mj_TT := mj_tt (List.mem_of_getElem? (i := 969) (by decide +kernel)) (by decide +kernel)
theorem ql_Duel_32 : Cond.methodLink "WinterTellers$Duel" 32 y_Stays_now ∈ mj_TT := mj_tt (List.mem_of_getElem? (i := 970) (by decide +kernel)) (by decide +kernel)
theorem ql_Duel_37 : Cond.methodLink "WinterTellers$Duel" 37 y_Stays_onceMore ∈ mj_TT := mj_tt (List.mem_of_getElem? (i := 971) (by decide +kernel)) (by decide +kernel)
theorem ql_Duel_39 : Cond.methodLink "WinterTellers$Duel" 39 y_Duel_secondStay ∈ mj_TT := mj_tt (List.mem_of_getElem? (i := 976) (by decide +kernel)) (by decide +kernel)
theorem ql_Duel_42 : Cond.methodLink "WinterTellers$Duel" 42 y_Duel_has ∈ mj_TT := mj_tt (List.mem_of_getElem? (i := 980) (by decide +kernel)) (by decide +kernel)
theorem ql_Duel_46 : Cond.methodLink "WinterTellers$Duel" 46 y_Duel_firstHas ∈ mj_TT := mj_tt (List.mem_of_getElem? (i := 1000) (by decide +kernel)) (by decide +kernel)
theorem ql_Duel_49 : Cond.methodLink "WinterTellers$Duel" 49 y_Duel_secondHas ∈ mj_TT := mj_tt (List.mem_of_getElem? (i := 1001) (by decide +kernel)) (by decide +kernel)
theorem ql_Duel_56 : Cond.methodLink "WinterTellers$Duel" 56 y_Duel_isQuiet ∈ mj_TT := mj_tt (List.mem_of_getElem? (i := 996) (by decide +kernel)) (by decide +kernel)
theorem ql_Guess_39 : Cond.methodLink "WinterTellers$Guess" 39 y_Guess_fits ∈ mj_TT := mj_tt (List.mem_of_getElem? (i := 935) (by decide +kernel)) (by decide +kernel)
theorem ql_Guess_43 : Cond.methodLink "WinterTellers$Guess" 43 y_Stays_asTold ∈ mj_TT := mj_tt (List.mem_of_getElem? (i := 939) (by decide +kernel)) (by decide +kernel)
theorem ql_Guess_51 : Cond.methodLink "WinterTellers$Guess" 51 y_Guess_apartIn ∈ mj_TT := mj_tt (List.mem_of_getElem? (i := 955) (by decide +kernel)) (by decide +kernel)
theorem ql_LawReader_19 : Cond.methodLink "WinterTellers$LawReader" 19 y_Tape_rewind ∈ mj_TT := mj_tt (List.mem_of_getElem? (i := 540) (by decide +kernel)) (by decide +kernel)
theorem ql_LawReader_26 : Cond.methodLink "WinterTellers$LawReader" 26 y_LawReader_readClause ∈ mj_TT := mj_tt (List.mem_of_getElem? (i := 541) (by decide +kernel)) (by decide +kernel)
theorem ql_LawReader_29 : Cond.methodLink "WinterTellers$LawReader" 29 y_Tape_takes ∈ mj_TT := mj_tt (List.mem_of_getElem? (i := 593) (by decide +kernel)) (by decide +kernel)
theorem ql_LawReader_33 : Cond.methodLink "WinterTellers$LawReader" 33 y_Tape_demandEnd ∈ mj_TT := mj_tt (List.mem_of_getElem? (i := 594) (by decide +kernel)) (by decide +kernel)
theorem ql_LawReader_39 : Cond.methodLink "WinterTellers$LawReader" 39 y_Tape_demand ∈ mj_TT := mj_tt (List.mem_of_getElem? (i := 545) (by decide +kernel)) (by decide +kernel)
theorem ql_LawReader_43 : Cond.methodLink "WinterTellers$LawReader" 43 y_Tape_peek ∈ mj_TT := mj_tt (List.mem_of_getElem? (i := 549) (by decide +kernel)) (by decide +kernel)
theorem ql_LawReader_47 : Cond.methodLink "WinterTellers$LawReader" 47 y_LawReader_readSum ∈ mj_TT := mj_tt (List.mem_of_getElem? (i := 550) (by decide +kernel)) (by decide +kernel)
theorem ql_LawReader_50 : Cond.methodLink "WinterTellers$LawReader" 50 y_LawReader_isComparison ∈ mj_TT := mj_tt (List.mem_of_getElem? (i := 578) (by decide +kernel)) (by decide +kernel)
theorem ql_LawReader_53 : Cond.methodLink "WinterTellers$LawReader" 53 y_LawReader_readCondition ∈ mj_TT := mj_tt (List.mem_of_getElem? (i := 581) (by decide +kernel)) (by decide +kernel)
theorem ql_LawReader_57 : Cond.methodLink "WinterTellers$LawReader" 57 y_LawReader_write ∈ mj_TT := mj_tt (List.mem_of_getElem? (i := 563) (by decide +kernel)) (by decide +kernel)
theorem ql_LawReader_61 : Cond.methodLink "WinterTellers$LawReader" 61 y_LawReader_readTruth ∈ mj_TT := mj_tt (List.mem_of_getElem? (i := 585) (by decide +kernel)) (by decide +kernel)
theorem ql_LawReader_64 : Cond.methodLink "WinterTellers$LawReader" 64 y_LawReader_readUnit ∈ mj_TT := mj_tt (List.mem_of_getElem? (i := 589) (by decide +kernel)) (by decide +kernel)
theorem ql_LawReader_67 : Cond.methodLink "WinterTellers$LawReader" 67 y_LawReader_goesDeeper ∈ mj_TT := mj_tt (List.mem_of_getElem? (i := 567) (by decide +kernel)) (by decide +kernel)
theorem ql_LawReader_73 : Cond.methodLink "WinterTellers$LawReader" 73 y_Tape_fail ∈ mj_TT := mj_tt (List.mem_of_getElem? (i := 571) (by decide +kernel)) (by decide +kernel)
theorem ql_LawReader_76 : Cond.methodLink "WinterTellers$LawReader" 76 y_LawReader_readTerm ∈ mj_TT := mj_tt (List.mem_of_getElem? (i := 554) (by decide +kernel)) (by decide +kernel)
theorem ql_LawReader_79 : Cond.methodLink "WinterTellers$LawReader" 79 y_LawReader_readAtom ∈ mj_TT := mj_tt (List.mem_of_getElem? (i := 558) (by decide +kernel)) (by decide +kernel)
theorem ql_LawReader_82 : Cond.methodLink "WinterTellers$LawReader" 82 y_Tape_number ∈ mj_TT := mj_tt (List.mem_of_getElem? (i := 562) (by decide +kernel)) (by decide +kernel)
theorem ql_LawReader_86 : Cond.methodLink "WinterTellers$LawReader" 86 y_LawReader_readLetter ∈ mj_TT := mj_tt (List.mem_of_getElem? (i := 572) (by decide +kernel)) (by decide +kernel)
theorem ql_Laws_41 : Cond.methodLink "WinterTellers$Laws" 41 y_Laws_operand ∈ mj_TT := mj_tt (List.mem_of_getElem? (i := 678) (by decide +kernel)) (by decide +kernel)
theorem ql_Laws_45 : Cond.methodLink "WinterTellers$Laws" 45 y_Laws_joined ∈ mj_TT := mj_tt (List.mem_of_getElem? (i := 682) (by decide +kernel)) (by decide +kernel)
theorem ql_Laws_49 : Cond.methodLink "WinterTellers$Laws" 49 y_Laws_held ∈ mj_TT := mj_tt (List.mem_of_getElem? (i := 685) (by decide +kernel)) (by decide +kernel)
theorem ql_M_103 : Cond.methodLink "WinterTellersModel" 103 y_M_here ∈ mj_TT := mj_tt (List.mem_of_getElem? (i := 1337) (by decide +kernel)) (by decide +kernel)
theorem ql_M_116 : Cond.methodLink "WinterTellersModel" 116 y_M_bad ∈ mj_TT := mj_tt (List.mem_of_getElem? (i := 1361) (by decide +kernel)) (by decide +kernel)
theorem ql_M_119 : Cond.methodLink "WinterTellersModel" 119 y_M_look ∈ mj_TT := mj_tt (List.mem_of_getElem? (i := 1333) (by decide +kernel)) (by decide +kernel)
theorem ql_M_122 : Cond.methodLink "WinterTellersModel" 122 y_M_isDigit ∈ mj_TT := mj_tt (List.mem_of_getElem? (i := 1358) (by decide +kernel)) (by decide +kernel)
theorem ql_M_126 : Cond.methodLink "WinterTellersModel" 126 y_M_plainNumber ∈ mj_TT := mj_tt (List.mem_of_getElem? (i := 1412) (by decide +kernel)) (by decide +kernel)
theorem ql_M_129 : Cond.methodLink "WinterTellersModel" 129 y_M_put ∈ mj_TT := mj_tt (List.mem_of_getElem? (i := 1392) (by decide +kernel)) (by decide +kernel)
theorem ql_M_133 : Cond.methodLink "WinterTellersModel" 133 y_M_letterOf ∈ mj_TT := mj_tt (List.mem_of_getElem? (i := 1416) (by decide +kernel)) (by decide +kernel)
theorem ql_M_137 : Cond.methodLink "WinterTellersModel" 137 y_M_opens ∈ mj_TT := mj_tt (List.mem_of_getElem? (i := 1388) (by decide +kernel)) (by decide +kernel)
theorem ql_M_140 : Cond.methodLink "WinterTellersModel" 140 y_M_sum ∈ mj_TT := mj_tt (List.mem_of_getElem? (i := 1400) (by decide +kernel)) (by decide +kernel)
theorem ql_M_143 : Cond.methodLink "WinterTellersModel" 143 y_M_closes ∈ mj_TT := mj_tt (List.mem_of_getElem? (i := 1396) (by decide +kernel)) (by decide +kernel)
theorem ql_M_147 : Cond.methodLink "WinterTellersModel" 147 y_M_atom ∈ mj_TT := mj_tt (List.mem_of_getElem? (i := 1408) (by decide +kernel)) (by decide +kernel)
theorem ql_M_150 : Cond.methodLink "WinterTellersModel" 150 y_M_term ∈ mj_TT := mj_tt (List.mem_of_getElem? (i := 1404) (by decide +kernel)) (by decide +kernel)
theorem ql_M_153 : Cond.methodLink "WinterTellersModel" 153 y_M_isSign ∈ mj_TT := mj_tt (List.mem_of_getElem? (i := 1423) (by decide +kernel)) (by decide +kernel)
theorem ql_M_156 : Cond.methodLink "WinterTellersModel" 156 y_M_unit ∈ mj_TT := mj_tt (List.mem_of_getElem? (i := 1384) (by decide +kernel)) (by decide +kernel)
theorem ql_M_159 : Cond.methodLink "WinterTellersModel" 159 y_M_condition ∈ mj_TT := mj_tt (List.mem_of_getElem? (i := 1380) (by decide +kernel)) (by decide +kernel)
theorem ql_M_162 : Cond.methodLink "WinterTellersModel" 162 y_M_compare ∈ mj_TT := mj_tt (List.mem_of_getElem? (i := 1419) (by decide +kernel)) (by decide +kernel)
theorem ql_M_165 : Cond.methodLink "WinterTellersModel" 165 y_M_goOnAnd ∈ mj_TT := mj_tt (List.mem_of_getElem? (i := 1426) (by decide +kernel)) (by decide +kernel)
theorem ql_M_168 : Cond.methodLink "WinterTellersModel" 168 y_M_goOnOr ∈ mj_TT := mj_tt (List.mem_of_getElem? (i := 1430) (by decide +kernel)) (by decide +kernel)
theorem ql_M_171 : Cond.methodLink "WinterTellersModel" 171 y_M_open ∈ mj_TT := mj_tt (List.mem_of_getElem? (i := 1372) (by decide +kernel)) (by decide +kernel)
theorem ql_M_174 : Cond.methodLink "WinterTellersModel" 174 y_M_clause ∈ mj_TT := mj_tt (List.mem_of_getElem? (i := 1376) (by decide +kernel)) (by decide +kernel)
theorem ql_M_177 : Cond.methodLink "WinterTellersModel" 177 y_M_atEnd ∈ mj_TT := mj_tt (List.mem_of_getElem? (i := 1434) (by decide +kernel)) (by decide +kernel)
theorem ql_M_193 : Cond.methodLink "WinterTellersModel" 193 y_M_bounded ∈ mj_TT := mj_tt (List.mem_of_getElem? (i := 1509) (by decide +kernel)) (by decide +kernel)
theorem ql_M_197 : Cond.methodLink "WinterTellersModel" 197 y_M_worked ∈ mj_TT := mj_tt (List.mem_of_getElem? (i := 1506) (by decide +kernel)) (by decide +kernel)
theorem ql_M_201 : Cond.methodLink "WinterTellersModel" 201 y_M_workOut ∈ mj_TT := mj_tt (List.mem_of_getElem? (i := 1502) (by decide +kernel)) (by decide +kernel)
theorem ql_M_205 : Cond.methodLink "WinterTellersModel" 205 y_M_in ∈ mj_TT := mj_tt (List.mem_of_getElem? (i := 1365) (by decide +kernel)) (by decide +kernel)
theorem ql_M_209 : Cond.methodLink "WinterTellersModel" 209 y_M_usual ∈ mj_TT := mj_tt (List.mem_of_getElem? (i := 1330) (by decide +kernel)) (by decide +kernel)
theorem ql_M_213 : Cond.methodLink "WinterTellersModel" 213 y_M_itemOf ∈ mj_TT := mj_tt (List.mem_of_getElem? (i := 1345) (by decide +kernel)) (by decide +kernel)
theorem ql_M_216 : Cond.methodLink "WinterTellersModel" 216 y_M_has ∈ mj_TT := mj_tt (List.mem_of_getElem? (i := 1348) (by decide +kernel)) (by decide +kernel)
theorem ql_M_220 : Cond.methodLink "WinterTellersModel" 220 y_M_highest ∈ mj_TT := mj_tt (List.mem_of_getElem? (i := 1351) (by decide +kernel)) (by decide +kernel)
theorem ql_M_223 : Cond.methodLink "WinterTellersModel" 223 y_M_number ∈ mj_TT := mj_tt (List.mem_of_getElem? (i := 1354) (by decide +kernel)) (by decide +kernel)
theorem ql_M_232 : Cond.methodLink "WinterTellersModel" 232 y_M_items ∈ mj_TT := mj_tt (List.mem_of_getElem? (i := 1341) (by decide +kernel)) (by decide +kernel)
theorem ql_M_236 : Cond.methodLink "WinterTellersModel" 236 y_M_readCoast ∈ mj_TT := mj_tt (List.mem_of_getElem? (i := 1326) (by decide +kernel)) (by decide +kernel)
theorem ql_M_239 : Cond.methodLink "WinterTellersModel" 239 y_M_readLaw ∈ mj_TT := mj_tt (List.mem_of_getElem? (i := 1368) (by decide +kernel)) (by decide +kernel)
theorem ql_M_248 : Cond.methodLink "WinterTellersModel" 248 y_M_ofTale ∈ mj_TT := mj_tt (List.mem_of_getElem? (i := 1446) (by decide +kernel)) (by decide +kernel)
theorem ql_M_251 : Cond.methodLink "WinterTellersModel" 251 y_M_ofHouse ∈ mj_TT := mj_tt (List.mem_of_getElem? (i := 1450) (by decide +kernel)) (by decide +kernel)
theorem ql_M_264 : Cond.methodLink "WinterTellersModel" 264 y_M_takeCoast ∈ mj_TT := mj_tt (List.mem_of_getElem? (i := 1442) (by decide +kernel)) (by decide +kernel)
theorem ql_M_270 : Cond.methodLink "WinterTellersModel" 270 y_M_worthOf ∈ mj_TT := mj_tt (List.mem_of_getElem? (i := 1498) (by decide +kernel)) (by decide +kernel)
theorem ql_M_277 : Cond.methodLink "WinterTellersModel" 277 y_M_heardOf ∈ mj_TT := mj_tt (List.mem_of_getElem? (i := 1466) (by decide +kernel)) (by decide +kernel)
theorem ql_M_280 : Cond.methodLink "WinterTellersModel" 280 y_M_nightsBy ∈ mj_TT := mj_tt (List.mem_of_getElem? (i := 1494) (by decide +kernel)) (by decide +kernel)
theorem ql_M_284 : Cond.methodLink "WinterTellersModel" 284 y_M_nightsNow ∈ mj_TT := mj_tt (List.mem_of_getElem? (i := 1490) (by decide +kernel)) (by decide +kernel)
theorem ql_M_290 : Cond.methodLink "WinterTellersModel" 290 y_M_farTo ∈ mj_TT := mj_tt (List.mem_of_getElem? (i := 1562) (by decide +kernel)) (by decide +kernel)
theorem ql_M_293 : Cond.methodLink "WinterTellersModel" 293 y_M_tellNow ∈ mj_TT := mj_tt (List.mem_of_getElem? (i := 1550) (by decide +kernel)) (by decide +kernel)
theorem ql_M_296 : Cond.methodLink "WinterTellersModel" 296 y_M_noteTelling ∈ mj_TT := mj_tt (List.mem_of_getElem? (i := 1554) (by decide +kernel)) (by decide +kernel)
theorem ql_M_300 : Cond.methodLink "WinterTellersModel" 300 y_M_isHouse ∈ mj_TT := mj_tt (List.mem_of_getElem? (i := 1458) (by decide +kernel)) (by decide +kernel)
theorem ql_M_303 : Cond.methodLink "WinterTellersModel" 303 y_M_heardSet ∈ mj_TT := mj_tt (List.mem_of_getElem? (i := 1462) (by decide +kernel)) (by decide +kernel)
theorem ql_M_306 : Cond.methodLink "WinterTellersModel" 306 y_M_isTale ∈ mj_TT := mj_tt (List.mem_of_getElem? (i := 1474) (by decide +kernel)) (by decide +kernel)
theorem ql_M_309 : Cond.methodLink "WinterTellersModel" 309 y_M_owns ∈ mj_TT := mj_tt (List.mem_of_getElem? (i := 1478) (by decide +kernel)) (by decide +kernel)
theorem ql_M_312 : Cond.methodLink "WinterTellersModel" 312 y_M_isLate ∈ mj_TT := mj_tt (List.mem_of_getElem? (i := 1534) (by decide +kernel)) (by decide +kernel)
theorem ql_M_315 : Cond.methodLink "WinterTellersModel" 315 y_M_isTooLong ∈ mj_TT := mj_tt (List.mem_of_getElem? (i := 1530) (by decide +kernel)) (by decide +kernel)
theorem ql_M_318 : Cond.methodLink "WinterTellersModel" 318 y_M_isRefused ∈ mj_TT := mj_tt (List.mem_of_getElem? (i := 1538) (by decide +kernel)) (by decide +kernel)
theorem ql_M_321 : Cond.methodLink "WinterTellersModel" 321 y_M_keep ∈ mj_TT := mj_tt (List.mem_of_getElem? (i := 1542) (by decide +kernel)) (by decide +kernel)
theorem ql_M_324 : Cond.methodLink "WinterTellersModel" 324 y_M_tellLogged ∈ mj_TT := mj_tt (List.mem_of_getElem? (i := 1546) (by decide +kernel)) (by decide +kernel)
theorem ql_M_327 : Cond.methodLink "WinterTellersModel" 327 y_M_goNow ∈ mj_TT := mj_tt (List.mem_of_getElem? (i := 1567) (by decide +kernel)) (by decide +kernel)
theorem ql_M_330 : Cond.methodLink "WinterTellersModel" 330 y_Integer_bitCount ∈ mj_TT := mj_tt (List.mem_of_getElem? (i := 1575) (by decide +kernel)) (by decide +kernel)
theorem ql_M_343 : Cond.methodLink "WinterTellersModel" 343 y_M_draw ∈ mj_TT := mj_tt (List.mem_of_getElem? (i := 1600) (by decide +kernel)) (by decide +kernel)
theorem ql_M_346 : Cond.methodLink "WinterTellersModel" 346 y_M_drawRound ∈ mj_TT := mj_tt (List.mem_of_getElem? (i := 1596) (by decide +kernel)) (by decide +kernel)
theorem ql_M_349 : Cond.methodLink "WinterTellersModel" 349 y_M_bestIn ∈ mj_TT := mj_tt (List.mem_of_getElem? (i := 1622) (by decide +kernel)) (by decide +kernel)
theorem ql_M_358 : Cond.methodLink "WinterTellersModel" 358 y_M_putAside ∈ mj_TT := mj_tt (List.mem_of_getElem? (i := 1634) (by decide +kernel)) (by decide +kernel)
theorem ql_M_361 : Cond.methodLink "WinterTellersModel" 361 y_M_tryTwo ∈ mj_TT := mj_tt (List.mem_of_getElem? (i := 1630) (by decide +kernel)) (by decide +kernel)
theorem ql_M_364 : Cond.methodLink "WinterTellersModel" 364 y_M_takeBack ∈ mj_TT := mj_tt (List.mem_of_getElem? (i := 1638) (by decide +kernel)) (by decide +kernel)
theorem ql_M_367 : Cond.methodLink "WinterTellersModel" 367 y_M_tryPlaces ∈ mj_TT := mj_tt (List.mem_of_getElem? (i := 1646) (by decide +kernel)) (by decide +kernel)
theorem ql_M_371 : Cond.methodLink "WinterTellersModel" 371 y_M_whereOf ∈ mj_TT := mj_tt (List.mem_of_getElem? (i := 1654) (by decide +kernel)) (by decide +kernel)
theorem ql_M_374 : Cond.methodLink "WinterTellersModel" 374 y_M_toldNights ∈ mj_TT := mj_tt (List.mem_of_getElem? (i := 1674) (by decide +kernel)) (by decide +kernel)
theorem ql_M_377 : Cond.methodLink "WinterTellersModel" 377 y_M_isTold ∈ mj_TT := mj_tt (List.mem_of_getElem? (i := 1670) (by decide +kernel)) (by decide +kernel)
theorem ql_M_380 : Cond.methodLink "WinterTellersModel" 380 y_M_told ∈ mj_TT := mj_tt (List.mem_of_getElem? (i := 1682) (by decide +kernel)) (by decide +kernel)
theorem ql_M_384 : Cond.methodLink "WinterTellersModel" 384 y_M_gameOf ∈ mj_TT := mj_tt (List.mem_of_getElem? (i := 1688) (by decide +kernel)) (by decide +kernel)
theorem ql_M_387 : Cond.methodLink "WinterTellersModel" 387 y_M_isRest ∈ mj_TT := mj_tt (List.mem_of_getElem? (i := 1696) (by decide +kernel)) (by decide +kernel)
theorem ql_M_399 : Cond.methodLink "WinterTellersModel" 399 y_M_tellBest ∈ mj_TT := mj_tt (List.mem_of_getElem? (i := 1722) (by decide +kernel)) (by decide +kernel)
theorem ql_M_402 : Cond.methodLink "WinterTellersModel" 402 y_M_stepsTo ∈ mj_TT := mj_tt (List.mem_of_getElem? (i := 1726) (by decide +kernel)) (by decide +kernel)
theorem ql_M_405 : Cond.methodLink "WinterTellersModel" 405 y_M_nightsOfAll ∈ mj_TT := mj_tt (List.mem_of_getElem? (i := 1742) (by decide +kernel)) (by decide +kernel)
theorem ql_M_408 : Cond.methodLink "WinterTellersModel" 408 y_M_topTale ∈ mj_TT := mj_tt (List.mem_of_getElem? (i := 1734) (by decide +kernel)) (by decide +kernel)
theorem ql_M_412 : Cond.methodLink "WinterTellersModel" 412 y_M_topHouse ∈ mj_TT := mj_tt (List.mem_of_getElem? (i := 1738) (by decide +kernel)) (by decide +kernel)
theorem ql_M_415 : Cond.methodLink "WinterTellersModel" 415 y_M_trueOnes ∈ mj_TT := mj_tt (List.mem_of_getElem? (i := 1746) (by decide +kernel)) (by decide +kernel)
theorem ql_M_418 : Cond.methodLink "WinterTellersModel" 418 y_M_commonOnes ∈ mj_TT := mj_tt (List.mem_of_getElem? (i := 1750) (by decide +kernel)) (by decide +kernel)
theorem ql_M_421 : Cond.methodLink "WinterTellersModel" 421 y_M_overAll ∈ mj_TT := mj_tt (List.mem_of_getElem? (i := 1754) (by decide +kernel)) (by decide +kernel)
theorem ql_M_93 : Cond.methodLink "WinterTellersModel" 93 y_M_byteOf ∈ mj_TT := mj_tt (List.mem_of_getElem? (i := 1315) (by decide +kernel)) (by decide +kernel)
theorem ql_Past_32 : Cond.methodLink "WinterTellers$Past" 32 y_Stand_save ∈ mj_TT := mj_tt (List.mem_of_getElem? (i := 727) (by decide +kernel)) (by decide +kernel)
theorem ql_Past_42 : Cond.methodLink "WinterTellers$Past" 42 y_Stand_load ∈ mj_TT := mj_tt (List.mem_of_getElem? (i := 823) (by decide +kernel)) (by decide +kernel)
theorem ql_Plans_102 : Cond.methodLink "WinterTellers$Plans" 102 y_Plans_digitsOf ∈ mj_TT := mj_tt (List.mem_of_getElem? (i := 878) (by decide +kernel)) (by decide +kernel)
theorem ql_Plans_105 : Cond.methodLink "WinterTellers$Plans" 105 y_Arrays_fill ∈ mj_TT := mj_tt (List.mem_of_getElem? (i := 889) (by decide +kernel)) (by decide +kernel)
theorem ql_Plans_111 : Cond.methodLink "WinterTellers$Plans" 111 y_Coast_allTales ∈ mj_TT := mj_tt (List.mem_of_getElem? (i := 890) (by decide +kernel)) (by decide +kernel)
theorem ql_Plans_115 : Cond.methodLink "WinterTellers$Plans" 115 y_Plans_placeFor ∈ mj_TT := mj_tt (List.mem_of_getElem? (i := 891) (by decide +kernel)) (by decide +kernel)
theorem ql_Plans_118 : Cond.methodLink "WinterTellers$Plans" 118 y_Plans_nightsBy ∈ mj_TT := mj_tt (List.mem_of_getElem? (i := 895) (by decide +kernel)) (by decide +kernel)
theorem ql_Plans_122 : Cond.methodLink "WinterTellers$Plans" 122 y_Plans_with ∈ mj_TT := mj_tt (List.mem_of_getElem? (i := 899) (by decide +kernel)) (by decide +kernel)
theorem ql_Plans_125 : Cond.methodLink "WinterTellers$Plans" 125 y_Integer_bitCount ∈ mj_TT := mj_tt (List.mem_of_getElem? (i := 910) (by decide +kernel)) (by decide +kernel)
theorem ql_Plans_130 : Cond.methodLink "WinterTellers$Plans" 130 y_Plans_servesAll ∈ mj_TT := mj_tt (List.mem_of_getElem? (i := 911) (by decide +kernel)) (by decide +kernel)
theorem ql_Plans_134 : Cond.methodLink "WinterTellers$Plans" 134 y_Plans_serves ∈ mj_TT := mj_tt (List.mem_of_getElem? (i := 915) (by decide +kernel)) (by decide +kernel)
theorem ql_Plans_138 : Cond.methodLink "WinterTellers$Plans" 138 y_Plans_nightsIn ∈ mj_TT := mj_tt (List.mem_of_getElem? (i := 1050) (by decide +kernel)) (by decide +kernel)
theorem ql_Plans_162 : Cond.methodLink "WinterTellers$Plans" 162 y_Plans_tellBestOnRound ∈ mj_TT := mj_tt (List.mem_of_getElem? (i := 1033) (by decide +kernel)) (by decide +kernel)
theorem ql_Plans_166 : Cond.methodLink "WinterTellers$Plans" 166 y_Plans_findBest ∈ mj_TT := mj_tt (List.mem_of_getElem? (i := 1037) (by decide +kernel)) (by decide +kernel)
theorem ql_Plans_170 : Cond.methodLink "WinterTellers$Plans" 170 y_Stand_heardOnceMore ∈ mj_TT := mj_tt (List.mem_of_getElem? (i := 1038) (by decide +kernel)) (by decide +kernel)
theorem ql_Plans_48 : Cond.methodLink "WinterTellers$Plans" 48 y_Stand_owns ∈ mj_TT := mj_tt (List.mem_of_getElem? (i := 847) (by decide +kernel)) (by decide +kernel)
theorem ql_Plans_57 : Cond.methodLink "WinterTellers$Plans" 57 y_Stays_by ∈ mj_TT := mj_tt (List.mem_of_getElem? (i := 848) (by decide +kernel)) (by decide +kernel)
theorem ql_Plans_66 : Cond.methodLink "WinterTellers$Plans" 66 y_Stays_now ∈ mj_TT := mj_tt (List.mem_of_getElem? (i := 861) (by decide +kernel)) (by decide +kernel)
theorem ql_Plans_75 : Cond.methodLink "WinterTellers$Plans" 75 y_Plans_weighAll ∈ mj_TT := mj_tt (List.mem_of_getElem? (i := 857) (by decide +kernel)) (by decide +kernel)
theorem ql_Plans_78 : Cond.methodLink "WinterTellers$Plans" 78 y_Stand_farTo ∈ mj_TT := mj_tt (List.mem_of_getElem? (i := 862) (by decide +kernel)) (by decide +kernel)
theorem ql_Plans_85 : Cond.methodLink "WinterTellers$Plans" 85 y_Stays_onceMore ∈ mj_TT := mj_tt (List.mem_of_getElem? (i := 863) (by decide +kernel)) (by decide +kernel)
theorem ql_Plans_87 : Cond.methodLink "WinterTellers$Plans" 87 y_Plans_trySecondsBehind ∈ mj_TT := mj_tt (List.mem_of_getElem? (i := 868) (by decide +kernel)) (by decide +kernel)
theorem ql_Plans_91 : Cond.methodLink "WinterTellers$Plans" 91 y_Stand_breadAfter ∈ mj_TT := mj_tt (List.mem_of_getElem? (i := 872) (by decide +kernel)) (by decide +kernel)
theorem ql_Plans_99 : Cond.methodLink "WinterTellers$Plans" 99 y_Plans_trySecondsIn ∈ mj_TT := mj_tt (List.mem_of_getElem? (i := 874) (by decide +kernel)) (by decide +kernel)
theorem ql_Stand_33 : Cond.methodLink "WinterTellers$Stand" 33 y_Coast_allTales ∈ mj_TT := mj_tt (List.mem_of_getElem? (i := 612) (by decide +kernel)) (by decide +kernel)
theorem ql_Stand_61 : Cond.methodLink "WinterTellers$Stand" 61 y_Arrays_fill ∈ mj_TT := mj_tt (List.mem_of_getElem? (i := 617) (by decide +kernel)) (by decide +kernel)
theorem ql_Stand_73 : Cond.methodLink "WinterTellers$Stand" 73 y_Coast_knows ∈ mj_TT := mj_tt (List.mem_of_getElem? (i := 620) (by decide +kernel)) (by decide +kernel)
theorem ql_Stand_90 : Cond.methodLink "WinterTellers$Stand" 90 y_Stand_farTo ∈ mj_TT := mj_tt (List.mem_of_getElem? (i := 759) (by decide +kernel)) (by decide +kernel)
theorem ql_Stand_93 : Cond.methodLink "WinterTellers$Stand" 93 y_Stand_heardOnceMore ∈ mj_TT := mj_tt (List.mem_of_getElem? (i := 736) (by decide +kernel)) (by decide +kernel)
theorem ql_Stand_96 : Cond.methodLink "WinterTellers$Stand" 96 y_Stand_daysOf ∈ mj_TT := mj_tt (List.mem_of_getElem? (i := 740) (by decide +kernel)) (by decide +kernel)
theorem ql_Stand_99 : Cond.methodLink "WinterTellers$Stand" 99 y_Stand_breadAfter ∈ mj_TT := mj_tt (List.mem_of_getElem? (i := 741) (by decide +kernel)) (by decide +kernel)
theorem ql_Stays_32 : Cond.methodLink "WinterTellers$Stays" 32 y_Stays_by ∈ mj_TT := mj_tt (List.mem_of_getElem? (i := 666) (by decide +kernel)) (by decide +kernel)
theorem ql_Stays_36 : Cond.methodLink "WinterTellers$Stays" 36 y_Stand_heardOnceMore ∈ mj_TT := mj_tt (List.mem_of_getElem? (i := 867) (by decide +kernel)) (by decide +kernel)
theorem ql_Stays_40 : Cond.methodLink "WinterTellers$Stays" 40 y_Coast_knows ∈ mj_TT := mj_tt (List.mem_of_getElem? (i := 943) (by decide +kernel)) (by decide +kernel)
theorem ql_Stays_68 : Cond.methodLink "WinterTellers$Stays" 68 y_Stays_worthWithoutLaw ∈ mj_TT := mj_tt (List.mem_of_getElem? (i := 670) (by decide +kernel)) (by decide +kernel)
theorem ql_Stays_71 : Cond.methodLink "WinterTellers$Stays" 71 y_Laws_worth ∈ mj_TT := mj_tt (List.mem_of_getElem? (i := 674) (by decide +kernel)) (by decide +kernel)
theorem ql_Tape_25 : Cond.methodLink "WinterTellers$Tape" 25 y_Tape_skipBlanks ∈ mj_TT := mj_tt (List.mem_of_getElem? (i := 488) (by decide +kernel)) (by decide +kernel)
theorem ql_Tape_28 : Cond.methodLink "WinterTellers$Tape" 28 y_Tape_peek ∈ mj_TT := mj_tt (List.mem_of_getElem? (i := 531) (by decide +kernel)) (by decide +kernel)
theorem ql_Tape_32 : Cond.methodLink "WinterTellers$Tape" 32 y_Tape_fail ∈ mj_TT := mj_tt (List.mem_of_getElem? (i := 514) (by decide +kernel)) (by decide +kernel)
theorem ql_Tape_36 : Cond.methodLink "WinterTellers$Tape" 36 y_Tape_atDigit ∈ mj_TT := mj_tt (List.mem_of_getElem? (i := 510) (by decide +kernel)) (by decide +kernel)
theorem ql_W_102 : Cond.methodLink "WinterTellers" 102 y_Tape_signsOf ∈ mj_TT := mj_tt (List.mem_of_getElem? (i := 444) (by decide +kernel)) (by decide +kernel)
theorem ql_W_109 : Cond.methodLink "WinterTellers" 109 y_Tape_add ∈ mj_TT := mj_tt (List.mem_of_getElem? (i := 447) (by decide +kernel)) (by decide +kernel)
theorem ql_W_113 : Cond.methodLink "WinterTellers" 113 y_CoastReader_read ∈ mj_TT := mj_tt (List.mem_of_getElem? (i := 459) (by decide +kernel)) (by decide +kernel)
theorem ql_W_117 : Cond.methodLink "WinterTellers" 117 y_LawReader_read ∈ mj_TT := mj_tt (List.mem_of_getElem? (i := 536) (by decide +kernel)) (by decide +kernel)
theorem ql_W_118 : Cond.methodLink "WinterTellers" 118 y_W_takeCoast ∈ mj_TT := mj_tt (List.mem_of_getElem? (i := 599) (by decide +kernel)) (by decide +kernel)
theorem ql_W_131 : Cond.methodLink "WinterTellers" 131 y_Laws_add ∈ mj_TT := mj_tt (List.mem_of_getElem? (i := 628) (by decide +kernel)) (by decide +kernel)
theorem ql_W_137 : Cond.methodLink "WinterTellers" 137 y_Coast_become ∈ mj_TT := mj_tt (List.mem_of_getElem? (i := 603) (by decide +kernel)) (by decide +kernel)
theorem ql_W_141 : Cond.methodLink "WinterTellers" 141 y_Stand_begin ∈ mj_TT := mj_tt (List.mem_of_getElem? (i := 608) (by decide +kernel)) (by decide +kernel)
theorem ql_W_144 : Cond.methodLink "WinterTellers" 144 y_Past_forget ∈ mj_TT := mj_tt (List.mem_of_getElem? (i := 624) (by decide +kernel)) (by decide +kernel)
theorem ql_W_150 : Cond.methodLink "WinterTellers" 150 y_Coast_hasHouse ∈ mj_TT := mj_tt (List.mem_of_getElem? (i := 637) (by decide +kernel)) (by decide +kernel)
theorem ql_W_154 : Cond.methodLink "WinterTellers" 154 y_Stand_heardBits ∈ mj_TT := mj_tt (List.mem_of_getElem? (i := 641) (by decide +kernel)) (by decide +kernel)
theorem ql_W_163 : Cond.methodLink "WinterTellers" 163 y_Coast_hasTale ∈ mj_TT := mj_tt (List.mem_of_getElem? (i := 706) (by decide +kernel)) (by decide +kernel)
theorem ql_W_178 : Cond.methodLink "WinterTellers" 178 y_Stand_owns ∈ mj_TT := mj_tt (List.mem_of_getElem? (i := 711) (by decide +kernel)) (by decide +kernel)
theorem ql_W_181 : Cond.methodLink "WinterTellers" 181 y_Coast_hasBoth ∈ mj_TT := mj_tt (List.mem_of_getElem? (i := 649) (by decide +kernel)) (by decide +kernel)
theorem ql_W_188 : Cond.methodLink "WinterTellers" 188 y_Stays_now ∈ mj_TT := mj_tt (List.mem_of_getElem? (i := 662) (by decide +kernel)) (by decide +kernel)
theorem ql_W_195 : Cond.methodLink "WinterTellers" 195 y_W_refuse ∈ mj_TT := mj_tt (List.mem_of_getElem? (i := 707) (by decide +kernel)) (by decide +kernel)
theorem ql_W_201 : Cond.methodLink "WinterTellers" 201 y_Stand_daysOf ∈ mj_TT := mj_tt (List.mem_of_getElem? (i := 715) (by decide +kernel)) (by decide +kernel)
theorem ql_W_204 : Cond.methodLink "WinterTellers" 204 y_Stand_hasDays ∈ mj_TT := mj_tt (List.mem_of_getElem? (i := 719) (by decide +kernel)) (by decide +kernel)
theorem ql_W_207 : Cond.methodLink "WinterTellers" 207 y_Past_keep ∈ mj_TT := mj_tt (List.mem_of_getElem? (i := 723) (by decide +kernel)) (by decide +kernel)
theorem ql_W_211 : Cond.methodLink "WinterTellers" 211 y_Stand_tellHere ∈ mj_TT := mj_tt (List.mem_of_getElem? (i := 732) (by decide +kernel)) (by decide +kernel)
theorem ql_W_215 : Cond.methodLink "WinterTellers" 215 y_Stand_farTo ∈ mj_TT := mj_tt (List.mem_of_getElem? (i := 748) (by decide +kernel)) (by decide +kernel)
theorem ql_W_221 : Cond.methodLink "WinterTellers" 221 y_Stand_walkTo ∈ mj_TT := mj_tt (List.mem_of_getElem? (i := 755) (by decide +kernel)) (by decide +kernel)
theorem ql_W_230 : Cond.methodLink "WinterTellers" 230 y_Integer_bitCount ∈ mj_TT := mj_tt (List.mem_of_getElem? (i := 764) (by decide +kernel)) (by decide +kernel)
theorem ql_W_235 : Cond.methodLink "WinterTellers" 235 y_Coast_isTold ∈ mj_TT := mj_tt (List.mem_of_getElem? (i := 778) (by decide +kernel)) (by decide +kernel)
theorem ql_W_239 : Cond.methodLink "WinterTellers" 239 y_W_turned ∈ mj_TT := mj_tt (List.mem_of_getElem? (i := 794) (by decide +kernel)) (by decide +kernel)
theorem ql_W_243 : Cond.methodLink "WinterTellers" 243 y_W_drawn ∈ mj_TT := mj_tt (List.mem_of_getElem? (i := 799) (by decide +kernel)) (by decide +kernel)
theorem ql_W_247 : Cond.methodLink "WinterTellers" 247 y_W_walkIfHeCan ∈ mj_TT := mj_tt (List.mem_of_getElem? (i := 802) (by decide +kernel)) (by decide +kernel)
theorem ql_W_253 : Cond.methodLink "WinterTellers" 253 y_W_tellIfHeCan ∈ mj_TT := mj_tt (List.mem_of_getElem? (i := 806) (by decide +kernel)) (by decide +kernel)
theorem ql_W_268 : Cond.methodLink "WinterTellers" 268 y_Past_takeBack ∈ mj_TT := mj_tt (List.mem_of_getElem? (i := 819) (by decide +kernel)) (by decide +kernel)
theorem ql_W_271 : Cond.methodLink "WinterTellers" 271 y_Stand_logSize ∈ mj_TT := mj_tt (List.mem_of_getElem? (i := 831) (by decide +kernel)) (by decide +kernel)
theorem ql_W_274 : Cond.methodLink "WinterTellers" 274 y_Stand_telling ∈ mj_TT := mj_tt (List.mem_of_getElem? (i := 835) (by decide +kernel)) (by decide +kernel)
theorem ql_W_277 : Cond.methodLink "WinterTellers" 277 y_Plans_findBest ∈ mj_TT := mj_tt (List.mem_of_getElem? (i := 843) (by decide +kernel)) (by decide +kernel)
theorem ql_W_287 : Cond.methodLink "WinterTellers" 287 y_Plans_findTwo ∈ mj_TT := mj_tt (List.mem_of_getElem? (i := 853) (by decide +kernel)) (by decide +kernel)
theorem ql_W_296 : Cond.methodLink "WinterTellers" 296 y_Plans_findPlaces ∈ mj_TT := mj_tt (List.mem_of_getElem? (i := 885) (by decide +kernel)) (by decide +kernel)
theorem ql_W_299 : Cond.methodLink "WinterTellers" 299 y_Plans_fewestFor ∈ mj_TT := mj_tt (List.mem_of_getElem? (i := 906) (by decide +kernel)) (by decide +kernel)
theorem ql_W_302 : Cond.methodLink "WinterTellers" 302 y_Guess_add ∈ mj_TT := mj_tt (List.mem_of_getElem? (i := 923) (by decide +kernel)) (by decide +kernel)
theorem ql_W_305 : Cond.methodLink "WinterTellers" 305 y_Guess_fitting ∈ mj_TT := mj_tt (List.mem_of_getElem? (i := 931) (by decide +kernel)) (by decide +kernel)
theorem ql_W_308 : Cond.methodLink "WinterTellers" 308 y_Guess_bitAt ∈ mj_TT := mj_tt (List.mem_of_getElem? (i := 944) (by decide +kernel)) (by decide +kernel)
theorem ql_W_311 : Cond.methodLink "WinterTellers" 311 y_Guess_houseToAsk ∈ mj_TT := mj_tt (List.mem_of_getElem? (i := 951) (by decide +kernel)) (by decide +kernel)
theorem ql_W_315 : Cond.methodLink "WinterTellers" 315 y_Duel_standIn ∈ mj_TT := mj_tt (List.mem_of_getElem? (i := 965) (by decide +kernel)) (by decide +kernel)
theorem ql_W_318 : Cond.methodLink "WinterTellers" 318 y_Duel_firstHas ∈ mj_TT := mj_tt (List.mem_of_getElem? (i := 972) (by decide +kernel)) (by decide +kernel)
theorem ql_W_321 : Cond.methodLink "WinterTellers" 321 y_Duel_secondHas ∈ mj_TT := mj_tt (List.mem_of_getElem? (i := 984) (by decide +kernel)) (by decide +kernel)
theorem ql_W_324 : Cond.methodLink "WinterTellers" 324 y_Duel_quietPair ∈ mj_TT := mj_tt (List.mem_of_getElem? (i := 992) (by decide +kernel)) (by decide +kernel)
theorem ql_W_331 : Cond.methodLink "WinterTellers" 331 y_Plans_goRound ∈ mj_TT := mj_tt (List.mem_of_getElem? (i := 1028) (by decide +kernel)) (by decide +kernel)
theorem ql_W_343 : Cond.methodLink "WinterTellers" 343 y_W_highest ∈ mj_TT := mj_tt (List.mem_of_getElem? (i := 1043) (by decide +kernel)) (by decide +kernel)
theorem ql_W_347 : Cond.methodLink "WinterTellers" 347 y_Plans_dullest ∈ mj_TT := mj_tt (List.mem_of_getElem? (i := 1046) (by decide +kernel)) (by decide +kernel)
theorem ql_W_350 : Cond.methodLink "WinterTellers" 350 y_Coast_trueBits ∈ mj_TT := mj_tt (List.mem_of_getElem? (i := 1054) (by decide +kernel)) (by decide +kernel)
theorem ql_W_353 : Cond.methodLink "WinterTellers" 353 y_W_commonBits ∈ mj_TT := mj_tt (List.mem_of_getElem? (i := 1058) (by decide +kernel)) (by decide +kernel)
theorem ql_W_356 : Cond.methodLink "WinterTellers" 356 y_Plans_allNights ∈ mj_TT := mj_tt (List.mem_of_getElem? (i := 1063) (by decide +kernel)) (by decide +kernel)
theorem ql_W_359 : Cond.methodLink "WinterTellers" 359 y_Plans_holdingHouses ∈ mj_TT := mj_tt (List.mem_of_getElem? (i := 1067) (by decide +kernel)) (by decide +kernel)
theorem ql_W_362 : Cond.methodLink "WinterTellers" 362 y_Coast_allTales ∈ mj_TT := mj_tt (List.mem_of_getElem? (i := 1062) (by decide +kernel)) (by decide +kernel)
theorem ql_W_365 : Cond.methodLink "WinterTellers" 365 y_Past_keepImage ∈ mj_TT := mj_tt (List.mem_of_getElem? (i := 1075) (by decide +kernel)) (by decide +kernel)
theorem ql_W_372 : Cond.methodLink "WinterTellers" 372 y_Past_takeImage ∈ mj_TT := mj_tt (List.mem_of_getElem? (i := 1084) (by decide +kernel)) (by decide +kernel)
theorem ql_W_375 : Cond.methodLink "WinterTellers" 375 y_W_countOfStand ∈ mj_TT := mj_tt (List.mem_of_getElem? (i := 1092) (by decide +kernel)) (by decide +kernel)
theorem qm_CoastReader_91 : Cond.methodLink "WinterTellers$CoastReader" 91 arraycopyName ∈ mj_TT := mj_tt (List.mem_of_getElem? (i := 473) (by decide +kernel)) (by decide +kernel)
theorem qm_Coast_56 : Cond.methodLink "WinterTellers$Coast" 56 arraycopyName ∈ mj_TT := mj_tt (List.mem_of_getElem? (i := 607) (by decide +kernel)) (by decide +kernel)
theorem qm_Guess_55 : Cond.methodLink "WinterTellers$Guess" 55 Lib.Math.abs.name ∈ mj_TT := mj_tt (List.mem_of_getElem? (i := 959) (by decide +kernel)) (by decide +kernel)
theorem qm_Laws_33 : Cond.methodLink "WinterTellers$Laws" 33 arraycopyName ∈ mj_TT := mj_tt (List.mem_of_getElem? (i := 632) (by decide +kernel)) (by decide +kernel)
theorem qm_M_184 : Cond.methodLink "WinterTellersModel" 184 Lib.MathLoose.min_long.x ∈ mj_TT := mj_tt (List.mem_of_getElem? (i := 1514) (by decide +kernel)) (by decide +kernel)
theorem qm_M_190 : Cond.methodLink "WinterTellersModel" 190 Lib.MathLoose.max_long.x ∈ mj_TT := mj_tt (List.mem_of_getElem? (i := 1517) (by decide +kernel)) (by decide +kernel)
theorem qm_M_273 : Cond.methodLink "WinterTellersModel" 273 Lib.Math.min.name ∈ mj_TT := mj_tt (List.mem_of_getElem? (i := 1520) (by decide +kernel)) (by decide +kernel)
theorem qm_M_275 : Cond.methodLink "WinterTellersModel" 275 Lib.Math.max.name ∈ mj_TT := mj_tt (List.mem_of_getElem? (i := 1521) (by decide +kernel)) (by decide +kernel)
theorem qm_M_287 : Cond.methodLink "WinterTellersModel" 287 Lib.Math.abs.name ∈ mj_TT := mj_tt (List.mem_of_getElem? (i := 1566) (by decide +kernel)) (by decide +kernel)
theorem qm_Past_36 : Cond.methodLink "WinterTellers$Past" 36 Lib.Math.min.name ∈ mj_TT := mj_tt (List.mem_of_getElem? (i := 731) (by decide +kernel)) (by decide +kernel)
theorem qm_Past_48 : Cond.methodLink "WinterTellers$Past" 48 arraycopyName ∈ mj_TT := mj_tt (List.mem_of_getElem? (i := 1079) (by decide +kernel)) (by decide +kernel)
theorem qm_Plans_153 : Cond.methodLink "WinterTellers$Plans" 153 arraycopyName ∈ mj_TT := mj_tt (List.mem_of_getElem? (i := 1032) (by decide +kernel)) (by decide +kernel)
theorem qm_Plans_94 : Cond.methodLink "WinterTellers$Plans" 94 Lib.Math.abs.name ∈ mj_TT := mj_tt (List.mem_of_getElem? (i := 873) (by decide +kernel)) (by decide +kernel)
theorem qm_Stand_55 : Cond.methodLink "WinterTellers$Stand" 55 arraycopyName ∈ mj_TT := mj_tt (List.mem_of_getElem? (i := 616) (by decide +kernel)) (by decide +kernel)
theorem qm_Stand_77 : Cond.methodLink "WinterTellers$Stand" 77 Lib.Math.abs.name ∈ mj_TT := mj_tt (List.mem_of_getElem? (i := 752) (by decide +kernel)) (by decide +kernel)
theorem qm_Stand_83 : Cond.methodLink "WinterTellers$Stand" 83 Lib.Math.min.name ∈ mj_TT := mj_tt (List.mem_of_getElem? (i := 739) (by decide +kernel)) (by decide +kernel)
theorem qm_Stand_87 : Cond.methodLink "WinterTellers$Stand" 87 Lib.Math.max.name ∈ mj_TT := mj_tt (List.mem_of_getElem? (i := 718) (by decide +kernel)) (by decide +kernel)
theorem qm_Stays_75 : Cond.methodLink "WinterTellers$Stays" 75 Lib.Math.min.name ∈ mj_TT := mj_tt (List.mem_of_getElem? (i := 692) (by decide +kernel)) (by decide +kernel)
theorem qm_Stays_81 : Cond.methodLink "WinterTellers$Stays" 81 Lib.Math.max.name ∈ mj_TT := mj_tt (List.mem_of_getElem? (i := 695) (by decide +kernel)) (by decide +kernel)
theorem qm_W_256 : Cond.methodLink "WinterTellers" 256 Lib.Math.min.name ∈ mj_TT := mj_tt (List.mem_of_getElem? (i := 810) (by decide +kernel)) (by decide +kernel)
