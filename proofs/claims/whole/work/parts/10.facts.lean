theorem jmh_0 : ("SluicePit" : String) ≠ "java/lang/invoke/MethodHandle" ∧ ("SluicePit" : String) ≠ "java/lang/invoke/VarHandle" := ⟨by decide +kernel, by decide +kernel⟩
theorem jpn_0 : plainName "SluicePit" = true := by decide +kernel
theorem jpd_0 : (parseMethodDescriptor "()V").map (fun d => d.parameters.length) = some 0 := by decide +kernel
theorem jmh_1 : ("SluicePit$Tape" : String) ≠ "java/lang/invoke/MethodHandle" ∧ ("SluicePit$Tape" : String) ≠ "java/lang/invoke/VarHandle" := ⟨by decide +kernel, by decide +kernel⟩
theorem jpn_1 : plainName "SluicePit$Tape" = true := by decide +kernel
theorem jmh_2 : ("SluicePit$Reader" : String) ≠ "java/lang/invoke/MethodHandle" ∧ ("SluicePit$Reader" : String) ≠ "java/lang/invoke/VarHandle" := ⟨by decide +kernel, by decide +kernel⟩
theorem jpn_2 : plainName "SluicePit$Reader" = true := by decide +kernel
theorem jpd_1 : (parseMethodDescriptor "(LSluicePit$Tape;)V").map (fun d => d.parameters.length) = some 1 := by decide +kernel
theorem jmh_3 : ("SluicePit$PartReader" : String) ≠ "java/lang/invoke/MethodHandle" ∧ ("SluicePit$PartReader" : String) ≠ "java/lang/invoke/VarHandle" := ⟨by decide +kernel, by decide +kernel⟩
theorem jpn_3 : plainName "SluicePit$PartReader" = true := by decide +kernel
theorem jpd_2 : (parseMethodDescriptor "(LSluicePit$Reader;)V").map (fun d => d.parameters.length) = some 1 := by decide +kernel
theorem jmh_4 : ("SluicePit$Opera" : String) ≠ "java/lang/invoke/MethodHandle" ∧ ("SluicePit$Opera" : String) ≠ "java/lang/invoke/VarHandle" := ⟨by decide +kernel, by decide +kernel⟩
theorem jpn_4 : plainName "SluicePit$Opera" = true := by decide +kernel
theorem jmh_5 : ("SluicePit$Stand" : String) ≠ "java/lang/invoke/MethodHandle" ∧ ("SluicePit$Stand" : String) ≠ "java/lang/invoke/VarHandle" := ⟨by decide +kernel, by decide +kernel⟩
theorem jpn_5 : plainName "SluicePit$Stand" = true := by decide +kernel
theorem jmh_6 : ("SluicePit$Parts" : String) ≠ "java/lang/invoke/MethodHandle" ∧ ("SluicePit$Parts" : String) ≠ "java/lang/invoke/VarHandle" := ⟨by decide +kernel, by decide +kernel⟩
theorem jpn_6 : plainName "SluicePit$Parts" = true := by decide +kernel
theorem jmh_7 : ("java/util/Arrays" : String) ≠ "java/lang/invoke/MethodHandle" ∧ ("java/util/Arrays" : String) ≠ "java/lang/invoke/VarHandle" := ⟨by decide +kernel, by decide +kernel⟩
theorem jpn_7 : plainName "java/util/Arrays" = true := by decide +kernel
theorem jpd_3 : (parseMethodDescriptor "([II)V").map (fun d => d.parameters.length) = some 2 := by decide +kernel
theorem jmh_8 : ("SluicePit$OperaReader" : String) ≠ "java/lang/invoke/MethodHandle" ∧ ("SluicePit$OperaReader" : String) ≠ "java/lang/invoke/VarHandle" := ⟨by decide +kernel, by decide +kernel⟩
theorem jpn_8 : plainName "SluicePit$OperaReader" = true := by decide +kernel
theorem jpd_4 : (parseMethodDescriptor "(LSluicePit$Reader;LSluicePit$PartReader;LSluicePit$Opera;)V").map (fun d => d.parameters.length) = some 3 := by decide +kernel
theorem jmh_9 : ("SluicePit$Acts" : String) ≠ "java/lang/invoke/MethodHandle" ∧ ("SluicePit$Acts" : String) ≠ "java/lang/invoke/VarHandle" := ⟨by decide +kernel, by decide +kernel⟩
theorem jpn_9 : plainName "SluicePit$Acts" = true := by decide +kernel
theorem jmh_10 : ("SluicePit$Run" : String) ≠ "java/lang/invoke/MethodHandle" ∧ ("SluicePit$Run" : String) ≠ "java/lang/invoke/VarHandle" := ⟨by decide +kernel, by decide +kernel⟩
theorem jpn_10 : plainName "SluicePit$Run" = true := by decide +kernel
theorem jmh_11 : ("SluicePit$Pool" : String) ≠ "java/lang/invoke/MethodHandle" ∧ ("SluicePit$Pool" : String) ≠ "java/lang/invoke/VarHandle" := ⟨by decide +kernel, by decide +kernel⟩
theorem jpn_11 : plainName "SluicePit$Pool" = true := by decide +kernel
theorem jmh_12 : ("SluicePit$Question" : String) ≠ "java/lang/invoke/MethodHandle" ∧ ("SluicePit$Question" : String) ≠ "java/lang/invoke/VarHandle" := ⟨by decide +kernel, by decide +kernel⟩
theorem jpn_12 : plainName "SluicePit$Question" = true := by decide +kernel
theorem jpd_5 : (parseMethodDescriptor "(LSluicePit$Reader;LSluicePit$Run;LSluicePit$Opera;)V").map (fun d => d.parameters.length) = some 3 := by decide +kernel
theorem jpd_6 : (parseMethodDescriptor "(IIIII)I").map (fun d => d.parameters.length) = some 5 := by decide +kernel
theorem jpd_7 : (parseMethodDescriptor "(I)V").map (fun d => d.parameters.length) = some 1 := by decide +kernel
theorem jpd_8 : (parseMethodDescriptor "([III)V").map (fun d => d.parameters.length) = some 3 := by decide +kernel
theorem jpd_9 : (parseMethodDescriptor "(I)Z").map (fun d => d.parameters.length) = some 1 := by decide +kernel
theorem jpd_10 : (parseMethodDescriptor "()I").map (fun d => d.parameters.length) = some 0 := by decide +kernel
theorem jpd_11 : (parseMethodDescriptor "(I)I").map (fun d => d.parameters.length) = some 1 := by decide +kernel
theorem jpd_12 : (parseMethodDescriptor "(LSluicePit$Opera;)Z").map (fun d => d.parameters.length) = some 1 := by decide +kernel
theorem jpd_13 : (parseMethodDescriptor "()Z").map (fun d => d.parameters.length) = some 0 := by decide +kernel
theorem jpd_14 : (parseMethodDescriptor "(Ljava/lang/String;)Z").map (fun d => d.parameters.length) = some 1 := by decide +kernel
theorem jmh_13 : ("java/lang/String" : String) ≠ "java/lang/invoke/MethodHandle" ∧ ("java/lang/String" : String) ≠ "java/lang/invoke/VarHandle" := ⟨by decide +kernel, by decide +kernel⟩
theorem jpn_13 : plainName "java/lang/String" = true := by decide +kernel
theorem jpd_15 : (parseMethodDescriptor "()B").map (fun d => d.parameters.length) = some 0 := by decide +kernel
theorem jpd_16 : (parseMethodDescriptor "(Ljava/lang/String;II)Z").map (fun d => d.parameters.length) = some 3 := by decide +kernel
theorem jpd_17 : (parseMethodDescriptor "([II)I").map (fun d => d.parameters.length) = some 2 := by decide +kernel
theorem jpd_18 : (parseMethodDescriptor "(I)C").map (fun d => d.parameters.length) = some 1 := by decide +kernel
theorem jmh_14 : ("java/lang/StringLatin1" : String) ≠ "java/lang/invoke/MethodHandle" ∧ ("java/lang/StringLatin1" : String) ≠ "java/lang/invoke/VarHandle" := ⟨by decide +kernel, by decide +kernel⟩
theorem jpn_14 : plainName "java/lang/StringLatin1" = true := by decide +kernel
theorem jpd_19 : (parseMethodDescriptor "([BI)C").map (fun d => d.parameters.length) = some 2 := by decide +kernel
theorem jpd_20 : (parseMethodDescriptor "(II)V").map (fun d => d.parameters.length) = some 2 := by decide +kernel
theorem jmh_15 : ("jdk/internal/util/Preconditions" : String) ≠ "java/lang/invoke/MethodHandle" ∧ ("jdk/internal/util/Preconditions" : String) ≠ "java/lang/invoke/VarHandle" := ⟨by decide +kernel, by decide +kernel⟩
theorem jpn_15 : plainName "jdk/internal/util/Preconditions" = true := by decide +kernel
theorem jpd_21 : (parseMethodDescriptor "(IILjava/util/function/BiFunction;)I").map (fun d => d.parameters.length) = some 3 := by decide +kernel
theorem jpd_22 : (parseMethodDescriptor "(II)Z").map (fun d => d.parameters.length) = some 2 := by decide +kernel
theorem jpd_23 : (parseMethodDescriptor "(II)I").map (fun d => d.parameters.length) = some 2 := by decide +kernel
theorem jpd_24 : (parseMethodDescriptor "(Ljava/lang/String;)I").map (fun d => d.parameters.length) = some 1 := by decide +kernel
theorem jpd_25 : (parseMethodDescriptor "([II)Z").map (fun d => d.parameters.length) = some 2 := by decide +kernel
theorem jpd_26 : (parseMethodDescriptor "([[III)I").map (fun d => d.parameters.length) = some 3 := by decide +kernel
theorem jpd_27 : (parseMethodDescriptor "([[IIII)V").map (fun d => d.parameters.length) = some 4 := by decide +kernel
theorem jpd_28 : (parseMethodDescriptor "(C)Z").map (fun d => d.parameters.length) = some 1 := by decide +kernel
theorem jpd_29 : (parseMethodDescriptor "(I[II)V").map (fun d => d.parameters.length) = some 3 := by decide +kernel
theorem jpd_30 : (parseMethodDescriptor "(LSluicePit$Stand;ILjava/lang/String;I)Z").map (fun d => d.parameters.length) = some 4 := by decide +kernel
theorem jpd_31 : (parseMethodDescriptor "(LSluicePit$Opera;LSluicePit$Pool;)V").map (fun d => d.parameters.length) = some 2 := by decide +kernel
theorem jpd_32 : (parseMethodDescriptor "(LSluicePit$Opera;)V").map (fun d => d.parameters.length) = some 1 := by decide +kernel
theorem jpd_33 : (parseMethodDescriptor "(LSluicePit$Opera;LSluicePit$Pool;I)V").map (fun d => d.parameters.length) = some 3 := by decide +kernel
theorem jpd_34 : (parseMethodDescriptor "(LSluicePit$Opera;I)V").map (fun d => d.parameters.length) = some 2 := by decide +kernel
theorem jpd_35 : (parseMethodDescriptor "(LSluicePit$Opera;II)I").map (fun d => d.parameters.length) = some 3 := by decide +kernel
theorem jpd_36 : (parseMethodDescriptor "(LSluicePit$Opera;I)Z").map (fun d => d.parameters.length) = some 2 := by decide +kernel
theorem jpd_37 : (parseMethodDescriptor "(III)I").map (fun d => d.parameters.length) = some 3 := by decide +kernel
theorem jpd_38 : (parseMethodDescriptor "(IIZ)I").map (fun d => d.parameters.length) = some 3 := by decide +kernel
theorem jpd_39 : (parseMethodDescriptor "(IIIZ)I").map (fun d => d.parameters.length) = some 4 := by decide +kernel
theorem jpd_40 : (parseMethodDescriptor "(LSluicePit$Parts;I)V").map (fun d => d.parameters.length) = some 2 := by decide +kernel
theorem jpd_41 : (parseMethodDescriptor "(IIII)I").map (fun d => d.parameters.length) = some 4 := by decide +kernel
theorem jpd_42 : (parseMethodDescriptor "(III)V").map (fun d => d.parameters.length) = some 3 := by decide +kernel
theorem jpd_43 : (parseMethodDescriptor "(LSluicePit$Parts;)Z").map (fun d => d.parameters.length) = some 1 := by decide +kernel
theorem jmh_16 : ("java/lang/Integer" : String) ≠ "java/lang/invoke/MethodHandle" ∧ ("java/lang/Integer" : String) ≠ "java/lang/invoke/VarHandle" := ⟨by decide +kernel, by decide +kernel⟩
theorem jpn_16 : plainName "java/lang/Integer" = true := by decide +kernel
theorem jpd_44 : (parseMethodDescriptor "(LSluicePit$Run;I)V").map (fun d => d.parameters.length) = some 2 := by decide +kernel
theorem jpd_45 : (parseMethodDescriptor "(III)Z").map (fun d => d.parameters.length) = some 3 := by decide +kernel
theorem jpd_46 : (parseMethodDescriptor "()J").map (fun d => d.parameters.length) = some 0 := by decide +kernel
theorem jpd_47 : (parseMethodDescriptor "(LSluicePit$Opera;)J").map (fun d => d.parameters.length) = some 1 := by decide +kernel
theorem jpd_48 : (parseMethodDescriptor "(IZ)Z").map (fun d => d.parameters.length) = some 2 := by decide +kernel
theorem jpd_49 : (parseMethodDescriptor "(C)V").map (fun d => d.parameters.length) = some 1 := by decide +kernel
theorem jpd_50 : (parseMethodDescriptor "(CII)I").map (fun d => d.parameters.length) = some 3 := by decide +kernel
theorem jpd_51 : (parseMethodDescriptor "(J)I").map (fun d => d.parameters.length) = some 1 := by decide +kernel
theorem jmh_17 : ("java/lang/Math" : String) ≠ "java/lang/invoke/MethodHandle" ∧ ("java/lang/Math" : String) ≠ "java/lang/invoke/VarHandle" := ⟨by decide +kernel, by decide +kernel⟩
theorem jpd_52 : (parseMethodDescriptor "(Ljava/lang/String;)C").map (fun d => d.parameters.length) = some 1 := by decide +kernel
theorem jpd_53 : (parseMethodDescriptor "(I)J").map (fun d => d.parameters.length) = some 1 := by decide +kernel
theorem jmh_18 : ("SluicePitModel" : String) ≠ "java/lang/invoke/MethodHandle" ∧ ("SluicePitModel" : String) ≠ "java/lang/invoke/VarHandle" := ⟨by decide +kernel, by decide +kernel⟩
theorem jpn_18 : plainName "SluicePitModel" = true := by decide +kernel
theorem jpd_54 : (parseMethodDescriptor "([C)V").map (fun d => d.parameters.length) = some 1 := by decide +kernel
theorem jpd_55 : (parseMethodDescriptor "([C)Z").map (fun d => d.parameters.length) = some 1 := by decide +kernel
theorem jpd_56 : (parseMethodDescriptor "(JJJ)Z").map (fun d => d.parameters.length) = some 3 := by decide +kernel
theorem jpd_57 : (parseMethodDescriptor "(Z)V").map (fun d => d.parameters.length) = some 1 := by decide +kernel
theorem jpd_58 : (parseMethodDescriptor "(IIZ)Z").map (fun d => d.parameters.length) = some 3 := by decide +kernel
theorem jpd_59 : (parseMethodDescriptor "(J)V").map (fun d => d.parameters.length) = some 1 := by decide +kernel
theorem jpd_60 : (parseMethodDescriptor "(IJI)J").map (fun d => d.parameters.length) = some 3 := by decide +kernel
theorem jpd_61 : (parseMethodDescriptor "(J)J").map (fun d => d.parameters.length) = some 1 := by decide +kernel
theorem jpd_62 : (parseMethodDescriptor "(II)J").map (fun d => d.parameters.length) = some 2 := by decide +kernel
theorem jpd_63 : (parseMethodDescriptor "(JJ)J").map (fun d => d.parameters.length) = some 2 := by decide +kernel
theorem jpd_64 : (parseMethodDescriptor "(IJI)V").map (fun d => d.parameters.length) = some 3 := by decide +kernel
abbrev jb_Sp_init : ByteArray := prog_1_method_1_code
theorem jo_Sp_init : jok jy_Sp_init jb_Sp_init 1 none 0 := ⟨jw_25, jw_1, jmh_0, jpd_0, plainFor_of_name jpn_0⟩
abbrev jb_Ta_init : ByteArray := prog_12_method_1_code
theorem jo_Ta_init : jok jy_Ta_init jb_Ta_init 1 none 0 := ⟨jw_33, jw_2, jmh_1, jpd_0, plainFor_of_name jpn_1⟩
abbrev jb_Re_init : ByteArray := prog_9_method_1_code
theorem jo_Re_init : jok jy_Re_init jb_Re_init 2 none 1 := ⟨jw_50, jw_3, jmh_2, jpd_1, plainFor_of_name jpn_2⟩
abbrev jb_Pr_init : ByteArray := prog_5_method_1_code
theorem jo_Pr_init : jok jy_Pr_init jb_Pr_init 2 none 1 := ⟨jw_85, jw_4, jmh_3, jpd_2, plainFor_of_name jpn_3⟩
abbrev jb_Op_init : ByteArray := prog_3_method_1_code
theorem jo_Op_init : jok jy_Op_init jb_Op_init 1 none 0 := ⟨jw_105, jw_5, jmh_4, jpd_0, plainFor_of_name jpn_4⟩
abbrev jb_St_init : ByteArray := prog_11_method_1_code
theorem jo_St_init : jok jy_St_init jb_St_init 1 none 0 := ⟨jw_113, jw_6, jmh_5, jpd_0, plainFor_of_name jpn_5⟩
abbrev jb_Pa_init : ByteArray := prog_6_method_1_code
theorem jo_Pa_init : jok jy_Pa_init jb_Pa_init 1 none 0 := ⟨jw_133, jw_7, jmh_6, jpd_0, plainFor_of_name jpn_6⟩
abbrev jb_Op_clear : ByteArray := prog_3_method_2_code
theorem jo_Op_clear : jok jy_Op_clear jb_Op_clear 1 none 0 := ⟨jw_146, jw_5, jmh_4, jpd_0, plainFor_of_name jpn_4⟩
abbrev jb_JA_fill : ByteArray := prog_20_method_103_code
theorem jo_JA_fill : jok jy_JA_fill jb_JA_fill 4 none 2 := ⟨jw_149, jw_8, jmh_7, jpd_3, plainFor_of_name jpn_7⟩
abbrev jb_Or_init : ByteArray := prog_4_method_1_code
theorem jo_Or_init : jok jy_Or_init jb_Or_init 4 none 3 := ⟨jw_240, jw_9, jmh_8, jpd_4, plainFor_of_name jpn_8⟩
abbrev jb_Ac_init : ByteArray := prog_2_method_1_code
theorem jo_Ac_init : jok jy_Ac_init jb_Ac_init 1 none 0 := ⟨jw_256, jw_10, jmh_9, jpd_0, plainFor_of_name jpn_9⟩
abbrev jb_Ac_forget : ByteArray := prog_2_method_2_code
theorem jo_Ac_forget : jok jy_Ac_forget jb_Ac_forget 1 none 0 := ⟨jw_262, jw_10, jmh_9, jpd_0, plainFor_of_name jpn_9⟩
abbrev jb_Ru_init : ByteArray := prog_10_method_1_code
theorem jo_Ru_init : jok jy_Ru_init jb_Ru_init 1 none 0 := ⟨jw_284, jw_11, jmh_10, jpd_0, plainFor_of_name jpn_10⟩
abbrev jb_Po_init : ByteArray := prog_7_method_1_code
theorem jo_Po_init : jok jy_Po_init jb_Po_init 1 none 0 := ⟨jw_301, jw_12, jmh_11, jpd_0, plainFor_of_name jpn_11⟩
abbrev jb_Po_suppose : ByteArray := prog_7_method_2_code
theorem jo_Po_suppose : jok jy_Po_suppose jb_Po_suppose 1 none 0 := ⟨jw_306, jw_12, jmh_11, jpd_0, plainFor_of_name jpn_11⟩
abbrev jb_Qu_init : ByteArray := prog_8_method_1_code
theorem jo_Qu_init : jok jy_Qu_init jb_Qu_init 4 none 3 := ⟨jw_357, jw_13, jmh_12, jpd_5, plainFor_of_name jpn_12⟩
abbrev jb_Sp_feed : ByteArray := prog_1_method_2_code
theorem jo_Sp_feed : jok jy_Sp_feed jb_Sp_feed 6 (some FieldType.int) 5 := ⟨jw_425, jw_1, jmh_0, jpd_6, plainFor_of_name jpn_0⟩
abbrev jb_Ta_addFour : ByteArray := prog_12_method_2_code
theorem jo_Ta_addFour : jok jy_Ta_addFour jb_Ta_addFour 3 none 1 := ⟨jw_429, jw_2, jmh_1, jpd_7, plainFor_of_name jpn_1⟩
abbrev jb_Sp_put : ByteArray := prog_1_method_43_code
theorem jo_Sp_put : jok jy_Sp_put jb_Sp_put 3 none 3 := ⟨jw_432, jw_1, jmh_0, jpd_8, plainFor_of_name jpn_0⟩
abbrev jb_Sp_end : ByteArray := prog_1_method_3_code
theorem jo_Sp_end : jok jy_Sp_end jb_Sp_end 2 (some FieldType.boolean) 1 := ⟨jw_436, jw_1, jmh_0, jpd_9, plainFor_of_name jpn_0⟩
abbrev jb_Sp_opera : ByteArray := prog_1_method_4_code
theorem jo_Sp_opera : jok jy_Sp_opera jb_Sp_opera 3 (some FieldType.int) 0 := ⟨jw_440, jw_1, jmh_0, jpd_10, plainFor_of_name jpn_0⟩
abbrev jb_Re_begin : ByteArray := prog_9_method_2_code
theorem jo_Re_begin : jok jy_Re_begin jb_Re_begin 1 none 0 := ⟨jw_444, jw_3, jmh_2, jpd_0, plainFor_of_name jpn_2⟩
abbrev jb_Re_step : ByteArray := prog_9_method_3_code
theorem jo_Re_step : jok jy_Re_step jb_Re_step 5 none 0 := ⟨jw_448, jw_3, jmh_2, jpd_0, plainFor_of_name jpn_2⟩
abbrev jb_Ta_read : ByteArray := prog_12_method_3_code
theorem jo_Ta_read : jok jy_Ta_read jb_Ta_read 2 (some FieldType.int) 1 := ⟨jw_452, jw_2, jmh_1, jpd_11, plainFor_of_name jpn_1⟩
abbrev jb_Re_isBlank : ByteArray := prog_9_method_4_code
theorem jo_Re_isBlank : jok jy_Re_isBlank jb_Re_isBlank 1 (some FieldType.boolean) 1 := ⟨jw_455, jw_3, jmh_2, jpd_9, plainFor_of_name jpn_2⟩
abbrev jb_Re_isDigit : ByteArray := prog_9_method_5_code
theorem jo_Re_isDigit : jok jy_Re_isDigit jb_Re_isDigit 1 (some FieldType.boolean) 1 := ⟨jw_458, jw_3, jmh_2, jpd_9, plainFor_of_name jpn_2⟩
abbrev jb_Re_isLetter : ByteArray := prog_9_method_6_code
theorem jo_Re_isLetter : jok jy_Re_isLetter jb_Re_isLetter 1 (some FieldType.boolean) 1 := ⟨jw_461, jw_3, jmh_2, jpd_9, plainFor_of_name jpn_2⟩
abbrev jb_Or_read : ByteArray := prog_4_method_2_code
theorem jo_Or_read : jok jy_Or_read jb_Or_read 4 (some FieldType.boolean) 1 := ⟨jw_466, jw_9, jmh_8, jpd_12, plainFor_of_name jpn_8⟩
abbrev jb_Re_isEnd : ByteArray := prog_9_method_7_code
theorem jo_Re_isEnd : jok jy_Re_isEnd jb_Re_isEnd 1 (some FieldType.boolean) 0 := ⟨jw_471, jw_3, jmh_2, jpd_13, plainFor_of_name jpn_2⟩
abbrev jb_Or_takeRiver : ByteArray := prog_4_method_3_code
theorem jo_Or_takeRiver : jok jy_Or_takeRiver jb_Or_takeRiver 2 (some FieldType.boolean) 0 := ⟨jw_475, jw_9, jmh_8, jpd_13, plainFor_of_name jpn_8⟩
abbrev jb_Re_takeWord : ByteArray := prog_9_method_19_code
theorem jo_Re_takeWord : jok jy_Re_takeWord jb_Re_takeWord 2 (some FieldType.boolean) 1 := ⟨jw_480, jw_3, jmh_2, jpd_14, plainFor_of_name jpn_2⟩
abbrev jb_JS_length : ByteArray := prog_17_method_54_code
theorem jo_JS_length : jok jy_JS_length jb_JS_length 1 (some FieldType.int) 0 := ⟨jw_484, jw_15, jmh_13, jpd_10, plainFor_of_name jpn_13⟩
abbrev jb_JS_coder : ByteArray := prog_17_method_152_code
theorem jo_JS_coder : jok jy_JS_coder jb_JS_coder 1 (some FieldType.byte) 0 := ⟨jw_488, jw_15, jmh_13, jpd_15, plainFor_of_name jpn_13⟩
abbrev jb_Re_isPiece : ByteArray := prog_9_method_13_code
theorem jo_Re_isPiece : jok jy_Re_isPiece jb_Re_isPiece 5 (some FieldType.boolean) 3 := ⟨jw_494, jw_3, jmh_2, jpd_16, plainFor_of_name jpn_2⟩
abbrev jb_Sp_at : ByteArray := prog_1_method_42_code
theorem jo_Sp_at : jok jy_Sp_at jb_Sp_at 2 (some FieldType.int) 2 := ⟨jw_497, jw_1, jmh_0, jpd_17, plainFor_of_name jpn_0⟩
abbrev jb_JS_charAt : ByteArray := prog_17_method_56_code
theorem jo_JS_charAt : jok jy_JS_charAt jb_JS_charAt 2 (some FieldType.char) 1 := ⟨jw_501, jw_15, jmh_13, jpd_18, plainFor_of_name jpn_13⟩
abbrev jb_JS_isLatin1 : ByteArray := prog_17_method_154_code
theorem jo_JS_isLatin1 : jok jy_JS_isLatin1 jb_JS_isLatin1 1 (some FieldType.boolean) 0 := ⟨jw_505, jw_15, jmh_13, jpd_13, plainFor_of_name jpn_13⟩
abbrev jb_JL_charAt : ByteArray := prog_18_method_2_code
theorem jo_JL_charAt : jok jy_JL_charAt jb_JL_charAt 2 (some FieldType.char) 2 := ⟨jw_508, jw_16, jmh_14, jpd_19, plainFor_of_name jpn_14⟩
abbrev jb_JS_checkIndex : ByteArray := prog_17_method_155_code
theorem jo_JS_checkIndex : jok jy_JS_checkIndex jb_JS_checkIndex 2 none 2 := ⟨jw_511, jw_15, jmh_13, jpd_20, plainFor_of_name jpn_13⟩
abbrev jb_JP_checkIndex : ByteArray := prog_21_method_11_code
theorem jo_JP_checkIndex : jok jy_JP_checkIndex jb_JP_checkIndex 3 (some FieldType.int) 3 := ⟨jw_516, jw_17, jmh_15, jpd_21, plainFor_of_name jpn_15⟩
abbrev jb_Re_refuse : ByteArray := prog_9_method_16_code
theorem jo_Re_refuse : jok jy_Re_refuse jb_Re_refuse 1 (some FieldType.boolean) 0 := ⟨jw_539, jw_3, jmh_2, jpd_13, plainFor_of_name jpn_2⟩
abbrev jb_Re_fail : ByteArray := prog_9_method_15_code
theorem jo_Re_fail : jok jy_Re_fail jb_Re_fail 3 (some FieldType.boolean) 2 := ⟨jw_543, jw_3, jmh_2, jpd_22, plainFor_of_name jpn_2⟩
abbrev jb_Re_takeNumber : ByteArray := prog_9_method_20_code
theorem jo_Re_takeNumber : jok jy_Re_takeNumber jb_Re_takeNumber 5 (some FieldType.int) 2 := ⟨jw_547, jw_3, jmh_2, jpd_23, plainFor_of_name jpn_2⟩
abbrev jb_Or_takeStatement : ByteArray := prog_4_method_4_code
theorem jo_Or_takeStatement : jok jy_Or_takeStatement jb_Or_takeStatement 2 (some FieldType.boolean) 0 := ⟨jw_551, jw_9, jmh_8, jpd_13, plainFor_of_name jpn_8⟩
abbrev jb_Re_wordAmong : ByteArray := prog_9_method_14_code
theorem jo_Re_wordAmong : jok jy_Re_wordAmong jb_Re_wordAmong 5 (some FieldType.int) 1 := ⟨jw_556, jw_3, jmh_2, jpd_24, plainFor_of_name jpn_2⟩
abbrev jb_Or_isFull : ByteArray := prog_4_method_5_code
theorem jo_Or_isFull : jok jy_Or_isFull jb_Or_isFull 2 (some FieldType.boolean) 1 := ⟨jw_561, jw_9, jmh_8, jpd_9, plainFor_of_name jpn_8⟩
abbrev jb_St_isFull : ByteArray := prog_11_method_3_code
theorem jo_St_isFull : jok jy_St_isFull jb_St_isFull 1 (some FieldType.boolean) 0 := ⟨jw_565, jw_6, jmh_5, jpd_13, plainFor_of_name jpn_5⟩
abbrev jb_Or_takeGround : ByteArray := prog_4_method_7_code
theorem jo_Or_takeGround : jok jy_Or_takeGround jb_Or_takeGround 5 (some FieldType.boolean) 2 := ⟨jw_571, jw_9, jmh_8, jpd_25, plainFor_of_name jpn_8⟩
abbrev jb_Or_takeCell : ByteArray := prog_4_method_6_code
theorem jo_Or_takeCell : jok jy_Or_takeCell jb_Or_takeCell 1 (some FieldType.int) 0 := ⟨jw_576, jw_9, jmh_8, jpd_10, plainFor_of_name jpn_8⟩
abbrev jb_Or_takeDesk : ByteArray := prog_4_method_8_code
theorem jo_Or_takeDesk : jok jy_Or_takeDesk jb_Or_takeDesk 2 (some FieldType.boolean) 0 := ⟨jw_581, jw_9, jmh_8, jpd_13, plainFor_of_name jpn_8⟩
abbrev jb_Or_takeName : ByteArray := prog_4_method_13_code
theorem jo_Or_takeName : jok jy_Or_takeName jb_Or_takeName 4 (some FieldType.boolean) 1 := ⟨jw_585, jw_9, jmh_8, jpd_9, plainFor_of_name jpn_8⟩
abbrev jb_Re_isSomeWord : ByteArray := prog_9_method_8_code
theorem jo_Re_isSomeWord : jok jy_Re_isSomeWord jb_Re_isSomeWord 1 (some FieldType.boolean) 0 := ⟨jw_589, jw_3, jmh_2, jpd_13, plainFor_of_name jpn_2⟩
abbrev jb_Re_length : ByteArray := prog_9_method_11_code
theorem jo_Re_length : jok jy_Re_length jb_Re_length 1 (some FieldType.int) 0 := ⟨jw_594, jw_3, jmh_2, jpd_10, plainFor_of_name jpn_2⟩
abbrev jb_Or_isThere : ByteArray := prog_4_method_14_code
theorem jo_Or_isThere : jok jy_Or_isThere jb_Or_isThere 3 (some FieldType.boolean) 0 := ⟨jw_598, jw_9, jmh_8, jpd_13, plainFor_of_name jpn_8⟩
abbrev jb_Op_named : ByteArray := prog_3_method_4_code
theorem jo_Op_named : jok jy_Op_named jb_Op_named 2 (some FieldType.int) 1 := ⟨jw_602, jw_5, jmh_4, jpd_11, plainFor_of_name jpn_4⟩
abbrev jb_Sp_nameRow : ByteArray := prog_1_method_46_code
theorem jo_Sp_nameRow : jok jy_Sp_nameRow jb_Sp_nameRow 2 (some FieldType.int) 2 := ⟨jw_605, jw_1, jmh_0, jpd_23, plainFor_of_name jpn_0⟩
abbrev jb_Or_isName : ByteArray := prog_4_method_15_code
theorem jo_Or_isName : jok jy_Or_isName jb_Or_isName 3 (some FieldType.boolean) 1 := ⟨jw_609, jw_9, jmh_8, jpd_9, plainFor_of_name jpn_8⟩
abbrev jb_Sp_cellOf : ByteArray := prog_1_method_44_code
theorem jo_Sp_cellOf : jok jy_Sp_cellOf jb_Sp_cellOf 4 (some FieldType.int) 3 := ⟨jw_612, jw_1, jmh_0, jpd_26, plainFor_of_name jpn_0⟩
abbrev jb_Sp_putCell : ByteArray := prog_1_method_45_code
theorem jo_Sp_putCell : jok jy_Sp_putCell jb_Sp_putCell 5 none 4 := ⟨jw_616, jw_1, jmh_0, jpd_27, plainFor_of_name jpn_0⟩
abbrev jb_Pr_part : ByteArray := prog_5_method_2_code
theorem jo_Pr_part : jok jy_Pr_part jb_Pr_part 4 (some FieldType.boolean) 1 := ⟨jw_622, jw_4, jmh_3, jpd_9, plainFor_of_name jpn_3⟩
abbrev jb_Pr_groupStands : ByteArray := prog_5_method_4_code
theorem jo_Pr_groupStands : jok jy_Pr_groupStands jb_Pr_groupStands 2 (some FieldType.boolean) 0 := ⟨jw_626, jw_4, jmh_3, jpd_13, plainFor_of_name jpn_3⟩
abbrev jb_Re_isSign : ByteArray := prog_9_method_10_code
theorem jo_Re_isSign : jok jy_Re_isSign jb_Re_isSign 2 (some FieldType.boolean) 1 := ⟨jw_630, jw_3, jmh_2, jpd_28, plainFor_of_name jpn_2⟩
abbrev jb_Pr_actOf : ByteArray := prog_5_method_5_code
theorem jo_Pr_actOf : jok jy_Pr_actOf jb_Pr_actOf 2 (some FieldType.int) 1 := ⟨jw_636, jw_4, jmh_3, jpd_11, plainFor_of_name jpn_3⟩
abbrev jb_Pr_group : ByteArray := prog_5_method_3_code
theorem jo_Pr_group : jok jy_Pr_group jb_Pr_group 4 (some FieldType.boolean) 1 := ⟨jw_644, jw_4, jmh_3, jpd_9, plainFor_of_name jpn_3⟩
abbrev jb_Pr_addLetters : ByteArray := prog_5_method_6_code
theorem jo_Pr_addLetters : jok jy_Pr_addLetters jb_Pr_addLetters 2 none 0 := ⟨jw_648, jw_4, jmh_3, jpd_0, plainFor_of_name jpn_3⟩
abbrev jb_Re_takeSign : ByteArray := prog_9_method_18_code
theorem jo_Re_takeSign : jok jy_Re_takeSign jb_Re_takeSign 2 (some FieldType.boolean) 1 := ⟨jw_659, jw_3, jmh_2, jpd_28, plainFor_of_name jpn_2⟩
abbrev jb_Pr_repeat : ByteArray := prog_5_method_7_code
theorem jo_Pr_repeat : jok jy_Pr_repeat jb_Pr_repeat 6 none 2 := ⟨jw_667, jw_4, jmh_3, jpd_20, plainFor_of_name jpn_3⟩
abbrev jb_Pa_setPart : ByteArray := prog_6_method_6_code
theorem jo_Pa_setPart : jok jy_Pa_setPart jb_Pa_setPart 5 none 3 := ⟨jw_671, jw_7, jmh_6, jpd_29, plainFor_of_name jpn_6⟩
abbrev jb_Pa_setSize : ByteArray := prog_6_method_3_code
theorem jo_Pa_setSize : jok jy_Pa_setSize jb_Pa_setSize 3 none 2 := ⟨jw_677, jw_7, jmh_6, jpd_20, plainFor_of_name jpn_6⟩
abbrev jb_Or_takePit : ByteArray := prog_4_method_9_code
theorem jo_Or_takePit : jok jy_Or_takePit jb_Or_takePit 2 (some FieldType.boolean) 0 := ⟨jw_682, jw_9, jmh_8, jpd_13, plainFor_of_name jpn_8⟩
abbrev jb_Or_takeSluice : ByteArray := prog_4_method_10_code
theorem jo_Or_takeSluice : jok jy_Or_takeSluice jb_Or_takeSluice 3 (some FieldType.boolean) 0 := ⟨jw_686, jw_9, jmh_8, jpd_13, plainFor_of_name jpn_8⟩
abbrev jb_Or_takeStand : ByteArray := prog_4_method_11_code
theorem jo_Or_takeStand : jok jy_Or_takeStand jb_Or_takeStand 7 (some FieldType.boolean) 4 := ⟨jw_691, jw_9, jmh_8, jpd_30, plainFor_of_name jpn_8⟩
abbrev jb_St_add : ByteArray := prog_11_method_6_code
theorem jo_St_add : jok jy_St_add jb_St_add 3 none 2 := ⟨jw_695, jw_6, jmh_5, jpd_20, plainFor_of_name jpn_5⟩
abbrev jb_Or_takeBank : ByteArray := prog_4_method_12_code
theorem jo_Or_takeBank : jok jy_Or_takeBank jb_Or_takeBank 2 (some FieldType.boolean) 0 := ⟨jw_702, jw_9, jmh_8, jpd_13, plainFor_of_name jpn_8⟩
abbrev jb_Ru_playAll : ByteArray := prog_10_method_5_code
theorem jo_Ru_playAll : jok jy_Ru_playAll jb_Ru_playAll 4 none 2 := ⟨jw_708, jw_11, jmh_10, jpd_31, plainFor_of_name jpn_10⟩
abbrev jb_Po_beginTold : ByteArray := prog_7_method_3_code
theorem jo_Po_beginTold : jok jy_Po_beginTold jb_Po_beginTold 3 none 1 := ⟨jw_712, jw_12, jmh_11, jpd_32, plainFor_of_name jpn_11⟩
abbrev jb_St_cellOfOne : ByteArray := prog_11_method_4_code
theorem jo_St_cellOfOne : jok jy_St_cellOfOne jb_St_cellOfOne 2 (some FieldType.int) 1 := ⟨jw_718, jw_6, jmh_5, jpd_11, plainFor_of_name jpn_5⟩
abbrev jb_Ru_keep : ByteArray := prog_10_method_6_code
theorem jo_Ru_keep : jok jy_Ru_keep jb_Ru_keep 7 none 3 := ⟨jw_723, jw_11, jmh_10, jpd_33, plainFor_of_name jpn_10⟩
abbrev jb_Po_boatCell : ByteArray := prog_7_method_14_code
theorem jo_Po_boatCell : jok jy_Po_boatCell jb_Po_boatCell 2 (some FieldType.int) 1 := ⟨jw_729, jw_12, jmh_11, jpd_11, plainFor_of_name jpn_11⟩
abbrev jb_Ru_measure : ByteArray := prog_10_method_4_code
theorem jo_Ru_measure : jok jy_Ru_measure jb_Ru_measure 3 (some FieldType.int) 2 := ⟨jw_733, jw_11, jmh_10, jpd_23, plainFor_of_name jpn_10⟩
abbrev jb_Po_play : ByteArray := prog_7_method_5_code
theorem jo_Po_play : jok jy_Po_play jb_Po_play 3 none 2 := ⟨jw_738, jw_12, jmh_11, jpd_34, plainFor_of_name jpn_11⟩
abbrev jb_Po_bow : ByteArray := prog_7_method_7_code
theorem jo_Po_bow : jok jy_Po_bow jb_Po_bow 6 none 2 := ⟨jw_742, jw_12, jmh_11, jpd_34, plainFor_of_name jpn_11⟩
abbrev jb_Po_act : ByteArray := prog_7_method_6_code
theorem jo_Po_act : jok jy_Po_act jb_Po_act 5 (some FieldType.int) 3 := ⟨jw_746, jw_12, jmh_11, jpd_35, plainFor_of_name jpn_11⟩
abbrev jb_Pa_act : ByteArray := prog_6_method_4_code
theorem jo_Pa_act : jok jy_Pa_act jb_Pa_act 3 (some FieldType.int) 2 := ⟨jw_750, jw_7, jmh_6, jpd_23, plainFor_of_name jpn_6⟩
abbrev jb_Po_flow : ByteArray := prog_7_method_9_code
theorem jo_Po_flow : jok jy_Po_flow jb_Po_flow 7 none 1 := ⟨jw_755, jw_12, jmh_11, jpd_32, plainFor_of_name jpn_11⟩
abbrev jb_Po_isShut : ByteArray := prog_7_method_8_code
theorem jo_Po_isShut : jok jy_Po_isShut jb_Po_isShut 3 (some FieldType.boolean) 2 := ⟨jw_759, jw_12, jmh_11, jpd_36, plainFor_of_name jpn_11⟩
abbrev jb_Po_runOut : ByteArray := prog_7_method_10_code
theorem jo_Po_runOut : jok jy_Po_runOut jb_Po_runOut 3 none 1 := ⟨jw_764, jw_12, jmh_11, jpd_7, plainFor_of_name jpn_11⟩
abbrev jb_Po_drink : ByteArray := prog_7_method_11_code
theorem jo_Po_drink : jok jy_Po_drink jb_Po_drink 5 none 1 := ⟨jw_768, jw_12, jmh_11, jpd_32, plainFor_of_name jpn_11⟩
abbrev jb_St_amountOf : ByteArray := prog_11_method_5_code
theorem jo_St_amountOf : jok jy_St_amountOf jb_St_amountOf 2 (some FieldType.int) 1 := ⟨jw_772, jw_6, jmh_5, jpd_11, plainFor_of_name jpn_5⟩
abbrev jb_Po_spill : ByteArray := prog_7_method_12_code
theorem jo_Po_spill : jok jy_Po_spill jb_Po_spill 4 none 1 := ⟨jw_776, jw_12, jmh_11, jpd_32, plainFor_of_name jpn_11⟩
abbrev jb_Po_sail : ByteArray := prog_7_method_13_code
theorem jo_Po_sail : jok jy_Po_sail jb_Po_sail 5 none 1 := ⟨jw_783, jw_12, jmh_11, jpd_32, plainFor_of_name jpn_11⟩
abbrev jb_Po_isAground : ByteArray := prog_7_method_15_code
theorem jo_Po_isAground : jok jy_Po_isAground jb_Po_isAground 3 (some FieldType.boolean) 2 := ⟨jw_787, jw_12, jmh_11, jpd_36, plainFor_of_name jpn_11⟩
abbrev jb_Po_isLast : ByteArray := prog_7_method_16_code
theorem jo_Po_isLast : jok jy_Po_isLast jb_Po_isLast 3 (some FieldType.boolean) 2 := ⟨jw_791, jw_12, jmh_11, jpd_36, plainFor_of_name jpn_11⟩
abbrev jb_Sp_fault : ByteArray := prog_1_method_5_code
theorem jo_Sp_fault : jok jy_Sp_fault jb_Sp_fault 2 (some FieldType.int) 1 := ⟨jw_796, jw_1, jmh_0, jpd_11, plainFor_of_name jpn_0⟩
abbrev jb_Sp_has : ByteArray := prog_1_method_6_code
theorem jo_Sp_has : jok jy_Sp_has jb_Sp_has 2 (some FieldType.int) 1 := ⟨jw_800, jw_1, jmh_0, jpd_11, plainFor_of_name jpn_0⟩
abbrev jb_Op_sluices : ByteArray := prog_3_method_3_code
theorem jo_Op_sluices : jok jy_Op_sluices jb_Op_sluices 3 (some FieldType.int) 0 := ⟨jw_804, jw_5, jmh_4, jpd_10, plainFor_of_name jpn_4⟩
abbrev jb_Pa_longest : ByteArray := prog_6_method_8_code
theorem jo_Pa_longest : jok jy_Pa_longest jb_Pa_longest 4 (some FieldType.int) 1 := ⟨jw_809, jw_7, jmh_6, jpd_11, plainFor_of_name jpn_6⟩
abbrev jb_Pa_size : ByteArray := prog_6_method_2_code
theorem jo_Pa_size : jok jy_Pa_size jb_Pa_size 2 (some FieldType.int) 1 := ⟨jw_813, jw_7, jmh_6, jpd_11, plainFor_of_name jpn_6⟩
abbrev jb_Sp_letter : ByteArray := prog_1_method_7_code
theorem jo_Sp_letter : jok jy_Sp_letter jb_Sp_letter 5 (some FieldType.int) 3 := ⟨jw_818, jw_1, jmh_0, jpd_37, plainFor_of_name jpn_0⟩
abbrev jb_Sp_desk : ByteArray := prog_1_method_8_code
theorem jo_Sp_desk : jok jy_Sp_desk jb_Sp_desk 3 (some FieldType.int) 2 := ⟨jw_825, jw_1, jmh_0, jpd_23, plainFor_of_name jpn_0⟩
abbrev jb_Sp_isDesk : ByteArray := prog_1_method_31_code
theorem jo_Sp_isDesk : jok jy_Sp_isDesk jb_Sp_isDesk 2 (some FieldType.boolean) 1 := ⟨jw_829, jw_1, jmh_0, jpd_9, plainFor_of_name jpn_0⟩
abbrev jb_Sp_deep : ByteArray := prog_1_method_9_code
theorem jo_Sp_deep : jok jy_Sp_deep jb_Sp_deep 3 (some FieldType.int) 2 := ⟨jw_836, jw_1, jmh_0, jpd_23, plainFor_of_name jpn_0⟩
abbrev jb_Sp_isCell : ByteArray := prog_1_method_30_code
theorem jo_Sp_isCell : jok jy_Sp_isCell jb_Sp_isCell 2 (some FieldType.boolean) 1 := ⟨jw_840, jw_1, jmh_0, jpd_9, plainFor_of_name jpn_0⟩
abbrev jb_Sp_isBar : ByteArray := prog_1_method_32_code
theorem jo_Sp_isBar : jok jy_Sp_isBar jb_Sp_isBar 1 (some FieldType.boolean) 1 := ⟨jw_843, jw_1, jmh_0, jpd_9, plainFor_of_name jpn_0⟩
abbrev jb_Ru_water : ByteArray := prog_10_method_2_code
theorem jo_Ru_water : jok jy_Ru_water jb_Ru_water 3 (some FieldType.int) 2 := ⟨jw_847, jw_11, jmh_10, jpd_23, plainFor_of_name jpn_10⟩
abbrev jb_Sp_cell : ByteArray := prog_1_method_10_code
theorem jo_Sp_cell : jok jy_Sp_cell jb_Sp_cell 3 (some FieldType.int) 2 := ⟨jw_851, jw_1, jmh_0, jpd_23, plainFor_of_name jpn_0⟩
abbrev jb_Sp_sums : ByteArray := prog_1_method_11_code
theorem jo_Sp_sums : jok jy_Sp_sums jb_Sp_sums 3 (some FieldType.int) 2 := ⟨jw_855, jw_1, jmh_0, jpd_23, plainFor_of_name jpn_0⟩
abbrev jb_Sp_led : ByteArray := prog_1_method_12_code
theorem jo_Sp_led : jok jy_Sp_led jb_Sp_led 5 (some FieldType.int) 2 := ⟨jw_860, jw_1, jmh_0, jpd_23, plainFor_of_name jpn_0⟩
abbrev jb_Sp_boat : ByteArray := prog_1_method_13_code
theorem jo_Sp_boat : jok jy_Sp_boat jb_Sp_boat 4 (some FieldType.int) 3 := ⟨jw_864, jw_1, jmh_0, jpd_38, plainFor_of_name jpn_0⟩
abbrev jb_St_holds : ByteArray := prog_11_method_2_code
theorem jo_St_holds : jok jy_St_holds jb_St_holds 2 (some FieldType.boolean) 1 := ⟨jw_868, jw_6, jmh_5, jpd_9, plainFor_of_name jpn_5⟩
abbrev jb_Sp_isAground : ByteArray := prog_1_method_33_code
theorem jo_Sp_isAground : jok jy_Sp_isAground jb_Sp_isAground 3 (some FieldType.boolean) 2 := ⟨jw_872, jw_1, jmh_0, jpd_22, plainFor_of_name jpn_0⟩
abbrev jb_Ru_boatCell : ByteArray := prog_10_method_3_code
theorem jo_Ru_boatCell : jok jy_Ru_boatCell jb_Ru_boatCell 3 (some FieldType.int) 2 := ⟨jw_876, jw_11, jmh_10, jpd_23, plainFor_of_name jpn_10⟩
abbrev jb_Sp_first : ByteArray := prog_1_method_14_code
theorem jo_Sp_first : jok jy_Sp_first jb_Sp_first 4 (some FieldType.int) 2 := ⟨jw_881, jw_1, jmh_0, jpd_23, plainFor_of_name jpn_0⟩
abbrev jb_Sp_turning : ByteArray := prog_1_method_15_code
theorem jo_Sp_turning : jok jy_Sp_turning jb_Sp_turning 7 (some FieldType.int) 2 := ⟨jw_885, jw_1, jmh_0, jpd_23, plainFor_of_name jpn_0⟩
abbrev jb_Sp_mark : ByteArray := prog_1_method_16_code
theorem jo_Sp_mark : jok jy_Sp_mark jb_Sp_mark 6 (some FieldType.int) 4 := ⟨jw_890, jw_1, jmh_0, jpd_39, plainFor_of_name jpn_0⟩
abbrev jb_Ac_keep : ByteArray := prog_2_method_3_code
theorem jo_Ac_keep : jok jy_Ac_keep jb_Ac_keep 4 none 2 := ⟨jw_894, jw_10, jmh_9, jpd_40, plainFor_of_name jpn_9⟩
abbrev jb_Pa_setActs : ByteArray := prog_6_method_7_code
theorem jo_Pa_setActs : jok jy_Pa_setActs jb_Pa_setActs 7 (some FieldType.int) 4 := ⟨jw_903, jw_7, jmh_6, jpd_41, plainFor_of_name jpn_6⟩
abbrev jb_Pa_setAct : ByteArray := prog_6_method_5_code
theorem jo_Pa_setAct : jok jy_Pa_setAct jb_Pa_setAct 4 none 3 := ⟨jw_908, jw_7, jmh_6, jpd_42, plainFor_of_name jpn_6⟩
abbrev jb_Sp_teach : ByteArray := prog_1_method_17_code
theorem jo_Sp_teach : jok jy_Sp_teach jb_Sp_teach 3 (some FieldType.int) 1 := ⟨jw_912, jw_1, jmh_0, jpd_11, plainFor_of_name jpn_0⟩
abbrev jb_Re_ended : ByteArray := prog_9_method_17_code
theorem jo_Re_ended : jok jy_Re_ended jb_Re_ended 1 (some FieldType.boolean) 0 := ⟨jw_917, jw_3, jmh_2, jpd_13, plainFor_of_name jpn_2⟩
abbrev jb_Sp_undo : ByteArray := prog_1_method_18_code
theorem jo_Sp_undo : jok jy_Sp_undo jb_Sp_undo 1 (some FieldType.boolean) 0 := ⟨jw_922, jw_1, jmh_0, jpd_13, plainFor_of_name jpn_0⟩
abbrev jb_Ac_takeBack : ByteArray := prog_2_method_4_code
theorem jo_Ac_takeBack : jok jy_Ac_takeBack jb_Ac_takeBack 4 (some FieldType.boolean) 1 := ⟨jw_926, jw_10, jmh_9, jpd_43, plainFor_of_name jpn_9⟩
abbrev jb_Sp_stop : ByteArray := prog_1_method_19_code
theorem jo_Sp_stop : jok jy_Sp_stop jb_Sp_stop 4 (some FieldType.int) 3 := ⟨jw_934, jw_1, jmh_0, jpd_37, plainFor_of_name jpn_0⟩
abbrev jb_Sp_fewest : ByteArray := prog_1_method_34_code
theorem jo_Sp_fewest : jok jy_Sp_fewest jb_Sp_fewest 9 (some FieldType.int) 4 := ⟨jw_938, jw_1, jmh_0, jpd_39, plainFor_of_name jpn_0⟩
abbrev jb_JI_bitCount : ByteArray := prog_15_method_49_code
theorem jo_JI_bitCount : jok jy_JI_bitCount jb_JI_bitCount 1 (some FieldType.int) 1 := ⟨jw_941, jw_20, jmh_16, jpd_11, plainFor_of_name jpn_16⟩
abbrev jb_Sp_playSilent : ByteArray := prog_1_method_35_code
theorem jo_Sp_playSilent : jok jy_Sp_playSilent jb_Sp_playSilent 4 none 2 := ⟨jw_948, jw_1, jmh_0, jpd_20, plainFor_of_name jpn_0⟩
abbrev jb_Po_begin : ByteArray := prog_7_method_4_code
theorem jo_Po_begin : jok jy_Po_begin jb_Po_begin 4 none 2 := ⟨jw_952, jw_12, jmh_11, jpd_44, plainFor_of_name jpn_11⟩
abbrev jb_Sp_bring : ByteArray := prog_1_method_20_code
theorem jo_Sp_bring : jok jy_Sp_bring jb_Sp_bring 4 (some FieldType.int) 3 := ⟨jw_962, jw_1, jmh_0, jpd_37, plainFor_of_name jpn_0⟩
abbrev jb_Sp_wet : ByteArray := prog_1_method_21_code
theorem jo_Sp_wet : jok jy_Sp_wet jb_Sp_wet 3 (some FieldType.boolean) 0 := ⟨jw_966, jw_1, jmh_0, jpd_13, plainFor_of_name jpn_0⟩
abbrev jb_Sp_early : ByteArray := prog_1_method_22_code
theorem jo_Sp_early : jok jy_Sp_early jb_Sp_early 7 (some FieldType.int) 2 := ⟨jw_971, jw_1, jmh_0, jpd_23, plainFor_of_name jpn_0⟩
abbrev jb_Sp_isWetWithout : ByteArray := prog_1_method_36_code
theorem jo_Sp_isWetWithout : jok jy_Sp_isWetWithout jb_Sp_isWetWithout 5 (some FieldType.boolean) 3 := ⟨jw_976, jw_1, jmh_0, jpd_45, plainFor_of_name jpn_0⟩
abbrev jb_Sp_encore : ByteArray := prog_1_method_23_code
theorem jo_Sp_encore : jok jy_Sp_encore jb_Sp_encore 5 (some FieldType.int) 2 := ⟨jw_980, jw_1, jmh_0, jpd_23, plainFor_of_name jpn_0⟩
abbrev jb_Sp_trout : ByteArray := prog_1_method_24_code
theorem jo_Sp_trout : jok jy_Sp_trout jb_Sp_trout 6 (some FieldType.int) 3 := ⟨jw_984, jw_1, jmh_0, jpd_37, plainFor_of_name jpn_0⟩
abbrev jb_Sp_swims : ByteArray := prog_1_method_37_code
theorem jo_Sp_swims : jok jy_Sp_swims jb_Sp_swims 7 (some FieldType.boolean) 2 := ⟨jw_988, jw_1, jmh_0, jpd_22, plainFor_of_name jpn_0⟩
abbrev jb_Sp_draw : ByteArray := prog_1_method_38_code
theorem jo_Sp_draw : jok jy_Sp_draw jb_Sp_draw 2 (some FieldType.int) 1 := ⟨jw_992, jw_1, jmh_0, jpd_11, plainFor_of_name jpn_0⟩
abbrev jb_Sp_seed : ByteArray := prog_1_method_25_code
theorem jo_Sp_seed : jok jy_Sp_seed jb_Sp_seed 2 (some FieldType.boolean) 1 := ⟨jw_1000, jw_1, jmh_0, jpd_9, plainFor_of_name jpn_0⟩
abbrev jb_Sp_ask : ByteArray := prog_1_method_26_code
theorem jo_Sp_ask : jok jy_Sp_ask jb_Sp_ask 3 (some FieldType.long) 0 := ⟨jw_1004, jw_1, jmh_0, jpd_46, plainFor_of_name jpn_0⟩
abbrev jb_Qu_answer : ByteArray := prog_8_method_2_code
theorem jo_Qu_answer : jok jy_Qu_answer jb_Qu_answer 4 (some FieldType.long) 1 := ⟨jw_1009, jw_13, jmh_12, jpd_47, plainFor_of_name jpn_12⟩
abbrev jb_Qu_test : ByteArray := prog_8_method_6_code
theorem jo_Qu_test : jok jy_Qu_test jb_Qu_test 3 (some FieldType.boolean) 1 := ⟨jw_1018, jw_13, jmh_12, jpd_9, plainFor_of_name jpn_12⟩
abbrev jb_Qu_both : ByteArray := prog_8_method_7_code
theorem jo_Qu_both : jok jy_Qu_both jb_Qu_both 3 (some FieldType.boolean) 1 := ⟨jw_1022, jw_13, jmh_12, jpd_9, plainFor_of_name jpn_12⟩
abbrev jb_Qu_fact : ByteArray := prog_8_method_8_code
theorem jo_Qu_fact : jok jy_Qu_fact jb_Qu_fact 2 (some FieldType.boolean) 1 := ⟨jw_1026, jw_13, jmh_12, jpd_9, plainFor_of_name jpn_12⟩
abbrev jb_Re_isWord : ByteArray := prog_9_method_12_code
theorem jo_Re_isWord : jok jy_Re_isWord jb_Re_isWord 2 (some FieldType.boolean) 1 := ⟨jw_1031, jw_3, jmh_2, jpd_14, plainFor_of_name jpn_2⟩
abbrev jb_Qu_mayOpen : ByteArray := prog_8_method_5_code
theorem jo_Qu_mayOpen : jok jy_Qu_mayOpen jb_Qu_mayOpen 2 (some FieldType.boolean) 1 := ⟨jw_1035, jw_13, jmh_12, jpd_9, plainFor_of_name jpn_12⟩
abbrev jb_Qu_negation : ByteArray := prog_8_method_9_code
theorem jo_Qu_negation : jok jy_Qu_negation jb_Qu_negation 3 (some FieldType.boolean) 1 := ⟨jw_1040, jw_13, jmh_12, jpd_9, plainFor_of_name jpn_12⟩
abbrev jb_Qu_addNumber : ByteArray := prog_8_method_19_code
theorem jo_Qu_addNumber : jok jy_Qu_addNumber jb_Qu_addNumber 3 none 1 := ⟨jw_1049, jw_13, jmh_12, jpd_7, plainFor_of_name jpn_12⟩
abbrev jb_Qu_comparison : ByteArray := prog_8_method_10_code
theorem jo_Qu_comparison : jok jy_Qu_comparison jb_Qu_comparison 3 (some FieldType.boolean) 1 := ⟨jw_1053, jw_13, jmh_12, jpd_9, plainFor_of_name jpn_12⟩
abbrev jb_Qu_sum : ByteArray := prog_8_method_12_code
theorem jo_Qu_sum : jok jy_Qu_sum jb_Qu_sum 4 (some FieldType.boolean) 1 := ⟨jw_1057, jw_13, jmh_12, jpd_9, plainFor_of_name jpn_12⟩
abbrev jb_Qu_product : ByteArray := prog_8_method_13_code
theorem jo_Qu_product : jok jy_Qu_product jb_Qu_product 4 (some FieldType.boolean) 1 := ⟨jw_1061, jw_13, jmh_12, jpd_9, plainFor_of_name jpn_12⟩
abbrev jb_Qu_part : ByteArray := prog_8_method_14_code
theorem jo_Qu_part : jok jy_Qu_part jb_Qu_part 3 (some FieldType.boolean) 1 := ⟨jw_1065, jw_13, jmh_12, jpd_9, plainFor_of_name jpn_12⟩
abbrev jb_Re_isSomeNumber : ByteArray := prog_9_method_9_code
theorem jo_Re_isSomeNumber : jok jy_Re_isSomeNumber jb_Re_isSomeNumber 1 (some FieldType.boolean) 0 := ⟨jw_1069, jw_3, jmh_2, jpd_13, plainFor_of_name jpn_2⟩
abbrev jb_Qu_bracket : ByteArray := prog_8_method_15_code
theorem jo_Qu_bracket : jok jy_Qu_bracket jb_Qu_bracket 3 (some FieldType.boolean) 2 := ⟨jw_1074, jw_13, jmh_12, jpd_48, plainFor_of_name jpn_12⟩
abbrev jb_Qu_lookUp : ByteArray := prog_8_method_16_code
theorem jo_Qu_lookUp : jok jy_Qu_lookUp jb_Qu_lookUp 5 (some FieldType.boolean) 2 := ⟨jw_1079, jw_13, jmh_12, jpd_22, plainFor_of_name jpn_12⟩
abbrev jb_Qu_waterOf : ByteArray := prog_8_method_17_code
theorem jo_Qu_waterOf : jok jy_Qu_waterOf jb_Qu_waterOf 3 (some FieldType.int) 2 := ⟨jw_1083, jw_13, jmh_12, jpd_23, plainFor_of_name jpn_12⟩
abbrev jb_Qu_boatOf : ByteArray := prog_8_method_18_code
theorem jo_Qu_boatOf : jok jy_Qu_boatOf jb_Qu_boatOf 3 (some FieldType.int) 2 := ⟨jw_1088, jw_13, jmh_12, jpd_23, plainFor_of_name jpn_12⟩
abbrev jb_Qu_addMeasure : ByteArray := prog_8_method_20_code
theorem jo_Qu_addMeasure : jok jy_Qu_addMeasure jb_Qu_addMeasure 4 none 1 := ⟨jw_1094, jw_13, jmh_12, jpd_7, plainFor_of_name jpn_12⟩
abbrev jb_Qu_join : ByteArray := prog_8_method_21_code
theorem jo_Qu_join : jok jy_Qu_join jb_Qu_join 4 none 1 := ⟨jw_1099, jw_13, jmh_12, jpd_49, plainFor_of_name jpn_12⟩
abbrev jb_Qu_joined : ByteArray := prog_8_method_22_code
theorem jo_Qu_joined : jok jy_Qu_joined jb_Qu_joined 3 (some FieldType.int) 3 := ⟨jw_1102, jw_13, jmh_12, jpd_50, plainFor_of_name jpn_12⟩
abbrev jb_Qu_within : ByteArray := prog_8_method_23_code
theorem jo_Qu_within : jok jy_Qu_within jb_Qu_within 2 (some FieldType.int) 1 := ⟨jw_1105, jw_13, jmh_12, jpd_51, plainFor_of_name jpn_12⟩
abbrev jb_JM_floorDiv : ByteArray := prog_16_method_47_code
theorem jo_JM_floorDiv : jok jy_JM_floorDiv jb_JM_floorDiv 3 (some FieldType.int) 2 := ⟨jw_1112, jw_19, jmh_17, jpd_23, by decide +kernel⟩
abbrev jb_Qu_signAmong : ByteArray := prog_8_method_11_code
theorem jo_Qu_signAmong : jok jy_Qu_signAmong jb_Qu_signAmong 3 (some FieldType.char) 1 := ⟨jw_1119, jw_13, jmh_12, jpd_52, plainFor_of_name jpn_12⟩
abbrev jb_Qu_tellTest : ByteArray := prog_8_method_3_code
theorem jo_Qu_tellTest : jok jy_Qu_tellTest jb_Qu_tellTest 6 (some FieldType.long) 1 := ⟨jw_1130, jw_13, jmh_12, jpd_53, plainFor_of_name jpn_12⟩
abbrev jb_Qu_tellSum : ByteArray := prog_8_method_4_code
theorem jo_Qu_tellSum : jok jy_Qu_tellSum jb_Qu_tellSum 8 (some FieldType.long) 1 := ⟨jw_1134, jw_13, jmh_12, jpd_53, plainFor_of_name jpn_12⟩
abbrev jb_Sp_image : ByteArray := prog_1_method_27_code
theorem jo_Sp_image : jok jy_Sp_image jb_Sp_image 5 (some FieldType.int) 0 := ⟨jw_1138, jw_1, jmh_0, jpd_10, plainFor_of_name jpn_0⟩
abbrev jb_Sp_check : ByteArray := prog_1_method_41_code
theorem jo_Sp_check : jok jy_Sp_check jb_Sp_check 4 (some FieldType.int) 2 := ⟨jw_1142, jw_1, jmh_0, jpd_17, plainFor_of_name jpn_0⟩
abbrev jb_Sp_octet : ByteArray := prog_1_method_28_code
theorem jo_Sp_octet : jok jy_Sp_octet jb_Sp_octet 2 (some FieldType.int) 1 := ⟨jw_1146, jw_1, jmh_0, jpd_11, plainFor_of_name jpn_0⟩
abbrev jb_Sp_on : ByteArray := prog_1_method_29_code
theorem jo_Sp_on : jok jy_Sp_on jb_Sp_on 2 (some FieldType.boolean) 0 := ⟨jw_1150, jw_1, jmh_0, jpd_13, plainFor_of_name jpn_0⟩
abbrev jb_Sp_isImage : ByteArray := prog_1_method_39_code
theorem jo_Sp_isImage : jok jy_Sp_isImage jb_Sp_isImage 6 (some FieldType.boolean) 0 := ⟨jw_1154, jw_1, jmh_0, jpd_13, plainFor_of_name jpn_0⟩
abbrev jb_Sp_takeImage : ByteArray := prog_1_method_40_code
theorem jo_Sp_takeImage : jok jy_Sp_takeImage jb_Sp_takeImage 5 none 0 := ⟨jw_1158, jw_1, jmh_0, jpd_0, plainFor_of_name jpn_0⟩
abbrev jb_Mo_init : ByteArray := prog_14_method_1_code
theorem jo_Mo_init : jok jy_Mo_init jb_Mo_init 1 none 0 := ⟨jw_1165, jw_14, jmh_18, jpd_0, plainFor_of_name jpn_18⟩
abbrev jb_Mo_feed : ByteArray := prog_14_method_3_code
theorem jo_Mo_feed : jok jy_Mo_feed jb_Mo_feed 8 (some FieldType.int) 5 := ⟨jw_1473, jw_14, jmh_18, jpd_6, plainFor_of_name jpn_18⟩
abbrev jb_Mo_end : ByteArray := prog_14_method_4_code
theorem jo_Mo_end : jok jy_Mo_end jb_Mo_end 2 (some FieldType.boolean) 1 := ⟨jw_1477, jw_14, jmh_18, jpd_9, plainFor_of_name jpn_18⟩
abbrev jb_Mo_opera : ByteArray := prog_14_method_35_code
theorem jo_Mo_opera : jok jy_Mo_opera jb_Mo_opera 2 (some FieldType.int) 0 := ⟨jw_1481, jw_14, jmh_18, jpd_10, plainFor_of_name jpn_18⟩
abbrev jb_Mo_starts : ByteArray := prog_14_method_34_code
theorem jo_Mo_starts : jok jy_Mo_starts jb_Mo_starts 1 none 0 := ⟨jw_1485, jw_14, jmh_18, jpd_0, plainFor_of_name jpn_18⟩
abbrev jb_Mo_asks : ByteArray := prog_14_method_11_code
theorem jo_Mo_asks : jok jy_Mo_asks jb_Mo_asks 2 none 1 := ⟨jw_1489, jw_14, jmh_18, jpd_54, plainFor_of_name jpn_18⟩
abbrev jb_Mo_takes : ByteArray := prog_14_method_10_code
theorem jo_Mo_takes : jok jy_Mo_takes jb_Mo_takes 2 (some FieldType.boolean) 1 := ⟨jw_1493, jw_14, jmh_18, jpd_55, plainFor_of_name jpn_18⟩
abbrev jb_Mo_isHere : ByteArray := prog_14_method_9_code
theorem jo_Mo_isHere : jok jy_Mo_isHere jb_Mo_isHere 4 (some FieldType.boolean) 1 := ⟨jw_1497, jw_14, jmh_18, jpd_55, plainFor_of_name jpn_18⟩
abbrev jb_Mo_look : ByteArray := prog_14_method_8_code
theorem jo_Mo_look : jok jy_Mo_look jb_Mo_look 1 (some FieldType.int) 0 := ⟨jw_1501, jw_14, jmh_18, jpd_10, plainFor_of_name jpn_18⟩
abbrev jb_Mo_isLetter : ByteArray := prog_14_method_6_code
theorem jo_Mo_isLetter : jok jy_Mo_isLetter jb_Mo_isLetter 1 (some FieldType.boolean) 1 := ⟨jw_1504, jw_14, jmh_18, jpd_9, plainFor_of_name jpn_18⟩
abbrev jb_Mo_fail : ByteArray := prog_14_method_5_code
theorem jo_Mo_fail : jok jy_Mo_fail jb_Mo_fail 3 none 2 := ⟨jw_1508, jw_14, jmh_18, jpd_20, plainFor_of_name jpn_18⟩
abbrev jb_Mo_number : ByteArray := prog_14_method_14_code
theorem jo_Mo_number : jok jy_Mo_number jb_Mo_number 5 (some FieldType.int) 2 := ⟨jw_1512, jw_14, jmh_18, jpd_23, plainFor_of_name jpn_18⟩
abbrev jb_Mo_isDigit : ByteArray := prog_14_method_7_code
theorem jo_Mo_isDigit : jok jy_Mo_isDigit jb_Mo_isDigit 1 (some FieldType.boolean) 1 := ⟨jw_1515, jw_14, jmh_18, jpd_9, plainFor_of_name jpn_18⟩
abbrev jb_Mo_isIn : ByteArray := prog_14_method_2_code
theorem jo_Mo_isIn : jok jy_Mo_isIn jb_Mo_isIn 6 (some FieldType.boolean) 3 := ⟨jw_1518, jw_14, jmh_18, jpd_56, plainFor_of_name jpn_18⟩
abbrev jb_Mo_asksSign : ByteArray := prog_14_method_13_code
theorem jo_Mo_asksSign : jok jy_Mo_asksSign jb_Mo_asksSign 2 none 1 := ⟨jw_1522, jw_14, jmh_18, jpd_7, plainFor_of_name jpn_18⟩
abbrev jb_Mo_takesSign : ByteArray := prog_14_method_12_code
theorem jo_Mo_takesSign : jok jy_Mo_takesSign jb_Mo_takesSign 2 (some FieldType.boolean) 1 := ⟨jw_1526, jw_14, jmh_18, jpd_9, plainFor_of_name jpn_18⟩
abbrev jb_Mo_statementTold : ByteArray := prog_14_method_33_code
theorem jo_Mo_statementTold : jok jy_Mo_statementTold jb_Mo_statementTold 2 none 0 := ⟨jw_1530, jw_14, jmh_18, jpd_0, plainFor_of_name jpn_18⟩
abbrev jb_Mo_cellIsTold : ByteArray := prog_14_method_32_code
theorem jo_Mo_cellIsTold : jok jy_Mo_cellIsTold jb_Mo_cellIsTold 4 none 1 := ⟨jw_1534, jw_14, jmh_18, jpd_57, plainFor_of_name jpn_18⟩
abbrev jb_Mo_cellTold : ByteArray := prog_14_method_19_code
theorem jo_Mo_cellTold : jok jy_Mo_cellTold jb_Mo_cellTold 1 (some FieldType.int) 0 := ⟨jw_1538, jw_14, jmh_18, jpd_10, plainFor_of_name jpn_18⟩
abbrev jb_Mo_deskTold : ByteArray := prog_14_method_27_code
theorem jo_Mo_deskTold : jok jy_Mo_deskTold jb_Mo_deskTold 7 none 1 := ⟨jw_1542, jw_14, jmh_18, jpd_7, plainFor_of_name jpn_18⟩
abbrev jb_Mo_isFull : ByteArray := prog_14_method_17_code
theorem jo_Mo_isFull : jok jy_Mo_isFull jb_Mo_isFull 4 (some FieldType.boolean) 3 := ⟨jw_1546, jw_14, jmh_18, jpd_45, plainFor_of_name jpn_18⟩
abbrev jb_Mo_newName : ByteArray := prog_14_method_18_code
theorem jo_Mo_newName : jok jy_Mo_newName jb_Mo_newName 4 (some FieldType.long) 0 := ⟨jw_1550, jw_14, jmh_18, jpd_46, plainFor_of_name jpn_18⟩
abbrev jb_Mo_name : ByteArray := prog_14_method_16_code
theorem jo_Mo_name : jok jy_Mo_name jb_Mo_name 3 (some FieldType.long) 0 := ⟨jw_1554, jw_14, jmh_18, jpd_46, plainFor_of_name jpn_18⟩
abbrev jb_Mo_isOwnHere : ByteArray := prog_14_method_15_code
theorem jo_Mo_isOwnHere : jok jy_Mo_isOwnHere jb_Mo_isOwnHere 2 (some FieldType.boolean) 0 := ⟨jw_1558, jw_14, jmh_18, jpd_13, plainFor_of_name jpn_18⟩
abbrev jb_Mo_partTold : ByteArray := prog_14_method_26_code
theorem jo_Mo_partTold : jok jy_Mo_partTold jb_Mo_partTold 1 none 0 := ⟨jw_1564, jw_14, jmh_18, jpd_0, plainFor_of_name jpn_18⟩
abbrev jb_Mo_groupTold : ByteArray := prog_14_method_25_code
theorem jo_Mo_groupTold : jok jy_Mo_groupTold jb_Mo_groupTold 4 none 0 := ⟨jw_1568, jw_14, jmh_18, jpd_0, plainFor_of_name jpn_18⟩
abbrev jb_Mo_opens : ByteArray := prog_14_method_23_code
theorem jo_Mo_opens : jok jy_Mo_opens jb_Mo_opens 1 none 0 := ⟨jw_1572, jw_14, jmh_18, jpd_0, plainFor_of_name jpn_18⟩
abbrev jb_Mo_barsTold : ByteArray := prog_14_method_22_code
theorem jo_Mo_barsTold : jok jy_Mo_barsTold jb_Mo_barsTold 2 none 0 := ⟨jw_1576, jw_14, jmh_18, jpd_0, plainFor_of_name jpn_18⟩
abbrev jb_Mo_barOf : ByteArray := prog_14_method_20_code
theorem jo_Mo_barOf : jok jy_Mo_barOf jb_Mo_barOf 1 (some FieldType.int) 1 := ⟨jw_1579, jw_14, jmh_18, jpd_11, plainFor_of_name jpn_18⟩
abbrev jb_Mo_barIs : ByteArray := prog_14_method_21_code
theorem jo_Mo_barIs : jok jy_Mo_barIs jb_Mo_barIs 2 none 1 := ⟨jw_1583, jw_14, jmh_18, jpd_7, plainFor_of_name jpn_18⟩
abbrev jb_Mo_closes : ByteArray := prog_14_method_24_code
theorem jo_Mo_closes : jok jy_Mo_closes jb_Mo_closes 5 none 0 := ⟨jw_1587, jw_14, jmh_18, jpd_0, plainFor_of_name jpn_18⟩
abbrev jb_Mo_sluiceTold : ByteArray := prog_14_method_28_code
theorem jo_Mo_sluiceTold : jok jy_Mo_sluiceTold jb_Mo_sluiceTold 2 none 0 := ⟨jw_1591, jw_14, jmh_18, jpd_0, plainFor_of_name jpn_18⟩
abbrev jb_Mo_millTold : ByteArray := prog_14_method_29_code
theorem jo_Mo_millTold : jok jy_Mo_millTold jb_Mo_millTold 7 none 1 := ⟨jw_1595, jw_14, jmh_18, jpd_7, plainFor_of_name jpn_18⟩
abbrev jb_Mo_boatTold : ByteArray := prog_14_method_30_code
theorem jo_Mo_boatTold : jok jy_Mo_boatTold jb_Mo_boatTold 7 none 1 := ⟨jw_1599, jw_14, jmh_18, jpd_7, plainFor_of_name jpn_18⟩
abbrev jb_Mo_claqueTold : ByteArray := prog_14_method_31_code
theorem jo_Mo_claqueTold : jok jy_Mo_claqueTold jb_Mo_claqueTold 5 none 1 := ⟨jw_1603, jw_14, jmh_18, jpd_7, plainFor_of_name jpn_18⟩
abbrev jb_Mo_stands : ByteArray := prog_14_method_36_code
theorem jo_Mo_stands : jok jy_Mo_stands jb_Mo_stands 2 none 0 := ⟨jw_1607, jw_14, jmh_18, jpd_0, plainFor_of_name jpn_18⟩
abbrev jb_Mo_plays : ByteArray := prog_14_method_52_code
theorem jo_Mo_plays : jok jy_Mo_plays jb_Mo_plays 3 none 0 := ⟨jw_1611, jw_14, jmh_18, jpd_0, plainFor_of_name jpn_18⟩
abbrev jb_Mo_begins : ByteArray := prog_14_method_43_code
theorem jo_Mo_begins : jok jy_Mo_begins jb_Mo_begins 2 none 0 := ⟨jw_1615, jw_14, jmh_18, jpd_0, plainFor_of_name jpn_18⟩
abbrev jb_Mo_notes : ByteArray := prog_14_method_51_code
theorem jo_Mo_notes : jok jy_Mo_notes jb_Mo_notes 3 none 1 := ⟨jw_1619, jw_14, jmh_18, jpd_7, plainFor_of_name jpn_18⟩
abbrev jb_Mo_waterAll : ByteArray := prog_14_method_50_code
theorem jo_Mo_waterAll : jok jy_Mo_waterAll jb_Mo_waterAll 3 (some FieldType.int) 0 := ⟨jw_1623, jw_14, jmh_18, jpd_10, plainFor_of_name jpn_18⟩
abbrev jb_Mo_goes : ByteArray := prog_14_method_48_code
theorem jo_Mo_goes : jok jy_Mo_goes jb_Mo_goes 4 none 1 := ⟨jw_1627, jw_14, jmh_18, jpd_7, plainFor_of_name jpn_18⟩
abbrev jb_Mo_deskMany : ByteArray := prog_14_method_38_code
theorem jo_Mo_deskMany : jok jy_Mo_deskMany jb_Mo_deskMany 1 (some FieldType.int) 0 := ⟨jw_1631, jw_14, jmh_18, jpd_10, plainFor_of_name jpn_18⟩
abbrev jb_Mo_does : ByteArray := prog_14_method_42_code
theorem jo_Mo_does : jok jy_Mo_does jb_Mo_does 4 (some FieldType.int) 2 := ⟨jw_1635, jw_14, jmh_18, jpd_23, plainFor_of_name jpn_18⟩
abbrev jb_Mo_plainly : ByteArray := prog_14_method_41_code
theorem jo_Mo_plainly : jok jy_Mo_plainly jb_Mo_plainly 3 (some FieldType.int) 2 := ⟨jw_1639, jw_14, jmh_18, jpd_23, plainFor_of_name jpn_18⟩
abbrev jb_Mo_barsOf : ByteArray := prog_14_method_40_code
theorem jo_Mo_barsOf : jok jy_Mo_barsOf jb_Mo_barsOf 2 (some FieldType.int) 1 := ⟨jw_1643, jw_14, jmh_18, jpd_11, plainFor_of_name jpn_18⟩
abbrev jb_Mo_flows : ByteArray := prog_14_method_44_code
theorem jo_Mo_flows : jok jy_Mo_flows jb_Mo_flows 4 none 1 := ⟨jw_1647, jw_14, jmh_18, jpd_7, plainFor_of_name jpn_18⟩
abbrev jb_Mo_drinks : ByteArray := prog_14_method_45_code
theorem jo_Mo_drinks : jok jy_Mo_drinks jb_Mo_drinks 4 none 1 := ⟨jw_1651, jw_14, jmh_18, jpd_7, plainFor_of_name jpn_18⟩
abbrev jb_Mo_sails : ByteArray := prog_14_method_47_code
theorem jo_Mo_sails : jok jy_Mo_sails jb_Mo_sails 3 none 1 := ⟨jw_1655, jw_14, jmh_18, jpd_7, plainFor_of_name jpn_18⟩
abbrev jb_Mo_draftOf : ByteArray := prog_14_method_46_code
theorem jo_Mo_draftOf : jok jy_Mo_draftOf jb_Mo_draftOf 2 (some FieldType.int) 1 := ⟨jw_1659, jw_14, jmh_18, jpd_11, plainFor_of_name jpn_18⟩
abbrev jb_Mo_fault : ByteArray := prog_14_method_37_code
theorem jo_Mo_fault : jok jy_Mo_fault jb_Mo_fault 2 (some FieldType.int) 1 := ⟨jw_1663, jw_14, jmh_18, jpd_11, plainFor_of_name jpn_18⟩
abbrev jb_Mo_has : ByteArray := prog_14_method_58_code
theorem jo_Mo_has : jok jy_Mo_has jb_Mo_has 2 (some FieldType.int) 1 := ⟨jw_1667, jw_14, jmh_18, jpd_11, plainFor_of_name jpn_18⟩
abbrev jb_Mo_sluiceMany : ByteArray := prog_14_method_56_code
theorem jo_Mo_sluiceMany : jok jy_Mo_sluiceMany jb_Mo_sluiceMany 3 (some FieldType.int) 0 := ⟨jw_1671, jw_14, jmh_18, jpd_10, plainFor_of_name jpn_18⟩
abbrev jb_Mo_longest : ByteArray := prog_14_method_57_code
theorem jo_Mo_longest : jok jy_Mo_longest jb_Mo_longest 3 (some FieldType.int) 0 := ⟨jw_1675, jw_14, jmh_18, jpd_10, plainFor_of_name jpn_18⟩
abbrev jb_Mo_letter : ByteArray := prog_14_method_59_code
theorem jo_Mo_letter : jok jy_Mo_letter jb_Mo_letter 9 (some FieldType.int) 3 := ⟨jw_1679, jw_14, jmh_18, jpd_37, plainFor_of_name jpn_18⟩
abbrev jb_Mo_desk : ByteArray := prog_14_method_60_code
theorem jo_Mo_desk : jok jy_Mo_desk jb_Mo_desk 3 (some FieldType.int) 2 := ⟨jw_1685, jw_14, jmh_18, jpd_23, plainFor_of_name jpn_18⟩
abbrev jb_Mo_isDesk : ByteArray := prog_14_method_39_code
theorem jo_Mo_isDesk : jok jy_Mo_isDesk jb_Mo_isDesk 2 (some FieldType.boolean) 1 := ⟨jw_1689, jw_14, jmh_18, jpd_9, plainFor_of_name jpn_18⟩
abbrev jb_Mo_deep : ByteArray := prog_14_method_61_code
theorem jo_Mo_deep : jok jy_Mo_deep jb_Mo_deep 3 (some FieldType.int) 2 := ⟨jw_1695, jw_14, jmh_18, jpd_23, plainFor_of_name jpn_18⟩
abbrev jb_Mo_isCell : ByteArray := prog_14_method_54_code
theorem jo_Mo_isCell : jok jy_Mo_isCell jb_Mo_isCell 2 (some FieldType.boolean) 1 := ⟨jw_1699, jw_14, jmh_18, jpd_9, plainFor_of_name jpn_18⟩
abbrev jb_Mo_isBar : ByteArray := prog_14_method_53_code
theorem jo_Mo_isBar : jok jy_Mo_isBar jb_Mo_isBar 1 (some FieldType.boolean) 1 := ⟨jw_1702, jw_14, jmh_18, jpd_9, plainFor_of_name jpn_18⟩
abbrev jb_Mo_cell : ByteArray := prog_14_method_62_code
theorem jo_Mo_cell : jok jy_Mo_cell jb_Mo_cell 3 (some FieldType.int) 2 := ⟨jw_1706, jw_14, jmh_18, jpd_23, plainFor_of_name jpn_18⟩
abbrev jb_Mo_sums : ByteArray := prog_14_method_63_code
theorem jo_Mo_sums : jok jy_Mo_sums jb_Mo_sums 3 (some FieldType.int) 2 := ⟨jw_1710, jw_14, jmh_18, jpd_23, plainFor_of_name jpn_18⟩
abbrev jb_Mo_led : ByteArray := prog_14_method_64_code
theorem jo_Mo_led : jok jy_Mo_led jb_Mo_led 5 (some FieldType.int) 2 := ⟨jw_1714, jw_14, jmh_18, jpd_23, plainFor_of_name jpn_18⟩
abbrev jb_Mo_boat : ByteArray := prog_14_method_66_code
theorem jo_Mo_boat : jok jy_Mo_boat jb_Mo_boat 4 (some FieldType.int) 3 := ⟨jw_1718, jw_14, jmh_18, jpd_38, plainFor_of_name jpn_18⟩
abbrev jb_Mo_isBoat : ByteArray := prog_14_method_55_code
theorem jo_Mo_isBoat : jok jy_Mo_isBoat jb_Mo_isBoat 2 (some FieldType.boolean) 1 := ⟨jw_1722, jw_14, jmh_18, jpd_9, plainFor_of_name jpn_18⟩
abbrev jb_Mo_isAground : ByteArray := prog_14_method_65_code
theorem jo_Mo_isAground : jok jy_Mo_isAground jb_Mo_isAground 3 (some FieldType.boolean) 2 := ⟨jw_1726, jw_14, jmh_18, jpd_22, plainFor_of_name jpn_18⟩
abbrev jb_Mo_first : ByteArray := prog_14_method_67_code
theorem jo_Mo_first : jok jy_Mo_first jb_Mo_first 4 (some FieldType.int) 2 := ⟨jw_1730, jw_14, jmh_18, jpd_23, plainFor_of_name jpn_18⟩
abbrev jb_Mo_turning : ByteArray := prog_14_method_68_code
theorem jo_Mo_turning : jok jy_Mo_turning jb_Mo_turning 5 (some FieldType.int) 2 := ⟨jw_1734, jw_14, jmh_18, jpd_23, plainFor_of_name jpn_18⟩
abbrev jb_Mo_undo : ByteArray := prog_14_method_70_code
theorem jo_Mo_undo : jok jy_Mo_undo jb_Mo_undo 2 (some FieldType.boolean) 0 := ⟨jw_1738, jw_14, jmh_18, jpd_13, plainFor_of_name jpn_18⟩
abbrev jb_Mo_mark : ByteArray := prog_14_method_71_code
theorem jo_Mo_mark : jok jy_Mo_mark jb_Mo_mark 9 (some FieldType.int) 4 := ⟨jw_1742, jw_14, jmh_18, jpd_39, plainFor_of_name jpn_18⟩
abbrev jb_Mo_keeps : ByteArray := prog_14_method_69_code
theorem jo_Mo_keeps : jok jy_Mo_keeps jb_Mo_keeps 2 none 0 := ⟨jw_1746, jw_14, jmh_18, jpd_0, plainFor_of_name jpn_18⟩
abbrev jb_Mo_teach : ByteArray := prog_14_method_72_code
theorem jo_Mo_teach : jok jy_Mo_teach jb_Mo_teach 3 (some FieldType.int) 1 := ⟨jw_1750, jw_14, jmh_18, jpd_11, plainFor_of_name jpn_18⟩
abbrev jb_Mo_stop : ByteArray := prog_14_method_77_code
theorem jo_Mo_stop : jok jy_Mo_stop jb_Mo_stop 4 (some FieldType.int) 3 := ⟨jw_1754, jw_14, jmh_18, jpd_37, plainFor_of_name jpn_18⟩
abbrev jb_Mo_setTold : ByteArray := prog_14_method_76_code
theorem jo_Mo_setTold : jok jy_Mo_setTold jb_Mo_setTold 6 (some FieldType.int) 4 := ⟨jw_1758, jw_14, jmh_18, jpd_39, plainFor_of_name jpn_18⟩
abbrev jb_Mo_leastSet : ByteArray := prog_14_method_75_code
theorem jo_Mo_leastSet : jok jy_Mo_leastSet jb_Mo_leastSet 7 (some FieldType.int) 3 := ⟨jw_1762, jw_14, jmh_18, jpd_38, plainFor_of_name jpn_18⟩
abbrev jb_Mo_bits : ByteArray := prog_14_method_73_code
theorem jo_Mo_bits : jok jy_Mo_bits jb_Mo_bits 3 (some FieldType.int) 1 := ⟨jw_1765, jw_14, jmh_18, jpd_11, plainFor_of_name jpn_18⟩
abbrev jb_Mo_isSo : ByteArray := prog_14_method_74_code
theorem jo_Mo_isSo : jok jy_Mo_isSo jb_Mo_isSo 4 (some FieldType.boolean) 3 := ⟨jw_1769, jw_14, jmh_18, jpd_58, plainFor_of_name jpn_18⟩
abbrev jb_Mo_goesTo : ByteArray := prog_14_method_49_code
theorem jo_Mo_goesTo : jok jy_Mo_goesTo jb_Mo_goesTo 3 none 1 := ⟨jw_1773, jw_14, jmh_18, jpd_7, plainFor_of_name jpn_18⟩
abbrev jb_Mo_bring : ByteArray := prog_14_method_78_code
theorem jo_Mo_bring : jok jy_Mo_bring jb_Mo_bring 4 (some FieldType.int) 3 := ⟨jw_1777, jw_14, jmh_18, jpd_37, plainFor_of_name jpn_18⟩
abbrev jb_Mo_wet : ByteArray := prog_14_method_79_code
theorem jo_Mo_wet : jok jy_Mo_wet jb_Mo_wet 3 (some FieldType.boolean) 0 := ⟨jw_1781, jw_14, jmh_18, jpd_13, plainFor_of_name jpn_18⟩
abbrev jb_Mo_early : ByteArray := prog_14_method_82_code
theorem jo_Mo_early : jok jy_Mo_early jb_Mo_early 6 (some FieldType.int) 2 := ⟨jw_1785, jw_14, jmh_18, jpd_23, plainFor_of_name jpn_18⟩
abbrev jb_Mo_isEarly : ByteArray := prog_14_method_81_code
theorem jo_Mo_isEarly : jok jy_Mo_isEarly jb_Mo_isEarly 4 (some FieldType.boolean) 3 := ⟨jw_1789, jw_14, jmh_18, jpd_45, plainFor_of_name jpn_18⟩
abbrev jb_Mo_isAsWet : ByteArray := prog_14_method_80_code
theorem jo_Mo_isAsWet : jok jy_Mo_isAsWet jb_Mo_isAsWet 2 (some FieldType.boolean) 0 := ⟨jw_1793, jw_14, jmh_18, jpd_13, plainFor_of_name jpn_18⟩
abbrev jb_Mo_encore : ByteArray := prog_14_method_83_code
theorem jo_Mo_encore : jok jy_Mo_encore jb_Mo_encore 5 (some FieldType.int) 2 := ⟨jw_1797, jw_14, jmh_18, jpd_23, plainFor_of_name jpn_18⟩
abbrev jb_Mo_seed : ByteArray := prog_14_method_84_code
theorem jo_Mo_seed : jok jy_Mo_seed jb_Mo_seed 2 (some FieldType.boolean) 1 := ⟨jw_1802, jw_14, jmh_18, jpd_9, plainFor_of_name jpn_18⟩
abbrev jb_Mo_trout : ByteArray := prog_14_method_87_code
theorem jo_Mo_trout : jok jy_Mo_trout jb_Mo_trout 6 (some FieldType.int) 3 := ⟨jw_1806, jw_14, jmh_18, jpd_37, plainFor_of_name jpn_18⟩
abbrev jb_Mo_isLeft : ByteArray := prog_14_method_86_code
theorem jo_Mo_isLeft : jok jy_Mo_isLeft jb_Mo_isLeft 7 (some FieldType.boolean) 2 := ⟨jw_1811, jw_14, jmh_18, jpd_22, plainFor_of_name jpn_18⟩
abbrev jb_Mo_drawOf : ByteArray := prog_14_method_85_code
theorem jo_Mo_drawOf : jok jy_Mo_drawOf jb_Mo_drawOf 2 (some FieldType.int) 1 := ⟨jw_1815, jw_14, jmh_18, jpd_11, plainFor_of_name jpn_18⟩
abbrev jb_Mo_ask : ByteArray := prog_14_method_116_code
theorem jo_Mo_ask : jok jy_Mo_ask jb_Mo_ask 3 (some FieldType.long) 0 := ⟨jw_1823, jw_14, jmh_18, jpd_46, plainFor_of_name jpn_18⟩
abbrev jb_Mo_qKind : ByteArray := prog_14_method_114_code
theorem jo_Mo_qKind : jok jy_Mo_qKind jb_Mo_qKind 2 (some FieldType.int) 0 := ⟨jw_1828, jw_14, jmh_18, jpd_10, plainFor_of_name jpn_18⟩
abbrev jb_Mo_qTest : ByteArray := prog_14_method_105_code
theorem jo_Mo_qTest : jok jy_Mo_qTest jb_Mo_qTest 3 none 0 := ⟨jw_1832, jw_14, jmh_18, jpd_0, plainFor_of_name jpn_18⟩
abbrev jb_Mo_qOpens : ByteArray := prog_14_method_89_code
theorem jo_Mo_qOpens : jok jy_Mo_qOpens jb_Mo_qOpens 3 none 2 := ⟨jw_1836, jw_14, jmh_18, jpd_20, plainFor_of_name jpn_18⟩
abbrev jb_Mo_qFact : ByteArray := prog_14_method_102_code
theorem jo_Mo_qFact : jok jy_Mo_qFact jb_Mo_qFact 2 none 0 := ⟨jw_1840, jw_14, jmh_18, jpd_0, plainFor_of_name jpn_18⟩
abbrev jb_Mo_qCode : ByteArray := prog_14_method_88_code
theorem jo_Mo_qCode : jok jy_Mo_qCode jb_Mo_qCode 2 none 1 := ⟨jw_1844, jw_14, jmh_18, jpd_7, plainFor_of_name jpn_18⟩
abbrev jb_Mo_qSums : ByteArray := prog_14_method_101_code
theorem jo_Mo_qSums : jok jy_Mo_qSums jb_Mo_qSums 3 none 0 := ⟨jw_1848, jw_14, jmh_18, jpd_0, plainFor_of_name jpn_18⟩
abbrev jb_Mo_qPartTold : ByteArray := prog_14_method_99_code
theorem jo_Mo_qPartTold : jok jy_Mo_qPartTold jb_Mo_qPartTold 6 none 0 := ⟨jw_1852, jw_14, jmh_18, jpd_0, plainFor_of_name jpn_18⟩
abbrev jb_Mo_qWordOf : ByteArray := prog_14_method_96_code
theorem jo_Mo_qWordOf : jok jy_Mo_qWordOf jb_Mo_qWordOf 4 (some FieldType.int) 2 := ⟨jw_1856, jw_14, jmh_18, jpd_23, plainFor_of_name jpn_18⟩
abbrev jb_Mo_qWordHere : ByteArray := prog_14_method_95_code
theorem jo_Mo_qWordHere : jok jy_Mo_qWordHere jb_Mo_qWordHere 1 (some FieldType.int) 0 := ⟨jw_1860, jw_14, jmh_18, jpd_10, plainFor_of_name jpn_18⟩
abbrev jb_Mo_qAsksWord : ByteArray := prog_14_method_97_code
theorem jo_Mo_qAsksWord : jok jy_Mo_qAsksWord jb_Mo_qAsksWord 2 none 1 := ⟨jw_1864, jw_14, jmh_18, jpd_7, plainFor_of_name jpn_18⟩
abbrev jb_Mo_qEndsPart : ByteArray := prog_14_method_98_code
theorem jo_Mo_qEndsPart : jok jy_Mo_qEndsPart jb_Mo_qEndsPart 1 none 0 := ⟨jw_1868, jw_14, jmh_18, jpd_0, plainFor_of_name jpn_18⟩
abbrev jb_Mo_qDrops : ByteArray := prog_14_method_91_code
theorem jo_Mo_qDrops : jok jy_Mo_qDrops jb_Mo_qDrops 1 none 0 := ⟨jw_1872, jw_14, jmh_18, jpd_0, plainFor_of_name jpn_18⟩
abbrev jb_Mo_qGoesOn : ByteArray := prog_14_method_100_code
theorem jo_Mo_qGoesOn : jok jy_Mo_qGoesOn jb_Mo_qGoesOn 2 (some FieldType.boolean) 0 := ⟨jw_1876, jw_14, jmh_18, jpd_13, plainFor_of_name jpn_18⟩
abbrev jb_Mo_qBracket : ByteArray := prog_14_method_93_code
theorem jo_Mo_qBracket : jok jy_Mo_qBracket jb_Mo_qBracket 2 (some FieldType.int) 0 := ⟨jw_1880, jw_14, jmh_18, jpd_10, plainFor_of_name jpn_18⟩
abbrev jb_Mo_qIsBracket : ByteArray := prog_14_method_92_code
theorem jo_Mo_qIsBracket : jok jy_Mo_qIsBracket jb_Mo_qIsBracket 1 (some FieldType.boolean) 1 := ⟨jw_1883, jw_14, jmh_18, jpd_9, plainFor_of_name jpn_18⟩
abbrev jb_Mo_qDropsToBracket : ByteArray := prog_14_method_94_code
theorem jo_Mo_qDropsToBracket : jok jy_Mo_qDropsToBracket jb_Mo_qDropsToBracket 1 none 0 := ⟨jw_1887, jw_14, jmh_18, jpd_0, plainFor_of_name jpn_18⟩
abbrev jb_Mo_qIsOn : ByteArray := prog_14_method_90_code
theorem jo_Mo_qIsOn : jok jy_Mo_qIsOn jb_Mo_qIsOn 2 (some FieldType.boolean) 1 := ⟨jw_1891, jw_14, jmh_18, jpd_9, plainFor_of_name jpn_18⟩
abbrev jb_Mo_qDropsNots : ByteArray := prog_14_method_104_code
theorem jo_Mo_qDropsNots : jok jy_Mo_qDropsNots jb_Mo_qDropsNots 1 none 0 := ⟨jw_1895, jw_14, jmh_18, jpd_0, plainFor_of_name jpn_18⟩
abbrev jb_Mo_qGoesOnTest : ByteArray := prog_14_method_106_code
theorem jo_Mo_qGoesOnTest : jok jy_Mo_qGoesOnTest jb_Mo_qGoesOnTest 1 (some FieldType.boolean) 0 := ⟨jw_1899, jw_14, jmh_18, jpd_13, plainFor_of_name jpn_18⟩
abbrev jb_Mo_qHasSquare : ByteArray := prog_14_method_103_code
theorem jo_Mo_qHasSquare : jok jy_Mo_qHasSquare jb_Mo_qHasSquare 2 (some FieldType.boolean) 0 := ⟨jw_1903, jw_14, jmh_18, jpd_13, plainFor_of_name jpn_18⟩
abbrev jb_Mo_qTold : ByteArray := prog_14_method_113_code
theorem jo_Mo_qTold : jok jy_Mo_qTold jb_Mo_qTold 4 (some FieldType.long) 1 := ⟨jw_1907, jw_14, jmh_18, jpd_53, plainFor_of_name jpn_18⟩
abbrev jb_Mo_qPuts : ByteArray := prog_14_method_109_code
theorem jo_Mo_qPuts : jok jy_Mo_qPuts jb_Mo_qPuts 3 none 1 := ⟨jw_1911, jw_14, jmh_18, jpd_59, plainFor_of_name jpn_18⟩
abbrev jb_Mo_qOf : ByteArray := prog_14_method_112_code
theorem jo_Mo_qOf : jok jy_Mo_qOf jb_Mo_qOf 5 (some FieldType.long) 3 := ⟨jw_1915, jw_14, jmh_18, jpd_60, plainFor_of_name jpn_18⟩
abbrev jb_Mo_qClip : ByteArray := prog_14_method_107_code
theorem jo_Mo_qClip : jok jy_Mo_qClip jb_Mo_qClip 2 (some FieldType.long) 1 := ⟨jw_1918, jw_14, jmh_18, jpd_61, plainFor_of_name jpn_18⟩
abbrev jb_Mo_qPartOf : ByteArray := prog_14_method_111_code
theorem jo_Mo_qPartOf : jok jy_Mo_qPartOf jb_Mo_qPartOf 3 (some FieldType.long) 2 := ⟨jw_1924, jw_14, jmh_18, jpd_62, plainFor_of_name jpn_18⟩
abbrev jb_Mo_qJoins : ByteArray := prog_14_method_110_code
theorem jo_Mo_qJoins : jok jy_Mo_qJoins jb_Mo_qJoins 6 none 1 := ⟨jw_1928, jw_14, jmh_18, jpd_7, plainFor_of_name jpn_18⟩
abbrev jb_Mo_qFloor : ByteArray := prog_14_method_108_code
theorem jo_Mo_qFloor : jok jy_Mo_qFloor jb_Mo_qFloor 6 (some FieldType.long) 2 := ⟨jw_1931, jw_14, jmh_18, jpd_63, plainFor_of_name jpn_18⟩
abbrev jb_Mo_qTakes : ByteArray := prog_14_method_115_code
theorem jo_Mo_qTakes : jok jy_Mo_qTakes jb_Mo_qTakes 6 none 3 := ⟨jw_1935, jw_14, jmh_18, jpd_64, plainFor_of_name jpn_18⟩
abbrev jb_Mo_image : ByteArray := prog_14_method_118_code
theorem jo_Mo_image : jok jy_Mo_image jb_Mo_image 3 (some FieldType.int) 0 := ⟨jw_1939, jw_14, jmh_18, jpd_10, plainFor_of_name jpn_18⟩
abbrev jb_Mo_checked : ByteArray := prog_14_method_117_code
theorem jo_Mo_checked : jok jy_Mo_checked jb_Mo_checked 4 (some FieldType.int) 2 := ⟨jw_1942, jw_14, jmh_18, jpd_17, plainFor_of_name jpn_18⟩
abbrev jb_Mo_octet : ByteArray := prog_14_method_119_code
theorem jo_Mo_octet : jok jy_Mo_octet jb_Mo_octet 2 (some FieldType.int) 1 := ⟨jw_1946, jw_14, jmh_18, jpd_11, plainFor_of_name jpn_18⟩
abbrev jb_Mo_on : ByteArray := prog_14_method_121_code
theorem jo_Mo_on : jok jy_Mo_on jb_Mo_on 6 (some FieldType.boolean) 0 := ⟨jw_1950, jw_14, jmh_18, jpd_13, plainFor_of_name jpn_18⟩
abbrev jb_Mo_isTold : ByteArray := prog_14_method_120_code
theorem jo_Mo_isTold : jok jy_Mo_isTold jb_Mo_isTold 5 (some FieldType.boolean) 1 := ⟨jw_1954, jw_14, jmh_18, jpd_9, plainFor_of_name jpn_18⟩
theorem jone_0 {i : Nat} (h : jkd i 0) : i = 108 := (by decide +kernel : ∀ i, i < 430 → (jsh i).1 = 0 → (i = 108)) i h.1 h.2
theorem jkf_0_0 {i : Nat} (h : jkd i 0) : jkd (jpf i 0) 100 := by rw [jone_0 h]; decide +kernel
theorem jkf_0_1 {i : Nat} (h : jkd i 0) : jkd (jpf i 1) 100 := by rw [jone_0 h]; decide +kernel
theorem jkf_0_2 {i : Nat} (h : jkd i 0) : jkd (jpf i 2) 103 := by rw [jone_0 h]; decide +kernel
theorem jone_1 {i : Nat} (h : jkd i 1) : i = 7 ∨ i = 57 := (by decide +kernel : ∀ i, i < 430 → (jsh i).1 = 1 → (i = 7 ∨ i = 57)) i h.1 h.2
theorem jkf_1_5 {i : Nat} (h : jkd i 1) : jkd (jpf i 5) 100 := by rcases jone_1 h with rfl | rfl <;> decide +kernel
theorem jkf_1_6 {i : Nat} (h : jkd i 1) : jkd (jpf i 6) 100 := by rcases jone_1 h with rfl | rfl <;> decide +kernel
theorem jkf_1_7 {i : Nat} (h : jkd i 1) : jkd (jpf i 7) 100 := by rcases jone_1 h with rfl | rfl <;> decide +kernel
theorem jkf_1_8 {i : Nat} (h : jkd i 1) : jkd (jpf i 8) 100 := by rcases jone_1 h with rfl | rfl <;> decide +kernel
theorem jkf_1_9 {i : Nat} (h : jkd i 1) : jkd (jpf i 9) 103 := by rcases jone_1 h with rfl | rfl <;> decide +kernel
theorem jkf_1_10 {i : Nat} (h : jkd i 1) : jkd (jpf i 10) 9 := by rcases jone_1 h with rfl | rfl <;> decide +kernel
theorem jkf_1_11 {i : Nat} (h : jkd i 1) : jkd (jpf i 11) 9 := by rcases jone_1 h with rfl | rfl <;> decide +kernel
theorem jkf_1_12 {i : Nat} (h : jkd i 1) : jkd (jpf i 12) 9 := by rcases jone_1 h with rfl | rfl <;> decide +kernel
theorem jkf_1_13 {i : Nat} (h : jkd i 1) : jkd (jpf i 13) 4 := by rcases jone_1 h with rfl | rfl <;> decide +kernel
theorem jone_2 {i : Nat} (h : jkd i 2) : i = 107 := (by decide +kernel : ∀ i, i < 430 → (jsh i).1 = 2 → (i = 107)) i h.1 h.2
theorem jkf_2_0 {i : Nat} (h : jkd i 2) : jkd (jpf i 0) 7 := by rw [jone_2 h]; decide +kernel
theorem jkf_2_1 {i : Nat} (h : jkd i 2) : jkd (jpf i 1) 3 := by rw [jone_2 h]; decide +kernel
theorem jone_3 {i : Nat} (h : jkd i 3) : i = 5 := (by decide +kernel : ∀ i, i < 430 → (jsh i).1 = 3 → (i = 5)) i h.1 h.2
theorem jkf_3_0 {i : Nat} (h : jkd i 3) : jkd (jpf i 0) 7 := by rw [jone_3 h]; decide +kernel
theorem jkf_3_1 {i : Nat} (h : jkd i 3) : jkd (jpf i 1) 100 := by rw [jone_3 h]; decide +kernel
theorem jone_4 {i : Nat} (h : jkd i 4) : i = 46 ∨ i = 96 := (by decide +kernel : ∀ i, i < 430 → (jsh i).1 = 4 → (i = 46 ∨ i = 96)) i h.1 h.2
theorem jkf_4_0 {i : Nat} (h : jkd i 4) : jkd (jpf i 0) 103 := by rcases jone_4 h with rfl | rfl <;> decide +kernel
theorem jkf_4_1 {i : Nat} (h : jkd i 4) : jkd (jpf i 1) 100 := by rcases jone_4 h with rfl | rfl <;> decide +kernel
theorem jone_5 {i : Nat} (h : jkd i 5) : i = 319 := (by decide +kernel : ∀ i, i < 430 → (jsh i).1 = 5 → (i = 319)) i h.1 h.2
theorem jkf_5_0 {i : Nat} (h : jkd i 5) : jkd (jpf i 0) 100 := by rw [jone_5 h]; decide +kernel
theorem jkf_5_1 {i : Nat} (h : jkd i 5) : jkd (jpf i 1) 100 := by rw [jone_5 h]; decide +kernel
theorem jone_6 {i : Nat} (h : jkd i 6) : i = 322 := (by decide +kernel : ∀ i, i < 430 → (jsh i).1 = 6 → (i = 322)) i h.1 h.2
theorem jkf_6_0 {i : Nat} (h : jkd i 6) : jkd (jpf i 0) 7 := by rw [jone_6 h]; decide +kernel
theorem jkf_6_1 {i : Nat} (h : jkd i 6) : jkd (jpf i 1) 8 := by rw [jone_6 h]; decide +kernel
theorem jkf_6_2 {i : Nat} (h : jkd i 6) : jkd (jpf i 2) 103 := by rw [jone_6 h]; decide +kernel
theorem jone_7 {i : Nat} (h : jkd i 7) : i = 3 := (by decide +kernel : ∀ i, i < 430 → (jsh i).1 = 7 → (i = 3)) i h.1 h.2
theorem jkf_7_0 {i : Nat} (h : jkd i 7) : jkd (jpf i 0) 10 := by rw [jone_7 h]; decide +kernel
theorem jkf_7_2 {i : Nat} (h : jkd i 7) : jkd (jpf i 2) 100 := by rw [jone_7 h]; decide +kernel
theorem jone_8 {i : Nat} (h : jkd i 8) : i = 132 := (by decide +kernel : ∀ i, i < 430 → (jsh i).1 = 8 → (i = 132)) i h.1 h.2
theorem jkf_8_0 {i : Nat} (h : jkd i 8) : jkd (jpf i 0) 103 := by rw [jone_8 h]; decide +kernel
theorem jkf_8_1 {i : Nat} (h : jkd i 8) : jkd (jpf i 1) 103 := by rw [jone_8 h]; decide +kernel
theorem jkf_8_2 {i : Nat} (h : jkd i 8) : jkd (jpf i 2) 103 := by rw [jone_8 h]; decide +kernel
theorem jone_9 {i : Nat} (h : jkd i 9) : i = 37 ∨ i = 40 ∨ i = 43 ∨ i = 87 ∨ i = 90 ∨ i = 93 := (by decide +kernel : ∀ i, i < 430 → (jsh i).1 = 9 → (i = 37 ∨ i = 40 ∨ i = 43 ∨ i = 87 ∨ i = 90 ∨ i = 93)) i h.1 h.2
theorem jkf_9_0 {i : Nat} (h : jkd i 9) : jkd (jpf i 0) 100 := by rcases jone_9 h with rfl | rfl | rfl | rfl | rfl | rfl <;> decide +kernel
theorem jkf_9_1 {i : Nat} (h : jkd i 9) : jkd (jpf i 1) 100 := by rcases jone_9 h with rfl | rfl | rfl | rfl | rfl | rfl <;> decide +kernel
theorem jone_10 {i : Nat} (h : jkd i 10) : i = 1 := (by decide +kernel : ∀ i, i < 430 → (jsh i).1 = 10 → (i = 1)) i h.1 h.2
theorem jkf_10_0 {i : Nat} (h : jkd i 10) : jkd (jpf i 0) 100 := by rw [jone_10 h]; decide +kernel
theorem jone_11 {i : Nat} (h : jkd i 11) : i = 0 := (by decide +kernel : ∀ i, i < 430 → (jsh i).1 = 11 → (i = 0)) i h.1 h.2
theorem jkf_11_0 {i : Nat} (h : jkd i 11) : jkd (jpf i 0) 10 := by rw [jone_11 h]; decide +kernel
theorem jkf_11_1 {i : Nat} (h : jkd i 11) : jkd (jpf i 1) 7 := by rw [jone_11 h]; decide +kernel
theorem jkf_11_2 {i : Nat} (h : jkd i 11) : jkd (jpf i 2) 3 := by rw [jone_11 h]; decide +kernel
theorem jkf_11_3 {i : Nat} (h : jkd i 11) : jkd (jpf i 3) 2 := by rw [jone_11 h]; decide +kernel
theorem jkf_11_4 {i : Nat} (h : jkd i 11) : jkd (jpf i 4) 6 := by rw [jone_11 h]; decide +kernel
theorem jkf_11_5 {i : Nat} (h : jkd i 11) : jkd (jpf i 5) 0 := by rw [jone_11 h]; decide +kernel
theorem jkf_11_6 {i : Nat} (h : jkd i 11) : jkd (jpf i 6) 8 := by rw [jone_11 h]; decide +kernel
theorem jkf_11_7 {i : Nat} (h : jkd i 11) : jkd (jpf i 7) 5 := by rw [jone_11 h]; decide +kernel
theorem jkf_11_10 {i : Nat} (h : jkd i 11) : jkd (jpf i 10) 100 := by rw [jone_11 h]; decide +kernel
theorem jkf_11_13 {i : Nat} (h : jkd i 11) : jkd (jpf i 13) 100 := by rw [jone_11 h]; decide +kernel
theorem jone_12 {i : Nat} (h : jkd i 12) : i = 366 := (by decide +kernel : ∀ i, i < 430 → (jsh i).1 = 12 → (i = 366)) i h.1 h.2
theorem jkf_12_0 {i : Nat} (h : jkd i 12) : jkd (jpf i 0) 100 := by rw [jone_12 h]; decide +kernel
theorem jkf_12_10 {i : Nat} (h : jkd i 12) : jkd (jpf i 10) 102 := by rw [jone_12 h]; decide +kernel
theorem jkf_12_11 {i : Nat} (h : jkd i 12) : jkd (jpf i 11) 102 := by rw [jone_12 h]; decide +kernel
theorem jkf_12_12 {i : Nat} (h : jkd i 12) : jkd (jpf i 12) 102 := by rw [jone_12 h]; decide +kernel
theorem jkf_12_13 {i : Nat} (h : jkd i 12) : jkd (jpf i 13) 102 := by rw [jone_12 h]; decide +kernel
theorem jkf_12_14 {i : Nat} (h : jkd i 12) : jkd (jpf i 14) 102 := by rw [jone_12 h]; decide +kernel
theorem jkf_12_15 {i : Nat} (h : jkd i 12) : jkd (jpf i 15) 102 := by rw [jone_12 h]; decide +kernel
theorem jkf_12_16 {i : Nat} (h : jkd i 12) : jkd (jpf i 16) 102 := by rw [jone_12 h]; decide +kernel
theorem jkf_12_17 {i : Nat} (h : jkd i 12) : jkd (jpf i 17) 102 := by rw [jone_12 h]; decide +kernel
theorem jkf_12_18 {i : Nat} (h : jkd i 12) : jkd (jpf i 18) 102 := by rw [jone_12 h]; decide +kernel
theorem jkf_12_19 {i : Nat} (h : jkd i 12) : jkd (jpf i 19) 102 := by rw [jone_12 h]; decide +kernel
theorem jkf_12_20 {i : Nat} (h : jkd i 12) : jkd (jpf i 20) 102 := by rw [jone_12 h]; decide +kernel
theorem jkf_12_21 {i : Nat} (h : jkd i 12) : jkd (jpf i 21) 102 := by rw [jone_12 h]; decide +kernel
theorem jkf_12_22 {i : Nat} (h : jkd i 12) : jkd (jpf i 22) 102 := by rw [jone_12 h]; decide +kernel
theorem jkf_12_23 {i : Nat} (h : jkd i 12) : jkd (jpf i 23) 102 := by rw [jone_12 h]; decide +kernel
theorem jkf_12_24 {i : Nat} (h : jkd i 12) : jkd (jpf i 24) 102 := by rw [jone_12 h]; decide +kernel
theorem jkf_12_25 {i : Nat} (h : jkd i 12) : jkd (jpf i 25) 102 := by rw [jone_12 h]; decide +kernel
theorem jkf_12_26 {i : Nat} (h : jkd i 12) : jkd (jpf i 26) 102 := by rw [jone_12 h]; decide +kernel
theorem jkf_12_28 {i : Nat} (h : jkd i 12) : jkd (jpf i 28) 100 := by rw [jone_12 h]; decide +kernel
theorem jkf_12_29 {i : Nat} (h : jkd i 12) : jkd (jpf i 29) 101 := by rw [jone_12 h]; decide +kernel
theorem jkf_12_32 {i : Nat} (h : jkd i 12) : jkd (jpf i 32) 100 := by rw [jone_12 h]; decide +kernel
theorem jkf_12_33 {i : Nat} (h : jkd i 12) : jkd (jpf i 33) 100 := by rw [jone_12 h]; decide +kernel
theorem jkf_12_34 {i : Nat} (h : jkd i 12) : jkd (jpf i 34) 100 := by rw [jone_12 h]; decide +kernel
theorem jkf_12_35 {i : Nat} (h : jkd i 12) : jkd (jpf i 35) 100 := by rw [jone_12 h]; decide +kernel
theorem jkf_12_36 {i : Nat} (h : jkd i 12) : jkd (jpf i 36) 100 := by rw [jone_12 h]; decide +kernel
theorem jkf_12_37 {i : Nat} (h : jkd i 12) : jkd (jpf i 37) 100 := by rw [jone_12 h]; decide +kernel
theorem jkf_12_38 {i : Nat} (h : jkd i 12) : jkd (jpf i 38) 100 := by rw [jone_12 h]; decide +kernel
theorem jkf_12_39 {i : Nat} (h : jkd i 12) : jkd (jpf i 39) 100 := by rw [jone_12 h]; decide +kernel
theorem jkf_12_40 {i : Nat} (h : jkd i 12) : jkd (jpf i 40) 100 := by rw [jone_12 h]; decide +kernel
theorem jkf_12_41 {i : Nat} (h : jkd i 12) : jkd (jpf i 41) 100 := by rw [jone_12 h]; decide +kernel
theorem jkf_12_43 {i : Nat} (h : jkd i 12) : jkd (jpf i 43) 100 := by rw [jone_12 h]; decide +kernel
theorem jkf_12_45 {i : Nat} (h : jkd i 12) : jkd (jpf i 45) 100 := by rw [jone_12 h]; decide +kernel
theorem jkf_12_52 {i : Nat} (h : jkd i 12) : jkd (jpf i 52) 100 := by rw [jone_12 h]; decide +kernel
theorem jkf_12_53 {i : Nat} (h : jkd i 12) : jkd (jpf i 53) 100 := by rw [jone_12 h]; decide +kernel
theorem jkf_12_59 {i : Nat} (h : jkd i 12) : jkd (jpf i 59) 100 := by rw [jone_12 h]; decide +kernel
theorem jkf_12_60 {i : Nat} (h : jkd i 12) : jkd (jpf i 60) 100 := by rw [jone_12 h]; decide +kernel
theorem jkf_12_61 {i : Nat} (h : jkd i 12) : jkd (jpf i 61) 100 := by rw [jone_12 h]; decide +kernel
theorem jkf_12_62 {i : Nat} (h : jkd i 12) : jkd (jpf i 62) 100 := by rw [jone_12 h]; decide +kernel
theorem jkf_12_66 {i : Nat} (h : jkd i 12) : jkd (jpf i 66) 100 := by rw [jone_12 h]; decide +kernel
theorem jkf_12_68 {i : Nat} (h : jkd i 12) : jkd (jpf i 68) 102 := by rw [jone_12 h]; decide +kernel
theorem jkf_12_69 {i : Nat} (h : jkd i 12) : jkd (jpf i 69) 102 := by rw [jone_12 h]; decide +kernel
theorem jkf_12_70 {i : Nat} (h : jkd i 12) : jkd (jpf i 70) 102 := by rw [jone_12 h]; decide +kernel
theorem jkf_12_71 {i : Nat} (h : jkd i 12) : jkd (jpf i 71) 102 := by rw [jone_12 h]; decide +kernel
theorem jkf_12_72 {i : Nat} (h : jkd i 12) : jkd (jpf i 72) 102 := by rw [jone_12 h]; decide +kernel
theorem jkf_12_73 {i : Nat} (h : jkd i 12) : jkd (jpf i 73) 102 := by rw [jone_12 h]; decide +kernel
theorem jkf_12_74 {i : Nat} (h : jkd i 12) : jkd (jpf i 74) 102 := by rw [jone_12 h]; decide +kernel
theorem jkf_12_75 {i : Nat} (h : jkd i 12) : jkd (jpf i 75) 102 := by rw [jone_12 h]; decide +kernel
theorem jkf_12_76 {i : Nat} (h : jkd i 12) : jkd (jpf i 76) 102 := by rw [jone_12 h]; decide +kernel
theorem jkf_12_77 {i : Nat} (h : jkd i 12) : jkd (jpf i 77) 102 := by rw [jone_12 h]; decide +kernel
theorem jkf_12_78 {i : Nat} (h : jkd i 12) : jkd (jpf i 78) 102 := by rw [jone_12 h]; decide +kernel
theorem jkf_12_79 {i : Nat} (h : jkd i 12) : jkd (jpf i 79) 102 := by rw [jone_12 h]; decide +kernel
theorem jkf_12_80 {i : Nat} (h : jkd i 12) : jkd (jpf i 80) 102 := by rw [jone_12 h]; decide +kernel
theorem jkf_12_81 {i : Nat} (h : jkd i 12) : jkd (jpf i 81) 102 := by rw [jone_12 h]; decide +kernel
theorem jkf_12_82 {i : Nat} (h : jkd i 12) : jkd (jpf i 82) 102 := by rw [jone_12 h]; decide +kernel
theorem jkf_12_83 {i : Nat} (h : jkd i 12) : jkd (jpf i 83) 102 := by rw [jone_12 h]; decide +kernel
theorem jkf_12_84 {i : Nat} (h : jkd i 12) : jkd (jpf i 84) 102 := by rw [jone_12 h]; decide +kernel
theorem jkf_12_85 {i : Nat} (h : jkd i 12) : jkd (jpf i 85) 102 := by rw [jone_12 h]; decide +kernel
theorem jkf_12_86 {i : Nat} (h : jkd i 12) : jkd (jpf i 86) 102 := by rw [jone_12 h]; decide +kernel
theorem jkf_12_87 {i : Nat} (h : jkd i 12) : jkd (jpf i 87) 102 := by rw [jone_12 h]; decide +kernel
theorem jkf_12_88 {i : Nat} (h : jkd i 12) : jkd (jpf i 88) 100 := by rw [jone_12 h]; decide +kernel
theorem jkf_12_90 {i : Nat} (h : jkd i 12) : jkd (jpf i 90) 100 := by rw [jone_12 h]; decide +kernel
theorem jkf_12_94 {i : Nat} (h : jkd i 12) : jkd (jpf i 94) 101 := by rw [jone_12 h]; decide +kernel
theorem jkf_12_98 {i : Nat} (h : jkd i 12) : jkd (jpf i 98) 100 := by rw [jone_12 h]; decide +kernel
