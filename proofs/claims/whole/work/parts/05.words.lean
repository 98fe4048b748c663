def pmTs_0 : List Cond := [
  Cond.selects y_Machine_begin.cls y_Machine_begin y_Machine_begin,
  Cond.selects y_Reader_findForm.cls y_Reader_findForm y_Reader_findForm,
  Cond.selects y_Reader_learnSymbols.cls y_Reader_learnSymbols y_Reader_learnSymbols,
  Cond.selects y_Reader_isSymbol.cls y_Reader_isSymbol y_Reader_isSymbol,
  Cond.selects y_Room_reach.cls y_Room_reach y_Room_reach,
  Cond.selects y_Room_freeUnreached.cls y_Room_freeUnreached y_Room_freeUnreached,
  Cond.selects y_Reader_build.cls y_Reader_build y_Reader_build,
  Cond.selects y_Reader_place.cls y_Reader_place y_Reader_place,
  Cond.selects y_Room_make.cls y_Room_make y_Room_make,
  Cond.selects y_Room_isHere.cls y_Room_isHere y_Room_isHere,
  Cond.selects y_Reader_wordValue.cls y_Reader_wordValue y_Reader_wordValue,
  Cond.selects y_Machine_evaluateNext.cls y_Machine_evaluateNext y_Machine_evaluateNext,
  Cond.selects y_Machine_evaluate.cls y_Machine_evaluate y_Machine_evaluate,
  Cond.selects y_Machine_evaluateSymbol.cls y_Machine_evaluateSymbol y_Machine_evaluateSymbol,
  Cond.selects y_Machine_returnNext.cls y_Machine_returnNext y_Machine_returnNext,
  Cond.selects y_Machine_evaluateQuote.cls y_Machine_evaluateQuote y_Machine_evaluateQuote,
  Cond.selects y_Machine_part.cls y_Machine_part y_Machine_part,
  Cond.selects y_Machine_evaluateIf.cls y_Machine_evaluateIf y_Machine_evaluateIf,
  Cond.selects y_Machine_evaluateUnder.cls y_Machine_evaluateUnder y_Machine_evaluateUnder,
  Cond.selects y_Machine_evaluateLambda.cls y_Machine_evaluateLambda y_Machine_evaluateLambda]
theorem pmI_0 : pmTs_0 = [0, 1, 2, 3, 4, 5, 6, 7, 8, 9, 10, 11, 12, 13, 14, 15, 16, 17, 18, 19].filterMap (fun i => lw_tbl[i]?) := by decide +kernel
theorem pmG_0 : ∀ w ∈ pmTs_0, pm_good w = true := by decide +kernel
def pmTs_1 : List Cond := [
  Cond.selects y_Machine_areParameters.cls y_Machine_areParameters y_Machine_areParameters,
  Cond.selects y_Machine_evaluateNaming.cls y_Machine_evaluateNaming y_Machine_evaluateNaming,
  Cond.selects y_Machine_giveBack.cls y_Machine_giveBack y_Machine_giveBack,
  Cond.selects y_State_hasTop.cls y_State_hasTop y_State_hasTop,
  Cond.selects y_Machine_choose.cls y_Machine_choose y_Machine_choose,
  Cond.selects y_Machine_define.cls y_Machine_define y_Machine_define,
  Cond.selects y_Machine_assign.cls y_Machine_assign y_Machine_assign,
  Cond.selects y_Machine_keepValue.cls y_Machine_keepValue y_Machine_keepValue,
  Cond.selects y_Machine_nextArgument.cls y_Machine_nextArgument y_Machine_nextArgument,
  Cond.selects y_Machine_apply.cls y_Machine_apply y_Machine_apply,
  Cond.selects y_Machine_faultOfCall.cls y_Machine_faultOfCall y_Machine_faultOfCall,
  Cond.selects y_Machine_faultOfPrimitive.cls y_Machine_faultOfPrimitive y_Machine_faultOfPrimitive,
  Cond.selects y_Machine_boundEnvironment.cls y_Machine_boundEnvironment y_Machine_boundEnvironment,
  Cond.selects y_Machine_primitiveResult.cls y_Machine_primitiveResult y_Machine_primitiveResult,
  Cond.selects y_Machine_listOf.cls y_Machine_listOf y_Machine_listOf,
  Cond.selects y_Printer_print.cls y_Printer_print y_Printer_print,
  Cond.selects y_Printer_printNumber.cls y_Printer_printNumber y_Printer_printNumber,
  Cond.selects y_Printer_printName.cls y_Printer_printName y_Printer_printName,
  Cond.selects y_Printer_printText.cls y_Printer_printText y_Printer_printText,
  Cond.selects y_Printer_printList.cls y_Printer_printList y_Printer_printList]
theorem pmI_1 : pmTs_1 = [20, 21, 22, 23, 24, 25, 26, 27, 28, 29, 30, 31, 32, 33, 34, 35, 36, 37, 38, 39].filterMap (fun i => lw_tbl[i]?) := by decide +kernel
theorem pmG_1 : ∀ w ∈ pmTs_1, pm_good w = true := by decide +kernel
def pmTs_2 : List Cond := [
  Cond.selects y_Machine_endForm.cls y_Machine_endForm y_Machine_endForm,
  Cond.selects y_Md_word.cls y_Md_word y_Md_word,
  Cond.selects y_Md_reading.cls y_Md_reading y_Md_reading,
  Cond.selects y_Md_lookOver.cls y_Md_lookOver y_Md_lookOver,
  Cond.selects y_Md_skip.cls y_Md_skip y_Md_skip,
  Cond.selects y_Md_tokenEnd.cls y_Md_tokenEnd y_Md_tokenEnd,
  Cond.selects y_Md_meet.cls y_Md_meet y_Md_meet,
  Cond.selects y_Md_isFigure.cls y_Md_isFigure y_Md_isFigure,
  Cond.selects y_Md_isNil.cls y_Md_isNil y_Md_isNil,
  Cond.selects y_Md_symbolOf.cls y_Md_symbolOf y_Md_symbolOf,
  Cond.selects y_Md_room.cls y_Md_room y_Md_room,
  Cond.selects y_Md_live.cls y_Md_live y_Md_live,
  Cond.selects y_Md_mark.cls y_Md_mark y_Md_mark,
  Cond.selects y_Md_read.cls y_Md_read y_Md_read,
  Cond.selects y_Md_arrived.cls y_Md_arrived y_Md_arrived,
  Cond.selects y_Md_pair.cls y_Md_pair y_Md_pair,
  Cond.selects y_Md_make.cls y_Md_make y_Md_make,
  Cond.selects y_Md_atom.cls y_Md_atom y_Md_atom,
  Cond.selects y_Md_figure.cls y_Md_figure y_Md_figure,
  Cond.selects y_Md_drop.cls y_Md_drop y_Md_drop]
theorem pmI_2 : pmTs_2 = [40, 41, 42, 43, 44, 45, 46, 47, 48, 49, 50, 51, 52, 53, 54, 55, 56, 57, 58, 59].filterMap (fun i => lw_tbl[i]?) := by decide +kernel
theorem pmG_2 : ∀ w ∈ pmTs_2, pm_good w = true := by decide +kernel
def pmTs_3 : List Cond := [
  Cond.selects y_Md_back.cls y_Md_back y_Md_back,
  Cond.selects y_Md_print.cls y_Md_print y_Md_print,
  Cond.selects y_Md_begin.cls y_Md_begin y_Md_begin,
  Cond.selects y_Md_isPair.cls y_Md_isPair y_Md_isPair,
  Cond.selects y_Md_putPlain.cls y_Md_putPlain y_Md_putPlain,
  Cond.selects y_Md_putNumber.cls y_Md_putNumber y_Md_putNumber,
  Cond.selects y_Md_put.cls y_Md_put y_Md_put,
  Cond.selects y_Md_putName.cls y_Md_putName y_Md_putName,
  Cond.selects y_Md_putDots.cls y_Md_putDots y_Md_putDots,
  Cond.selects y_Md_further.cls y_Md_further y_Md_further,
  Cond.selects y_Md_cdr.cls y_Md_cdr y_Md_cdr,
  Cond.selects y_Md_car.cls y_Md_car y_Md_car,
  Cond.selects y_Md_clearAll.cls y_Md_clearAll y_Md_clearAll,
  Cond.selects y_Md_argument.cls y_Md_argument y_Md_argument,
  Cond.selects y_Md_apply.cls y_Md_apply y_Md_apply,
  Cond.selects y_Md_lengthOf.cls y_Md_lengthOf y_Md_lengthOf,
  Cond.selects y_Md_at.cls y_Md_at y_Md_at,
  Cond.selects y_Md_isClosure.cls y_Md_isClosure y_Md_isClosure,
  Cond.selects y_Md_enter.cls y_Md_enter y_Md_enter,
  Cond.selects y_Md_go.cls y_Md_go y_Md_go]
theorem pmI_3 : pmTs_3 = [60, 61, 62, 63, 64, 65, 66, 67, 68, 69, 70, 71, 72, 73, 74, 75, 76, 77, 78, 79].filterMap (fun i => lw_tbl[i]?) := by decide +kernel
theorem pmG_3 : ∀ w ∈ pmTs_3, pm_good w = true := by decide +kernel
def pmTs_4 : List Cond := [
  Cond.selects y_Md_listed.cls y_Md_listed y_Md_listed,
  Cond.selects y_Md_done.cls y_Md_done y_Md_done,
  Cond.selects y_Md_give.cls y_Md_give y_Md_give,
  Cond.selects y_Md_binding.cls y_Md_binding y_Md_binding,
  Cond.selects y_Md_evaluate.cls y_Md_evaluate y_Md_evaluate,
  Cond.selects y_Md_lookUp.cls y_Md_lookUp y_Md_lookUp,
  Cond.selects y_Md_special.cls y_Md_special y_Md_special,
  Cond.selects y_Md_areParameters.cls y_Md_areParameters y_Md_areParameters,
  Cond.selects y_Md_push.cls y_Md_push y_Md_push,
  Cond.initialized R_Law,
  Cond.initialized R_CL,
  Cond.initialized R_Text,
  Cond.initialized R_Output,
  Cond.initialized R_Symbols,
  Cond.initialized "java/lang/String",
  Cond.initialized "java/lang/StringLatin1",
  Cond.initialized "jdk/internal/util/Preconditions",
  Cond.initialized "java/lang/StringUTF16",
  Cond.initialized R_Value,
  Cond.initialized R_State]
theorem pmI_4 : pmTs_4 = [80, 81, 82, 83, 84, 85, 86, 87, 88, 89, 90, 91, 92, 93, 94, 95, 96, 97, 98, 99].filterMap (fun i => lw_tbl[i]?) := by decide +kernel
theorem pmG_4 : ∀ w ∈ pmTs_4, pm_good w = true := by decide +kernel
def pmTs_5 : List Cond := [
  Cond.initialized R_Room,
  Cond.initialized "java/lang/Math",
  Cond.initialized R_Machine,
  Cond.initialized R_Reader,
  Cond.initialized R_Printer,
  Cond.initialized R_Md,
  Cond.classLink R_Law 7 R_CL,
  Cond.instantiable R_CL 6,
  Cond.methodLink R_Law 15 y_CL_init,
  Cond.instanceMethod y_CL_init,
  Cond.code y_CL_init k_CL_init 2 none,
  Cond.methodLink R_CL 1 objectInit,
  Cond.instanceMethod objectInit,
  Cond.classLink R_CL 7 R_Text,
  Cond.instantiable R_Text 2,
  Cond.methodLinkNest R_CL 9 y_Text_init R_CL,
  Cond.instanceMethod y_Text_init,
  Cond.code y_Text_init k_Text_init 1 none,
  Cond.methodLink R_Text 1 objectInit,
  Cond.fieldLink R_Text 9 R_Text "row" "[C"]
theorem pmI_5 : pmTs_5 = [100, 101, 102, 103, 104, 105, 106, 107, 108, 109, 110, 111, 112, 114, 115, 116, 117, 118, 119, 120].filterMap (fun i => lw_tbl[i]?) := by decide +kernel
theorem pmG_5 : ∀ w ∈ pmTs_5, pm_good w = true := by decide +kernel
def pmTs_6 : List Cond := [
  Cond.fieldLink R_Text 13 R_Text "size" "I",
  Cond.fieldLinkNest R_Reader 69 R_Text "size" "I" R_CL,
  Cond.fieldLinkNest R_CL 96 R_Text "size" "I" R_CL,
  Cond.classLink R_CL 16 R_Output,
  Cond.instantiable R_Output 2,
  Cond.methodLinkNest R_CL 18 y_Output_init R_CL,
  Cond.instanceMethod y_Output_init,
  Cond.code y_Output_init k_Output_init 1 none,
  Cond.methodLink R_Output 1 objectInit,
  Cond.fieldLink R_Output 9 R_Output "row" "[C",
  Cond.fieldLink R_Output 13 R_Output "size" "I",
  Cond.fieldLinkNest R_CL 82 R_Output "size" "I" R_CL,
  Cond.classLink R_CL 23 R_Symbols,
  Cond.instantiable R_Symbols 3,
  Cond.methodLink R_CL 25 y_Symbols_init,
  Cond.instanceMethod y_Symbols_init,
  Cond.code y_Symbols_init k_Symbols_init 5 none,
  Cond.methodLink R_Symbols 1 objectInit,
  Cond.methodLink R_Symbols 19 (⟨"java/lang/String", "length", "()I"⟩ : MethodName),
  Cond.instanceMethod (⟨"java/lang/String", "length", "()I"⟩ : MethodName)]
theorem pmI_6 : pmTs_6 = [121, 122, 123, 130, 131, 132, 133, 134, 135, 136, 137, 138, 144, 145, 146, 147, 148, 149, 151, 152].filterMap (fun i => lw_tbl[i]?) := by decide +kernel
theorem pmG_6 : ∀ w ∈ pmTs_6, pm_good w = true := by decide +kernel
def pmTs_7 : List Cond := [
  Cond.selects (⟨"java/lang/String", "length", "()I"⟩ : MethodName).cls (⟨"java/lang/String", "length", "()I"⟩ : MethodName) (⟨"java/lang/String", "length", "()I"⟩ : MethodName),
  Cond.code (⟨"java/lang/String", "length", "()I"⟩ : MethodName) prog_14_method_54_code 1 (some .int),
  Cond.methodLink "java/lang/String" 335 (⟨"java/lang/String", "coder", "()B"⟩ : MethodName),
  Cond.instanceMethod (⟨"java/lang/String", "coder", "()B"⟩ : MethodName),
  Cond.selects (⟨"java/lang/String", "coder", "()B"⟩ : MethodName).cls (⟨"java/lang/String", "coder", "()B"⟩ : MethodName) (⟨"java/lang/String", "coder", "()B"⟩ : MethodName),
  Cond.code (⟨"java/lang/String", "coder", "()B"⟩ : MethodName) prog_14_method_152_code 1 (some .byte),
  Cond.fieldLink "java/lang/String" 38 "java/lang/String" "COMPACT_STRINGS" "Z",
  Cond.methodLink R_Symbols 25 (⟨"java/lang/String", "charAt", "(I)C"⟩ : MethodName),
  Cond.instanceMethod (⟨"java/lang/String", "charAt", "(I)C"⟩ : MethodName),
  Cond.selects (⟨"java/lang/String", "charAt", "(I)C"⟩ : MethodName).cls (⟨"java/lang/String", "charAt", "(I)C"⟩ : MethodName) (⟨"java/lang/String", "charAt", "(I)C"⟩ : MethodName),
  Cond.code (⟨"java/lang/String", "charAt", "(I)C"⟩ : MethodName) prog_14_method_56_code 2 (some .char),
  Cond.methodLink "java/lang/String" 492 (⟨"java/lang/String", "isLatin1", "()Z"⟩ : MethodName),
  Cond.instanceMethod (⟨"java/lang/String", "isLatin1", "()Z"⟩ : MethodName),
  Cond.selects (⟨"java/lang/String", "isLatin1", "()Z"⟩ : MethodName).cls (⟨"java/lang/String", "isLatin1", "()Z"⟩ : MethodName) (⟨"java/lang/String", "isLatin1", "()Z"⟩ : MethodName),
  Cond.code (⟨"java/lang/String", "isLatin1", "()Z"⟩ : MethodName) prog_14_method_154_code 1 (some .boolean),
  Cond.methodLink "java/lang/String" 495 (⟨"java/lang/StringLatin1", "charAt", "([BI)C"⟩ : MethodName),
  Cond.static (⟨"java/lang/StringLatin1", "charAt", "([BI)C"⟩ : MethodName),
  Cond.code (⟨"java/lang/StringLatin1", "charAt", "([BI)C"⟩ : MethodName) prog_15_method_2_code 2 (some .char),
  Cond.methodLink "java/lang/StringLatin1" 9 (⟨"java/lang/String", "checkIndex", "(II)V"⟩ : MethodName),
  Cond.static (⟨"java/lang/String", "checkIndex", "(II)V"⟩ : MethodName)]
theorem pmI_7 : pmTs_7 = [153, 154, 155, 156, 157, 158, 159, 161, 162, 163, 164, 165, 166, 167, 168, 169, 170, 171, 172, 173].filterMap (fun i => lw_tbl[i]?) := by decide +kernel
theorem pmG_7 : ∀ w ∈ pmTs_7, pm_good w = true := by decide +kernel
def pmTs_8 : List Cond := [
  Cond.code (⟨"java/lang/String", "checkIndex", "(II)V"⟩ : MethodName) prog_14_method_155_code 2 none,
  Cond.fieldLink "java/lang/String" 1053 "jdk/internal/util/Preconditions" "SIOOBE_FORMATTER" "Ljava/util/function/BiFunction;",
  Cond.methodLink "java/lang/String" 1059 (⟨"jdk/internal/util/Preconditions", "checkIndex", "(IILjava/util/function/BiFunction;)I"⟩ : MethodName),
  Cond.static (⟨"jdk/internal/util/Preconditions", "checkIndex", "(IILjava/util/function/BiFunction;)I"⟩ : MethodName),
  Cond.code (⟨"jdk/internal/util/Preconditions", "checkIndex", "(IILjava/util/function/BiFunction;)I"⟩ : MethodName) prog_17_method_11_code 3 (some .int),
  Cond.methodLink "java/lang/String" 498 (⟨"java/lang/StringUTF16", "charAt", "([BI)C"⟩ : MethodName),
  Cond.static (⟨"java/lang/StringUTF16", "charAt", "([BI)C"⟩ : MethodName),
  Cond.code (⟨"java/lang/StringUTF16", "charAt", "([BI)C"⟩ : MethodName) prog_16_method_83_code 2 (some .char),
  Cond.methodLink "java/lang/StringUTF16" 67 (⟨"java/lang/StringUTF16", "checkIndex", "(I[B)V"⟩ : MethodName),
  Cond.static (⟨"java/lang/StringUTF16", "checkIndex", "(I[B)V"⟩ : MethodName),
  Cond.code (⟨"java/lang/StringUTF16", "checkIndex", "(I[B)V"⟩ : MethodName) prog_16_method_91_code 2 none,
  Cond.methodLink "java/lang/StringUTF16" 48 (⟨"java/lang/StringUTF16", "length", "([B)I"⟩ : MethodName),
  Cond.static (⟨"java/lang/StringUTF16", "length", "([B)I"⟩ : MethodName),
  Cond.code (⟨"java/lang/StringUTF16", "length", "([B)I"⟩ : MethodName) prog_16_method_6_code 1 (some .int),
  Cond.methodLink "java/lang/StringUTF16" 414 (⟨"java/lang/String", "checkIndex", "(II)V"⟩ : MethodName),
  Cond.methodLink "java/lang/StringUTF16" 71 (⟨"java/lang/StringUTF16", "getChar", "([BI)C"⟩ : MethodName),
  Cond.static (⟨"java/lang/StringUTF16", "getChar", "([BI)C"⟩ : MethodName),
  Cond.code (⟨"java/lang/StringUTF16", "getChar", "([BI)C"⟩ : MethodName) prog_16_method_5_code 2 (some .char),
  Cond.fieldLink "java/lang/StringUTF16" 44 "java/lang/StringUTF16" "$assertionsDisabled" "Z",
  Cond.fieldLink "java/lang/StringUTF16" 59 "java/lang/StringUTF16" "HI_BYTE_SHIFT" "I"]
theorem pmI_8 : pmTs_8 = [174, 175, 177, 178, 179, 180, 181, 182, 183, 184, 185, 186, 187, 188, 189, 190, 191, 192, 193, 195].filterMap (fun i => lw_tbl[i]?) := by decide +kernel
theorem pmG_8 : ∀ w ∈ pmTs_8, pm_good w = true := by decide +kernel
def pmTs_9 : List Cond := [
  Cond.fieldLink "java/lang/StringUTF16" 63 "java/lang/StringUTF16" "LO_BYTE_SHIFT" "I",
  Cond.methodLink R_Symbols 29 y_Symbols_learn,
  Cond.instanceMethod y_Symbols_learn,
  Cond.selects y_Symbols_learn.cls y_Symbols_learn y_Symbols_learn,
  Cond.code y_Symbols_learn k_Symbols_learn 3 (some .boolean),
  Cond.methodLink R_Symbols 43 y_Symbols_find,
  Cond.instanceMethod y_Symbols_find,
  Cond.selects y_Symbols_find.cls y_Symbols_find y_Symbols_find,
  Cond.code y_Symbols_find k_Symbols_find 4 (some .int),
  Cond.methodLink R_Symbols 35 y_Value_of,
  Cond.static y_Value_of,
  Cond.code y_Value_of k_Value_of 2 (some .int),
  Cond.fieldLink R_Symbols 9 R_Symbols "names" "[J",
  Cond.fieldLink R_Symbols 13 R_Symbols "globals" "[I",
  Cond.fieldLinkNest R_Room 114 R_Symbols "globals" "[I" R_CL,
  Cond.fieldLink R_Symbols 39 R_Symbols "known" "I",
  Cond.fieldLinkNest R_CL 100 R_Symbols "known" "I" R_CL,
  Cond.fieldLinkNest R_Room 109 R_Symbols "known" "I" R_CL,
  Cond.classLink R_CL 30 R_State,
  Cond.instantiable R_State 8]
theorem pmI_9 : pmTs_9 = [197, 199, 200, 201, 202, 203, 204, 205, 206, 207, 208, 209, 210, 211, 212, 213, 214, 215, 226, 227].filterMap (fun i => lw_tbl[i]?) := by decide +kernel
theorem pmG_9 : ∀ w ∈ pmTs_9, pm_good w = true := by decide +kernel
def pmTs_10 : List Cond := [
  Cond.methodLinkNest R_CL 32 y_State_init R_CL,
  Cond.instanceMethod y_State_init,
  Cond.code y_State_init k_State_init 1 none,
  Cond.methodLink R_State 1 objectInit,
  Cond.fieldLink R_State 9 R_State "value" "I",
  Cond.fieldLinkNest R_Machine 71 R_State "value" "I" R_CL,
  Cond.fieldLinkNest R_Room 85 R_State "value" "I" R_CL,
  Cond.fieldLink R_State 15 R_State "environment" "I",
  Cond.fieldLinkNest R_Machine 74 R_State "environment" "I" R_CL,
  Cond.fieldLinkNest R_Room 94 R_State "environment" "I" R_CL,
  Cond.fieldLinkNest R_Machine 43 R_State "evaluating" "Z" R_CL,
  Cond.fieldLink R_State 31 R_State "depth" "I",
  Cond.fieldLinkNest R_Machine 77 R_State "depth" "I" R_CL,
  Cond.fieldLinkNest R_CL 97 R_State "depth" "I" R_CL,
  Cond.fieldLinkNest R_Room 97 R_State "depth" "I" R_CL,
  Cond.fieldLink R_State 18 R_State "kinds" "[I",
  Cond.fieldLink R_State 22 R_State "as" "[I",
  Cond.fieldLinkNest R_Room 100 R_State "as" "[I" R_CL,
  Cond.fieldLink R_State 25 R_State "bs" "[I",
  Cond.fieldLinkNest R_Room 103 R_State "bs" "[I" R_CL]
theorem pmI_10 : pmTs_10 = [228, 229, 230, 231, 232, 233, 234, 235, 236, 237, 238, 239, 240, 241, 242, 243, 244, 245, 246, 247].filterMap (fun i => lw_tbl[i]?) := by decide +kernel
theorem pmG_10 : ∀ w ∈ pmTs_10, pm_good w = true := by decide +kernel
def pmTs_11 : List Cond := [
  Cond.fieldLink R_State 28 R_State "cs" "[I",
  Cond.fieldLinkNest R_Room 106 R_State "cs" "[I" R_CL,
  Cond.classLink R_CL 37 R_Room,
  Cond.instantiable R_Room 13,
  Cond.methodLink R_CL 39 Lib.Math.min.name,
  Cond.static Lib.Math.min.name,
  Cond.code Lib.Math.min.name Lib.Math.min.code 2 (some .int),
  Cond.methodLink R_CL 45 Lib.Math.max.name,
  Cond.static Lib.Math.max.name,
  Cond.code Lib.Math.max.name Lib.Math.max.code 2 (some .int),
  Cond.methodLink R_CL 48 y_Room_init,
  Cond.instanceMethod y_Room_init,
  Cond.code y_Room_init k_Room_init 5 none,
  Cond.methodLink R_Room 1 objectInit,
  Cond.methodLink R_Room 21 Lib.Math.max.name,
  Cond.fieldLink R_Room 7 R_Room "size" "I",
  Cond.fieldLink R_Room 27 R_Room "slots" "I",
  Cond.fieldLink R_Room 30 R_Room "firsts" "[I",
  Cond.fieldLink R_Room 34 R_Room "seconds" "[I",
  Cond.fieldLink R_Room 37 R_Room "thirds" "[I"]
theorem pmI_11 : pmTs_11 = [248, 249, 267, 268, 269, 270, 271, 272, 273, 274, 275, 276, 277, 278, 279, 280, 281, 282, 283, 284].filterMap (fun i => lw_tbl[i]?) := by decide +kernel
theorem pmG_11 : ∀ w ∈ pmTs_11, pm_good w = true := by decide +kernel
def pmTs_12 : List Cond := [
  Cond.fieldLink R_Room 40 R_Room "reached" "[Z",
  Cond.fieldLink R_Room 44 R_Room "waiting" "[I",
  Cond.fieldLink R_Room 47 R_Room "free" "[I",
  Cond.fieldLink R_Room 82 R_Room "waitingSize" "I",
  Cond.fieldLink R_Room 50 R_Room "freeSize" "I",
  Cond.fieldLink R_Room 53 R_Room "used" "I",
  Cond.fieldLinkNest R_CL 93 R_Room "used" "I" R_CL,
  Cond.fieldLink R_Room 13 R_Room "state" "LCellLisp$State;",
  Cond.fieldLink R_Room 17 R_Room "symbols" "LCellLisp$Symbols;",
  Cond.classLink R_CL 55 R_Machine,
  Cond.instantiable R_Machine 7,
  Cond.classLink R_CL 57 R_Reader,
  Cond.instantiable R_Reader 9,
  Cond.methodLink R_CL 59 y_Reader_init,
  Cond.instanceMethod y_Reader_init,
  Cond.code y_Reader_init k_Reader_init 4 none,
  Cond.methodLink R_Reader 3 objectInit,
  Cond.fieldLink R_Reader 28 R_Reader "text" "LCellLisp$Text;",
  Cond.fieldLink R_Reader 32 R_Reader "symbols" "LCellLisp$Symbols;",
  Cond.fieldLink R_Reader 36 R_Reader "room" "LCellLisp$Room;"]
theorem pmI_12 : pmTs_12 = [285, 286, 287, 288, 289, 290, 291, 292, 293, 322, 323, 324, 325, 326, 327, 328, 329, 330, 331, 332].filterMap (fun i => lw_tbl[i]?) := by decide +kernel
theorem pmG_12 : ∀ w ∈ pmTs_12, pm_good w = true := by decide +kernel
def pmTs_13 : List Cond := [
  Cond.fieldLink R_Reader 60 R_Reader "end" "I",
  Cond.fieldLink R_Reader 48 R_Reader "cells" "I",
  Cond.fieldLink R_Reader 11 R_Reader "form" "I",
  Cond.fieldLinkNest R_Machine 62 R_Reader "form" "I" R_CL,
  Cond.fieldLink R_Reader 17 R_Reader "heads" "[I",
  Cond.fieldLink R_Reader 21 R_Reader "lasts" "[I",
  Cond.fieldLink R_Reader 24 R_Reader "quotes" "[Z",
  Cond.classLink R_CL 62 R_Printer,
  Cond.instantiable R_Printer 3,
  Cond.methodLink R_CL 64 y_Printer_init,
  Cond.instanceMethod y_Printer_init,
  Cond.code y_Printer_init k_Printer_init 4 none,
  Cond.methodLink R_Printer 1 objectInit,
  Cond.fieldLink R_Printer 7 R_Printer "output" "LCellLisp$Output;",
  Cond.fieldLink R_Printer 13 R_Printer "symbols" "LCellLisp$Symbols;",
  Cond.fieldLink R_Printer 17 R_Printer "room" "LCellLisp$Room;",
  Cond.methodLink R_CL 67 y_Machine_init,
  Cond.instanceMethod y_Machine_init,
  Cond.code y_Machine_init k_Machine_init 6 none,
  Cond.methodLink R_Machine 3 objectInit]
theorem pmI_13 : pmTs_13 = [333, 334, 335, 336, 337, 338, 339, 359, 360, 361, 362, 363, 364, 365, 366, 367, 375, 376, 377, 378].filterMap (fun i => lw_tbl[i]?) := by decide +kernel
theorem pmG_13 : ∀ w ∈ pmTs_13, pm_good w = true := by decide +kernel
def pmTs_14 : List Cond := [
  Cond.fieldLink R_Machine 9 R_Machine "state" "LCellLisp$State;",
  Cond.fieldLink R_Machine 15 R_Machine "room" "LCellLisp$Room;",
  Cond.fieldLink R_Machine 19 R_Machine "symbols" "LCellLisp$Symbols;",
  Cond.fieldLink R_Machine 23 R_Machine "reader" "LCellLisp$Reader;",
  Cond.fieldLink R_Machine 27 R_Machine "printer" "LCellLisp$Printer;",
  Cond.fieldLink R_Machine 31 R_Machine "underWay" "Z",
  Cond.fieldLink R_Machine 39 R_Machine "steps" "I",
  Cond.fieldLinkNest R_CL 103 R_Machine "steps" "I" R_CL,
  Cond.fieldLink R_CL 10 R_CL "text" "LCellLisp$Text;",
  Cond.fieldLink R_CL 19 R_CL "output" "LCellLisp$Output;",
  Cond.fieldLink R_CL 26 R_CL "symbols" "LCellLisp$Symbols;",
  Cond.fieldLink R_CL 33 R_CL "state" "LCellLisp$State;",
  Cond.fieldLink R_CL 51 R_CL "room" "LCellLisp$Room;",
  Cond.fieldLink R_CL 70 R_CL "machine" "LCellLisp$Machine;",
  Cond.methodLink R_Law 21 y_CL_feed,
  Cond.instanceMethod y_CL_feed,
  Cond.selects y_CL_feed.cls y_CL_feed y_CL_feed,
  Cond.code y_CL_feed k_CL_feed 3 (some .boolean),
  Cond.methodLink R_CL 74 y_Text_append,
  Cond.instanceMethod y_Text_append]
theorem pmI_14 : pmTs_14 = [379, 380, 381, 382, 383, 384, 385, 386, 402, 403, 404, 405, 406, 407, 421, 422, 423, 424, 425, 426].filterMap (fun i => lw_tbl[i]?) := by decide +kernel
theorem pmG_14 : ∀ w ∈ pmTs_14, pm_good w = true := by decide +kernel
def pmTs_15 : List Cond := [
  Cond.selects y_Text_append.cls y_Text_append y_Text_append,
  Cond.code y_Text_append k_Text_append 4 (some .boolean),
  Cond.methodLink R_Text 17 y_Text_isCharacter,
  Cond.static y_Text_isCharacter,
  Cond.code y_Text_isCharacter k_Text_isCharacter 1 (some .boolean),
  Cond.methodLink R_Law 26 y_CL_run,
  Cond.instanceMethod y_CL_run,
  Cond.selects y_CL_run.cls y_CL_run y_CL_run,
  Cond.code y_CL_run k_CL_run 5 (some .int),
  Cond.methodLink R_CL 78 y_Machine_step,
  Cond.instanceMethod y_Machine_step,
  Cond.selects y_Machine_step.cls y_Machine_step y_Machine_step,
  Cond.code y_Machine_step k_Machine_step 2 (some .int),
  Cond.methodLink R_Machine 35 y_Machine_begin,
  Cond.instanceMethod y_Machine_begin,
  Cond.code y_Machine_begin k_Machine_begin 2 (some .int),
  Cond.methodLink R_Machine 57 y_Reader_read,
  Cond.instanceMethod y_Reader_read,
  Cond.selects y_Reader_read.cls y_Reader_read y_Reader_read,
  Cond.code y_Reader_read k_Reader_read 2 (some .int)]
theorem pmI_15 : pmTs_15 = [427, 428, 429, 430, 431, 432, 433, 434, 435, 436, 437, 438, 439, 440, 442, 443, 444, 445, 446, 447].filterMap (fun i => lw_tbl[i]?) := by decide +kernel
theorem pmG_15 : ∀ w ∈ pmTs_15, pm_good w = true := by decide +kernel
def pmTs_16 : List Cond := [
  Cond.methodLink R_Reader 40 y_Reader_findForm,
  Cond.instanceMethod y_Reader_findForm,
  Cond.code y_Reader_findForm k_Reader_findForm 6 (some .int),
  Cond.methodLink R_Reader 72 y_Text_at,
  Cond.instanceMethod y_Text_at,
  Cond.selects y_Text_at.cls y_Text_at y_Text_at,
  Cond.code y_Text_at k_Text_at 2 (some .char),
  Cond.methodLink R_Reader 76 y_Text_pieceEnd,
  Cond.instanceMethod y_Text_pieceEnd,
  Cond.selects y_Text_pieceEnd.cls y_Text_pieceEnd y_Text_pieceEnd,
  Cond.code y_Text_pieceEnd k_Text_pieceEnd 3 (some .int),
  Cond.methodLink R_Text 30 y_Text_at,
  Cond.methodLink R_Text 34 y_Text_isOfWord,
  Cond.static y_Text_isOfWord,
  Cond.code y_Text_isOfWord k_Text_isOfWord 1 (some .boolean),
  Cond.methodLink R_Text 38 y_Text_isBlank,
  Cond.static y_Text_isBlank,
  Cond.code y_Text_isBlank k_Text_isBlank 1 (some .boolean),
  Cond.methodLink R_Reader 80 y_Text_isBlank,
  Cond.methodLink R_Reader 84 y_Reader_isFault]
theorem pmI_16 : pmTs_16 = [448, 450, 451, 452, 453, 454, 455, 456, 457, 458, 459, 460, 461, 462, 463, 464, 465, 466, 467, 468].filterMap (fun i => lw_tbl[i]?) := by decide +kernel
theorem pmG_16 : ∀ w ∈ pmTs_16, pm_good w = true := by decide +kernel
def pmTs_17 : List Cond := [
  Cond.static y_Reader_isFault,
  Cond.code y_Reader_isFault k_Reader_isFault 3 (some .boolean),
  Cond.methodLink R_Reader 88 y_Reader_cellsOfPiece,
  Cond.static y_Reader_cellsOfPiece,
  Cond.code y_Reader_cellsOfPiece k_Reader_cellsOfPiece 4 (some .int),
  Cond.methodLink R_Reader 44 y_Reader_learnSymbols,
  Cond.instanceMethod y_Reader_learnSymbols,
  Cond.code y_Reader_learnSymbols k_Reader_learnSymbols 4 (some .boolean),
  Cond.methodLink R_Reader 92 y_Reader_isSymbol,
  Cond.instanceMethod y_Reader_isSymbol,
  Cond.code y_Reader_isSymbol k_Reader_isSymbol 3 (some .boolean),
  Cond.methodLinkNest R_Reader 106 y_Text_isOfWord R_CL,
  Cond.methodLink R_Reader 109 y_Text_isNumber,
  Cond.instanceMethod y_Text_isNumber,
  Cond.selects y_Text_isNumber.cls y_Text_isNumber y_Text_isNumber,
  Cond.code y_Text_isNumber k_Text_isNumber 5 (some .boolean),
  Cond.methodLink R_Reader 96 y_Text_name,
  Cond.instanceMethod y_Text_name,
  Cond.selects y_Text_name.cls y_Text_name y_Text_name,
  Cond.code y_Text_name k_Text_name 6 (some .long)]
theorem pmI_17 : pmTs_17 = [469, 470, 471, 472, 473, 474, 476, 477, 478, 480, 481, 482, 483, 484, 485, 486, 487, 488, 489, 490].filterMap (fun i => lw_tbl[i]?) := by decide +kernel
theorem pmG_17 : ∀ w ∈ pmTs_17, pm_good w = true := by decide +kernel
def pmTs_18 : List Cond := [
  Cond.constantLong R_Reader 112 (7235948),
  Cond.methodLink R_Reader 100 y_Symbols_learn,
  Cond.methodLink R_Reader 51 y_Room_hasFor,
  Cond.instanceMethod y_Room_hasFor,
  Cond.selects y_Room_hasFor.cls y_Room_hasFor y_Room_hasFor,
  Cond.code y_Room_hasFor k_Room_hasFor 2 (some .boolean),
  Cond.methodLink R_Room 56 y_Room_collect,
  Cond.instanceMethod y_Room_collect,
  Cond.selects y_Room_collect.cls y_Room_collect y_Room_collect,
  Cond.code y_Room_collect k_Room_collect 3 none,
  Cond.methodLink R_Room 90 y_Room_reach,
  Cond.instanceMethod y_Room_reach,
  Cond.code y_Room_reach k_Room_reach 5 none,
  Cond.methodLink R_Room 120 y_Value_kind,
  Cond.static y_Value_kind,
  Cond.code y_Value_kind k_Value_kind 1 (some .int),
  Cond.methodLink R_Room 69 y_Value_content,
  Cond.static y_Value_content,
  Cond.code y_Value_content k_Value_content 1 (some .int),
  Cond.methodLink R_Room 117 y_Room_freeUnreached]
theorem pmI_18 : pmTs_18 = [491, 492, 493, 494, 495, 496, 497, 498, 499, 500, 501, 503, 504, 505, 506, 507, 508, 509, 510, 511].filterMap (fun i => lw_tbl[i]?) := by decide +kernel
theorem pmG_18 : ∀ w ∈ pmTs_18, pm_good w = true := by decide +kernel
def pmTs_19 : List Cond := [
  Cond.instanceMethod y_Room_freeUnreached,
  Cond.code y_Room_freeUnreached k_Room_freeUnreached 2 none,
  Cond.methodLink R_Reader 57 y_Reader_build,
  Cond.instanceMethod y_Reader_build,
  Cond.code y_Reader_build k_Reader_build 7 none,
  Cond.methodLink R_Reader 114 y_Reader_place,
  Cond.instanceMethod y_Reader_place,
  Cond.code y_Reader_place k_Reader_place 6 none,
  Cond.methodLink R_Reader 125 y_Value_of,
  Cond.methodLink R_Reader 132 y_Room_pair,
  Cond.instanceMethod y_Room_pair,
  Cond.selects y_Room_pair.cls y_Room_pair y_Room_pair,
  Cond.code y_Room_pair k_Room_pair 3 (some .int),
  Cond.methodLink R_Room 61 y_Room_make,
  Cond.instanceMethod y_Room_make,
  Cond.code y_Room_make k_Room_make 6 (some .int),
  Cond.methodLink R_Reader 135 y_Room_setSecond,
  Cond.instanceMethod y_Room_setSecond,
  Cond.selects y_Room_setSecond.cls y_Room_setSecond y_Room_setSecond,
  Cond.code y_Room_setSecond k_Room_setSecond 3 none]
theorem pmI_19 : pmTs_19 = [513, 514, 515, 517, 518, 519, 521, 522, 523, 524, 525, 526, 527, 528, 530, 531, 532, 533, 534, 535].filterMap (fun i => lw_tbl[i]?) := by decide +kernel
theorem pmG_19 : ∀ w ∈ pmTs_19, pm_good w = true := by decide +kernel
def pmTs_20 : List Cond := [
  Cond.methodLink R_Room 65 y_Room_isHere,
  Cond.instanceMethod y_Room_isHere,
  Cond.code y_Room_isHere k_Room_isHere 4 (some .boolean),
  Cond.methodLink R_Reader 118 y_Reader_wordValue,
  Cond.instanceMethod y_Reader_wordValue,
  Cond.code y_Reader_wordValue k_Reader_wordValue 4 (some .int),
  Cond.methodLink R_Reader 122 y_Text_number,
  Cond.instanceMethod y_Text_number,
  Cond.selects y_Text_number.cls y_Text_number y_Text_number,
  Cond.code y_Text_number k_Text_number 6 (some .int),
  Cond.methodLink R_Reader 128 y_Symbols_find,
  Cond.methodLink R_Reader 63 y_Text_drop,
  Cond.instanceMethod y_Text_drop,
  Cond.selects y_Text_drop.cls y_Text_drop y_Text_drop,
  Cond.code y_Text_drop k_Text_drop 4 none,
  Cond.methodLink R_Text 21 Lib.Math.min.name,
  Cond.methodLink R_Text 27 Lib.Math.max.name,
  Cond.methodLink R_Machine 67 y_Machine_evaluateNext,
  Cond.instanceMethod y_Machine_evaluateNext,
  Cond.code y_Machine_evaluateNext k_Machine_evaluateNext 3 (some .int)]
theorem pmI_20 : pmTs_20 = [536, 538, 539, 540, 542, 543, 544, 545, 546, 547, 548, 549, 550, 551, 552, 553, 554, 555, 557, 558].filterMap (fun i => lw_tbl[i]?) := by decide +kernel
theorem pmG_20 : ∀ w ∈ pmTs_20, pm_good w = true := by decide +kernel
def pmTs_21 : List Cond := [
  Cond.methodLink R_Machine 48 y_Machine_evaluate,
  Cond.instanceMethod y_Machine_evaluate,
  Cond.code y_Machine_evaluate k_Machine_evaluate 2 (some .int),
  Cond.methodLink R_Machine 80 y_Value_isSymbol,
  Cond.static y_Value_isSymbol,
  Cond.code y_Value_isSymbol k_Value_isSymbol 1 (some .boolean),
  Cond.methodLink R_Value 9 y_Value_kind,
  Cond.methodLink R_Machine 84 y_Machine_evaluateSymbol,
  Cond.instanceMethod y_Machine_evaluateSymbol,
  Cond.code y_Machine_evaluateSymbol k_Machine_evaluateSymbol 3 (some .int),
  Cond.methodLink R_Machine 121 y_Room_binding,
  Cond.instanceMethod y_Room_binding,
  Cond.selects y_Room_binding.cls y_Room_binding y_Room_binding,
  Cond.code y_Room_binding k_Room_binding 5 (some .int),
  Cond.methodLink R_Room 73 y_Value_isPair,
  Cond.static y_Value_isPair,
  Cond.code y_Value_isPair k_Value_isPair 1 (some .boolean),
  Cond.methodLink R_Room 79 y_Room_first,
  Cond.instanceMethod y_Room_first,
  Cond.selects y_Room_first.cls y_Room_first y_Room_first]
theorem pmI_21 : pmTs_21 = [559, 561, 562, 563, 564, 565, 566, 567, 569, 570, 571, 572, 573, 574, 575, 576, 577, 578, 579, 580].filterMap (fun i => lw_tbl[i]?) := by decide +kernel
theorem pmG_21 : ∀ w ∈ pmTs_21, pm_good w = true := by decide +kernel
def pmTs_22 : List Cond := [
  Cond.code y_Room_first k_Room_first 2 (some .int),
  Cond.methodLink R_Room 76 y_Room_second,
  Cond.instanceMethod y_Room_second,
  Cond.selects y_Room_second.cls y_Room_second y_Room_second,
  Cond.code y_Room_second k_Room_second 2 (some .int),
  Cond.methodLink R_Machine 114 y_Room_second,
  Cond.methodLink R_Machine 90 y_Machine_returnNext,
  Cond.instanceMethod y_Machine_returnNext,
  Cond.code y_Machine_returnNext k_Machine_returnNext 2 (some .int),
  Cond.methodLink R_Machine 99 y_Value_content,
  Cond.methodLink R_Machine 124 y_Symbols_global,
  Cond.instanceMethod y_Symbols_global,
  Cond.selects y_Symbols_global.cls y_Symbols_global y_Symbols_global,
  Cond.code y_Symbols_global k_Symbols_global 2 (some .int),
  Cond.methodLink R_Machine 87 y_Value_isPair,
  Cond.methodLink R_Machine 94 y_Room_first,
  Cond.methodLink R_Machine 102 y_Machine_evaluateQuote,
  Cond.instanceMethod y_Machine_evaluateQuote,
  Cond.code y_Machine_evaluateQuote k_Machine_evaluateQuote 1 (some .int),
  Cond.methodLink R_Machine 136 y_Room_length]
theorem pmI_22 : pmTs_22 = [581, 582, 583, 584, 585, 586, 587, 589, 590, 591, 592, 593, 594, 595, 596, 597, 598, 600, 601, 602].filterMap (fun i => lw_tbl[i]?) := by decide +kernel
theorem pmG_22 : ∀ w ∈ pmTs_22, pm_good w = true := by decide +kernel
def pmTs_23 : List Cond := [
  Cond.instanceMethod y_Room_length,
  Cond.selects y_Room_length.cls y_Room_length y_Room_length,
  Cond.code y_Room_length k_Room_length 4 (some .int),
  Cond.methodLink R_Machine 139 y_Machine_part,
  Cond.instanceMethod y_Machine_part,
  Cond.code y_Machine_part k_Machine_part 2 (some .int),
  Cond.methodLink R_Machine 133 y_Room_tail,
  Cond.instanceMethod y_Room_tail,
  Cond.selects y_Room_tail.cls y_Room_tail y_Room_tail,
  Cond.code y_Room_tail k_Room_tail 5 (some .int),
  Cond.methodLink R_Machine 105 y_Machine_evaluateIf,
  Cond.instanceMethod y_Machine_evaluateIf,
  Cond.code y_Machine_evaluateIf k_Machine_evaluateIf 2 (some .int),
  Cond.methodLink R_Machine 117 y_Machine_evaluateUnder,
  Cond.instanceMethod y_Machine_evaluateUnder,
  Cond.code y_Machine_evaluateUnder k_Machine_evaluateUnder 5 (some .int),
  Cond.methodLink R_Machine 129 y_State_push,
  Cond.instanceMethod y_State_push,
  Cond.selects y_State_push.cls y_State_push y_State_push,
  Cond.code y_State_push k_State_push 4 (some .boolean)]
theorem pmI_23 : pmTs_23 = [603, 604, 605, 606, 608, 609, 610, 611, 612, 613, 614, 616, 617, 618, 620, 621, 622, 623, 624, 625].filterMap (fun i => lw_tbl[i]?) := by decide +kernel
theorem pmG_23 : ∀ w ∈ pmTs_23, pm_good w = true := by decide +kernel
def pmTs_24 : List Cond := [
  Cond.methodLink R_Machine 108 y_Machine_evaluateLambda,
  Cond.instanceMethod y_Machine_evaluateLambda,
  Cond.code y_Machine_evaluateLambda k_Machine_evaluateLambda 1 (some .int),
  Cond.methodLink R_Machine 142 y_Machine_areParameters,
  Cond.instanceMethod y_Machine_areParameters,
  Cond.code y_Machine_areParameters k_Machine_areParameters 4 (some .boolean),
  Cond.methodLink R_Machine 145 y_Room_hasFor,
  Cond.methodLink R_Machine 148 y_Room_closure,
  Cond.instanceMethod y_Room_closure,
  Cond.selects y_Room_closure.cls y_Room_closure y_Room_closure,
  Cond.code y_Room_closure k_Room_closure 4 (some .int),
  Cond.methodLink R_Machine 111 y_Machine_evaluateNaming,
  Cond.instanceMethod y_Machine_evaluateNaming,
  Cond.code y_Machine_evaluateNaming k_Machine_evaluateNaming 3 (some .int),
  Cond.methodLink R_Machine 51 y_Machine_giveBack,
  Cond.instanceMethod y_Machine_giveBack,
  Cond.code y_Machine_giveBack k_Machine_giveBack 1 (some .int),
  Cond.methodLink R_Machine 152 y_State_kind,
  Cond.instanceMethod y_State_kind,
  Cond.selects y_State_kind.cls y_State_kind y_State_kind]
theorem pmI_24 : pmTs_24 = [626, 628, 629, 630, 632, 633, 634, 635, 636, 637, 638, 639, 641, 642, 643, 645, 646, 647, 648, 649].filterMap (fun i => lw_tbl[i]?) := by decide +kernel
theorem pmG_24 : ∀ w ∈ pmTs_24, pm_good w = true := by decide +kernel
def pmTs_25 : List Cond := [
  Cond.code y_State_kind k_State_kind 1 (some .int),
  Cond.methodLink R_State 34 y_State_hasTop,
  Cond.instanceMethod y_State_hasTop,
  Cond.code y_State_hasTop k_State_hasTop 1 (some .boolean),
  Cond.methodLink R_Machine 155 y_Machine_choose,
  Cond.instanceMethod y_Machine_choose,
  Cond.code y_Machine_choose k_Machine_choose 3 (some .int),
  Cond.methodLink R_Machine 168 y_State_a,
  Cond.instanceMethod y_State_a,
  Cond.selects y_State_a.cls y_State_a y_State_a,
  Cond.code y_State_a k_State_a 1 (some .int),
  Cond.methodLink R_Machine 183 y_State_b,
  Cond.instanceMethod y_State_b,
  Cond.selects y_State_b.cls y_State_b y_State_b,
  Cond.code y_State_b k_State_b 1 (some .int),
  Cond.methodLink R_Machine 186 y_State_pop,
  Cond.instanceMethod y_State_pop,
  Cond.selects y_State_pop.cls y_State_pop y_State_pop,
  Cond.code y_State_pop k_State_pop 1 none,
  Cond.methodLink R_Machine 158 y_Machine_define]
theorem pmI_25 : pmTs_25 = [650, 651, 653, 654, 655, 657, 658, 659, 660, 661, 662, 663, 664, 665, 666, 667, 668, 669, 670, 671].filterMap (fun i => lw_tbl[i]?) := by decide +kernel
theorem pmG_25 : ∀ w ∈ pmTs_25, pm_good w = true := by decide +kernel
def pmTs_26 : List Cond := [
  Cond.instanceMethod y_Machine_define,
  Cond.code y_Machine_define k_Machine_define 2 (some .int),
  Cond.methodLink R_Machine 189 y_Symbols_setGlobal,
  Cond.instanceMethod y_Symbols_setGlobal,
  Cond.selects y_Symbols_setGlobal.cls y_Symbols_setGlobal y_Symbols_setGlobal,
  Cond.code y_Symbols_setGlobal k_Symbols_setGlobal 3 none,
  Cond.methodLink R_Machine 161 y_Machine_assign,
  Cond.instanceMethod y_Machine_assign,
  Cond.code y_Machine_assign k_Machine_assign 3 (some .int),
  Cond.methodLink R_Machine 193 y_Room_setSecond,
  Cond.methodLink R_Machine 164 y_Machine_keepValue,
  Cond.instanceMethod y_Machine_keepValue,
  Cond.code y_Machine_keepValue k_Machine_keepValue 1 (some .boolean),
  Cond.methodLink R_Machine 196 y_State_c,
  Cond.instanceMethod y_State_c,
  Cond.selects y_State_c.cls y_State_c y_State_c,
  Cond.code y_State_c k_State_c 1 (some .int),
  Cond.methodLink R_Machine 199 y_Room_pair,
  Cond.methodLink R_Machine 202 y_State_setC,
  Cond.instanceMethod y_State_setC]
theorem pmI_26 : pmTs_26 = [673, 674, 675, 676, 677, 678, 679, 681, 682, 683, 684, 686, 687, 688, 689, 690, 691, 692, 693, 694].filterMap (fun i => lw_tbl[i]?) := by decide +kernel
theorem pmG_26 : ∀ w ∈ pmTs_26, pm_good w = true := by decide +kernel
def pmTs_27 : List Cond := [
  Cond.selects y_State_setC.cls y_State_setC y_State_setC,
  Cond.code y_State_setC k_State_setC 2 none,
  Cond.methodLink R_Machine 171 y_Machine_nextArgument,
  Cond.instanceMethod y_Machine_nextArgument,
  Cond.code y_Machine_nextArgument k_Machine_nextArgument 2 (some .int),
  Cond.methodLink R_Machine 205 y_State_setA,
  Cond.instanceMethod y_State_setA,
  Cond.selects y_State_setA.cls y_State_setA y_State_setA,
  Cond.code y_State_setA k_State_setA 2 none,
  Cond.methodLink R_Machine 174 y_Machine_apply,
  Cond.instanceMethod y_Machine_apply,
  Cond.code y_Machine_apply k_Machine_apply 5 (some .int),
  Cond.methodLink R_Machine 208 y_Machine_faultOfCall,
  Cond.instanceMethod y_Machine_faultOfCall,
  Cond.code y_Machine_faultOfCall k_Machine_faultOfCall 3 (some .int),
  Cond.methodLink R_Machine 214 y_Value_kind,
  Cond.methodLink R_Machine 222 y_Machine_faultOfPrimitive,
  Cond.instanceMethod y_Machine_faultOfPrimitive,
  Cond.code y_Machine_faultOfPrimitive k_Machine_faultOfPrimitive 5 (some .int),
  Cond.methodLink R_Machine 225 y_Value_isNumber]
theorem pmI_27 : pmTs_27 = [695, 696, 697, 699, 700, 701, 702, 703, 704, 705, 707, 708, 709, 711, 712, 713, 714, 716, 717, 718].filterMap (fun i => lw_tbl[i]?) := by decide +kernel
theorem pmG_27 : ∀ w ∈ pmTs_27, pm_good w = true := by decide +kernel
def pmTs_28 : List Cond := [
  Cond.static y_Value_isNumber,
  Cond.code y_Value_isNumber k_Value_isNumber 1 (some .boolean),
  Cond.methodLink R_Machine 211 y_Machine_cellsOfCall,
  Cond.static y_Machine_cellsOfCall,
  Cond.code y_Machine_cellsOfCall k_Machine_cellsOfCall 2 (some .int),
  Cond.methodLink R_Machine 216 y_Machine_boundEnvironment,
  Cond.instanceMethod y_Machine_boundEnvironment,
  Cond.code y_Machine_boundEnvironment k_Machine_boundEnvironment 9 (some .int),
  Cond.methodLink R_Machine 228 y_Room_third,
  Cond.instanceMethod y_Room_third,
  Cond.selects y_Room_third.cls y_Room_third y_Room_third,
  Cond.code y_Room_third k_Room_third 2 (some .int),
  Cond.methodLink R_Machine 219 y_Machine_primitiveResult,
  Cond.instanceMethod y_Machine_primitiveResult,
  Cond.code y_Machine_primitiveResult k_Machine_primitiveResult 6 (some .int),
  Cond.methodLink R_Machine 231 y_Value_of,
  Cond.methodLink R_Machine 234 y_Machine_truth,
  Cond.static y_Machine_truth,
  Cond.code y_Machine_truth k_Machine_truth 1 (some .int),
  Cond.methodLink R_Machine 238 y_Machine_listOf]
theorem pmI_28 : pmTs_28 = [719, 720, 721, 722, 723, 724, 726, 727, 728, 729, 730, 731, 732, 734, 735, 736, 737, 738, 739, 740].filterMap (fun i => lw_tbl[i]?) := by decide +kernel
theorem pmG_28 : ∀ w ∈ pmTs_28, pm_good w = true := by decide +kernel
def pmTs_29 : List Cond := [
  Cond.instanceMethod y_Machine_listOf,
  Cond.code y_Machine_listOf k_Machine_listOf 6 (some .int),
  Cond.methodLink R_Machine 177 y_Printer_printLine,
  Cond.instanceMethod y_Printer_printLine,
  Cond.selects y_Printer_printLine.cls y_Printer_printLine y_Printer_printLine,
  Cond.code y_Printer_printLine k_Printer_printLine 2 none,
  Cond.methodLink R_Printer 21 y_Printer_print,
  Cond.instanceMethod y_Printer_print,
  Cond.code y_Printer_print k_Printer_print 3 none,
  Cond.methodLink R_Printer 31 y_Value_kind,
  Cond.methodLink R_Printer 37 y_Value_content,
  Cond.methodLink R_Printer 40 y_Printer_printNumber,
  Cond.instanceMethod y_Printer_printNumber,
  Cond.code y_Printer_printNumber k_Printer_printNumber 4 none,
  Cond.methodLink R_Printer 25 y_Output_put,
  Cond.instanceMethod y_Output_put,
  Cond.selects y_Output_put.cls y_Output_put y_Output_put,
  Cond.code y_Output_put k_Output_put 2 none,
  Cond.methodLink R_Printer 87 Lib.Math.abs.name,
  Cond.static Lib.Math.abs.name]
theorem pmI_29 : pmTs_29 = [742, 743, 744, 745, 746, 747, 748, 750, 751, 752, 753, 754, 756, 757, 758, 759, 760, 761, 762, 763].filterMap (fun i => lw_tbl[i]?) := by decide +kernel
theorem pmG_29 : ∀ w ∈ pmTs_29, pm_good w = true := by decide +kernel
def pmTs_30 : List Cond := [
  Cond.code Lib.Math.abs.name Lib.Math.abs.code 1 (some .int),
  Cond.constant R_Printer 92 (100000000),
  Cond.methodLink R_Printer 44 y_Symbols_name,
  Cond.instanceMethod y_Symbols_name,
  Cond.selects y_Symbols_name.cls y_Symbols_name y_Symbols_name,
  Cond.code y_Symbols_name k_Symbols_name 2 (some .long),
  Cond.methodLink R_Printer 50 y_Printer_printName,
  Cond.instanceMethod y_Printer_printName,
  Cond.code y_Printer_printName k_Printer_printName 5 none,
  Cond.constantLong R_Printer 93 (255),
  Cond.methodLink R_Printer 56 y_Printer_printText,
  Cond.instanceMethod y_Printer_printText,
  Cond.code y_Printer_printText k_Printer_printText 3 none,
  Cond.methodLink R_Printer 95 (⟨"java/lang/String", "length", "()I"⟩ : MethodName),
  Cond.methodLink R_Printer 101 (⟨"java/lang/String", "charAt", "(I)C"⟩ : MethodName),
  Cond.methodLink R_Printer 60 y_Printer_printList,
  Cond.instanceMethod y_Printer_printList,
  Cond.code y_Printer_printList k_Printer_printList 5 none,
  Cond.methodLink R_Printer 67 y_Value_isPair,
  Cond.methodLink R_Printer 71 y_Output_isFull]
theorem pmI_30 : pmTs_30 = [764, 765, 766, 767, 768, 769, 770, 772, 773, 774, 776, 778, 779, 780, 781, 782, 784, 785, 786, 787].filterMap (fun i => lw_tbl[i]?) := by decide +kernel
theorem pmG_30 : ∀ w ∈ pmTs_30, pm_good w = true := by decide +kernel
def pmTs_31 : List Cond := [
  Cond.instanceMethod y_Output_isFull,
  Cond.selects y_Output_isFull.cls y_Output_isFull y_Output_isFull,
  Cond.code y_Output_isFull k_Output_isFull 1 (some .boolean),
  Cond.methodLink R_Printer 75 y_Room_first,
  Cond.methodLink R_Printer 80 y_Room_second,
  Cond.methodLink R_Machine 54 y_Machine_endForm,
  Cond.instanceMethod y_Machine_endForm,
  Cond.code y_Machine_endForm k_Machine_endForm 1 none,
  Cond.methodLink R_Law 31 y_CL_outSize,
  Cond.instanceMethod y_CL_outSize,
  Cond.selects y_CL_outSize.cls y_CL_outSize y_CL_outSize,
  Cond.code y_CL_outSize k_CL_outSize 1 (some .int),
  Cond.methodLink R_Law 36 y_CL_out,
  Cond.instanceMethod y_CL_out,
  Cond.selects y_CL_out.cls y_CL_out y_CL_out,
  Cond.code y_CL_out k_CL_out 2 (some .int),
  Cond.methodLink R_CL 86 y_Output_at,
  Cond.instanceMethod y_Output_at,
  Cond.selects y_Output_at.cls y_Output_at y_Output_at,
  Cond.code y_Output_at k_Output_at 2 (some .int)]
theorem pmI_31 : pmTs_31 = [788, 789, 790, 791, 792, 797, 799, 800, 801, 802, 803, 804, 805, 806, 807, 808, 809, 810, 811, 812].filterMap (fun i => lw_tbl[i]?) := by decide +kernel
theorem pmG_31 : ∀ w ∈ pmTs_31, pm_good w = true := by decide +kernel
def pmTs_32 : List Cond := [
  Cond.methodLink R_Law 40 y_CL_clearOut,
  Cond.instanceMethod y_CL_clearOut,
  Cond.selects y_CL_clearOut.cls y_CL_clearOut y_CL_clearOut,
  Cond.code y_CL_clearOut k_CL_clearOut 1 none,
  Cond.methodLink R_Law 44 y_CL_liveCells,
  Cond.instanceMethod y_CL_liveCells,
  Cond.selects y_CL_liveCells.cls y_CL_liveCells y_CL_liveCells,
  Cond.code y_CL_liveCells k_CL_liveCells 1 (some .int),
  Cond.methodLink R_CL 90 y_Room_collect,
  Cond.methodLink R_Law 48 y_CL_count,
  Cond.instanceMethod y_CL_count,
  Cond.selects y_CL_count.cls y_CL_count y_CL_count,
  Cond.code y_CL_count k_CL_count 2 (some .int),
  Cond.methodLink R_Law 9 y_Law_cell,
  Cond.static y_Law_cell,
  Cond.code y_Law_cell k_Law_cell 2 (some .int),
  Cond.classLink R_Law 18 R_Md,
  Cond.instantiable R_Md 31,
  Cond.methodLink R_Law 20 y_Md_init,
  Cond.instanceMethod y_Md_init]
theorem pmI_32 : pmTs_32 = [813, 814, 815, 816, 817, 818, 819, 820, 821, 822, 823, 824, 825, 826, 827, 828, 829, 830, 831, 832].filterMap (fun i => lw_tbl[i]?) := by decide +kernel
theorem pmG_32 : ∀ w ∈ pmTs_32, pm_good w = true := by decide +kernel
def pmTs_33 : List Cond := [
  Cond.code y_Md_init k_Md_init 3 none,
  Cond.methodLink R_Md 1 objectInit,
  Cond.constant R_Md 45 (536870912),
  Cond.constant R_Md 77 (536872000),
  Cond.constant R_Md 78 (-2147483648),
  Cond.methodLink R_Md 79 y_Md_word,
  Cond.instanceMethod y_Md_word,
  Cond.code y_Md_word k_Md_word 7 none,
  Cond.constant R_Md 83 (536871015),
  Cond.fieldLink R_Md 87 R_Md "thrown" "I",
  Cond.fieldLink R_Md 74 R_Md "size" "I",
  Cond.fieldLink R_Md 7 R_Md "cells" "[I",
  Cond.fieldLink R_Md 13 R_Md "first" "[I",
  Cond.fieldLink R_Md 16 R_Md "second" "[I",
  Cond.fieldLink R_Md 19 R_Md "third" "[I",
  Cond.fieldLink R_Md 22 R_Md "used" "[Z",
  Cond.fieldLink R_Md 26 R_Md "kind" "[I",
  Cond.fieldLink R_Md 29 R_Md "frameA" "[I",
  Cond.fieldLink R_Md 32 R_Md "frameB" "[I",
  Cond.fieldLink R_Md 35 R_Md "frameC" "[I"]
theorem pmI_33 : pmTs_33 = [833, 834, 835, 836, 837, 838, 840, 841, 842, 843, 844, 845, 846, 847, 848, 849, 850, 851, 852, 853].filterMap (fun i => lw_tbl[i]?) := by decide +kernel
theorem pmG_33 : ∀ w ∈ pmTs_33, pm_good w = true := by decide +kernel
def pmTs_34 : List Cond := [
  Cond.fieldLink R_Md 100 R_Md "frames" "I",
  Cond.fieldLink R_Md 84 R_Md "known" "I",
  Cond.fieldLink R_Md 38 R_Md "names" "[C",
  Cond.fieldLink R_Md 42 R_Md "globals" "[I",
  Cond.fieldLink R_Md 46 R_Md "value" "I",
  Cond.fieldLink R_Md 50 R_Md "scope" "I",
  Cond.fieldLink R_Md 180 R_Md "under" "Z",
  Cond.fieldLink R_Md 184 R_Md "returns" "Z",
  Cond.fieldLink R_Md 165 R_Md "steps" "I",
  Cond.fieldLink R_Md 111 R_Md "fed" "I",
  Cond.fieldLink R_Md 53 R_Md "text" "[C",
  Cond.fieldLink R_Md 263 R_Md "waits" "I",
  Cond.fieldLink R_Md 56 R_Md "out" "[C",
  Cond.fieldLink R_Md 59 R_Md "openFirst" "[I",
  Cond.fieldLink R_Md 62 R_Md "openLast" "[I",
  Cond.fieldLink R_Md 65 R_Md "quoted" "[Z",
  Cond.fieldLink R_Md 68 R_Md "left" "[I",
  Cond.fieldLink R_Md 71 R_Md "things" "[I",
  Cond.fieldLink R_Md 148 R_Md "end" "I",
  Cond.fieldLink R_Md 139 R_Md "needs" "I"]
theorem pmI_34 : pmTs_34 = [854, 855, 856, 857, 858, 859, 860, 861, 862, 863, 864, 865, 866, 867, 868, 869, 870, 871, 872, 873].filterMap (fun i => lw_tbl[i]?) := by decide +kernel
theorem pmG_34 : ∀ w ∈ pmTs_34, pm_good w = true := by decide +kernel
def pmTs_35 : List Cond := [
  Cond.methodLink R_Law 25 y_Md_feed,
  Cond.instanceMethod y_Md_feed,
  Cond.selects y_Md_feed.cls y_Md_feed y_Md_feed,
  Cond.code y_Md_feed k_Md_feed 5 (some .boolean),
  Cond.methodLink R_Law 30 y_Md_run,
  Cond.instanceMethod y_Md_run,
  Cond.selects y_Md_run.cls y_Md_run y_Md_run,
  Cond.code y_Md_run k_Md_run 4 (some .int),
  Cond.methodLink R_Md 254 y_Md_reading,
  Cond.instanceMethod y_Md_reading,
  Cond.code y_Md_reading k_Md_reading 4 (some .int),
  Cond.methodLink R_Md 162 y_Md_lookOver,
  Cond.instanceMethod y_Md_lookOver,
  Cond.code y_Md_lookOver k_Md_lookOver 5 (some .int),
  Cond.methodLink R_Md 142 y_Md_skip,
  Cond.instanceMethod y_Md_skip,
  Cond.code y_Md_skip k_Md_skip 3 (some .int),
  Cond.methodLink R_Md 114 y_Md_isBlank,
  Cond.static y_Md_isBlank,
  Cond.code y_Md_isBlank k_Md_isBlank 1 (some .boolean)]
theorem pmI_35 : pmTs_35 = [937, 938, 939, 940, 941, 942, 943, 944, 945, 947, 948, 949, 951, 952, 953, 955, 956, 957, 958, 959].filterMap (fun i => lw_tbl[i]?) := by decide +kernel
theorem pmG_35 : ∀ w ∈ pmTs_35, pm_good w = true := by decide +kernel
def pmTs_36 : List Cond := [
  Cond.methodLink R_Md 145 y_Md_tokenEnd,
  Cond.instanceMethod y_Md_tokenEnd,
  Cond.code y_Md_tokenEnd k_Md_tokenEnd 3 (some .int),
  Cond.methodLink R_Md 118 y_Md_isSign,
  Cond.static y_Md_isSign,
  Cond.code y_Md_isSign k_Md_isSign 1 (some .boolean),
  Cond.methodLink R_Md 168 y_Md_meet,
  Cond.instanceMethod y_Md_meet,
  Cond.code y_Md_meet k_Md_meet 4 (some .boolean),
  Cond.methodLink R_Md 125 y_Md_isFigure,
  Cond.instanceMethod y_Md_isFigure,
  Cond.code y_Md_isFigure k_Md_isFigure 6 (some .boolean),
  Cond.methodLink R_Md 133 y_Md_isNil,
  Cond.instanceMethod y_Md_isNil,
  Cond.code y_Md_isNil k_Md_isNil 3 (some .boolean),
  Cond.methodLink R_Md 136 y_Md_symbolOf,
  Cond.instanceMethod y_Md_symbolOf,
  Cond.code y_Md_symbolOf k_Md_symbolOf 6 (some .int),
  Cond.methodLink R_Md 171 y_Md_room,
  Cond.instanceMethod y_Md_room]
theorem pmI_36 : pmTs_36 = [960, 962, 963, 964, 965, 966, 967, 969, 970, 971, 973, 974, 975, 977, 978, 979, 981, 982, 983, 985].filterMap (fun i => lw_tbl[i]?) := by decide +kernel
theorem pmG_36 : ∀ w ∈ pmTs_36, pm_good w = true := by decide +kernel
def pmTs_37 : List Cond := [
  Cond.code y_Md_room k_Md_room 4 (some .boolean),
  Cond.methodLink R_Md 103 y_Md_live,
  Cond.instanceMethod y_Md_live,
  Cond.code y_Md_live k_Md_live 4 (some .int),
  Cond.methodLink R_Md 96 y_Md_mark,
  Cond.instanceMethod y_Md_mark,
  Cond.code y_Md_mark k_Md_mark 2 none,
  Cond.methodLink R_Md 92 y_Md_isThing,
  Cond.static y_Md_isThing,
  Cond.code y_Md_isThing k_Md_isThing 1 (some .boolean),
  Cond.constant R_Md 91 (536873000),
  Cond.methodLink R_Md 174 y_Md_read,
  Cond.instanceMethod y_Md_read,
  Cond.code y_Md_read k_Md_read 4 none,
  Cond.methodLink R_Md 155 y_Md_arrived,
  Cond.instanceMethod y_Md_arrived,
  Cond.code y_Md_arrived k_Md_arrived 5 none,
  Cond.constant R_Md 151 (536871010),
  Cond.methodLink R_Md 152 y_Md_pair,
  Cond.instanceMethod y_Md_pair]
theorem pmI_37 : pmTs_37 = [986, 987, 989, 990, 991, 993, 994, 995, 996, 997, 998, 999, 1001, 1002, 1003, 1005, 1006, 1007, 1008, 1010].filterMap (fun i => lw_tbl[i]?) := by decide +kernel
theorem pmG_37 : ∀ w ∈ pmTs_37, pm_good w = true := by decide +kernel
def pmTs_38 : List Cond := [
  Cond.code y_Md_pair k_Md_pair 3 (some .int),
  Cond.methodLink R_Md 107 y_Md_make,
  Cond.instanceMethod y_Md_make,
  Cond.code y_Md_make k_Md_make 6 (some .int),
  Cond.methodLink R_Md 159 y_Md_atom,
  Cond.instanceMethod y_Md_atom,
  Cond.code y_Md_atom k_Md_atom 3 (some .int),
  Cond.methodLink R_Md 129 y_Md_figure,
  Cond.instanceMethod y_Md_figure,
  Cond.code y_Md_figure k_Md_figure 5 (some .int),
  Cond.methodLink R_Md 121 y_Md_wrap,
  Cond.static y_Md_wrap,
  Cond.code y_Md_wrap k_Md_wrap 1 (some .int),
  Cond.constant R_Md 90 (536871000),
  Cond.methodLink R_Md 177 y_Md_drop,
  Cond.instanceMethod y_Md_drop,
  Cond.code y_Md_drop k_Md_drop 3 none,
  Cond.methodLink R_Md 257 y_Md_back,
  Cond.instanceMethod y_Md_back,
  Cond.code y_Md_back k_Md_back 5 (some .int)]
theorem pmI_38 : pmTs_38 = [1011, 1012, 1014, 1015, 1016, 1018, 1019, 1020, 1022, 1023, 1024, 1025, 1026, 1027, 1028, 1030, 1031, 1032, 1034, 1035].filterMap (fun i => lw_tbl[i]?) := by decide +kernel
theorem pmG_38 : ∀ w ∈ pmTs_38, pm_good w = true := by decide +kernel
def pmTs_39 : List Cond := [
  Cond.methodLink R_Md 227 y_Md_print,
  Cond.instanceMethod y_Md_print,
  Cond.code y_Md_print k_Md_print 2 none,
  Cond.methodLink R_Md 281 y_Md_begin,
  Cond.instanceMethod y_Md_begin,
  Cond.code y_Md_begin k_Md_begin 3 (some .int),
  Cond.methodLink R_Md 187 y_Md_isPair,
  Cond.instanceMethod y_Md_isPair,
  Cond.code y_Md_isPair k_Md_isPair 2 (some .boolean),
  Cond.methodLink R_Md 275 y_Md_putPlain,
  Cond.instanceMethod y_Md_putPlain,
  Cond.code y_Md_putPlain k_Md_putPlain 2 none,
  Cond.methodLink R_Md 251 y_Md_isNumber,
  Cond.static y_Md_isNumber,
  Cond.code y_Md_isNumber k_Md_isNumber 1 (some .boolean),
  Cond.methodLink R_Md 269 y_Md_putNumber,
  Cond.instanceMethod y_Md_putNumber,
  Cond.code y_Md_putNumber k_Md_putNumber 4 none,
  Cond.methodLink R_Md 266 y_Md_put,
  Cond.instanceMethod y_Md_put]
theorem pmI_39 : pmTs_39 = [1036, 1038, 1039, 1040, 1042, 1043, 1044, 1046, 1047, 1048, 1050, 1051, 1052, 1053, 1054, 1055, 1057, 1058, 1059, 1061].filterMap (fun i => lw_tbl[i]?) := by decide +kernel
theorem pmG_39 : ∀ w ∈ pmTs_39, pm_good w = true := by decide +kernel
def pmTs_40 : List Cond := [
  Cond.code y_Md_put k_Md_put 2 none,
  Cond.methodLink R_Md 205 y_Md_isSymbol,
  Cond.static y_Md_isSymbol,
  Cond.code y_Md_isSymbol k_Md_isSymbol 1 (some .boolean),
  Cond.methodLink R_Md 272 y_Md_putName,
  Cond.instanceMethod y_Md_putName,
  Cond.code y_Md_putName k_Md_putName 3 none,
  Cond.methodLink R_Md 278 y_Md_putDots,
  Cond.instanceMethod y_Md_putDots,
  Cond.code y_Md_putDots k_Md_putDots 1 none,
  Cond.methodLink R_Md 284 y_Md_further,
  Cond.instanceMethod y_Md_further,
  Cond.code y_Md_further k_Md_further 3 (some .int),
  Cond.methodLink R_Md 190 y_Md_cdr,
  Cond.instanceMethod y_Md_cdr,
  Cond.code y_Md_cdr k_Md_cdr 2 (some .int),
  Cond.methodLink R_Md 193 y_Md_car,
  Cond.instanceMethod y_Md_car,
  Cond.code y_Md_car k_Md_car 2 (some .int),
  Cond.methodLink R_Md 230 y_Md_clearAll]
theorem pmI_40 : pmTs_40 = [1062, 1063, 1064, 1065, 1066, 1068, 1069, 1070, 1072, 1073, 1074, 1076, 1077, 1078, 1080, 1081, 1082, 1084, 1085, 1086].filterMap (fun i => lw_tbl[i]?) := by decide +kernel
theorem pmG_40 : ∀ w ∈ pmTs_40, pm_good w = true := by decide +kernel
def pmTs_41 : List Cond := [
  Cond.instanceMethod y_Md_clearAll,
  Cond.code y_Md_clearAll k_Md_clearAll 1 none,
  Cond.methodLink R_Md 233 y_Md_argument,
  Cond.instanceMethod y_Md_argument,
  Cond.code y_Md_argument k_Md_argument 3 (some .int),
  Cond.methodLink R_Md 236 y_Md_apply,
  Cond.instanceMethod y_Md_apply,
  Cond.code y_Md_apply k_Md_apply 8 (some .int),
  Cond.methodLink R_Md 202 y_Md_lengthOf,
  Cond.instanceMethod y_Md_lengthOf,
  Cond.code y_Md_lengthOf k_Md_lengthOf 4 (some .int),
  Cond.methodLink R_Md 211 y_Md_at,
  Cond.instanceMethod y_Md_at,
  Cond.code y_Md_at k_Md_at 5 (some .int),
  Cond.methodLink R_Md 239 y_Md_isClosure,
  Cond.instanceMethod y_Md_isClosure,
  Cond.code y_Md_isClosure k_Md_isClosure 2 (some .boolean),
  Cond.methodLink R_Md 242 y_Md_enter,
  Cond.instanceMethod y_Md_enter,
  Cond.code y_Md_enter k_Md_enter 6 (some .int)]
theorem pmI_41 : pmTs_41 = [1088, 1089, 1090, 1092, 1093, 1094, 1096, 1097, 1098, 1100, 1101, 1102, 1104, 1105, 1106, 1108, 1109, 1110, 1112, 1113].filterMap (fun i => lw_tbl[i]?) := by decide +kernel
theorem pmG_41 : ∀ w ∈ pmTs_41, pm_good w = true := by decide +kernel
def pmTs_42 : List Cond := [
  Cond.methodLink R_Md 218 y_Md_go,
  Cond.instanceMethod y_Md_go,
  Cond.code y_Md_go k_Md_go 3 (some .int),
  Cond.methodLink R_Md 245 y_Md_listed,
  Cond.instanceMethod y_Md_listed,
  Cond.code y_Md_listed k_Md_listed 5 (some .int),
  Cond.methodLink R_Md 248 y_Md_done,
  Cond.instanceMethod y_Md_done,
  Cond.code y_Md_done k_Md_done 2 (some .int),
  Cond.methodLink R_Md 199 y_Md_give,
  Cond.instanceMethod y_Md_give,
  Cond.code y_Md_give k_Md_give 2 (some .int),
  Cond.methodLink R_Md 196 y_Md_binding,
  Cond.instanceMethod y_Md_binding,
  Cond.code y_Md_binding k_Md_binding 4 (some .int),
  Cond.methodLink R_Md 260 y_Md_evaluate,
  Cond.instanceMethod y_Md_evaluate,
  Cond.code y_Md_evaluate k_Md_evaluate 2 (some .int),
  Cond.methodLink R_Md 221 y_Md_lookUp,
  Cond.instanceMethod y_Md_lookUp]
theorem pmI_42 : pmTs_42 = [1114, 1116, 1117, 1118, 1120, 1121, 1122, 1124, 1125, 1126, 1128, 1129, 1130, 1132, 1133, 1134, 1136, 1137, 1138, 1140].filterMap (fun i => lw_tbl[i]?) := by decide +kernel
theorem pmG_42 : ∀ w ∈ pmTs_42, pm_good w = true := by decide +kernel
def pmTs_43 : List Cond := [
  Cond.code y_Md_lookUp k_Md_lookUp 3 (some .int),
  Cond.methodLink R_Md 224 y_Md_special,
  Cond.instanceMethod y_Md_special,
  Cond.code y_Md_special k_Md_special 6 (some .int),
  Cond.methodLink R_Md 208 y_Md_areParameters,
  Cond.instanceMethod y_Md_areParameters,
  Cond.code y_Md_areParameters k_Md_areParameters 4 (some .boolean),
  Cond.methodLink R_Md 214 y_Md_push,
  Cond.instanceMethod y_Md_push,
  Cond.code y_Md_push k_Md_push 4 (some .int),
  Cond.methodLink R_Law 35 y_Md_outSize,
  Cond.instanceMethod y_Md_outSize,
  Cond.selects y_Md_outSize.cls y_Md_outSize y_Md_outSize,
  Cond.code y_Md_outSize k_Md_outSize 1 (some .int),
  Cond.methodLink R_Law 39 y_Md_out,
  Cond.instanceMethod y_Md_out,
  Cond.selects y_Md_out.cls y_Md_out y_Md_out,
  Cond.code y_Md_out k_Md_out 2 (some .int),
  Cond.methodLink R_Law 43 y_Md_clearOut,
  Cond.instanceMethod y_Md_clearOut]
theorem pmI_43 : pmTs_43 = [1141, 1142, 1144, 1145, 1146, 1148, 1149, 1150, 1152, 1153, 1154, 1155, 1156, 1157, 1158, 1159, 1160, 1161, 1162, 1163].filterMap (fun i => lw_tbl[i]?) := by decide +kernel
theorem pmG_43 : ∀ w ∈ pmTs_43, pm_good w = true := by decide +kernel
def pmTs_44 : List Cond := [
  Cond.selects y_Md_clearOut.cls y_Md_clearOut y_Md_clearOut,
  Cond.code y_Md_clearOut k_Md_clearOut 1 none,
  Cond.methodLink R_Law 47 y_Md_liveCells,
  Cond.instanceMethod y_Md_liveCells,
  Cond.selects y_Md_liveCells.cls y_Md_liveCells y_Md_liveCells,
  Cond.code y_Md_liveCells k_Md_liveCells 1 (some .int),
  Cond.methodLink R_Law 51 y_Md_count,
  Cond.instanceMethod y_Md_count,
  Cond.selects y_Md_count.cls y_Md_count y_Md_count,
  Cond.code y_Md_count k_Md_count 2 (some .int),
  Cond.fieldLink "java/lang/String" 9 "java/lang/String" "value" "[B",
  Cond.fieldLink "java/lang/String" 15 "java/lang/String" "coder" "B"]
theorem pmI_44 : pmTs_44 = [1164, 1165, 1166, 1167, 1168, 1169, 1170, 1171, 1172, 1173, 1174, 1175].filterMap (fun i => lw_tbl[i]?) := by decide +kernel
theorem pmG_44 : ∀ w ∈ pmTs_44, pm_good w = true := by decide +kernel
theorem pmI_L0 : u_ws R_CL T_CL 6 = [408, 410, 412, 414, 416, 418].filterMap (fun i => lw_tbl[i]?) := by decide +kernel
theorem pmG_L0 : ∀ w ∈ u_ws R_CL T_CL 6, pm_good w = true := by decide +kernel
theorem pmI_L1 : u_ws R_Text T_Text 2 = [124, 126].filterMap (fun i => lw_tbl[i]?) := by decide +kernel
theorem pmG_L1 : ∀ w ∈ u_ws R_Text T_Text 2, pm_good w = true := by decide +kernel
theorem pmI_L2 : u_ws R_Output T_Output 2 = [139, 141].filterMap (fun i => lw_tbl[i]?) := by decide +kernel
theorem pmG_L2 : ∀ w ∈ u_ws R_Output T_Output 2, pm_good w = true := by decide +kernel
theorem pmI_L3 : u_ws R_Symbols T_Symbols 3 = [216, 218, 220].filterMap (fun i => lw_tbl[i]?) := by decide +kernel
theorem pmG_L3 : ∀ w ∈ u_ws R_Symbols T_Symbols 3, pm_good w = true := by decide +kernel
theorem pmI_L4 : u_ws R_State T_State 8 = [250, 252, 254, 256, 258, 260, 262, 264].filterMap (fun i => lw_tbl[i]?) := by decide +kernel
theorem pmG_L4 : ∀ w ∈ u_ws R_State T_State 8, pm_good w = true := by decide +kernel
theorem pmI_L5 : u_ws R_Room T_Room 13 = [294, 296, 298, 300, 302, 304, 306, 308, 310, 312, 314, 316, 318].filterMap (fun i => lw_tbl[i]?) := by decide +kernel
theorem pmG_L5 : ∀ w ∈ u_ws R_Room T_Room 13, pm_good w = true := by decide +kernel
theorem pmI_L6 : u_ws R_Machine T_Machine 7 = [387, 389, 391, 393, 395, 397, 399].filterMap (fun i => lw_tbl[i]?) := by decide +kernel
theorem pmG_L6 : ∀ w ∈ u_ws R_Machine T_Machine 7, pm_good w = true := by decide +kernel
theorem pmI_L7 : u_ws R_Reader T_Reader 9 = [340, 342, 344, 346, 348, 350, 352, 354, 356].filterMap (fun i => lw_tbl[i]?) := by decide +kernel
theorem pmG_L7 : ∀ w ∈ u_ws R_Reader T_Reader 9, pm_good w = true := by decide +kernel
theorem pmI_L8 : u_ws R_Printer T_Printer 3 = [368, 370, 372].filterMap (fun i => lw_tbl[i]?) := by decide +kernel
theorem pmG_L8 : ∀ w ∈ u_ws R_Printer T_Printer 3, pm_good w = true := by decide +kernel
theorem pmI_L9 : u_ws R_Md T_Md 31 = [874, 876, 878, 880, 882, 884, 886, 888, 890, 892, 894, 896, 898, 900, 902, 904, 906, 908, 910, 912, 914, 916, 918, 920, 922, 924, 926, 928, 930, 932, 934].filterMap (fun i => lw_tbl[i]?) := by decide +kernel
theorem pmG_L9 : ∀ w ∈ u_ws R_Md T_Md 31, pm_good w = true := by decide +kernel
def pmTs : List Cond := pmTs_0 ++ (pmTs_1 ++ (pmTs_2 ++ (pmTs_3 ++ (pmTs_4 ++ (pmTs_5 ++ (pmTs_6 ++ (pmTs_7 ++ (pmTs_8 ++ (pmTs_9 ++ (pmTs_10 ++ (pmTs_11 ++ (pmTs_12 ++ (pmTs_13 ++ (pmTs_14 ++ (pmTs_15 ++ (pmTs_16 ++ (pmTs_17 ++ (pmTs_18 ++ (pmTs_19 ++ (pmTs_20 ++ (pmTs_21 ++ (pmTs_22 ++ (pmTs_23 ++ (pmTs_24 ++ (pmTs_25 ++ (pmTs_26 ++ (pmTs_27 ++ (pmTs_28 ++ (pmTs_29 ++ (pmTs_30 ++ (pmTs_31 ++ (pmTs_32 ++ (pmTs_33 ++ (pmTs_34 ++ (pmTs_35 ++ (pmTs_36 ++ (pmTs_37 ++ (pmTs_38 ++ (pmTs_39 ++ (pmTs_40 ++ (pmTs_41 ++ (pmTs_42 ++ (pmTs_43 ++ (pmTs_44 ++ ((u_ws R_CL T_CL 6) ++ ((u_ws R_Text T_Text 2) ++ ((u_ws R_Output T_Output 2) ++ ((u_ws R_Symbols T_Symbols 3) ++ ((u_ws R_State T_State 8) ++ ((u_ws R_Room T_Room 13) ++ ((u_ws R_Machine T_Machine 7) ++ ((u_ws R_Reader T_Reader 9) ++ ((u_ws R_Printer T_Printer 3) ++ ((u_ws R_Md T_Md 31)))))))))))))))))))))))))))))))))))))))))))))))))))))))
theorem pmM_0 {w : Cond} (h : w ∈ pmTs_0) : w ∈ pmTs := List.mem_append_left _ h
theorem pmM_1 {w : Cond} (h : w ∈ pmTs_1) : w ∈ pmTs := List.mem_append_right _ (List.mem_append_left _ h)
theorem pmM_2 {w : Cond} (h : w ∈ pmTs_2) : w ∈ pmTs := List.mem_append_right _ (List.mem_append_right _ (List.mem_append_left _ h))
theorem pmM_3 {w : Cond} (h : w ∈ pmTs_3) : w ∈ pmTs := List.mem_append_right _ (List.mem_append_right _ (List.mem_append_right _ (List.mem_append_left _ h)))
theorem pmM_4 {w : Cond} (h : w ∈ pmTs_4) : w ∈ pmTs := List.mem_append_right _ (List.mem_append_right _ (List.mem_append_right _ (List.mem_append_right _ (List.mem_append_left _ h))))
theorem pmM_5 {w : Cond} (h : w ∈ pmTs_5) : w ∈ pmTs := List.mem_append_right _ (List.mem_append_right _ (List.mem_append_right _ (List.mem_append_right _ (List.mem_append_right _ (List.mem_append_left _ h)))))
theorem pmM_6 {w : Cond} (h : w ∈ pmTs_6) : w ∈ pmTs := List.mem_append_right _ (List.mem_append_right _ (List.mem_append_right _ (List.mem_append_right _ (List.mem_append_right _ (List.mem_append_right _ (List.mem_append_left _ h))))))
theorem pmM_7 {w : Cond} (h : w ∈ pmTs_7) : w ∈ pmTs := List.mem_append_right _ (List.mem_append_right _ (List.mem_append_right _ (List.mem_append_right _ (List.mem_append_right _ (List.mem_append_right _ (List.mem_append_right _ (List.mem_append_left _ h)))))))
theorem pmM_8 {w : Cond} (h : w ∈ pmTs_8) : w ∈ pmTs := List.mem_append_right _ (List.mem_append_right _ (List.mem_append_right _ (List.mem_append_right _ (List.mem_append_right _ (List.mem_append_right _ (List.mem_append_right _ (List.mem_append_right _ (List.mem_append_left _ h))))))))
theorem pmM_9 {w : Cond} (h : w ∈ pmTs_9) : w ∈ pmTs := List.mem_append_right _ (List.mem_append_right _ (List.mem_append_right _ (List.mem_append_right _ (List.mem_append_right _ (List.mem_append_right _ (List.mem_append_right _ (List.mem_append_right _ (List.mem_append_right _ (List.mem_append_left _ h)))))))))
theorem pmM_10 {w : Cond} (h : w ∈ pmTs_10) : w ∈ pmTs := List.mem_append_right _ (List.mem_append_right _ (List.mem_append_right _ (List.mem_append_right _ (List.mem_append_right _ (List.mem_append_right _ (List.mem_append_right _ (List.mem_append_right _ (List.mem_append_right _ (List.mem_append_right _ (List.mem_append_left _ h))))))))))
theorem pmM_11 {w : Cond} (h : w ∈ pmTs_11) : w ∈ pmTs := List.mem_append_right _ (List.mem_append_right _ (List.mem_append_right _ (List.mem_append_right _ (List.mem_append_right _ (List.mem_append_right _ (List.mem_append_right _ (List.mem_append_right _ (List.mem_append_right _ (List.mem_append_right _ (List.mem_append_right _ (List.mem_append_left _ h)))))))))))
theorem pmM_12 {w : Cond} (h : w ∈ pmTs_12) : w ∈ pmTs := List.mem_append_right _ (List.mem_append_right _ (List.mem_append_right _ (List.mem_append_right _ (List.mem_append_right _ (List.mem_append_right _ (List.mem_append_right _ (List.mem_append_right _ (List.mem_append_right _ (List.mem_append_right _ (List.mem_append_right _ (List.mem_append_right _ (List.mem_append_left _ h))))))))))))
theorem pmM_13 {w : Cond} (h : w ∈ pmTs_13) : w ∈ pmTs := List.mem_append_right _ (List.mem_append_right _ (List.mem_append_right _ (List.mem_append_right _ (List.mem_append_right _ (List.mem_append_right _ (List.mem_append_right _ (List.mem_append_right _ (List.mem_append_right _ (List.mem_append_right _ (List.mem_append_right _ (List.mem_append_right _ (List.mem_append_right _ (List.mem_append_left _ h)))))))))))))
theorem pmM_14 {w : Cond} (h : w ∈ pmTs_14) : w ∈ pmTs := List.mem_append_right _ (List.mem_append_right _ (List.mem_append_right _ (List.mem_append_right _ (List.mem_append_right _ (List.mem_append_right _ (List.mem_append_right _ (List.mem_append_right _ (List.mem_append_right _ (List.mem_append_right _ (List.mem_append_right _ (List.mem_append_right _ (List.mem_append_right _ (List.mem_append_right _ (List.mem_append_left _ h))))))))))))))
theorem pmM_15 {w : Cond} (h : w ∈ pmTs_15) : w ∈ pmTs := List.mem_append_right _ (List.mem_append_right _ (List.mem_append_right _ (List.mem_append_right _ (List.mem_append_right _ (List.mem_append_right _ (List.mem_append_right _ (List.mem_append_right _ (List.mem_append_right _ (List.mem_append_right _ (List.mem_append_right _ (List.mem_append_right _ (List.mem_append_right _ (List.mem_append_right _ (List.mem_append_right _ (List.mem_append_left _ h)))))))))))))))
theorem pmM_16 {w : Cond} (h : w ∈ pmTs_16) : w ∈ pmTs := List.mem_append_right _ (List.mem_append_right _ (List.mem_append_right _ (List.mem_append_right _ (List.mem_append_right _ (List.mem_append_right _ (List.mem_append_right _ (List.mem_append_right _ (List.mem_append_right _ (List.mem_append_right _ (List.mem_append_right _ (List.mem_append_right _ (List.mem_append_right _ (List.mem_append_right _ (List.mem_append_right _ (List.mem_append_right _ (List.mem_append_left _ h))))))))))))))))
theorem pmM_17 {w : Cond} (h : w ∈ pmTs_17) : w ∈ pmTs := List.mem_append_right _ (List.mem_append_right _ (List.mem_append_right _ (List.mem_append_right _ (List.mem_append_right _ (List.mem_append_right _ (List.mem_append_right _ (List.mem_append_right _ (List.mem_append_right _ (List.mem_append_right _ (List.mem_append_right _ (List.mem_append_right _ (List.mem_append_right _ (List.mem_append_right _ (List.mem_append_right _ (List.mem_append_right _ (List.mem_append_right _ (List.mem_append_left _ h)))))))))))))))))
theorem pmM_18 {w : Cond} (h : w ∈ pmTs_18) : w ∈ pmTs := List.mem_append_right _ (List.mem_append_right _ (List.mem_append_right _ (List.mem_append_right _ (List.mem_append_right _ (List.mem_append_right _ (List.mem_append_right _ (List.mem_append_right _ (List.mem_append_right _ (List.mem_append_right _ (List.mem_append_right _ (List.mem_append_right _ (List.mem_append_right _ (List.mem_append_right _ (List.mem_append_right _ (List.mem_append_right _ (List.mem_append_right _ (List.mem_append_right _ (List.mem_append_left _ h))))))))))))))))))
theorem pmM_19 {w : Cond} (h : w ∈ pmTs_19) : w ∈ pmTs := List.mem_append_right _ (List.mem_append_right _ (List.mem_append_right _ (List.mem_append_right _ (List.mem_append_right _ (List.mem_append_right _ (List.mem_append_right _ (List.mem_append_right _ (List.mem_append_right _ (List.mem_append_right _ (List.mem_append_right _ (List.mem_append_right _ (List.mem_append_right _ (List.mem_append_right _ (List.mem_append_right _ (List.mem_append_right _ (List.mem_append_right _ (List.mem_append_right _ (List.mem_append_right _ (List.mem_append_left _ h)))))))))))))))))))
theorem pmM_20 {w : Cond} (h : w ∈ pmTs_20) : w ∈ pmTs := List.mem_append_right _ (List.mem_append_right _ (List.mem_append_right _ (List.mem_append_right _ (List.mem_append_right _ (List.mem_append_right _ (List.mem_append_right _ (List.mem_append_right _ (List.mem_append_right _ (List.mem_append_right _ (List.mem_append_right _ (List.mem_append_right _ (List.mem_append_right _ (List.mem_append_right _ (List.mem_append_right _ (List.mem_append_right _ (List.mem_append_right _ (List.mem_append_right _ (List.mem_append_right _ (List.mem_append_right _ (List.mem_append_left _ h))))))))))))))))))))
theorem pmM_21 {w : Cond} (h : w ∈ pmTs_21) : w ∈ pmTs := List.mem_append_right _ (List.mem_append_right _ (List.mem_append_right _ (List.mem_append_right _ (List.mem_append_right _ (List.mem_append_right _ (List.mem_append_right _ (List.mem_append_right _ (List.mem_append_right _ (List.mem_append_right _ (List.mem_append_right _ (List.mem_append_right _ (List.mem_append_right _ (List.mem_append_right _ (List.mem_append_right _ (List.mem_append_right _ (List.mem_append_right _ (List.mem_append_right _ (List.mem_append_right _ (List.mem_append_right _ (List.mem_append_right _ (List.mem_append_left _ h)))))))))))))))))))))
theorem pmM_22 {w : Cond} (h : w ∈ pmTs_22) : w ∈ pmTs := List.mem_append_right _ (List.mem_append_right _ (List.mem_append_right _ (List.mem_append_right _ (List.mem_append_right _ (List.mem_append_right _ (List.mem_append_right _ (List.mem_append_right _ (List.mem_append_right _ (List.mem_append_right _ (List.mem_append_right _ (List.mem_append_right _ (List.mem_append_right _ (List.mem_append_right _ (List.mem_append_right _ (List.mem_append_right _ (List.mem_append_right _ (List.mem_append_right _ (List.mem_append_right _ (List.mem_append_right _ (List.mem_append_right _ (List.mem_append_right _ (List.mem_append_left _ h))))))))))))))))))))))
theorem pmM_23 {w : Cond} (h : w ∈ pmTs_23) : w ∈ pmTs := List.mem_append_right _ (List.mem_append_right _ (List.mem_append_right _ (List.mem_append_right _ (List.mem_append_right _ (List.mem_append_right _ (List.mem_append_right _ (List.mem_append_right _ (List.mem_append_right _ (List.mem_append_right _ (List.mem_append_right _ (List.mem_append_right _ (List.mem_append_right _ (List.mem_append_right _ (List.mem_append_right _ (List.mem_append_right _ (List.mem_append_right _ (List.mem_append_right _ (List.mem_append_right _ (List.mem_append_right _ (List.mem_append_right _ (List.mem_append_right _ (List.mem_append_right _ (List.mem_append_left _ h)))))))))))))))))))))))
theorem pmM_24 {w : Cond} (h : w ∈ pmTs_24) : w ∈ pmTs := List.mem_append_right _ (List.mem_append_right _ (List.mem_append_right _ (List.mem_append_right _ (List.mem_append_right _ (List.mem_append_right _ (List.mem_append_right _ (List.mem_append_right _ (List.mem_append_right _ (List.mem_append_right _ (List.mem_append_right _ (List.mem_append_right _ (List.mem_append_right _ (List.mem_append_right _ (List.mem_append_right _ (List.mem_append_right _ (List.mem_append_right _ (List.mem_append_right _ (List.mem_append_right _ (List.mem_append_right _ (List.mem_append_right _ (List.mem_append_right _ (List.mem_append_right _ (List.mem_append_right _ (List.mem_append_left _ h))))))))))))))))))))))))
theorem pmM_25 {w : Cond} (h : w ∈ pmTs_25) : w ∈ pmTs := List.mem_append_right _ (List.mem_append_right _ (List.mem_append_right _ (List.mem_append_right _ (List.mem_append_right _ (List.mem_append_right _ (List.mem_append_right _ (List.mem_append_right _ (List.mem_append_right _ (List.mem_append_right _ (List.mem_append_right _ (List.mem_append_right _ (List.mem_append_right _ (List.mem_append_right _ (List.mem_append_right _ (List.mem_append_right _ (List.mem_append_right _ (List.mem_append_right _ (List.mem_append_right _ (List.mem_append_right _ (List.mem_append_right _ (List.mem_append_right _ (List.mem_append_right _ (List.mem_append_right _ (List.mem_append_right _ (List.mem_append_left _ h)))))))))))))))))))))))))
theorem pmM_26 {w : Cond} (h : w ∈ pmTs_26) : w ∈ pmTs := List.mem_append_right _ (List.mem_append_right _ (List.mem_append_right _ (List.mem_append_right _ (List.mem_append_right _ (List.mem_append_right _ (List.mem_append_right _ (List.mem_append_right _ (List.mem_append_right _ (List.mem_append_right _ (List.mem_append_right _ (List.mem_append_right _ (List.mem_append_right _ (List.mem_append_right _ (List.mem_append_right _ (List.mem_append_right _ (List.mem_append_right _ (List.mem_append_right _ (List.mem_append_right _ (List.mem_append_right _ (List.mem_append_right _ (List.mem_append_right _ (List.mem_append_right _ (List.mem_append_right _ (List.mem_append_right _ (List.mem_append_right _ (List.mem_append_left _ h))))))))))))))))))))))))))
theorem pmM_27 {w : Cond} (h : w ∈ pmTs_27) : w ∈ pmTs := List.mem_append_right _ (List.mem_append_right _ (List.mem_append_right _ (List.mem_append_right _ (List.mem_append_right _ (List.mem_append_right _ (List.mem_append_right _ (List.mem_append_right _ (List.mem_append_right _ (List.mem_append_right _ (List.mem_append_right _ (List.mem_append_right _ (List.mem_append_right _ (List.mem_append_right _ (List.mem_append_right _ (List.mem_append_right _ (List.mem_append_right _ (List.mem_append_right _ (List.mem_append_right _ (List.mem_append_right _ (List.mem_append_right _ (List.mem_append_right _ (List.mem_append_right _ (List.mem_append_right _ (List.mem_append_right _ (List.mem_append_right _ (List.mem_append_right _ (List.mem_append_left _ h)))))))))))))))))))))))))))
theorem pmM_28 {w : Cond} (h : w ∈ pmTs_28) : w ∈ pmTs := List.mem_append_right _ (List.mem_append_right _ (List.mem_append_right _ (List.mem_append_right _ (List.mem_append_right _ (List.mem_append_right _ (List.mem_append_right _ (List.mem_append_right _ (List.mem_append_right _ (List.mem_append_right _ (List.mem_append_right _ (List.mem_append_right _ (List.mem_append_right _ (List.mem_append_right _ (List.mem_append_right _ (List.mem_append_right _ (List.mem_append_right _ (List.mem_append_right _ (List.mem_append_right _ (List.mem_append_right _ (List.mem_append_right _ (List.mem_append_right _ (List.mem_append_right _ (List.mem_append_right _ (List.mem_append_right _ (List.mem_append_right _ (List.mem_append_right _ (List.mem_append_right _ (List.mem_append_left _ h))))))))))))))))))))))))))))
theorem pmM_29 {w : Cond} (h : w ∈ pmTs_29) : w ∈ pmTs := List.mem_append_right _ (List.mem_append_right _ (List.mem_append_right _ (List.mem_append_right _ (List.mem_append_right _ (List.mem_append_right _ (List.mem_append_right _ (List.mem_append_right _ (List.mem_append_right _ (List.mem_append_right _ (List.mem_append_right _ (List.mem_append_right _ (List.mem_append_right _ (List.mem_append_right _ (List.mem_append_right _ (List.mem_append_right _ (List.mem_append_right _ (List.mem_append_right _ (List.mem_append_right _ (List.mem_append_right _ (List.mem_append_right _ (List.mem_append_right _ (List.mem_append_right _ (List.mem_append_right _ (List.mem_append_right _ (List.mem_append_right _ (List.mem_append_right _ (List.mem_append_right _ (List.mem_append_right _ (List.mem_append_left _ h)))))))))))))))))))))))))))))
theorem pmM_30 {w : Cond} (h : w ∈ pmTs_30) : w ∈ pmTs := List.mem_append_right _ (List.mem_append_right _ (List.mem_append_right _ (List.mem_append_right _ (List.mem_append_right _ (List.mem_append_right _ (List.mem_append_right _ (List.mem_append_right _ (List.mem_append_right _ (List.mem_append_right _ (List.mem_append_right _ (List.mem_append_right _ (List.mem_append_right _ (List.mem_append_right _ (List.mem_append_right _ (List.mem_append_right _ (List.mem_append_right _ (List.mem_append_right _ (List.mem_append_right _ (List.mem_append_right _ (List.mem_append_right _ (List.mem_append_right _ (List.mem_append_right _ (List.mem_append_right _ (List.mem_append_right _ (List.mem_append_right _ (List.mem_append_right _ (List.mem_append_right _ (List.mem_append_right _ (List.mem_append_right _ (List.mem_append_left _ h))))))))))))))))))))))))))))))
theorem pmM_31 {w : Cond} (h : w ∈ pmTs_31) : w ∈ pmTs := List.mem_append_right _ (List.mem_append_right _ (List.mem_append_right _ (List.mem_append_right _ (List.mem_append_right _ (List.mem_append_right _ (List.mem_append_right _ (List.mem_append_right _ (List.mem_append_right _ (List.mem_append_right _ (List.mem_append_right _ (List.mem_append_right _ (List.mem_append_right _ (List.mem_append_right _ (List.mem_append_right _ (List.mem_append_right _ (List.mem_append_right _ (List.mem_append_right _ (List.mem_append_right _ (List.mem_append_right _ (List.mem_append_right _ (List.mem_append_right _ (List.mem_append_right _ (List.mem_append_right _ (List.mem_append_right _ (List.mem_append_right _ (List.mem_append_right _ (List.mem_append_right _ (List.mem_append_right _ (List.mem_append_right _ (List.mem_append_right _ (List.mem_append_left _ h)))))))))))))))))))))))))))))))
theorem pmM_32 {w : Cond} (h : w ∈ pmTs_32) : w ∈ pmTs := List.mem_append_right _ (List.mem_append_right _ (List.mem_append_right _ (List.mem_append_right _ (List.mem_append_right _ (List.mem_append_right _ (List.mem_append_right _ (List.mem_append_right _ (List.mem_append_right _ (List.mem_append_right _ (List.mem_append_right _ (List.mem_append_right _ (List.mem_append_right _ (List.mem_append_right _ (List.mem_append_right _ (List.mem_append_right _ (List.mem_append_right _ (List.mem_append_right _ (List.mem_append_right _ (List.mem_append_right _ (List.mem_append_right _ (List.mem_append_right _ (List.mem_append_right _ (List.mem_append_right _ (List.mem_append_right _ (List.mem_append_right _ (List.mem_append_right _ (List.mem_append_right _ (List.mem_append_right _ (List.mem_append_right _ (List.mem_append_right _ (List.mem_append_right _ (List.mem_append_left _ h))))))))))))))))))))))))))))))))
theorem pmM_33 {w : Cond} (h : w ∈ pmTs_33) : w ∈ pmTs := List.mem_append_right _ (List.mem_append_right _ (List.mem_append_right _ (List.mem_append_right _ (List.mem_append_right _ (List.mem_append_right _ (List.mem_append_right _ (List.mem_append_right _ (List.mem_append_right _ (List.mem_append_right _ (List.mem_append_right _ (List.mem_append_right _ (List.mem_append_right _ (List.mem_append_right _ (List.mem_append_right _ (List.mem_append_right _ (List.mem_append_right _ (List.mem_append_right _ (List.mem_append_right _ (List.mem_append_right _ (List.mem_append_right _ (List.mem_append_right _ (List.mem_append_right _ (List.mem_append_right _ (List.mem_append_right _ (List.mem_append_right _ (List.mem_append_right _ (List.mem_append_right _ (List.mem_append_right _ (List.mem_append_right _ (List.mem_append_right _ (List.mem_append_right _ (List.mem_append_right _ (List.mem_append_left _ h)))))))))))))))))))))))))))))))))
theorem pmM_34 {w : Cond} (h : w ∈ pmTs_34) : w ∈ pmTs := List.mem_append_right _ (List.mem_append_right _ (List.mem_append_right _ (List.mem_append_right _ (List.mem_append_right _ (List.mem_append_right _ (List.mem_append_right _ (List.mem_append_right _ (List.mem_append_right _ (List.mem_append_right _ (List.mem_append_right _ (List.mem_append_right _ (List.mem_append_right _ (List.mem_append_right _ (List.mem_append_right _ (List.mem_append_right _ (List.mem_append_right _ (List.mem_append_right _ (List.mem_append_right _ (List.mem_append_right _ (List.mem_append_right _ (List.mem_append_right _ (List.mem_append_right _ (List.mem_append_right _ (List.mem_append_right _ (List.mem_append_right _ (List.mem_append_right _ (List.mem_append_right _ (List.mem_append_right _ (List.mem_append_right _ (List.mem_append_right _ (List.mem_append_right _ (List.mem_append_right _ (List.mem_append_right _ (List.mem_append_left _ h))))))))))))))))))))))))))))))))))
theorem pmM_35 {w : Cond} (h : w ∈ pmTs_35) : w ∈ pmTs := List.mem_append_right _ (List.mem_append_right _ (List.mem_append_right _ (List.mem_append_right _ (List.mem_append_right _ (List.mem_append_right _ (List.mem_append_right _ (List.mem_append_right _ (List.mem_append_right _ (List.mem_append_right _ (List.mem_append_right _ (List.mem_append_right _ (List.mem_append_right _ (List.mem_append_right _ (List.mem_append_right _ (List.mem_append_right _ (List.mem_append_right _ (List.mem_append_right _ (List.mem_append_right _ (List.mem_append_right _ (List.mem_append_right _ (List.mem_append_right _ (List.mem_append_right _ (List.mem_append_right _ (List.mem_append_right _ (List.mem_append_right _ (List.mem_append_right _ (List.mem_append_right _ (List.mem_append_right _ (List.mem_append_right _ (List.mem_append_right _ (List.mem_append_right _ (List.mem_append_right _ (List.mem_append_right _ (List.mem_append_right _ (List.mem_append_left _ h)))))))))))))))))))))))))))))))))))
theorem pmM_36 {w : Cond} (h : w ∈ pmTs_36) : w ∈ pmTs := List.mem_append_right _ (List.mem_append_right _ (List.mem_append_right _ (List.mem_append_right _ (List.mem_append_right _ (List.mem_append_right _ (List.mem_append_right _ (List.mem_append_right _ (List.mem_append_right _ (List.mem_append_right _ (List.mem_append_right _ (List.mem_append_right _ (List.mem_append_right _ (List.mem_append_right _ (List.mem_append_right _ (List.mem_append_right _ (List.mem_append_right _ (List.mem_append_right _ (List.mem_append_right _ (List.mem_append_right _ (List.mem_append_right _ (List.mem_append_right _ (List.mem_append_right _ (List.mem_append_right _ (List.mem_append_right _ (List.mem_append_right _ (List.mem_append_right _ (List.mem_append_right _ (List.mem_append_right _ (List.mem_append_right _ (List.mem_append_right _ (List.mem_append_right _ (List.mem_append_right _ (List.mem_append_right _ (List.mem_append_right _ (List.mem_append_right _ (List.mem_append_left _ h))))))))))))))))))))))))))))))))))))
theorem pmM_37 {w : Cond} (h : w ∈ pmTs_37) : w ∈ pmTs := List.mem_append_right _ (List.mem_append_right _ (List.mem_append_right _ (List.mem_append_right _ (List.mem_append_right _ (List.mem_append_right _ (List.mem_append_right _ (List.mem_append_right _ (List.mem_append_right _ (List.mem_append_right _ (List.mem_append_right _ (List.mem_append_right _ (List.mem_append_right _ (List.mem_append_right _ (List.mem_append_right _ (List.mem_append_right _ (List.mem_append_right _ (List.mem_append_right _ (List.mem_append_right _ (List.mem_append_right _ (List.mem_append_right _ (List.mem_append_right _ (List.mem_append_right _ (List.mem_append_right _ (List.mem_append_right _ (List.mem_append_right _ (List.mem_append_right _ (List.mem_append_right _ (List.mem_append_right _ (List.mem_append_right _ (List.mem_append_right _ (List.mem_append_right _ (List.mem_append_right _ (List.mem_append_right _ (List.mem_append_right _ (List.mem_append_right _ (List.mem_append_right _ (List.mem_append_left _ h)))))))))))))))))))))))))))))))))))))
theorem pmM_38 {w : Cond} (h : w ∈ pmTs_38) : w ∈ pmTs := List.mem_append_right _ (List.mem_append_right _ (List.mem_append_right _ (List.mem_append_right _ (List.mem_append_right _ (List.mem_append_right _ (List.mem_append_right _ (List.mem_append_right _ (List.mem_append_right _ (List.mem_append_right _ (List.mem_append_right _ (List.mem_append_right _ (List.mem_append_right _ (List.mem_append_right _ (List.mem_append_right _ (List.mem_append_right _ (List.mem_append_right _ (List.mem_append_right _ (List.mem_append_right _ (List.mem_append_right _ (List.mem_append_right _ (List.mem_append_right _ (List.mem_append_right _ (List.mem_append_right _ (List.mem_append_right _ (List.mem_append_right _ (List.mem_append_right _ (List.mem_append_right _ (List.mem_append_right _ (List.mem_append_right _ (List.mem_append_right _ (List.mem_append_right _ (List.mem_append_right _ (List.mem_append_right _ (List.mem_append_right _ (List.mem_append_right _ (List.mem_append_right _ (List.mem_append_right _ (List.mem_append_left _ h))))))))))))))))))))))))))))))))))))))
theorem pmM_39 {w : Cond} (h : w ∈ pmTs_39) : w ∈ pmTs := List.mem_append_right _ (List.mem_append_right _ (List.mem_append_right _ (List.mem_append_right _ (List.mem_append_right _ (List.mem_append_right _ (List.mem_append_right _ (List.mem_append_right _ (List.mem_append_right _ (List.mem_append_right _ (List.mem_append_right _ (List.mem_append_right _ (List.mem_append_right _ (List.mem_append_right _ (List.mem_append_right _ (List.mem_append_right _ (List.mem_append_right _ (List.mem_append_right _ (List.mem_append_right _ (List.mem_append_right _ (List.mem_append_right _ (List.mem_append_right _ (List.mem_append_right _ (List.mem_append_right _ (List.mem_append_right _ (List.mem_append_right _ (List.mem_append_right _ (List.mem_append_right _ (List.mem_append_right _ (List.mem_append_right _ (List.mem_append_right _ (List.mem_append_right _ (List.mem_append_right _ (List.mem_append_right _ (List.mem_append_right _ (List.mem_append_right _ (List.mem_append_right _ (List.mem_append_right _ (List.mem_append_right _ (List.mem_append_left _ h)))))))))))))))))))))))))))))))))))))))
theorem pmM_40 {w : Cond} (h : w ∈ pmTs_40) : w ∈ pmTs := List.mem_append_right _ (List.mem_append_right _ (List.mem_append_right _ (List.mem_append_right _ (List.mem_append_right _ (List.mem_append_right _ (List.mem_append_right _ (List.mem_append_right _ (List.mem_append_right _ (List.mem_append_right _ (List.mem_append_right _ (List.mem_append_right _ (List.mem_append_right _ (List.mem_append_right _ (List.mem_append_right _ (List.mem_append_right _ (List.mem_append_right _ (List.mem_append_right _ (List.mem_append_right _ (List.mem_append_right _ (List.mem_append_right _ (List.mem_append_right _ (List.mem_append_right _ (List.mem_append_right _ (List.mem_append_right _ (List.mem_append_right _ (List.mem_append_right _ (List.mem_append_right _ (List.mem_append_right _ (List.mem_append_right _ (List.mem_append_right _ (List.mem_append_right _ (List.mem_append_right _ (List.mem_append_right _ (List.mem_append_right _ (List.mem_append_right _ (List.mem_append_right _ (List.mem_append_right _ (List.mem_append_right _ (List.mem_append_right _ (List.mem_append_left _ h))))))))))))))))))))))))))))))))))))))))
theorem pmM_41 {w : Cond} (h : w ∈ pmTs_41) : w ∈ pmTs := List.mem_append_right _ (List.mem_append_right _ (List.mem_append_right _ (List.mem_append_right _ (List.mem_append_right _ (List.mem_append_right _ (List.mem_append_right _ (List.mem_append_right _ (List.mem_append_right _ (List.mem_append_right _ (List.mem_append_right _ (List.mem_append_right _ (List.mem_append_right _ (List.mem_append_right _ (List.mem_append_right _ (List.mem_append_right _ (List.mem_append_right _ (List.mem_append_right _ (List.mem_append_right _ (List.mem_append_right _ (List.mem_append_right _ (List.mem_append_right _ (List.mem_append_right _ (List.mem_append_right _ (List.mem_append_right _ (List.mem_append_right _ (List.mem_append_right _ (List.mem_append_right _ (List.mem_append_right _ (List.mem_append_right _ (List.mem_append_right _ (List.mem_append_right _ (List.mem_append_right _ (List.mem_append_right _ (List.mem_append_right _ (List.mem_append_right _ (List.mem_append_right _ (List.mem_append_right _ (List.mem_append_right _ (List.mem_append_right _ (List.mem_append_right _ (List.mem_append_left _ h)))))))))))))))))))))))))))))))))))))))))
theorem pmM_42 {w : Cond} (h : w ∈ pmTs_42) : w ∈ pmTs := List.mem_append_right _ (List.mem_append_right _ (List.mem_append_right _ (List.mem_append_right _ (List.mem_append_right _ (List.mem_append_right _ (List.mem_append_right _ (List.mem_append_right _ (List.mem_append_right _ (List.mem_append_right _ (List.mem_append_right _ (List.mem_append_right _ (List.mem_append_right _ (List.mem_append_right _ (List.mem_append_right _ (List.mem_append_right _ (List.mem_append_right _ (List.mem_append_right _ (List.mem_append_right _ (List.mem_append_right _ (List.mem_append_right _ (List.mem_append_right _ (List.mem_append_right _ (List.mem_append_right _ (List.mem_append_right _ (List.mem_append_right _ (List.mem_append_right _ (List.mem_append_right _ (List.mem_append_right _ (List.mem_append_right _ (List.mem_append_right _ (List.mem_append_right _ (List.mem_append_right _ (List.mem_append_right _ (List.mem_append_right _ (List.mem_append_right _ (List.mem_append_right _ (List.mem_append_right _ (List.mem_append_right _ (List.mem_append_right _ (List.mem_append_right _ (List.mem_append_right _ (List.mem_append_left _ h))))))))))))))))))))))))))))))))))))))))))
theorem pmM_43 {w : Cond} (h : w ∈ pmTs_43) : w ∈ pmTs := List.mem_append_right _ (List.mem_append_right _ (List.mem_append_right _ (List.mem_append_right _ (List.mem_append_right _ (List.mem_append_right _ (List.mem_append_right _ (List.mem_append_right _ (List.mem_append_right _ (List.mem_append_right _ (List.mem_append_right _ (List.mem_append_right _ (List.mem_append_right _ (List.mem_append_right _ (List.mem_append_right _ (List.mem_append_right _ (List.mem_append_right _ (List.mem_append_right _ (List.mem_append_right _ (List.mem_append_right _ (List.mem_append_right _ (List.mem_append_right _ (List.mem_append_right _ (List.mem_append_right _ (List.mem_append_right _ (List.mem_append_right _ (List.mem_append_right _ (List.mem_append_right _ (List.mem_append_right _ (List.mem_append_right _ (List.mem_append_right _ (List.mem_append_right _ (List.mem_append_right _ (List.mem_append_right _ (List.mem_append_right _ (List.mem_append_right _ (List.mem_append_right _ (List.mem_append_right _ (List.mem_append_right _ (List.mem_append_right _ (List.mem_append_right _ (List.mem_append_right _ (List.mem_append_right _ (List.mem_append_left _ h)))))))))))))))))))))))))))))))))))))))))))
theorem pmM_44 {w : Cond} (h : w ∈ pmTs_44) : w ∈ pmTs := List.mem_append_right _ (List.mem_append_right _ (List.mem_append_right _ (List.mem_append_right _ (List.mem_append_right _ (List.mem_append_right _ (List.mem_append_right _ (List.mem_append_right _ (List.mem_append_right _ (List.mem_append_right _ (List.mem_append_right _ (List.mem_append_right _ (List.mem_append_right _ (List.mem_append_right _ (List.mem_append_right _ (List.mem_append_right _ (List.mem_append_right _ (List.mem_append_right _ (List.mem_append_right _ (List.mem_append_right _ (List.mem_append_right _ (List.mem_append_right _ (List.mem_append_right _ (List.mem_append_right _ (List.mem_append_right _ (List.mem_append_right _ (List.mem_append_right _ (List.mem_append_right _ (List.mem_append_right _ (List.mem_append_right _ (List.mem_append_right _ (List.mem_append_right _ (List.mem_append_right _ (List.mem_append_right _ (List.mem_append_right _ (List.mem_append_right _ (List.mem_append_right _ (List.mem_append_right _ (List.mem_append_right _ (List.mem_append_right _ (List.mem_append_right _ (List.mem_append_right _ (List.mem_append_right _ (List.mem_append_right _ (List.mem_append_left _ h))))))))))))))))))))))))))))))))))))))))))))
theorem pmM_L0 {w : Cond} (h : w ∈ (u_ws R_CL T_CL 6)) : w ∈ pmTs := List.mem_append_right _ (List.mem_append_right _ (List.mem_append_right _ (List.mem_append_right _ (List.mem_append_right _ (List.mem_append_right _ (List.mem_append_right _ (List.mem_append_right _ (List.mem_append_right _ (List.mem_append_right _ (List.mem_append_right _ (List.mem_append_right _ (List.mem_append_right _ (List.mem_append_right _ (List.mem_append_right _ (List.mem_append_right _ (List.mem_append_right _ (List.mem_append_right _ (List.mem_append_right _ (List.mem_append_right _ (List.mem_append_right _ (List.mem_append_right _ (List.mem_append_right _ (List.mem_append_right _ (List.mem_append_right _ (List.mem_append_right _ (List.mem_append_right _ (List.mem_append_right _ (List.mem_append_right _ (List.mem_append_right _ (List.mem_append_right _ (List.mem_append_right _ (List.mem_append_right _ (List.mem_append_right _ (List.mem_append_right _ (List.mem_append_right _ (List.mem_append_right _ (List.mem_append_right _ (List.mem_append_right _ (List.mem_append_right _ (List.mem_append_right _ (List.mem_append_right _ (List.mem_append_right _ (List.mem_append_right _ (List.mem_append_right _ (List.mem_append_left _ h)))))))))))))))))))))))))))))))))))))))))))))
theorem pmM_L1 {w : Cond} (h : w ∈ (u_ws R_Text T_Text 2)) : w ∈ pmTs := List.mem_append_right _ (List.mem_append_right _ (List.mem_append_right _ (List.mem_append_right _ (List.mem_append_right _ (List.mem_append_right _ (List.mem_append_right _ (List.mem_append_right _ (List.mem_append_right _ (List.mem_append_right _ (List.mem_append_right _ (List.mem_append_right _ (List.mem_append_right _ (List.mem_append_right _ (List.mem_append_right _ (List.mem_append_right _ (List.mem_append_right _ (List.mem_append_right _ (List.mem_append_right _ (List.mem_append_right _ (List.mem_append_right _ (List.mem_append_right _ (List.mem_append_right _ (List.mem_append_right _ (List.mem_append_right _ (List.mem_append_right _ (List.mem_append_right _ (List.mem_append_right _ (List.mem_append_right _ (List.mem_append_right _ (List.mem_append_right _ (List.mem_append_right _ (List.mem_append_right _ (List.mem_append_right _ (List.mem_append_right _ (List.mem_append_right _ (List.mem_append_right _ (List.mem_append_right _ (List.mem_append_right _ (List.mem_append_right _ (List.mem_append_right _ (List.mem_append_right _ (List.mem_append_right _ (List.mem_append_right _ (List.mem_append_right _ (List.mem_append_right _ (List.mem_append_left _ h))))))))))))))))))))))))))))))))))))))))))))))
theorem pmM_L2 {w : Cond} (h : w ∈ (u_ws R_Output T_Output 2)) : w ∈ pmTs := List.mem_append_right _ (List.mem_append_right _ (List.mem_append_right _ (List.mem_append_right _ (List.mem_append_right _ (List.mem_append_right _ (List.mem_append_right _ (List.mem_append_right _ (List.mem_append_right _ (List.mem_append_right _ (List.mem_append_right _ (List.mem_append_right _ (List.mem_append_right _ (List.mem_append_right _ (List.mem_append_right _ (List.mem_append_right _ (List.mem_append_right _ (List.mem_append_right _ (List.mem_append_right _ (List.mem_append_right _ (List.mem_append_right _ (List.mem_append_right _ (List.mem_append_right _ (List.mem_append_right _ (List.mem_append_right _ (List.mem_append_right _ (List.mem_append_right _ (List.mem_append_right _ (List.mem_append_right _ (List.mem_append_right _ (List.mem_append_right _ (List.mem_append_right _ (List.mem_append_right _ (List.mem_append_right _ (List.mem_append_right _ (List.mem_append_right _ (List.mem_append_right _ (List.mem_append_right _ (List.mem_append_right _ (List.mem_append_right _ (List.mem_append_right _ (List.mem_append_right _ (List.mem_append_right _ (List.mem_append_right _ (List.mem_append_right _ (List.mem_append_right _ (List.mem_append_right _ (List.mem_append_left _ h)))))))))))))))))))))))))))))))))))))))))))))))
theorem pmM_L3 {w : Cond} (h : w ∈ (u_ws R_Symbols T_Symbols 3)) : w ∈ pmTs := List.mem_append_right _ (List.mem_append_right _ (List.mem_append_right _ (List.mem_append_right _ (List.mem_append_right _ (List.mem_append_right _ (List.mem_append_right _ (List.mem_append_right _ (List.mem_append_right _ (List.mem_append_right _ (List.mem_append_right _ (List.mem_append_right _ (List.mem_append_right _ (List.mem_append_right _ (List.mem_append_right _ (List.mem_append_right _ (List.mem_append_right _ (List.mem_append_right _ (List.mem_append_right _ (List.mem_append_right _ (List.mem_append_right _ (List.mem_append_right _ (List.mem_append_right _ (List.mem_append_right _ (List.mem_append_right _ (List.mem_append_right _ (List.mem_append_right _ (List.mem_append_right _ (List.mem_append_right _ (List.mem_append_right _ (List.mem_append_right _ (List.mem_append_right _ (List.mem_append_right _ (List.mem_append_right _ (List.mem_append_right _ (List.mem_append_right _ (List.mem_append_right _ (List.mem_append_right _ (List.mem_append_right _ (List.mem_append_right _ (List.mem_append_right _ (List.mem_append_right _ (List.mem_append_right _ (List.mem_append_right _ (List.mem_append_right _ (List.mem_append_right _ (List.mem_append_right _ (List.mem_append_right _ (List.mem_append_left _ h))))))))))))))))))))))))))))))))))))))))))))))))
theorem pmM_L4 {w : Cond} (h : w ∈ (u_ws R_State T_State 8)) : w ∈ pmTs := List.mem_append_right _ (List.mem_append_right _ (List.mem_append_right _ (List.mem_append_right _ (List.mem_append_right _ (List.mem_append_right _ (List.mem_append_right _ (List.mem_append_right _ (List.mem_append_right _ (List.mem_append_right _ (List.mem_append_right _ (List.mem_append_right _ (List.mem_append_right _ (List.mem_append_right _ (List.mem_append_right _ (List.mem_append_right _ (List.mem_append_right _ (List.mem_append_right _ (List.mem_append_right _ (List.mem_append_right _ (List.mem_append_right _ (List.mem_append_right _ (List.mem_append_right _ (List.mem_append_right _ (List.mem_append_right _ (List.mem_append_right _ (List.mem_append_right _ (List.mem_append_right _ (List.mem_append_right _ (List.mem_append_right _ (List.mem_append_right _ (List.mem_append_right _ (List.mem_append_right _ (List.mem_append_right _ (List.mem_append_right _ (List.mem_append_right _ (List.mem_append_right _ (List.mem_append_right _ (List.mem_append_right _ (List.mem_append_right _ (List.mem_append_right _ (List.mem_append_right _ (List.mem_append_right _ (List.mem_append_right _ (List.mem_append_right _ (List.mem_append_right _ (List.mem_append_right _ (List.mem_append_right _ (List.mem_append_right _ (List.mem_append_left _ h)))))))))))))))))))))))))))))))))))))))))))))))))
theorem pmM_L5 {w : Cond} (h : w ∈ (u_ws R_Room T_Room 13)) : w ∈ pmTs := List.mem_append_right _ (List.mem_append_right _ (List.mem_append_right _ (List.mem_append_right _ (List.mem_append_right _ (List.mem_append_right _ (List.mem_append_right _ (List.mem_append_right _ (List.mem_append_right _ (List.mem_append_right _ (List.mem_append_right _ (List.mem_append_right _ (List.mem_append_right _ (List.mem_append_right _ (List.mem_append_right _ (List.mem_append_right _ (List.mem_append_right _ (List.mem_append_right _ (List.mem_append_right _ (List.mem_append_right _ (List.mem_append_right _ (List.mem_append_right _ (List.mem_append_right _ (List.mem_append_right _ (List.mem_append_right _ (List.mem_append_right _ (List.mem_append_right _ (List.mem_append_right _ (List.mem_append_right _ (List.mem_append_right _ (List.mem_append_right _ (List.mem_append_right _ (List.mem_append_right _ (List.mem_append_right _ (List.mem_append_right _ (List.mem_append_right _ (List.mem_append_right _ (List.mem_append_right _ (List.mem_append_right _ (List.mem_append_right _ (List.mem_append_right _ (List.mem_append_right _ (List.mem_append_right _ (List.mem_append_right _ (List.mem_append_right _ (List.mem_append_right _ (List.mem_append_right _ (List.mem_append_right _ (List.mem_append_right _ (List.mem_append_right _ (List.mem_append_left _ h))))))))))))))))))))))))))))))))))))))))))))))))))
theorem pmM_L6 {w : Cond} (h : w ∈ (u_ws R_Machine T_Machine 7)) : w ∈ pmTs := List.mem_append_right _ (List.mem_append_right _ (List.mem_append_right _ (List.mem_append_right _ (List.mem_append_right _ (List.mem_append_right _ (List.mem_append_right _ (List.mem_append_right _ (List.mem_append_right _ (List.mem_append_right _ (List.mem_append_right _ (List.mem_append_right _ (List.mem_append_right _ (List.mem_append_right _ (List.mem_append_right _ (List.mem_append_right _ (List.mem_append_right _ (List.mem_append_right _ (List.mem_append_right _ (List.mem_append_right _ (List.mem_append_right _ (List.mem_append_right _ (List.mem_append_right _ (List.mem_append_right _ (List.mem_append_right _ (List.mem_append_right _ (List.mem_append_right _ (List.mem_append_right _ (List.mem_append_right _ (List.mem_append_right _ (List.mem_append_right _ (List.mem_append_right _ (List.mem_append_right _ (List.mem_append_right _ (List.mem_append_right _ (List.mem_append_right _ (List.mem_append_right _ (List.mem_append_right _ (List.mem_append_right _ (List.mem_append_right _ (List.mem_append_right _ (List.mem_append_right _ (List.mem_append_right _ (List.mem_append_right _ (List.mem_append_right _ (List.mem_append_right _ (List.mem_append_right _ (List.mem_append_right _ (List.mem_append_right _ (List.mem_append_right _ (List.mem_append_right _ (List.mem_append_left _ h)))))))))))))))))))))))))))))))))))))))))))))))))))
theorem pmM_L7 {w : Cond} (h : w ∈ (u_ws R_Reader T_Reader 9)) : w ∈ pmTs := List.mem_append_right _ (List.mem_append_right _ (List.mem_append_right _ (List.mem_append_right _ (List.mem_append_right _ (List.mem_append_right _ (List.mem_append_right _ (List.mem_append_right _ (List.mem_append_right _ (List.mem_append_right _ (List.mem_append_right _ (List.mem_append_right _ (List.mem_append_right _ (List.mem_append_right _ (List.mem_append_right _ (List.mem_append_right _ (List.mem_append_right _ (List.mem_append_right _ (List.mem_append_right _ (List.mem_append_right _ (List.mem_append_right _ (List.mem_append_right _ (List.mem_append_right _ (List.mem_append_right _ (List.mem_append_right _ (List.mem_append_right _ (List.mem_append_right _ (List.mem_append_right _ (List.mem_append_right _ (List.mem_append_right _ (List.mem_append_right _ (List.mem_append_right _ (List.mem_append_right _ (List.mem_append_right _ (List.mem_append_right _ (List.mem_append_right _ (List.mem_append_right _ (List.mem_append_right _ (List.mem_append_right _ (List.mem_append_right _ (List.mem_append_right _ (List.mem_append_right _ (List.mem_append_right _ (List.mem_append_right _ (List.mem_append_right _ (List.mem_append_right _ (List.mem_append_right _ (List.mem_append_right _ (List.mem_append_right _ (List.mem_append_right _ (List.mem_append_right _ (List.mem_append_right _ (List.mem_append_left _ h))))))))))))))))))))))))))))))))))))))))))))))))))))
theorem pmM_L8 {w : Cond} (h : w ∈ (u_ws R_Printer T_Printer 3)) : w ∈ pmTs := List.mem_append_right _ (List.mem_append_right _ (List.mem_append_right _ (List.mem_append_right _ (List.mem_append_right _ (List.mem_append_right _ (List.mem_append_right _ (List.mem_append_right _ (List.mem_append_right _ (List.mem_append_right _ (List.mem_append_right _ (List.mem_append_right _ (List.mem_append_right _ (List.mem_append_right _ (List.mem_append_right _ (List.mem_append_right _ (List.mem_append_right _ (List.mem_append_right _ (List.mem_append_right _ (List.mem_append_right _ (List.mem_append_right _ (List.mem_append_right _ (List.mem_append_right _ (List.mem_append_right _ (List.mem_append_right _ (List.mem_append_right _ (List.mem_append_right _ (List.mem_append_right _ (List.mem_append_right _ (List.mem_append_right _ (List.mem_append_right _ (List.mem_append_right _ (List.mem_append_right _ (List.mem_append_right _ (List.mem_append_right _ (List.mem_append_right _ (List.mem_append_right _ (List.mem_append_right _ (List.mem_append_right _ (List.mem_append_right _ (List.mem_append_right _ (List.mem_append_right _ (List.mem_append_right _ (List.mem_append_right _ (List.mem_append_right _ (List.mem_append_right _ (List.mem_append_right _ (List.mem_append_right _ (List.mem_append_right _ (List.mem_append_right _ (List.mem_append_right _ (List.mem_append_right _ (List.mem_append_right _ (List.mem_append_left _ h)))))))))))))))))))))))))))))))))))))))))))))))))))))
theorem pmM_L9 {w : Cond} (h : w ∈ (u_ws R_Md T_Md 31)) : w ∈ pmTs := List.mem_append_right _ (List.mem_append_right _ (List.mem_append_right _ (List.mem_append_right _ (List.mem_append_right _ (List.mem_append_right _ (List.mem_append_right _ (List.mem_append_right _ (List.mem_append_right _ (List.mem_append_right _ (List.mem_append_right _ (List.mem_append_right _ (List.mem_append_right _ (List.mem_append_right _ (List.mem_append_right _ (List.mem_append_right _ (List.mem_append_right _ (List.mem_append_right _ (List.mem_append_right _ (List.mem_append_right _ (List.mem_append_right _ (List.mem_append_right _ (List.mem_append_right _ (List.mem_append_right _ (List.mem_append_right _ (List.mem_append_right _ (List.mem_append_right _ (List.mem_append_right _ (List.mem_append_right _ (List.mem_append_right _ (List.mem_append_right _ (List.mem_append_right _ (List.mem_append_right _ (List.mem_append_right _ (List.mem_append_right _ (List.mem_append_right _ (List.mem_append_right _ (List.mem_append_right _ (List.mem_append_right _ (List.mem_append_right _ (List.mem_append_right _ (List.mem_append_right _ (List.mem_append_right _ (List.mem_append_right _ (List.mem_append_right _ (List.mem_append_right _ (List.mem_append_right _ (List.mem_append_right _ (List.mem_append_right _ (List.mem_append_right _ (List.mem_append_right _ (List.mem_append_right _ (List.mem_append_right _ (List.mem_append_right _ (h))))))))))))))))))))))))))))))))))))))))))))))))))))))
theorem pm_fm {ws big : List Cond} {is : List Nat} (h : ws = is.filterMap (fun i => big[i]?)) : ∀ w ∈ ws, w ∈ big := by
  intro w hw
  rw [h] at hw
  obtain ⟨i, -, hi⟩ := List.mem_filterMap.mp hw
  exact List.mem_of_getElem? hi
theorem pmTs_in : ∀ w ∈ pmTs, w ∈ lw_tbl := List.forall_mem_append.mpr ⟨pm_fm pmI_0, List.forall_mem_append.mpr ⟨pm_fm pmI_1, List.forall_mem_append.mpr ⟨pm_fm pmI_2, List.forall_mem_append.mpr ⟨pm_fm pmI_3, List.forall_mem_append.mpr ⟨pm_fm pmI_4, List.forall_mem_append.mpr ⟨pm_fm pmI_5, List.forall_mem_append.mpr ⟨pm_fm pmI_6, List.forall_mem_append.mpr ⟨pm_fm pmI_7, List.forall_mem_append.mpr ⟨pm_fm pmI_8, List.forall_mem_append.mpr ⟨pm_fm pmI_9, List.forall_mem_append.mpr ⟨pm_fm pmI_10, List.forall_mem_append.mpr ⟨pm_fm pmI_11, List.forall_mem_append.mpr ⟨pm_fm pmI_12, List.forall_mem_append.mpr ⟨pm_fm pmI_13, List.forall_mem_append.mpr ⟨pm_fm pmI_14, List.forall_mem_append.mpr ⟨pm_fm pmI_15, List.forall_mem_append.mpr ⟨pm_fm pmI_16, List.forall_mem_append.mpr ⟨pm_fm pmI_17, List.forall_mem_append.mpr ⟨pm_fm pmI_18, List.forall_mem_append.mpr ⟨pm_fm pmI_19, List.forall_mem_append.mpr ⟨pm_fm pmI_20, List.forall_mem_append.mpr ⟨pm_fm pmI_21, List.forall_mem_append.mpr ⟨pm_fm pmI_22, List.forall_mem_append.mpr ⟨pm_fm pmI_23, List.forall_mem_append.mpr ⟨pm_fm pmI_24, List.forall_mem_append.mpr ⟨pm_fm pmI_25, List.forall_mem_append.mpr ⟨pm_fm pmI_26, List.forall_mem_append.mpr ⟨pm_fm pmI_27, List.forall_mem_append.mpr ⟨pm_fm pmI_28, List.forall_mem_append.mpr ⟨pm_fm pmI_29, List.forall_mem_append.mpr ⟨pm_fm pmI_30, List.forall_mem_append.mpr ⟨pm_fm pmI_31, List.forall_mem_append.mpr ⟨pm_fm pmI_32, List.forall_mem_append.mpr ⟨pm_fm pmI_33, List.forall_mem_append.mpr ⟨pm_fm pmI_34, List.forall_mem_append.mpr ⟨pm_fm pmI_35, List.forall_mem_append.mpr ⟨pm_fm pmI_36, List.forall_mem_append.mpr ⟨pm_fm pmI_37, List.forall_mem_append.mpr ⟨pm_fm pmI_38, List.forall_mem_append.mpr ⟨pm_fm pmI_39, List.forall_mem_append.mpr ⟨pm_fm pmI_40, List.forall_mem_append.mpr ⟨pm_fm pmI_41, List.forall_mem_append.mpr ⟨pm_fm pmI_42, List.forall_mem_append.mpr ⟨pm_fm pmI_43, List.forall_mem_append.mpr ⟨pm_fm pmI_44, List.forall_mem_append.mpr ⟨pm_fm pmI_L0, List.forall_mem_append.mpr ⟨pm_fm pmI_L1, List.forall_mem_append.mpr ⟨pm_fm pmI_L2, List.forall_mem_append.mpr ⟨pm_fm pmI_L3, List.forall_mem_append.mpr ⟨pm_fm pmI_L4, List.forall_mem_append.mpr ⟨pm_fm pmI_L5, List.forall_mem_append.mpr ⟨pm_fm pmI_L6, List.forall_mem_append.mpr ⟨pm_fm pmI_L7, List.forall_mem_append.mpr ⟨pm_fm pmI_L8, pm_fm pmI_L9⟩⟩⟩⟩⟩⟩⟩⟩⟩⟩⟩⟩⟩⟩⟩⟩⟩⟩⟩⟩⟩⟩⟩⟩⟩⟩⟩⟩⟩⟩⟩⟩⟩⟩⟩⟩⟩⟩⟩⟩⟩⟩⟩⟩⟩⟩⟩⟩⟩⟩⟩⟩⟩⟩
theorem pmTs_good : pm_Tg pmTs := List.forall_mem_append.mpr ⟨pmG_0, List.forall_mem_append.mpr ⟨pmG_1, List.forall_mem_append.mpr ⟨pmG_2, List.forall_mem_append.mpr ⟨pmG_3, List.forall_mem_append.mpr ⟨pmG_4, List.forall_mem_append.mpr ⟨pmG_5, List.forall_mem_append.mpr ⟨pmG_6, List.forall_mem_append.mpr ⟨pmG_7, List.forall_mem_append.mpr ⟨pmG_8, List.forall_mem_append.mpr ⟨pmG_9, List.forall_mem_append.mpr ⟨pmG_10, List.forall_mem_append.mpr ⟨pmG_11, List.forall_mem_append.mpr ⟨pmG_12, List.forall_mem_append.mpr ⟨pmG_13, List.forall_mem_append.mpr ⟨pmG_14, List.forall_mem_append.mpr ⟨pmG_15, List.forall_mem_append.mpr ⟨pmG_16, List.forall_mem_append.mpr ⟨pmG_17, List.forall_mem_append.mpr ⟨pmG_18, List.forall_mem_append.mpr ⟨pmG_19, List.forall_mem_append.mpr ⟨pmG_20, List.forall_mem_append.mpr ⟨pmG_21, List.forall_mem_append.mpr ⟨pmG_22, List.forall_mem_append.mpr ⟨pmG_23, List.forall_mem_append.mpr ⟨pmG_24, List.forall_mem_append.mpr ⟨pmG_25, List.forall_mem_append.mpr ⟨pmG_26, List.forall_mem_append.mpr ⟨pmG_27, List.forall_mem_append.mpr ⟨pmG_28, List.forall_mem_append.mpr ⟨pmG_29, List.forall_mem_append.mpr ⟨pmG_30, List.forall_mem_append.mpr ⟨pmG_31, List.forall_mem_append.mpr ⟨pmG_32, List.forall_mem_append.mpr ⟨pmG_33, List.forall_mem_append.mpr ⟨pmG_34, List.forall_mem_append.mpr ⟨pmG_35, List.forall_mem_append.mpr ⟨pmG_36, List.forall_mem_append.mpr ⟨pmG_37, List.forall_mem_append.mpr ⟨pmG_38, List.forall_mem_append.mpr ⟨pmG_39, List.forall_mem_append.mpr ⟨pmG_40, List.forall_mem_append.mpr ⟨pmG_41, List.forall_mem_append.mpr ⟨pmG_42, List.forall_mem_append.mpr ⟨pmG_43, List.forall_mem_append.mpr ⟨pmG_44, List.forall_mem_append.mpr ⟨pmG_L0, List.forall_mem_append.mpr ⟨pmG_L1, List.forall_mem_append.mpr ⟨pmG_L2, List.forall_mem_append.mpr ⟨pmG_L3, List.forall_mem_append.mpr ⟨pmG_L4, List.forall_mem_append.mpr ⟨pmG_L5, List.forall_mem_append.mpr ⟨pmG_L6, List.forall_mem_append.mpr ⟨pmG_L7, List.forall_mem_append.mpr ⟨pmG_L8, pmG_L9⟩⟩⟩⟩⟩⟩⟩⟩⟩⟩⟩⟩⟩⟩⟩⟩⟩⟩⟩⟩⟩⟩⟩⟩⟩⟩⟩⟩⟩⟩⟩⟩⟩⟩⟩⟩⟩⟩⟩⟩⟩⟩⟩⟩⟩⟩⟩⟩⟩⟩⟩⟩⟩⟩
theorem tw_0 : Cond.selects y_Machine_begin.cls y_Machine_begin y_Machine_begin ∈ pmTs := pmM_0 (List.mem_of_getElem? (i := 0) rfl)
theorem tw_1 : Cond.selects y_Reader_findForm.cls y_Reader_findForm y_Reader_findForm ∈ pmTs := pmM_0 (List.mem_of_getElem? (i := 1) rfl)
theorem tw_2 : Cond.selects y_Reader_learnSymbols.cls y_Reader_learnSymbols y_Reader_learnSymbols ∈ pmTs := pmM_0 (List.mem_of_getElem? (i := 2) rfl)
theorem tw_3 : Cond.selects y_Reader_isSymbol.cls y_Reader_isSymbol y_Reader_isSymbol ∈ pmTs := pmM_0 (List.mem_of_getElem? (i := 3) rfl)
theorem tw_4 : Cond.selects y_Room_reach.cls y_Room_reach y_Room_reach ∈ pmTs := pmM_0 (List.mem_of_getElem? (i := 4) rfl)
theorem tw_5 : Cond.selects y_Room_freeUnreached.cls y_Room_freeUnreached y_Room_freeUnreached ∈ pmTs := pmM_0 (List.mem_of_getElem? (i := 5) rfl)
theorem tw_6 : Cond.selects y_Reader_build.cls y_Reader_build y_Reader_build ∈ pmTs := pmM_0 (List.mem_of_getElem? (i := 6) rfl)
theorem tw_7 : Cond.selects y_Reader_place.cls y_Reader_place y_Reader_place ∈ pmTs := pmM_0 (List.mem_of_getElem? (i := 7) rfl)
theorem tw_8 : Cond.selects y_Room_make.cls y_Room_make y_Room_make ∈ pmTs := pmM_0 (List.mem_of_getElem? (i := 8) rfl)
theorem tw_9 : Cond.selects y_Room_isHere.cls y_Room_isHere y_Room_isHere ∈ pmTs := pmM_0 (List.mem_of_getElem? (i := 9) rfl)
theorem tw_10 : Cond.selects y_Reader_wordValue.cls y_Reader_wordValue y_Reader_wordValue ∈ pmTs := pmM_0 (List.mem_of_getElem? (i := 10) rfl)
theorem tw_11 : Cond.selects y_Machine_evaluateNext.cls y_Machine_evaluateNext y_Machine_evaluateNext ∈ pmTs := pmM_0 (List.mem_of_getElem? (i := 11) rfl)
theorem tw_12 : Cond.selects y_Machine_evaluate.cls y_Machine_evaluate y_Machine_evaluate ∈ pmTs := pmM_0 (List.mem_of_getElem? (i := 12) rfl)
theorem tw_13 : Cond.selects y_Machine_evaluateSymbol.cls y_Machine_evaluateSymbol y_Machine_evaluateSymbol ∈ pmTs := pmM_0 (List.mem_of_getElem? (i := 13) rfl)
theorem tw_14 : Cond.selects y_Machine_returnNext.cls y_Machine_returnNext y_Machine_returnNext ∈ pmTs := pmM_0 (List.mem_of_getElem? (i := 14) rfl)
theorem tw_15 : Cond.selects y_Machine_evaluateQuote.cls y_Machine_evaluateQuote y_Machine_evaluateQuote ∈ pmTs := pmM_0 (List.mem_of_getElem? (i := 15) rfl)
theorem tw_16 : Cond.selects y_Machine_part.cls y_Machine_part y_Machine_part ∈ pmTs := pmM_0 (List.mem_of_getElem? (i := 16) rfl)
theorem tw_17 : Cond.selects y_Machine_evaluateIf.cls y_Machine_evaluateIf y_Machine_evaluateIf ∈ pmTs := pmM_0 (List.mem_of_getElem? (i := 17) rfl)
theorem tw_18 : Cond.selects y_Machine_evaluateUnder.cls y_Machine_evaluateUnder y_Machine_evaluateUnder ∈ pmTs := pmM_0 (List.mem_of_getElem? (i := 18) rfl)
theorem tw_19 : Cond.selects y_Machine_evaluateLambda.cls y_Machine_evaluateLambda y_Machine_evaluateLambda ∈ pmTs := pmM_0 (List.mem_of_getElem? (i := 19) rfl)
theorem tw_20 : Cond.selects y_Machine_areParameters.cls y_Machine_areParameters y_Machine_areParameters ∈ pmTs := pmM_1 (List.mem_of_getElem? (i := 0) rfl)
theorem tw_21 : Cond.selects y_Machine_evaluateNaming.cls y_Machine_evaluateNaming y_Machine_evaluateNaming ∈ pmTs := pmM_1 (List.mem_of_getElem? (i := 1) rfl)
theorem tw_22 : Cond.selects y_Machine_giveBack.cls y_Machine_giveBack y_Machine_giveBack ∈ pmTs := pmM_1 (List.mem_of_getElem? (i := 2) rfl)
theorem tw_23 : Cond.selects y_State_hasTop.cls y_State_hasTop y_State_hasTop ∈ pmTs := pmM_1 (List.mem_of_getElem? (i := 3) rfl)
theorem tw_24 : Cond.selects y_Machine_choose.cls y_Machine_choose y_Machine_choose ∈ pmTs := pmM_1 (List.mem_of_getElem? (i := 4) rfl)
theorem tw_25 : Cond.selects y_Machine_define.cls y_Machine_define y_Machine_define ∈ pmTs := pmM_1 (List.mem_of_getElem? (i := 5) rfl)
theorem tw_26 : Cond.selects y_Machine_assign.cls y_Machine_assign y_Machine_assign ∈ pmTs := pmM_1 (List.mem_of_getElem? (i := 6) rfl)
theorem tw_27 : Cond.selects y_Machine_keepValue.cls y_Machine_keepValue y_Machine_keepValue ∈ pmTs := pmM_1 (List.mem_of_getElem? (i := 7) rfl)
theorem tw_28 : Cond.selects y_Machine_nextArgument.cls y_Machine_nextArgument y_Machine_nextArgument ∈ pmTs := pmM_1 (List.mem_of_getElem? (i := 8) rfl)
theorem tw_29 : Cond.selects y_Machine_apply.cls y_Machine_apply y_Machine_apply ∈ pmTs := pmM_1 (List.mem_of_getElem? (i := 9) rfl)
theorem tw_30 : Cond.selects y_Machine_faultOfCall.cls y_Machine_faultOfCall y_Machine_faultOfCall ∈ pmTs := pmM_1 (List.mem_of_getElem? (i := 10) rfl)
theorem tw_31 : Cond.selects y_Machine_faultOfPrimitive.cls y_Machine_faultOfPrimitive y_Machine_faultOfPrimitive ∈ pmTs := pmM_1 (List.mem_of_getElem? (i := 11) rfl)
theorem tw_32 : Cond.selects y_Machine_boundEnvironment.cls y_Machine_boundEnvironment y_Machine_boundEnvironment ∈ pmTs := pmM_1 (List.mem_of_getElem? (i := 12) rfl)
theorem tw_33 : Cond.selects y_Machine_primitiveResult.cls y_Machine_primitiveResult y_Machine_primitiveResult ∈ pmTs := pmM_1 (List.mem_of_getElem? (i := 13) rfl)
theorem tw_34 : Cond.selects y_Machine_listOf.cls y_Machine_listOf y_Machine_listOf ∈ pmTs := pmM_1 (List.mem_of_getElem? (i := 14) rfl)
theorem tw_35 : Cond.selects y_Printer_print.cls y_Printer_print y_Printer_print ∈ pmTs := pmM_1 (List.mem_of_getElem? (i := 15) rfl)
theorem tw_36 : Cond.selects y_Printer_printNumber.cls y_Printer_printNumber y_Printer_printNumber ∈ pmTs := pmM_1 (List.mem_of_getElem? (i := 16) rfl)
theorem tw_37 : Cond.selects y_Printer_printName.cls y_Printer_printName y_Printer_printName ∈ pmTs := pmM_1 (List.mem_of_getElem? (i := 17) rfl)
theorem tw_38 : Cond.selects y_Printer_printText.cls y_Printer_printText y_Printer_printText ∈ pmTs := pmM_1 (List.mem_of_getElem? (i := 18) rfl)
theorem tw_39 : Cond.selects y_Printer_printList.cls y_Printer_printList y_Printer_printList ∈ pmTs := pmM_1 (List.mem_of_getElem? (i := 19) rfl)
theorem tw_40 : Cond.selects y_Machine_endForm.cls y_Machine_endForm y_Machine_endForm ∈ pmTs := pmM_2 (List.mem_of_getElem? (i := 0) rfl)
theorem tw_41 : Cond.selects y_Md_word.cls y_Md_word y_Md_word ∈ pmTs := pmM_2 (List.mem_of_getElem? (i := 1) rfl)
theorem tw_42 : Cond.selects y_Md_reading.cls y_Md_reading y_Md_reading ∈ pmTs := pmM_2 (List.mem_of_getElem? (i := 2) rfl)
theorem tw_43 : Cond.selects y_Md_lookOver.cls y_Md_lookOver y_Md_lookOver ∈ pmTs := pmM_2 (List.mem_of_getElem? (i := 3) rfl)
theorem tw_44 : Cond.selects y_Md_skip.cls y_Md_skip y_Md_skip ∈ pmTs := pmM_2 (List.mem_of_getElem? (i := 4) rfl)
theorem tw_45 : Cond.selects y_Md_tokenEnd.cls y_Md_tokenEnd y_Md_tokenEnd ∈ pmTs := pmM_2 (List.mem_of_getElem? (i := 5) rfl)
theorem tw_46 : Cond.selects y_Md_meet.cls y_Md_meet y_Md_meet ∈ pmTs := pmM_2 (List.mem_of_getElem? (i := 6) rfl)
theorem tw_47 : Cond.selects y_Md_isFigure.cls y_Md_isFigure y_Md_isFigure ∈ pmTs := pmM_2 (List.mem_of_getElem? (i := 7) rfl)
theorem tw_48 : Cond.selects y_Md_isNil.cls y_Md_isNil y_Md_isNil ∈ pmTs := pmM_2 (List.mem_of_getElem? (i := 8) rfl)
theorem tw_49 : Cond.selects y_Md_symbolOf.cls y_Md_symbolOf y_Md_symbolOf ∈ pmTs := pmM_2 (List.mem_of_getElem? (i := 9) rfl)
theorem tw_50 : Cond.selects y_Md_room.cls y_Md_room y_Md_room ∈ pmTs := pmM_2 (List.mem_of_getElem? (i := 10) rfl)
theorem tw_51 : Cond.selects y_Md_live.cls y_Md_live y_Md_live ∈ pmTs := pmM_2 (List.mem_of_getElem? (i := 11) rfl)
theorem tw_52 : Cond.selects y_Md_mark.cls y_Md_mark y_Md_mark ∈ pmTs := pmM_2 (List.mem_of_getElem? (i := 12) rfl)
theorem tw_53 : Cond.selects y_Md_read.cls y_Md_read y_Md_read ∈ pmTs := pmM_2 (List.mem_of_getElem? (i := 13) rfl)
theorem tw_54 : Cond.selects y_Md_arrived.cls y_Md_arrived y_Md_arrived ∈ pmTs := pmM_2 (List.mem_of_getElem? (i := 14) rfl)
theorem tw_55 : Cond.selects y_Md_pair.cls y_Md_pair y_Md_pair ∈ pmTs := pmM_2 (List.mem_of_getElem? (i := 15) rfl)
theorem tw_56 : Cond.selects y_Md_make.cls y_Md_make y_Md_make ∈ pmTs := pmM_2 (List.mem_of_getElem? (i := 16) rfl)
theorem tw_57 : Cond.selects y_Md_atom.cls y_Md_atom y_Md_atom ∈ pmTs := pmM_2 (List.mem_of_getElem? (i := 17) rfl)
theorem tw_58 : Cond.selects y_Md_figure.cls y_Md_figure y_Md_figure ∈ pmTs := pmM_2 (List.mem_of_getElem? (i := 18) rfl)
theorem tw_59 : Cond.selects y_Md_drop.cls y_Md_drop y_Md_drop ∈ pmTs := pmM_2 (List.mem_of_getElem? (i := 19) rfl)
theorem tw_60 : Cond.selects y_Md_back.cls y_Md_back y_Md_back ∈ pmTs := pmM_3 (List.mem_of_getElem? (i := 0) rfl)
theorem tw_61 : Cond.selects y_Md_print.cls y_Md_print y_Md_print ∈ pmTs := pmM_3 (List.mem_of_getElem? (i := 1) rfl)
theorem tw_62 : Cond.selects y_Md_begin.cls y_Md_begin y_Md_begin ∈ pmTs := pmM_3 (List.mem_of_getElem? (i := 2) rfl)
theorem tw_63 : Cond.selects y_Md_isPair.cls y_Md_isPair y_Md_isPair ∈ pmTs := pmM_3 (List.mem_of_getElem? (i := 3) rfl)
theorem tw_64 : Cond.selects y_Md_putPlain.cls y_Md_putPlain y_Md_putPlain ∈ pmTs := pmM_3 (List.mem_of_getElem? (i := 4) rfl)
theorem tw_65 : Cond.selects y_Md_putNumber.cls y_Md_putNumber y_Md_putNumber ∈ pmTs := pmM_3 (List.mem_of_getElem? (i := 5) rfl)
theorem tw_66 : Cond.selects y_Md_put.cls y_Md_put y_Md_put ∈ pmTs := pmM_3 (List.mem_of_getElem? (i := 6) rfl)
theorem tw_67 : Cond.selects y_Md_putName.cls y_Md_putName y_Md_putName ∈ pmTs := pmM_3 (List.mem_of_getElem? (i := 7) rfl)
theorem tw_68 : Cond.selects y_Md_putDots.cls y_Md_putDots y_Md_putDots ∈ pmTs := pmM_3 (List.mem_of_getElem? (i := 8) rfl)
theorem tw_69 : Cond.selects y_Md_further.cls y_Md_further y_Md_further ∈ pmTs := pmM_3 (List.mem_of_getElem? (i := 9) rfl)
theorem tw_70 : Cond.selects y_Md_cdr.cls y_Md_cdr y_Md_cdr ∈ pmTs := pmM_3 (List.mem_of_getElem? (i := 10) rfl)
theorem tw_71 : Cond.selects y_Md_car.cls y_Md_car y_Md_car ∈ pmTs := pmM_3 (List.mem_of_getElem? (i := 11) rfl)
theorem tw_72 : Cond.selects y_Md_clearAll.cls y_Md_clearAll y_Md_clearAll ∈ pmTs := pmM_3 (List.mem_of_getElem? (i := 12) rfl)
theorem tw_73 : Cond.selects y_Md_argument.cls y_Md_argument y_Md_argument ∈ pmTs := pmM_3 (List.mem_of_getElem? (i := 13) rfl)
theorem tw_74 : Cond.selects y_Md_apply.cls y_Md_apply y_Md_apply ∈ pmTs := pmM_3 (List.mem_of_getElem? (i := 14) rfl)
theorem tw_75 : Cond.selects y_Md_lengthOf.cls y_Md_lengthOf y_Md_lengthOf ∈ pmTs := pmM_3 (List.mem_of_getElem? (i := 15) rfl)
theorem tw_76 : Cond.selects y_Md_at.cls y_Md_at y_Md_at ∈ pmTs := pmM_3 (List.mem_of_getElem? (i := 16) rfl)
theorem tw_77 : Cond.selects y_Md_isClosure.cls y_Md_isClosure y_Md_isClosure ∈ pmTs := pmM_3 (List.mem_of_getElem? (i := 17) rfl)
theorem tw_78 : Cond.selects y_Md_enter.cls y_Md_enter y_Md_enter ∈ pmTs := pmM_3 (List.mem_of_getElem? (i := 18) rfl)
theorem tw_79 : Cond.selects y_Md_go.cls y_Md_go y_Md_go ∈ pmTs := pmM_3 (List.mem_of_getElem? (i := 19) rfl)
theorem tw_80 : Cond.selects y_Md_listed.cls y_Md_listed y_Md_listed ∈ pmTs := pmM_4 (List.mem_of_getElem? (i := 0) rfl)
theorem tw_81 : Cond.selects y_Md_done.cls y_Md_done y_Md_done ∈ pmTs := pmM_4 (List.mem_of_getElem? (i := 1) rfl)
theorem tw_82 : Cond.selects y_Md_give.cls y_Md_give y_Md_give ∈ pmTs := pmM_4 (List.mem_of_getElem? (i := 2) rfl)
theorem tw_83 : Cond.selects y_Md_binding.cls y_Md_binding y_Md_binding ∈ pmTs := pmM_4 (List.mem_of_getElem? (i := 3) rfl)
theorem tw_84 : Cond.selects y_Md_evaluate.cls y_Md_evaluate y_Md_evaluate ∈ pmTs := pmM_4 (List.mem_of_getElem? (i := 4) rfl)
theorem tw_85 : Cond.selects y_Md_lookUp.cls y_Md_lookUp y_Md_lookUp ∈ pmTs := pmM_4 (List.mem_of_getElem? (i := 5) rfl)
theorem tw_86 : Cond.selects y_Md_special.cls y_Md_special y_Md_special ∈ pmTs := pmM_4 (List.mem_of_getElem? (i := 6) rfl)
theorem tw_87 : Cond.selects y_Md_areParameters.cls y_Md_areParameters y_Md_areParameters ∈ pmTs := pmM_4 (List.mem_of_getElem? (i := 7) rfl)
theorem tw_88 : Cond.selects y_Md_push.cls y_Md_push y_Md_push ∈ pmTs := pmM_4 (List.mem_of_getElem? (i := 8) rfl)
theorem tw_89 : Cond.initialized R_Law ∈ pmTs := pmM_4 (List.mem_of_getElem? (i := 9) rfl)
theorem tw_90 : Cond.initialized R_CL ∈ pmTs := pmM_4 (List.mem_of_getElem? (i := 10) rfl)
theorem tw_91 : Cond.initialized R_Text ∈ pmTs := pmM_4 (List.mem_of_getElem? (i := 11) rfl)
theorem tw_92 : Cond.initialized R_Output ∈ pmTs := pmM_4 (List.mem_of_getElem? (i := 12) rfl)
theorem tw_93 : Cond.initialized R_Symbols ∈ pmTs := pmM_4 (List.mem_of_getElem? (i := 13) rfl)
theorem tw_94 : Cond.initialized "java/lang/String" ∈ pmTs := pmM_4 (List.mem_of_getElem? (i := 14) rfl)
theorem tw_95 : Cond.initialized "java/lang/StringLatin1" ∈ pmTs := pmM_4 (List.mem_of_getElem? (i := 15) rfl)
theorem tw_96 : Cond.initialized "jdk/internal/util/Preconditions" ∈ pmTs := pmM_4 (List.mem_of_getElem? (i := 16) rfl)
theorem tw_97 : Cond.initialized "java/lang/StringUTF16" ∈ pmTs := pmM_4 (List.mem_of_getElem? (i := 17) rfl)
theorem tw_98 : Cond.initialized R_Value ∈ pmTs := pmM_4 (List.mem_of_getElem? (i := 18) rfl)
theorem tw_99 : Cond.initialized R_State ∈ pmTs := pmM_4 (List.mem_of_getElem? (i := 19) rfl)
theorem tw_100 : Cond.initialized R_Room ∈ pmTs := pmM_5 (List.mem_of_getElem? (i := 0) rfl)
theorem tw_101 : Cond.initialized "java/lang/Math" ∈ pmTs := pmM_5 (List.mem_of_getElem? (i := 1) rfl)
theorem tw_102 : Cond.initialized R_Machine ∈ pmTs := pmM_5 (List.mem_of_getElem? (i := 2) rfl)
theorem tw_103 : Cond.initialized R_Reader ∈ pmTs := pmM_5 (List.mem_of_getElem? (i := 3) rfl)
theorem tw_104 : Cond.initialized R_Printer ∈ pmTs := pmM_5 (List.mem_of_getElem? (i := 4) rfl)
theorem tw_105 : Cond.initialized R_Md ∈ pmTs := pmM_5 (List.mem_of_getElem? (i := 5) rfl)
theorem tw_106 : Cond.classLink R_Law 7 R_CL ∈ pmTs := pmM_5 (List.mem_of_getElem? (i := 6) rfl)
theorem tw_107 : Cond.instantiable R_CL 6 ∈ pmTs := pmM_5 (List.mem_of_getElem? (i := 7) rfl)
theorem tw_108 : Cond.methodLink R_Law 15 y_CL_init ∈ pmTs := pmM_5 (List.mem_of_getElem? (i := 8) rfl)
theorem tw_109 : Cond.instanceMethod y_CL_init ∈ pmTs := pmM_5 (List.mem_of_getElem? (i := 9) rfl)
theorem tw_110 : Cond.code y_CL_init k_CL_init 2 none ∈ pmTs := pmM_5 (List.mem_of_getElem? (i := 10) rfl)
theorem tw_111 : Cond.methodLink R_CL 1 objectInit ∈ pmTs := pmM_5 (List.mem_of_getElem? (i := 11) rfl)
theorem tw_112 : Cond.instanceMethod objectInit ∈ pmTs := pmM_5 (List.mem_of_getElem? (i := 12) rfl)
theorem tw_113 : Cond.classLink R_CL 7 R_Text ∈ pmTs := pmM_5 (List.mem_of_getElem? (i := 13) rfl)
theorem tw_114 : Cond.instantiable R_Text 2 ∈ pmTs := pmM_5 (List.mem_of_getElem? (i := 14) rfl)
theorem tw_115 : Cond.methodLinkNest R_CL 9 y_Text_init R_CL ∈ pmTs := pmM_5 (List.mem_of_getElem? (i := 15) rfl)
theorem tw_116 : Cond.instanceMethod y_Text_init ∈ pmTs := pmM_5 (List.mem_of_getElem? (i := 16) rfl)
theorem tw_117 : Cond.code y_Text_init k_Text_init 1 none ∈ pmTs := pmM_5 (List.mem_of_getElem? (i := 17) rfl)
theorem tw_118 : Cond.methodLink R_Text 1 objectInit ∈ pmTs := pmM_5 (List.mem_of_getElem? (i := 18) rfl)
theorem tw_119 : Cond.fieldLink R_Text 9 R_Text "row" "[C" ∈ pmTs := pmM_5 (List.mem_of_getElem? (i := 19) rfl)
theorem tw_120 : Cond.fieldLink R_Text 13 R_Text "size" "I" ∈ pmTs := pmM_6 (List.mem_of_getElem? (i := 0) rfl)
theorem tw_121 : Cond.fieldLinkNest R_Reader 69 R_Text "size" "I" R_CL ∈ pmTs := pmM_6 (List.mem_of_getElem? (i := 1) rfl)
theorem tw_122 : Cond.fieldLinkNest R_CL 96 R_Text "size" "I" R_CL ∈ pmTs := pmM_6 (List.mem_of_getElem? (i := 2) rfl)
theorem tw_123 : Cond.classLink R_CL 16 R_Output ∈ pmTs := pmM_6 (List.mem_of_getElem? (i := 3) rfl)
theorem tw_124 : Cond.instantiable R_Output 2 ∈ pmTs := pmM_6 (List.mem_of_getElem? (i := 4) rfl)
theorem tw_125 : Cond.methodLinkNest R_CL 18 y_Output_init R_CL ∈ pmTs := pmM_6 (List.mem_of_getElem? (i := 5) rfl)
theorem tw_126 : Cond.instanceMethod y_Output_init ∈ pmTs := pmM_6 (List.mem_of_getElem? (i := 6) rfl)
theorem tw_127 : Cond.code y_Output_init k_Output_init 1 none ∈ pmTs := pmM_6 (List.mem_of_getElem? (i := 7) rfl)
theorem tw_128 : Cond.methodLink R_Output 1 objectInit ∈ pmTs := pmM_6 (List.mem_of_getElem? (i := 8) rfl)
theorem tw_129 : Cond.fieldLink R_Output 9 R_Output "row" "[C" ∈ pmTs := pmM_6 (List.mem_of_getElem? (i := 9) rfl)
theorem tw_130 : Cond.fieldLink R_Output 13 R_Output "size" "I" ∈ pmTs := pmM_6 (List.mem_of_getElem? (i := 10) rfl)
theorem tw_131 : Cond.fieldLinkNest R_CL 82 R_Output "size" "I" R_CL ∈ pmTs := pmM_6 (List.mem_of_getElem? (i := 11) rfl)
theorem tw_132 : Cond.classLink R_CL 23 R_Symbols ∈ pmTs := pmM_6 (List.mem_of_getElem? (i := 12) rfl)
theorem tw_133 : Cond.instantiable R_Symbols 3 ∈ pmTs := pmM_6 (List.mem_of_getElem? (i := 13) rfl)
theorem tw_134 : Cond.methodLink R_CL 25 y_Symbols_init ∈ pmTs := pmM_6 (List.mem_of_getElem? (i := 14) rfl)
theorem tw_135 : Cond.instanceMethod y_Symbols_init ∈ pmTs := pmM_6 (List.mem_of_getElem? (i := 15) rfl)
theorem tw_136 : Cond.code y_Symbols_init k_Symbols_init 5 none ∈ pmTs := pmM_6 (List.mem_of_getElem? (i := 16) rfl)
theorem tw_137 : Cond.methodLink R_Symbols 1 objectInit ∈ pmTs := pmM_6 (List.mem_of_getElem? (i := 17) rfl)
theorem tw_138 : Cond.methodLink R_Symbols 19 (⟨"java/lang/String", "length", "()I"⟩ : MethodName) ∈ pmTs := pmM_6 (List.mem_of_getElem? (i := 18) rfl)
theorem tw_139 : Cond.instanceMethod (⟨"java/lang/String", "length", "()I"⟩ : MethodName) ∈ pmTs := pmM_6 (List.mem_of_getElem? (i := 19) rfl)
theorem tw_140 : Cond.selects (⟨"java/lang/String", "length", "()I"⟩ : MethodName).cls (⟨"java/lang/String", "length", "()I"⟩ : MethodName) (⟨"java/lang/String", "length", "()I"⟩ : MethodName) ∈ pmTs := pmM_7 (List.mem_of_getElem? (i := 0) rfl)
theorem tw_141 : Cond.code (⟨"java/lang/String", "length", "()I"⟩ : MethodName) prog_14_method_54_code 1 (some .int) ∈ pmTs := pmM_7 (List.mem_of_getElem? (i := 1) rfl)
theorem tw_142 : Cond.methodLink "java/lang/String" 335 (⟨"java/lang/String", "coder", "()B"⟩ : MethodName) ∈ pmTs := pmM_7 (List.mem_of_getElem? (i := 2) rfl)
theorem tw_143 : Cond.instanceMethod (⟨"java/lang/String", "coder", "()B"⟩ : MethodName) ∈ pmTs := pmM_7 (List.mem_of_getElem? (i := 3) rfl)
theorem tw_144 : Cond.selects (⟨"java/lang/String", "coder", "()B"⟩ : MethodName).cls (⟨"java/lang/String", "coder", "()B"⟩ : MethodName) (⟨"java/lang/String", "coder", "()B"⟩ : MethodName) ∈ pmTs := pmM_7 (List.mem_of_getElem? (i := 4) rfl)
theorem tw_145 : Cond.code (⟨"java/lang/String", "coder", "()B"⟩ : MethodName) prog_14_method_152_code 1 (some .byte) ∈ pmTs := pmM_7 (List.mem_of_getElem? (i := 5) rfl)
theorem tw_146 : Cond.fieldLink "java/lang/String" 38 "java/lang/String" "COMPACT_STRINGS" "Z" ∈ pmTs := pmM_7 (List.mem_of_getElem? (i := 6) rfl)
theorem tw_147 : Cond.methodLink R_Symbols 25 (⟨"java/lang/String", "charAt", "(I)C"⟩ : MethodName) ∈ pmTs := pmM_7 (List.mem_of_getElem? (i := 7) rfl)
theorem tw_148 : Cond.instanceMethod (⟨"java/lang/String", "charAt", "(I)C"⟩ : MethodName) ∈ pmTs := pmM_7 (List.mem_of_getElem? (i := 8) rfl)
theorem tw_149 : Cond.selects (⟨"java/lang/String", "charAt", "(I)C"⟩ : MethodName).cls (⟨"java/lang/String", "charAt", "(I)C"⟩ : MethodName) (⟨"java/lang/String", "charAt", "(I)C"⟩ : MethodName) ∈ pmTs := pmM_7 (List.mem_of_getElem? (i := 9) rfl)
theorem tw_150 : Cond.code (⟨"java/lang/String", "charAt", "(I)C"⟩ : MethodName) prog_14_method_56_code 2 (some .char) ∈ pmTs := pmM_7 (List.mem_of_getElem? (i := 10) rfl)
theorem tw_151 : Cond.methodLink "java/lang/String" 492 (⟨"java/lang/String", "isLatin1", "()Z"⟩ : MethodName) ∈ pmTs := pmM_7 (List.mem_of_getElem? (i := 11) rfl)
theorem tw_152 : Cond.instanceMethod (⟨"java/lang/String", "isLatin1", "()Z"⟩ : MethodName) ∈ pmTs := pmM_7 (List.mem_of_getElem? (i := 12) rfl)
theorem tw_153 : Cond.selects (⟨"java/lang/String", "isLatin1", "()Z"⟩ : MethodName).cls (⟨"java/lang/String", "isLatin1", "()Z"⟩ : MethodName) (⟨"java/lang/String", "isLatin1", "()Z"⟩ : MethodName) ∈ pmTs := pmM_7 (List.mem_of_getElem? (i := 13) rfl)
theorem tw_154 : Cond.code (⟨"java/lang/String", "isLatin1", "()Z"⟩ : MethodName) prog_14_method_154_code 1 (some .boolean) ∈ pmTs := pmM_7 (List.mem_of_getElem? (i := 14) rfl)
theorem tw_155 : Cond.methodLink "java/lang/String" 495 (⟨"java/lang/StringLatin1", "charAt", "([BI)C"⟩ : MethodName) ∈ pmTs := pmM_7 (List.mem_of_getElem? (i := 15) rfl)
theorem tw_156 : Cond.static (⟨"java/lang/StringLatin1", "charAt", "([BI)C"⟩ : MethodName) ∈ pmTs := pmM_7 (List.mem_of_getElem? (i := 16) rfl)
theorem tw_157 : Cond.code (⟨"java/lang/StringLatin1", "charAt", "([BI)C"⟩ : MethodName) prog_15_method_2_code 2 (some .char) ∈ pmTs := pmM_7 (List.mem_of_getElem? (i := 17) rfl)
theorem tw_158 : Cond.methodLink "java/lang/StringLatin1" 9 (⟨"java/lang/String", "checkIndex", "(II)V"⟩ : MethodName) ∈ pmTs := pmM_7 (List.mem_of_getElem? (i := 18) rfl)
theorem tw_159 : Cond.static (⟨"java/lang/String", "checkIndex", "(II)V"⟩ : MethodName) ∈ pmTs := pmM_7 (List.mem_of_getElem? (i := 19) rfl)
theorem tw_160 : Cond.code (⟨"java/lang/String", "checkIndex", "(II)V"⟩ : MethodName) prog_14_method_155_code 2 none ∈ pmTs := pmM_8 (List.mem_of_getElem? (i := 0) rfl)
theorem tw_161 : Cond.fieldLink "java/lang/String" 1053 "jdk/internal/util/Preconditions" "SIOOBE_FORMATTER" "Ljava/util/function/BiFunction;" ∈ pmTs := pmM_8 (List.mem_of_getElem? (i := 1) rfl)
theorem tw_162 : Cond.methodLink "java/lang/String" 1059 (⟨"jdk/internal/util/Preconditions", "checkIndex", "(IILjava/util/function/BiFunction;)I"⟩ : MethodName) ∈ pmTs := pmM_8 (List.mem_of_getElem? (i := 2) rfl)
theorem tw_163 : Cond.static (⟨"jdk/internal/util/Preconditions", "checkIndex", "(IILjava/util/function/BiFunction;)I"⟩ : MethodName) ∈ pmTs := pmM_8 (List.mem_of_getElem? (i := 3) rfl)
theorem tw_164 : Cond.code (⟨"jdk/internal/util/Preconditions", "checkIndex", "(IILjava/util/function/BiFunction;)I"⟩ : MethodName) prog_17_method_11_code 3 (some .int) ∈ pmTs := pmM_8 (List.mem_of_getElem? (i := 4) rfl)
theorem tw_165 : Cond.methodLink "java/lang/String" 498 (⟨"java/lang/StringUTF16", "charAt", "([BI)C"⟩ : MethodName) ∈ pmTs := pmM_8 (List.mem_of_getElem? (i := 5) rfl)
theorem tw_166 : Cond.static (⟨"java/lang/StringUTF16", "charAt", "([BI)C"⟩ : MethodName) ∈ pmTs := pmM_8 (List.mem_of_getElem? (i := 6) rfl)
theorem tw_167 : Cond.code (⟨"java/lang/StringUTF16", "charAt", "([BI)C"⟩ : MethodName) prog_16_method_83_code 2 (some .char) ∈ pmTs := pmM_8 (List.mem_of_getElem? (i := 7) rfl)
theorem tw_168 : Cond.methodLink "java/lang/StringUTF16" 67 (⟨"java/lang/StringUTF16", "checkIndex", "(I[B)V"⟩ : MethodName) ∈ pmTs := pmM_8 (List.mem_of_getElem? (i := 8) rfl)
theorem tw_169 : Cond.static (⟨"java/lang/StringUTF16", "checkIndex", "(I[B)V"⟩ : MethodName) ∈ pmTs := pmM_8 (List.mem_of_getElem? (i := 9) rfl)
theorem tw_170 : Cond.code (⟨"java/lang/StringUTF16", "checkIndex", "(I[B)V"⟩ : MethodName) prog_16_method_91_code 2 none ∈ pmTs := pmM_8 (List.mem_of_getElem? (i := 10) rfl)
theorem tw_171 : Cond.methodLink "java/lang/StringUTF16" 48 (⟨"java/lang/StringUTF16", "length", "([B)I"⟩ : MethodName) ∈ pmTs := pmM_8 (List.mem_of_getElem? (i := 11) rfl)
theorem tw_172 : Cond.static (⟨"java/lang/StringUTF16", "length", "([B)I"⟩ : MethodName) ∈ pmTs := pmM_8 (List.mem_of_getElem? (i := 12) rfl)
theorem tw_173 : Cond.code (⟨"java/lang/StringUTF16", "length", "([B)I"⟩ : MethodName) prog_16_method_6_code 1 (some .int) ∈ pmTs := pmM_8 (List.mem_of_getElem? (i := 13) rfl)
theorem tw_174 : Cond.methodLink "java/lang/StringUTF16" 414 (⟨"java/lang/String", "checkIndex", "(II)V"⟩ : MethodName) ∈ pmTs := pmM_8 (List.mem_of_getElem? (i := 14) rfl)
theorem tw_175 : Cond.methodLink "java/lang/StringUTF16" 71 (⟨"java/lang/StringUTF16", "getChar", "([BI)C"⟩ : MethodName) ∈ pmTs := pmM_8 (List.mem_of_getElem? (i := 15) rfl)
theorem tw_176 : Cond.static (⟨"java/lang/StringUTF16", "getChar", "([BI)C"⟩ : MethodName) ∈ pmTs := pmM_8 (List.mem_of_getElem? (i := 16) rfl)
theorem tw_177 : Cond.code (⟨"java/lang/StringUTF16", "getChar", "([BI)C"⟩ : MethodName) prog_16_method_5_code 2 (some .char) ∈ pmTs := pmM_8 (List.mem_of_getElem? (i := 17) rfl)
theorem tw_178 : Cond.fieldLink "java/lang/StringUTF16" 44 "java/lang/StringUTF16" "$assertionsDisabled" "Z" ∈ pmTs := pmM_8 (List.mem_of_getElem? (i := 18) rfl)
theorem tw_179 : Cond.fieldLink "java/lang/StringUTF16" 59 "java/lang/StringUTF16" "HI_BYTE_SHIFT" "I" ∈ pmTs := pmM_8 (List.mem_of_getElem? (i := 19) rfl)
theorem tw_180 : Cond.fieldLink "java/lang/StringUTF16" 63 "java/lang/StringUTF16" "LO_BYTE_SHIFT" "I" ∈ pmTs := pmM_9 (List.mem_of_getElem? (i := 0) rfl)
theorem tw_181 : Cond.methodLink R_Symbols 29 y_Symbols_learn ∈ pmTs := pmM_9 (List.mem_of_getElem? (i := 1) rfl)
theorem tw_182 : Cond.instanceMethod y_Symbols_learn ∈ pmTs := pmM_9 (List.mem_of_getElem? (i := 2) rfl)
theorem tw_183 : Cond.selects y_Symbols_learn.cls y_Symbols_learn y_Symbols_learn ∈ pmTs := pmM_9 (List.mem_of_getElem? (i := 3) rfl)
theorem tw_184 : Cond.code y_Symbols_learn k_Symbols_learn 3 (some .boolean) ∈ pmTs := pmM_9 (List.mem_of_getElem? (i := 4) rfl)
theorem tw_185 : Cond.methodLink R_Symbols 43 y_Symbols_find ∈ pmTs := pmM_9 (List.mem_of_getElem? (i := 5) rfl)
theorem tw_186 : Cond.instanceMethod y_Symbols_find ∈ pmTs := pmM_9 (List.mem_of_getElem? (i := 6) rfl)
theorem tw_187 : Cond.selects y_Symbols_find.cls y_Symbols_find y_Symbols_find ∈ pmTs := pmM_9 (List.mem_of_getElem? (i := 7) rfl)
theorem tw_188 : Cond.code y_Symbols_find k_Symbols_find 4 (some .int) ∈ pmTs := pmM_9 (List.mem_of_getElem? (i := 8) rfl)
theorem tw_189 : Cond.methodLink R_Symbols 35 y_Value_of ∈ pmTs := pmM_9 (List.mem_of_getElem? (i := 9) rfl)
theorem tw_190 : Cond.static y_Value_of ∈ pmTs := pmM_9 (List.mem_of_getElem? (i := 10) rfl)
theorem tw_191 : Cond.code y_Value_of k_Value_of 2 (some .int) ∈ pmTs := pmM_9 (List.mem_of_getElem? (i := 11) rfl)
theorem tw_192 : Cond.fieldLink R_Symbols 9 R_Symbols "names" "[J" ∈ pmTs := pmM_9 (List.mem_of_getElem? (i := 12) rfl)
theorem tw_193 : Cond.fieldLink R_Symbols 13 R_Symbols "globals" "[I" ∈ pmTs := pmM_9 (List.mem_of_getElem? (i := 13) rfl)
theorem tw_194 : Cond.fieldLinkNest R_Room 114 R_Symbols "globals" "[I" R_CL ∈ pmTs := pmM_9 (List.mem_of_getElem? (i := 14) rfl)
theorem tw_195 : Cond.fieldLink R_Symbols 39 R_Symbols "known" "I" ∈ pmTs := pmM_9 (List.mem_of_getElem? (i := 15) rfl)
theorem tw_196 : Cond.fieldLinkNest R_CL 100 R_Symbols "known" "I" R_CL ∈ pmTs := pmM_9 (List.mem_of_getElem? (i := 16) rfl)
theorem tw_197 : Cond.fieldLinkNest R_Room 109 R_Symbols "known" "I" R_CL ∈ pmTs := pmM_9 (List.mem_of_getElem? (i := 17) rfl)
theorem tw_198 : Cond.classLink R_CL 30 R_State ∈ pmTs := pmM_9 (List.mem_of_getElem? (i := 18) rfl)
theorem tw_199 : Cond.instantiable R_State 8 ∈ pmTs := pmM_9 (List.mem_of_getElem? (i := 19) rfl)
theorem tw_200 : Cond.methodLinkNest R_CL 32 y_State_init R_CL ∈ pmTs := pmM_10 (List.mem_of_getElem? (i := 0) rfl)
theorem tw_201 : Cond.instanceMethod y_State_init ∈ pmTs := pmM_10 (List.mem_of_getElem? (i := 1) rfl)
theorem tw_202 : Cond.code y_State_init k_State_init 1 none ∈ pmTs := pmM_10 (List.mem_of_getElem? (i := 2) rfl)
theorem tw_203 : Cond.methodLink R_State 1 objectInit ∈ pmTs := pmM_10 (List.mem_of_getElem? (i := 3) rfl)
theorem tw_204 : Cond.fieldLink R_State 9 R_State "value" "I" ∈ pmTs := pmM_10 (List.mem_of_getElem? (i := 4) rfl)
theorem tw_205 : Cond.fieldLinkNest R_Machine 71 R_State "value" "I" R_CL ∈ pmTs := pmM_10 (List.mem_of_getElem? (i := 5) rfl)
theorem tw_206 : Cond.fieldLinkNest R_Room 85 R_State "value" "I" R_CL ∈ pmTs := pmM_10 (List.mem_of_getElem? (i := 6) rfl)
theorem tw_207 : Cond.fieldLink R_State 15 R_State "environment" "I" ∈ pmTs := pmM_10 (List.mem_of_getElem? (i := 7) rfl)
theorem tw_208 : Cond.fieldLinkNest R_Machine 74 R_State "environment" "I" R_CL ∈ pmTs := pmM_10 (List.mem_of_getElem? (i := 8) rfl)
theorem tw_209 : Cond.fieldLinkNest R_Room 94 R_State "environment" "I" R_CL ∈ pmTs := pmM_10 (List.mem_of_getElem? (i := 9) rfl)
theorem tw_210 : Cond.fieldLinkNest R_Machine 43 R_State "evaluating" "Z" R_CL ∈ pmTs := pmM_10 (List.mem_of_getElem? (i := 10) rfl)
theorem tw_211 : Cond.fieldLink R_State 31 R_State "depth" "I" ∈ pmTs := pmM_10 (List.mem_of_getElem? (i := 11) rfl)
theorem tw_212 : Cond.fieldLinkNest R_Machine 77 R_State "depth" "I" R_CL ∈ pmTs := pmM_10 (List.mem_of_getElem? (i := 12) rfl)
theorem tw_213 : Cond.fieldLinkNest R_CL 97 R_State "depth" "I" R_CL ∈ pmTs := pmM_10 (List.mem_of_getElem? (i := 13) rfl)
theorem tw_214 : Cond.fieldLinkNest R_Room 97 R_State "depth" "I" R_CL ∈ pmTs := pmM_10 (List.mem_of_getElem? (i := 14) rfl)
theorem tw_215 : Cond.fieldLink R_State 18 R_State "kinds" "[I" ∈ pmTs := pmM_10 (List.mem_of_getElem? (i := 15) rfl)
theorem tw_216 : Cond.fieldLink R_State 22 R_State "as" "[I" ∈ pmTs := pmM_10 (List.mem_of_getElem? (i := 16) rfl)
theorem tw_217 : Cond.fieldLinkNest R_Room 100 R_State "as" "[I" R_CL ∈ pmTs := pmM_10 (List.mem_of_getElem? (i := 17) rfl)
theorem tw_218 : Cond.fieldLink R_State 25 R_State "bs" "[I" ∈ pmTs := pmM_10 (List.mem_of_getElem? (i := 18) rfl)
theorem tw_219 : Cond.fieldLinkNest R_Room 103 R_State "bs" "[I" R_CL ∈ pmTs := pmM_10 (List.mem_of_getElem? (i := 19) rfl)
theorem tw_220 : Cond.fieldLink R_State 28 R_State "cs" "[I" ∈ pmTs := pmM_11 (List.mem_of_getElem? (i := 0) rfl)
theorem tw_221 : Cond.fieldLinkNest R_Room 106 R_State "cs" "[I" R_CL ∈ pmTs := pmM_11 (List.mem_of_getElem? (i := 1) rfl)
theorem tw_222 : Cond.classLink R_CL 37 R_Room ∈ pmTs := pmM_11 (List.mem_of_getElem? (i := 2) rfl)
theorem tw_223 : Cond.instantiable R_Room 13 ∈ pmTs := pmM_11 (List.mem_of_getElem? (i := 3) rfl)
theorem tw_224 : Cond.methodLink R_CL 39 Lib.Math.min.name ∈ pmTs := pmM_11 (List.mem_of_getElem? (i := 4) rfl)
theorem tw_225 : Cond.static Lib.Math.min.name ∈ pmTs := pmM_11 (List.mem_of_getElem? (i := 5) rfl)
theorem tw_226 : Cond.code Lib.Math.min.name Lib.Math.min.code 2 (some .int) ∈ pmTs := pmM_11 (List.mem_of_getElem? (i := 6) rfl)
theorem tw_227 : Cond.methodLink R_CL 45 Lib.Math.max.name ∈ pmTs := pmM_11 (List.mem_of_getElem? (i := 7) rfl)
theorem tw_228 : Cond.static Lib.Math.max.name ∈ pmTs := pmM_11 (List.mem_of_getElem? (i := 8) rfl)
theorem tw_229 : Cond.code Lib.Math.max.name Lib.Math.max.code 2 (some .int) ∈ pmTs := pmM_11 (List.mem_of_getElem? (i := 9) rfl)
theorem tw_230 : Cond.methodLink R_CL 48 y_Room_init ∈ pmTs := pmM_11 (List.mem_of_getElem? (i := 10) rfl)
theorem tw_231 : Cond.instanceMethod y_Room_init ∈ pmTs := pmM_11 (List.mem_of_getElem? (i := 11) rfl)
theorem tw_232 : Cond.code y_Room_init k_Room_init 5 none ∈ pmTs := pmM_11 (List.mem_of_getElem? (i := 12) rfl)
theorem tw_233 : Cond.methodLink R_Room 1 objectInit ∈ pmTs := pmM_11 (List.mem_of_getElem? (i := 13) rfl)
theorem tw_234 : Cond.methodLink R_Room 21 Lib.Math.max.name ∈ pmTs := pmM_11 (List.mem_of_getElem? (i := 14) rfl)
theorem tw_235 : Cond.fieldLink R_Room 7 R_Room "size" "I" ∈ pmTs := pmM_11 (List.mem_of_getElem? (i := 15) rfl)
theorem tw_236 : Cond.fieldLink R_Room 27 R_Room "slots" "I" ∈ pmTs := pmM_11 (List.mem_of_getElem? (i := 16) rfl)
theorem tw_237 : Cond.fieldLink R_Room 30 R_Room "firsts" "[I" ∈ pmTs := pmM_11 (List.mem_of_getElem? (i := 17) rfl)
theorem tw_238 : Cond.fieldLink R_Room 34 R_Room "seconds" "[I" ∈ pmTs := pmM_11 (List.mem_of_getElem? (i := 18) rfl)
theorem tw_239 : Cond.fieldLink R_Room 37 R_Room "thirds" "[I" ∈ pmTs := pmM_11 (List.mem_of_getElem? (i := 19) rfl)
theorem tw_240 : Cond.fieldLink R_Room 40 R_Room "reached" "[Z" ∈ pmTs := pmM_12 (List.mem_of_getElem? (i := 0) rfl)
theorem tw_241 : Cond.fieldLink R_Room 44 R_Room "waiting" "[I" ∈ pmTs := pmM_12 (List.mem_of_getElem? (i := 1) rfl)
theorem tw_242 : Cond.fieldLink R_Room 47 R_Room "free" "[I" ∈ pmTs := pmM_12 (List.mem_of_getElem? (i := 2) rfl)
theorem tw_243 : Cond.fieldLink R_Room 82 R_Room "waitingSize" "I" ∈ pmTs := pmM_12 (List.mem_of_getElem? (i := 3) rfl)
theorem tw_244 : Cond.fieldLink R_Room 50 R_Room "freeSize" "I" ∈ pmTs := pmM_12 (List.mem_of_getElem? (i := 4) rfl)
theorem tw_245 : Cond.fieldLink R_Room 53 R_Room "used" "I" ∈ pmTs := pmM_12 (List.mem_of_getElem? (i := 5) rfl)
theorem tw_246 : Cond.fieldLinkNest R_CL 93 R_Room "used" "I" R_CL ∈ pmTs := pmM_12 (List.mem_of_getElem? (i := 6) rfl)
theorem tw_247 : Cond.fieldLink R_Room 13 R_Room "state" "LCellLisp$State;" ∈ pmTs := pmM_12 (List.mem_of_getElem? (i := 7) rfl)
theorem tw_248 : Cond.fieldLink R_Room 17 R_Room "symbols" "LCellLisp$Symbols;" ∈ pmTs := pmM_12 (List.mem_of_getElem? (i := 8) rfl)
theorem tw_249 : Cond.classLink R_CL 55 R_Machine ∈ pmTs := pmM_12 (List.mem_of_getElem? (i := 9) rfl)
theorem tw_250 : Cond.instantiable R_Machine 7 ∈ pmTs := pmM_12 (List.mem_of_getElem? (i := 10) rfl)
theorem tw_251 : Cond.classLink R_CL 57 R_Reader ∈ pmTs := pmM_12 (List.mem_of_getElem? (i := 11) rfl)
theorem tw_252 : Cond.instantiable R_Reader 9 ∈ pmTs := pmM_12 (List.mem_of_getElem? (i := 12) rfl)
theorem tw_253 : Cond.methodLink R_CL 59 y_Reader_init ∈ pmTs := pmM_12 (List.mem_of_getElem? (i := 13) rfl)
theorem tw_254 : Cond.instanceMethod y_Reader_init ∈ pmTs := pmM_12 (List.mem_of_getElem? (i := 14) rfl)
theorem tw_255 : Cond.code y_Reader_init k_Reader_init 4 none ∈ pmTs := pmM_12 (List.mem_of_getElem? (i := 15) rfl)
theorem tw_256 : Cond.methodLink R_Reader 3 objectInit ∈ pmTs := pmM_12 (List.mem_of_getElem? (i := 16) rfl)
theorem tw_257 : Cond.fieldLink R_Reader 28 R_Reader "text" "LCellLisp$Text;" ∈ pmTs := pmM_12 (List.mem_of_getElem? (i := 17) rfl)
theorem tw_258 : Cond.fieldLink R_Reader 32 R_Reader "symbols" "LCellLisp$Symbols;" ∈ pmTs := pmM_12 (List.mem_of_getElem? (i := 18) rfl)
theorem tw_259 : Cond.fieldLink R_Reader 36 R_Reader "room" "LCellLisp$Room;" ∈ pmTs := pmM_12 (List.mem_of_getElem? (i := 19) rfl)
theorem tw_260 : Cond.fieldLink R_Reader 60 R_Reader "end" "I" ∈ pmTs := pmM_13 (List.mem_of_getElem? (i := 0) rfl)
theorem tw_261 : Cond.fieldLink R_Reader 48 R_Reader "cells" "I" ∈ pmTs := pmM_13 (List.mem_of_getElem? (i := 1) rfl)
theorem tw_262 : Cond.fieldLink R_Reader 11 R_Reader "form" "I" ∈ pmTs := pmM_13 (List.mem_of_getElem? (i := 2) rfl)
theorem tw_263 : Cond.fieldLinkNest R_Machine 62 R_Reader "form" "I" R_CL ∈ pmTs := pmM_13 (List.mem_of_getElem? (i := 3) rfl)
theorem tw_264 : Cond.fieldLink R_Reader 17 R_Reader "heads" "[I" ∈ pmTs := pmM_13 (List.mem_of_getElem? (i := 4) rfl)
theorem tw_265 : Cond.fieldLink R_Reader 21 R_Reader "lasts" "[I" ∈ pmTs := pmM_13 (List.mem_of_getElem? (i := 5) rfl)
theorem tw_266 : Cond.fieldLink R_Reader 24 R_Reader "quotes" "[Z" ∈ pmTs := pmM_13 (List.mem_of_getElem? (i := 6) rfl)
theorem tw_267 : Cond.classLink R_CL 62 R_Printer ∈ pmTs := pmM_13 (List.mem_of_getElem? (i := 7) rfl)
theorem tw_268 : Cond.instantiable R_Printer 3 ∈ pmTs := pmM_13 (List.mem_of_getElem? (i := 8) rfl)
theorem tw_269 : Cond.methodLink R_CL 64 y_Printer_init ∈ pmTs := pmM_13 (List.mem_of_getElem? (i := 9) rfl)
theorem tw_270 : Cond.instanceMethod y_Printer_init ∈ pmTs := pmM_13 (List.mem_of_getElem? (i := 10) rfl)
theorem tw_271 : Cond.code y_Printer_init k_Printer_init 4 none ∈ pmTs := pmM_13 (List.mem_of_getElem? (i := 11) rfl)
theorem tw_272 : Cond.methodLink R_Printer 1 objectInit ∈ pmTs := pmM_13 (List.mem_of_getElem? (i := 12) rfl)
theorem tw_273 : Cond.fieldLink R_Printer 7 R_Printer "output" "LCellLisp$Output;" ∈ pmTs := pmM_13 (List.mem_of_getElem? (i := 13) rfl)
theorem tw_274 : Cond.fieldLink R_Printer 13 R_Printer "symbols" "LCellLisp$Symbols;" ∈ pmTs := pmM_13 (List.mem_of_getElem? (i := 14) rfl)
theorem tw_275 : Cond.fieldLink R_Printer 17 R_Printer "room" "LCellLisp$Room;" ∈ pmTs := pmM_13 (List.mem_of_getElem? (i := 15) rfl)
theorem tw_276 : Cond.methodLink R_CL 67 y_Machine_init ∈ pmTs := pmM_13 (List.mem_of_getElem? (i := 16) rfl)
theorem tw_277 : Cond.instanceMethod y_Machine_init ∈ pmTs := pmM_13 (List.mem_of_getElem? (i := 17) rfl)
theorem tw_278 : Cond.code y_Machine_init k_Machine_init 6 none ∈ pmTs := pmM_13 (List.mem_of_getElem? (i := 18) rfl)
theorem tw_279 : Cond.methodLink R_Machine 3 objectInit ∈ pmTs := pmM_13 (List.mem_of_getElem? (i := 19) rfl)
theorem tw_280 : Cond.fieldLink R_Machine 9 R_Machine "state" "LCellLisp$State;" ∈ pmTs := pmM_14 (List.mem_of_getElem? (i := 0) rfl)
theorem tw_281 : Cond.fieldLink R_Machine 15 R_Machine "room" "LCellLisp$Room;" ∈ pmTs := pmM_14 (List.mem_of_getElem? (i := 1) rfl)
theorem tw_282 : Cond.fieldLink R_Machine 19 R_Machine "symbols" "LCellLisp$Symbols;" ∈ pmTs := pmM_14 (List.mem_of_getElem? (i := 2) rfl)
theorem tw_283 : Cond.fieldLink R_Machine 23 R_Machine "reader" "LCellLisp$Reader;" ∈ pmTs := pmM_14 (List.mem_of_getElem? (i := 3) rfl)
theorem tw_284 : Cond.fieldLink R_Machine 27 R_Machine "printer" "LCellLisp$Printer;" ∈ pmTs := pmM_14 (List.mem_of_getElem? (i := 4) rfl)
theorem tw_285 : Cond.fieldLink R_Machine 31 R_Machine "underWay" "Z" ∈ pmTs := pmM_14 (List.mem_of_getElem? (i := 5) rfl)
theorem tw_286 : Cond.fieldLink R_Machine 39 R_Machine "steps" "I" ∈ pmTs := pmM_14 (List.mem_of_getElem? (i := 6) rfl)
theorem tw_287 : Cond.fieldLinkNest R_CL 103 R_Machine "steps" "I" R_CL ∈ pmTs := pmM_14 (List.mem_of_getElem? (i := 7) rfl)
theorem tw_288 : Cond.fieldLink R_CL 10 R_CL "text" "LCellLisp$Text;" ∈ pmTs := pmM_14 (List.mem_of_getElem? (i := 8) rfl)
theorem tw_289 : Cond.fieldLink R_CL 19 R_CL "output" "LCellLisp$Output;" ∈ pmTs := pmM_14 (List.mem_of_getElem? (i := 9) rfl)
theorem tw_290 : Cond.fieldLink R_CL 26 R_CL "symbols" "LCellLisp$Symbols;" ∈ pmTs := pmM_14 (List.mem_of_getElem? (i := 10) rfl)
theorem tw_291 : Cond.fieldLink R_CL 33 R_CL "state" "LCellLisp$State;" ∈ pmTs := pmM_14 (List.mem_of_getElem? (i := 11) rfl)
theorem tw_292 : Cond.fieldLink R_CL 51 R_CL "room" "LCellLisp$Room;" ∈ pmTs := pmM_14 (List.mem_of_getElem? (i := 12) rfl)
theorem tw_293 : Cond.fieldLink R_CL 70 R_CL "machine" "LCellLisp$Machine;" ∈ pmTs := pmM_14 (List.mem_of_getElem? (i := 13) rfl)
theorem tw_294 : Cond.methodLink R_Law 21 y_CL_feed ∈ pmTs := pmM_14 (List.mem_of_getElem? (i := 14) rfl)
theorem tw_295 : Cond.instanceMethod y_CL_feed ∈ pmTs := pmM_14 (List.mem_of_getElem? (i := 15) rfl)
theorem tw_296 : Cond.selects y_CL_feed.cls y_CL_feed y_CL_feed ∈ pmTs := pmM_14 (List.mem_of_getElem? (i := 16) rfl)
theorem tw_297 : Cond.code y_CL_feed k_CL_feed 3 (some .boolean) ∈ pmTs := pmM_14 (List.mem_of_getElem? (i := 17) rfl)
theorem tw_298 : Cond.methodLink R_CL 74 y_Text_append ∈ pmTs := pmM_14 (List.mem_of_getElem? (i := 18) rfl)
theorem tw_299 : Cond.instanceMethod y_Text_append ∈ pmTs := pmM_14 (List.mem_of_getElem? (i := 19) rfl)
theorem tw_300 : Cond.selects y_Text_append.cls y_Text_append y_Text_append ∈ pmTs := pmM_15 (List.mem_of_getElem? (i := 0) rfl)
theorem tw_301 : Cond.code y_Text_append k_Text_append 4 (some .boolean) ∈ pmTs := pmM_15 (List.mem_of_getElem? (i := 1) rfl)
theorem tw_302 : Cond.methodLink R_Text 17 y_Text_isCharacter ∈ pmTs := pmM_15 (List.mem_of_getElem? (i := 2) rfl)
theorem tw_303 : Cond.static y_Text_isCharacter ∈ pmTs := pmM_15 (List.mem_of_getElem? (i := 3) rfl)
theorem tw_304 : Cond.code y_Text_isCharacter k_Text_isCharacter 1 (some .boolean) ∈ pmTs := pmM_15 (List.mem_of_getElem? (i := 4) rfl)
theorem tw_305 : Cond.methodLink R_Law 26 y_CL_run ∈ pmTs := pmM_15 (List.mem_of_getElem? (i := 5) rfl)
theorem tw_306 : Cond.instanceMethod y_CL_run ∈ pmTs := pmM_15 (List.mem_of_getElem? (i := 6) rfl)
theorem tw_307 : Cond.selects y_CL_run.cls y_CL_run y_CL_run ∈ pmTs := pmM_15 (List.mem_of_getElem? (i := 7) rfl)
theorem tw_308 : Cond.code y_CL_run k_CL_run 5 (some .int) ∈ pmTs := pmM_15 (List.mem_of_getElem? (i := 8) rfl)
theorem tw_309 : Cond.methodLink R_CL 78 y_Machine_step ∈ pmTs := pmM_15 (List.mem_of_getElem? (i := 9) rfl)
theorem tw_310 : Cond.instanceMethod y_Machine_step ∈ pmTs := pmM_15 (List.mem_of_getElem? (i := 10) rfl)
theorem tw_311 : Cond.selects y_Machine_step.cls y_Machine_step y_Machine_step ∈ pmTs := pmM_15 (List.mem_of_getElem? (i := 11) rfl)
theorem tw_312 : Cond.code y_Machine_step k_Machine_step 2 (some .int) ∈ pmTs := pmM_15 (List.mem_of_getElem? (i := 12) rfl)
theorem tw_313 : Cond.methodLink R_Machine 35 y_Machine_begin ∈ pmTs := pmM_15 (List.mem_of_getElem? (i := 13) rfl)
theorem tw_314 : Cond.instanceMethod y_Machine_begin ∈ pmTs := pmM_15 (List.mem_of_getElem? (i := 14) rfl)
theorem tw_315 : Cond.code y_Machine_begin k_Machine_begin 2 (some .int) ∈ pmTs := pmM_15 (List.mem_of_getElem? (i := 15) rfl)
theorem tw_316 : Cond.methodLink R_Machine 57 y_Reader_read ∈ pmTs := pmM_15 (List.mem_of_getElem? (i := 16) rfl)
theorem tw_317 : Cond.instanceMethod y_Reader_read ∈ pmTs := pmM_15 (List.mem_of_getElem? (i := 17) rfl)
theorem tw_318 : Cond.selects y_Reader_read.cls y_Reader_read y_Reader_read ∈ pmTs := pmM_15 (List.mem_of_getElem? (i := 18) rfl)
theorem tw_319 : Cond.code y_Reader_read k_Reader_read 2 (some .int) ∈ pmTs := pmM_15 (List.mem_of_getElem? (i := 19) rfl)
theorem tw_320 : Cond.methodLink R_Reader 40 y_Reader_findForm ∈ pmTs := pmM_16 (List.mem_of_getElem? (i := 0) rfl)
theorem tw_321 : Cond.instanceMethod y_Reader_findForm ∈ pmTs := pmM_16 (List.mem_of_getElem? (i := 1) rfl)
theorem tw_322 : Cond.code y_Reader_findForm k_Reader_findForm 6 (some .int) ∈ pmTs := pmM_16 (List.mem_of_getElem? (i := 2) rfl)
theorem tw_323 : Cond.methodLink R_Reader 72 y_Text_at ∈ pmTs := pmM_16 (List.mem_of_getElem? (i := 3) rfl)
theorem tw_324 : Cond.instanceMethod y_Text_at ∈ pmTs := pmM_16 (List.mem_of_getElem? (i := 4) rfl)
theorem tw_325 : Cond.selects y_Text_at.cls y_Text_at y_Text_at ∈ pmTs := pmM_16 (List.mem_of_getElem? (i := 5) rfl)
theorem tw_326 : Cond.code y_Text_at k_Text_at 2 (some .char) ∈ pmTs := pmM_16 (List.mem_of_getElem? (i := 6) rfl)
theorem tw_327 : Cond.methodLink R_Reader 76 y_Text_pieceEnd ∈ pmTs := pmM_16 (List.mem_of_getElem? (i := 7) rfl)
theorem tw_328 : Cond.instanceMethod y_Text_pieceEnd ∈ pmTs := pmM_16 (List.mem_of_getElem? (i := 8) rfl)
theorem tw_329 : Cond.selects y_Text_pieceEnd.cls y_Text_pieceEnd y_Text_pieceEnd ∈ pmTs := pmM_16 (List.mem_of_getElem? (i := 9) rfl)
theorem tw_330 : Cond.code y_Text_pieceEnd k_Text_pieceEnd 3 (some .int) ∈ pmTs := pmM_16 (List.mem_of_getElem? (i := 10) rfl)
theorem tw_331 : Cond.methodLink R_Text 30 y_Text_at ∈ pmTs := pmM_16 (List.mem_of_getElem? (i := 11) rfl)
theorem tw_332 : Cond.methodLink R_Text 34 y_Text_isOfWord ∈ pmTs := pmM_16 (List.mem_of_getElem? (i := 12) rfl)
theorem tw_333 : Cond.static y_Text_isOfWord ∈ pmTs := pmM_16 (List.mem_of_getElem? (i := 13) rfl)
theorem tw_334 : Cond.code y_Text_isOfWord k_Text_isOfWord 1 (some .boolean) ∈ pmTs := pmM_16 (List.mem_of_getElem? (i := 14) rfl)
theorem tw_335 : Cond.methodLink R_Text 38 y_Text_isBlank ∈ pmTs := pmM_16 (List.mem_of_getElem? (i := 15) rfl)
theorem tw_336 : Cond.static y_Text_isBlank ∈ pmTs := pmM_16 (List.mem_of_getElem? (i := 16) rfl)
theorem tw_337 : Cond.code y_Text_isBlank k_Text_isBlank 1 (some .boolean) ∈ pmTs := pmM_16 (List.mem_of_getElem? (i := 17) rfl)
theorem tw_338 : Cond.methodLink R_Reader 80 y_Text_isBlank ∈ pmTs := pmM_16 (List.mem_of_getElem? (i := 18) rfl)
theorem tw_339 : Cond.methodLink R_Reader 84 y_Reader_isFault ∈ pmTs := pmM_16 (List.mem_of_getElem? (i := 19) rfl)
theorem tw_340 : Cond.static y_Reader_isFault ∈ pmTs := pmM_17 (List.mem_of_getElem? (i := 0) rfl)
theorem tw_341 : Cond.code y_Reader_isFault k_Reader_isFault 3 (some .boolean) ∈ pmTs := pmM_17 (List.mem_of_getElem? (i := 1) rfl)
theorem tw_342 : Cond.methodLink R_Reader 88 y_Reader_cellsOfPiece ∈ pmTs := pmM_17 (List.mem_of_getElem? (i := 2) rfl)
theorem tw_343 : Cond.static y_Reader_cellsOfPiece ∈ pmTs := pmM_17 (List.mem_of_getElem? (i := 3) rfl)
theorem tw_344 : Cond.code y_Reader_cellsOfPiece k_Reader_cellsOfPiece 4 (some .int) ∈ pmTs := pmM_17 (List.mem_of_getElem? (i := 4) rfl)
theorem tw_345 : Cond.methodLink R_Reader 44 y_Reader_learnSymbols ∈ pmTs := pmM_17 (List.mem_of_getElem? (i := 5) rfl)
theorem tw_346 : Cond.instanceMethod y_Reader_learnSymbols ∈ pmTs := pmM_17 (List.mem_of_getElem? (i := 6) rfl)
theorem tw_347 : Cond.code y_Reader_learnSymbols k_Reader_learnSymbols 4 (some .boolean) ∈ pmTs := pmM_17 (List.mem_of_getElem? (i := 7) rfl)
theorem tw_348 : Cond.methodLink R_Reader 92 y_Reader_isSymbol ∈ pmTs := pmM_17 (List.mem_of_getElem? (i := 8) rfl)
theorem tw_349 : Cond.instanceMethod y_Reader_isSymbol ∈ pmTs := pmM_17 (List.mem_of_getElem? (i := 9) rfl)
theorem tw_350 : Cond.code y_Reader_isSymbol k_Reader_isSymbol 3 (some .boolean) ∈ pmTs := pmM_17 (List.mem_of_getElem? (i := 10) rfl)
theorem tw_351 : Cond.methodLinkNest R_Reader 106 y_Text_isOfWord R_CL ∈ pmTs := pmM_17 (List.mem_of_getElem? (i := 11) rfl)
theorem tw_352 : Cond.methodLink R_Reader 109 y_Text_isNumber ∈ pmTs := pmM_17 (List.mem_of_getElem? (i := 12) rfl)
theorem tw_353 : Cond.instanceMethod y_Text_isNumber ∈ pmTs := pmM_17 (List.mem_of_getElem? (i := 13) rfl)
theorem tw_354 : Cond.selects y_Text_isNumber.cls y_Text_isNumber y_Text_isNumber ∈ pmTs := pmM_17 (List.mem_of_getElem? (i := 14) rfl)
theorem tw_355 : Cond.code y_Text_isNumber k_Text_isNumber 5 (some .boolean) ∈ pmTs := pmM_17 (List.mem_of_getElem? (i := 15) rfl)
theorem tw_356 : Cond.methodLink R_Reader 96 y_Text_name ∈ pmTs := pmM_17 (List.mem_of_getElem? (i := 16) rfl)
theorem tw_357 : Cond.instanceMethod y_Text_name ∈ pmTs := pmM_17 (List.mem_of_getElem? (i := 17) rfl)
theorem tw_358 : Cond.selects y_Text_name.cls y_Text_name y_Text_name ∈ pmTs := pmM_17 (List.mem_of_getElem? (i := 18) rfl)
theorem tw_359 : Cond.code y_Text_name k_Text_name 6 (some .long) ∈ pmTs := pmM_17 (List.mem_of_getElem? (i := 19) rfl)
theorem tw_360 : Cond.constantLong R_Reader 112 (7235948) ∈ pmTs := pmM_18 (List.mem_of_getElem? (i := 0) rfl)
theorem tw_361 : Cond.methodLink R_Reader 100 y_Symbols_learn ∈ pmTs := pmM_18 (List.mem_of_getElem? (i := 1) rfl)
theorem tw_362 : Cond.methodLink R_Reader 51 y_Room_hasFor ∈ pmTs := pmM_18 (List.mem_of_getElem? (i := 2) rfl)
theorem tw_363 : Cond.instanceMethod y_Room_hasFor ∈ pmTs := pmM_18 (List.mem_of_getElem? (i := 3) rfl)
theorem tw_364 : Cond.selects y_Room_hasFor.cls y_Room_hasFor y_Room_hasFor ∈ pmTs := pmM_18 (List.mem_of_getElem? (i := 4) rfl)
theorem tw_365 : Cond.code y_Room_hasFor k_Room_hasFor 2 (some .boolean) ∈ pmTs := pmM_18 (List.mem_of_getElem? (i := 5) rfl)
theorem tw_366 : Cond.methodLink R_Room 56 y_Room_collect ∈ pmTs := pmM_18 (List.mem_of_getElem? (i := 6) rfl)
theorem tw_367 : Cond.instanceMethod y_Room_collect ∈ pmTs := pmM_18 (List.mem_of_getElem? (i := 7) rfl)
theorem tw_368 : Cond.selects y_Room_collect.cls y_Room_collect y_Room_collect ∈ pmTs := pmM_18 (List.mem_of_getElem? (i := 8) rfl)
theorem tw_369 : Cond.code y_Room_collect k_Room_collect 3 none ∈ pmTs := pmM_18 (List.mem_of_getElem? (i := 9) rfl)
theorem tw_370 : Cond.methodLink R_Room 90 y_Room_reach ∈ pmTs := pmM_18 (List.mem_of_getElem? (i := 10) rfl)
theorem tw_371 : Cond.instanceMethod y_Room_reach ∈ pmTs := pmM_18 (List.mem_of_getElem? (i := 11) rfl)
theorem tw_372 : Cond.code y_Room_reach k_Room_reach 5 none ∈ pmTs := pmM_18 (List.mem_of_getElem? (i := 12) rfl)
theorem tw_373 : Cond.methodLink R_Room 120 y_Value_kind ∈ pmTs := pmM_18 (List.mem_of_getElem? (i := 13) rfl)
theorem tw_374 : Cond.static y_Value_kind ∈ pmTs := pmM_18 (List.mem_of_getElem? (i := 14) rfl)
theorem tw_375 : Cond.code y_Value_kind k_Value_kind 1 (some .int) ∈ pmTs := pmM_18 (List.mem_of_getElem? (i := 15) rfl)
theorem tw_376 : Cond.methodLink R_Room 69 y_Value_content ∈ pmTs := pmM_18 (List.mem_of_getElem? (i := 16) rfl)
theorem tw_377 : Cond.static y_Value_content ∈ pmTs := pmM_18 (List.mem_of_getElem? (i := 17) rfl)
theorem tw_378 : Cond.code y_Value_content k_Value_content 1 (some .int) ∈ pmTs := pmM_18 (List.mem_of_getElem? (i := 18) rfl)
theorem tw_379 : Cond.methodLink R_Room 117 y_Room_freeUnreached ∈ pmTs := pmM_18 (List.mem_of_getElem? (i := 19) rfl)
theorem tw_380 : Cond.instanceMethod y_Room_freeUnreached ∈ pmTs := pmM_19 (List.mem_of_getElem? (i := 0) rfl)
theorem tw_381 : Cond.code y_Room_freeUnreached k_Room_freeUnreached 2 none ∈ pmTs := pmM_19 (List.mem_of_getElem? (i := 1) rfl)
theorem tw_382 : Cond.methodLink R_Reader 57 y_Reader_build ∈ pmTs := pmM_19 (List.mem_of_getElem? (i := 2) rfl)
theorem tw_383 : Cond.instanceMethod y_Reader_build ∈ pmTs := pmM_19 (List.mem_of_getElem? (i := 3) rfl)
theorem tw_384 : Cond.code y_Reader_build k_Reader_build 7 none ∈ pmTs := pmM_19 (List.mem_of_getElem? (i := 4) rfl)
theorem tw_385 : Cond.methodLink R_Reader 114 y_Reader_place ∈ pmTs := pmM_19 (List.mem_of_getElem? (i := 5) rfl)
theorem tw_386 : Cond.instanceMethod y_Reader_place ∈ pmTs := pmM_19 (List.mem_of_getElem? (i := 6) rfl)
theorem tw_387 : Cond.code y_Reader_place k_Reader_place 6 none ∈ pmTs := pmM_19 (List.mem_of_getElem? (i := 7) rfl)
theorem tw_388 : Cond.methodLink R_Reader 125 y_Value_of ∈ pmTs := pmM_19 (List.mem_of_getElem? (i := 8) rfl)
theorem tw_389 : Cond.methodLink R_Reader 132 y_Room_pair ∈ pmTs := pmM_19 (List.mem_of_getElem? (i := 9) rfl)
theorem tw_390 : Cond.instanceMethod y_Room_pair ∈ pmTs := pmM_19 (List.mem_of_getElem? (i := 10) rfl)
theorem tw_391 : Cond.selects y_Room_pair.cls y_Room_pair y_Room_pair ∈ pmTs := pmM_19 (List.mem_of_getElem? (i := 11) rfl)
theorem tw_392 : Cond.code y_Room_pair k_Room_pair 3 (some .int) ∈ pmTs := pmM_19 (List.mem_of_getElem? (i := 12) rfl)
theorem tw_393 : Cond.methodLink R_Room 61 y_Room_make ∈ pmTs := pmM_19 (List.mem_of_getElem? (i := 13) rfl)
theorem tw_394 : Cond.instanceMethod y_Room_make ∈ pmTs := pmM_19 (List.mem_of_getElem? (i := 14) rfl)
theorem tw_395 : Cond.code y_Room_make k_Room_make 6 (some .int) ∈ pmTs := pmM_19 (List.mem_of_getElem? (i := 15) rfl)
theorem tw_396 : Cond.methodLink R_Reader 135 y_Room_setSecond ∈ pmTs := pmM_19 (List.mem_of_getElem? (i := 16) rfl)
theorem tw_397 : Cond.instanceMethod y_Room_setSecond ∈ pmTs := pmM_19 (List.mem_of_getElem? (i := 17) rfl)
theorem tw_398 : Cond.selects y_Room_setSecond.cls y_Room_setSecond y_Room_setSecond ∈ pmTs := pmM_19 (List.mem_of_getElem? (i := 18) rfl)
theorem tw_399 : Cond.code y_Room_setSecond k_Room_setSecond 3 none ∈ pmTs := pmM_19 (List.mem_of_getElem? (i := 19) rfl)
theorem tw_400 : Cond.methodLink R_Room 65 y_Room_isHere ∈ pmTs := pmM_20 (List.mem_of_getElem? (i := 0) rfl)
theorem tw_401 : Cond.instanceMethod y_Room_isHere ∈ pmTs := pmM_20 (List.mem_of_getElem? (i := 1) rfl)
theorem tw_402 : Cond.code y_Room_isHere k_Room_isHere 4 (some .boolean) ∈ pmTs := pmM_20 (List.mem_of_getElem? (i := 2) rfl)
theorem tw_403 : Cond.methodLink R_Reader 118 y_Reader_wordValue ∈ pmTs := pmM_20 (List.mem_of_getElem? (i := 3) rfl)
theorem tw_404 : Cond.instanceMethod y_Reader_wordValue ∈ pmTs := pmM_20 (List.mem_of_getElem? (i := 4) rfl)
theorem tw_405 : Cond.code y_Reader_wordValue k_Reader_wordValue 4 (some .int) ∈ pmTs := pmM_20 (List.mem_of_getElem? (i := 5) rfl)
theorem tw_406 : Cond.methodLink R_Reader 122 y_Text_number ∈ pmTs := pmM_20 (List.mem_of_getElem? (i := 6) rfl)
theorem tw_407 : Cond.instanceMethod y_Text_number ∈ pmTs := pmM_20 (List.mem_of_getElem? (i := 7) rfl)
theorem tw_408 : Cond.selects y_Text_number.cls y_Text_number y_Text_number ∈ pmTs := pmM_20 (List.mem_of_getElem? (i := 8) rfl)
theorem tw_409 : Cond.code y_Text_number k_Text_number 6 (some .int) ∈ pmTs := pmM_20 (List.mem_of_getElem? (i := 9) rfl)
theorem tw_410 : Cond.methodLink R_Reader 128 y_Symbols_find ∈ pmTs := pmM_20 (List.mem_of_getElem? (i := 10) rfl)
theorem tw_411 : Cond.methodLink R_Reader 63 y_Text_drop ∈ pmTs := pmM_20 (List.mem_of_getElem? (i := 11) rfl)
theorem tw_412 : Cond.instanceMethod y_Text_drop ∈ pmTs := pmM_20 (List.mem_of_getElem? (i := 12) rfl)
theorem tw_413 : Cond.selects y_Text_drop.cls y_Text_drop y_Text_drop ∈ pmTs := pmM_20 (List.mem_of_getElem? (i := 13) rfl)
theorem tw_414 : Cond.code y_Text_drop k_Text_drop 4 none ∈ pmTs := pmM_20 (List.mem_of_getElem? (i := 14) rfl)
theorem tw_415 : Cond.methodLink R_Text 21 Lib.Math.min.name ∈ pmTs := pmM_20 (List.mem_of_getElem? (i := 15) rfl)
theorem tw_416 : Cond.methodLink R_Text 27 Lib.Math.max.name ∈ pmTs := pmM_20 (List.mem_of_getElem? (i := 16) rfl)
theorem tw_417 : Cond.methodLink R_Machine 67 y_Machine_evaluateNext ∈ pmTs := pmM_20 (List.mem_of_getElem? (i := 17) rfl)
theorem tw_418 : Cond.instanceMethod y_Machine_evaluateNext ∈ pmTs := pmM_20 (List.mem_of_getElem? (i := 18) rfl)
theorem tw_419 : Cond.code y_Machine_evaluateNext k_Machine_evaluateNext 3 (some .int) ∈ pmTs := pmM_20 (List.mem_of_getElem? (i := 19) rfl)
theorem tw_420 : Cond.methodLink R_Machine 48 y_Machine_evaluate ∈ pmTs := pmM_21 (List.mem_of_getElem? (i := 0) rfl)
theorem tw_421 : Cond.instanceMethod y_Machine_evaluate ∈ pmTs := pmM_21 (List.mem_of_getElem? (i := 1) rfl)
theorem tw_422 : Cond.code y_Machine_evaluate k_Machine_evaluate 2 (some .int) ∈ pmTs := pmM_21 (List.mem_of_getElem? (i := 2) rfl)
theorem tw_423 : Cond.methodLink R_Machine 80 y_Value_isSymbol ∈ pmTs := pmM_21 (List.mem_of_getElem? (i := 3) rfl)
theorem tw_424 : Cond.static y_Value_isSymbol ∈ pmTs := pmM_21 (List.mem_of_getElem? (i := 4) rfl)
theorem tw_425 : Cond.code y_Value_isSymbol k_Value_isSymbol 1 (some .boolean) ∈ pmTs := pmM_21 (List.mem_of_getElem? (i := 5) rfl)
theorem tw_426 : Cond.methodLink R_Value 9 y_Value_kind ∈ pmTs := pmM_21 (List.mem_of_getElem? (i := 6) rfl)
theorem tw_427 : Cond.methodLink R_Machine 84 y_Machine_evaluateSymbol ∈ pmTs := pmM_21 (List.mem_of_getElem? (i := 7) rfl)
theorem tw_428 : Cond.instanceMethod y_Machine_evaluateSymbol ∈ pmTs := pmM_21 (List.mem_of_getElem? (i := 8) rfl)
theorem tw_429 : Cond.code y_Machine_evaluateSymbol k_Machine_evaluateSymbol 3 (some .int) ∈ pmTs := pmM_21 (List.mem_of_getElem? (i := 9) rfl)
theorem tw_430 : Cond.methodLink R_Machine 121 y_Room_binding ∈ pmTs := pmM_21 (List.mem_of_getElem? (i := 10) rfl)
theorem tw_431 : Cond.instanceMethod y_Room_binding ∈ pmTs := pmM_21 (List.mem_of_getElem? (i := 11) rfl)
theorem tw_432 : Cond.selects y_Room_binding.cls y_Room_binding y_Room_binding ∈ pmTs := pmM_21 (List.mem_of_getElem? (i := 12) rfl)
theorem tw_433 : Cond.code y_Room_binding k_Room_binding 5 (some .int) ∈ pmTs := pmM_21 (List.mem_of_getElem? (i := 13) rfl)
theorem tw_434 : Cond.methodLink R_Room 73 y_Value_isPair ∈ pmTs := pmM_21 (List.mem_of_getElem? (i := 14) rfl)
theorem tw_435 : Cond.static y_Value_isPair ∈ pmTs := pmM_21 (List.mem_of_getElem? (i := 15) rfl)
theorem tw_436 : Cond.code y_Value_isPair k_Value_isPair 1 (some .boolean) ∈ pmTs := pmM_21 (List.mem_of_getElem? (i := 16) rfl)
theorem tw_437 : Cond.methodLink R_Room 79 y_Room_first ∈ pmTs := pmM_21 (List.mem_of_getElem? (i := 17) rfl)
theorem tw_438 : Cond.instanceMethod y_Room_first ∈ pmTs := pmM_21 (List.mem_of_getElem? (i := 18) rfl)
theorem tw_439 : Cond.selects y_Room_first.cls y_Room_first y_Room_first ∈ pmTs := pmM_21 (List.mem_of_getElem? (i := 19) rfl)
theorem tw_440 : Cond.code y_Room_first k_Room_first 2 (some .int) ∈ pmTs := pmM_22 (List.mem_of_getElem? (i := 0) rfl)
theorem tw_441 : Cond.methodLink R_Room 76 y_Room_second ∈ pmTs := pmM_22 (List.mem_of_getElem? (i := 1) rfl)
theorem tw_442 : Cond.instanceMethod y_Room_second ∈ pmTs := pmM_22 (List.mem_of_getElem? (i := 2) rfl)
theorem tw_443 : Cond.selects y_Room_second.cls y_Room_second y_Room_second ∈ pmTs := pmM_22 (List.mem_of_getElem? (i := 3) rfl)
theorem tw_444 : Cond.code y_Room_second k_Room_second 2 (some .int) ∈ pmTs := pmM_22 (List.mem_of_getElem? (i := 4) rfl)
theorem tw_445 : Cond.methodLink R_Machine 114 y_Room_second ∈ pmTs := pmM_22 (List.mem_of_getElem? (i := 5) rfl)
theorem tw_446 : Cond.methodLink R_Machine 90 y_Machine_returnNext ∈ pmTs := pmM_22 (List.mem_of_getElem? (i := 6) rfl)
theorem tw_447 : Cond.instanceMethod y_Machine_returnNext ∈ pmTs := pmM_22 (List.mem_of_getElem? (i := 7) rfl)
theorem tw_448 : Cond.code y_Machine_returnNext k_Machine_returnNext 2 (some .int) ∈ pmTs := pmM_22 (List.mem_of_getElem? (i := 8) rfl)
theorem tw_449 : Cond.methodLink R_Machine 99 y_Value_content ∈ pmTs := pmM_22 (List.mem_of_getElem? (i := 9) rfl)
theorem tw_450 : Cond.methodLink R_Machine 124 y_Symbols_global ∈ pmTs := pmM_22 (List.mem_of_getElem? (i := 10) rfl)
theorem tw_451 : Cond.instanceMethod y_Symbols_global ∈ pmTs := pmM_22 (List.mem_of_getElem? (i := 11) rfl)
theorem tw_452 : Cond.selects y_Symbols_global.cls y_Symbols_global y_Symbols_global ∈ pmTs := pmM_22 (List.mem_of_getElem? (i := 12) rfl)
theorem tw_453 : Cond.code y_Symbols_global k_Symbols_global 2 (some .int) ∈ pmTs := pmM_22 (List.mem_of_getElem? (i := 13) rfl)
theorem tw_454 : Cond.methodLink R_Machine 87 y_Value_isPair ∈ pmTs := pmM_22 (List.mem_of_getElem? (i := 14) rfl)
theorem tw_455 : Cond.methodLink R_Machine 94 y_Room_first ∈ pmTs := pmM_22 (List.mem_of_getElem? (i := 15) rfl)
theorem tw_456 : Cond.methodLink R_Machine 102 y_Machine_evaluateQuote ∈ pmTs := pmM_22 (List.mem_of_getElem? (i := 16) rfl)
theorem tw_457 : Cond.instanceMethod y_Machine_evaluateQuote ∈ pmTs := pmM_22 (List.mem_of_getElem? (i := 17) rfl)
theorem tw_458 : Cond.code y_Machine_evaluateQuote k_Machine_evaluateQuote 1 (some .int) ∈ pmTs := pmM_22 (List.mem_of_getElem? (i := 18) rfl)
theorem tw_459 : Cond.methodLink R_Machine 136 y_Room_length ∈ pmTs := pmM_22 (List.mem_of_getElem? (i := 19) rfl)
theorem tw_460 : Cond.instanceMethod y_Room_length ∈ pmTs := pmM_23 (List.mem_of_getElem? (i := 0) rfl)
theorem tw_461 : Cond.selects y_Room_length.cls y_Room_length y_Room_length ∈ pmTs := pmM_23 (List.mem_of_getElem? (i := 1) rfl)
theorem tw_462 : Cond.code y_Room_length k_Room_length 4 (some .int) ∈ pmTs := pmM_23 (List.mem_of_getElem? (i := 2) rfl)
theorem tw_463 : Cond.methodLink R_Machine 139 y_Machine_part ∈ pmTs := pmM_23 (List.mem_of_getElem? (i := 3) rfl)
theorem tw_464 : Cond.instanceMethod y_Machine_part ∈ pmTs := pmM_23 (List.mem_of_getElem? (i := 4) rfl)
theorem tw_465 : Cond.code y_Machine_part k_Machine_part 2 (some .int) ∈ pmTs := pmM_23 (List.mem_of_getElem? (i := 5) rfl)
theorem tw_466 : Cond.methodLink R_Machine 133 y_Room_tail ∈ pmTs := pmM_23 (List.mem_of_getElem? (i := 6) rfl)
theorem tw_467 : Cond.instanceMethod y_Room_tail ∈ pmTs := pmM_23 (List.mem_of_getElem? (i := 7) rfl)
theorem tw_468 : Cond.selects y_Room_tail.cls y_Room_tail y_Room_tail ∈ pmTs := pmM_23 (List.mem_of_getElem? (i := 8) rfl)
theorem tw_469 : Cond.code y_Room_tail k_Room_tail 5 (some .int) ∈ pmTs := pmM_23 (List.mem_of_getElem? (i := 9) rfl)
theorem tw_470 : Cond.methodLink R_Machine 105 y_Machine_evaluateIf ∈ pmTs := pmM_23 (List.mem_of_getElem? (i := 10) rfl)
theorem tw_471 : Cond.instanceMethod y_Machine_evaluateIf ∈ pmTs := pmM_23 (List.mem_of_getElem? (i := 11) rfl)
theorem tw_472 : Cond.code y_Machine_evaluateIf k_Machine_evaluateIf 2 (some .int) ∈ pmTs := pmM_23 (List.mem_of_getElem? (i := 12) rfl)
theorem tw_473 : Cond.methodLink R_Machine 117 y_Machine_evaluateUnder ∈ pmTs := pmM_23 (List.mem_of_getElem? (i := 13) rfl)
theorem tw_474 : Cond.instanceMethod y_Machine_evaluateUnder ∈ pmTs := pmM_23 (List.mem_of_getElem? (i := 14) rfl)
theorem tw_475 : Cond.code y_Machine_evaluateUnder k_Machine_evaluateUnder 5 (some .int) ∈ pmTs := pmM_23 (List.mem_of_getElem? (i := 15) rfl)
theorem tw_476 : Cond.methodLink R_Machine 129 y_State_push ∈ pmTs := pmM_23 (List.mem_of_getElem? (i := 16) rfl)
theorem tw_477 : Cond.instanceMethod y_State_push ∈ pmTs := pmM_23 (List.mem_of_getElem? (i := 17) rfl)
theorem tw_478 : Cond.selects y_State_push.cls y_State_push y_State_push ∈ pmTs := pmM_23 (List.mem_of_getElem? (i := 18) rfl)
theorem tw_479 : Cond.code y_State_push k_State_push 4 (some .boolean) ∈ pmTs := pmM_23 (List.mem_of_getElem? (i := 19) rfl)
theorem tw_480 : Cond.methodLink R_Machine 108 y_Machine_evaluateLambda ∈ pmTs := pmM_24 (List.mem_of_getElem? (i := 0) rfl)
theorem tw_481 : Cond.instanceMethod y_Machine_evaluateLambda ∈ pmTs := pmM_24 (List.mem_of_getElem? (i := 1) rfl)
theorem tw_482 : Cond.code y_Machine_evaluateLambda k_Machine_evaluateLambda 1 (some .int) ∈ pmTs := pmM_24 (List.mem_of_getElem? (i := 2) rfl)
theorem tw_483 : Cond.methodLink R_Machine 142 y_Machine_areParameters ∈ pmTs := pmM_24 (List.mem_of_getElem? (i := 3) rfl)
theorem tw_484 : Cond.instanceMethod y_Machine_areParameters ∈ pmTs := pmM_24 (List.mem_of_getElem? (i := 4) rfl)
theorem tw_485 : Cond.code y_Machine_areParameters k_Machine_areParameters 4 (some .boolean) ∈ pmTs := pmM_24 (List.mem_of_getElem? (i := 5) rfl)
theorem tw_486 : Cond.methodLink R_Machine 145 y_Room_hasFor ∈ pmTs := pmM_24 (List.mem_of_getElem? (i := 6) rfl)
theorem tw_487 : Cond.methodLink R_Machine 148 y_Room_closure ∈ pmTs := pmM_24 (List.mem_of_getElem? (i := 7) rfl)
theorem tw_488 : Cond.instanceMethod y_Room_closure ∈ pmTs := pmM_24 (List.mem_of_getElem? (i := 8) rfl)
theorem tw_489 : Cond.selects y_Room_closure.cls y_Room_closure y_Room_closure ∈ pmTs := pmM_24 (List.mem_of_getElem? (i := 9) rfl)
theorem tw_490 : Cond.code y_Room_closure k_Room_closure 4 (some .int) ∈ pmTs := pmM_24 (List.mem_of_getElem? (i := 10) rfl)
theorem tw_491 : Cond.methodLink R_Machine 111 y_Machine_evaluateNaming ∈ pmTs := pmM_24 (List.mem_of_getElem? (i := 11) rfl)
theorem tw_492 : Cond.instanceMethod y_Machine_evaluateNaming ∈ pmTs := pmM_24 (List.mem_of_getElem? (i := 12) rfl)
theorem tw_493 : Cond.code y_Machine_evaluateNaming k_Machine_evaluateNaming 3 (some .int) ∈ pmTs := pmM_24 (List.mem_of_getElem? (i := 13) rfl)
theorem tw_494 : Cond.methodLink R_Machine 51 y_Machine_giveBack ∈ pmTs := pmM_24 (List.mem_of_getElem? (i := 14) rfl)
theorem tw_495 : Cond.instanceMethod y_Machine_giveBack ∈ pmTs := pmM_24 (List.mem_of_getElem? (i := 15) rfl)
theorem tw_496 : Cond.code y_Machine_giveBack k_Machine_giveBack 1 (some .int) ∈ pmTs := pmM_24 (List.mem_of_getElem? (i := 16) rfl)
theorem tw_497 : Cond.methodLink R_Machine 152 y_State_kind ∈ pmTs := pmM_24 (List.mem_of_getElem? (i := 17) rfl)
theorem tw_498 : Cond.instanceMethod y_State_kind ∈ pmTs := pmM_24 (List.mem_of_getElem? (i := 18) rfl)
theorem tw_499 : Cond.selects y_State_kind.cls y_State_kind y_State_kind ∈ pmTs := pmM_24 (List.mem_of_getElem? (i := 19) rfl)
theorem tw_500 : Cond.code y_State_kind k_State_kind 1 (some .int) ∈ pmTs := pmM_25 (List.mem_of_getElem? (i := 0) rfl)
theorem tw_501 : Cond.methodLink R_State 34 y_State_hasTop ∈ pmTs := pmM_25 (List.mem_of_getElem? (i := 1) rfl)
theorem tw_502 : Cond.instanceMethod y_State_hasTop ∈ pmTs := pmM_25 (List.mem_of_getElem? (i := 2) rfl)
theorem tw_503 : Cond.code y_State_hasTop k_State_hasTop 1 (some .boolean) ∈ pmTs := pmM_25 (List.mem_of_getElem? (i := 3) rfl)
theorem tw_504 : Cond.methodLink R_Machine 155 y_Machine_choose ∈ pmTs := pmM_25 (List.mem_of_getElem? (i := 4) rfl)
theorem tw_505 : Cond.instanceMethod y_Machine_choose ∈ pmTs := pmM_25 (List.mem_of_getElem? (i := 5) rfl)
theorem tw_506 : Cond.code y_Machine_choose k_Machine_choose 3 (some .int) ∈ pmTs := pmM_25 (List.mem_of_getElem? (i := 6) rfl)
theorem tw_507 : Cond.methodLink R_Machine 168 y_State_a ∈ pmTs := pmM_25 (List.mem_of_getElem? (i := 7) rfl)
theorem tw_508 : Cond.instanceMethod y_State_a ∈ pmTs := pmM_25 (List.mem_of_getElem? (i := 8) rfl)
theorem tw_509 : Cond.selects y_State_a.cls y_State_a y_State_a ∈ pmTs := pmM_25 (List.mem_of_getElem? (i := 9) rfl)
theorem tw_510 : Cond.code y_State_a k_State_a 1 (some .int) ∈ pmTs := pmM_25 (List.mem_of_getElem? (i := 10) rfl)
theorem tw_511 : Cond.methodLink R_Machine 183 y_State_b ∈ pmTs := pmM_25 (List.mem_of_getElem? (i := 11) rfl)
theorem tw_512 : Cond.instanceMethod y_State_b ∈ pmTs := pmM_25 (List.mem_of_getElem? (i := 12) rfl)
theorem tw_513 : Cond.selects y_State_b.cls y_State_b y_State_b ∈ pmTs := pmM_25 (List.mem_of_getElem? (i := 13) rfl)
theorem tw_514 : Cond.code y_State_b k_State_b 1 (some .int) ∈ pmTs := pmM_25 (List.mem_of_getElem? (i := 14) rfl)
theorem tw_515 : Cond.methodLink R_Machine 186 y_State_pop ∈ pmTs := pmM_25 (List.mem_of_getElem? (i := 15) rfl)
theorem tw_516 : Cond.instanceMethod y_State_pop ∈ pmTs := pmM_25 (List.mem_of_getElem? (i := 16) rfl)
theorem tw_517 : Cond.selects y_State_pop.cls y_State_pop y_State_pop ∈ pmTs := pmM_25 (List.mem_of_getElem? (i := 17) rfl)
theorem tw_518 : Cond.code y_State_pop k_State_pop 1 none ∈ pmTs := pmM_25 (List.mem_of_getElem? (i := 18) rfl)
theorem tw_519 : Cond.methodLink R_Machine 158 y_Machine_define ∈ pmTs := pmM_25 (List.mem_of_getElem? (i := 19) rfl)
theorem tw_520 : Cond.instanceMethod y_Machine_define ∈ pmTs := pmM_26 (List.mem_of_getElem? (i := 0) rfl)
theorem tw_521 : Cond.code y_Machine_define k_Machine_define 2 (some .int) ∈ pmTs := pmM_26 (List.mem_of_getElem? (i := 1) rfl)
theorem tw_522 : Cond.methodLink R_Machine 189 y_Symbols_setGlobal ∈ pmTs := pmM_26 (List.mem_of_getElem? (i := 2) rfl)
theorem tw_523 : Cond.instanceMethod y_Symbols_setGlobal ∈ pmTs := pmM_26 (List.mem_of_getElem? (i := 3) rfl)
theorem tw_524 : Cond.selects y_Symbols_setGlobal.cls y_Symbols_setGlobal y_Symbols_setGlobal ∈ pmTs := pmM_26 (List.mem_of_getElem? (i := 4) rfl)
theorem tw_525 : Cond.code y_Symbols_setGlobal k_Symbols_setGlobal 3 none ∈ pmTs := pmM_26 (List.mem_of_getElem? (i := 5) rfl)
theorem tw_526 : Cond.methodLink R_Machine 161 y_Machine_assign ∈ pmTs := pmM_26 (List.mem_of_getElem? (i := 6) rfl)
theorem tw_527 : Cond.instanceMethod y_Machine_assign ∈ pmTs := pmM_26 (List.mem_of_getElem? (i := 7) rfl)
theorem tw_528 : Cond.code y_Machine_assign k_Machine_assign 3 (some .int) ∈ pmTs := pmM_26 (List.mem_of_getElem? (i := 8) rfl)
theorem tw_529 : Cond.methodLink R_Machine 193 y_Room_setSecond ∈ pmTs := pmM_26 (List.mem_of_getElem? (i := 9) rfl)
theorem tw_530 : Cond.methodLink R_Machine 164 y_Machine_keepValue ∈ pmTs := pmM_26 (List.mem_of_getElem? (i := 10) rfl)
theorem tw_531 : Cond.instanceMethod y_Machine_keepValue ∈ pmTs := pmM_26 (List.mem_of_getElem? (i := 11) rfl)
theorem tw_532 : Cond.code y_Machine_keepValue k_Machine_keepValue 1 (some .boolean) ∈ pmTs := pmM_26 (List.mem_of_getElem? (i := 12) rfl)
theorem tw_533 : Cond.methodLink R_Machine 196 y_State_c ∈ pmTs := pmM_26 (List.mem_of_getElem? (i := 13) rfl)
theorem tw_534 : Cond.instanceMethod y_State_c ∈ pmTs := pmM_26 (List.mem_of_getElem? (i := 14) rfl)
theorem tw_535 : Cond.selects y_State_c.cls y_State_c y_State_c ∈ pmTs := pmM_26 (List.mem_of_getElem? (i := 15) rfl)
theorem tw_536 : Cond.code y_State_c k_State_c 1 (some .int) ∈ pmTs := pmM_26 (List.mem_of_getElem? (i := 16) rfl)
theorem tw_537 : Cond.methodLink R_Machine 199 y_Room_pair ∈ pmTs := pmM_26 (List.mem_of_getElem? (i := 17) rfl)
theorem tw_538 : Cond.methodLink R_Machine 202 y_State_setC ∈ pmTs := pmM_26 (List.mem_of_getElem? (i := 18) rfl)
theorem tw_539 : Cond.instanceMethod y_State_setC ∈ pmTs := pmM_26 (List.mem_of_getElem? (i := 19) rfl)
theorem tw_540 : Cond.selects y_State_setC.cls y_State_setC y_State_setC ∈ pmTs := pmM_27 (List.mem_of_getElem? (i := 0) rfl)
theorem tw_541 : Cond.code y_State_setC k_State_setC 2 none ∈ pmTs := pmM_27 (List.mem_of_getElem? (i := 1) rfl)
theorem tw_542 : Cond.methodLink R_Machine 171 y_Machine_nextArgument ∈ pmTs := pmM_27 (List.mem_of_getElem? (i := 2) rfl)
theorem tw_543 : Cond.instanceMethod y_Machine_nextArgument ∈ pmTs := pmM_27 (List.mem_of_getElem? (i := 3) rfl)
theorem tw_544 : Cond.code y_Machine_nextArgument k_Machine_nextArgument 2 (some .int) ∈ pmTs := pmM_27 (List.mem_of_getElem? (i := 4) rfl)
theorem tw_545 : Cond.methodLink R_Machine 205 y_State_setA ∈ pmTs := pmM_27 (List.mem_of_getElem? (i := 5) rfl)
theorem tw_546 : Cond.instanceMethod y_State_setA ∈ pmTs := pmM_27 (List.mem_of_getElem? (i := 6) rfl)
theorem tw_547 : Cond.selects y_State_setA.cls y_State_setA y_State_setA ∈ pmTs := pmM_27 (List.mem_of_getElem? (i := 7) rfl)
theorem tw_548 : Cond.code y_State_setA k_State_setA 2 none ∈ pmTs := pmM_27 (List.mem_of_getElem? (i := 8) rfl)
theorem tw_549 : Cond.methodLink R_Machine 174 y_Machine_apply ∈ pmTs := pmM_27 (List.mem_of_getElem? (i := 9) rfl)
theorem tw_550 : Cond.instanceMethod y_Machine_apply ∈ pmTs := pmM_27 (List.mem_of_getElem? (i := 10) rfl)
theorem tw_551 : Cond.code y_Machine_apply k_Machine_apply 5 (some .int) ∈ pmTs := pmM_27 (List.mem_of_getElem? (i := 11) rfl)
theorem tw_552 : Cond.methodLink R_Machine 208 y_Machine_faultOfCall ∈ pmTs := pmM_27 (List.mem_of_getElem? (i := 12) rfl)
theorem tw_553 : Cond.instanceMethod y_Machine_faultOfCall ∈ pmTs := pmM_27 (List.mem_of_getElem? (i := 13) rfl)
theorem tw_554 : Cond.code y_Machine_faultOfCall k_Machine_faultOfCall 3 (some .int) ∈ pmTs := pmM_27 (List.mem_of_getElem? (i := 14) rfl)
theorem tw_555 : Cond.methodLink R_Machine 214 y_Value_kind ∈ pmTs := pmM_27 (List.mem_of_getElem? (i := 15) rfl)
theorem tw_556 : Cond.methodLink R_Machine 222 y_Machine_faultOfPrimitive ∈ pmTs := pmM_27 (List.mem_of_getElem? (i := 16) rfl)
theorem tw_557 : Cond.instanceMethod y_Machine_faultOfPrimitive ∈ pmTs := pmM_27 (List.mem_of_getElem? (i := 17) rfl)
theorem tw_558 : Cond.code y_Machine_faultOfPrimitive k_Machine_faultOfPrimitive 5 (some .int) ∈ pmTs := pmM_27 (List.mem_of_getElem? (i := 18) rfl)
theorem tw_559 : Cond.methodLink R_Machine 225 y_Value_isNumber ∈ pmTs := pmM_27 (List.mem_of_getElem? (i := 19) rfl)
theorem tw_560 : Cond.static y_Value_isNumber ∈ pmTs := pmM_28 (List.mem_of_getElem? (i := 0) rfl)
theorem tw_561 : Cond.code y_Value_isNumber k_Value_isNumber 1 (some .boolean) ∈ pmTs := pmM_28 (List.mem_of_getElem? (i := 1) rfl)
theorem tw_562 : Cond.methodLink R_Machine 211 y_Machine_cellsOfCall ∈ pmTs := pmM_28 (List.mem_of_getElem? (i := 2) rfl)
theorem tw_563 : Cond.static y_Machine_cellsOfCall ∈ pmTs := pmM_28 (List.mem_of_getElem? (i := 3) rfl)
theorem tw_564 : Cond.code y_Machine_cellsOfCall k_Machine_cellsOfCall 2 (some .int) ∈ pmTs := pmM_28 (List.mem_of_getElem? (i := 4) rfl)
theorem tw_565 : Cond.methodLink R_Machine 216 y_Machine_boundEnvironment ∈ pmTs := pmM_28 (List.mem_of_getElem? (i := 5) rfl)
theorem tw_566 : Cond.instanceMethod y_Machine_boundEnvironment ∈ pmTs := pmM_28 (List.mem_of_getElem? (i := 6) rfl)
theorem tw_567 : Cond.code y_Machine_boundEnvironment k_Machine_boundEnvironment 9 (some .int) ∈ pmTs := pmM_28 (List.mem_of_getElem? (i := 7) rfl)
theorem tw_568 : Cond.methodLink R_Machine 228 y_Room_third ∈ pmTs := pmM_28 (List.mem_of_getElem? (i := 8) rfl)
theorem tw_569 : Cond.instanceMethod y_Room_third ∈ pmTs := pmM_28 (List.mem_of_getElem? (i := 9) rfl)
theorem tw_570 : Cond.selects y_Room_third.cls y_Room_third y_Room_third ∈ pmTs := pmM_28 (List.mem_of_getElem? (i := 10) rfl)
theorem tw_571 : Cond.code y_Room_third k_Room_third 2 (some .int) ∈ pmTs := pmM_28 (List.mem_of_getElem? (i := 11) rfl)
theorem tw_572 : Cond.methodLink R_Machine 219 y_Machine_primitiveResult ∈ pmTs := pmM_28 (List.mem_of_getElem? (i := 12) rfl)
theorem tw_573 : Cond.instanceMethod y_Machine_primitiveResult ∈ pmTs := pmM_28 (List.mem_of_getElem? (i := 13) rfl)
theorem tw_574 : Cond.code y_Machine_primitiveResult k_Machine_primitiveResult 6 (some .int) ∈ pmTs := pmM_28 (List.mem_of_getElem? (i := 14) rfl)
theorem tw_575 : Cond.methodLink R_Machine 231 y_Value_of ∈ pmTs := pmM_28 (List.mem_of_getElem? (i := 15) rfl)
theorem tw_576 : Cond.methodLink R_Machine 234 y_Machine_truth ∈ pmTs := pmM_28 (List.mem_of_getElem? (i := 16) rfl)
theorem tw_577 : Cond.static y_Machine_truth ∈ pmTs := pmM_28 (List.mem_of_getElem? (i := 17) rfl)
theorem tw_578 : Cond.code y_Machine_truth k_Machine_truth 1 (some .int) ∈ pmTs := pmM_28 (List.mem_of_getElem? (i := 18) rfl)
theorem tw_579 : Cond.methodLink R_Machine 238 y_Machine_listOf ∈ pmTs := pmM_28 (List.mem_of_getElem? (i := 19) rfl)
theorem tw_580 : Cond.instanceMethod y_Machine_listOf ∈ pmTs := pmM_29 (List.mem_of_getElem? (i := 0) rfl)
theorem tw_581 : Cond.code y_Machine_listOf k_Machine_listOf 6 (some .int) ∈ pmTs := pmM_29 (List.mem_of_getElem? (i := 1) rfl)
theorem tw_582 : Cond.methodLink R_Machine 177 y_Printer_printLine ∈ pmTs := pmM_29 (List.mem_of_getElem? (i := 2) rfl)
theorem tw_583 : Cond.instanceMethod y_Printer_printLine ∈ pmTs := pmM_29 (List.mem_of_getElem? (i := 3) rfl)
theorem tw_584 : Cond.selects y_Printer_printLine.cls y_Printer_printLine y_Printer_printLine ∈ pmTs := pmM_29 (List.mem_of_getElem? (i := 4) rfl)
theorem tw_585 : Cond.code y_Printer_printLine k_Printer_printLine 2 none ∈ pmTs := pmM_29 (List.mem_of_getElem? (i := 5) rfl)
theorem tw_586 : Cond.methodLink R_Printer 21 y_Printer_print ∈ pmTs := pmM_29 (List.mem_of_getElem? (i := 6) rfl)
theorem tw_587 : Cond.instanceMethod y_Printer_print ∈ pmTs := pmM_29 (List.mem_of_getElem? (i := 7) rfl)
theorem tw_588 : Cond.code y_Printer_print k_Printer_print 3 none ∈ pmTs := pmM_29 (List.mem_of_getElem? (i := 8) rfl)
theorem tw_589 : Cond.methodLink R_Printer 31 y_Value_kind ∈ pmTs := pmM_29 (List.mem_of_getElem? (i := 9) rfl)
theorem tw_590 : Cond.methodLink R_Printer 37 y_Value_content ∈ pmTs := pmM_29 (List.mem_of_getElem? (i := 10) rfl)
theorem tw_591 : Cond.methodLink R_Printer 40 y_Printer_printNumber ∈ pmTs := pmM_29 (List.mem_of_getElem? (i := 11) rfl)
theorem tw_592 : Cond.instanceMethod y_Printer_printNumber ∈ pmTs := pmM_29 (List.mem_of_getElem? (i := 12) rfl)
theorem tw_593 : Cond.code y_Printer_printNumber k_Printer_printNumber 4 none ∈ pmTs := pmM_29 (List.mem_of_getElem? (i := 13) rfl)
theorem tw_594 : Cond.methodLink R_Printer 25 y_Output_put ∈ pmTs := pmM_29 (List.mem_of_getElem? (i := 14) rfl)
theorem tw_595 : Cond.instanceMethod y_Output_put ∈ pmTs := pmM_29 (List.mem_of_getElem? (i := 15) rfl)
theorem tw_596 : Cond.selects y_Output_put.cls y_Output_put y_Output_put ∈ pmTs := pmM_29 (List.mem_of_getElem? (i := 16) rfl)
theorem tw_597 : Cond.code y_Output_put k_Output_put 2 none ∈ pmTs := pmM_29 (List.mem_of_getElem? (i := 17) rfl)
theorem tw_598 : Cond.methodLink R_Printer 87 Lib.Math.abs.name ∈ pmTs := pmM_29 (List.mem_of_getElem? (i := 18) rfl)
theorem tw_599 : Cond.static Lib.Math.abs.name ∈ pmTs := pmM_29 (List.mem_of_getElem? (i := 19) rfl)
theorem tw_600 : Cond.code Lib.Math.abs.name Lib.Math.abs.code 1 (some .int) ∈ pmTs := pmM_30 (List.mem_of_getElem? (i := 0) rfl)
theorem tw_601 : Cond.constant R_Printer 92 (100000000) ∈ pmTs := pmM_30 (List.mem_of_getElem? (i := 1) rfl)
theorem tw_602 : Cond.methodLink R_Printer 44 y_Symbols_name ∈ pmTs := pmM_30 (List.mem_of_getElem? (i := 2) rfl)
theorem tw_603 : Cond.instanceMethod y_Symbols_name ∈ pmTs := pmM_30 (List.mem_of_getElem? (i := 3) rfl)
theorem tw_604 : Cond.selects y_Symbols_name.cls y_Symbols_name y_Symbols_name ∈ pmTs := pmM_30 (List.mem_of_getElem? (i := 4) rfl)
theorem tw_605 : Cond.code y_Symbols_name k_Symbols_name 2 (some .long) ∈ pmTs := pmM_30 (List.mem_of_getElem? (i := 5) rfl)
theorem tw_606 : Cond.methodLink R_Printer 50 y_Printer_printName ∈ pmTs := pmM_30 (List.mem_of_getElem? (i := 6) rfl)
theorem tw_607 : Cond.instanceMethod y_Printer_printName ∈ pmTs := pmM_30 (List.mem_of_getElem? (i := 7) rfl)
theorem tw_608 : Cond.code y_Printer_printName k_Printer_printName 5 none ∈ pmTs := pmM_30 (List.mem_of_getElem? (i := 8) rfl)
theorem tw_609 : Cond.constantLong R_Printer 93 (255) ∈ pmTs := pmM_30 (List.mem_of_getElem? (i := 9) rfl)
theorem tw_610 : Cond.methodLink R_Printer 56 y_Printer_printText ∈ pmTs := pmM_30 (List.mem_of_getElem? (i := 10) rfl)
theorem tw_611 : Cond.instanceMethod y_Printer_printText ∈ pmTs := pmM_30 (List.mem_of_getElem? (i := 11) rfl)
theorem tw_612 : Cond.code y_Printer_printText k_Printer_printText 3 none ∈ pmTs := pmM_30 (List.mem_of_getElem? (i := 12) rfl)
theorem tw_613 : Cond.methodLink R_Printer 95 (⟨"java/lang/String", "length", "()I"⟩ : MethodName) ∈ pmTs := pmM_30 (List.mem_of_getElem? (i := 13) rfl)
theorem tw_614 : Cond.methodLink R_Printer 101 (⟨"java/lang/String", "charAt", "(I)C"⟩ : MethodName) ∈ pmTs := pmM_30 (List.mem_of_getElem? (i := 14) rfl)
theorem tw_615 : Cond.methodLink R_Printer 60 y_Printer_printList ∈ pmTs := pmM_30 (List.mem_of_getElem? (i := 15) rfl)
theorem tw_616 : Cond.instanceMethod y_Printer_printList ∈ pmTs := pmM_30 (List.mem_of_getElem? (i := 16) rfl)
theorem tw_617 : Cond.code y_Printer_printList k_Printer_printList 5 none ∈ pmTs := pmM_30 (List.mem_of_getElem? (i := 17) rfl)
theorem tw_618 : Cond.methodLink R_Printer 67 y_Value_isPair ∈ pmTs := pmM_30 (List.mem_of_getElem? (i := 18) rfl)
theorem tw_619 : Cond.methodLink R_Printer 71 y_Output_isFull ∈ pmTs := pmM_30 (List.mem_of_getElem? (i := 19) rfl)
theorem tw_620 : Cond.instanceMethod y_Output_isFull ∈ pmTs := pmM_31 (List.mem_of_getElem? (i := 0) rfl)
theorem tw_621 : Cond.selects y_Output_isFull.cls y_Output_isFull y_Output_isFull ∈ pmTs := pmM_31 (List.mem_of_getElem? (i := 1) rfl)
theorem tw_622 : Cond.code y_Output_isFull k_Output_isFull 1 (some .boolean) ∈ pmTs := pmM_31 (List.mem_of_getElem? (i := 2) rfl)
theorem tw_623 : Cond.methodLink R_Printer 75 y_Room_first ∈ pmTs := pmM_31 (List.mem_of_getElem? (i := 3) rfl)
theorem tw_624 : Cond.methodLink R_Printer 80 y_Room_second ∈ pmTs := pmM_31 (List.mem_of_getElem? (i := 4) rfl)
theorem tw_625 : Cond.methodLink R_Machine 54 y_Machine_endForm ∈ pmTs := pmM_31 (List.mem_of_getElem? (i := 5) rfl)
theorem tw_626 : Cond.instanceMethod y_Machine_endForm ∈ pmTs := pmM_31 (List.mem_of_getElem? (i := 6) rfl)
theorem tw_627 : Cond.code y_Machine_endForm k_Machine_endForm 1 none ∈ pmTs := pmM_31 (List.mem_of_getElem? (i := 7) rfl)
theorem tw_628 : Cond.methodLink R_Law 31 y_CL_outSize ∈ pmTs := pmM_31 (List.mem_of_getElem? (i := 8) rfl)
theorem tw_629 : Cond.instanceMethod y_CL_outSize ∈ pmTs := pmM_31 (List.mem_of_getElem? (i := 9) rfl)
theorem tw_630 : Cond.selects y_CL_outSize.cls y_CL_outSize y_CL_outSize ∈ pmTs := pmM_31 (List.mem_of_getElem? (i := 10) rfl)
theorem tw_631 : Cond.code y_CL_outSize k_CL_outSize 1 (some .int) ∈ pmTs := pmM_31 (List.mem_of_getElem? (i := 11) rfl)
theorem tw_632 : Cond.methodLink R_Law 36 y_CL_out ∈ pmTs := pmM_31 (List.mem_of_getElem? (i := 12) rfl)
theorem tw_633 : Cond.instanceMethod y_CL_out ∈ pmTs := pmM_31 (List.mem_of_getElem? (i := 13) rfl)
theorem tw_634 : Cond.selects y_CL_out.cls y_CL_out y_CL_out ∈ pmTs := pmM_31 (List.mem_of_getElem? (i := 14) rfl)
theorem tw_635 : Cond.code y_CL_out k_CL_out 2 (some .int) ∈ pmTs := pmM_31 (List.mem_of_getElem? (i := 15) rfl)
theorem tw_636 : Cond.methodLink R_CL 86 y_Output_at ∈ pmTs := pmM_31 (List.mem_of_getElem? (i := 16) rfl)
theorem tw_637 : Cond.instanceMethod y_Output_at ∈ pmTs := pmM_31 (List.mem_of_getElem? (i := 17) rfl)
theorem tw_638 : Cond.selects y_Output_at.cls y_Output_at y_Output_at ∈ pmTs := pmM_31 (List.mem_of_getElem? (i := 18) rfl)
theorem tw_639 : Cond.code y_Output_at k_Output_at 2 (some .int) ∈ pmTs := pmM_31 (List.mem_of_getElem? (i := 19) rfl)
theorem tw_640 : Cond.methodLink R_Law 40 y_CL_clearOut ∈ pmTs := pmM_32 (List.mem_of_getElem? (i := 0) rfl)
theorem tw_641 : Cond.instanceMethod y_CL_clearOut ∈ pmTs := pmM_32 (List.mem_of_getElem? (i := 1) rfl)
theorem tw_642 : Cond.selects y_CL_clearOut.cls y_CL_clearOut y_CL_clearOut ∈ pmTs := pmM_32 (List.mem_of_getElem? (i := 2) rfl)
theorem tw_643 : Cond.code y_CL_clearOut k_CL_clearOut 1 none ∈ pmTs := pmM_32 (List.mem_of_getElem? (i := 3) rfl)
theorem tw_644 : Cond.methodLink R_Law 44 y_CL_liveCells ∈ pmTs := pmM_32 (List.mem_of_getElem? (i := 4) rfl)
theorem tw_645 : Cond.instanceMethod y_CL_liveCells ∈ pmTs := pmM_32 (List.mem_of_getElem? (i := 5) rfl)
theorem tw_646 : Cond.selects y_CL_liveCells.cls y_CL_liveCells y_CL_liveCells ∈ pmTs := pmM_32 (List.mem_of_getElem? (i := 6) rfl)
theorem tw_647 : Cond.code y_CL_liveCells k_CL_liveCells 1 (some .int) ∈ pmTs := pmM_32 (List.mem_of_getElem? (i := 7) rfl)
theorem tw_648 : Cond.methodLink R_CL 90 y_Room_collect ∈ pmTs := pmM_32 (List.mem_of_getElem? (i := 8) rfl)
theorem tw_649 : Cond.methodLink R_Law 48 y_CL_count ∈ pmTs := pmM_32 (List.mem_of_getElem? (i := 9) rfl)
theorem tw_650 : Cond.instanceMethod y_CL_count ∈ pmTs := pmM_32 (List.mem_of_getElem? (i := 10) rfl)
theorem tw_651 : Cond.selects y_CL_count.cls y_CL_count y_CL_count ∈ pmTs := pmM_32 (List.mem_of_getElem? (i := 11) rfl)
theorem tw_652 : Cond.code y_CL_count k_CL_count 2 (some .int) ∈ pmTs := pmM_32 (List.mem_of_getElem? (i := 12) rfl)
theorem tw_653 : Cond.methodLink R_Law 9 y_Law_cell ∈ pmTs := pmM_32 (List.mem_of_getElem? (i := 13) rfl)
theorem tw_654 : Cond.static y_Law_cell ∈ pmTs := pmM_32 (List.mem_of_getElem? (i := 14) rfl)
theorem tw_655 : Cond.code y_Law_cell k_Law_cell 2 (some .int) ∈ pmTs := pmM_32 (List.mem_of_getElem? (i := 15) rfl)
theorem tw_656 : Cond.classLink R_Law 18 R_Md ∈ pmTs := pmM_32 (List.mem_of_getElem? (i := 16) rfl)
theorem tw_657 : Cond.instantiable R_Md 31 ∈ pmTs := pmM_32 (List.mem_of_getElem? (i := 17) rfl)
theorem tw_658 : Cond.methodLink R_Law 20 y_Md_init ∈ pmTs := pmM_32 (List.mem_of_getElem? (i := 18) rfl)
theorem tw_659 : Cond.instanceMethod y_Md_init ∈ pmTs := pmM_32 (List.mem_of_getElem? (i := 19) rfl)
theorem tw_660 : Cond.code y_Md_init k_Md_init 3 none ∈ pmTs := pmM_33 (List.mem_of_getElem? (i := 0) rfl)
theorem tw_661 : Cond.methodLink R_Md 1 objectInit ∈ pmTs := pmM_33 (List.mem_of_getElem? (i := 1) rfl)
theorem tw_662 : Cond.constant R_Md 45 (536870912) ∈ pmTs := pmM_33 (List.mem_of_getElem? (i := 2) rfl)
theorem tw_663 : Cond.constant R_Md 77 (536872000) ∈ pmTs := pmM_33 (List.mem_of_getElem? (i := 3) rfl)
theorem tw_664 : Cond.constant R_Md 78 (-2147483648) ∈ pmTs := pmM_33 (List.mem_of_getElem? (i := 4) rfl)
theorem tw_665 : Cond.methodLink R_Md 79 y_Md_word ∈ pmTs := pmM_33 (List.mem_of_getElem? (i := 5) rfl)
theorem tw_666 : Cond.instanceMethod y_Md_word ∈ pmTs := pmM_33 (List.mem_of_getElem? (i := 6) rfl)
theorem tw_667 : Cond.code y_Md_word k_Md_word 7 none ∈ pmTs := pmM_33 (List.mem_of_getElem? (i := 7) rfl)
theorem tw_668 : Cond.constant R_Md 83 (536871015) ∈ pmTs := pmM_33 (List.mem_of_getElem? (i := 8) rfl)
theorem tw_669 : Cond.fieldLink R_Md 87 R_Md "thrown" "I" ∈ pmTs := pmM_33 (List.mem_of_getElem? (i := 9) rfl)
theorem tw_670 : Cond.fieldLink R_Md 74 R_Md "size" "I" ∈ pmTs := pmM_33 (List.mem_of_getElem? (i := 10) rfl)
theorem tw_671 : Cond.fieldLink R_Md 7 R_Md "cells" "[I" ∈ pmTs := pmM_33 (List.mem_of_getElem? (i := 11) rfl)
theorem tw_672 : Cond.fieldLink R_Md 13 R_Md "first" "[I" ∈ pmTs := pmM_33 (List.mem_of_getElem? (i := 12) rfl)
theorem tw_673 : Cond.fieldLink R_Md 16 R_Md "second" "[I" ∈ pmTs := pmM_33 (List.mem_of_getElem? (i := 13) rfl)
theorem tw_674 : Cond.fieldLink R_Md 19 R_Md "third" "[I" ∈ pmTs := pmM_33 (List.mem_of_getElem? (i := 14) rfl)
theorem tw_675 : Cond.fieldLink R_Md 22 R_Md "used" "[Z" ∈ pmTs := pmM_33 (List.mem_of_getElem? (i := 15) rfl)
theorem tw_676 : Cond.fieldLink R_Md 26 R_Md "kind" "[I" ∈ pmTs := pmM_33 (List.mem_of_getElem? (i := 16) rfl)
theorem tw_677 : Cond.fieldLink R_Md 29 R_Md "frameA" "[I" ∈ pmTs := pmM_33 (List.mem_of_getElem? (i := 17) rfl)
theorem tw_678 : Cond.fieldLink R_Md 32 R_Md "frameB" "[I" ∈ pmTs := pmM_33 (List.mem_of_getElem? (i := 18) rfl)
theorem tw_679 : Cond.fieldLink R_Md 35 R_Md "frameC" "[I" ∈ pmTs := pmM_33 (List.mem_of_getElem? (i := 19) rfl)
theorem tw_680 : Cond.fieldLink R_Md 100 R_Md "frames" "I" ∈ pmTs := pmM_34 (List.mem_of_getElem? (i := 0) rfl)
theorem tw_681 : Cond.fieldLink R_Md 84 R_Md "known" "I" ∈ pmTs := pmM_34 (List.mem_of_getElem? (i := 1) rfl)
theorem tw_682 : Cond.fieldLink R_Md 38 R_Md "names" "[C" ∈ pmTs := pmM_34 (List.mem_of_getElem? (i := 2) rfl)
theorem tw_683 : Cond.fieldLink R_Md 42 R_Md "globals" "[I" ∈ pmTs := pmM_34 (List.mem_of_getElem? (i := 3) rfl)
theorem tw_684 : Cond.fieldLink R_Md 46 R_Md "value" "I" ∈ pmTs := pmM_34 (List.mem_of_getElem? (i := 4) rfl)
theorem tw_685 : Cond.fieldLink R_Md 50 R_Md "scope" "I" ∈ pmTs := pmM_34 (List.mem_of_getElem? (i := 5) rfl)
theorem tw_686 : Cond.fieldLink R_Md 180 R_Md "under" "Z" ∈ pmTs := pmM_34 (List.mem_of_getElem? (i := 6) rfl)
theorem tw_687 : Cond.fieldLink R_Md 184 R_Md "returns" "Z" ∈ pmTs := pmM_34 (List.mem_of_getElem? (i := 7) rfl)
theorem tw_688 : Cond.fieldLink R_Md 165 R_Md "steps" "I" ∈ pmTs := pmM_34 (List.mem_of_getElem? (i := 8) rfl)
theorem tw_689 : Cond.fieldLink R_Md 111 R_Md "fed" "I" ∈ pmTs := pmM_34 (List.mem_of_getElem? (i := 9) rfl)
theorem tw_690 : Cond.fieldLink R_Md 53 R_Md "text" "[C" ∈ pmTs := pmM_34 (List.mem_of_getElem? (i := 10) rfl)
theorem tw_691 : Cond.fieldLink R_Md 263 R_Md "waits" "I" ∈ pmTs := pmM_34 (List.mem_of_getElem? (i := 11) rfl)
theorem tw_692 : Cond.fieldLink R_Md 56 R_Md "out" "[C" ∈ pmTs := pmM_34 (List.mem_of_getElem? (i := 12) rfl)
theorem tw_693 : Cond.fieldLink R_Md 59 R_Md "openFirst" "[I" ∈ pmTs := pmM_34 (List.mem_of_getElem? (i := 13) rfl)
theorem tw_694 : Cond.fieldLink R_Md 62 R_Md "openLast" "[I" ∈ pmTs := pmM_34 (List.mem_of_getElem? (i := 14) rfl)
theorem tw_695 : Cond.fieldLink R_Md 65 R_Md "quoted" "[Z" ∈ pmTs := pmM_34 (List.mem_of_getElem? (i := 15) rfl)
theorem tw_696 : Cond.fieldLink R_Md 68 R_Md "left" "[I" ∈ pmTs := pmM_34 (List.mem_of_getElem? (i := 16) rfl)
theorem tw_697 : Cond.fieldLink R_Md 71 R_Md "things" "[I" ∈ pmTs := pmM_34 (List.mem_of_getElem? (i := 17) rfl)
theorem tw_698 : Cond.fieldLink R_Md 148 R_Md "end" "I" ∈ pmTs := pmM_34 (List.mem_of_getElem? (i := 18) rfl)
theorem tw_699 : Cond.fieldLink R_Md 139 R_Md "needs" "I" ∈ pmTs := pmM_34 (List.mem_of_getElem? (i := 19) rfl)
theorem tw_700 : Cond.methodLink R_Law 25 y_Md_feed ∈ pmTs := pmM_35 (List.mem_of_getElem? (i := 0) rfl)
theorem tw_701 : Cond.instanceMethod y_Md_feed ∈ pmTs := pmM_35 (List.mem_of_getElem? (i := 1) rfl)
theorem tw_702 : Cond.selects y_Md_feed.cls y_Md_feed y_Md_feed ∈ pmTs := pmM_35 (List.mem_of_getElem? (i := 2) rfl)
theorem tw_703 : Cond.code y_Md_feed k_Md_feed 5 (some .boolean) ∈ pmTs := pmM_35 (List.mem_of_getElem? (i := 3) rfl)
theorem tw_704 : Cond.methodLink R_Law 30 y_Md_run ∈ pmTs := pmM_35 (List.mem_of_getElem? (i := 4) rfl)
theorem tw_705 : Cond.instanceMethod y_Md_run ∈ pmTs := pmM_35 (List.mem_of_getElem? (i := 5) rfl)
theorem tw_706 : Cond.selects y_Md_run.cls y_Md_run y_Md_run ∈ pmTs := pmM_35 (List.mem_of_getElem? (i := 6) rfl)
theorem tw_707 : Cond.code y_Md_run k_Md_run 4 (some .int) ∈ pmTs := pmM_35 (List.mem_of_getElem? (i := 7) rfl)
theorem tw_708 : Cond.methodLink R_Md 254 y_Md_reading ∈ pmTs := pmM_35 (List.mem_of_getElem? (i := 8) rfl)
theorem tw_709 : Cond.instanceMethod y_Md_reading ∈ pmTs := pmM_35 (List.mem_of_getElem? (i := 9) rfl)
theorem tw_710 : Cond.code y_Md_reading k_Md_reading 4 (some .int) ∈ pmTs := pmM_35 (List.mem_of_getElem? (i := 10) rfl)
theorem tw_711 : Cond.methodLink R_Md 162 y_Md_lookOver ∈ pmTs := pmM_35 (List.mem_of_getElem? (i := 11) rfl)
theorem tw_712 : Cond.instanceMethod y_Md_lookOver ∈ pmTs := pmM_35 (List.mem_of_getElem? (i := 12) rfl)
theorem tw_713 : Cond.code y_Md_lookOver k_Md_lookOver 5 (some .int) ∈ pmTs := pmM_35 (List.mem_of_getElem? (i := 13) rfl)
theorem tw_714 : Cond.methodLink R_Md 142 y_Md_skip ∈ pmTs := pmM_35 (List.mem_of_getElem? (i := 14) rfl)
theorem tw_715 : Cond.instanceMethod y_Md_skip ∈ pmTs := pmM_35 (List.mem_of_getElem? (i := 15) rfl)
theorem tw_716 : Cond.code y_Md_skip k_Md_skip 3 (some .int) ∈ pmTs := pmM_35 (List.mem_of_getElem? (i := 16) rfl)
theorem tw_717 : Cond.methodLink R_Md 114 y_Md_isBlank ∈ pmTs := pmM_35 (List.mem_of_getElem? (i := 17) rfl)
theorem tw_718 : Cond.static y_Md_isBlank ∈ pmTs := pmM_35 (List.mem_of_getElem? (i := 18) rfl)
theorem tw_719 : Cond.code y_Md_isBlank k_Md_isBlank 1 (some .boolean) ∈ pmTs := pmM_35 (List.mem_of_getElem? (i := 19) rfl)
theorem tw_720 : Cond.methodLink R_Md 145 y_Md_tokenEnd ∈ pmTs := pmM_36 (List.mem_of_getElem? (i := 0) rfl)
theorem tw_721 : Cond.instanceMethod y_Md_tokenEnd ∈ pmTs := pmM_36 (List.mem_of_getElem? (i := 1) rfl)
theorem tw_722 : Cond.code y_Md_tokenEnd k_Md_tokenEnd 3 (some .int) ∈ pmTs := pmM_36 (List.mem_of_getElem? (i := 2) rfl)
theorem tw_723 : Cond.methodLink R_Md 118 y_Md_isSign ∈ pmTs := pmM_36 (List.mem_of_getElem? (i := 3) rfl)
theorem tw_724 : Cond.static y_Md_isSign ∈ pmTs := pmM_36 (List.mem_of_getElem? (i := 4) rfl)
theorem tw_725 : Cond.code y_Md_isSign k_Md_isSign 1 (some .boolean) ∈ pmTs := pmM_36 (List.mem_of_getElem? (i := 5) rfl)
theorem tw_726 : Cond.methodLink R_Md 168 y_Md_meet ∈ pmTs := pmM_36 (List.mem_of_getElem? (i := 6) rfl)
theorem tw_727 : Cond.instanceMethod y_Md_meet ∈ pmTs := pmM_36 (List.mem_of_getElem? (i := 7) rfl)
theorem tw_728 : Cond.code y_Md_meet k_Md_meet 4 (some .boolean) ∈ pmTs := pmM_36 (List.mem_of_getElem? (i := 8) rfl)
theorem tw_729 : Cond.methodLink R_Md 125 y_Md_isFigure ∈ pmTs := pmM_36 (List.mem_of_getElem? (i := 9) rfl)
theorem tw_730 : Cond.instanceMethod y_Md_isFigure ∈ pmTs := pmM_36 (List.mem_of_getElem? (i := 10) rfl)
theorem tw_731 : Cond.code y_Md_isFigure k_Md_isFigure 6 (some .boolean) ∈ pmTs := pmM_36 (List.mem_of_getElem? (i := 11) rfl)
theorem tw_732 : Cond.methodLink R_Md 133 y_Md_isNil ∈ pmTs := pmM_36 (List.mem_of_getElem? (i := 12) rfl)
theorem tw_733 : Cond.instanceMethod y_Md_isNil ∈ pmTs := pmM_36 (List.mem_of_getElem? (i := 13) rfl)
theorem tw_734 : Cond.code y_Md_isNil k_Md_isNil 3 (some .boolean) ∈ pmTs := pmM_36 (List.mem_of_getElem? (i := 14) rfl)
theorem tw_735 : Cond.methodLink R_Md 136 y_Md_symbolOf ∈ pmTs := pmM_36 (List.mem_of_getElem? (i := 15) rfl)
theorem tw_736 : Cond.instanceMethod y_Md_symbolOf ∈ pmTs := pmM_36 (List.mem_of_getElem? (i := 16) rfl)
theorem tw_737 : Cond.code y_Md_symbolOf k_Md_symbolOf 6 (some .int) ∈ pmTs := pmM_36 (List.mem_of_getElem? (i := 17) rfl)
theorem tw_738 : Cond.methodLink R_Md 171 y_Md_room ∈ pmTs := pmM_36 (List.mem_of_getElem? (i := 18) rfl)
theorem tw_739 : Cond.instanceMethod y_Md_room ∈ pmTs := pmM_36 (List.mem_of_getElem? (i := 19) rfl)
theorem tw_740 : Cond.code y_Md_room k_Md_room 4 (some .boolean) ∈ pmTs := pmM_37 (List.mem_of_getElem? (i := 0) rfl)
theorem tw_741 : Cond.methodLink R_Md 103 y_Md_live ∈ pmTs := pmM_37 (List.mem_of_getElem? (i := 1) rfl)
theorem tw_742 : Cond.instanceMethod y_Md_live ∈ pmTs := pmM_37 (List.mem_of_getElem? (i := 2) rfl)
theorem tw_743 : Cond.code y_Md_live k_Md_live 4 (some .int) ∈ pmTs := pmM_37 (List.mem_of_getElem? (i := 3) rfl)
theorem tw_744 : Cond.methodLink R_Md 96 y_Md_mark ∈ pmTs := pmM_37 (List.mem_of_getElem? (i := 4) rfl)
theorem tw_745 : Cond.instanceMethod y_Md_mark ∈ pmTs := pmM_37 (List.mem_of_getElem? (i := 5) rfl)
theorem tw_746 : Cond.code y_Md_mark k_Md_mark 2 none ∈ pmTs := pmM_37 (List.mem_of_getElem? (i := 6) rfl)
theorem tw_747 : Cond.methodLink R_Md 92 y_Md_isThing ∈ pmTs := pmM_37 (List.mem_of_getElem? (i := 7) rfl)
theorem tw_748 : Cond.static y_Md_isThing ∈ pmTs := pmM_37 (List.mem_of_getElem? (i := 8) rfl)
theorem tw_749 : Cond.code y_Md_isThing k_Md_isThing 1 (some .boolean) ∈ pmTs := pmM_37 (List.mem_of_getElem? (i := 9) rfl)
theorem tw_750 : Cond.constant R_Md 91 (536873000) ∈ pmTs := pmM_37 (List.mem_of_getElem? (i := 10) rfl)
theorem tw_751 : Cond.methodLink R_Md 174 y_Md_read ∈ pmTs := pmM_37 (List.mem_of_getElem? (i := 11) rfl)
theorem tw_752 : Cond.instanceMethod y_Md_read ∈ pmTs := pmM_37 (List.mem_of_getElem? (i := 12) rfl)
theorem tw_753 : Cond.code y_Md_read k_Md_read 4 none ∈ pmTs := pmM_37 (List.mem_of_getElem? (i := 13) rfl)
theorem tw_754 : Cond.methodLink R_Md 155 y_Md_arrived ∈ pmTs := pmM_37 (List.mem_of_getElem? (i := 14) rfl)
theorem tw_755 : Cond.instanceMethod y_Md_arrived ∈ pmTs := pmM_37 (List.mem_of_getElem? (i := 15) rfl)
theorem tw_756 : Cond.code y_Md_arrived k_Md_arrived 5 none ∈ pmTs := pmM_37 (List.mem_of_getElem? (i := 16) rfl)
theorem tw_757 : Cond.constant R_Md 151 (536871010) ∈ pmTs := pmM_37 (List.mem_of_getElem? (i := 17) rfl)
theorem tw_758 : Cond.methodLink R_Md 152 y_Md_pair ∈ pmTs := pmM_37 (List.mem_of_getElem? (i := 18) rfl)
theorem tw_759 : Cond.instanceMethod y_Md_pair ∈ pmTs := pmM_37 (List.mem_of_getElem? (i := 19) rfl)
theorem tw_760 : Cond.code y_Md_pair k_Md_pair 3 (some .int) ∈ pmTs := pmM_38 (List.mem_of_getElem? (i := 0) rfl)
theorem tw_761 : Cond.methodLink R_Md 107 y_Md_make ∈ pmTs := pmM_38 (List.mem_of_getElem? (i := 1) rfl)
theorem tw_762 : Cond.instanceMethod y_Md_make ∈ pmTs := pmM_38 (List.mem_of_getElem? (i := 2) rfl)
theorem tw_763 : Cond.code y_Md_make k_Md_make 6 (some .int) ∈ pmTs := pmM_38 (List.mem_of_getElem? (i := 3) rfl)
theorem tw_764 : Cond.methodLink R_Md 159 y_Md_atom ∈ pmTs := pmM_38 (List.mem_of_getElem? (i := 4) rfl)
theorem tw_765 : Cond.instanceMethod y_Md_atom ∈ pmTs := pmM_38 (List.mem_of_getElem? (i := 5) rfl)
theorem tw_766 : Cond.code y_Md_atom k_Md_atom 3 (some .int) ∈ pmTs := pmM_38 (List.mem_of_getElem? (i := 6) rfl)
theorem tw_767 : Cond.methodLink R_Md 129 y_Md_figure ∈ pmTs := pmM_38 (List.mem_of_getElem? (i := 7) rfl)
theorem tw_768 : Cond.instanceMethod y_Md_figure ∈ pmTs := pmM_38 (List.mem_of_getElem? (i := 8) rfl)
theorem tw_769 : Cond.code y_Md_figure k_Md_figure 5 (some .int) ∈ pmTs := pmM_38 (List.mem_of_getElem? (i := 9) rfl)
theorem tw_770 : Cond.methodLink R_Md 121 y_Md_wrap ∈ pmTs := pmM_38 (List.mem_of_getElem? (i := 10) rfl)
theorem tw_771 : Cond.static y_Md_wrap ∈ pmTs := pmM_38 (List.mem_of_getElem? (i := 11) rfl)
theorem tw_772 : Cond.code y_Md_wrap k_Md_wrap 1 (some .int) ∈ pmTs := pmM_38 (List.mem_of_getElem? (i := 12) rfl)
theorem tw_773 : Cond.constant R_Md 90 (536871000) ∈ pmTs := pmM_38 (List.mem_of_getElem? (i := 13) rfl)
theorem tw_774 : Cond.methodLink R_Md 177 y_Md_drop ∈ pmTs := pmM_38 (List.mem_of_getElem? (i := 14) rfl)
theorem tw_775 : Cond.instanceMethod y_Md_drop ∈ pmTs := pmM_38 (List.mem_of_getElem? (i := 15) rfl)
theorem tw_776 : Cond.code y_Md_drop k_Md_drop 3 none ∈ pmTs := pmM_38 (List.mem_of_getElem? (i := 16) rfl)
theorem tw_777 : Cond.methodLink R_Md 257 y_Md_back ∈ pmTs := pmM_38 (List.mem_of_getElem? (i := 17) rfl)
theorem tw_778 : Cond.instanceMethod y_Md_back ∈ pmTs := pmM_38 (List.mem_of_getElem? (i := 18) rfl)
theorem tw_779 : Cond.code y_Md_back k_Md_back 5 (some .int) ∈ pmTs := pmM_38 (List.mem_of_getElem? (i := 19) rfl)
theorem tw_780 : Cond.methodLink R_Md 227 y_Md_print ∈ pmTs := pmM_39 (List.mem_of_getElem? (i := 0) rfl)
theorem tw_781 : Cond.instanceMethod y_Md_print ∈ pmTs := pmM_39 (List.mem_of_getElem? (i := 1) rfl)
theorem tw_782 : Cond.code y_Md_print k_Md_print 2 none ∈ pmTs := pmM_39 (List.mem_of_getElem? (i := 2) rfl)
theorem tw_783 : Cond.methodLink R_Md 281 y_Md_begin ∈ pmTs := pmM_39 (List.mem_of_getElem? (i := 3) rfl)
theorem tw_784 : Cond.instanceMethod y_Md_begin ∈ pmTs := pmM_39 (List.mem_of_getElem? (i := 4) rfl)
theorem tw_785 : Cond.code y_Md_begin k_Md_begin 3 (some .int) ∈ pmTs := pmM_39 (List.mem_of_getElem? (i := 5) rfl)
theorem tw_786 : Cond.methodLink R_Md 187 y_Md_isPair ∈ pmTs := pmM_39 (List.mem_of_getElem? (i := 6) rfl)
theorem tw_787 : Cond.instanceMethod y_Md_isPair ∈ pmTs := pmM_39 (List.mem_of_getElem? (i := 7) rfl)
theorem tw_788 : Cond.code y_Md_isPair k_Md_isPair 2 (some .boolean) ∈ pmTs := pmM_39 (List.mem_of_getElem? (i := 8) rfl)
theorem tw_789 : Cond.methodLink R_Md 275 y_Md_putPlain ∈ pmTs := pmM_39 (List.mem_of_getElem? (i := 9) rfl)
theorem tw_790 : Cond.instanceMethod y_Md_putPlain ∈ pmTs := pmM_39 (List.mem_of_getElem? (i := 10) rfl)
theorem tw_791 : Cond.code y_Md_putPlain k_Md_putPlain 2 none ∈ pmTs := pmM_39 (List.mem_of_getElem? (i := 11) rfl)
theorem tw_792 : Cond.methodLink R_Md 251 y_Md_isNumber ∈ pmTs := pmM_39 (List.mem_of_getElem? (i := 12) rfl)
theorem tw_793 : Cond.static y_Md_isNumber ∈ pmTs := pmM_39 (List.mem_of_getElem? (i := 13) rfl)
theorem tw_794 : Cond.code y_Md_isNumber k_Md_isNumber 1 (some .boolean) ∈ pmTs := pmM_39 (List.mem_of_getElem? (i := 14) rfl)
theorem tw_795 : Cond.methodLink R_Md 269 y_Md_putNumber ∈ pmTs := pmM_39 (List.mem_of_getElem? (i := 15) rfl)
theorem tw_796 : Cond.instanceMethod y_Md_putNumber ∈ pmTs := pmM_39 (List.mem_of_getElem? (i := 16) rfl)
theorem tw_797 : Cond.code y_Md_putNumber k_Md_putNumber 4 none ∈ pmTs := pmM_39 (List.mem_of_getElem? (i := 17) rfl)
theorem tw_798 : Cond.methodLink R_Md 266 y_Md_put ∈ pmTs := pmM_39 (List.mem_of_getElem? (i := 18) rfl)
theorem tw_799 : Cond.instanceMethod y_Md_put ∈ pmTs := pmM_39 (List.mem_of_getElem? (i := 19) rfl)
theorem tw_800 : Cond.code y_Md_put k_Md_put 2 none ∈ pmTs := pmM_40 (List.mem_of_getElem? (i := 0) rfl)
theorem tw_801 : Cond.methodLink R_Md 205 y_Md_isSymbol ∈ pmTs := pmM_40 (List.mem_of_getElem? (i := 1) rfl)
theorem tw_802 : Cond.static y_Md_isSymbol ∈ pmTs := pmM_40 (List.mem_of_getElem? (i := 2) rfl)
theorem tw_803 : Cond.code y_Md_isSymbol k_Md_isSymbol 1 (some .boolean) ∈ pmTs := pmM_40 (List.mem_of_getElem? (i := 3) rfl)
theorem tw_804 : Cond.methodLink R_Md 272 y_Md_putName ∈ pmTs := pmM_40 (List.mem_of_getElem? (i := 4) rfl)
theorem tw_805 : Cond.instanceMethod y_Md_putName ∈ pmTs := pmM_40 (List.mem_of_getElem? (i := 5) rfl)
theorem tw_806 : Cond.code y_Md_putName k_Md_putName 3 none ∈ pmTs := pmM_40 (List.mem_of_getElem? (i := 6) rfl)
theorem tw_807 : Cond.methodLink R_Md 278 y_Md_putDots ∈ pmTs := pmM_40 (List.mem_of_getElem? (i := 7) rfl)
theorem tw_808 : Cond.instanceMethod y_Md_putDots ∈ pmTs := pmM_40 (List.mem_of_getElem? (i := 8) rfl)
theorem tw_809 : Cond.code y_Md_putDots k_Md_putDots 1 none ∈ pmTs := pmM_40 (List.mem_of_getElem? (i := 9) rfl)
theorem tw_810 : Cond.methodLink R_Md 284 y_Md_further ∈ pmTs := pmM_40 (List.mem_of_getElem? (i := 10) rfl)
theorem tw_811 : Cond.instanceMethod y_Md_further ∈ pmTs := pmM_40 (List.mem_of_getElem? (i := 11) rfl)
theorem tw_812 : Cond.code y_Md_further k_Md_further 3 (some .int) ∈ pmTs := pmM_40 (List.mem_of_getElem? (i := 12) rfl)
theorem tw_813 : Cond.methodLink R_Md 190 y_Md_cdr ∈ pmTs := pmM_40 (List.mem_of_getElem? (i := 13) rfl)
theorem tw_814 : Cond.instanceMethod y_Md_cdr ∈ pmTs := pmM_40 (List.mem_of_getElem? (i := 14) rfl)
theorem tw_815 : Cond.code y_Md_cdr k_Md_cdr 2 (some .int) ∈ pmTs := pmM_40 (List.mem_of_getElem? (i := 15) rfl)
theorem tw_816 : Cond.methodLink R_Md 193 y_Md_car ∈ pmTs := pmM_40 (List.mem_of_getElem? (i := 16) rfl)
theorem tw_817 : Cond.instanceMethod y_Md_car ∈ pmTs := pmM_40 (List.mem_of_getElem? (i := 17) rfl)
theorem tw_818 : Cond.code y_Md_car k_Md_car 2 (some .int) ∈ pmTs := pmM_40 (List.mem_of_getElem? (i := 18) rfl)
theorem tw_819 : Cond.methodLink R_Md 230 y_Md_clearAll ∈ pmTs := pmM_40 (List.mem_of_getElem? (i := 19) rfl)
theorem tw_820 : Cond.instanceMethod y_Md_clearAll ∈ pmTs := pmM_41 (List.mem_of_getElem? (i := 0) rfl)
theorem tw_821 : Cond.code y_Md_clearAll k_Md_clearAll 1 none ∈ pmTs := pmM_41 (List.mem_of_getElem? (i := 1) rfl)
theorem tw_822 : Cond.methodLink R_Md 233 y_Md_argument ∈ pmTs := pmM_41 (List.mem_of_getElem? (i := 2) rfl)
theorem tw_823 : Cond.instanceMethod y_Md_argument ∈ pmTs := pmM_41 (List.mem_of_getElem? (i := 3) rfl)
theorem tw_824 : Cond.code y_Md_argument k_Md_argument 3 (some .int) ∈ pmTs := pmM_41 (List.mem_of_getElem? (i := 4) rfl)
theorem tw_825 : Cond.methodLink R_Md 236 y_Md_apply ∈ pmTs := pmM_41 (List.mem_of_getElem? (i := 5) rfl)
theorem tw_826 : Cond.instanceMethod y_Md_apply ∈ pmTs := pmM_41 (List.mem_of_getElem? (i := 6) rfl)
theorem tw_827 : Cond.code y_Md_apply k_Md_apply 8 (some .int) ∈ pmTs := pmM_41 (List.mem_of_getElem? (i := 7) rfl)
theorem tw_828 : Cond.methodLink R_Md 202 y_Md_lengthOf ∈ pmTs := pmM_41 (List.mem_of_getElem? (i := 8) rfl)
theorem tw_829 : Cond.instanceMethod y_Md_lengthOf ∈ pmTs := pmM_41 (List.mem_of_getElem? (i := 9) rfl)
theorem tw_830 : Cond.code y_Md_lengthOf k_Md_lengthOf 4 (some .int) ∈ pmTs := pmM_41 (List.mem_of_getElem? (i := 10) rfl)
theorem tw_831 : Cond.methodLink R_Md 211 y_Md_at ∈ pmTs := pmM_41 (List.mem_of_getElem? (i := 11) rfl)
theorem tw_832 : Cond.instanceMethod y_Md_at ∈ pmTs := pmM_41 (List.mem_of_getElem? (i := 12) rfl)
theorem tw_833 : Cond.code y_Md_at k_Md_at 5 (some .int) ∈ pmTs := pmM_41 (List.mem_of_getElem? (i := 13) rfl)
theorem tw_834 : Cond.methodLink R_Md 239 y_Md_isClosure ∈ pmTs := pmM_41 (List.mem_of_getElem? (i := 14) rfl)
theorem tw_835 : Cond.instanceMethod y_Md_isClosure ∈ pmTs := pmM_41 (List.mem_of_getElem? (i := 15) rfl)
theorem tw_836 : Cond.code y_Md_isClosure k_Md_isClosure 2 (some .boolean) ∈ pmTs := pmM_41 (List.mem_of_getElem? (i := 16) rfl)
theorem tw_837 : Cond.methodLink R_Md 242 y_Md_enter ∈ pmTs := pmM_41 (List.mem_of_getElem? (i := 17) rfl)
theorem tw_838 : Cond.instanceMethod y_Md_enter ∈ pmTs := pmM_41 (List.mem_of_getElem? (i := 18) rfl)
theorem tw_839 : Cond.code y_Md_enter k_Md_enter 6 (some .int) ∈ pmTs := pmM_41 (List.mem_of_getElem? (i := 19) rfl)
theorem tw_840 : Cond.methodLink R_Md 218 y_Md_go ∈ pmTs := pmM_42 (List.mem_of_getElem? (i := 0) rfl)
theorem tw_841 : Cond.instanceMethod y_Md_go ∈ pmTs := pmM_42 (List.mem_of_getElem? (i := 1) rfl)
theorem tw_842 : Cond.code y_Md_go k_Md_go 3 (some .int) ∈ pmTs := pmM_42 (List.mem_of_getElem? (i := 2) rfl)
theorem tw_843 : Cond.methodLink R_Md 245 y_Md_listed ∈ pmTs := pmM_42 (List.mem_of_getElem? (i := 3) rfl)
theorem tw_844 : Cond.instanceMethod y_Md_listed ∈ pmTs := pmM_42 (List.mem_of_getElem? (i := 4) rfl)
theorem tw_845 : Cond.code y_Md_listed k_Md_listed 5 (some .int) ∈ pmTs := pmM_42 (List.mem_of_getElem? (i := 5) rfl)
theorem tw_846 : Cond.methodLink R_Md 248 y_Md_done ∈ pmTs := pmM_42 (List.mem_of_getElem? (i := 6) rfl)
theorem tw_847 : Cond.instanceMethod y_Md_done ∈ pmTs := pmM_42 (List.mem_of_getElem? (i := 7) rfl)
theorem tw_848 : Cond.code y_Md_done k_Md_done 2 (some .int) ∈ pmTs := pmM_42 (List.mem_of_getElem? (i := 8) rfl)
theorem tw_849 : Cond.methodLink R_Md 199 y_Md_give ∈ pmTs := pmM_42 (List.mem_of_getElem? (i := 9) rfl)
theorem tw_850 : Cond.instanceMethod y_Md_give ∈ pmTs := pmM_42 (List.mem_of_getElem? (i := 10) rfl)
theorem tw_851 : Cond.code y_Md_give k_Md_give 2 (some .int) ∈ pmTs := pmM_42 (List.mem_of_getElem? (i := 11) rfl)
theorem tw_852 : Cond.methodLink R_Md 196 y_Md_binding ∈ pmTs := pmM_42 (List.mem_of_getElem? (i := 12) rfl)
theorem tw_853 : Cond.instanceMethod y_Md_binding ∈ pmTs := pmM_42 (List.mem_of_getElem? (i := 13) rfl)
theorem tw_854 : Cond.code y_Md_binding k_Md_binding 4 (some .int) ∈ pmTs := pmM_42 (List.mem_of_getElem? (i := 14) rfl)
theorem tw_855 : Cond.methodLink R_Md 260 y_Md_evaluate ∈ pmTs := pmM_42 (List.mem_of_getElem? (i := 15) rfl)
theorem tw_856 : Cond.instanceMethod y_Md_evaluate ∈ pmTs := pmM_42 (List.mem_of_getElem? (i := 16) rfl)
theorem tw_857 : Cond.code y_Md_evaluate k_Md_evaluate 2 (some .int) ∈ pmTs := pmM_42 (List.mem_of_getElem? (i := 17) rfl)
theorem tw_858 : Cond.methodLink R_Md 221 y_Md_lookUp ∈ pmTs := pmM_42 (List.mem_of_getElem? (i := 18) rfl)
theorem tw_859 : Cond.instanceMethod y_Md_lookUp ∈ pmTs := pmM_42 (List.mem_of_getElem? (i := 19) rfl)
theorem tw_860 : Cond.code y_Md_lookUp k_Md_lookUp 3 (some .int) ∈ pmTs := pmM_43 (List.mem_of_getElem? (i := 0) rfl)
theorem tw_861 : Cond.methodLink R_Md 224 y_Md_special ∈ pmTs := pmM_43 (List.mem_of_getElem? (i := 1) rfl)
theorem tw_862 : Cond.instanceMethod y_Md_special ∈ pmTs := pmM_43 (List.mem_of_getElem? (i := 2) rfl)
theorem tw_863 : Cond.code y_Md_special k_Md_special 6 (some .int) ∈ pmTs := pmM_43 (List.mem_of_getElem? (i := 3) rfl)
theorem tw_864 : Cond.methodLink R_Md 208 y_Md_areParameters ∈ pmTs := pmM_43 (List.mem_of_getElem? (i := 4) rfl)
theorem tw_865 : Cond.instanceMethod y_Md_areParameters ∈ pmTs := pmM_43 (List.mem_of_getElem? (i := 5) rfl)
theorem tw_866 : Cond.code y_Md_areParameters k_Md_areParameters 4 (some .boolean) ∈ pmTs := pmM_43 (List.mem_of_getElem? (i := 6) rfl)
theorem tw_867 : Cond.methodLink R_Md 214 y_Md_push ∈ pmTs := pmM_43 (List.mem_of_getElem? (i := 7) rfl)
theorem tw_868 : Cond.instanceMethod y_Md_push ∈ pmTs := pmM_43 (List.mem_of_getElem? (i := 8) rfl)
theorem tw_869 : Cond.code y_Md_push k_Md_push 4 (some .int) ∈ pmTs := pmM_43 (List.mem_of_getElem? (i := 9) rfl)
theorem tw_870 : Cond.methodLink R_Law 35 y_Md_outSize ∈ pmTs := pmM_43 (List.mem_of_getElem? (i := 10) rfl)
theorem tw_871 : Cond.instanceMethod y_Md_outSize ∈ pmTs := pmM_43 (List.mem_of_getElem? (i := 11) rfl)
theorem tw_872 : Cond.selects y_Md_outSize.cls y_Md_outSize y_Md_outSize ∈ pmTs := pmM_43 (List.mem_of_getElem? (i := 12) rfl)
theorem tw_873 : Cond.code y_Md_outSize k_Md_outSize 1 (some .int) ∈ pmTs := pmM_43 (List.mem_of_getElem? (i := 13) rfl)
theorem tw_874 : Cond.methodLink R_Law 39 y_Md_out ∈ pmTs := pmM_43 (List.mem_of_getElem? (i := 14) rfl)
theorem tw_875 : Cond.instanceMethod y_Md_out ∈ pmTs := pmM_43 (List.mem_of_getElem? (i := 15) rfl)
theorem tw_876 : Cond.selects y_Md_out.cls y_Md_out y_Md_out ∈ pmTs := pmM_43 (List.mem_of_getElem? (i := 16) rfl)
theorem tw_877 : Cond.code y_Md_out k_Md_out 2 (some .int) ∈ pmTs := pmM_43 (List.mem_of_getElem? (i := 17) rfl)
theorem tw_878 : Cond.methodLink R_Law 43 y_Md_clearOut ∈ pmTs := pmM_43 (List.mem_of_getElem? (i := 18) rfl)
theorem tw_879 : Cond.instanceMethod y_Md_clearOut ∈ pmTs := pmM_43 (List.mem_of_getElem? (i := 19) rfl)
theorem tw_880 : Cond.selects y_Md_clearOut.cls y_Md_clearOut y_Md_clearOut ∈ pmTs := pmM_44 (List.mem_of_getElem? (i := 0) rfl)
theorem tw_881 : Cond.code y_Md_clearOut k_Md_clearOut 1 none ∈ pmTs := pmM_44 (List.mem_of_getElem? (i := 1) rfl)
theorem tw_882 : Cond.methodLink R_Law 47 y_Md_liveCells ∈ pmTs := pmM_44 (List.mem_of_getElem? (i := 2) rfl)
theorem tw_883 : Cond.instanceMethod y_Md_liveCells ∈ pmTs := pmM_44 (List.mem_of_getElem? (i := 3) rfl)
theorem tw_884 : Cond.selects y_Md_liveCells.cls y_Md_liveCells y_Md_liveCells ∈ pmTs := pmM_44 (List.mem_of_getElem? (i := 4) rfl)
theorem tw_885 : Cond.code y_Md_liveCells k_Md_liveCells 1 (some .int) ∈ pmTs := pmM_44 (List.mem_of_getElem? (i := 5) rfl)
theorem tw_886 : Cond.methodLink R_Law 51 y_Md_count ∈ pmTs := pmM_44 (List.mem_of_getElem? (i := 6) rfl)
theorem tw_887 : Cond.instanceMethod y_Md_count ∈ pmTs := pmM_44 (List.mem_of_getElem? (i := 7) rfl)
theorem tw_888 : Cond.selects y_Md_count.cls y_Md_count y_Md_count ∈ pmTs := pmM_44 (List.mem_of_getElem? (i := 8) rfl)
theorem tw_889 : Cond.code y_Md_count k_Md_count 2 (some .int) ∈ pmTs := pmM_44 (List.mem_of_getElem? (i := 9) rfl)
theorem tw_890 : Cond.fieldLink "java/lang/String" 9 "java/lang/String" "value" "[B" ∈ pmTs := pmM_44 (List.mem_of_getElem? (i := 10) rfl)
theorem tw_891 : Cond.fieldLink "java/lang/String" 15 "java/lang/String" "coder" "B" ∈ pmTs := pmM_44 (List.mem_of_getElem? (i := 11) rfl)
theorem fc_0 : pm_cls pmTs vwCl 0 R_CL T_CL 6 t_CL := ⟨rfl, fun _ h => pmM_L0 h, t_CL_ok, n_CL⟩
theorem fc_1 : pm_cls pmTs vwCl 1 R_Text T_Text 2 t_Text := ⟨rfl, fun _ h => pmM_L1 h, t_Text_ok, n_Text⟩
theorem fc_2 : pm_cls pmTs vwCl 2 R_Output T_Output 2 t_Output := ⟨rfl, fun _ h => pmM_L2 h, t_Output_ok, n_Output⟩
theorem fc_3 : pm_cls pmTs vwCl 3 R_Symbols T_Symbols 3 t_Symbols := ⟨rfl, fun _ h => pmM_L3 h, t_Symbols_ok, n_Symbols⟩
theorem fc_4 : pm_cls pmTs vwCl 4 R_State T_State 8 t_State := ⟨rfl, fun _ h => pmM_L4 h, t_State_ok, n_State⟩
theorem fc_5 : pm_cls pmTs vwCl 5 R_Room T_Room 13 t_Room := ⟨rfl, fun _ h => pmM_L5 h, t_Room_ok, n_Room⟩
theorem fc_6 : pm_cls pmTs vwCl 6 R_Machine T_Machine 7 t_Machine := ⟨rfl, fun _ h => pmM_L6 h, t_Machine_ok, n_Machine⟩
theorem fc_7 : pm_cls pmTs vwCl 7 R_Reader T_Reader 9 t_Reader := ⟨rfl, fun _ h => pmM_L7 h, t_Reader_ok, n_Reader⟩
theorem fc_8 : pm_cls pmTs vwCl 8 R_Printer T_Printer 3 t_Printer := ⟨rfl, fun _ h => pmM_L8 h, t_Printer_ok, n_Printer⟩
theorem fc_9 : pm_cls pmTs vwCl 9 R_Md T_Md 31 t_Md := ⟨rfl, fun _ h => pmM_L9 h, t_Md_ok, n_Md⟩
theorem mi_CL_feed : pm_mi pmTs y_CL_feed k_CL_feed 3 (some .boolean) 2 := ⟨tw_297, tw_90, ⟨by decide, by decide⟩, by decide +kernel⟩
theorem mi_Text_append : pm_mi pmTs y_Text_append k_Text_append 4 (some .boolean) 2 := ⟨tw_301, tw_91, ⟨by decide, by decide⟩, by decide +kernel⟩
theorem mi_Text_isCharacter : pm_mi pmTs y_Text_isCharacter k_Text_isCharacter 1 (some .boolean) 1 := ⟨tw_304, tw_91, ⟨by decide, by decide⟩, by decide +kernel⟩
theorem mi_CL_outSize : pm_mi pmTs y_CL_outSize k_CL_outSize 1 (some .int) 0 := ⟨tw_631, tw_90, ⟨by decide, by decide⟩, by decide +kernel⟩
theorem mi_CL_out : pm_mi pmTs y_CL_out k_CL_out 2 (some .int) 1 := ⟨tw_635, tw_90, ⟨by decide, by decide⟩, by decide +kernel⟩
theorem mi_Output_at : pm_mi pmTs y_Output_at k_Output_at 2 (some .int) 1 := ⟨tw_639, tw_92, ⟨by decide, by decide⟩, by decide +kernel⟩
theorem mi_CL_clearOut : pm_mi pmTs y_CL_clearOut k_CL_clearOut 1 none 0 := ⟨tw_643, tw_90, ⟨by decide, by decide⟩, by decide +kernel⟩
theorem mi_CL_liveCells : pm_mi pmTs y_CL_liveCells k_CL_liveCells 1 (some .int) 0 := ⟨tw_647, tw_90, ⟨by decide, by decide⟩, by decide +kernel⟩
theorem mi_Room_collect : pm_mi pmTs y_Room_collect k_Room_collect 3 none 0 := ⟨tw_369, tw_100, ⟨by decide, by decide⟩, by decide +kernel⟩
theorem mi_Room_reach : pm_mi pmTs y_Room_reach k_Room_reach 5 none 1 := ⟨tw_372, tw_100, ⟨by decide, by decide⟩, by decide +kernel⟩
theorem mi_Value_kind : pm_mi pmTs y_Value_kind k_Value_kind 1 (some .int) 1 := ⟨tw_375, tw_98, ⟨by decide, by decide⟩, by decide +kernel⟩
theorem mi_Value_content : pm_mi pmTs y_Value_content k_Value_content 1 (some .int) 1 := ⟨tw_378, tw_98, ⟨by decide, by decide⟩, by decide +kernel⟩
theorem mi_Room_freeUnreached : pm_mi pmTs y_Room_freeUnreached k_Room_freeUnreached 2 none 0 := ⟨tw_381, tw_100, ⟨by decide, by decide⟩, by decide +kernel⟩
theorem mi_CL_count : pm_mi pmTs y_CL_count k_CL_count 2 (some .int) 1 := ⟨tw_652, tw_90, ⟨by decide, by decide⟩, by decide +kernel⟩
theorem mi_Text_at : pm_mi pmTs y_Text_at k_Text_at 2 (some .char) 1 := ⟨tw_326, tw_91, ⟨by decide, by decide⟩, by decide +kernel⟩
theorem mi_Text_drop : pm_mi pmTs y_Text_drop k_Text_drop 4 none 1 := ⟨tw_414, tw_91, ⟨by decide, by decide⟩, by decide +kernel⟩
theorem mi_Text_pieceEnd : pm_mi pmTs y_Text_pieceEnd k_Text_pieceEnd 3 (some .int) 1 := ⟨tw_330, tw_91, ⟨by decide, by decide⟩, by decide +kernel⟩
theorem mi_Text_isOfWord : pm_mi pmTs y_Text_isOfWord k_Text_isOfWord 1 (some .boolean) 1 := ⟨tw_334, tw_91, ⟨by decide, by decide⟩, by decide +kernel⟩
theorem mi_Text_isBlank : pm_mi pmTs y_Text_isBlank k_Text_isBlank 1 (some .boolean) 1 := ⟨tw_337, tw_91, ⟨by decide, by decide⟩, by decide +kernel⟩
theorem mi_Text_isNumber : pm_mi pmTs y_Text_isNumber k_Text_isNumber 5 (some .boolean) 2 := ⟨tw_355, tw_91, ⟨by decide, by decide⟩, by decide +kernel⟩
theorem mi_Text_number : pm_mi pmTs y_Text_number k_Text_number 6 (some .int) 2 := ⟨tw_409, tw_91, ⟨by decide, by decide⟩, by decide +kernel⟩
theorem mi_Text_name : pm_mi pmTs y_Text_name k_Text_name 6 (some .long) 2 := ⟨tw_359, tw_91, ⟨by decide, by decide⟩, by decide +kernel⟩
theorem mi_Output_isFull : pm_mi pmTs y_Output_isFull k_Output_isFull 1 (some .boolean) 0 := ⟨tw_622, tw_92, ⟨by decide, by decide⟩, by decide +kernel⟩
theorem mi_Output_put : pm_mi pmTs y_Output_put k_Output_put 2 none 1 := ⟨tw_597, tw_92, ⟨by decide, by decide⟩, by decide +kernel⟩
theorem mi_Symbols_find : pm_mi pmTs y_Symbols_find k_Symbols_find 4 (some .int) 1 := ⟨tw_188, tw_93, ⟨by decide, by decide⟩, by decide +kernel⟩
theorem mi_Symbols_learn : pm_mi pmTs y_Symbols_learn k_Symbols_learn 3 (some .boolean) 1 := ⟨tw_184, tw_93, ⟨by decide, by decide⟩, by decide +kernel⟩
theorem mi_Symbols_name : pm_mi pmTs y_Symbols_name k_Symbols_name 2 (some .long) 1 := ⟨tw_605, tw_93, ⟨by decide, by decide⟩, by decide +kernel⟩
theorem mi_Symbols_global : pm_mi pmTs y_Symbols_global k_Symbols_global 2 (some .int) 1 := ⟨tw_453, tw_93, ⟨by decide, by decide⟩, by decide +kernel⟩
theorem mi_Symbols_setGlobal : pm_mi pmTs y_Symbols_setGlobal k_Symbols_setGlobal 3 none 2 := ⟨tw_525, tw_93, ⟨by decide, by decide⟩, by decide +kernel⟩
theorem mi_State_push : pm_mi pmTs y_State_push k_State_push 4 (some .boolean) 3 := ⟨tw_479, tw_99, ⟨by decide, by decide⟩, by decide +kernel⟩
theorem mi_State_pop : pm_mi pmTs y_State_pop k_State_pop 1 none 0 := ⟨tw_518, tw_99, ⟨by decide, by decide⟩, by decide +kernel⟩
theorem mi_State_kind : pm_mi pmTs y_State_kind k_State_kind 1 (some .int) 0 := ⟨tw_500, tw_99, ⟨by decide, by decide⟩, by decide +kernel⟩
theorem mi_State_hasTop : pm_mi pmTs y_State_hasTop k_State_hasTop 1 (some .boolean) 0 := ⟨tw_503, tw_99, ⟨by decide, by decide⟩, by decide +kernel⟩
theorem mi_State_a : pm_mi pmTs y_State_a k_State_a 1 (some .int) 0 := ⟨tw_510, tw_99, ⟨by decide, by decide⟩, by decide +kernel⟩
theorem mi_State_b : pm_mi pmTs y_State_b k_State_b 1 (some .int) 0 := ⟨tw_514, tw_99, ⟨by decide, by decide⟩, by decide +kernel⟩
theorem mi_State_c : pm_mi pmTs y_State_c k_State_c 1 (some .int) 0 := ⟨tw_536, tw_99, ⟨by decide, by decide⟩, by decide +kernel⟩
theorem mi_State_setA : pm_mi pmTs y_State_setA k_State_setA 2 none 1 := ⟨tw_548, tw_99, ⟨by decide, by decide⟩, by decide +kernel⟩
theorem mi_State_setC : pm_mi pmTs y_State_setC k_State_setC 2 none 1 := ⟨tw_541, tw_99, ⟨by decide, by decide⟩, by decide +kernel⟩
theorem mi_Room_hasFor : pm_mi pmTs y_Room_hasFor k_Room_hasFor 2 (some .boolean) 1 := ⟨tw_365, tw_100, ⟨by decide, by decide⟩, by decide +kernel⟩
theorem mi_Room_pair : pm_mi pmTs y_Room_pair k_Room_pair 3 (some .int) 2 := ⟨tw_392, tw_100, ⟨by decide, by decide⟩, by decide +kernel⟩
theorem mi_Room_make : pm_mi pmTs y_Room_make k_Room_make 6 (some .int) 4 := ⟨tw_395, tw_100, ⟨by decide, by decide⟩, by decide +kernel⟩
theorem mi_Room_closure : pm_mi pmTs y_Room_closure k_Room_closure 4 (some .int) 3 := ⟨tw_490, tw_100, ⟨by decide, by decide⟩, by decide +kernel⟩
theorem mi_Room_first : pm_mi pmTs y_Room_first k_Room_first 2 (some .int) 1 := ⟨tw_440, tw_100, ⟨by decide, by decide⟩, by decide +kernel⟩
theorem mi_Room_isHere : pm_mi pmTs y_Room_isHere k_Room_isHere 4 (some .boolean) 1 := ⟨tw_402, tw_100, ⟨by decide, by decide⟩, by decide +kernel⟩
theorem mi_Room_second : pm_mi pmTs y_Room_second k_Room_second 2 (some .int) 1 := ⟨tw_444, tw_100, ⟨by decide, by decide⟩, by decide +kernel⟩
theorem mi_Room_third : pm_mi pmTs y_Room_third k_Room_third 2 (some .int) 1 := ⟨tw_571, tw_100, ⟨by decide, by decide⟩, by decide +kernel⟩
theorem mi_Room_setSecond : pm_mi pmTs y_Room_setSecond k_Room_setSecond 3 none 2 := ⟨tw_399, tw_100, ⟨by decide, by decide⟩, by decide +kernel⟩
theorem mi_Room_length : pm_mi pmTs y_Room_length k_Room_length 4 (some .int) 1 := ⟨tw_462, tw_100, ⟨by decide, by decide⟩, by decide +kernel⟩
theorem mi_Value_isPair : pm_mi pmTs y_Value_isPair k_Value_isPair 1 (some .boolean) 1 := ⟨tw_436, tw_98, ⟨by decide, by decide⟩, by decide +kernel⟩
theorem mi_Room_tail : pm_mi pmTs y_Room_tail k_Room_tail 5 (some .int) 2 := ⟨tw_469, tw_100, ⟨by decide, by decide⟩, by decide +kernel⟩
theorem mi_Room_binding : pm_mi pmTs y_Room_binding k_Room_binding 5 (some .int) 2 := ⟨tw_433, tw_100, ⟨by decide, by decide⟩, by decide +kernel⟩
theorem mi_Machine_begin : pm_mi pmTs y_Machine_begin k_Machine_begin 2 (some .int) 0 := ⟨tw_315, tw_102, ⟨by decide, by decide⟩, by decide +kernel⟩
theorem mi_Reader_read : pm_mi pmTs y_Reader_read k_Reader_read 2 (some .int) 0 := ⟨tw_319, tw_103, ⟨by decide, by decide⟩, by decide +kernel⟩
theorem mi_Reader_findForm : pm_mi pmTs y_Reader_findForm k_Reader_findForm 6 (some .int) 0 := ⟨tw_322, tw_103, ⟨by decide, by decide⟩, by decide +kernel⟩
theorem mi_Reader_isFault : pm_mi pmTs y_Reader_isFault k_Reader_isFault 3 (some .boolean) 3 := ⟨tw_341, tw_103, ⟨by decide, by decide⟩, by decide +kernel⟩
theorem mi_Reader_cellsOfPiece : pm_mi pmTs y_Reader_cellsOfPiece k_Reader_cellsOfPiece 4 (some .int) 3 := ⟨tw_344, tw_103, ⟨by decide, by decide⟩, by decide +kernel⟩
theorem mi_Reader_learnSymbols : pm_mi pmTs y_Reader_learnSymbols k_Reader_learnSymbols 4 (some .boolean) 0 := ⟨tw_347, tw_103, ⟨by decide, by decide⟩, by decide +kernel⟩
theorem mi_Reader_isSymbol : pm_mi pmTs y_Reader_isSymbol k_Reader_isSymbol 3 (some .boolean) 2 := ⟨tw_350, tw_103, ⟨by decide, by decide⟩, by decide +kernel⟩
theorem mi_Reader_build : pm_mi pmTs y_Reader_build k_Reader_build 7 none 0 := ⟨tw_384, tw_103, ⟨by decide, by decide⟩, by decide +kernel⟩
theorem mi_Reader_place : pm_mi pmTs y_Reader_place k_Reader_place 6 none 3 := ⟨tw_387, tw_103, ⟨by decide, by decide⟩, by decide +kernel⟩
theorem mi_Value_of : pm_mi pmTs y_Value_of k_Value_of 2 (some .int) 2 := ⟨tw_191, tw_98, ⟨by decide, by decide⟩, by decide +kernel⟩
theorem mi_Reader_wordValue : pm_mi pmTs y_Reader_wordValue k_Reader_wordValue 4 (some .int) 2 := ⟨tw_405, tw_103, ⟨by decide, by decide⟩, by decide +kernel⟩
theorem mi_Machine_evaluateNext : pm_mi pmTs y_Machine_evaluateNext k_Machine_evaluateNext 3 (some .int) 2 := ⟨tw_419, tw_102, ⟨by decide, by decide⟩, by decide +kernel⟩
theorem mi_Machine_endForm : pm_mi pmTs y_Machine_endForm k_Machine_endForm 1 none 0 := ⟨tw_627, tw_102, ⟨by decide, by decide⟩, by decide +kernel⟩
theorem mi_Machine_returnNext : pm_mi pmTs y_Machine_returnNext k_Machine_returnNext 2 (some .int) 1 := ⟨tw_448, tw_102, ⟨by decide, by decide⟩, by decide +kernel⟩
theorem mi_Machine_evaluate : pm_mi pmTs y_Machine_evaluate k_Machine_evaluate 2 (some .int) 0 := ⟨tw_422, tw_102, ⟨by decide, by decide⟩, by decide +kernel⟩
theorem mi_Value_isSymbol : pm_mi pmTs y_Value_isSymbol k_Value_isSymbol 1 (some .boolean) 1 := ⟨tw_425, tw_98, ⟨by decide, by decide⟩, by decide +kernel⟩
theorem mi_Machine_evaluateSymbol : pm_mi pmTs y_Machine_evaluateSymbol k_Machine_evaluateSymbol 3 (some .int) 0 := ⟨tw_429, tw_102, ⟨by decide, by decide⟩, by decide +kernel⟩
theorem mi_Machine_evaluateQuote : pm_mi pmTs y_Machine_evaluateQuote k_Machine_evaluateQuote 1 (some .int) 0 := ⟨tw_458, tw_102, ⟨by decide, by decide⟩, by decide +kernel⟩
theorem mi_Machine_part : pm_mi pmTs y_Machine_part k_Machine_part 2 (some .int) 1 := ⟨tw_465, tw_102, ⟨by decide, by decide⟩, by decide +kernel⟩
theorem mi_Machine_evaluateIf : pm_mi pmTs y_Machine_evaluateIf k_Machine_evaluateIf 2 (some .int) 0 := ⟨tw_472, tw_102, ⟨by decide, by decide⟩, by decide +kernel⟩
theorem mi_Machine_evaluateUnder : pm_mi pmTs y_Machine_evaluateUnder k_Machine_evaluateUnder 5 (some .int) 4 := ⟨tw_475, tw_102, ⟨by decide, by decide⟩, by decide +kernel⟩
theorem mi_Machine_evaluateLambda : pm_mi pmTs y_Machine_evaluateLambda k_Machine_evaluateLambda 1 (some .int) 0 := ⟨tw_482, tw_102, ⟨by decide, by decide⟩, by decide +kernel⟩
theorem mi_Machine_areParameters : pm_mi pmTs y_Machine_areParameters k_Machine_areParameters 4 (some .boolean) 1 := ⟨tw_485, tw_102, ⟨by decide, by decide⟩, by decide +kernel⟩
theorem mi_Machine_evaluateNaming : pm_mi pmTs y_Machine_evaluateNaming k_Machine_evaluateNaming 3 (some .int) 2 := ⟨tw_493, tw_102, ⟨by decide, by decide⟩, by decide +kernel⟩
theorem mi_Machine_choose : pm_mi pmTs y_Machine_choose k_Machine_choose 3 (some .int) 0 := ⟨tw_506, tw_102, ⟨by decide, by decide⟩, by decide +kernel⟩
theorem mi_Machine_define : pm_mi pmTs y_Machine_define k_Machine_define 2 (some .int) 0 := ⟨tw_521, tw_102, ⟨by decide, by decide⟩, by decide +kernel⟩
theorem mi_Machine_assign : pm_mi pmTs y_Machine_assign k_Machine_assign 3 (some .int) 0 := ⟨tw_528, tw_102, ⟨by decide, by decide⟩, by decide +kernel⟩
theorem mi_Machine_keepValue : pm_mi pmTs y_Machine_keepValue k_Machine_keepValue 1 (some .boolean) 0 := ⟨tw_532, tw_102, ⟨by decide, by decide⟩, by decide +kernel⟩
theorem mi_Machine_nextArgument : pm_mi pmTs y_Machine_nextArgument k_Machine_nextArgument 2 (some .int) 0 := ⟨tw_544, tw_102, ⟨by decide, by decide⟩, by decide +kernel⟩
theorem mi_Machine_apply : pm_mi pmTs y_Machine_apply k_Machine_apply 5 (some .int) 0 := ⟨tw_551, tw_102, ⟨by decide, by decide⟩, by decide +kernel⟩
theorem mi_Machine_faultOfCall : pm_mi pmTs y_Machine_faultOfCall k_Machine_faultOfCall 3 (some .int) 2 := ⟨tw_554, tw_102, ⟨by decide, by decide⟩, by decide +kernel⟩
theorem mi_Machine_faultOfPrimitive : pm_mi pmTs y_Machine_faultOfPrimitive k_Machine_faultOfPrimitive 5 (some .int) 2 := ⟨tw_558, tw_102, ⟨by decide, by decide⟩, by decide +kernel⟩
theorem mi_Value_isNumber : pm_mi pmTs y_Value_isNumber k_Value_isNumber 1 (some .boolean) 1 := ⟨tw_561, tw_98, ⟨by decide, by decide⟩, by decide +kernel⟩
theorem mi_Machine_cellsOfCall : pm_mi pmTs y_Machine_cellsOfCall k_Machine_cellsOfCall 2 (some .int) 2 := ⟨tw_564, tw_102, ⟨by decide, by decide⟩, by decide +kernel⟩
theorem mi_Machine_primitiveResult : pm_mi pmTs y_Machine_primitiveResult k_Machine_primitiveResult 6 (some .int) 3 := ⟨tw_574, tw_102, ⟨by decide, by decide⟩, by decide +kernel⟩
theorem mi_Machine_truth : pm_mi pmTs y_Machine_truth k_Machine_truth 1 (some .int) 1 := ⟨tw_578, tw_102, ⟨by decide, by decide⟩, by decide +kernel⟩
theorem mi_Machine_listOf : pm_mi pmTs y_Machine_listOf k_Machine_listOf 6 (some .int) 2 := ⟨tw_581, tw_102, ⟨by decide, by decide⟩, by decide +kernel⟩
theorem mi_Machine_boundEnvironment : pm_mi pmTs y_Machine_boundEnvironment k_Machine_boundEnvironment 9 (some .int) 3 := ⟨tw_567, tw_102, ⟨by decide, by decide⟩, by decide +kernel⟩
theorem mi_Printer_printNumber : pm_mi pmTs y_Printer_printNumber k_Printer_printNumber 4 none 1 := ⟨tw_593, tw_104, ⟨by decide, by decide⟩, by decide +kernel⟩
theorem mi_Printer_printName : pm_mi pmTs y_Printer_printName k_Printer_printName 5 none 1 := ⟨tw_608, tw_104, ⟨by decide, by decide⟩, by decide +kernel⟩
theorem mi_Md_isNumber : pm_mi pmTs y_Md_isNumber k_Md_isNumber 1 (some .boolean) 1 := ⟨tw_794, tw_105, ⟨by decide, by decide⟩, by decide +kernel⟩
theorem mi_Md_isSymbol : pm_mi pmTs y_Md_isSymbol k_Md_isSymbol 1 (some .boolean) 1 := ⟨tw_803, tw_105, ⟨by decide, by decide⟩, by decide +kernel⟩
theorem mi_Md_isThing : pm_mi pmTs y_Md_isThing k_Md_isThing 1 (some .boolean) 1 := ⟨tw_749, tw_105, ⟨by decide, by decide⟩, by decide +kernel⟩
theorem mi_Md_isPair : pm_mi pmTs y_Md_isPair k_Md_isPair 2 (some .boolean) 1 := ⟨tw_788, tw_105, ⟨by decide, by decide⟩, by decide +kernel⟩
theorem mi_Md_isClosure : pm_mi pmTs y_Md_isClosure k_Md_isClosure 2 (some .boolean) 1 := ⟨tw_836, tw_105, ⟨by decide, by decide⟩, by decide +kernel⟩
theorem mi_Md_wrap : pm_mi pmTs y_Md_wrap k_Md_wrap 1 (some .int) 1 := ⟨tw_772, tw_105, ⟨by decide, by decide⟩, by decide +kernel⟩
theorem mi_Md_car : pm_mi pmTs y_Md_car k_Md_car 2 (some .int) 1 := ⟨tw_818, tw_105, ⟨by decide, by decide⟩, by decide +kernel⟩
theorem mi_Md_cdr : pm_mi pmTs y_Md_cdr k_Md_cdr 2 (some .int) 1 := ⟨tw_815, tw_105, ⟨by decide, by decide⟩, by decide +kernel⟩
theorem mi_Md_mark : pm_mi pmTs y_Md_mark k_Md_mark 2 none 1 := ⟨tw_746, tw_105, ⟨by decide, by decide⟩, by decide +kernel⟩
theorem mi_Md_live : pm_mi pmTs y_Md_live k_Md_live 4 (some .int) 0 := ⟨tw_743, tw_105, ⟨by decide, by decide⟩, by decide +kernel⟩
theorem mi_Md_room : pm_mi pmTs y_Md_room k_Md_room 4 (some .boolean) 1 := ⟨tw_740, tw_105, ⟨by decide, by decide⟩, by decide +kernel⟩
theorem mi_Md_make : pm_mi pmTs y_Md_make k_Md_make 6 (some .int) 4 := ⟨tw_763, tw_105, ⟨by decide, by decide⟩, by decide +kernel⟩
theorem mi_Md_pair : pm_mi pmTs y_Md_pair k_Md_pair 3 (some .int) 2 := ⟨tw_760, tw_105, ⟨by decide, by decide⟩, by decide +kernel⟩
theorem mi_Md_feed : pm_mi pmTs y_Md_feed k_Md_feed 5 (some .boolean) 2 := ⟨tw_703, tw_105, ⟨by decide, by decide⟩, by decide +kernel⟩
theorem mi_Md_isBlank : pm_mi pmTs y_Md_isBlank k_Md_isBlank 1 (some .boolean) 1 := ⟨tw_719, tw_105, ⟨by decide, by decide⟩, by decide +kernel⟩
theorem mi_Md_isSign : pm_mi pmTs y_Md_isSign k_Md_isSign 1 (some .boolean) 1 := ⟨tw_725, tw_105, ⟨by decide, by decide⟩, by decide +kernel⟩
theorem mi_Md_skip : pm_mi pmTs y_Md_skip k_Md_skip 3 (some .int) 1 := ⟨tw_716, tw_105, ⟨by decide, by decide⟩, by decide +kernel⟩
theorem mi_Md_tokenEnd : pm_mi pmTs y_Md_tokenEnd k_Md_tokenEnd 3 (some .int) 1 := ⟨tw_722, tw_105, ⟨by decide, by decide⟩, by decide +kernel⟩
theorem mi_Md_drop : pm_mi pmTs y_Md_drop k_Md_drop 3 none 1 := ⟨tw_776, tw_105, ⟨by decide, by decide⟩, by decide +kernel⟩
theorem mi_Md_isFigure : pm_mi pmTs y_Md_isFigure k_Md_isFigure 6 (some .boolean) 2 := ⟨tw_731, tw_105, ⟨by decide, by decide⟩, by decide +kernel⟩
theorem mi_Md_figure : pm_mi pmTs y_Md_figure k_Md_figure 5 (some .int) 2 := ⟨tw_769, tw_105, ⟨by decide, by decide⟩, by decide +kernel⟩
theorem mi_Md_isNil : pm_mi pmTs y_Md_isNil k_Md_isNil 3 (some .boolean) 2 := ⟨tw_734, tw_105, ⟨by decide, by decide⟩, by decide +kernel⟩
theorem mi_Md_symbolOf : pm_mi pmTs y_Md_symbolOf k_Md_symbolOf 6 (some .int) 2 := ⟨tw_737, tw_105, ⟨by decide, by decide⟩, by decide +kernel⟩
theorem mi_Md_atom : pm_mi pmTs y_Md_atom k_Md_atom 3 (some .int) 2 := ⟨tw_766, tw_105, ⟨by decide, by decide⟩, by decide +kernel⟩
theorem mi_Md_meet : pm_mi pmTs y_Md_meet k_Md_meet 4 (some .boolean) 2 := ⟨tw_728, tw_105, ⟨by decide, by decide⟩, by decide +kernel⟩
theorem mi_Md_lookOver : pm_mi pmTs y_Md_lookOver k_Md_lookOver 5 (some .int) 0 := ⟨tw_713, tw_105, ⟨by decide, by decide⟩, by decide +kernel⟩
theorem mi_Md_arrived : pm_mi pmTs y_Md_arrived k_Md_arrived 5 none 2 := ⟨tw_756, tw_105, ⟨by decide, by decide⟩, by decide +kernel⟩
theorem mi_Md_read : pm_mi pmTs y_Md_read k_Md_read 4 none 0 := ⟨tw_753, tw_105, ⟨by decide, by decide⟩, by decide +kernel⟩
theorem mi_Md_reading : pm_mi pmTs y_Md_reading k_Md_reading 4 (some .int) 0 := ⟨tw_710, tw_105, ⟨by decide, by decide⟩, by decide +kernel⟩
theorem mi_Md_push : pm_mi pmTs y_Md_push k_Md_push 4 (some .int) 3 := ⟨tw_869, tw_105, ⟨by decide, by decide⟩, by decide +kernel⟩
theorem mi_Md_give : pm_mi pmTs y_Md_give k_Md_give 2 (some .int) 1 := ⟨tw_851, tw_105, ⟨by decide, by decide⟩, by decide +kernel⟩
theorem mi_Md_go : pm_mi pmTs y_Md_go k_Md_go 3 (some .int) 2 := ⟨tw_842, tw_105, ⟨by decide, by decide⟩, by decide +kernel⟩
theorem mi_Md_lengthOf : pm_mi pmTs y_Md_lengthOf k_Md_lengthOf 4 (some .int) 1 := ⟨tw_830, tw_105, ⟨by decide, by decide⟩, by decide +kernel⟩
theorem mi_Md_at : pm_mi pmTs y_Md_at k_Md_at 5 (some .int) 2 := ⟨tw_833, tw_105, ⟨by decide, by decide⟩, by decide +kernel⟩
theorem mi_Md_binding : pm_mi pmTs y_Md_binding k_Md_binding 4 (some .int) 2 := ⟨tw_854, tw_105, ⟨by decide, by decide⟩, by decide +kernel⟩
theorem mi_Md_lookUp : pm_mi pmTs y_Md_lookUp k_Md_lookUp 3 (some .int) 0 := ⟨tw_860, tw_105, ⟨by decide, by decide⟩, by decide +kernel⟩
theorem mi_Md_areParameters : pm_mi pmTs y_Md_areParameters k_Md_areParameters 4 (some .boolean) 1 := ⟨tw_866, tw_105, ⟨by decide, by decide⟩, by decide +kernel⟩
theorem mi_Md_special : pm_mi pmTs y_Md_special k_Md_special 6 (some .int) 1 := ⟨tw_863, tw_105, ⟨by decide, by decide⟩, by decide +kernel⟩
theorem mi_Md_evaluate : pm_mi pmTs y_Md_evaluate k_Md_evaluate 2 (some .int) 0 := ⟨tw_857, tw_105, ⟨by decide, by decide⟩, by decide +kernel⟩
theorem mi_Md_back : pm_mi pmTs y_Md_back k_Md_back 5 (some .int) 0 := ⟨tw_779, tw_105, ⟨by decide, by decide⟩, by decide +kernel⟩
theorem mi_Md_argument : pm_mi pmTs y_Md_argument k_Md_argument 3 (some .int) 1 := ⟨tw_824, tw_105, ⟨by decide, by decide⟩, by decide +kernel⟩
theorem mi_Md_apply : pm_mi pmTs y_Md_apply k_Md_apply 8 (some .int) 1 := ⟨tw_827, tw_105, ⟨by decide, by decide⟩, by decide +kernel⟩
theorem mi_Md_listed : pm_mi pmTs y_Md_listed k_Md_listed 5 (some .int) 2 := ⟨tw_845, tw_105, ⟨by decide, by decide⟩, by decide +kernel⟩
theorem mi_Md_done : pm_mi pmTs y_Md_done k_Md_done 2 (some .int) 1 := ⟨tw_848, tw_105, ⟨by decide, by decide⟩, by decide +kernel⟩
theorem mi_Md_enter : pm_mi pmTs y_Md_enter k_Md_enter 6 (some .int) 3 := ⟨tw_839, tw_105, ⟨by decide, by decide⟩, by decide +kernel⟩
theorem mi_Md_print : pm_mi pmTs y_Md_print k_Md_print 2 none 0 := ⟨tw_782, tw_105, ⟨by decide, by decide⟩, by decide +kernel⟩
theorem mi_Md_begin : pm_mi pmTs y_Md_begin k_Md_begin 3 (some .int) 2 := ⟨tw_785, tw_105, ⟨by decide, by decide⟩, by decide +kernel⟩
theorem mi_Md_put : pm_mi pmTs y_Md_put k_Md_put 2 none 1 := ⟨tw_800, tw_105, ⟨by decide, by decide⟩, by decide +kernel⟩
theorem mi_Md_putDots : pm_mi pmTs y_Md_putDots k_Md_putDots 1 none 0 := ⟨tw_809, tw_105, ⟨by decide, by decide⟩, by decide +kernel⟩
theorem mi_Md_putPlain : pm_mi pmTs y_Md_putPlain k_Md_putPlain 2 none 1 := ⟨tw_791, tw_105, ⟨by decide, by decide⟩, by decide +kernel⟩
theorem mi_Md_putName : pm_mi pmTs y_Md_putName k_Md_putName 3 none 1 := ⟨tw_806, tw_105, ⟨by decide, by decide⟩, by decide +kernel⟩
theorem mi_Md_putNumber : pm_mi pmTs y_Md_putNumber k_Md_putNumber 4 none 1 := ⟨tw_797, tw_105, ⟨by decide, by decide⟩, by decide +kernel⟩
theorem mi_Md_further : pm_mi pmTs y_Md_further k_Md_further 3 (some .int) 1 := ⟨tw_812, tw_105, ⟨by decide, by decide⟩, by decide +kernel⟩
theorem mi_Md_clearAll : pm_mi pmTs y_Md_clearAll k_Md_clearAll 1 none 0 := ⟨tw_821, tw_105, ⟨by decide, by decide⟩, by decide +kernel⟩
theorem mi_Md_run : pm_mi pmTs y_Md_run k_Md_run 4 (some .int) 1 := ⟨tw_707, tw_105, ⟨by decide, by decide⟩, by decide +kernel⟩
theorem mi_Md_outSize : pm_mi pmTs y_Md_outSize k_Md_outSize 1 (some .int) 0 := ⟨tw_873, tw_105, ⟨by decide, by decide⟩, by decide +kernel⟩
theorem mi_Md_out : pm_mi pmTs y_Md_out k_Md_out 2 (some .int) 1 := ⟨tw_877, tw_105, ⟨by decide, by decide⟩, by decide +kernel⟩
theorem mi_Md_clearOut : pm_mi pmTs y_Md_clearOut k_Md_clearOut 1 none 0 := ⟨tw_881, tw_105, ⟨by decide, by decide⟩, by decide +kernel⟩
theorem mi_Md_liveCells : pm_mi pmTs y_Md_liveCells k_Md_liveCells 1 (some .int) 0 := ⟨tw_885, tw_105, ⟨by decide, by decide⟩, by decide +kernel⟩
theorem mi_Md_count : pm_mi pmTs y_Md_count k_Md_count 2 (some .int) 1 := ⟨tw_889, tw_105, ⟨by decide, by decide⟩, by decide +kernel⟩
