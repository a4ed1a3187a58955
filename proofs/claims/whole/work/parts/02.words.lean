theorem x_all : GoodIn x_tb x_tb := fun w hw => ⟨hw, good_of_word (List.mem_filter.mp hw).2⟩
theorem x_g {c : Cond} (h : c ∈ x_tb) : GoodIn x_tb (c :: x_tb) := fun w hw => x_all w ((List.mem_cons.mp hw).elim (fun e => e ▸ h) id)
theorem x_gS {own : String} {idx : Nat} {y : MethodName} {c : Cond} (h1 : Cond.methodLink own idx y ∈ x_tb) (h2 : Cond.static y ∈ x_tb) (h3 : Cond.initialized y.cls ∈ x_tb) (h4 : c ∈ x_tb) : GoodIn x_tb (va_wsS own idx y (c :: x_tb)) := fun w hw => by
  unfold va_wsS at hw
  rcases List.mem_append.mp hw with h | h
  · simp only [List.mem_cons, List.not_mem_nil, or_false] at h
    rcases h with rfl | rfl | rfl
    · exact x_all _ h1
    · exact x_all _ h2
    · exact x_all _ h3
  · exact x_g h4 w h
theorem x_gV {own C : String} {idx : Nat} {y : MethodName} {c : Cond} (h1 : Cond.methodLink own idx y ∈ x_tb) (h2 : Cond.instanceMethod y ∈ x_tb) (h3 : Cond.selects C y y ∈ x_tb) (h4 : Cond.initialized C ∈ x_tb) (h5 : c ∈ x_tb) : GoodIn x_tb (wsV own idx C y (c :: x_tb)) := fun w hw => by
  unfold wsV at hw
  rcases List.mem_append.mp hw with h | h
  · simp only [List.mem_cons, List.not_mem_nil, or_false] at h
    rcases h with rfl | rfl | rfl | rfl
    · exact x_all _ h1
    · exact x_all _ h2
    · exact x_all _ h3
    · exact x_all _ h4
  · exact x_g h5 w h
def x_nM : List (String × Nat × MethodName × String) := [(R_Packer, 78, y_P_fixedLength, "PieceRow"), (R_Unpacker, 49, y_P_fixedLength, "PieceRow"), (R_Packer, 175, y_P_lengthSymbol, "PieceRow"), (R_Packer, 179, y_P_distanceSymbol, "PieceRow"), (R_Packer, 182, y_P_lengthExtra, "PieceRow"), (R_Packer, 185, y_P_distanceExtra, "PieceRow"), (R_Header, 109, y_P_repeatBase, "PieceRow"), (R_Header, 68, y_P_repeatExtra, "PieceRow"), (R_Packer, 195, y_P_lengthBase, "PieceRow"), (R_Packer, 198, y_P_distanceBase, "PieceRow"), (R_Packer, 119, y_P_checkOf, "PieceRow"), (R_Unpacker, 139, y_P_lengthExtra, "PieceRow"), (R_Unpacker, 142, y_P_distanceExtra, "PieceRow"), (R_Unpacker, 145, y_P_lengthBase, "PieceRow"), (R_Unpacker, 148, y_P_distanceBase, "PieceRow"), (R_Unpacker, 129, y_P_repeatExtra, "PieceRow"), (R_Unpacker, 132, y_P_repeatBase, "PieceRow"), (R_Unpacker, 107, y_P_checkOf, "PieceRow"), (R_M, 87, y_Tree_init, "PieceRowModel")]
def x_nF : List (String × Nat × String × String × String × String) := [(R_Packer, 75, "PieceRow$Code", "lengths", "[I", "PieceRow"), (R_Header, 41, "PieceRow$Code", "lengths", "[I", "PieceRow"), (R_Header, 53, "PieceRow", "LENGTH_ORDER", "[I", "PieceRow"), (R_Unpacker, 118, "PieceRow", "LENGTH_ORDER", "[I", "PieceRow"), (R_M, 238, "PieceRowModel$Tree", "next", "[I", "PieceRowModel")]
set_option maxRecDepth 100000 in
theorem tw_0 : Cond.selects R_Table y_Table_sort y_Table_sort ∈ x_tb := x_in (List.mem_of_getElem? (i := 0) rfl) rfl
set_option maxRecDepth 100000 in
theorem tw_1 : Cond.selects R_P y_P_openLength y_P_openLength ∈ x_tb := x_in (List.mem_of_getElem? (i := 1) rfl) rfl
set_option maxRecDepth 100000 in
theorem tw_2 : Cond.selects R_P y_P_closePiece y_P_closePiece ∈ x_tb := x_in (List.mem_of_getElem? (i := 2) rfl) rfl
set_option maxRecDepth 100000 in
theorem tw_3 : Cond.selects R_Packer y_Packer_packPart y_Packer_packPart ∈ x_tb := x_in (List.mem_of_getElem? (i := 3) rfl) rfl
set_option maxRecDepth 100000 in
theorem tw_4 : Cond.selects R_Packer y_Packer_collectTokens y_Packer_collectTokens ∈ x_tb := x_in (List.mem_of_getElem? (i := 4) rfl) rfl
set_option maxRecDepth 100000 in
theorem tw_5 : Cond.selects R_Matches y_Matches_sameBytes y_Matches_sameBytes ∈ x_tb := x_in (List.mem_of_getElem? (i := 5) rfl) rfl
set_option maxRecDepth 100000 in
theorem tw_6 : Cond.selects R_Packer y_Packer_addToken y_Packer_addToken ∈ x_tb := x_in (List.mem_of_getElem? (i := 6) rfl) rfl
set_option maxRecDepth 100000 in
theorem tw_7 : Cond.selects R_Lists y_Lists_sort y_Lists_sort ∈ x_tb := x_in (List.mem_of_getElem? (i := 7) rfl) rfl
set_option maxRecDepth 100000 in
theorem tw_8 : Cond.selects R_Lists y_Lists_insert y_Lists_insert ∈ x_tb := x_in (List.mem_of_getElem? (i := 8) rfl) rfl
set_option maxRecDepth 100000 in
theorem tw_9 : Cond.selects R_Lists y_Lists_makeList y_Lists_makeList ∈ x_tb := x_in (List.mem_of_getElem? (i := 9) rfl) rfl
set_option maxRecDepth 100000 in
theorem tw_10 : Cond.selects R_Lists y_Lists_take y_Lists_take ∈ x_tb := x_in (List.mem_of_getElem? (i := 10) rfl) rfl
set_option maxRecDepth 100000 in
theorem tw_11 : Cond.selects R_Packer y_Packer_bitsWith y_Packer_bitsWith ∈ x_tb := x_in (List.mem_of_getElem? (i := 11) rfl) rfl
set_option maxRecDepth 100000 in
theorem tw_12 : Cond.selects R_Header y_Header_gather y_Header_gather ∈ x_tb := x_in (List.mem_of_getElem? (i := 12) rfl) rfl
set_option maxRecDepth 100000 in
theorem tw_13 : Cond.selects R_Header y_Header_tellRow y_Header_tellRow ∈ x_tb := x_in (List.mem_of_getElem? (i := 13) rfl) rfl
set_option maxRecDepth 100000 in
theorem tw_14 : Cond.selects R_Header y_Header_tellStretch y_Header_tellStretch ∈ x_tb := x_in (List.mem_of_getElem? (i := 14) rfl) rfl
set_option maxRecDepth 100000 in
theorem tw_15 : Cond.selects R_Header y_Header_tell y_Header_tell ∈ x_tb := x_in (List.mem_of_getElem? (i := 15) rfl) rfl
set_option maxRecDepth 100000 in
theorem tw_16 : Cond.selects R_Packer y_Packer_writeStored y_Packer_writeStored ∈ x_tb := x_in (List.mem_of_getElem? (i := 16) rfl) rfl
set_option maxRecDepth 100000 in
theorem tw_17 : Cond.selects R_Packer y_Packer_writeTokens y_Packer_writeTokens ∈ x_tb := x_in (List.mem_of_getElem? (i := 17) rfl) rfl
set_option maxRecDepth 100000 in
theorem tw_18 : Cond.selects R_P y_P_addHead y_P_addHead ∈ x_tb := x_in (List.mem_of_getElem? (i := 18) rfl) rfl
set_option maxRecDepth 100000 in
theorem tw_19 : Cond.selects R_P y_P_findPieces y_P_findPieces ∈ x_tb := x_in (List.mem_of_getElem? (i := 19) rfl) rfl
set_option maxRecDepth 100000 in
theorem tw_20 : Cond.selects R_P y_P_headAt y_P_headAt ∈ x_tb := x_in (List.mem_of_getElem? (i := 20) rfl) rfl
set_option maxRecDepth 100000 in
theorem tw_21 : Cond.selects R_P y_P_readPieces y_P_readPieces ∈ x_tb := x_in (List.mem_of_getElem? (i := 21) rfl) rfl
set_option maxRecDepth 100000 in
theorem tw_22 : Cond.selects R_Unpacker y_Unpacker_beginningHolds y_Unpacker_beginningHolds ∈ x_tb := x_in (List.mem_of_getElem? (i := 22) rfl) rfl
set_option maxRecDepth 100000 in
theorem tw_23 : Cond.selects R_Unpacker y_Unpacker_copyStored y_Unpacker_copyStored ∈ x_tb := x_in (List.mem_of_getElem? (i := 23) rfl) rfl
set_option maxRecDepth 100000 in
theorem tw_24 : Cond.selects R_Unpacker y_Unpacker_made y_Unpacker_made ∈ x_tb := x_in (List.mem_of_getElem? (i := 24) rfl) rfl
set_option maxRecDepth 100000 in
theorem tw_25 : Cond.selects R_Unpacker y_Unpacker_followSymbols y_Unpacker_followSymbols ∈ x_tb := x_in (List.mem_of_getElem? (i := 25) rfl) rfl
set_option maxRecDepth 100000 in
theorem tw_26 : Cond.selects R_Unpacker y_Unpacker_repeatBytes y_Unpacker_repeatBytes ∈ x_tb := x_in (List.mem_of_getElem? (i := 26) rfl) rfl
set_option maxRecDepth 100000 in
theorem tw_27 : Cond.selects R_Unpacker y_Unpacker_makeCodes y_Unpacker_makeCodes ∈ x_tb := x_in (List.mem_of_getElem? (i := 27) rfl) rfl
set_option maxRecDepth 100000 in
theorem tw_28 : Cond.selects R_Unpacker y_Unpacker_readLengths y_Unpacker_readLengths ∈ x_tb := x_in (List.mem_of_getElem? (i := 28) rfl) rfl
set_option maxRecDepth 100000 in
theorem tw_29 : Cond.selects R_Unpacker y_Unpacker_checkHolds y_Unpacker_checkHolds ∈ x_tb := x_in (List.mem_of_getElem? (i := 29) rfl) rfl
set_option maxRecDepth 100000 in
theorem tw_30 : Cond.selects R_M y_M_putByte y_M_putByte ∈ x_tb := x_in (List.mem_of_getElem? (i := 30) rfl) rfl
set_option maxRecDepth 100000 in
theorem tw_31 : Cond.selects R_M y_M_closePiece y_M_closePiece ∈ x_tb := x_in (List.mem_of_getElem? (i := 31) rfl) rfl
set_option maxRecDepth 100000 in
theorem tw_32 : Cond.selects R_M y_M_pack y_M_pack ∈ x_tb := x_in (List.mem_of_getElem? (i := 32) rfl) rfl
set_option maxRecDepth 100000 in
theorem tw_33 : Cond.selects R_M y_M_notePairs y_M_notePairs ∈ x_tb := x_in (List.mem_of_getElem? (i := 33) rfl) rfl
set_option maxRecDepth 100000 in
theorem tw_34 : Cond.selects R_M y_M_writeNumber y_M_writeNumber ∈ x_tb := x_in (List.mem_of_getElem? (i := 34) rfl) rfl
set_option maxRecDepth 100000 in
theorem tw_35 : Cond.selects R_M y_M_writeBit y_M_writeBit ∈ x_tb := x_in (List.mem_of_getElem? (i := 35) rfl) rfl
set_option maxRecDepth 100000 in
theorem tw_36 : Cond.selects R_M y_M_packPart y_M_packPart ∈ x_tb := x_in (List.mem_of_getElem? (i := 36) rfl) rfl
set_option maxRecDepth 100000 in
theorem tw_37 : Cond.selects R_M y_M_cutPart y_M_cutPart ∈ x_tb := x_in (List.mem_of_getElem? (i := 37) rfl) rfl
set_option maxRecDepth 100000 in
theorem tw_38 : Cond.selects R_M y_M_countTokens y_M_countTokens ∈ x_tb := x_in (List.mem_of_getElem? (i := 38) rfl) rfl
set_option maxRecDepth 100000 in
theorem tw_39 : Cond.selects R_M y_M_findLengths y_M_findLengths ∈ x_tb := x_in (List.mem_of_getElem? (i := 39) rfl) rfl
set_option maxRecDepth 100000 in
theorem tw_40 : Cond.selects R_M y_M_rank y_M_rank ∈ x_tb := x_in (List.mem_of_getElem? (i := 40) rfl) rfl
set_option maxRecDepth 100000 in
theorem tw_41 : Cond.selects R_M y_M_takeItem y_M_takeItem ∈ x_tb := x_in (List.mem_of_getElem? (i := 41) rfl) rfl
set_option maxRecDepth 100000 in
theorem tw_42 : Cond.selects R_M y_M_needed y_M_needed ∈ x_tb := x_in (List.mem_of_getElem? (i := 42) rfl) rfl
set_option maxRecDepth 100000 in
theorem tw_43 : Cond.selects R_M y_M_tellRow y_M_tellRow ∈ x_tb := x_in (List.mem_of_getElem? (i := 43) rfl) rfl
set_option maxRecDepth 100000 in
theorem tw_44 : Cond.selects R_M y_M_tell y_M_tell ∈ x_tb := x_in (List.mem_of_getElem? (i := 44) rfl) rfl
set_option maxRecDepth 100000 in
theorem tw_45 : Cond.selects R_M y_M_bitsBy y_M_bitsBy ∈ x_tb := x_in (List.mem_of_getElem? (i := 45) rfl) rfl
set_option maxRecDepth 100000 in
theorem tw_46 : Cond.selects R_M y_M_makeFixed y_M_makeFixed ∈ x_tb := x_in (List.mem_of_getElem? (i := 46) rfl) rfl
set_option maxRecDepth 100000 in
theorem tw_47 : Cond.selects R_M y_M_endByte y_M_endByte ∈ x_tb := x_in (List.mem_of_getElem? (i := 47) rfl) rfl
set_option maxRecDepth 100000 in
theorem tw_48 : Cond.selects R_M y_M_writeTokens y_M_writeTokens ∈ x_tb := x_in (List.mem_of_getElem? (i := 48) rfl) rfl
set_option maxRecDepth 100000 in
theorem tw_49 : Cond.selects R_M y_M_makeCodes y_M_makeCodes ∈ x_tb := x_in (List.mem_of_getElem? (i := 49) rfl) rfl
set_option maxRecDepth 100000 in
theorem tw_50 : Cond.selects R_M y_M_writeCode y_M_writeCode ∈ x_tb := x_in (List.mem_of_getElem? (i := 50) rfl) rfl
set_option maxRecDepth 100000 in
theorem tw_51 : Cond.selects R_M y_M_add y_M_add ∈ x_tb := x_in (List.mem_of_getElem? (i := 51) rfl) rfl
set_option maxRecDepth 100000 in
theorem tw_52 : Cond.selects R_M y_M_areHeads y_M_areHeads ∈ x_tb := x_in (List.mem_of_getElem? (i := 52) rfl) rfl
set_option maxRecDepth 100000 in
theorem tw_53 : Cond.selects R_M y_M_headAt y_M_headAt ∈ x_tb := x_in (List.mem_of_getElem? (i := 53) rfl) rfl
set_option maxRecDepth 100000 in
theorem tw_54 : Cond.selects R_M y_M_readAll y_M_readAll ∈ x_tb := x_in (List.mem_of_getElem? (i := 54) rfl) rfl
set_option maxRecDepth 100000 in
theorem tw_55 : Cond.selects R_M y_M_unpack y_M_unpack ∈ x_tb := x_in (List.mem_of_getElem? (i := 55) rfl) rfl
set_option maxRecDepth 100000 in
theorem tw_56 : Cond.selects R_M y_M_readNumber y_M_readNumber ∈ x_tb := x_in (List.mem_of_getElem? (i := 56) rfl) rfl
set_option maxRecDepth 100000 in
theorem tw_57 : Cond.selects R_M y_M_readBit y_M_readBit ∈ x_tb := x_in (List.mem_of_getElem? (i := 57) rfl) rfl
set_option maxRecDepth 100000 in
theorem tw_58 : Cond.selects R_M y_M_readStored y_M_readStored ∈ x_tb := x_in (List.mem_of_getElem? (i := 58) rfl) rfl
set_option maxRecDepth 100000 in
theorem tw_59 : Cond.selects R_M y_M_toByte y_M_toByte ∈ x_tb := x_in (List.mem_of_getElem? (i := 59) rfl) rfl
set_option maxRecDepth 100000 in
theorem tw_60 : Cond.selects R_M y_M_makeByte y_M_makeByte ∈ x_tb := x_in (List.mem_of_getElem? (i := 60) rfl) rfl
set_option maxRecDepth 100000 in
theorem tw_61 : Cond.selects R_Tree y_Tree_grow y_Tree_grow ∈ x_tb := x_in (List.mem_of_getElem? (i := 61) rfl) rfl
set_option maxRecDepth 100000 in
theorem tw_62 : Cond.selects R_M y_M_readSymbols y_M_readSymbols ∈ x_tb := x_in (List.mem_of_getElem? (i := 62) rfl) rfl
set_option maxRecDepth 100000 in
theorem tw_63 : Cond.selects R_M y_M_readSymbol y_M_readSymbol ∈ x_tb := x_in (List.mem_of_getElem? (i := 63) rfl) rfl
set_option maxRecDepth 100000 in
theorem tw_64 : Cond.selects R_M y_M_readMade y_M_readMade ∈ x_tb := x_in (List.mem_of_getElem? (i := 64) rfl) rfl
set_option maxRecDepth 100000 in
theorem tw_65 : Cond.initialized R_Law ∈ x_tb := x_in (List.mem_of_getElem? (i := 65) rfl) rfl
set_option maxRecDepth 100000 in
theorem tw_66 : Cond.initialized R_P ∈ x_tb := x_in (List.mem_of_getElem? (i := 66) rfl) rfl
set_option maxRecDepth 100000 in
theorem tw_67 : Cond.initialized R_Bytes ∈ x_tb := x_in (List.mem_of_getElem? (i := 67) rfl) rfl
set_option maxRecDepth 100000 in
theorem tw_68 : Cond.initialized "java/lang/Math" ∈ x_tb := x_in (List.mem_of_getElem? (i := 68) rfl) rfl
set_option maxRecDepth 100000 in
theorem tw_69 : Cond.initialized R_Packer ∈ x_tb := x_in (List.mem_of_getElem? (i := 69) rfl) rfl
set_option maxRecDepth 100000 in
theorem tw_70 : Cond.initialized R_BitWriter ∈ x_tb := x_in (List.mem_of_getElem? (i := 70) rfl) rfl
set_option maxRecDepth 100000 in
theorem tw_71 : Cond.initialized R_Matches ∈ x_tb := x_in (List.mem_of_getElem? (i := 71) rfl) rfl
set_option maxRecDepth 100000 in
theorem tw_72 : Cond.initialized R_Lists ∈ x_tb := x_in (List.mem_of_getElem? (i := 72) rfl) rfl
set_option maxRecDepth 100000 in
theorem tw_73 : Cond.initialized R_Header ∈ x_tb := x_in (List.mem_of_getElem? (i := 73) rfl) rfl
set_option maxRecDepth 100000 in
theorem tw_74 : Cond.initialized R_Code ∈ x_tb := x_in (List.mem_of_getElem? (i := 74) rfl) rfl
set_option maxRecDepth 100000 in
theorem tw_75 : Cond.initialized R_Arr ∈ x_tb := x_in (List.mem_of_getElem? (i := 75) rfl) rfl
set_option maxRecDepth 100000 in
theorem tw_76 : Cond.initialized R_Unpacker ∈ x_tb := x_in (List.mem_of_getElem? (i := 76) rfl) rfl
set_option maxRecDepth 100000 in
theorem tw_77 : Cond.initialized R_BitReader ∈ x_tb := x_in (List.mem_of_getElem? (i := 77) rfl) rfl
set_option maxRecDepth 100000 in
theorem tw_78 : Cond.initialized R_Table ∈ x_tb := x_in (List.mem_of_getElem? (i := 78) rfl) rfl
set_option maxRecDepth 100000 in
theorem tw_79 : Cond.initialized R_M ∈ x_tb := x_in (List.mem_of_getElem? (i := 79) rfl) rfl
set_option maxRecDepth 100000 in
theorem tw_80 : Cond.initialized R_Tree ∈ x_tb := x_in (List.mem_of_getElem? (i := 80) rfl) rfl
set_option maxRecDepth 100000 in
theorem tw_81 : Cond.initialized "java/lang/System" ∈ x_tb := x_in (List.mem_of_getElem? (i := 81) rfl) rfl
set_option maxRecDepth 100000 in
theorem tw_82 : Cond.classLink R_Law 7 R_P ∈ x_tb := x_in (List.mem_of_getElem? (i := 82) rfl) rfl
set_option maxRecDepth 100000 in
theorem tw_83 : Cond.instantiable R_P 10 ∈ x_tb := x_in (List.mem_of_getElem? (i := 83) rfl) rfl
set_option maxRecDepth 100000 in
theorem tw_84 : Cond.methodLink R_Law 9 y_P_init ∈ x_tb := x_in (List.mem_of_getElem? (i := 84) rfl) rfl
set_option maxRecDepth 100000 in
theorem tw_85 : Cond.instanceMethod y_P_init ∈ x_tb := x_in (List.mem_of_getElem? (i := 85) rfl) rfl
set_option maxRecDepth 100000 in
theorem tw_86 : Cond.code y_P_init b_P_init 1 none ∈ x_tb := x_in (List.mem_of_getElem? (i := 86) rfl) rfl
set_option maxRecDepth 100000 in
theorem tw_87 : Cond.methodLink R_P 1 objectInit ∈ x_tb := x_in (List.mem_of_getElem? (i := 87) rfl) rfl
set_option maxRecDepth 100000 in
theorem tw_88 : Cond.instanceMethod objectInit ∈ x_tb := x_in (List.mem_of_getElem? (i := 88) rfl) rfl
set_option maxRecDepth 100000 in
theorem tw_89 : Cond.code objectInit ⟨#[0xb1]⟩ 1 none ∈ x_tb := x_in (List.mem_of_getElem? (i := 89) rfl) rfl
set_option maxRecDepth 100000 in
theorem tw_90 : Cond.classLink R_P 7 R_Bytes ∈ x_tb := x_in (List.mem_of_getElem? (i := 90) rfl) rfl
set_option maxRecDepth 100000 in
theorem tw_91 : Cond.instantiable R_Bytes 2 ∈ x_tb := x_in (List.mem_of_getElem? (i := 91) rfl) rfl
set_option maxRecDepth 100000 in
theorem tw_92 : Cond.methodLink R_P 11 y_Bytes_init ∈ x_tb := x_in (List.mem_of_getElem? (i := 92) rfl) rfl
set_option maxRecDepth 100000 in
theorem tw_93 : Cond.instanceMethod y_Bytes_init ∈ x_tb := x_in (List.mem_of_getElem? (i := 93) rfl) rfl
set_option maxRecDepth 100000 in
theorem tw_94 : Cond.code y_Bytes_init b_Bytes_init 2 none ∈ x_tb := x_in (List.mem_of_getElem? (i := 94) rfl) rfl
set_option maxRecDepth 100000 in
theorem tw_95 : Cond.methodLink R_Bytes 1 objectInit ∈ x_tb := x_in (List.mem_of_getElem? (i := 95) rfl) rfl
set_option maxRecDepth 100000 in
theorem tw_96 : Cond.methodLink R_Bytes 7 Lib.Math.max.name ∈ x_tb := x_in (List.mem_of_getElem? (i := 96) rfl) rfl
set_option maxRecDepth 100000 in
theorem tw_97 : Cond.static Lib.Math.max.name ∈ x_tb := x_in (List.mem_of_getElem? (i := 97) rfl) rfl
set_option maxRecDepth 100000 in
theorem tw_98 : Cond.code Lib.Math.max.name Lib.Math.max.code 2 (some .int) ∈ x_tb := x_in (List.mem_of_getElem? (i := 98) rfl) rfl
set_option maxRecDepth 100000 in
theorem tw_99 : Cond.fieldLink R_Bytes 13 "PieceRow$Bytes" "data" "[B" ∈ x_tb := x_in (List.mem_of_getElem? (i := 99) rfl) rfl
set_option maxRecDepth 100000 in
theorem tw_100 : Cond.fieldLink R_Bytes 19 "PieceRow$Bytes" "length" "I" ∈ x_tb := x_in (List.mem_of_getElem? (i := 100) rfl) rfl
set_option maxRecDepth 100000 in
theorem tw_106 : Cond.arrayClass .byte ∈ x_tb := x_in (List.mem_of_getElem? (i := 106) rfl) rfl
set_option maxRecDepth 100000 in
theorem tw_107 : Cond.constant R_P 18 66000 ∈ x_tb := x_in (List.mem_of_getElem? (i := 107) rfl) rfl
set_option maxRecDepth 100000 in
theorem tw_108 : Cond.classLink R_P 22 R_Packer ∈ x_tb := x_in (List.mem_of_getElem? (i := 108) rfl) rfl
set_option maxRecDepth 100000 in
theorem tw_109 : Cond.instantiable R_Packer 14 ∈ x_tb := x_in (List.mem_of_getElem? (i := 109) rfl) rfl
set_option maxRecDepth 100000 in
theorem tw_110 : Cond.methodLink R_P 24 y_Packer_init ∈ x_tb := x_in (List.mem_of_getElem? (i := 110) rfl) rfl
set_option maxRecDepth 100000 in
theorem tw_111 : Cond.instanceMethod y_Packer_init ∈ x_tb := x_in (List.mem_of_getElem? (i := 111) rfl) rfl
set_option maxRecDepth 100000 in
theorem tw_112 : Cond.code y_Packer_init b_Packer_init 3 none ∈ x_tb := x_in (List.mem_of_getElem? (i := 112) rfl) rfl
set_option maxRecDepth 100000 in
theorem tw_113 : Cond.methodLink R_Packer 3 objectInit ∈ x_tb := x_in (List.mem_of_getElem? (i := 113) rfl) rfl
set_option maxRecDepth 100000 in
theorem tw_114 : Cond.classLink R_Packer 15 R_BitWriter ∈ x_tb := x_in (List.mem_of_getElem? (i := 114) rfl) rfl
set_option maxRecDepth 100000 in
theorem tw_115 : Cond.instantiable R_BitWriter 4 ∈ x_tb := x_in (List.mem_of_getElem? (i := 115) rfl) rfl
set_option maxRecDepth 100000 in
theorem tw_116 : Cond.methodLink R_Packer 17 y_BitWriter_init ∈ x_tb := x_in (List.mem_of_getElem? (i := 116) rfl) rfl
set_option maxRecDepth 100000 in
theorem tw_117 : Cond.instanceMethod y_BitWriter_init ∈ x_tb := x_in (List.mem_of_getElem? (i := 117) rfl) rfl
set_option maxRecDepth 100000 in
theorem tw_118 : Cond.code y_BitWriter_init b_BitWriter_init 1 none ∈ x_tb := x_in (List.mem_of_getElem? (i := 118) rfl) rfl
set_option maxRecDepth 100000 in
theorem tw_119 : Cond.methodLink R_BitWriter 3 objectInit ∈ x_tb := x_in (List.mem_of_getElem? (i := 119) rfl) rfl
set_option maxRecDepth 100000 in
theorem tw_120 : Cond.fieldLink R_BitWriter 11 "PieceRow$BitWriter" "data" "[B" ∈ x_tb := x_in (List.mem_of_getElem? (i := 120) rfl) rfl
set_option maxRecDepth 100000 in
theorem tw_121 : Cond.fieldLink R_BitWriter 15 "PieceRow$BitWriter" "length" "I" ∈ x_tb := x_in (List.mem_of_getElem? (i := 121) rfl) rfl
set_option maxRecDepth 100000 in
theorem tw_122 : Cond.fieldLink R_BitWriter 19 "PieceRow$BitWriter" "open" "I" ∈ x_tb := x_in (List.mem_of_getElem? (i := 122) rfl) rfl
set_option maxRecDepth 100000 in
theorem tw_123 : Cond.fieldLink R_BitWriter 22 "PieceRow$BitWriter" "openCount" "I" ∈ x_tb := x_in (List.mem_of_getElem? (i := 123) rfl) rfl
set_option maxRecDepth 100000 in
theorem tw_133 : Cond.classLink R_Packer 22 R_Matches ∈ x_tb := x_in (List.mem_of_getElem? (i := 133) rfl) rfl
set_option maxRecDepth 100000 in
theorem tw_134 : Cond.instantiable R_Matches 3 ∈ x_tb := x_in (List.mem_of_getElem? (i := 134) rfl) rfl
set_option maxRecDepth 100000 in
theorem tw_135 : Cond.methodLink R_Packer 24 y_Matches_init ∈ x_tb := x_in (List.mem_of_getElem? (i := 135) rfl) rfl
set_option maxRecDepth 100000 in
theorem tw_136 : Cond.instanceMethod y_Matches_init ∈ x_tb := x_in (List.mem_of_getElem? (i := 136) rfl) rfl
set_option maxRecDepth 100000 in
theorem tw_137 : Cond.code y_Matches_init b_Matches_init 2 none ∈ x_tb := x_in (List.mem_of_getElem? (i := 137) rfl) rfl
set_option maxRecDepth 100000 in
theorem tw_138 : Cond.methodLink R_Matches 3 objectInit ∈ x_tb := x_in (List.mem_of_getElem? (i := 138) rfl) rfl
set_option maxRecDepth 100000 in
theorem tw_139 : Cond.fieldLink R_Matches 9 "PieceRow$Matches" "row" "LPieceRow$Bytes;" ∈ x_tb := x_in (List.mem_of_getElem? (i := 139) rfl) rfl
set_option maxRecDepth 100000 in
theorem tw_140 : Cond.fieldLink R_Matches 15 "PieceRow$Matches" "latest" "[I" ∈ x_tb := x_in (List.mem_of_getElem? (i := 140) rfl) rfl
set_option maxRecDepth 100000 in
theorem tw_141 : Cond.fieldLink R_Matches 19 "PieceRow$Matches" "before" "[I" ∈ x_tb := x_in (List.mem_of_getElem? (i := 141) rfl) rfl
set_option maxRecDepth 100000 in
theorem tw_149 : Cond.arrayClass .int ∈ x_tb := x_in (List.mem_of_getElem? (i := 149) rfl) rfl
set_option maxRecDepth 100000 in
theorem tw_150 : Cond.classLink R_Packer 31 R_Lists ∈ x_tb := x_in (List.mem_of_getElem? (i := 150) rfl) rfl
set_option maxRecDepth 100000 in
theorem tw_151 : Cond.instantiable R_Lists 6 ∈ x_tb := x_in (List.mem_of_getElem? (i := 151) rfl) rfl
set_option maxRecDepth 100000 in
theorem tw_152 : Cond.methodLink R_Packer 33 y_Lists_init ∈ x_tb := x_in (List.mem_of_getElem? (i := 152) rfl) rfl
set_option maxRecDepth 100000 in
theorem tw_153 : Cond.instanceMethod y_Lists_init ∈ x_tb := x_in (List.mem_of_getElem? (i := 153) rfl) rfl
set_option maxRecDepth 100000 in
theorem tw_154 : Cond.code y_Lists_init b_Lists_init 1 none ∈ x_tb := x_in (List.mem_of_getElem? (i := 154) rfl) rfl
set_option maxRecDepth 100000 in
theorem tw_155 : Cond.methodLink R_Lists 3 objectInit ∈ x_tb := x_in (List.mem_of_getElem? (i := 155) rfl) rfl
set_option maxRecDepth 100000 in
theorem tw_156 : Cond.classLink R_Lists 18 "[[B" ∈ x_tb := x_in (List.mem_of_getElem? (i := 156) rfl) rfl
set_option maxRecDepth 100000 in
theorem tw_158 : Cond.fieldLink R_Lists 9 "PieceRow$Lists" "symbols" "[I" ∈ x_tb := x_in (List.mem_of_getElem? (i := 158) rfl) rfl
set_option maxRecDepth 100000 in
theorem tw_159 : Cond.fieldLink R_Lists 15 "PieceRow$Lists" "counts" "[I" ∈ x_tb := x_in (List.mem_of_getElem? (i := 159) rfl) rfl
set_option maxRecDepth 100000 in
theorem tw_160 : Cond.fieldLink R_Lists 20 "PieceRow$Lists" "pairs" "[[B" ∈ x_tb := x_in (List.mem_of_getElem? (i := 160) rfl) rfl
set_option maxRecDepth 100000 in
theorem tw_161 : Cond.fieldLink R_Lists 23 "PieceRow$Lists" "items" "[I" ∈ x_tb := x_in (List.mem_of_getElem? (i := 161) rfl) rfl
set_option maxRecDepth 100000 in
theorem tw_162 : Cond.fieldLink R_Lists 26 "PieceRow$Lists" "itemsBefore" "[I" ∈ x_tb := x_in (List.mem_of_getElem? (i := 162) rfl) rfl
set_option maxRecDepth 100000 in
theorem tw_163 : Cond.fieldLink R_Lists 39 "PieceRow$Lists" "many" "I" ∈ x_tb := x_in (List.mem_of_getElem? (i := 163) rfl) rfl
set_option maxRecDepth 100000 in
theorem tw_177 : Cond.classLink R_Packer 38 R_Header ∈ x_tb := x_in (List.mem_of_getElem? (i := 177) rfl) rfl
set_option maxRecDepth 100000 in
theorem tw_178 : Cond.instantiable R_Header 10 ∈ x_tb := x_in (List.mem_of_getElem? (i := 178) rfl) rfl
set_option maxRecDepth 100000 in
theorem tw_179 : Cond.methodLink R_Packer 40 y_Header_init ∈ x_tb := x_in (List.mem_of_getElem? (i := 179) rfl) rfl
set_option maxRecDepth 100000 in
theorem tw_180 : Cond.instanceMethod y_Header_init ∈ x_tb := x_in (List.mem_of_getElem? (i := 180) rfl) rfl
set_option maxRecDepth 100000 in
theorem tw_181 : Cond.code y_Header_init b_Header_init 2 none ∈ x_tb := x_in (List.mem_of_getElem? (i := 181) rfl) rfl
set_option maxRecDepth 100000 in
theorem tw_182 : Cond.methodLink R_Header 3 objectInit ∈ x_tb := x_in (List.mem_of_getElem? (i := 182) rfl) rfl
set_option maxRecDepth 100000 in
theorem tw_183 : Cond.classLink R_Header 25 R_Code ∈ x_tb := x_in (List.mem_of_getElem? (i := 183) rfl) rfl
set_option maxRecDepth 100000 in
theorem tw_184 : Cond.instantiable R_Code 3 ∈ x_tb := x_in (List.mem_of_getElem? (i := 184) rfl) rfl
set_option maxRecDepth 100000 in
theorem tw_185 : Cond.methodLink R_Header 27 y_Code_init ∈ x_tb := x_in (List.mem_of_getElem? (i := 185) rfl) rfl
set_option maxRecDepth 100000 in
theorem tw_186 : Cond.instanceMethod y_Code_init ∈ x_tb := x_in (List.mem_of_getElem? (i := 186) rfl) rfl
set_option maxRecDepth 100000 in
theorem tw_187 : Cond.code y_Code_init b_Code_init 2 none ∈ x_tb := x_in (List.mem_of_getElem? (i := 187) rfl) rfl
set_option maxRecDepth 100000 in
theorem tw_188 : Cond.methodLink R_Code 3 objectInit ∈ x_tb := x_in (List.mem_of_getElem? (i := 188) rfl) rfl
set_option maxRecDepth 100000 in
theorem tw_189 : Cond.methodLink R_Code 9 Lib.Math.max.name ∈ x_tb := x_in (List.mem_of_getElem? (i := 189) rfl) rfl
set_option maxRecDepth 100000 in
theorem tw_190 : Cond.fieldLink R_Code 15 "PieceRow$Code" "lengths" "[I" ∈ x_tb := x_in (List.mem_of_getElem? (i := 190) rfl) rfl
set_option maxRecDepth 100000 in
theorem tw_193 : Cond.fieldLink R_Code 21 "PieceRow$Code" "codes" "[I" ∈ x_tb := x_in (List.mem_of_getElem? (i := 193) rfl) rfl
set_option maxRecDepth 100000 in
theorem tw_194 : Cond.fieldLink R_Code 24 "PieceRow$Code" "next" "[I" ∈ x_tb := x_in (List.mem_of_getElem? (i := 194) rfl) rfl
set_option maxRecDepth 100000 in
theorem tw_202 : Cond.fieldLink R_Header 9 "PieceRow$Header" "lists" "LPieceRow$Lists;" ∈ x_tb := x_in (List.mem_of_getElem? (i := 202) rfl) rfl
set_option maxRecDepth 100000 in
theorem tw_203 : Cond.fieldLink R_Header 15 "PieceRow$Header" "row" "[I" ∈ x_tb := x_in (List.mem_of_getElem? (i := 203) rfl) rfl
set_option maxRecDepth 100000 in
theorem tw_204 : Cond.fieldLink R_Header 19 "PieceRow$Header" "told" "[I" ∈ x_tb := x_in (List.mem_of_getElem? (i := 204) rfl) rfl
set_option maxRecDepth 100000 in
theorem tw_205 : Cond.fieldLink R_Header 22 "PieceRow$Header" "counts" "[I" ∈ x_tb := x_in (List.mem_of_getElem? (i := 205) rfl) rfl
set_option maxRecDepth 100000 in
theorem tw_206 : Cond.fieldLink R_Header 30 "PieceRow$Header" "code" "LPieceRow$Code;" ∈ x_tb := x_in (List.mem_of_getElem? (i := 206) rfl) rfl
set_option maxRecDepth 100000 in
theorem tw_207 : Cond.fieldLink R_Header 90 "PieceRow$Header" "rowLength" "I" ∈ x_tb := x_in (List.mem_of_getElem? (i := 207) rfl) rfl
set_option maxRecDepth 100000 in
theorem tw_208 : Cond.fieldLink R_Header 99 "PieceRow$Header" "toldCount" "I" ∈ x_tb := x_in (List.mem_of_getElem? (i := 208) rfl) rfl
set_option maxRecDepth 100000 in
theorem tw_209 : Cond.fieldLink R_Header 81 "PieceRow$Header" "symbolLengths" "I" ∈ x_tb := x_in (List.mem_of_getElem? (i := 209) rfl) rfl
set_option maxRecDepth 100000 in
theorem tw_210 : Cond.fieldLink R_Header 84 "PieceRow$Header" "distanceLengths" "I" ∈ x_tb := x_in (List.mem_of_getElem? (i := 210) rfl) rfl
set_option maxRecDepth 100000 in
theorem tw_211 : Cond.fieldLink R_Header 56 "PieceRow$Header" "codeLengths" "I" ∈ x_tb := x_in (List.mem_of_getElem? (i := 211) rfl) rfl
set_option maxRecDepth 100000 in
theorem tw_233 : Cond.classLink R_Packer 57 R_Code ∈ x_tb := x_in (List.mem_of_getElem? (i := 233) rfl) rfl
set_option maxRecDepth 100000 in
theorem tw_234 : Cond.methodLink R_Packer 59 y_Code_init ∈ x_tb := x_in (List.mem_of_getElem? (i := 234) rfl) rfl
set_option maxRecDepth 100000 in
theorem tw_236 : Cond.static y_P_fixedLength ∈ x_tb := x_in (List.mem_of_getElem? (i := 236) rfl) rfl
set_option maxRecDepth 100000 in
theorem tw_237 : Cond.code y_P_fixedLength b_P_fixedLength 1 (some .int) ∈ x_tb := x_in (List.mem_of_getElem? (i := 237) rfl) rfl
set_option maxRecDepth 100000 in
theorem tw_238 : Cond.methodLink R_Packer 82 y_Arr_fill ∈ x_tb := x_in (List.mem_of_getElem? (i := 238) rfl) rfl
set_option maxRecDepth 100000 in
theorem tw_239 : Cond.static y_Arr_fill ∈ x_tb := x_in (List.mem_of_getElem? (i := 239) rfl) rfl
set_option maxRecDepth 100000 in
theorem tw_240 : Cond.code y_Arr_fill b_Arr_fill 4 none ∈ x_tb := x_in (List.mem_of_getElem? (i := 240) rfl) rfl
set_option maxRecDepth 100000 in
theorem tw_241 : Cond.methodLink R_Packer 88 y_Code_assign ∈ x_tb := x_in (List.mem_of_getElem? (i := 241) rfl) rfl
set_option maxRecDepth 100000 in
theorem tw_242 : Cond.instanceMethod y_Code_assign ∈ x_tb := x_in (List.mem_of_getElem? (i := 242) rfl) rfl
set_option maxRecDepth 100000 in
theorem tw_243 : Cond.selects R_Code y_Code_assign y_Code_assign ∈ x_tb := x_in (List.mem_of_getElem? (i := 243) rfl) rfl
set_option maxRecDepth 100000 in
theorem tw_244 : Cond.code y_Code_assign b_Code_assign 4 none ∈ x_tb := x_in (List.mem_of_getElem? (i := 244) rfl) rfl
set_option maxRecDepth 100000 in
theorem tw_245 : Cond.methodLink R_Code 27 y_Arr_fill ∈ x_tb := x_in (List.mem_of_getElem? (i := 245) rfl) rfl
set_option maxRecDepth 100000 in
theorem tw_246 : Cond.methodLink R_Code 33 y_Code_turned ∈ x_tb := x_in (List.mem_of_getElem? (i := 246) rfl) rfl
set_option maxRecDepth 100000 in
theorem tw_247 : Cond.static y_Code_turned ∈ x_tb := x_in (List.mem_of_getElem? (i := 247) rfl) rfl
set_option maxRecDepth 100000 in
theorem tw_248 : Cond.code y_Code_turned b_Code_turned 4 (some .int) ∈ x_tb := x_in (List.mem_of_getElem? (i := 248) rfl) rfl
set_option maxRecDepth 100000 in
theorem tw_249 : Cond.fieldLink R_Packer 9 "PieceRow$Packer" "row" "LPieceRow$Bytes;" ∈ x_tb := x_in (List.mem_of_getElem? (i := 249) rfl) rfl
set_option maxRecDepth 100000 in
theorem tw_250 : Cond.fieldLink R_Packer 18 "PieceRow$Packer" "out" "LPieceRow$BitWriter;" ∈ x_tb := x_in (List.mem_of_getElem? (i := 250) rfl) rfl
set_option maxRecDepth 100000 in
theorem tw_251 : Cond.fieldLink R_Packer 27 "PieceRow$Packer" "matches" "LPieceRow$Matches;" ∈ x_tb := x_in (List.mem_of_getElem? (i := 251) rfl) rfl
set_option maxRecDepth 100000 in
theorem tw_252 : Cond.fieldLink R_Packer 34 "PieceRow$Packer" "lists" "LPieceRow$Lists;" ∈ x_tb := x_in (List.mem_of_getElem? (i := 252) rfl) rfl
set_option maxRecDepth 100000 in
theorem tw_253 : Cond.fieldLink R_Packer 43 "PieceRow$Packer" "header" "LPieceRow$Header;" ∈ x_tb := x_in (List.mem_of_getElem? (i := 253) rfl) rfl
set_option maxRecDepth 100000 in
theorem tw_254 : Cond.fieldLink R_Packer 47 "PieceRow$Packer" "tokens" "[I" ∈ x_tb := x_in (List.mem_of_getElem? (i := 254) rfl) rfl
set_option maxRecDepth 100000 in
theorem tw_255 : Cond.fieldLink R_Packer 51 "PieceRow$Packer" "symbolCounts" "[I" ∈ x_tb := x_in (List.mem_of_getElem? (i := 255) rfl) rfl
set_option maxRecDepth 100000 in
theorem tw_256 : Cond.fieldLink R_Packer 54 "PieceRow$Packer" "distanceCounts" "[I" ∈ x_tb := x_in (List.mem_of_getElem? (i := 256) rfl) rfl
set_option maxRecDepth 100000 in
theorem tw_257 : Cond.fieldLink R_Packer 62 "PieceRow$Packer" "fixedSymbols" "LPieceRow$Code;" ∈ x_tb := x_in (List.mem_of_getElem? (i := 257) rfl) rfl
set_option maxRecDepth 100000 in
theorem tw_258 : Cond.fieldLink R_Packer 66 "PieceRow$Packer" "fixedDistances" "LPieceRow$Code;" ∈ x_tb := x_in (List.mem_of_getElem? (i := 258) rfl) rfl
set_option maxRecDepth 100000 in
theorem tw_259 : Cond.fieldLink R_Packer 69 "PieceRow$Packer" "madeSymbols" "LPieceRow$Code;" ∈ x_tb := x_in (List.mem_of_getElem? (i := 259) rfl) rfl
set_option maxRecDepth 100000 in
theorem tw_260 : Cond.fieldLink R_Packer 72 "PieceRow$Packer" "madeDistances" "LPieceRow$Code;" ∈ x_tb := x_in (List.mem_of_getElem? (i := 260) rfl) rfl
set_option maxRecDepth 100000 in
theorem tw_261 : Cond.fieldLink R_Packer 155 "PieceRow$Packer" "tokenCount" "I" ∈ x_tb := x_in (List.mem_of_getElem? (i := 261) rfl) rfl
set_option maxRecDepth 100000 in
theorem tw_262 : Cond.fieldLink R_Packer 159 "PieceRow$Packer" "extraBits" "I" ∈ x_tb := x_in (List.mem_of_getElem? (i := 262) rfl) rfl
set_option maxRecDepth 100000 in
theorem tw_292 : Cond.constant R_P 31 65536 ∈ x_tb := x_in (List.mem_of_getElem? (i := 292) rfl) rfl
set_option maxRecDepth 100000 in
theorem tw_293 : Cond.classLink R_P 39 R_Unpacker ∈ x_tb := x_in (List.mem_of_getElem? (i := 293) rfl) rfl
set_option maxRecDepth 100000 in
theorem tw_294 : Cond.instantiable R_Unpacker 10 ∈ x_tb := x_in (List.mem_of_getElem? (i := 294) rfl) rfl
set_option maxRecDepth 100000 in
theorem tw_295 : Cond.methodLink R_P 41 y_Unpacker_init ∈ x_tb := x_in (List.mem_of_getElem? (i := 295) rfl) rfl
set_option maxRecDepth 100000 in
theorem tw_296 : Cond.instanceMethod y_Unpacker_init ∈ x_tb := x_in (List.mem_of_getElem? (i := 296) rfl) rfl
set_option maxRecDepth 100000 in
theorem tw_297 : Cond.code y_Unpacker_init b_Unpacker_init 4 none ∈ x_tb := x_in (List.mem_of_getElem? (i := 297) rfl) rfl
set_option maxRecDepth 100000 in
theorem tw_298 : Cond.methodLink R_Unpacker 3 objectInit ∈ x_tb := x_in (List.mem_of_getElem? (i := 298) rfl) rfl
set_option maxRecDepth 100000 in
theorem tw_299 : Cond.classLink R_Unpacker 9 R_BitReader ∈ x_tb := x_in (List.mem_of_getElem? (i := 299) rfl) rfl
set_option maxRecDepth 100000 in
theorem tw_300 : Cond.instantiable R_BitReader 3 ∈ x_tb := x_in (List.mem_of_getElem? (i := 300) rfl) rfl
set_option maxRecDepth 100000 in
theorem tw_301 : Cond.methodLink R_Unpacker 11 y_BitReader_init ∈ x_tb := x_in (List.mem_of_getElem? (i := 301) rfl) rfl
set_option maxRecDepth 100000 in
theorem tw_302 : Cond.instanceMethod y_BitReader_init ∈ x_tb := x_in (List.mem_of_getElem? (i := 302) rfl) rfl
set_option maxRecDepth 100000 in
theorem tw_303 : Cond.code y_BitReader_init b_BitReader_init 2 none ∈ x_tb := x_in (List.mem_of_getElem? (i := 303) rfl) rfl
set_option maxRecDepth 100000 in
theorem tw_304 : Cond.methodLink R_BitReader 1 objectInit ∈ x_tb := x_in (List.mem_of_getElem? (i := 304) rfl) rfl
set_option maxRecDepth 100000 in
theorem tw_305 : Cond.fieldLink R_BitReader 7 "PieceRow$BitReader" "row" "LPieceRow$Bytes;" ∈ x_tb := x_in (List.mem_of_getElem? (i := 305) rfl) rfl
set_option maxRecDepth 100000 in
theorem tw_306 : Cond.fieldLink R_BitReader 13 "PieceRow$BitReader" "at" "I" ∈ x_tb := x_in (List.mem_of_getElem? (i := 306) rfl) rfl
set_option maxRecDepth 100000 in
theorem tw_307 : Cond.fieldLink R_BitReader 17 "PieceRow$BitReader" "end" "I" ∈ x_tb := x_in (List.mem_of_getElem? (i := 307) rfl) rfl
set_option maxRecDepth 100000 in
theorem tw_315 : Cond.classLink R_Unpacker 24 R_Table ∈ x_tb := x_in (List.mem_of_getElem? (i := 315) rfl) rfl
set_option maxRecDepth 100000 in
theorem tw_316 : Cond.instantiable R_Table 3 ∈ x_tb := x_in (List.mem_of_getElem? (i := 316) rfl) rfl
set_option maxRecDepth 100000 in
theorem tw_317 : Cond.methodLink R_Unpacker 26 y_Table_init ∈ x_tb := x_in (List.mem_of_getElem? (i := 317) rfl) rfl
set_option maxRecDepth 100000 in
theorem tw_318 : Cond.instanceMethod y_Table_init ∈ x_tb := x_in (List.mem_of_getElem? (i := 318) rfl) rfl
set_option maxRecDepth 100000 in
theorem tw_319 : Cond.code y_Table_init b_Table_init 2 none ∈ x_tb := x_in (List.mem_of_getElem? (i := 319) rfl) rfl
set_option maxRecDepth 100000 in
theorem tw_320 : Cond.methodLink R_Table 3 objectInit ∈ x_tb := x_in (List.mem_of_getElem? (i := 320) rfl) rfl
set_option maxRecDepth 100000 in
theorem tw_321 : Cond.methodLink R_Table 18 Lib.Math.max.name ∈ x_tb := x_in (List.mem_of_getElem? (i := 321) rfl) rfl
set_option maxRecDepth 100000 in
theorem tw_322 : Cond.fieldLink R_Table 9 "PieceRow$Table" "counts" "[I" ∈ x_tb := x_in (List.mem_of_getElem? (i := 322) rfl) rfl
set_option maxRecDepth 100000 in
theorem tw_323 : Cond.fieldLink R_Table 15 "PieceRow$Table" "offsets" "[I" ∈ x_tb := x_in (List.mem_of_getElem? (i := 323) rfl) rfl
set_option maxRecDepth 100000 in
theorem tw_324 : Cond.fieldLink R_Table 24 "PieceRow$Table" "symbols" "[I" ∈ x_tb := x_in (List.mem_of_getElem? (i := 324) rfl) rfl
set_option maxRecDepth 100000 in
theorem tw_333 : Cond.methodLink R_Unpacker 53 y_Table_make ∈ x_tb := x_in (List.mem_of_getElem? (i := 333) rfl) rfl
set_option maxRecDepth 100000 in
theorem tw_334 : Cond.instanceMethod y_Table_make ∈ x_tb := x_in (List.mem_of_getElem? (i := 334) rfl) rfl
set_option maxRecDepth 100000 in
theorem tw_335 : Cond.selects R_Table y_Table_make y_Table_make ∈ x_tb := x_in (List.mem_of_getElem? (i := 335) rfl) rfl
set_option maxRecDepth 100000 in
theorem tw_336 : Cond.code y_Table_make b_Table_make 8 (some .boolean) ∈ x_tb := x_in (List.mem_of_getElem? (i := 336) rfl) rfl
set_option maxRecDepth 100000 in
theorem tw_337 : Cond.methodLink R_Table 27 y_Arr_fill ∈ x_tb := x_in (List.mem_of_getElem? (i := 337) rfl) rfl
set_option maxRecDepth 100000 in
theorem tw_338 : Cond.methodLink R_Table 33 y_Table_sort ∈ x_tb := x_in (List.mem_of_getElem? (i := 338) rfl) rfl
set_option maxRecDepth 100000 in
theorem tw_340 : Cond.instanceMethod y_Table_sort ∈ x_tb := x_in (List.mem_of_getElem? (i := 340) rfl) rfl
set_option maxRecDepth 100000 in
theorem tw_341 : Cond.code y_Table_sort b_Table_sort 7 none ∈ x_tb := x_in (List.mem_of_getElem? (i := 341) rfl) rfl
set_option maxRecDepth 100000 in
theorem tw_342 : Cond.methodLink R_Unpacker 57 y_Arr_fill ∈ x_tb := x_in (List.mem_of_getElem? (i := 342) rfl) rfl
set_option maxRecDepth 100000 in
theorem tw_343 : Cond.fieldLink R_Unpacker 14 "PieceRow$Unpacker" "in" "LPieceRow$BitReader;" ∈ x_tb := x_in (List.mem_of_getElem? (i := 343) rfl) rfl
set_option maxRecDepth 100000 in
theorem tw_344 : Cond.fieldLink R_Unpacker 20 "PieceRow$Unpacker" "out" "LPieceRow$Bytes;" ∈ x_tb := x_in (List.mem_of_getElem? (i := 344) rfl) rfl
set_option maxRecDepth 100000 in
theorem tw_345 : Cond.fieldLink R_Unpacker 29 "PieceRow$Unpacker" "fixedSymbols" "LPieceRow$Table;" ∈ x_tb := x_in (List.mem_of_getElem? (i := 345) rfl) rfl
set_option maxRecDepth 100000 in
theorem tw_346 : Cond.fieldLink R_Unpacker 33 "PieceRow$Unpacker" "fixedDistances" "LPieceRow$Table;" ∈ x_tb := x_in (List.mem_of_getElem? (i := 346) rfl) rfl
set_option maxRecDepth 100000 in
theorem tw_347 : Cond.fieldLink R_Unpacker 36 "PieceRow$Unpacker" "madeSymbols" "LPieceRow$Table;" ∈ x_tb := x_in (List.mem_of_getElem? (i := 347) rfl) rfl
set_option maxRecDepth 100000 in
theorem tw_348 : Cond.fieldLink R_Unpacker 39 "PieceRow$Unpacker" "madeDistances" "LPieceRow$Table;" ∈ x_tb := x_in (List.mem_of_getElem? (i := 348) rfl) rfl
set_option maxRecDepth 100000 in
theorem tw_349 : Cond.fieldLink R_Unpacker 42 "PieceRow$Unpacker" "lengthCodes" "LPieceRow$Table;" ∈ x_tb := x_in (List.mem_of_getElem? (i := 349) rfl) rfl
set_option maxRecDepth 100000 in
theorem tw_350 : Cond.fieldLink R_Unpacker 45 "PieceRow$Unpacker" "lengths" "[I" ∈ x_tb := x_in (List.mem_of_getElem? (i := 350) rfl) rfl
set_option maxRecDepth 100000 in
theorem tw_351 : Cond.fieldLink R_Unpacker 73 "PieceRow$Unpacker" "outStart" "I" ∈ x_tb := x_in (List.mem_of_getElem? (i := 351) rfl) rfl
set_option maxRecDepth 100000 in
theorem tw_352 : Cond.fieldLink R_Unpacker 98 "PieceRow$Unpacker" "farthest" "I" ∈ x_tb := x_in (List.mem_of_getElem? (i := 352) rfl) rfl
set_option maxRecDepth 100000 in
theorem tw_374 : Cond.fieldLink R_P 14 "PieceRow" "piece" "LPieceRow$Bytes;" ∈ x_tb := x_in (List.mem_of_getElem? (i := 374) rfl) rfl
set_option maxRecDepth 100000 in
theorem tw_375 : Cond.fieldLink R_P 19 "PieceRow" "image" "LPieceRow$Bytes;" ∈ x_tb := x_in (List.mem_of_getElem? (i := 375) rfl) rfl
set_option maxRecDepth 100000 in
theorem tw_376 : Cond.fieldLink R_P 27 "PieceRow" "packer" "LPieceRow$Packer;" ∈ x_tb := x_in (List.mem_of_getElem? (i := 376) rfl) rfl
set_option maxRecDepth 100000 in
theorem tw_377 : Cond.fieldLink R_P 55 "PieceRow" "pieces" "I" ∈ x_tb := x_in (List.mem_of_getElem? (i := 377) rfl) rfl
set_option maxRecDepth 100000 in
theorem tw_378 : Cond.fieldLink R_P 48 "PieceRow" "plain" "Z" ∈ x_tb := x_in (List.mem_of_getElem? (i := 378) rfl) rfl
set_option maxRecDepth 100000 in
theorem tw_379 : Cond.fieldLink R_P 52 "PieceRow" "closed" "Z" ∈ x_tb := x_in (List.mem_of_getElem? (i := 379) rfl) rfl
set_option maxRecDepth 100000 in
theorem tw_380 : Cond.fieldLink R_P 32 "PieceRow" "known" "LPieceRow$Bytes;" ∈ x_tb := x_in (List.mem_of_getElem? (i := 380) rfl) rfl
set_option maxRecDepth 100000 in
theorem tw_381 : Cond.fieldLink R_P 35 "PieceRow" "knownStarts" "[I" ∈ x_tb := x_in (List.mem_of_getElem? (i := 381) rfl) rfl
set_option maxRecDepth 100000 in
theorem tw_382 : Cond.fieldLink R_P 44 "PieceRow" "unpacker" "LPieceRow$Unpacker;" ∈ x_tb := x_in (List.mem_of_getElem? (i := 382) rfl) rfl
set_option maxRecDepth 100000 in
theorem tw_383 : Cond.fieldLink R_P 80 "PieceRow" "knownPieces" "I" ∈ x_tb := x_in (List.mem_of_getElem? (i := 383) rfl) rfl
set_option maxRecDepth 100000 in
theorem tw_405 : Cond.methodLink R_Law 13 y_P_begin ∈ x_tb := x_in (List.mem_of_getElem? (i := 405) rfl) rfl
set_option maxRecDepth 100000 in
theorem tw_406 : Cond.instanceMethod y_P_begin ∈ x_tb := x_in (List.mem_of_getElem? (i := 406) rfl) rfl
set_option maxRecDepth 100000 in
theorem tw_407 : Cond.selects R_P y_P_begin y_P_begin ∈ x_tb := x_in (List.mem_of_getElem? (i := 407) rfl) rfl
set_option maxRecDepth 100000 in
theorem tw_408 : Cond.code y_P_begin b_P_begin 2 none ∈ x_tb := x_in (List.mem_of_getElem? (i := 408) rfl) rfl
set_option maxRecDepth 100000 in
theorem tw_409 : Cond.methodLink R_P 59 y_Bytes_keep ∈ x_tb := x_in (List.mem_of_getElem? (i := 409) rfl) rfl
set_option maxRecDepth 100000 in
theorem tw_410 : Cond.instanceMethod y_Bytes_keep ∈ x_tb := x_in (List.mem_of_getElem? (i := 410) rfl) rfl
set_option maxRecDepth 100000 in
theorem tw_411 : Cond.selects R_Bytes y_Bytes_keep y_Bytes_keep ∈ x_tb := x_in (List.mem_of_getElem? (i := 411) rfl) rfl
set_option maxRecDepth 100000 in
theorem tw_412 : Cond.code y_Bytes_keep b_Bytes_keep 2 none ∈ x_tb := x_in (List.mem_of_getElem? (i := 412) rfl) rfl
set_option maxRecDepth 100000 in
theorem tw_413 : Cond.methodLink R_Law 20 y_P_put ∈ x_tb := x_in (List.mem_of_getElem? (i := 413) rfl) rfl
set_option maxRecDepth 100000 in
theorem tw_414 : Cond.instanceMethod y_P_put ∈ x_tb := x_in (List.mem_of_getElem? (i := 414) rfl) rfl
set_option maxRecDepth 100000 in
theorem tw_415 : Cond.selects R_P y_P_put y_P_put ∈ x_tb := x_in (List.mem_of_getElem? (i := 415) rfl) rfl
set_option maxRecDepth 100000 in
theorem tw_416 : Cond.code y_P_put b_P_put 5 (some .int) ∈ x_tb := x_in (List.mem_of_getElem? (i := 416) rfl) rfl
set_option maxRecDepth 100000 in
theorem tw_417 : Cond.methodLink R_P 62 y_P_openLength ∈ x_tb := x_in (List.mem_of_getElem? (i := 417) rfl) rfl
set_option maxRecDepth 100000 in
theorem tw_419 : Cond.instanceMethod y_P_openLength ∈ x_tb := x_in (List.mem_of_getElem? (i := 419) rfl) rfl
set_option maxRecDepth 100000 in
theorem tw_420 : Cond.code y_P_openLength b_P_openLength 1 (some .int) ∈ x_tb := x_in (List.mem_of_getElem? (i := 420) rfl) rfl
set_option maxRecDepth 100000 in
theorem tw_421 : Cond.methodLink R_P 69 y_Bytes_length ∈ x_tb := x_in (List.mem_of_getElem? (i := 421) rfl) rfl
set_option maxRecDepth 100000 in
theorem tw_422 : Cond.instanceMethod y_Bytes_length ∈ x_tb := x_in (List.mem_of_getElem? (i := 422) rfl) rfl
set_option maxRecDepth 100000 in
theorem tw_423 : Cond.selects R_Bytes y_Bytes_length y_Bytes_length ∈ x_tb := x_in (List.mem_of_getElem? (i := 423) rfl) rfl
set_option maxRecDepth 100000 in
theorem tw_424 : Cond.code y_Bytes_length b_Bytes_length 1 (some .int) ∈ x_tb := x_in (List.mem_of_getElem? (i := 424) rfl) rfl
set_option maxRecDepth 100000 in
theorem tw_425 : Cond.methodLink R_P 66 y_Bytes_add ∈ x_tb := x_in (List.mem_of_getElem? (i := 425) rfl) rfl
set_option maxRecDepth 100000 in
theorem tw_426 : Cond.instanceMethod y_Bytes_add ∈ x_tb := x_in (List.mem_of_getElem? (i := 426) rfl) rfl
set_option maxRecDepth 100000 in
theorem tw_427 : Cond.selects R_Bytes y_Bytes_add y_Bytes_add ∈ x_tb := x_in (List.mem_of_getElem? (i := 427) rfl) rfl
set_option maxRecDepth 100000 in
theorem tw_428 : Cond.code y_Bytes_add b_Bytes_add 2 none ∈ x_tb := x_in (List.mem_of_getElem? (i := 428) rfl) rfl
set_option maxRecDepth 100000 in
theorem tw_429 : Cond.methodLink R_P 72 y_P_closePiece ∈ x_tb := x_in (List.mem_of_getElem? (i := 429) rfl) rfl
set_option maxRecDepth 100000 in
theorem tw_431 : Cond.instanceMethod y_P_closePiece ∈ x_tb := x_in (List.mem_of_getElem? (i := 431) rfl) rfl
set_option maxRecDepth 100000 in
theorem tw_432 : Cond.code y_P_closePiece b_P_closePiece 3 none ∈ x_tb := x_in (List.mem_of_getElem? (i := 432) rfl) rfl
set_option maxRecDepth 100000 in
theorem tw_433 : Cond.methodLink R_P 100 y_Packer_pack ∈ x_tb := x_in (List.mem_of_getElem? (i := 433) rfl) rfl
set_option maxRecDepth 100000 in
theorem tw_434 : Cond.instanceMethod y_Packer_pack ∈ x_tb := x_in (List.mem_of_getElem? (i := 434) rfl) rfl
set_option maxRecDepth 100000 in
theorem tw_435 : Cond.selects R_Packer y_Packer_pack y_Packer_pack ∈ x_tb := x_in (List.mem_of_getElem? (i := 435) rfl) rfl
set_option maxRecDepth 100000 in
theorem tw_436 : Cond.code y_Packer_pack b_Packer_pack 3 (some .int) ∈ x_tb := x_in (List.mem_of_getElem? (i := 436) rfl) rfl
set_option maxRecDepth 100000 in
theorem tw_437 : Cond.methodLink R_Packer 91 y_BitWriter_clear ∈ x_tb := x_in (List.mem_of_getElem? (i := 437) rfl) rfl
set_option maxRecDepth 100000 in
theorem tw_438 : Cond.instanceMethod y_BitWriter_clear ∈ x_tb := x_in (List.mem_of_getElem? (i := 438) rfl) rfl
set_option maxRecDepth 100000 in
theorem tw_439 : Cond.selects R_BitWriter y_BitWriter_clear y_BitWriter_clear ∈ x_tb := x_in (List.mem_of_getElem? (i := 439) rfl) rfl
set_option maxRecDepth 100000 in
theorem tw_440 : Cond.code y_BitWriter_clear b_BitWriter_clear 1 none ∈ x_tb := x_in (List.mem_of_getElem? (i := 440) rfl) rfl
set_option maxRecDepth 100000 in
theorem tw_441 : Cond.methodLink R_Packer 94 y_Matches_chain ∈ x_tb := x_in (List.mem_of_getElem? (i := 441) rfl) rfl
set_option maxRecDepth 100000 in
theorem tw_442 : Cond.instanceMethod y_Matches_chain ∈ x_tb := x_in (List.mem_of_getElem? (i := 442) rfl) rfl
set_option maxRecDepth 100000 in
theorem tw_443 : Cond.selects R_Matches y_Matches_chain y_Matches_chain ∈ x_tb := x_in (List.mem_of_getElem? (i := 443) rfl) rfl
set_option maxRecDepth 100000 in
theorem tw_444 : Cond.code y_Matches_chain b_Matches_chain 4 none ∈ x_tb := x_in (List.mem_of_getElem? (i := 444) rfl) rfl
set_option maxRecDepth 100000 in
theorem tw_445 : Cond.methodLink R_Matches 22 y_Arr_fill ∈ x_tb := x_in (List.mem_of_getElem? (i := 445) rfl) rfl
set_option maxRecDepth 100000 in
theorem tw_446 : Cond.methodLink R_Matches 28 y_Bytes_length ∈ x_tb := x_in (List.mem_of_getElem? (i := 446) rfl) rfl
set_option maxRecDepth 100000 in
theorem tw_447 : Cond.methodLink R_Matches 34 y_Bytes_at ∈ x_tb := x_in (List.mem_of_getElem? (i := 447) rfl) rfl
set_option maxRecDepth 100000 in
theorem tw_448 : Cond.instanceMethod y_Bytes_at ∈ x_tb := x_in (List.mem_of_getElem? (i := 448) rfl) rfl
set_option maxRecDepth 100000 in
theorem tw_449 : Cond.selects R_Bytes y_Bytes_at y_Bytes_at ∈ x_tb := x_in (List.mem_of_getElem? (i := 449) rfl) rfl
set_option maxRecDepth 100000 in
theorem tw_450 : Cond.code y_Bytes_at b_Bytes_at 2 (some .int) ∈ x_tb := x_in (List.mem_of_getElem? (i := 450) rfl) rfl
set_option maxRecDepth 100000 in
theorem tw_451 : Cond.constant R_Matches 38 (-1640531535) ∈ x_tb := x_in (List.mem_of_getElem? (i := 451) rfl) rfl
set_option maxRecDepth 100000 in
theorem tw_452 : Cond.methodLink R_Packer 97 y_BitWriter_number ∈ x_tb := x_in (List.mem_of_getElem? (i := 452) rfl) rfl
set_option maxRecDepth 100000 in
theorem tw_453 : Cond.instanceMethod y_BitWriter_number ∈ x_tb := x_in (List.mem_of_getElem? (i := 453) rfl) rfl
set_option maxRecDepth 100000 in
theorem tw_454 : Cond.selects R_BitWriter y_BitWriter_number y_BitWriter_number ∈ x_tb := x_in (List.mem_of_getElem? (i := 454) rfl) rfl
set_option maxRecDepth 100000 in
theorem tw_455 : Cond.code y_BitWriter_number b_BitWriter_number 3 none ∈ x_tb := x_in (List.mem_of_getElem? (i := 455) rfl) rfl
set_option maxRecDepth 100000 in
theorem tw_456 : Cond.methodLink R_Packer 101 y_Bytes_length ∈ x_tb := x_in (List.mem_of_getElem? (i := 456) rfl) rfl
set_option maxRecDepth 100000 in
theorem tw_457 : Cond.methodLink R_Packer 107 Lib.Math.min.name ∈ x_tb := x_in (List.mem_of_getElem? (i := 457) rfl) rfl
set_option maxRecDepth 100000 in
theorem tw_458 : Cond.static Lib.Math.min.name ∈ x_tb := x_in (List.mem_of_getElem? (i := 458) rfl) rfl
set_option maxRecDepth 100000 in
theorem tw_459 : Cond.code Lib.Math.min.name Lib.Math.min.code 2 (some .int) ∈ x_tb := x_in (List.mem_of_getElem? (i := 459) rfl) rfl
set_option maxRecDepth 100000 in
theorem tw_460 : Cond.methodLink R_Packer 113 y_Packer_packPart ∈ x_tb := x_in (List.mem_of_getElem? (i := 460) rfl) rfl
set_option maxRecDepth 100000 in
theorem tw_462 : Cond.instanceMethod y_Packer_packPart ∈ x_tb := x_in (List.mem_of_getElem? (i := 462) rfl) rfl
set_option maxRecDepth 100000 in
theorem tw_463 : Cond.code y_Packer_packPart b_Packer_packPart 6 none ∈ x_tb := x_in (List.mem_of_getElem? (i := 463) rfl) rfl
set_option maxRecDepth 100000 in
theorem tw_464 : Cond.methodLink R_Packer 127 y_Packer_collectTokens ∈ x_tb := x_in (List.mem_of_getElem? (i := 464) rfl) rfl
set_option maxRecDepth 100000 in
theorem tw_466 : Cond.instanceMethod y_Packer_collectTokens ∈ x_tb := x_in (List.mem_of_getElem? (i := 466) rfl) rfl
set_option maxRecDepth 100000 in
theorem tw_467 : Cond.code y_Packer_collectTokens b_Packer_collectTokens 5 none ∈ x_tb := x_in (List.mem_of_getElem? (i := 467) rfl) rfl
set_option maxRecDepth 100000 in
theorem tw_468 : Cond.methodLink R_Packer 162 y_Matches_best ∈ x_tb := x_in (List.mem_of_getElem? (i := 468) rfl) rfl
set_option maxRecDepth 100000 in
theorem tw_469 : Cond.instanceMethod y_Matches_best ∈ x_tb := x_in (List.mem_of_getElem? (i := 469) rfl) rfl
set_option maxRecDepth 100000 in
theorem tw_470 : Cond.selects R_Matches y_Matches_best y_Matches_best ∈ x_tb := x_in (List.mem_of_getElem? (i := 470) rfl) rfl
set_option maxRecDepth 100000 in
theorem tw_471 : Cond.code y_Matches_best b_Matches_best 9 (some .int) ∈ x_tb := x_in (List.mem_of_getElem? (i := 471) rfl) rfl
set_option maxRecDepth 100000 in
theorem tw_472 : Cond.methodLink R_Matches 39 Lib.Math.min.name ∈ x_tb := x_in (List.mem_of_getElem? (i := 472) rfl) rfl
set_option maxRecDepth 100000 in
theorem tw_473 : Cond.methodLink R_Matches 45 y_Matches_sameBytes ∈ x_tb := x_in (List.mem_of_getElem? (i := 473) rfl) rfl
set_option maxRecDepth 100000 in
theorem tw_475 : Cond.instanceMethod y_Matches_sameBytes ∈ x_tb := x_in (List.mem_of_getElem? (i := 475) rfl) rfl
set_option maxRecDepth 100000 in
theorem tw_476 : Cond.code y_Matches_sameBytes b_Matches_sameBytes 5 (some .int) ∈ x_tb := x_in (List.mem_of_getElem? (i := 476) rfl) rfl
set_option maxRecDepth 100000 in
theorem tw_477 : Cond.methodLink R_Packer 165 y_Bytes_at ∈ x_tb := x_in (List.mem_of_getElem? (i := 477) rfl) rfl
set_option maxRecDepth 100000 in
theorem tw_478 : Cond.methodLink R_Packer 168 y_Packer_addToken ∈ x_tb := x_in (List.mem_of_getElem? (i := 478) rfl) rfl
set_option maxRecDepth 100000 in
theorem tw_480 : Cond.instanceMethod y_Packer_addToken ∈ x_tb := x_in (List.mem_of_getElem? (i := 480) rfl) rfl
set_option maxRecDepth 100000 in
theorem tw_481 : Cond.code y_Packer_addToken b_Packer_addToken 5 none ∈ x_tb := x_in (List.mem_of_getElem? (i := 481) rfl) rfl
set_option maxRecDepth 100000 in
theorem tw_482 : Cond.constant R_Packer 174 65536 ∈ x_tb := x_in (List.mem_of_getElem? (i := 482) rfl) rfl
set_option maxRecDepth 100000 in
theorem tw_484 : Cond.static y_P_lengthSymbol ∈ x_tb := x_in (List.mem_of_getElem? (i := 484) rfl) rfl
set_option maxRecDepth 100000 in
theorem tw_485 : Cond.code y_P_lengthSymbol b_P_lengthSymbol 3 (some .int) ∈ x_tb := x_in (List.mem_of_getElem? (i := 485) rfl) rfl
set_option maxRecDepth 100000 in
theorem tw_486 : Cond.constant R_Packer 178 65535 ∈ x_tb := x_in (List.mem_of_getElem? (i := 486) rfl) rfl
set_option maxRecDepth 100000 in
theorem tw_488 : Cond.static y_P_distanceSymbol ∈ x_tb := x_in (List.mem_of_getElem? (i := 488) rfl) rfl
set_option maxRecDepth 100000 in
theorem tw_489 : Cond.code y_P_distanceSymbol b_P_distanceSymbol 3 (some .int) ∈ x_tb := x_in (List.mem_of_getElem? (i := 489) rfl) rfl
set_option maxRecDepth 100000 in
theorem tw_491 : Cond.static y_P_lengthExtra ∈ x_tb := x_in (List.mem_of_getElem? (i := 491) rfl) rfl
set_option maxRecDepth 100000 in
theorem tw_492 : Cond.code y_P_lengthExtra b_P_lengthExtra 1 (some .int) ∈ x_tb := x_in (List.mem_of_getElem? (i := 492) rfl) rfl
set_option maxRecDepth 100000 in
theorem tw_494 : Cond.static y_P_distanceExtra ∈ x_tb := x_in (List.mem_of_getElem? (i := 494) rfl) rfl
set_option maxRecDepth 100000 in
theorem tw_495 : Cond.code y_P_distanceExtra b_P_distanceExtra 1 (some .int) ∈ x_tb := x_in (List.mem_of_getElem? (i := 495) rfl) rfl
set_option maxRecDepth 100000 in
theorem tw_496 : Cond.methodLink R_Packer 171 Lib.Math.max.name ∈ x_tb := x_in (List.mem_of_getElem? (i := 496) rfl) rfl
set_option maxRecDepth 100000 in
theorem tw_497 : Cond.methodLink R_Packer 130 y_Lists_fit ∈ x_tb := x_in (List.mem_of_getElem? (i := 497) rfl) rfl
set_option maxRecDepth 100000 in
theorem tw_498 : Cond.instanceMethod y_Lists_fit ∈ x_tb := x_in (List.mem_of_getElem? (i := 498) rfl) rfl
set_option maxRecDepth 100000 in
theorem tw_499 : Cond.selects R_Lists y_Lists_fit y_Lists_fit ∈ x_tb := x_in (List.mem_of_getElem? (i := 499) rfl) rfl
set_option maxRecDepth 100000 in
theorem tw_500 : Cond.code y_Lists_fit b_Lists_fit 7 none ∈ x_tb := x_in (List.mem_of_getElem? (i := 500) rfl) rfl
set_option maxRecDepth 100000 in
theorem tw_501 : Cond.methodLink R_Lists 29 y_Arr_fill ∈ x_tb := x_in (List.mem_of_getElem? (i := 501) rfl) rfl
set_option maxRecDepth 100000 in
theorem tw_502 : Cond.methodLink R_Lists 35 y_Lists_sort ∈ x_tb := x_in (List.mem_of_getElem? (i := 502) rfl) rfl
set_option maxRecDepth 100000 in
theorem tw_504 : Cond.instanceMethod y_Lists_sort ∈ x_tb := x_in (List.mem_of_getElem? (i := 504) rfl) rfl
set_option maxRecDepth 100000 in
theorem tw_505 : Cond.code y_Lists_sort b_Lists_sort 3 none ∈ x_tb := x_in (List.mem_of_getElem? (i := 505) rfl) rfl
set_option maxRecDepth 100000 in
theorem tw_506 : Cond.methodLink R_Lists 59 y_Lists_insert ∈ x_tb := x_in (List.mem_of_getElem? (i := 506) rfl) rfl
set_option maxRecDepth 100000 in
theorem tw_508 : Cond.instanceMethod y_Lists_insert ∈ x_tb := x_in (List.mem_of_getElem? (i := 508) rfl) rfl
set_option maxRecDepth 100000 in
theorem tw_509 : Cond.code y_Lists_insert b_Lists_insert 4 none ∈ x_tb := x_in (List.mem_of_getElem? (i := 509) rfl) rfl
set_option maxRecDepth 100000 in
theorem tw_510 : Cond.methodLink R_Lists 43 y_Lists_addOne ∈ x_tb := x_in (List.mem_of_getElem? (i := 510) rfl) rfl
set_option maxRecDepth 100000 in
theorem tw_511 : Cond.static y_Lists_addOne ∈ x_tb := x_in (List.mem_of_getElem? (i := 511) rfl) rfl
set_option maxRecDepth 100000 in
theorem tw_512 : Cond.code y_Lists_addOne b_Lists_addOne 2 none ∈ x_tb := x_in (List.mem_of_getElem? (i := 512) rfl) rfl
set_option maxRecDepth 100000 in
theorem tw_513 : Cond.methodLink R_Lists 46 y_Lists_makeList ∈ x_tb := x_in (List.mem_of_getElem? (i := 513) rfl) rfl
set_option maxRecDepth 100000 in
theorem tw_515 : Cond.instanceMethod y_Lists_makeList ∈ x_tb := x_in (List.mem_of_getElem? (i := 515) rfl) rfl
set_option maxRecDepth 100000 in
theorem tw_516 : Cond.code y_Lists_makeList b_Lists_makeList 10 (some .int) ∈ x_tb := x_in (List.mem_of_getElem? (i := 516) rfl) rfl
set_option maxRecDepth 100000 in
theorem tw_517 : Cond.methodLink R_Lists 50 Lib.Math.min.name ∈ x_tb := x_in (List.mem_of_getElem? (i := 517) rfl) rfl
set_option maxRecDepth 100000 in
theorem tw_518 : Cond.methodLink R_Lists 55 y_Lists_take ∈ x_tb := x_in (List.mem_of_getElem? (i := 518) rfl) rfl
set_option maxRecDepth 100000 in
theorem tw_520 : Cond.instanceMethod y_Lists_take ∈ x_tb := x_in (List.mem_of_getElem? (i := 520) rfl) rfl
set_option maxRecDepth 100000 in
theorem tw_521 : Cond.code y_Lists_take b_Lists_take 6 (some .int) ∈ x_tb := x_in (List.mem_of_getElem? (i := 521) rfl) rfl
set_option maxRecDepth 100000 in
theorem tw_522 : Cond.methodLink R_Packer 134 y_BitWriter_leftBehind ∈ x_tb := x_in (List.mem_of_getElem? (i := 522) rfl) rfl
set_option maxRecDepth 100000 in
theorem tw_523 : Cond.instanceMethod y_BitWriter_leftBehind ∈ x_tb := x_in (List.mem_of_getElem? (i := 523) rfl) rfl
set_option maxRecDepth 100000 in
theorem tw_524 : Cond.selects R_BitWriter y_BitWriter_leftBehind y_BitWriter_leftBehind ∈ x_tb := x_in (List.mem_of_getElem? (i := 524) rfl) rfl
set_option maxRecDepth 100000 in
theorem tw_525 : Cond.code y_BitWriter_leftBehind b_BitWriter_leftBehind 2 (some .int) ∈ x_tb := x_in (List.mem_of_getElem? (i := 525) rfl) rfl
set_option maxRecDepth 100000 in
theorem tw_526 : Cond.methodLink R_Packer 137 y_Packer_bitsWith ∈ x_tb := x_in (List.mem_of_getElem? (i := 526) rfl) rfl
set_option maxRecDepth 100000 in
theorem tw_528 : Cond.instanceMethod y_Packer_bitsWith ∈ x_tb := x_in (List.mem_of_getElem? (i := 528) rfl) rfl
set_option maxRecDepth 100000 in
theorem tw_529 : Cond.code y_Packer_bitsWith b_Packer_bitsWith 3 (some .int) ∈ x_tb := x_in (List.mem_of_getElem? (i := 529) rfl) rfl
set_option maxRecDepth 100000 in
theorem tw_530 : Cond.methodLink R_Packer 188 y_Code_bitsFor ∈ x_tb := x_in (List.mem_of_getElem? (i := 530) rfl) rfl
set_option maxRecDepth 100000 in
theorem tw_531 : Cond.instanceMethod y_Code_bitsFor ∈ x_tb := x_in (List.mem_of_getElem? (i := 531) rfl) rfl
set_option maxRecDepth 100000 in
theorem tw_532 : Cond.selects R_Code y_Code_bitsFor y_Code_bitsFor ∈ x_tb := x_in (List.mem_of_getElem? (i := 532) rfl) rfl
set_option maxRecDepth 100000 in
theorem tw_533 : Cond.code y_Code_bitsFor b_Code_bitsFor 4 (some .int) ∈ x_tb := x_in (List.mem_of_getElem? (i := 533) rfl) rfl
set_option maxRecDepth 100000 in
theorem tw_534 : Cond.methodLink R_Packer 141 y_Header_plan ∈ x_tb := x_in (List.mem_of_getElem? (i := 534) rfl) rfl
set_option maxRecDepth 100000 in
theorem tw_535 : Cond.instanceMethod y_Header_plan ∈ x_tb := x_in (List.mem_of_getElem? (i := 535) rfl) rfl
set_option maxRecDepth 100000 in
theorem tw_536 : Cond.selects R_Header y_Header_plan y_Header_plan ∈ x_tb := x_in (List.mem_of_getElem? (i := 536) rfl) rfl
set_option maxRecDepth 100000 in
theorem tw_537 : Cond.code y_Header_plan b_Header_plan 5 (some .int) ∈ x_tb := x_in (List.mem_of_getElem? (i := 537) rfl) rfl
set_option maxRecDepth 100000 in
theorem tw_538 : Cond.methodLink R_Header 34 y_Header_gather ∈ x_tb := x_in (List.mem_of_getElem? (i := 538) rfl) rfl
set_option maxRecDepth 100000 in
theorem tw_540 : Cond.instanceMethod y_Header_gather ∈ x_tb := x_in (List.mem_of_getElem? (i := 540) rfl) rfl
set_option maxRecDepth 100000 in
theorem tw_541 : Cond.code y_Header_gather b_Header_gather 4 none ∈ x_tb := x_in (List.mem_of_getElem? (i := 541) rfl) rfl
set_option maxRecDepth 100000 in
theorem tw_542 : Cond.methodLink R_Header 71 y_Code_used ∈ x_tb := x_in (List.mem_of_getElem? (i := 542) rfl) rfl
set_option maxRecDepth 100000 in
theorem tw_543 : Cond.instanceMethod y_Code_used ∈ x_tb := x_in (List.mem_of_getElem? (i := 543) rfl) rfl
set_option maxRecDepth 100000 in
theorem tw_544 : Cond.selects R_Code y_Code_used y_Code_used ∈ x_tb := x_in (List.mem_of_getElem? (i := 544) rfl) rfl
set_option maxRecDepth 100000 in
theorem tw_545 : Cond.code y_Code_used b_Code_used 2 (some .int) ∈ x_tb := x_in (List.mem_of_getElem? (i := 545) rfl) rfl
set_option maxRecDepth 100000 in
theorem tw_546 : Cond.methodLink R_Header 75 Lib.Math.max.name ∈ x_tb := x_in (List.mem_of_getElem? (i := 546) rfl) rfl
set_option maxRecDepth 100000 in
theorem tw_547 : Cond.methodLink R_Header 87 Lib.Math.min.name ∈ x_tb := x_in (List.mem_of_getElem? (i := 547) rfl) rfl
set_option maxRecDepth 100000 in
theorem tw_548 : Cond.methodLink R_Header 60 y_Code_lengthOf ∈ x_tb := x_in (List.mem_of_getElem? (i := 548) rfl) rfl
set_option maxRecDepth 100000 in
theorem tw_549 : Cond.instanceMethod y_Code_lengthOf ∈ x_tb := x_in (List.mem_of_getElem? (i := 549) rfl) rfl
set_option maxRecDepth 100000 in
theorem tw_550 : Cond.selects R_Code y_Code_lengthOf y_Code_lengthOf ∈ x_tb := x_in (List.mem_of_getElem? (i := 550) rfl) rfl
set_option maxRecDepth 100000 in
theorem tw_551 : Cond.code y_Code_lengthOf b_Code_lengthOf 2 (some .int) ∈ x_tb := x_in (List.mem_of_getElem? (i := 551) rfl) rfl
set_option maxRecDepth 100000 in
theorem tw_552 : Cond.methodLink R_Header 38 y_Header_tellRow ∈ x_tb := x_in (List.mem_of_getElem? (i := 552) rfl) rfl
set_option maxRecDepth 100000 in
theorem tw_554 : Cond.instanceMethod y_Header_tellRow ∈ x_tb := x_in (List.mem_of_getElem? (i := 554) rfl) rfl
set_option maxRecDepth 100000 in
theorem tw_555 : Cond.code y_Header_tellRow b_Header_tellRow 3 none ∈ x_tb := x_in (List.mem_of_getElem? (i := 555) rfl) rfl
set_option maxRecDepth 100000 in
theorem tw_556 : Cond.methodLink R_Header 93 y_Arr_fill ∈ x_tb := x_in (List.mem_of_getElem? (i := 556) rfl) rfl
set_option maxRecDepth 100000 in
theorem tw_557 : Cond.methodLink R_Header 102 y_Header_tellStretch ∈ x_tb := x_in (List.mem_of_getElem? (i := 557) rfl) rfl
set_option maxRecDepth 100000 in
theorem tw_559 : Cond.instanceMethod y_Header_tellStretch ∈ x_tb := x_in (List.mem_of_getElem? (i := 559) rfl) rfl
set_option maxRecDepth 100000 in
theorem tw_560 : Cond.code y_Header_tellStretch b_Header_tellStretch 7 none ∈ x_tb := x_in (List.mem_of_getElem? (i := 560) rfl) rfl
set_option maxRecDepth 100000 in
theorem tw_561 : Cond.methodLink R_Header 106 y_Header_tell ∈ x_tb := x_in (List.mem_of_getElem? (i := 561) rfl) rfl
set_option maxRecDepth 100000 in
theorem tw_563 : Cond.instanceMethod y_Header_tell ∈ x_tb := x_in (List.mem_of_getElem? (i := 563) rfl) rfl
set_option maxRecDepth 100000 in
theorem tw_564 : Cond.code y_Header_tell b_Header_tell 3 none ∈ x_tb := x_in (List.mem_of_getElem? (i := 564) rfl) rfl
set_option maxRecDepth 100000 in
theorem tw_566 : Cond.static y_P_repeatBase ∈ x_tb := x_in (List.mem_of_getElem? (i := 566) rfl) rfl
set_option maxRecDepth 100000 in
theorem tw_567 : Cond.code y_P_repeatBase b_P_repeatBase 1 (some .int) ∈ x_tb := x_in (List.mem_of_getElem? (i := 567) rfl) rfl
set_option maxRecDepth 100000 in
theorem tw_568 : Cond.methodLink R_Header 44 y_Lists_fit ∈ x_tb := x_in (List.mem_of_getElem? (i := 568) rfl) rfl
set_option maxRecDepth 100000 in
theorem tw_569 : Cond.methodLink R_Header 50 y_Code_assign ∈ x_tb := x_in (List.mem_of_getElem? (i := 569) rfl) rfl
set_option maxRecDepth 100000 in
theorem tw_572 : Cond.methodLink R_Header 64 y_Code_bitsFor ∈ x_tb := x_in (List.mem_of_getElem? (i := 572) rfl) rfl
set_option maxRecDepth 100000 in
theorem tw_574 : Cond.static y_P_repeatExtra ∈ x_tb := x_in (List.mem_of_getElem? (i := 574) rfl) rfl
set_option maxRecDepth 100000 in
theorem tw_575 : Cond.code y_P_repeatExtra b_P_repeatExtra 1 (some .int) ∈ x_tb := x_in (List.mem_of_getElem? (i := 575) rfl) rfl
set_option maxRecDepth 100000 in
theorem tw_576 : Cond.methodLink R_Packer 144 y_Packer_writeStored ∈ x_tb := x_in (List.mem_of_getElem? (i := 576) rfl) rfl
set_option maxRecDepth 100000 in
theorem tw_578 : Cond.instanceMethod y_Packer_writeStored ∈ x_tb := x_in (List.mem_of_getElem? (i := 578) rfl) rfl
set_option maxRecDepth 100000 in
theorem tw_579 : Cond.code y_Packer_writeStored b_Packer_writeStored 5 none ∈ x_tb := x_in (List.mem_of_getElem? (i := 579) rfl) rfl
set_option maxRecDepth 100000 in
theorem tw_580 : Cond.methodLink R_Packer 116 y_BitWriter_align ∈ x_tb := x_in (List.mem_of_getElem? (i := 580) rfl) rfl
set_option maxRecDepth 100000 in
theorem tw_581 : Cond.instanceMethod y_BitWriter_align ∈ x_tb := x_in (List.mem_of_getElem? (i := 581) rfl) rfl
set_option maxRecDepth 100000 in
theorem tw_582 : Cond.selects R_BitWriter y_BitWriter_align y_BitWriter_align ∈ x_tb := x_in (List.mem_of_getElem? (i := 582) rfl) rfl
set_option maxRecDepth 100000 in
theorem tw_583 : Cond.code y_BitWriter_align b_BitWriter_align 1 none ∈ x_tb := x_in (List.mem_of_getElem? (i := 583) rfl) rfl
set_option maxRecDepth 100000 in
theorem tw_584 : Cond.methodLink R_BitWriter 25 y_BitWriter_leftBehind ∈ x_tb := x_in (List.mem_of_getElem? (i := 584) rfl) rfl
set_option maxRecDepth 100000 in
theorem tw_585 : Cond.methodLink R_BitWriter 29 y_BitWriter_number ∈ x_tb := x_in (List.mem_of_getElem? (i := 585) rfl) rfl
set_option maxRecDepth 100000 in
theorem tw_586 : Cond.methodLink R_Packer 147 y_Packer_writeTokens ∈ x_tb := x_in (List.mem_of_getElem? (i := 586) rfl) rfl
set_option maxRecDepth 100000 in
theorem tw_588 : Cond.instanceMethod y_Packer_writeTokens ∈ x_tb := x_in (List.mem_of_getElem? (i := 588) rfl) rfl
set_option maxRecDepth 100000 in
theorem tw_589 : Cond.code y_Packer_writeTokens b_Packer_writeTokens 8 none ∈ x_tb := x_in (List.mem_of_getElem? (i := 589) rfl) rfl
set_option maxRecDepth 100000 in
theorem tw_590 : Cond.methodLink R_Packer 192 y_Code_write ∈ x_tb := x_in (List.mem_of_getElem? (i := 590) rfl) rfl
set_option maxRecDepth 100000 in
theorem tw_591 : Cond.instanceMethod y_Code_write ∈ x_tb := x_in (List.mem_of_getElem? (i := 591) rfl) rfl
set_option maxRecDepth 100000 in
theorem tw_592 : Cond.selects R_Code y_Code_write y_Code_write ∈ x_tb := x_in (List.mem_of_getElem? (i := 592) rfl) rfl
set_option maxRecDepth 100000 in
theorem tw_593 : Cond.code y_Code_write b_Code_write 3 none ∈ x_tb := x_in (List.mem_of_getElem? (i := 593) rfl) rfl
set_option maxRecDepth 100000 in
theorem tw_594 : Cond.methodLink R_Code 36 y_BitWriter_number ∈ x_tb := x_in (List.mem_of_getElem? (i := 594) rfl) rfl
set_option maxRecDepth 100000 in
theorem tw_596 : Cond.static y_P_lengthBase ∈ x_tb := x_in (List.mem_of_getElem? (i := 596) rfl) rfl
set_option maxRecDepth 100000 in
theorem tw_597 : Cond.code y_P_lengthBase b_P_lengthBase 1 (some .int) ∈ x_tb := x_in (List.mem_of_getElem? (i := 597) rfl) rfl
set_option maxRecDepth 100000 in
theorem tw_598 : Cond.methodLink R_P 125 y_P_lengthExtra ∈ x_tb := x_in (List.mem_of_getElem? (i := 598) rfl) rfl
set_option maxRecDepth 100000 in
theorem tw_600 : Cond.static y_P_distanceBase ∈ x_tb := x_in (List.mem_of_getElem? (i := 600) rfl) rfl
set_option maxRecDepth 100000 in
theorem tw_601 : Cond.code y_P_distanceBase b_P_distanceBase 1 (some .int) ∈ x_tb := x_in (List.mem_of_getElem? (i := 601) rfl) rfl
set_option maxRecDepth 100000 in
theorem tw_602 : Cond.methodLink R_P 128 y_P_distanceExtra ∈ x_tb := x_in (List.mem_of_getElem? (i := 602) rfl) rfl
set_option maxRecDepth 100000 in
theorem tw_603 : Cond.methodLink R_Packer 151 y_Header_write ∈ x_tb := x_in (List.mem_of_getElem? (i := 603) rfl) rfl
set_option maxRecDepth 100000 in
theorem tw_604 : Cond.instanceMethod y_Header_write ∈ x_tb := x_in (List.mem_of_getElem? (i := 604) rfl) rfl
set_option maxRecDepth 100000 in
theorem tw_605 : Cond.selects R_Header y_Header_write y_Header_write ∈ x_tb := x_in (List.mem_of_getElem? (i := 605) rfl) rfl
set_option maxRecDepth 100000 in
theorem tw_606 : Cond.code y_Header_write b_Header_write 4 none ∈ x_tb := x_in (List.mem_of_getElem? (i := 606) rfl) rfl
set_option maxRecDepth 100000 in
theorem tw_607 : Cond.methodLink R_Header 112 y_BitWriter_number ∈ x_tb := x_in (List.mem_of_getElem? (i := 607) rfl) rfl
set_option maxRecDepth 100000 in
theorem tw_608 : Cond.methodLink R_Header 117 y_Code_write ∈ x_tb := x_in (List.mem_of_getElem? (i := 608) rfl) rfl
set_option maxRecDepth 100000 in
theorem tw_610 : Cond.static y_P_checkOf ∈ x_tb := x_in (List.mem_of_getElem? (i := 610) rfl) rfl
set_option maxRecDepth 100000 in
theorem tw_611 : Cond.code y_P_checkOf b_P_checkOf 5 (some .int) ∈ x_tb := x_in (List.mem_of_getElem? (i := 611) rfl) rfl
set_option maxRecDepth 100000 in
theorem tw_612 : Cond.methodLink R_P 83 y_Bytes_at ∈ x_tb := x_in (List.mem_of_getElem? (i := 612) rfl) rfl
set_option maxRecDepth 100000 in
theorem tw_613 : Cond.constant R_P 124 65521 ∈ x_tb := x_in (List.mem_of_getElem? (i := 613) rfl) rfl
set_option maxRecDepth 100000 in
theorem tw_614 : Cond.methodLink R_Packer 123 y_BitWriter_length ∈ x_tb := x_in (List.mem_of_getElem? (i := 614) rfl) rfl
set_option maxRecDepth 100000 in
theorem tw_615 : Cond.instanceMethod y_BitWriter_length ∈ x_tb := x_in (List.mem_of_getElem? (i := 615) rfl) rfl
set_option maxRecDepth 100000 in
theorem tw_616 : Cond.selects R_BitWriter y_BitWriter_length y_BitWriter_length ∈ x_tb := x_in (List.mem_of_getElem? (i := 616) rfl) rfl
set_option maxRecDepth 100000 in
theorem tw_617 : Cond.code y_BitWriter_length b_BitWriter_length 1 (some .int) ∈ x_tb := x_in (List.mem_of_getElem? (i := 617) rfl) rfl
set_option maxRecDepth 100000 in
theorem tw_618 : Cond.methodLink R_P 103 y_P_addHead ∈ x_tb := x_in (List.mem_of_getElem? (i := 618) rfl) rfl
set_option maxRecDepth 100000 in
theorem tw_620 : Cond.instanceMethod y_P_addHead ∈ x_tb := x_in (List.mem_of_getElem? (i := 620) rfl) rfl
set_option maxRecDepth 100000 in
theorem tw_621 : Cond.code y_P_addHead b_P_addHead 2 none ∈ x_tb := x_in (List.mem_of_getElem? (i := 621) rfl) rfl
set_option maxRecDepth 100000 in
theorem tw_622 : Cond.methodLink R_P 106 y_Packer_copyTo ∈ x_tb := x_in (List.mem_of_getElem? (i := 622) rfl) rfl
set_option maxRecDepth 100000 in
theorem tw_623 : Cond.instanceMethod y_Packer_copyTo ∈ x_tb := x_in (List.mem_of_getElem? (i := 623) rfl) rfl
set_option maxRecDepth 100000 in
theorem tw_624 : Cond.selects R_Packer y_Packer_copyTo y_Packer_copyTo ∈ x_tb := x_in (List.mem_of_getElem? (i := 624) rfl) rfl
set_option maxRecDepth 100000 in
theorem tw_625 : Cond.code y_Packer_copyTo b_Packer_copyTo 2 none ∈ x_tb := x_in (List.mem_of_getElem? (i := 625) rfl) rfl
set_option maxRecDepth 100000 in
theorem tw_626 : Cond.methodLink R_Packer 124 y_BitWriter_copyTo ∈ x_tb := x_in (List.mem_of_getElem? (i := 626) rfl) rfl
set_option maxRecDepth 100000 in
theorem tw_627 : Cond.instanceMethod y_BitWriter_copyTo ∈ x_tb := x_in (List.mem_of_getElem? (i := 627) rfl) rfl
set_option maxRecDepth 100000 in
theorem tw_628 : Cond.selects R_BitWriter y_BitWriter_copyTo y_BitWriter_copyTo ∈ x_tb := x_in (List.mem_of_getElem? (i := 628) rfl) rfl
set_option maxRecDepth 100000 in
theorem tw_629 : Cond.code y_BitWriter_copyTo b_BitWriter_copyTo 3 none ∈ x_tb := x_in (List.mem_of_getElem? (i := 629) rfl) rfl
set_option maxRecDepth 100000 in
theorem tw_630 : Cond.methodLink R_BitWriter 33 y_Bytes_add ∈ x_tb := x_in (List.mem_of_getElem? (i := 630) rfl) rfl
set_option maxRecDepth 100000 in
theorem tw_631 : Cond.constant R_P 109 32768 ∈ x_tb := x_in (List.mem_of_getElem? (i := 631) rfl) rfl
set_option maxRecDepth 100000 in
theorem tw_632 : Cond.methodLink R_P 110 y_Bytes_addAll ∈ x_tb := x_in (List.mem_of_getElem? (i := 632) rfl) rfl
set_option maxRecDepth 100000 in
theorem tw_633 : Cond.instanceMethod y_Bytes_addAll ∈ x_tb := x_in (List.mem_of_getElem? (i := 633) rfl) rfl
set_option maxRecDepth 100000 in
theorem tw_634 : Cond.selects R_Bytes y_Bytes_addAll y_Bytes_addAll ∈ x_tb := x_in (List.mem_of_getElem? (i := 634) rfl) rfl
set_option maxRecDepth 100000 in
theorem tw_635 : Cond.code y_Bytes_addAll b_Bytes_addAll 5 none ∈ x_tb := x_in (List.mem_of_getElem? (i := 635) rfl) rfl
set_option maxRecDepth 100000 in
theorem tw_636 : Cond.methodLink R_Bytes 23 arraycopyName ∈ x_tb := x_in (List.mem_of_getElem? (i := 636) rfl) rfl
set_option maxRecDepth 100000 in
theorem tw_637 : Cond.static arraycopyName ∈ x_tb := x_in (List.mem_of_getElem? (i := 637) rfl) rfl
set_option maxRecDepth 100000 in
theorem tw_638 : Cond.native arraycopyName ∈ x_tb := x_in (List.mem_of_getElem? (i := 638) rfl) rfl
set_option maxRecDepth 100000 in
theorem tw_639 : Cond.methodLink R_Law 25 y_P_fill ∈ x_tb := x_in (List.mem_of_getElem? (i := 639) rfl) rfl
set_option maxRecDepth 100000 in
theorem tw_640 : Cond.instanceMethod y_P_fill ∈ x_tb := x_in (List.mem_of_getElem? (i := 640) rfl) rfl
set_option maxRecDepth 100000 in
theorem tw_641 : Cond.selects R_P y_P_fill y_P_fill ∈ x_tb := x_in (List.mem_of_getElem? (i := 641) rfl) rfl
set_option maxRecDepth 100000 in
theorem tw_642 : Cond.code y_P_fill b_P_fill 6 (some .int) ∈ x_tb := x_in (List.mem_of_getElem? (i := 642) rfl) rfl
set_option maxRecDepth 100000 in
theorem tw_643 : Cond.constant R_P 75 1103515245 ∈ x_tb := x_in (List.mem_of_getElem? (i := 643) rfl) rfl
set_option maxRecDepth 100000 in
theorem tw_644 : Cond.methodLink R_Law 30 y_P_reference ∈ x_tb := x_in (List.mem_of_getElem? (i := 644) rfl) rfl
set_option maxRecDepth 100000 in
theorem tw_645 : Cond.instanceMethod y_P_reference ∈ x_tb := x_in (List.mem_of_getElem? (i := 645) rfl) rfl
set_option maxRecDepth 100000 in
theorem tw_646 : Cond.selects R_P y_P_reference y_P_reference ∈ x_tb := x_in (List.mem_of_getElem? (i := 646) rfl) rfl
set_option maxRecDepth 100000 in
theorem tw_647 : Cond.code y_P_reference b_P_reference 1 (some .long) ∈ x_tb := x_in (List.mem_of_getElem? (i := 647) rfl) rfl
set_option maxRecDepth 100000 in
theorem tw_648 : Cond.constantLong R_P 76 (-1) ∈ x_tb := x_in (List.mem_of_getElem? (i := 648) rfl) rfl
set_option maxRecDepth 100000 in
theorem tw_649 : Cond.constantLong R_P 78 65536 ∈ x_tb := x_in (List.mem_of_getElem? (i := 649) rfl) rfl
set_option maxRecDepth 100000 in
theorem tw_650 : Cond.methodLink R_Law 35 y_P_close ∈ x_tb := x_in (List.mem_of_getElem? (i := 650) rfl) rfl
set_option maxRecDepth 100000 in
theorem tw_651 : Cond.instanceMethod y_P_close ∈ x_tb := x_in (List.mem_of_getElem? (i := 651) rfl) rfl
set_option maxRecDepth 100000 in
theorem tw_652 : Cond.selects R_P y_P_close y_P_close ∈ x_tb := x_in (List.mem_of_getElem? (i := 652) rfl) rfl
set_option maxRecDepth 100000 in
theorem tw_653 : Cond.code y_P_close b_P_close 1 (some .int) ∈ x_tb := x_in (List.mem_of_getElem? (i := 653) rfl) rfl
set_option maxRecDepth 100000 in
theorem tw_654 : Cond.methodLink R_Law 40 y_P_size ∈ x_tb := x_in (List.mem_of_getElem? (i := 654) rfl) rfl
set_option maxRecDepth 100000 in
theorem tw_655 : Cond.instanceMethod y_P_size ∈ x_tb := x_in (List.mem_of_getElem? (i := 655) rfl) rfl
set_option maxRecDepth 100000 in
theorem tw_656 : Cond.selects R_P y_P_size y_P_size ∈ x_tb := x_in (List.mem_of_getElem? (i := 656) rfl) rfl
set_option maxRecDepth 100000 in
theorem tw_657 : Cond.code y_P_size b_P_size 2 (some .int) ∈ x_tb := x_in (List.mem_of_getElem? (i := 657) rfl) rfl
set_option maxRecDepth 100000 in
theorem tw_658 : Cond.methodLink R_Law 45 y_P_word ∈ x_tb := x_in (List.mem_of_getElem? (i := 658) rfl) rfl
set_option maxRecDepth 100000 in
theorem tw_659 : Cond.instanceMethod y_P_word ∈ x_tb := x_in (List.mem_of_getElem? (i := 659) rfl) rfl
set_option maxRecDepth 100000 in
theorem tw_660 : Cond.selects R_P y_P_word y_P_word ∈ x_tb := x_in (List.mem_of_getElem? (i := 660) rfl) rfl
set_option maxRecDepth 100000 in
theorem tw_661 : Cond.code y_P_word b_P_word 5 (some .long) ∈ x_tb := x_in (List.mem_of_getElem? (i := 661) rfl) rfl
set_option maxRecDepth 100000 in
theorem tw_662 : Cond.methodLink R_Law 50 y_P_patch ∈ x_tb := x_in (List.mem_of_getElem? (i := 662) rfl) rfl
set_option maxRecDepth 100000 in
theorem tw_663 : Cond.instanceMethod y_P_patch ∈ x_tb := x_in (List.mem_of_getElem? (i := 663) rfl) rfl
set_option maxRecDepth 100000 in
theorem tw_664 : Cond.selects R_P y_P_patch y_P_patch ∈ x_tb := x_in (List.mem_of_getElem? (i := 664) rfl) rfl
set_option maxRecDepth 100000 in
theorem tw_665 : Cond.code y_P_patch b_P_patch 4 (some .int) ∈ x_tb := x_in (List.mem_of_getElem? (i := 665) rfl) rfl
set_option maxRecDepth 100000 in
theorem tw_666 : Cond.methodLink R_P 87 y_Bytes_set ∈ x_tb := x_in (List.mem_of_getElem? (i := 666) rfl) rfl
set_option maxRecDepth 100000 in
theorem tw_667 : Cond.instanceMethod y_Bytes_set ∈ x_tb := x_in (List.mem_of_getElem? (i := 667) rfl) rfl
set_option maxRecDepth 100000 in
theorem tw_668 : Cond.selects R_Bytes y_Bytes_set y_Bytes_set ∈ x_tb := x_in (List.mem_of_getElem? (i := 668) rfl) rfl
set_option maxRecDepth 100000 in
theorem tw_669 : Cond.code y_Bytes_set b_Bytes_set 3 none ∈ x_tb := x_in (List.mem_of_getElem? (i := 669) rfl) rfl
set_option maxRecDepth 100000 in
theorem tw_670 : Cond.methodLink R_Law 55 y_P_cut ∈ x_tb := x_in (List.mem_of_getElem? (i := 670) rfl) rfl
set_option maxRecDepth 100000 in
theorem tw_671 : Cond.instanceMethod y_P_cut ∈ x_tb := x_in (List.mem_of_getElem? (i := 671) rfl) rfl
set_option maxRecDepth 100000 in
theorem tw_672 : Cond.selects R_P y_P_cut y_P_cut ∈ x_tb := x_in (List.mem_of_getElem? (i := 672) rfl) rfl
set_option maxRecDepth 100000 in
theorem tw_673 : Cond.code y_P_cut b_P_cut 3 (some .int) ∈ x_tb := x_in (List.mem_of_getElem? (i := 673) rfl) rfl
set_option maxRecDepth 100000 in
theorem tw_674 : Cond.methodLink R_Law 59 y_P_read ∈ x_tb := x_in (List.mem_of_getElem? (i := 674) rfl) rfl
set_option maxRecDepth 100000 in
theorem tw_675 : Cond.instanceMethod y_P_read ∈ x_tb := x_in (List.mem_of_getElem? (i := 675) rfl) rfl
set_option maxRecDepth 100000 in
theorem tw_676 : Cond.selects R_P y_P_read y_P_read ∈ x_tb := x_in (List.mem_of_getElem? (i := 676) rfl) rfl
set_option maxRecDepth 100000 in
theorem tw_677 : Cond.code y_P_read b_P_read 2 (some .int) ∈ x_tb := x_in (List.mem_of_getElem? (i := 677) rfl) rfl
set_option maxRecDepth 100000 in
theorem tw_678 : Cond.methodLink R_P 91 y_P_findPieces ∈ x_tb := x_in (List.mem_of_getElem? (i := 678) rfl) rfl
set_option maxRecDepth 100000 in
theorem tw_680 : Cond.instanceMethod y_P_findPieces ∈ x_tb := x_in (List.mem_of_getElem? (i := 680) rfl) rfl
set_option maxRecDepth 100000 in
theorem tw_681 : Cond.code y_P_findPieces b_P_findPieces 4 (some .int) ∈ x_tb := x_in (List.mem_of_getElem? (i := 681) rfl) rfl
set_option maxRecDepth 100000 in
theorem tw_682 : Cond.methodLink R_P 114 y_P_headAt ∈ x_tb := x_in (List.mem_of_getElem? (i := 682) rfl) rfl
set_option maxRecDepth 100000 in
theorem tw_684 : Cond.instanceMethod y_P_headAt ∈ x_tb := x_in (List.mem_of_getElem? (i := 684) rfl) rfl
set_option maxRecDepth 100000 in
theorem tw_685 : Cond.code y_P_headAt b_P_headAt 2 (some .int) ∈ x_tb := x_in (List.mem_of_getElem? (i := 685) rfl) rfl
set_option maxRecDepth 100000 in
theorem tw_686 : Cond.methodLink R_P 117 y_P_bytesTold ∈ x_tb := x_in (List.mem_of_getElem? (i := 686) rfl) rfl
set_option maxRecDepth 100000 in
theorem tw_687 : Cond.static y_P_bytesTold ∈ x_tb := x_in (List.mem_of_getElem? (i := 687) rfl) rfl
set_option maxRecDepth 100000 in
theorem tw_688 : Cond.code y_P_bytesTold b_P_bytesTold 1 (some .int) ∈ x_tb := x_in (List.mem_of_getElem? (i := 688) rfl) rfl
set_option maxRecDepth 100000 in
theorem tw_689 : Cond.methodLink R_P 94 y_P_readPieces ∈ x_tb := x_in (List.mem_of_getElem? (i := 689) rfl) rfl
set_option maxRecDepth 100000 in
theorem tw_691 : Cond.instanceMethod y_P_readPieces ∈ x_tb := x_in (List.mem_of_getElem? (i := 691) rfl) rfl
set_option maxRecDepth 100000 in
theorem tw_692 : Cond.code y_P_readPieces b_P_readPieces 7 (some .boolean) ∈ x_tb := x_in (List.mem_of_getElem? (i := 692) rfl) rfl
set_option maxRecDepth 100000 in
theorem tw_693 : Cond.methodLink R_P 120 y_Unpacker_unpack ∈ x_tb := x_in (List.mem_of_getElem? (i := 693) rfl) rfl
set_option maxRecDepth 100000 in
theorem tw_694 : Cond.instanceMethod y_Unpacker_unpack ∈ x_tb := x_in (List.mem_of_getElem? (i := 694) rfl) rfl
set_option maxRecDepth 100000 in
theorem tw_695 : Cond.selects R_Unpacker y_Unpacker_unpack y_Unpacker_unpack ∈ x_tb := x_in (List.mem_of_getElem? (i := 695) rfl) rfl
set_option maxRecDepth 100000 in
theorem tw_696 : Cond.code y_Unpacker_unpack b_Unpacker_unpack 7 (some .boolean) ∈ x_tb := x_in (List.mem_of_getElem? (i := 696) rfl) rfl
set_option maxRecDepth 100000 in
theorem tw_697 : Cond.methodLink R_Unpacker 63 y_BitReader_open ∈ x_tb := x_in (List.mem_of_getElem? (i := 697) rfl) rfl
set_option maxRecDepth 100000 in
theorem tw_698 : Cond.instanceMethod y_BitReader_open ∈ x_tb := x_in (List.mem_of_getElem? (i := 698) rfl) rfl
set_option maxRecDepth 100000 in
theorem tw_699 : Cond.selects R_BitReader y_BitReader_open y_BitReader_open ∈ x_tb := x_in (List.mem_of_getElem? (i := 699) rfl) rfl
set_option maxRecDepth 100000 in
theorem tw_700 : Cond.code y_BitReader_open b_BitReader_open 3 none ∈ x_tb := x_in (List.mem_of_getElem? (i := 700) rfl) rfl
set_option maxRecDepth 100000 in
theorem tw_701 : Cond.methodLink R_Unpacker 67 y_Bytes_length ∈ x_tb := x_in (List.mem_of_getElem? (i := 701) rfl) rfl
set_option maxRecDepth 100000 in
theorem tw_702 : Cond.methodLink R_Unpacker 77 y_Unpacker_beginningHolds ∈ x_tb := x_in (List.mem_of_getElem? (i := 702) rfl) rfl
set_option maxRecDepth 100000 in
theorem tw_704 : Cond.instanceMethod y_Unpacker_beginningHolds ∈ x_tb := x_in (List.mem_of_getElem? (i := 704) rfl) rfl
set_option maxRecDepth 100000 in
theorem tw_705 : Cond.code y_Unpacker_beginningHolds b_Unpacker_beginningHolds 3 (some .boolean) ∈ x_tb := x_in (List.mem_of_getElem? (i := 705) rfl) rfl
set_option maxRecDepth 100000 in
theorem tw_706 : Cond.methodLink R_Unpacker 82 y_BitReader_number ∈ x_tb := x_in (List.mem_of_getElem? (i := 706) rfl) rfl
set_option maxRecDepth 100000 in
theorem tw_707 : Cond.instanceMethod y_BitReader_number ∈ x_tb := x_in (List.mem_of_getElem? (i := 707) rfl) rfl
set_option maxRecDepth 100000 in
theorem tw_708 : Cond.selects R_BitReader y_BitReader_number y_BitReader_number ∈ x_tb := x_in (List.mem_of_getElem? (i := 708) rfl) rfl
set_option maxRecDepth 100000 in
theorem tw_709 : Cond.code y_BitReader_number b_BitReader_number 4 (some .int) ∈ x_tb := x_in (List.mem_of_getElem? (i := 709) rfl) rfl
set_option maxRecDepth 100000 in
theorem tw_710 : Cond.methodLink R_BitReader 20 y_Bytes_at ∈ x_tb := x_in (List.mem_of_getElem? (i := 710) rfl) rfl
set_option maxRecDepth 100000 in
theorem tw_711 : Cond.constant R_Unpacker 81 65536 ∈ x_tb := x_in (List.mem_of_getElem? (i := 711) rfl) rfl
set_option maxRecDepth 100000 in
theorem tw_712 : Cond.methodLink R_Unpacker 85 y_Unpacker_copyStored ∈ x_tb := x_in (List.mem_of_getElem? (i := 712) rfl) rfl
set_option maxRecDepth 100000 in
theorem tw_714 : Cond.instanceMethod y_Unpacker_copyStored ∈ x_tb := x_in (List.mem_of_getElem? (i := 714) rfl) rfl
set_option maxRecDepth 100000 in
theorem tw_715 : Cond.code y_Unpacker_copyStored b_Unpacker_copyStored 4 (some .boolean) ∈ x_tb := x_in (List.mem_of_getElem? (i := 715) rfl) rfl
set_option maxRecDepth 100000 in
theorem tw_716 : Cond.methodLink R_Unpacker 101 y_BitReader_align ∈ x_tb := x_in (List.mem_of_getElem? (i := 716) rfl) rfl
set_option maxRecDepth 100000 in
theorem tw_717 : Cond.instanceMethod y_BitReader_align ∈ x_tb := x_in (List.mem_of_getElem? (i := 717) rfl) rfl
set_option maxRecDepth 100000 in
theorem tw_718 : Cond.selects R_BitReader y_BitReader_align y_BitReader_align ∈ x_tb := x_in (List.mem_of_getElem? (i := 718) rfl) rfl
set_option maxRecDepth 100000 in
theorem tw_719 : Cond.code y_BitReader_align b_BitReader_align 1 none ∈ x_tb := x_in (List.mem_of_getElem? (i := 719) rfl) rfl
set_option maxRecDepth 100000 in
theorem tw_720 : Cond.constant R_Unpacker 111 65535 ∈ x_tb := x_in (List.mem_of_getElem? (i := 720) rfl) rfl
set_option maxRecDepth 100000 in
theorem tw_721 : Cond.methodLink R_Unpacker 112 y_Unpacker_made ∈ x_tb := x_in (List.mem_of_getElem? (i := 721) rfl) rfl
set_option maxRecDepth 100000 in
theorem tw_723 : Cond.instanceMethod y_Unpacker_made ∈ x_tb := x_in (List.mem_of_getElem? (i := 723) rfl) rfl
set_option maxRecDepth 100000 in
theorem tw_724 : Cond.code y_Unpacker_made b_Unpacker_made 1 (some .int) ∈ x_tb := x_in (List.mem_of_getElem? (i := 724) rfl) rfl
set_option maxRecDepth 100000 in
theorem tw_725 : Cond.methodLink R_Unpacker 104 y_BitReader_bitsLeft ∈ x_tb := x_in (List.mem_of_getElem? (i := 725) rfl) rfl
set_option maxRecDepth 100000 in
theorem tw_726 : Cond.instanceMethod y_BitReader_bitsLeft ∈ x_tb := x_in (List.mem_of_getElem? (i := 726) rfl) rfl
set_option maxRecDepth 100000 in
theorem tw_727 : Cond.selects R_BitReader y_BitReader_bitsLeft y_BitReader_bitsLeft ∈ x_tb := x_in (List.mem_of_getElem? (i := 727) rfl) rfl
set_option maxRecDepth 100000 in
theorem tw_728 : Cond.code y_BitReader_bitsLeft b_BitReader_bitsLeft 1 (some .int) ∈ x_tb := x_in (List.mem_of_getElem? (i := 728) rfl) rfl
set_option maxRecDepth 100000 in
theorem tw_729 : Cond.methodLink R_Unpacker 115 y_Bytes_add ∈ x_tb := x_in (List.mem_of_getElem? (i := 729) rfl) rfl
set_option maxRecDepth 100000 in
theorem tw_730 : Cond.methodLink R_Unpacker 88 y_Unpacker_followSymbols ∈ x_tb := x_in (List.mem_of_getElem? (i := 730) rfl) rfl
set_option maxRecDepth 100000 in
theorem tw_732 : Cond.instanceMethod y_Unpacker_followSymbols ∈ x_tb := x_in (List.mem_of_getElem? (i := 732) rfl) rfl
set_option maxRecDepth 100000 in
theorem tw_733 : Cond.code y_Unpacker_followSymbols b_Unpacker_followSymbols 5 (some .boolean) ∈ x_tb := x_in (List.mem_of_getElem? (i := 733) rfl) rfl
set_option maxRecDepth 100000 in
theorem tw_734 : Cond.methodLink R_Unpacker 125 y_Table_next ∈ x_tb := x_in (List.mem_of_getElem? (i := 734) rfl) rfl
set_option maxRecDepth 100000 in
theorem tw_735 : Cond.instanceMethod y_Table_next ∈ x_tb := x_in (List.mem_of_getElem? (i := 735) rfl) rfl
set_option maxRecDepth 100000 in
theorem tw_736 : Cond.selects R_Table y_Table_next y_Table_next ∈ x_tb := x_in (List.mem_of_getElem? (i := 736) rfl) rfl
set_option maxRecDepth 100000 in
theorem tw_737 : Cond.code y_Table_next b_Table_next 8 (some .int) ∈ x_tb := x_in (List.mem_of_getElem? (i := 737) rfl) rfl
set_option maxRecDepth 100000 in
theorem tw_738 : Cond.methodLink R_Table 37 y_BitReader_number ∈ x_tb := x_in (List.mem_of_getElem? (i := 738) rfl) rfl
set_option maxRecDepth 100000 in
theorem tw_739 : Cond.methodLink R_Unpacker 135 y_Unpacker_repeatBytes ∈ x_tb := x_in (List.mem_of_getElem? (i := 739) rfl) rfl
set_option maxRecDepth 100000 in
theorem tw_741 : Cond.instanceMethod y_Unpacker_repeatBytes ∈ x_tb := x_in (List.mem_of_getElem? (i := 741) rfl) rfl
set_option maxRecDepth 100000 in
theorem tw_742 : Cond.code y_Unpacker_repeatBytes b_Unpacker_repeatBytes 10 (some .boolean) ∈ x_tb := x_in (List.mem_of_getElem? (i := 742) rfl) rfl
set_option maxRecDepth 100000 in
theorem tw_747 : Cond.methodLink R_Unpacker 151 y_Bytes_at ∈ x_tb := x_in (List.mem_of_getElem? (i := 747) rfl) rfl
set_option maxRecDepth 100000 in
theorem tw_748 : Cond.methodLink R_Unpacker 92 y_Unpacker_makeCodes ∈ x_tb := x_in (List.mem_of_getElem? (i := 748) rfl) rfl
set_option maxRecDepth 100000 in
theorem tw_750 : Cond.instanceMethod y_Unpacker_makeCodes ∈ x_tb := x_in (List.mem_of_getElem? (i := 750) rfl) rfl
set_option maxRecDepth 100000 in
theorem tw_751 : Cond.code y_Unpacker_makeCodes b_Unpacker_makeCodes 6 (some .boolean) ∈ x_tb := x_in (List.mem_of_getElem? (i := 751) rfl) rfl
set_option maxRecDepth 100000 in
theorem tw_753 : Cond.methodLink R_Unpacker 121 y_Unpacker_readLengths ∈ x_tb := x_in (List.mem_of_getElem? (i := 753) rfl) rfl
set_option maxRecDepth 100000 in
theorem tw_755 : Cond.instanceMethod y_Unpacker_readLengths ∈ x_tb := x_in (List.mem_of_getElem? (i := 755) rfl) rfl
set_option maxRecDepth 100000 in
theorem tw_756 : Cond.code y_Unpacker_readLengths b_Unpacker_readLengths 8 (some .boolean) ∈ x_tb := x_in (List.mem_of_getElem? (i := 756) rfl) rfl
set_option maxRecDepth 100000 in
theorem tw_759 : Cond.methodLink R_Unpacker 95 y_Unpacker_checkHolds ∈ x_tb := x_in (List.mem_of_getElem? (i := 759) rfl) rfl
set_option maxRecDepth 100000 in
theorem tw_761 : Cond.instanceMethod y_Unpacker_checkHolds ∈ x_tb := x_in (List.mem_of_getElem? (i := 761) rfl) rfl
set_option maxRecDepth 100000 in
theorem tw_762 : Cond.code y_Unpacker_checkHolds b_Unpacker_checkHolds 3 (some .boolean) ∈ x_tb := x_in (List.mem_of_getElem? (i := 762) rfl) rfl
set_option maxRecDepth 100000 in
theorem tw_764 : Cond.methodLink R_Law 63 y_P_byteAt ∈ x_tb := x_in (List.mem_of_getElem? (i := 764) rfl) rfl
set_option maxRecDepth 100000 in
theorem tw_765 : Cond.instanceMethod y_P_byteAt ∈ x_tb := x_in (List.mem_of_getElem? (i := 765) rfl) rfl
set_option maxRecDepth 100000 in
theorem tw_766 : Cond.selects R_P y_P_byteAt y_P_byteAt ∈ x_tb := x_in (List.mem_of_getElem? (i := 766) rfl) rfl
set_option maxRecDepth 100000 in
theorem tw_767 : Cond.code y_P_byteAt b_P_byteAt 8 (some .int) ∈ x_tb := x_in (List.mem_of_getElem? (i := 767) rfl) rfl
set_option maxRecDepth 100000 in
theorem tw_768 : Cond.constantLong R_P 98 65535 ∈ x_tb := x_in (List.mem_of_getElem? (i := 768) rfl) rfl
set_option maxRecDepth 100000 in
theorem tw_769 : Cond.methodLink R_Law 68 y_P_start ∈ x_tb := x_in (List.mem_of_getElem? (i := 769) rfl) rfl
set_option maxRecDepth 100000 in
theorem tw_770 : Cond.instanceMethod y_P_start ∈ x_tb := x_in (List.mem_of_getElem? (i := 770) rfl) rfl
set_option maxRecDepth 100000 in
theorem tw_771 : Cond.selects R_P y_P_start y_P_start ∈ x_tb := x_in (List.mem_of_getElem? (i := 771) rfl) rfl
set_option maxRecDepth 100000 in
theorem tw_772 : Cond.code y_P_start b_P_start 2 (some .int) ∈ x_tb := x_in (List.mem_of_getElem? (i := 772) rfl) rfl
set_option maxRecDepth 100000 in
theorem tw_773 : Cond.classLink R_Law 10 R_M ∈ x_tb := x_in (List.mem_of_getElem? (i := 773) rfl) rfl
set_option maxRecDepth 100000 in
theorem tw_774 : Cond.instantiable R_M 46 ∈ x_tb := x_in (List.mem_of_getElem? (i := 774) rfl) rfl
set_option maxRecDepth 100000 in
theorem tw_775 : Cond.methodLink R_Law 12 y_M_init ∈ x_tb := x_in (List.mem_of_getElem? (i := 775) rfl) rfl
set_option maxRecDepth 100000 in
theorem tw_776 : Cond.instanceMethod y_M_init ∈ x_tb := x_in (List.mem_of_getElem? (i := 776) rfl) rfl
set_option maxRecDepth 100000 in
theorem tw_777 : Cond.code y_M_init b_M_init 1 none ∈ x_tb := x_in (List.mem_of_getElem? (i := 777) rfl) rfl
set_option maxRecDepth 100000 in
theorem tw_778 : Cond.methodLink R_M 1 objectInit ∈ x_tb := x_in (List.mem_of_getElem? (i := 778) rfl) rfl
set_option maxRecDepth 100000 in
theorem tw_779 : Cond.constant R_M 9 65536 ∈ x_tb := x_in (List.mem_of_getElem? (i := 779) rfl) rfl
set_option maxRecDepth 100000 in
theorem tw_780 : Cond.constant R_M 18 66000 ∈ x_tb := x_in (List.mem_of_getElem? (i := 780) rfl) rfl
set_option maxRecDepth 100000 in
theorem tw_781 : Cond.classLink R_M 85 R_Tree ∈ x_tb := x_in (List.mem_of_getElem? (i := 781) rfl) rfl
set_option maxRecDepth 100000 in
theorem tw_782 : Cond.instantiable R_Tree 2 ∈ x_tb := x_in (List.mem_of_getElem? (i := 782) rfl) rfl
set_option maxRecDepth 100000 in
theorem tw_784 : Cond.instanceMethod y_Tree_init ∈ x_tb := x_in (List.mem_of_getElem? (i := 784) rfl) rfl
set_option maxRecDepth 100000 in
theorem tw_785 : Cond.code y_Tree_init b_Tree_init 1 none ∈ x_tb := x_in (List.mem_of_getElem? (i := 785) rfl) rfl
set_option maxRecDepth 100000 in
theorem tw_786 : Cond.methodLink R_Tree 1 objectInit ∈ x_tb := x_in (List.mem_of_getElem? (i := 786) rfl) rfl
set_option maxRecDepth 100000 in
theorem tw_787 : Cond.fieldLink R_Tree 7 "PieceRowModel$Tree" "next" "[I" ∈ x_tb := x_in (List.mem_of_getElem? (i := 787) rfl) rfl
set_option maxRecDepth 100000 in
theorem tw_789 : Cond.fieldLink R_Tree 13 "PieceRowModel$Tree" "nodes" "I" ∈ x_tb := x_in (List.mem_of_getElem? (i := 789) rfl) rfl
set_option maxRecDepth 100000 in
theorem tw_795 : Cond.fieldLink R_M 278 "PieceRowModel" "plain" "Z" ∈ x_tb := x_in (List.mem_of_getElem? (i := 795) rfl) rfl
set_option maxRecDepth 100000 in
theorem tw_796 : Cond.fieldLink R_M 281 "PieceRowModel" "closed" "Z" ∈ x_tb := x_in (List.mem_of_getElem? (i := 796) rfl) rfl
set_option maxRecDepth 100000 in
theorem tw_797 : Cond.fieldLink R_M 284 "PieceRowModel" "rowSize" "I" ∈ x_tb := x_in (List.mem_of_getElem? (i := 797) rfl) rfl
set_option maxRecDepth 100000 in
theorem tw_798 : Cond.fieldLink R_M 10 "PieceRowModel" "row" "[B" ∈ x_tb := x_in (List.mem_of_getElem? (i := 798) rfl) rfl
set_option maxRecDepth 100000 in
theorem tw_799 : Cond.fieldLink R_M 287 "PieceRowModel" "pieces" "I" ∈ x_tb := x_in (List.mem_of_getElem? (i := 799) rfl) rfl
set_option maxRecDepth 100000 in
theorem tw_800 : Cond.fieldLink R_M 14 "PieceRowModel" "starts" "[I" ∈ x_tb := x_in (List.mem_of_getElem? (i := 800) rfl) rfl
set_option maxRecDepth 100000 in
theorem tw_801 : Cond.fieldLink R_M 290 "PieceRowModel" "imageSize" "I" ∈ x_tb := x_in (List.mem_of_getElem? (i := 801) rfl) rfl
set_option maxRecDepth 100000 in
theorem tw_802 : Cond.fieldLink R_M 19 "PieceRowModel" "image" "[B" ∈ x_tb := x_in (List.mem_of_getElem? (i := 802) rfl) rfl
set_option maxRecDepth 100000 in
theorem tw_803 : Cond.fieldLink R_M 309 "PieceRowModel" "readSize" "I" ∈ x_tb := x_in (List.mem_of_getElem? (i := 803) rfl) rfl
set_option maxRecDepth 100000 in
theorem tw_804 : Cond.fieldLink R_M 22 "PieceRowModel" "readRow" "[B" ∈ x_tb := x_in (List.mem_of_getElem? (i := 804) rfl) rfl
set_option maxRecDepth 100000 in
theorem tw_805 : Cond.fieldLink R_M 312 "PieceRowModel" "readPieces" "I" ∈ x_tb := x_in (List.mem_of_getElem? (i := 805) rfl) rfl
set_option maxRecDepth 100000 in
theorem tw_806 : Cond.fieldLink R_M 25 "PieceRowModel" "readStart" "[I" ∈ x_tb := x_in (List.mem_of_getElem? (i := 806) rfl) rfl
set_option maxRecDepth 100000 in
theorem tw_807 : Cond.fieldLink R_M 28 "PieceRowModel" "readAt" "[I" ∈ x_tb := x_in (List.mem_of_getElem? (i := 807) rfl) rfl
set_option maxRecDepth 100000 in
theorem tw_808 : Cond.fieldLink R_M 31 "PieceRowModel" "readMany" "[I" ∈ x_tb := x_in (List.mem_of_getElem? (i := 808) rfl) rfl
set_option maxRecDepth 100000 in
theorem tw_809 : Cond.fieldLink R_M 34 "PieceRowModel" "piece" "[B" ∈ x_tb := x_in (List.mem_of_getElem? (i := 809) rfl) rfl
set_option maxRecDepth 100000 in
theorem tw_810 : Cond.fieldLink R_M 37 "PieceRowModel" "packed" "[B" ∈ x_tb := x_in (List.mem_of_getElem? (i := 810) rfl) rfl
set_option maxRecDepth 100000 in
theorem tw_811 : Cond.fieldLink R_M 114 "PieceRowModel" "packedBits" "I" ∈ x_tb := x_in (List.mem_of_getElem? (i := 811) rfl) rfl
set_option maxRecDepth 100000 in
theorem tw_812 : Cond.fieldLink R_M 40 "PieceRowModel" "pairBefore" "[I" ∈ x_tb := x_in (List.mem_of_getElem? (i := 812) rfl) rfl
set_option maxRecDepth 100000 in
theorem tw_813 : Cond.fieldLink R_M 43 "PieceRowModel" "pairLast" "[I" ∈ x_tb := x_in (List.mem_of_getElem? (i := 813) rfl) rfl
set_option maxRecDepth 100000 in
theorem tw_814 : Cond.fieldLink R_M 126 "PieceRowModel" "tokens" "I" ∈ x_tb := x_in (List.mem_of_getElem? (i := 814) rfl) rfl
set_option maxRecDepth 100000 in
theorem tw_815 : Cond.fieldLink R_M 46 "PieceRowModel" "tokenLength" "[I" ∈ x_tb := x_in (List.mem_of_getElem? (i := 815) rfl) rfl
set_option maxRecDepth 100000 in
theorem tw_816 : Cond.fieldLink R_M 49 "PieceRowModel" "tokenValue" "[I" ∈ x_tb := x_in (List.mem_of_getElem? (i := 816) rfl) rfl
set_option maxRecDepth 100000 in
theorem tw_817 : Cond.fieldLink R_M 52 "PieceRowModel" "counts" "[I" ∈ x_tb := x_in (List.mem_of_getElem? (i := 817) rfl) rfl
set_option maxRecDepth 100000 in
theorem tw_818 : Cond.fieldLink R_M 55 "PieceRowModel" "lengths" "[I" ∈ x_tb := x_in (List.mem_of_getElem? (i := 818) rfl) rfl
set_option maxRecDepth 100000 in
theorem tw_819 : Cond.fieldLink R_M 58 "PieceRowModel" "fixed" "[I" ∈ x_tb := x_in (List.mem_of_getElem? (i := 819) rfl) rfl
set_option maxRecDepth 100000 in
theorem tw_820 : Cond.fieldLink R_M 61 "PieceRowModel" "ranked" "[I" ∈ x_tb := x_in (List.mem_of_getElem? (i := 820) rfl) rfl
set_option maxRecDepth 100000 in
theorem tw_821 : Cond.fieldLink R_M 64 "PieceRowModel" "weight" "[I" ∈ x_tb := x_in (List.mem_of_getElem? (i := 821) rfl) rfl
set_option maxRecDepth 100000 in
theorem tw_822 : Cond.fieldLink R_M 67 "PieceRowModel" "weightBefore" "[I" ∈ x_tb := x_in (List.mem_of_getElem? (i := 822) rfl) rfl
set_option maxRecDepth 100000 in
theorem tw_823 : Cond.fieldLink R_M 70 "PieceRowModel" "items" "[I" ∈ x_tb := x_in (List.mem_of_getElem? (i := 823) rfl) rfl
set_option maxRecDepth 100000 in
theorem tw_824 : Cond.fieldLink R_M 73 "PieceRowModel" "lengthRow" "[I" ∈ x_tb := x_in (List.mem_of_getElem? (i := 824) rfl) rfl
set_option maxRecDepth 100000 in
theorem tw_825 : Cond.fieldLink R_M 144 "PieceRowModel" "steps" "I" ∈ x_tb := x_in (List.mem_of_getElem? (i := 825) rfl) rfl
set_option maxRecDepth 100000 in
theorem tw_826 : Cond.fieldLink R_M 76 "PieceRowModel" "step" "[I" ∈ x_tb := x_in (List.mem_of_getElem? (i := 826) rfl) rfl
set_option maxRecDepth 100000 in
theorem tw_827 : Cond.fieldLink R_M 79 "PieceRowModel" "stepMore" "[I" ∈ x_tb := x_in (List.mem_of_getElem? (i := 827) rfl) rfl
set_option maxRecDepth 100000 in
theorem tw_828 : Cond.fieldLink R_M 82 "PieceRowModel" "codes" "[I" ∈ x_tb := x_in (List.mem_of_getElem? (i := 828) rfl) rfl
set_option maxRecDepth 100000 in
theorem tw_829 : Cond.fieldLink R_M 88 "PieceRowModel" "symbolTree" "LPieceRowModel$Tree;" ∈ x_tb := x_in (List.mem_of_getElem? (i := 829) rfl) rfl
set_option maxRecDepth 100000 in
theorem tw_830 : Cond.fieldLink R_M 92 "PieceRowModel" "distanceTree" "LPieceRowModel$Tree;" ∈ x_tb := x_in (List.mem_of_getElem? (i := 830) rfl) rfl
set_option maxRecDepth 100000 in
theorem tw_831 : Cond.fieldLink R_M 95 "PieceRowModel" "smallTree" "LPieceRowModel$Tree;" ∈ x_tb := x_in (List.mem_of_getElem? (i := 831) rfl) rfl
set_option maxRecDepth 100000 in
theorem tw_832 : Cond.fieldLink R_M 98 "PieceRowModel" "readLengths" "[I" ∈ x_tb := x_in (List.mem_of_getElem? (i := 832) rfl) rfl
set_option maxRecDepth 100000 in
theorem tw_833 : Cond.fieldLink R_M 228 "PieceRowModel" "source" "[B" ∈ x_tb := x_in (List.mem_of_getElem? (i := 833) rfl) rfl
set_option maxRecDepth 100000 in
theorem tw_834 : Cond.fieldLink R_M 231 "PieceRowModel" "sourceFrom" "I" ∈ x_tb := x_in (List.mem_of_getElem? (i := 834) rfl) rfl
set_option maxRecDepth 100000 in
theorem tw_835 : Cond.fieldLink R_M 225 "PieceRowModel" "sourceBits" "I" ∈ x_tb := x_in (List.mem_of_getElem? (i := 835) rfl) rfl
set_option maxRecDepth 100000 in
theorem tw_836 : Cond.fieldLink R_M 222 "PieceRowModel" "readBits" "I" ∈ x_tb := x_in (List.mem_of_getElem? (i := 836) rfl) rfl
set_option maxRecDepth 100000 in
theorem tw_837 : Cond.fieldLink R_M 218 "PieceRowModel" "wrong" "Z" ∈ x_tb := x_in (List.mem_of_getElem? (i := 837) rfl) rfl
set_option maxRecDepth 100000 in
theorem tw_838 : Cond.fieldLink R_M 247 "PieceRowModel" "target" "[B" ∈ x_tb := x_in (List.mem_of_getElem? (i := 838) rfl) rfl
set_option maxRecDepth 100000 in
theorem tw_839 : Cond.fieldLink R_M 241 "PieceRowModel" "made" "I" ∈ x_tb := x_in (List.mem_of_getElem? (i := 839) rfl) rfl
set_option maxRecDepth 100000 in
theorem tw_840 : Cond.fieldLink R_M 244 "PieceRowModel" "room" "I" ∈ x_tb := x_in (List.mem_of_getElem? (i := 840) rfl) rfl
set_option maxRecDepth 100000 in
theorem tw_934 : Cond.methodLink R_Law 17 y_M_begin ∈ x_tb := x_in (List.mem_of_getElem? (i := 934) rfl) rfl
set_option maxRecDepth 100000 in
theorem tw_935 : Cond.instanceMethod y_M_begin ∈ x_tb := x_in (List.mem_of_getElem? (i := 935) rfl) rfl
set_option maxRecDepth 100000 in
theorem tw_936 : Cond.selects R_M y_M_begin y_M_begin ∈ x_tb := x_in (List.mem_of_getElem? (i := 936) rfl) rfl
set_option maxRecDepth 100000 in
theorem tw_937 : Cond.code y_M_begin b_M_begin 2 none ∈ x_tb := x_in (List.mem_of_getElem? (i := 937) rfl) rfl
set_option maxRecDepth 100000 in
theorem tw_938 : Cond.methodLink R_Law 24 y_M_put ∈ x_tb := x_in (List.mem_of_getElem? (i := 938) rfl) rfl
set_option maxRecDepth 100000 in
theorem tw_939 : Cond.instanceMethod y_M_put ∈ x_tb := x_in (List.mem_of_getElem? (i := 939) rfl) rfl
set_option maxRecDepth 100000 in
theorem tw_940 : Cond.selects R_M y_M_put y_M_put ∈ x_tb := x_in (List.mem_of_getElem? (i := 940) rfl) rfl
set_option maxRecDepth 100000 in
theorem tw_941 : Cond.code y_M_put b_M_put 5 (some .int) ∈ x_tb := x_in (List.mem_of_getElem? (i := 941) rfl) rfl
set_option maxRecDepth 100000 in
theorem tw_942 : Cond.methodLink R_M 303 y_M_putByte ∈ x_tb := x_in (List.mem_of_getElem? (i := 942) rfl) rfl
set_option maxRecDepth 100000 in
theorem tw_944 : Cond.instanceMethod y_M_putByte ∈ x_tb := x_in (List.mem_of_getElem? (i := 944) rfl) rfl
set_option maxRecDepth 100000 in
theorem tw_945 : Cond.code y_M_putByte b_M_putByte 2 none ∈ x_tb := x_in (List.mem_of_getElem? (i := 945) rfl) rfl
set_option maxRecDepth 100000 in
theorem tw_946 : Cond.methodLink R_M 300 y_M_closePiece ∈ x_tb := x_in (List.mem_of_getElem? (i := 946) rfl) rfl
set_option maxRecDepth 100000 in
theorem tw_948 : Cond.instanceMethod y_M_closePiece ∈ x_tb := x_in (List.mem_of_getElem? (i := 948) rfl) rfl
set_option maxRecDepth 100000 in
theorem tw_949 : Cond.code y_M_closePiece b_M_closePiece 6 none ∈ x_tb := x_in (List.mem_of_getElem? (i := 949) rfl) rfl
set_option maxRecDepth 100000 in
theorem tw_950 : Cond.methodLink R_M 293 y_M_pack ∈ x_tb := x_in (List.mem_of_getElem? (i := 950) rfl) rfl
set_option maxRecDepth 100000 in
theorem tw_952 : Cond.instanceMethod y_M_pack ∈ x_tb := x_in (List.mem_of_getElem? (i := 952) rfl) rfl
set_option maxRecDepth 100000 in
theorem tw_953 : Cond.code y_M_pack b_M_pack 9 (some .int) ∈ x_tb := x_in (List.mem_of_getElem? (i := 953) rfl) rfl
set_option maxRecDepth 100000 in
theorem tw_954 : Cond.methodLink R_M 204 y_M_notePairs ∈ x_tb := x_in (List.mem_of_getElem? (i := 954) rfl) rfl
set_option maxRecDepth 100000 in
theorem tw_956 : Cond.instanceMethod y_M_notePairs ∈ x_tb := x_in (List.mem_of_getElem? (i := 956) rfl) rfl
set_option maxRecDepth 100000 in
theorem tw_957 : Cond.code y_M_notePairs b_M_notePairs 6 none ∈ x_tb := x_in (List.mem_of_getElem? (i := 957) rfl) rfl
set_option maxRecDepth 100000 in
theorem tw_958 : Cond.methodLink R_M 159 y_M_writeNumber ∈ x_tb := x_in (List.mem_of_getElem? (i := 958) rfl) rfl
set_option maxRecDepth 100000 in
theorem tw_960 : Cond.instanceMethod y_M_writeNumber ∈ x_tb := x_in (List.mem_of_getElem? (i := 960) rfl) rfl
set_option maxRecDepth 100000 in
theorem tw_961 : Cond.code y_M_writeNumber b_M_writeNumber 4 none ∈ x_tb := x_in (List.mem_of_getElem? (i := 961) rfl) rfl
set_option maxRecDepth 100000 in
theorem tw_962 : Cond.methodLink R_M 118 y_M_writeBit ∈ x_tb := x_in (List.mem_of_getElem? (i := 962) rfl) rfl
set_option maxRecDepth 100000 in
theorem tw_964 : Cond.instanceMethod y_M_writeBit ∈ x_tb := x_in (List.mem_of_getElem? (i := 964) rfl) rfl
set_option maxRecDepth 100000 in
theorem tw_965 : Cond.code y_M_writeBit b_M_writeBit 3 none ∈ x_tb := x_in (List.mem_of_getElem? (i := 965) rfl) rfl
set_option maxRecDepth 100000 in
theorem tw_966 : Cond.methodLink R_M 208 y_M_packPart ∈ x_tb := x_in (List.mem_of_getElem? (i := 966) rfl) rfl
set_option maxRecDepth 100000 in
theorem tw_968 : Cond.instanceMethod y_M_packPart ∈ x_tb := x_in (List.mem_of_getElem? (i := 968) rfl) rfl
set_option maxRecDepth 100000 in
theorem tw_969 : Cond.code y_M_packPart b_M_packPart 14 none ∈ x_tb := x_in (List.mem_of_getElem? (i := 969) rfl) rfl
set_option maxRecDepth 100000 in
theorem tw_970 : Cond.methodLink R_M 162 y_M_cutPart ∈ x_tb := x_in (List.mem_of_getElem? (i := 970) rfl) rfl
set_option maxRecDepth 100000 in
theorem tw_972 : Cond.instanceMethod y_M_cutPart ∈ x_tb := x_in (List.mem_of_getElem? (i := 972) rfl) rfl
set_option maxRecDepth 100000 in
theorem tw_973 : Cond.code y_M_cutPart b_M_cutPart 11 none ∈ x_tb := x_in (List.mem_of_getElem? (i := 973) rfl) rfl
set_option maxRecDepth 100000 in
theorem tw_974 : Cond.constant R_M 129 32768 ∈ x_tb := x_in (List.mem_of_getElem? (i := 974) rfl) rfl
set_option maxRecDepth 100000 in
theorem tw_975 : Cond.methodLink R_M 166 y_M_countTokens ∈ x_tb := x_in (List.mem_of_getElem? (i := 975) rfl) rfl
set_option maxRecDepth 100000 in
theorem tw_977 : Cond.instanceMethod y_M_countTokens ∈ x_tb := x_in (List.mem_of_getElem? (i := 977) rfl) rfl
set_option maxRecDepth 100000 in
theorem tw_978 : Cond.code y_M_countTokens b_M_countTokens 2 none ∈ x_tb := x_in (List.mem_of_getElem? (i := 978) rfl) rfl
set_option maxRecDepth 100000 in
theorem tw_979 : Cond.methodLink R_M 130 y_M_lengthSymbol ∈ x_tb := x_in (List.mem_of_getElem? (i := 979) rfl) rfl
set_option maxRecDepth 100000 in
theorem tw_980 : Cond.static y_M_lengthSymbol ∈ x_tb := x_in (List.mem_of_getElem? (i := 980) rfl) rfl
set_option maxRecDepth 100000 in
theorem tw_981 : Cond.code y_M_lengthSymbol b_M_lengthSymbol 2 (some .int) ∈ x_tb := x_in (List.mem_of_getElem? (i := 981) rfl) rfl
set_option maxRecDepth 100000 in
theorem tw_982 : Cond.methodLink R_M 108 y_M_lengthBase ∈ x_tb := x_in (List.mem_of_getElem? (i := 982) rfl) rfl
set_option maxRecDepth 100000 in
theorem tw_983 : Cond.static y_M_lengthBase ∈ x_tb := x_in (List.mem_of_getElem? (i := 983) rfl) rfl
set_option maxRecDepth 100000 in
theorem tw_984 : Cond.code y_M_lengthBase b_M_lengthBase 1 (some .int) ∈ x_tb := x_in (List.mem_of_getElem? (i := 984) rfl) rfl
set_option maxRecDepth 100000 in
theorem tw_985 : Cond.methodLink R_M 101 y_M_lengthBits ∈ x_tb := x_in (List.mem_of_getElem? (i := 985) rfl) rfl
set_option maxRecDepth 100000 in
theorem tw_986 : Cond.static y_M_lengthBits ∈ x_tb := x_in (List.mem_of_getElem? (i := 986) rfl) rfl
set_option maxRecDepth 100000 in
theorem tw_987 : Cond.code y_M_lengthBits b_M_lengthBits 1 (some .int) ∈ x_tb := x_in (List.mem_of_getElem? (i := 987) rfl) rfl
set_option maxRecDepth 100000 in
theorem tw_988 : Cond.methodLink R_M 133 y_M_distanceSymbol ∈ x_tb := x_in (List.mem_of_getElem? (i := 988) rfl) rfl
set_option maxRecDepth 100000 in
theorem tw_989 : Cond.static y_M_distanceSymbol ∈ x_tb := x_in (List.mem_of_getElem? (i := 989) rfl) rfl
set_option maxRecDepth 100000 in
theorem tw_990 : Cond.code y_M_distanceSymbol b_M_distanceSymbol 2 (some .int) ∈ x_tb := x_in (List.mem_of_getElem? (i := 990) rfl) rfl
set_option maxRecDepth 100000 in
theorem tw_991 : Cond.methodLink R_M 111 y_M_distanceBase ∈ x_tb := x_in (List.mem_of_getElem? (i := 991) rfl) rfl
set_option maxRecDepth 100000 in
theorem tw_992 : Cond.static y_M_distanceBase ∈ x_tb := x_in (List.mem_of_getElem? (i := 992) rfl) rfl
set_option maxRecDepth 100000 in
theorem tw_993 : Cond.code y_M_distanceBase b_M_distanceBase 1 (some .int) ∈ x_tb := x_in (List.mem_of_getElem? (i := 993) rfl) rfl
set_option maxRecDepth 100000 in
theorem tw_994 : Cond.methodLink R_M 105 y_M_distanceBits ∈ x_tb := x_in (List.mem_of_getElem? (i := 994) rfl) rfl
set_option maxRecDepth 100000 in
theorem tw_995 : Cond.static y_M_distanceBits ∈ x_tb := x_in (List.mem_of_getElem? (i := 995) rfl) rfl
set_option maxRecDepth 100000 in
theorem tw_996 : Cond.code y_M_distanceBits b_M_distanceBits 1 (some .int) ∈ x_tb := x_in (List.mem_of_getElem? (i := 996) rfl) rfl
set_option maxRecDepth 100000 in
theorem tw_997 : Cond.methodLink R_M 169 y_M_findLengths ∈ x_tb := x_in (List.mem_of_getElem? (i := 997) rfl) rfl
set_option maxRecDepth 100000 in
theorem tw_999 : Cond.instanceMethod y_M_findLengths ∈ x_tb := x_in (List.mem_of_getElem? (i := 999) rfl) rfl
set_option maxRecDepth 100000 in
theorem tw_1000 : Cond.code y_M_findLengths b_M_findLengths 12 none ∈ x_tb := x_in (List.mem_of_getElem? (i := 1000) rfl) rfl
set_option maxRecDepth 100000 in
theorem tw_1001 : Cond.methodLink R_M 136 y_M_rank ∈ x_tb := x_in (List.mem_of_getElem? (i := 1001) rfl) rfl
set_option maxRecDepth 100000 in
theorem tw_1003 : Cond.instanceMethod y_M_rank ∈ x_tb := x_in (List.mem_of_getElem? (i := 1003) rfl) rfl
set_option maxRecDepth 100000 in
theorem tw_1004 : Cond.code y_M_rank b_M_rank 6 (some .int) ∈ x_tb := x_in (List.mem_of_getElem? (i := 1004) rfl) rfl
set_option maxRecDepth 100000 in
theorem tw_1005 : Cond.methodLink R_M 140 y_M_takeItem ∈ x_tb := x_in (List.mem_of_getElem? (i := 1005) rfl) rfl
set_option maxRecDepth 100000 in
theorem tw_1007 : Cond.instanceMethod y_M_takeItem ∈ x_tb := x_in (List.mem_of_getElem? (i := 1007) rfl) rfl
set_option maxRecDepth 100000 in
theorem tw_1008 : Cond.code y_M_takeItem b_M_takeItem 5 none ∈ x_tb := x_in (List.mem_of_getElem? (i := 1008) rfl) rfl
set_option maxRecDepth 100000 in
theorem tw_1009 : Cond.methodLink R_M 172 y_M_needed ∈ x_tb := x_in (List.mem_of_getElem? (i := 1009) rfl) rfl
set_option maxRecDepth 100000 in
theorem tw_1011 : Cond.instanceMethod y_M_needed ∈ x_tb := x_in (List.mem_of_getElem? (i := 1011) rfl) rfl
set_option maxRecDepth 100000 in
theorem tw_1012 : Cond.code y_M_needed b_M_needed 5 (some .int) ∈ x_tb := x_in (List.mem_of_getElem? (i := 1012) rfl) rfl
set_option maxRecDepth 100000 in
theorem tw_1013 : Cond.methodLink R_M 176 y_M_tellRow ∈ x_tb := x_in (List.mem_of_getElem? (i := 1013) rfl) rfl
set_option maxRecDepth 100000 in
theorem tw_1015 : Cond.instanceMethod y_M_tellRow ∈ x_tb := x_in (List.mem_of_getElem? (i := 1015) rfl) rfl
set_option maxRecDepth 100000 in
theorem tw_1016 : Cond.code y_M_tellRow b_M_tellRow 7 none ∈ x_tb := x_in (List.mem_of_getElem? (i := 1016) rfl) rfl
set_option maxRecDepth 100000 in
theorem tw_1017 : Cond.methodLink R_M 147 y_M_tell ∈ x_tb := x_in (List.mem_of_getElem? (i := 1017) rfl) rfl
set_option maxRecDepth 100000 in
theorem tw_1019 : Cond.instanceMethod y_M_tell ∈ x_tb := x_in (List.mem_of_getElem? (i := 1019) rfl) rfl
set_option maxRecDepth 100000 in
theorem tw_1020 : Cond.code y_M_tell b_M_tell 3 none ∈ x_tb := x_in (List.mem_of_getElem? (i := 1020) rfl) rfl
set_option maxRecDepth 100000 in
theorem tw_1021 : Cond.methodLink R_M 179 y_M_smallOrder ∈ x_tb := x_in (List.mem_of_getElem? (i := 1021) rfl) rfl
set_option maxRecDepth 100000 in
theorem tw_1022 : Cond.static y_M_smallOrder ∈ x_tb := x_in (List.mem_of_getElem? (i := 1022) rfl) rfl
set_option maxRecDepth 100000 in
theorem tw_1023 : Cond.code y_M_smallOrder b_M_smallOrder 1 (some .int) ∈ x_tb := x_in (List.mem_of_getElem? (i := 1023) rfl) rfl
set_option maxRecDepth 100000 in
theorem tw_1024 : Cond.methodLink R_M 182 y_M_bitsBy ∈ x_tb := x_in (List.mem_of_getElem? (i := 1024) rfl) rfl
set_option maxRecDepth 100000 in
theorem tw_1026 : Cond.instanceMethod y_M_bitsBy ∈ x_tb := x_in (List.mem_of_getElem? (i := 1026) rfl) rfl
set_option maxRecDepth 100000 in
theorem tw_1027 : Cond.code y_M_bitsBy b_M_bitsBy 6 (some .int) ∈ x_tb := x_in (List.mem_of_getElem? (i := 1027) rfl) rfl
set_option maxRecDepth 100000 in
theorem tw_1028 : Cond.methodLink R_M 186 y_M_stepBits ∈ x_tb := x_in (List.mem_of_getElem? (i := 1028) rfl) rfl
set_option maxRecDepth 100000 in
theorem tw_1029 : Cond.static y_M_stepBits ∈ x_tb := x_in (List.mem_of_getElem? (i := 1029) rfl) rfl
set_option maxRecDepth 100000 in
theorem tw_1030 : Cond.code y_M_stepBits b_M_stepBits 1 (some .int) ∈ x_tb := x_in (List.mem_of_getElem? (i := 1030) rfl) rfl
set_option maxRecDepth 100000 in
theorem tw_1031 : Cond.methodLink R_M 189 y_M_makeFixed ∈ x_tb := x_in (List.mem_of_getElem? (i := 1031) rfl) rfl
set_option maxRecDepth 100000 in
theorem tw_1033 : Cond.instanceMethod y_M_makeFixed ∈ x_tb := x_in (List.mem_of_getElem? (i := 1033) rfl) rfl
set_option maxRecDepth 100000 in
theorem tw_1034 : Cond.code y_M_makeFixed b_M_makeFixed 2 none ∈ x_tb := x_in (List.mem_of_getElem? (i := 1034) rfl) rfl
set_option maxRecDepth 100000 in
theorem tw_1035 : Cond.methodLink R_M 192 y_M_endByte ∈ x_tb := x_in (List.mem_of_getElem? (i := 1035) rfl) rfl
set_option maxRecDepth 100000 in
theorem tw_1037 : Cond.instanceMethod y_M_endByte ∈ x_tb := x_in (List.mem_of_getElem? (i := 1037) rfl) rfl
set_option maxRecDepth 100000 in
theorem tw_1038 : Cond.code y_M_endByte b_M_endByte 1 none ∈ x_tb := x_in (List.mem_of_getElem? (i := 1038) rfl) rfl
set_option maxRecDepth 100000 in
theorem tw_1039 : Cond.constant R_M 195 65535 ∈ x_tb := x_in (List.mem_of_getElem? (i := 1039) rfl) rfl
set_option maxRecDepth 100000 in
theorem tw_1040 : Cond.methodLink R_M 196 y_M_writeTokens ∈ x_tb := x_in (List.mem_of_getElem? (i := 1040) rfl) rfl
set_option maxRecDepth 100000 in
theorem tw_1042 : Cond.instanceMethod y_M_writeTokens ∈ x_tb := x_in (List.mem_of_getElem? (i := 1042) rfl) rfl
set_option maxRecDepth 100000 in
theorem tw_1043 : Cond.code y_M_writeTokens b_M_writeTokens 5 none ∈ x_tb := x_in (List.mem_of_getElem? (i := 1043) rfl) rfl
set_option maxRecDepth 100000 in
theorem tw_1044 : Cond.methodLink R_M 151 y_M_makeCodes ∈ x_tb := x_in (List.mem_of_getElem? (i := 1044) rfl) rfl
set_option maxRecDepth 100000 in
theorem tw_1046 : Cond.instanceMethod y_M_makeCodes ∈ x_tb := x_in (List.mem_of_getElem? (i := 1046) rfl) rfl
set_option maxRecDepth 100000 in
theorem tw_1047 : Cond.code y_M_makeCodes b_M_makeCodes 5 none ∈ x_tb := x_in (List.mem_of_getElem? (i := 1047) rfl) rfl
set_option maxRecDepth 100000 in
theorem tw_1048 : Cond.methodLink R_M 122 y_M_codeOf ∈ x_tb := x_in (List.mem_of_getElem? (i := 1048) rfl) rfl
set_option maxRecDepth 100000 in
theorem tw_1049 : Cond.static y_M_codeOf ∈ x_tb := x_in (List.mem_of_getElem? (i := 1049) rfl) rfl
set_option maxRecDepth 100000 in
theorem tw_1050 : Cond.code y_M_codeOf b_M_codeOf 8 (some .int) ∈ x_tb := x_in (List.mem_of_getElem? (i := 1050) rfl) rfl
set_option maxRecDepth 100000 in
theorem tw_1051 : Cond.methodLink R_M 155 y_M_writeCode ∈ x_tb := x_in (List.mem_of_getElem? (i := 1051) rfl) rfl
set_option maxRecDepth 100000 in
theorem tw_1053 : Cond.instanceMethod y_M_writeCode ∈ x_tb := x_in (List.mem_of_getElem? (i := 1053) rfl) rfl
set_option maxRecDepth 100000 in
theorem tw_1054 : Cond.code y_M_writeCode b_M_writeCode 4 none ∈ x_tb := x_in (List.mem_of_getElem? (i := 1054) rfl) rfl
set_option maxRecDepth 100000 in
theorem tw_1055 : Cond.methodLink R_M 212 y_M_checkOf ∈ x_tb := x_in (List.mem_of_getElem? (i := 1055) rfl) rfl
set_option maxRecDepth 100000 in
theorem tw_1056 : Cond.static y_M_checkOf ∈ x_tb := x_in (List.mem_of_getElem? (i := 1056) rfl) rfl
set_option maxRecDepth 100000 in
theorem tw_1057 : Cond.code y_M_checkOf b_M_checkOf 8 (some .long) ∈ x_tb := x_in (List.mem_of_getElem? (i := 1057) rfl) rfl
set_option maxRecDepth 100000 in
theorem tw_1058 : Cond.constantLong R_M 200 65521 ∈ x_tb := x_in (List.mem_of_getElem? (i := 1058) rfl) rfl
set_option maxRecDepth 100000 in
theorem tw_1059 : Cond.constantLong R_M 202 65536 ∈ x_tb := x_in (List.mem_of_getElem? (i := 1059) rfl) rfl
set_option maxRecDepth 100000 in
theorem tw_1060 : Cond.constantLong R_M 216 255 ∈ x_tb := x_in (List.mem_of_getElem? (i := 1060) rfl) rfl
set_option maxRecDepth 100000 in
theorem tw_1061 : Cond.methodLink R_M 297 y_M_add ∈ x_tb := x_in (List.mem_of_getElem? (i := 1061) rfl) rfl
set_option maxRecDepth 100000 in
theorem tw_1063 : Cond.instanceMethod y_M_add ∈ x_tb := x_in (List.mem_of_getElem? (i := 1063) rfl) rfl
set_option maxRecDepth 100000 in
theorem tw_1064 : Cond.code y_M_add b_M_add 2 none ∈ x_tb := x_in (List.mem_of_getElem? (i := 1064) rfl) rfl
set_option maxRecDepth 100000 in
theorem tw_1065 : Cond.methodLink R_Law 29 y_M_fill ∈ x_tb := x_in (List.mem_of_getElem? (i := 1065) rfl) rfl
set_option maxRecDepth 100000 in
theorem tw_1066 : Cond.instanceMethod y_M_fill ∈ x_tb := x_in (List.mem_of_getElem? (i := 1066) rfl) rfl
set_option maxRecDepth 100000 in
theorem tw_1067 : Cond.selects R_M y_M_fill y_M_fill ∈ x_tb := x_in (List.mem_of_getElem? (i := 1067) rfl) rfl
set_option maxRecDepth 100000 in
theorem tw_1068 : Cond.code y_M_fill b_M_fill 6 (some .int) ∈ x_tb := x_in (List.mem_of_getElem? (i := 1068) rfl) rfl
set_option maxRecDepth 100000 in
theorem tw_1069 : Cond.constant R_M 306 1103515245 ∈ x_tb := x_in (List.mem_of_getElem? (i := 1069) rfl) rfl
set_option maxRecDepth 100000 in
theorem tw_1070 : Cond.methodLink R_Law 34 y_M_reference ∈ x_tb := x_in (List.mem_of_getElem? (i := 1070) rfl) rfl
set_option maxRecDepth 100000 in
theorem tw_1071 : Cond.instanceMethod y_M_reference ∈ x_tb := x_in (List.mem_of_getElem? (i := 1071) rfl) rfl
set_option maxRecDepth 100000 in
theorem tw_1072 : Cond.selects R_M y_M_reference y_M_reference ∈ x_tb := x_in (List.mem_of_getElem? (i := 1072) rfl) rfl
set_option maxRecDepth 100000 in
theorem tw_1073 : Cond.code y_M_reference b_M_reference 1 (some .long) ∈ x_tb := x_in (List.mem_of_getElem? (i := 1073) rfl) rfl
set_option maxRecDepth 100000 in
theorem tw_1074 : Cond.constantLong R_M 307 (-1) ∈ x_tb := x_in (List.mem_of_getElem? (i := 1074) rfl) rfl
set_option maxRecDepth 100000 in
theorem tw_1075 : Cond.methodLink R_Law 39 y_M_close ∈ x_tb := x_in (List.mem_of_getElem? (i := 1075) rfl) rfl
set_option maxRecDepth 100000 in
theorem tw_1076 : Cond.instanceMethod y_M_close ∈ x_tb := x_in (List.mem_of_getElem? (i := 1076) rfl) rfl
set_option maxRecDepth 100000 in
theorem tw_1077 : Cond.selects R_M y_M_close y_M_close ∈ x_tb := x_in (List.mem_of_getElem? (i := 1077) rfl) rfl
set_option maxRecDepth 100000 in
theorem tw_1078 : Cond.code y_M_close b_M_close 1 (some .int) ∈ x_tb := x_in (List.mem_of_getElem? (i := 1078) rfl) rfl
set_option maxRecDepth 100000 in
theorem tw_1079 : Cond.methodLink R_Law 44 y_M_size ∈ x_tb := x_in (List.mem_of_getElem? (i := 1079) rfl) rfl
set_option maxRecDepth 100000 in
theorem tw_1080 : Cond.instanceMethod y_M_size ∈ x_tb := x_in (List.mem_of_getElem? (i := 1080) rfl) rfl
set_option maxRecDepth 100000 in
theorem tw_1081 : Cond.selects R_M y_M_size y_M_size ∈ x_tb := x_in (List.mem_of_getElem? (i := 1081) rfl) rfl
set_option maxRecDepth 100000 in
theorem tw_1082 : Cond.code y_M_size b_M_size 2 (some .int) ∈ x_tb := x_in (List.mem_of_getElem? (i := 1082) rfl) rfl
set_option maxRecDepth 100000 in
theorem tw_1083 : Cond.methodLink R_Law 49 y_M_word ∈ x_tb := x_in (List.mem_of_getElem? (i := 1083) rfl) rfl
set_option maxRecDepth 100000 in
theorem tw_1084 : Cond.instanceMethod y_M_word ∈ x_tb := x_in (List.mem_of_getElem? (i := 1084) rfl) rfl
set_option maxRecDepth 100000 in
theorem tw_1085 : Cond.selects R_M y_M_word y_M_word ∈ x_tb := x_in (List.mem_of_getElem? (i := 1085) rfl) rfl
set_option maxRecDepth 100000 in
theorem tw_1086 : Cond.code y_M_word b_M_word 5 (some .long) ∈ x_tb := x_in (List.mem_of_getElem? (i := 1086) rfl) rfl
set_option maxRecDepth 100000 in
theorem tw_1087 : Cond.methodLink R_Law 54 y_M_patch ∈ x_tb := x_in (List.mem_of_getElem? (i := 1087) rfl) rfl
set_option maxRecDepth 100000 in
theorem tw_1088 : Cond.instanceMethod y_M_patch ∈ x_tb := x_in (List.mem_of_getElem? (i := 1088) rfl) rfl
set_option maxRecDepth 100000 in
theorem tw_1089 : Cond.selects R_M y_M_patch y_M_patch ∈ x_tb := x_in (List.mem_of_getElem? (i := 1089) rfl) rfl
set_option maxRecDepth 100000 in
theorem tw_1090 : Cond.code y_M_patch b_M_patch 4 (some .int) ∈ x_tb := x_in (List.mem_of_getElem? (i := 1090) rfl) rfl
set_option maxRecDepth 100000 in
theorem tw_1091 : Cond.methodLink R_Law 58 y_M_cut ∈ x_tb := x_in (List.mem_of_getElem? (i := 1091) rfl) rfl
set_option maxRecDepth 100000 in
theorem tw_1092 : Cond.instanceMethod y_M_cut ∈ x_tb := x_in (List.mem_of_getElem? (i := 1092) rfl) rfl
set_option maxRecDepth 100000 in
theorem tw_1093 : Cond.selects R_M y_M_cut y_M_cut ∈ x_tb := x_in (List.mem_of_getElem? (i := 1093) rfl) rfl
set_option maxRecDepth 100000 in
theorem tw_1094 : Cond.code y_M_cut b_M_cut 3 (some .int) ∈ x_tb := x_in (List.mem_of_getElem? (i := 1094) rfl) rfl
set_option maxRecDepth 100000 in
theorem tw_1095 : Cond.methodLink R_Law 62 y_M_read ∈ x_tb := x_in (List.mem_of_getElem? (i := 1095) rfl) rfl
set_option maxRecDepth 100000 in
theorem tw_1096 : Cond.instanceMethod y_M_read ∈ x_tb := x_in (List.mem_of_getElem? (i := 1096) rfl) rfl
set_option maxRecDepth 100000 in
theorem tw_1097 : Cond.selects R_M y_M_read y_M_read ∈ x_tb := x_in (List.mem_of_getElem? (i := 1097) rfl) rfl
set_option maxRecDepth 100000 in
theorem tw_1098 : Cond.code y_M_read b_M_read 2 (some .int) ∈ x_tb := x_in (List.mem_of_getElem? (i := 1098) rfl) rfl
set_option maxRecDepth 100000 in
theorem tw_1099 : Cond.methodLink R_M 322 y_M_areHeads ∈ x_tb := x_in (List.mem_of_getElem? (i := 1099) rfl) rfl
set_option maxRecDepth 100000 in
theorem tw_1101 : Cond.instanceMethod y_M_areHeads ∈ x_tb := x_in (List.mem_of_getElem? (i := 1101) rfl) rfl
set_option maxRecDepth 100000 in
theorem tw_1102 : Cond.code y_M_areHeads b_M_areHeads 3 (some .boolean) ∈ x_tb := x_in (List.mem_of_getElem? (i := 1102) rfl) rfl
set_option maxRecDepth 100000 in
theorem tw_1103 : Cond.methodLink R_M 315 y_M_headAt ∈ x_tb := x_in (List.mem_of_getElem? (i := 1103) rfl) rfl
set_option maxRecDepth 100000 in
theorem tw_1105 : Cond.instanceMethod y_M_headAt ∈ x_tb := x_in (List.mem_of_getElem? (i := 1105) rfl) rfl
set_option maxRecDepth 100000 in
theorem tw_1106 : Cond.code y_M_headAt b_M_headAt 2 (some .int) ∈ x_tb := x_in (List.mem_of_getElem? (i := 1106) rfl) rfl
set_option maxRecDepth 100000 in
theorem tw_1107 : Cond.methodLink R_M 326 y_M_readAll ∈ x_tb := x_in (List.mem_of_getElem? (i := 1107) rfl) rfl
set_option maxRecDepth 100000 in
theorem tw_1109 : Cond.instanceMethod y_M_readAll ∈ x_tb := x_in (List.mem_of_getElem? (i := 1109) rfl) rfl
set_option maxRecDepth 100000 in
theorem tw_1110 : Cond.code y_M_readAll b_M_readAll 7 (some .boolean) ∈ x_tb := x_in (List.mem_of_getElem? (i := 1110) rfl) rfl
set_option maxRecDepth 100000 in
theorem tw_1111 : Cond.methodLink R_M 318 y_M_unpack ∈ x_tb := x_in (List.mem_of_getElem? (i := 1111) rfl) rfl
set_option maxRecDepth 100000 in
theorem tw_1113 : Cond.instanceMethod y_M_unpack ∈ x_tb := x_in (List.mem_of_getElem? (i := 1113) rfl) rfl
set_option maxRecDepth 100000 in
theorem tw_1114 : Cond.code y_M_unpack b_M_unpack 12 (some .int) ∈ x_tb := x_in (List.mem_of_getElem? (i := 1114) rfl) rfl
set_option maxRecDepth 100000 in
theorem tw_1115 : Cond.methodLink R_M 253 y_M_readNumber ∈ x_tb := x_in (List.mem_of_getElem? (i := 1115) rfl) rfl
set_option maxRecDepth 100000 in
theorem tw_1117 : Cond.instanceMethod y_M_readNumber ∈ x_tb := x_in (List.mem_of_getElem? (i := 1117) rfl) rfl
set_option maxRecDepth 100000 in
theorem tw_1118 : Cond.code y_M_readNumber b_M_readNumber 4 (some .int) ∈ x_tb := x_in (List.mem_of_getElem? (i := 1118) rfl) rfl
set_option maxRecDepth 100000 in
theorem tw_1119 : Cond.methodLink R_M 234 y_M_readBit ∈ x_tb := x_in (List.mem_of_getElem? (i := 1119) rfl) rfl
set_option maxRecDepth 100000 in
theorem tw_1121 : Cond.instanceMethod y_M_readBit ∈ x_tb := x_in (List.mem_of_getElem? (i := 1121) rfl) rfl
set_option maxRecDepth 100000 in
theorem tw_1122 : Cond.code y_M_readBit b_M_readBit 2 (some .int) ∈ x_tb := x_in (List.mem_of_getElem? (i := 1122) rfl) rfl
set_option maxRecDepth 100000 in
theorem tw_1123 : Cond.methodLink R_M 267 y_M_readStored ∈ x_tb := x_in (List.mem_of_getElem? (i := 1123) rfl) rfl
set_option maxRecDepth 100000 in
theorem tw_1125 : Cond.instanceMethod y_M_readStored ∈ x_tb := x_in (List.mem_of_getElem? (i := 1125) rfl) rfl
set_option maxRecDepth 100000 in
theorem tw_1126 : Cond.code y_M_readStored b_M_readStored 3 none ∈ x_tb := x_in (List.mem_of_getElem? (i := 1126) rfl) rfl
set_option maxRecDepth 100000 in
theorem tw_1127 : Cond.methodLink R_M 250 y_M_toByte ∈ x_tb := x_in (List.mem_of_getElem? (i := 1127) rfl) rfl
set_option maxRecDepth 100000 in
theorem tw_1129 : Cond.instanceMethod y_M_toByte ∈ x_tb := x_in (List.mem_of_getElem? (i := 1129) rfl) rfl
set_option maxRecDepth 100000 in
theorem tw_1130 : Cond.code y_M_toByte b_M_toByte 1 none ∈ x_tb := x_in (List.mem_of_getElem? (i := 1130) rfl) rfl
set_option maxRecDepth 100000 in
theorem tw_1131 : Cond.methodLink R_M 256 y_M_makeByte ∈ x_tb := x_in (List.mem_of_getElem? (i := 1131) rfl) rfl
set_option maxRecDepth 100000 in
theorem tw_1133 : Cond.instanceMethod y_M_makeByte ∈ x_tb := x_in (List.mem_of_getElem? (i := 1133) rfl) rfl
set_option maxRecDepth 100000 in
theorem tw_1134 : Cond.code y_M_makeByte b_M_makeByte 2 none ∈ x_tb := x_in (List.mem_of_getElem? (i := 1134) rfl) rfl
set_option maxRecDepth 100000 in
theorem tw_1135 : Cond.methodLink R_M 259 y_Tree_make ∈ x_tb := x_in (List.mem_of_getElem? (i := 1135) rfl) rfl
set_option maxRecDepth 100000 in
theorem tw_1136 : Cond.instanceMethod y_Tree_make ∈ x_tb := x_in (List.mem_of_getElem? (i := 1136) rfl) rfl
set_option maxRecDepth 100000 in
theorem tw_1137 : Cond.selects R_Tree y_Tree_make y_Tree_make ∈ x_tb := x_in (List.mem_of_getElem? (i := 1137) rfl) rfl
set_option maxRecDepth 100000 in
theorem tw_1138 : Cond.code y_Tree_make b_Tree_make 10 (some .boolean) ∈ x_tb := x_in (List.mem_of_getElem? (i := 1138) rfl) rfl
set_option maxRecDepth 100000 in
theorem tw_1139 : Cond.constant R_Tree 17 32768 ∈ x_tb := x_in (List.mem_of_getElem? (i := 1139) rfl) rfl
set_option maxRecDepth 100000 in
theorem tw_1140 : Cond.methodLink R_Tree 18 y_Tree_grow ∈ x_tb := x_in (List.mem_of_getElem? (i := 1140) rfl) rfl
set_option maxRecDepth 100000 in
theorem tw_1142 : Cond.instanceMethod y_Tree_grow ∈ x_tb := x_in (List.mem_of_getElem? (i := 1142) rfl) rfl
set_option maxRecDepth 100000 in
theorem tw_1143 : Cond.code y_Tree_grow b_Tree_grow 7 none ∈ x_tb := x_in (List.mem_of_getElem? (i := 1143) rfl) rfl
set_option maxRecDepth 100000 in
theorem tw_1144 : Cond.methodLink R_M 270 y_M_readSymbols ∈ x_tb := x_in (List.mem_of_getElem? (i := 1144) rfl) rfl
set_option maxRecDepth 100000 in
theorem tw_1146 : Cond.instanceMethod y_M_readSymbols ∈ x_tb := x_in (List.mem_of_getElem? (i := 1146) rfl) rfl
set_option maxRecDepth 100000 in
theorem tw_1147 : Cond.code y_M_readSymbols b_M_readSymbols 7 none ∈ x_tb := x_in (List.mem_of_getElem? (i := 1147) rfl) rfl
set_option maxRecDepth 100000 in
theorem tw_1148 : Cond.methodLink R_M 263 y_M_readSymbol ∈ x_tb := x_in (List.mem_of_getElem? (i := 1148) rfl) rfl
set_option maxRecDepth 100000 in
theorem tw_1150 : Cond.instanceMethod y_M_readSymbol ∈ x_tb := x_in (List.mem_of_getElem? (i := 1150) rfl) rfl
set_option maxRecDepth 100000 in
theorem tw_1151 : Cond.code y_M_readSymbol b_M_readSymbol 4 (some .int) ∈ x_tb := x_in (List.mem_of_getElem? (i := 1151) rfl) rfl
set_option maxRecDepth 100000 in
theorem tw_1152 : Cond.methodLink R_M 273 y_M_readMade ∈ x_tb := x_in (List.mem_of_getElem? (i := 1152) rfl) rfl
set_option maxRecDepth 100000 in
theorem tw_1154 : Cond.instanceMethod y_M_readMade ∈ x_tb := x_in (List.mem_of_getElem? (i := 1154) rfl) rfl
set_option maxRecDepth 100000 in
theorem tw_1155 : Cond.code y_M_readMade b_M_readMade 8 none ∈ x_tb := x_in (List.mem_of_getElem? (i := 1155) rfl) rfl
set_option maxRecDepth 100000 in
theorem tw_1156 : Cond.constantLong R_M 276 256 ∈ x_tb := x_in (List.mem_of_getElem? (i := 1156) rfl) rfl
set_option maxRecDepth 100000 in
theorem tw_1157 : Cond.methodLink R_Law 67 y_M_byteAt ∈ x_tb := x_in (List.mem_of_getElem? (i := 1157) rfl) rfl
set_option maxRecDepth 100000 in
theorem tw_1158 : Cond.instanceMethod y_M_byteAt ∈ x_tb := x_in (List.mem_of_getElem? (i := 1158) rfl) rfl
set_option maxRecDepth 100000 in
theorem tw_1159 : Cond.selects R_M y_M_byteAt y_M_byteAt ∈ x_tb := x_in (List.mem_of_getElem? (i := 1159) rfl) rfl
set_option maxRecDepth 100000 in
theorem tw_1160 : Cond.code y_M_byteAt b_M_byteAt 6 (some .int) ∈ x_tb := x_in (List.mem_of_getElem? (i := 1160) rfl) rfl
set_option maxRecDepth 100000 in
theorem tw_1161 : Cond.methodLink R_Law 71 y_M_start ∈ x_tb := x_in (List.mem_of_getElem? (i := 1161) rfl) rfl
set_option maxRecDepth 100000 in
theorem tw_1162 : Cond.instanceMethod y_M_start ∈ x_tb := x_in (List.mem_of_getElem? (i := 1162) rfl) rfl
set_option maxRecDepth 100000 in
theorem tw_1163 : Cond.selects R_M y_M_start y_M_start ∈ x_tb := x_in (List.mem_of_getElem? (i := 1163) rfl) rfl
set_option maxRecDepth 100000 in
theorem tw_1164 : Cond.code y_M_start b_M_start 2 (some .int) ∈ x_tb := x_in (List.mem_of_getElem? (i := 1164) rfl) rfl
set_option maxRecDepth 100000 in
theorem tw_1165 : Cond.constantLong R_Law 18 4294967295 ∈ x_tb := x_in (List.mem_of_getElem? (i := 1165) rfl) rfl
