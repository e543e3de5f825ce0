set_option maxRecDepth 100000 in
theorem w_0 : Cond.selects RX7 yX7_begin yX7_begin ∈ gtb := mg 0 rfl rfl
set_option maxRecDepth 100000 in
theorem w_1 : Cond.selects RX7 yX7_advance yX7_advance ∈ gtb := mg 1 rfl rfl
set_option maxRecDepth 100000 in
theorem w_2 : Cond.selects RX7 yX7_byteAt yX7_byteAt ∈ gtb := mg 2 rfl rfl
set_option maxRecDepth 100000 in
theorem w_3 : Cond.selects RX7 yX7_kindAt yX7_kindAt ∈ gtb := mg 3 rfl rfl
set_option maxRecDepth 100000 in
theorem w_4 : Cond.selects RX7 yX7_fails yX7_fails ∈ gtb := mg 4 rfl rfl
set_option maxRecDepth 100000 in
theorem w_5 : Cond.selects RX7 yX7_tellLine yX7_tellLine ∈ gtb := mg 5 rfl rfl
set_option maxRecDepth 100000 in
theorem w_6 : Cond.selects RX7 yX7_isRow yX7_isRow ∈ gtb := mg 6 rfl rfl
set_option maxRecDepth 100000 in
theorem w_7 : Cond.selects RX7 yX7_tellWord yX7_tellWord ∈ gtb := mg 7 rfl rfl
set_option maxRecDepth 100000 in
theorem w_8 : Cond.selects RX7 yX7_want yX7_want ∈ gtb := mg 8 rfl rfl
set_option maxRecDepth 100000 in
theorem w_9 : Cond.selects RX7 yX7_wantTerm yX7_wantTerm ∈ gtb := mg 9 rfl rfl
set_option maxRecDepth 100000 in
theorem w_10 : Cond.selects RX9 yX9_mayStand yX9_mayStand ∈ gtb := mg 10 rfl rfl
set_option maxRecDepth 100000 in
theorem w_11 : Cond.selects RX7 yX7_tellSaying yX7_tellSaying ∈ gtb := mg 11 rfl rfl
set_option maxRecDepth 100000 in
theorem w_12 : Cond.selects RX11 yX11_letterAt yX11_letterAt ∈ gtb := mg 12 rfl rfl
set_option maxRecDepth 100000 in
theorem w_13 : Cond.selects RX6 yX6_endAt yX6_endAt ∈ gtb := mg 13 rfl rfl
set_option maxRecDepth 100000 in
theorem w_14 : Cond.selects RX6 yX6_fits yX6_fits ∈ gtb := mg 14 rfl rfl
set_option maxRecDepth 100000 in
theorem w_15 : Cond.selects RX6 yX6_becomes yX6_becomes ∈ gtb := mg 15 rfl rfl
set_option maxRecDepth 100000 in
theorem w_16 : Cond.selects RX11 yX11_tell yX11_tell ∈ gtb := mg 16 rfl rfl
set_option maxRecDepth 100000 in
theorem w_17 : Cond.selects RX3 yX3_closed yX3_closed ∈ gtb := mg 17 rfl rfl
set_option maxRecDepth 100000 in
theorem w_18 : Cond.selects RX3 yX3_turn yX3_turn ∈ gtb := mg 18 rfl rfl
set_option maxRecDepth 100000 in
theorem w_19 : Cond.selects RX3 yX3_shownNext yX3_shownNext ∈ gtb := mg 19 rfl rfl
set_option maxRecDepth 100000 in
theorem w_20 : Cond.selects RX3 yX3_goesAgain yX3_goesAgain ∈ gtb := mg 20 rfl rfl
set_option maxRecDepth 100000 in
theorem w_21 : Cond.selects RX11 yX11_sought yX11_sought ∈ gtb := mg 21 rfl rfl
set_option maxRecDepth 100000 in
theorem w_22 : Cond.selects RX4 yX4_meet yX4_meet ∈ gtb := mg 22 rfl rfl
set_option maxRecDepth 100000 in
theorem w_23 : Cond.selects RX4 yX4_isOver yX4_isOver ∈ gtb := mg 23 rfl rfl
set_option maxRecDepth 100000 in
theorem w_24 : Cond.selects RX4 yX4_goOn yX4_goOn ∈ gtb := mg 24 rfl rfl
set_option maxRecDepth 100000 in
theorem w_25 : Cond.selects RX4 yX4_tryPlaces yX4_tryPlaces ∈ gtb := mg 25 rfl rfl
set_option maxRecDepth 100000 in
theorem w_26 : Cond.selects RX10 yX10_fillTable yX10_fillTable ∈ gtb := mg 26 rfl rfl
set_option maxRecDepth 100000 in
theorem w_27 : Cond.selects RX10 yX10_valueOf yX10_valueOf ∈ gtb := mg 27 rfl rfl
set_option maxRecDepth 100000 in
theorem w_28 : Cond.selects RX10 yX10_valueAt yX10_valueAt ∈ gtb := mg 28 rfl rfl
set_option maxRecDepth 100000 in
theorem w_29 : Cond.selects RX10 yX10_has yX10_has ∈ gtb := mg 29 rfl rfl
set_option maxRecDepth 100000 in
theorem w_30 : Cond.selects RX10 yX10_isGrounded yX10_isGrounded ∈ gtb := mg 30 rfl rfl
set_option maxRecDepth 100000 in
theorem w_31 : Cond.selects RX0 yX0_makeReady yX0_makeReady ∈ gtb := mg 31 rfl rfl
set_option maxRecDepth 100000 in
theorem w_32 : Cond.selects RX0 yX0_putAllIn yX0_putAllIn ∈ gtb := mg 32 rfl rfl
set_option maxRecDepth 100000 in
theorem w_33 : Cond.selects RX0 yX0_firstWord yX0_firstWord ∈ gtb := mg 33 rfl rfl
set_option maxRecDepth 100000 in
theorem w_34 : Cond.selects RX0 yX0_putIn yX0_putIn ∈ gtb := mg 34 rfl rfl
set_option maxRecDepth 100000 in
theorem w_35 : Cond.selects RX0 yX0_sortMates yX0_sortMates ∈ gtb := mg 35 rfl rfl
set_option maxRecDepth 100000 in
theorem w_36 : Cond.selects RX0 yX0_endAt yX0_endAt ∈ gtb := mg 36 rfl rfl
set_option maxRecDepth 100000 in
theorem w_37 : Cond.selects RX0 yX0_comesLater yX0_comesLater ∈ gtb := mg 37 rfl rfl
set_option maxRecDepth 100000 in
theorem w_38 : Cond.selects RX0 yX0_changeMates yX0_changeMates ∈ gtb := mg 38 rfl rfl
set_option maxRecDepth 100000 in
theorem w_39 : Cond.selects RX0 yX0_rename yX0_rename ∈ gtb := mg 39 rfl rfl
set_option maxRecDepth 100000 in
theorem w_40 : Cond.selects RX3 yX3_lessonNext yX3_lessonNext ∈ gtb := mg 40 rfl rfl
set_option maxRecDepth 100000 in
theorem w_41 : Cond.selects RX5 yX5_lowest yX5_lowest ∈ gtb := mg 41 rfl rfl
set_option maxRecDepth 100000 in
theorem w_42 : Cond.selects RX11 yX11_goBySheet yX11_goBySheet ∈ gtb := mg 42 rfl rfl
set_option maxRecDepth 100000 in
theorem w_43 : Cond.selects RX12 yX12_next yX12_next ∈ gtb := mg 43 rfl rfl
set_option maxRecDepth 100000 in
theorem w_44 : Cond.selects RX12 yX12_look yX12_look ∈ gtb := mg 44 rfl rfl
set_option maxRecDepth 100000 in
theorem w_45 : Cond.selects RX12 yX12_wants yX12_wants ∈ gtb := mg 45 rfl rfl
set_option maxRecDepth 100000 in
theorem w_46 : Cond.selects RX12 yX12_isRow yX12_isRow ∈ gtb := mg 46 rfl rfl
set_option maxRecDepth 100000 in
theorem w_47 : Cond.selects RX12 yX12_readWord yX12_readWord ∈ gtb := mg 47 rfl rfl
set_option maxRecDepth 100000 in
theorem w_48 : Cond.selects RX12 yX12_wordBy yX12_wordBy ∈ gtb := mg 48 rfl rfl
set_option maxRecDepth 100000 in
theorem w_49 : Cond.selects RX12 yX12_readTerm yX12_readTerm ∈ gtb := mg 49 rfl rfl
set_option maxRecDepth 100000 in
theorem w_50 : Cond.selects RX12 yX12_endAt yX12_endAt ∈ gtb := mg 50 rfl rfl
set_option maxRecDepth 100000 in
theorem w_51 : Cond.selects RX12 yX12_has yX12_has ∈ gtb := mg 51 rfl rfl
set_option maxRecDepth 100000 in
theorem w_52 : Cond.selects RX12 yX12_keepsMeaning yX12_keepsMeaning ∈ gtb := mg 52 rfl rfl
set_option maxRecDepth 100000 in
theorem w_53 : Cond.selects RX12 yX12_readSaying yX12_readSaying ∈ gtb := mg 53 rfl rfl
set_option maxRecDepth 100000 in
theorem w_54 : Cond.selects RX12 yX12_keepsSide yX12_keepsSide ∈ gtb := mg 54 rfl rfl
set_option maxRecDepth 100000 in
theorem w_55 : Cond.selects RX12 yX12_readSign yX12_readSign ∈ gtb := mg 55 rfl rfl
set_option maxRecDepth 100000 in
theorem w_56 : Cond.selects RX12 yX12_isSaying yX12_isSaying ∈ gtb := mg 56 rfl rfl
set_option maxRecDepth 100000 in
theorem w_57 : Cond.selects RX12 yX12_leansOf yX12_leansOf ∈ gtb := mg 57 rfl rfl
set_option maxRecDepth 100000 in
theorem w_58 : Cond.selects RX12 yX12_usesOf yX12_usesOf ∈ gtb := mg 58 rfl rfl
set_option maxRecDepth 100000 in
theorem w_59 : Cond.selects RX12 yX12_leaning yX12_leaning ∈ gtb := mg 59 rfl rfl
set_option maxRecDepth 100000 in
theorem w_60 : Cond.selects RX12 yX12_isWord yX12_isWord ∈ gtb := mg 60 rfl rfl
set_option maxRecDepth 100000 in
theorem w_61 : Cond.selects RX12 yX12_putsWord yX12_putsWord ∈ gtb := mg 61 rfl rfl
set_option maxRecDepth 100000 in
theorem w_62 : Cond.selects RX12 yX12_begins yX12_begins ∈ gtb := mg 62 rfl rfl
set_option maxRecDepth 100000 in
theorem w_63 : Cond.selects RX12 yX12_steps yX12_steps ∈ gtb := mg 63 rfl rfl
set_option maxRecDepth 100000 in
theorem w_64 : Cond.selects RX12 yX12_copiesSide yX12_copiesSide ∈ gtb := mg 64 rfl rfl
set_option maxRecDepth 100000 in
theorem w_65 : Cond.selects RX12 yX12_copiesWord yX12_copiesWord ∈ gtb := mg 65 rfl rfl
set_option maxRecDepth 100000 in
theorem w_66 : Cond.selects RX12 yX12_copiesMeaning yX12_copiesMeaning ∈ gtb := mg 66 rfl rfl
set_option maxRecDepth 100000 in
theorem w_67 : Cond.selects RX12 yX12_fits yX12_fits ∈ gtb := mg 67 rfl rfl
set_option maxRecDepth 100000 in
theorem w_68 : Cond.selects RX12 yX12_alike yX12_alike ∈ gtb := mg 68 rfl rfl
set_option maxRecDepth 100000 in
theorem w_69 : Cond.selects RX12 yX12_puts yX12_puts ∈ gtb := mg 69 rfl rfl
set_option maxRecDepth 100000 in
theorem w_70 : Cond.selects RX12 yX12_goes yX12_goes ∈ gtb := mg 70 rfl rfl
set_option maxRecDepth 100000 in
theorem w_71 : Cond.selects RX12 yX12_isOpen yX12_isOpen ∈ gtb := mg 71 rfl rfl
set_option maxRecDepth 100000 in
theorem w_72 : Cond.selects RX12 yX12_findTerm yX12_findTerm ∈ gtb := mg 72 rfl rfl
set_option maxRecDepth 100000 in
theorem w_73 : Cond.selects RX12 yX12_isAtRight yX12_isAtRight ∈ gtb := mg 73 rfl rfl
set_option maxRecDepth 100000 in
theorem w_74 : Cond.selects RX12 yX12_shows yX12_shows ∈ gtb := mg 74 rfl rfl
set_option maxRecDepth 100000 in
theorem w_75 : Cond.selects RX12 yX12_becomes yX12_becomes ∈ gtb := mg 75 rfl rfl
set_option maxRecDepth 100000 in
theorem w_76 : Cond.selects RX12 yX12_goesThrough yX12_goesThrough ∈ gtb := mg 76 rfl rfl
set_option maxRecDepth 100000 in
theorem w_77 : Cond.selects RX12 yX12_findWay yX12_findWay ∈ gtb := mg 77 rfl rfl
set_option maxRecDepth 100000 in
theorem w_78 : Cond.selects RX12 yX12_hashOf yX12_hashOf ∈ gtb := mg 78 rfl rfl
set_option maxRecDepth 100000 in
theorem w_79 : Cond.selects RX12 yX12_meets yX12_meets ∈ gtb := mg 79 rfl rfl
set_option maxRecDepth 100000 in
theorem w_80 : Cond.selects RX12 yX12_isThenRight yX12_isThenRight ∈ gtb := mg 80 rfl rfl
set_option maxRecDepth 100000 in
theorem w_81 : Cond.selects RX12 yX12_seeks yX12_seeks ∈ gtb := mg 81 rfl rfl
set_option maxRecDepth 100000 in
theorem w_82 : Cond.selects RX12 yX12_isMet yX12_isMet ∈ gtb := mg 82 rfl rfl
set_option maxRecDepth 100000 in
theorem w_83 : Cond.selects RX12 yX12_world yX12_world ∈ gtb := mg 83 rfl rfl
set_option maxRecDepth 100000 in
theorem w_84 : Cond.selects RX12 yX12_valueOf yX12_valueOf ∈ gtb := mg 84 rfl rfl
set_option maxRecDepth 100000 in
theorem w_85 : Cond.selects RX12 yX12_holdsNow yX12_holdsNow ∈ gtb := mg 85 rfl rfl
set_option maxRecDepth 100000 in
theorem w_86 : Cond.selects RX12 yX12_weighs yX12_weighs ∈ gtb := mg 86 rfl rfl
set_option maxRecDepth 100000 in
theorem w_87 : Cond.selects RX12 yX12_allHold yX12_allHold ∈ gtb := mg 87 rfl rfl
set_option maxRecDepth 100000 in
theorem w_88 : Cond.selects RX12 yX12_isGood yX12_isGood ∈ gtb := mg 88 rfl rfl
set_option maxRecDepth 100000 in
theorem w_89 : Cond.selects RX12 yX12_areLike yX12_areLike ∈ gtb := mg 89 rfl rfl
set_option maxRecDepth 100000 in
theorem w_90 : Cond.selects RX12 yX12_widens yX12_widens ∈ gtb := mg 90 rfl rfl
set_option maxRecDepth 100000 in
theorem w_91 : Cond.selects RX12 yX12_firstWord yX12_firstWord ∈ gtb := mg 91 rfl rfl
set_option maxRecDepth 100000 in
theorem w_92 : Cond.selects RX12 yX12_putsIn yX12_putsIn ∈ gtb := mg 92 rfl rfl
set_option maxRecDepth 100000 in
theorem w_93 : Cond.selects RX12 yX12_builds yX12_builds ∈ gtb := mg 93 rfl rfl
set_option maxRecDepth 100000 in
theorem w_94 : Cond.selects RX12 yX12_tidies yX12_tidies ∈ gtb := mg 94 rfl rfl
set_option maxRecDepth 100000 in
theorem w_95 : Cond.selects RX12 yX12_isLess yX12_isLess ∈ gtb := mg 95 rfl rfl
set_option maxRecDepth 100000 in
theorem w_96 : Cond.selects RX12 yX12_isSide yX12_isSide ∈ gtb := mg 96 rfl rfl
set_option maxRecDepth 100000 in
theorem w_97 : Cond.selects RX12 yX12_isKept yX12_isKept ∈ gtb := mg 97 rfl rfl
set_option maxRecDepth 100000 in
theorem w_98 : Cond.selects RX12 yX12_inState yX12_inState ∈ gtb := mg 98 rfl rfl
set_option maxRecDepth 100000 in
theorem w_100 : Cond.initialized RX11 ∈ gtb := mg 100 rfl rfl
set_option maxRecDepth 100000 in
theorem w_101 : Cond.initialized RX9 ∈ gtb := mg 101 rfl rfl
set_option maxRecDepth 100000 in
theorem w_102 : Cond.initialized RX8 ∈ gtb := mg 102 rfl rfl
set_option maxRecDepth 100000 in
theorem w_103 : Cond.initialized "java/lang/Math" ∈ gtb := mg 103 rfl rfl
set_option maxRecDepth 100000 in
theorem w_104 : Cond.initialized RX3 ∈ gtb := mg 104 rfl rfl
set_option maxRecDepth 100000 in
theorem w_105 : Cond.initialized RX2 ∈ gtb := mg 105 rfl rfl
set_option maxRecDepth 100000 in
theorem w_106 : Cond.initialized RX7 ∈ gtb := mg 106 rfl rfl
set_option maxRecDepth 100000 in
theorem w_107 : Cond.initialized RX6 ∈ gtb := mg 107 rfl rfl
set_option maxRecDepth 100000 in
theorem w_108 : Cond.initialized RX1 ∈ gtb := mg 108 rfl rfl
set_option maxRecDepth 100000 in
theorem w_109 : Cond.initialized RX4 ∈ gtb := mg 109 rfl rfl
set_option maxRecDepth 100000 in
theorem w_110 : Cond.initialized RX10 ∈ gtb := mg 110 rfl rfl
set_option maxRecDepth 100000 in
theorem w_111 : Cond.initialized RX0 ∈ gtb := mg 111 rfl rfl
set_option maxRecDepth 100000 in
theorem w_112 : Cond.initialized RX5 ∈ gtb := mg 112 rfl rfl
set_option maxRecDepth 100000 in
theorem w_113 : Cond.initialized RX12 ∈ gtb := mg 113 rfl rfl
set_option maxRecDepth 100000 in
theorem w_114 : Cond.initialized "java/lang/Integer" ∈ gtb := mg 114 rfl rfl
set_option maxRecDepth 100000 in
theorem w_137 : Cond.static Lib.Math.max.name ∈ gtb := mg 137 rfl rfl
set_option maxRecDepth 100000 in
theorem w_138 : Cond.code Lib.Math.max.name Lib.Math.max.code 2 (some .int) ∈ gtb := mg 138 rfl rfl
set_option maxRecDepth 100000 in
theorem w_139 : Cond.fieldLink RX8 15 "ShownLibrary$Term" "signs" "[B" ∈ gtb := mg 139 rfl rfl
set_option maxRecDepth 100000 in
theorem w_140 : Cond.fieldLink RX8 21 "ShownLibrary$Term" "size" "I" ∈ gtb := mg 140 rfl rfl
set_option maxRecDepth 100000 in
theorem w_141 : Cond.fieldLink RX6 38 "ShownLibrary$Term" "size" "I" ∈ gtb := mg 141 rfl rfl
set_option maxRecDepth 100000 in
theorem w_142 : Cond.fieldLink RX9 41 "ShownLibrary$Term" "size" "I" ∈ gtb := mg 142 rfl rfl
set_option maxRecDepth 100000 in
theorem w_143 : Cond.fieldLink RX0 71 "ShownLibrary$Term" "size" "I" ∈ gtb := mg 143 rfl rfl
set_option maxRecDepth 100000 in
theorem w_144 : Cond.fieldLink RX10 65 "ShownLibrary$Term" "size" "I" ∈ gtb := mg 144 rfl rfl
set_option maxRecDepth 100000 in
theorem w_145 : Cond.fieldLink RX4 123 "ShownLibrary$Term" "size" "I" ∈ gtb := mg 145 rfl rfl
set_option maxRecDepth 100000 in
theorem w_146 : Cond.fieldLink RX11 117 "ShownLibrary$Term" "size" "I" ∈ gtb := mg 146 rfl rfl
set_option maxRecDepth 100000 in
theorem w_147 : Cond.fieldLink RX7 130 "ShownLibrary$Term" "size" "I" ∈ gtb := mg 147 rfl rfl
set_option maxRecDepth 100000 in
theorem w_155 : Cond.fieldLink RX9 9 "ShownLibrary$Words" "letters" "[I" ∈ gtb := mg 155 rfl rfl
set_option maxRecDepth 100000 in
theorem w_156 : Cond.fieldLink RX9 15 "ShownLibrary$Words" "needs" "[I" ∈ gtb := mg 156 rfl rfl
set_option maxRecDepth 100000 in
theorem w_157 : Cond.fieldLink RX9 18 "ShownLibrary$Words" "numbers" "[I" ∈ gtb := mg 157 rfl rfl
set_option maxRecDepth 100000 in
theorem w_158 : Cond.fieldLink RX9 23 "ShownLibrary$Words" "faces" "[LShownLibrary$Term;" ∈ gtb := mg 158 rfl rfl
set_option maxRecDepth 100000 in
theorem w_159 : Cond.fieldLink RX9 27 "ShownLibrary$Words" "meanings" "[LShownLibrary$Term;" ∈ gtb := mg 159 rfl rfl
set_option maxRecDepth 100000 in
theorem w_160 : Cond.fieldLink RX9 33 "ShownLibrary$Words" "size" "I" ∈ gtb := mg 160 rfl rfl
set_option maxRecDepth 100000 in
theorem w_161 : Cond.fieldLink RX7 39 "ShownLibrary$Words" "size" "I" ∈ gtb := mg 161 rfl rfl
set_option maxRecDepth 100000 in
theorem w_162 : Cond.fieldLink RX10 44 "ShownLibrary$Words" "size" "I" ∈ gtb := mg 162 rfl rfl
set_option maxRecDepth 100000 in
theorem w_163 : Cond.fieldLink RX4 120 "ShownLibrary$Words" "size" "I" ∈ gtb := mg 163 rfl rfl
set_option maxRecDepth 100000 in
theorem w_164 : Cond.fieldLink RX11 286 "ShownLibrary$Words" "size" "I" ∈ gtb := mg 164 rfl rfl
set_option maxRecDepth 100000 in
theorem w_194 : Cond.fieldLink RX1 54 "ShownLibrary$Saying" "left" "LShownLibrary$Term;" ∈ gtb := mg 194 rfl rfl
set_option maxRecDepth 100000 in
theorem w_195 : Cond.fieldLink RX4 84 "ShownLibrary$Saying" "left" "LShownLibrary$Term;" ∈ gtb := mg 195 rfl rfl
set_option maxRecDepth 100000 in
theorem w_196 : Cond.fieldLink RX3 43 "ShownLibrary$Saying" "left" "LShownLibrary$Term;" ∈ gtb := mg 196 rfl rfl
set_option maxRecDepth 100000 in
theorem w_197 : Cond.fieldLink RX6 75 "ShownLibrary$Saying" "left" "LShownLibrary$Term;" ∈ gtb := mg 197 rfl rfl
set_option maxRecDepth 100000 in
theorem w_198 : Cond.fieldLink RX0 91 "ShownLibrary$Saying" "left" "LShownLibrary$Term;" ∈ gtb := mg 198 rfl rfl
set_option maxRecDepth 100000 in
theorem w_199 : Cond.fieldLink RX10 91 "ShownLibrary$Saying" "left" "LShownLibrary$Term;" ∈ gtb := mg 199 rfl rfl
set_option maxRecDepth 100000 in
theorem w_200 : Cond.fieldLink RX11 113 "ShownLibrary$Saying" "left" "LShownLibrary$Term;" ∈ gtb := mg 200 rfl rfl
set_option maxRecDepth 100000 in
theorem w_202 : Cond.fieldLink RX4 93 "ShownLibrary$Saying" "right" "LShownLibrary$Term;" ∈ gtb := mg 202 rfl rfl
set_option maxRecDepth 100000 in
theorem w_203 : Cond.fieldLink RX3 53 "ShownLibrary$Saying" "right" "LShownLibrary$Term;" ∈ gtb := mg 203 rfl rfl
set_option maxRecDepth 100000 in
theorem w_204 : Cond.fieldLink RX6 78 "ShownLibrary$Saying" "right" "LShownLibrary$Term;" ∈ gtb := mg 204 rfl rfl
set_option maxRecDepth 100000 in
theorem w_205 : Cond.fieldLink RX0 97 "ShownLibrary$Saying" "right" "LShownLibrary$Term;" ∈ gtb := mg 205 rfl rfl
set_option maxRecDepth 100000 in
theorem w_206 : Cond.fieldLink RX1 68 "ShownLibrary$Saying" "right" "LShownLibrary$Term;" ∈ gtb := mg 206 rfl rfl
set_option maxRecDepth 100000 in
theorem w_207 : Cond.fieldLink RX10 97 "ShownLibrary$Saying" "right" "LShownLibrary$Term;" ∈ gtb := mg 207 rfl rfl
set_option maxRecDepth 100000 in
theorem w_208 : Cond.fieldLink RX11 122 "ShownLibrary$Saying" "right" "LShownLibrary$Term;" ∈ gtb := mg 208 rfl rfl
set_option maxRecDepth 100000 in
theorem w_209 : Cond.fieldLink RX2 23 "ShownLibrary$Saying" "state" "I" ∈ gtb := mg 209 rfl rfl
set_option maxRecDepth 100000 in
theorem w_210 : Cond.fieldLink RX3 56 "ShownLibrary$Saying" "state" "I" ∈ gtb := mg 210 rfl rfl
set_option maxRecDepth 100000 in
theorem w_211 : Cond.fieldLink RX11 102 "ShownLibrary$Saying" "state" "I" ∈ gtb := mg 211 rfl rfl
set_option maxRecDepth 100000 in
theorem w_212 : Cond.fieldLink RX10 107 "ShownLibrary$Saying" "state" "I" ∈ gtb := mg 212 rfl rfl
set_option maxRecDepth 100000 in
theorem w_213 : Cond.fieldLink RX3 59 "ShownLibrary$Saying" "byHand" "I" ∈ gtb := mg 213 rfl rfl
set_option maxRecDepth 100000 in
theorem w_214 : Cond.fieldLink RX11 107 "ShownLibrary$Saying" "byHand" "I" ∈ gtb := mg 214 rfl rfl
set_option maxRecDepth 100000 in
theorem w_215 : Cond.fieldLink RX3 62 "ShownLibrary$Saying" "onDay" "I" ∈ gtb := mg 215 rfl rfl
set_option maxRecDepth 100000 in
theorem w_216 : Cond.fieldLink RX11 110 "ShownLibrary$Saying" "onDay" "I" ∈ gtb := mg 216 rfl rfl
set_option maxRecDepth 100000 in
theorem w_217 : Cond.fieldLink RX3 103 "ShownLibrary$Saying" "firstStep" "I" ∈ gtb := mg 217 rfl rfl
set_option maxRecDepth 100000 in
theorem w_218 : Cond.fieldLink RX11 200 "ShownLibrary$Saying" "firstStep" "I" ∈ gtb := mg 218 rfl rfl
set_option maxRecDepth 100000 in
theorem w_219 : Cond.fieldLink RX3 65 "ShownLibrary$Saying" "steps" "I" ∈ gtb := mg 219 rfl rfl
set_option maxRecDepth 100000 in
theorem w_220 : Cond.fieldLink RX11 125 "ShownLibrary$Saying" "steps" "I" ∈ gtb := mg 220 rfl rfl
set_option maxRecDepth 100000 in
theorem w_221 : Cond.fieldLink RX11 128 "ShownLibrary$Saying" "brokenAt" "I" ∈ gtb := mg 221 rfl rfl
set_option maxRecDepth 100000 in
theorem w_222 : Cond.fieldLink RX3 157 "ShownLibrary$Saying" "brokenAt" "I" ∈ gtb := mg 222 rfl rfl
set_option maxRecDepth 100000 in
theorem w_223 : Cond.fieldLink RX3 127 "ShownLibrary$Saying" "order" "I" ∈ gtb := mg 223 rfl rfl
set_option maxRecDepth 100000 in
theorem w_224 : Cond.fieldLink RX3 81 "ShownLibrary$Saying" "under" "I" ∈ gtb := mg 224 rfl rfl
set_option maxRecDepth 100000 in
theorem w_225 : Cond.fieldLink RX3 88 "ShownLibrary$Saying" "putting" "I" ∈ gtb := mg 225 rfl rfl
set_option maxRecDepth 100000 in
theorem w_250 : Cond.fieldLink RX3 11 "ShownLibrary$Sayings" "all" "[LShownLibrary$Saying;" ∈ gtb := mg 250 rfl rfl
set_option maxRecDepth 100000 in
theorem w_251 : Cond.fieldLink RX3 17 "ShownLibrary$Sayings" "kinds" "[I" ∈ gtb := mg 251 rfl rfl
set_option maxRecDepth 100000 in
theorem w_252 : Cond.fieldLink RX3 21 "ShownLibrary$Sayings" "whichs" "[I" ∈ gtb := mg 252 rfl rfl
set_option maxRecDepth 100000 in
theorem w_253 : Cond.fieldLink RX3 24 "ShownLibrary$Sayings" "places" "[I" ∈ gtb := mg 253 rfl rfl
set_option maxRecDepth 100000 in
theorem w_254 : Cond.fieldLink RX3 27 "ShownLibrary$Sayings" "turnDays" "[S" ∈ gtb := mg 254 rfl rfl
set_option maxRecDepth 100000 in
theorem w_255 : Cond.fieldLink RX3 31 "ShownLibrary$Sayings" "turnSayings" "[B" ∈ gtb := mg 255 rfl rfl
set_option maxRecDepth 100000 in
theorem w_256 : Cond.fieldLink RX3 35 "ShownLibrary$Sayings" "turnStates" "[B" ∈ gtb := mg 256 rfl rfl
set_option maxRecDepth 100000 in
theorem w_257 : Cond.fieldLink RX3 91 "ShownLibrary$Sayings" "turns" "I" ∈ gtb := mg 257 rfl rfl
set_option maxRecDepth 100000 in
theorem w_258 : Cond.fieldLink RX3 124 "ShownLibrary$Sayings" "shows" "I" ∈ gtb := mg 258 rfl rfl
set_option maxRecDepth 100000 in
theorem w_259 : Cond.fieldLink RX3 39 "ShownLibrary$Sayings" "size" "I" ∈ gtb := mg 259 rfl rfl
set_option maxRecDepth 100000 in
theorem w_260 : Cond.fieldLink RX7 44 "ShownLibrary$Sayings" "size" "I" ∈ gtb := mg 260 rfl rfl
set_option maxRecDepth 100000 in
theorem w_261 : Cond.fieldLink RX0 62 "ShownLibrary$Sayings" "size" "I" ∈ gtb := mg 261 rfl rfl
set_option maxRecDepth 100000 in
theorem w_262 : Cond.fieldLink RX4 113 "ShownLibrary$Sayings" "size" "I" ∈ gtb := mg 262 rfl rfl
set_option maxRecDepth 100000 in
theorem w_263 : Cond.fieldLink RX10 100 "ShownLibrary$Sayings" "size" "I" ∈ gtb := mg 263 rfl rfl
set_option maxRecDepth 100000 in
theorem w_264 : Cond.fieldLink RX11 263 "ShownLibrary$Sayings" "size" "I" ∈ gtb := mg 264 rfl rfl
set_option maxRecDepth 100000 in
theorem w_265 : Cond.fieldLink RX3 94 "ShownLibrary$Sayings" "told" "I" ∈ gtb := mg 265 rfl rfl
set_option maxRecDepth 100000 in
theorem w_266 : Cond.fieldLink RX11 287 "ShownLibrary$Sayings" "told" "I" ∈ gtb := mg 266 rfl rfl
set_option maxRecDepth 100000 in
theorem w_298 : Cond.fieldLink RX7 27 "ShownLibrary$Tape" "words" "LShownLibrary$Words;" ∈ gtb := mg 298 rfl rfl
set_option maxRecDepth 100000 in
theorem w_299 : Cond.fieldLink RX7 31 "ShownLibrary$Tape" "sayings" "LShownLibrary$Sayings;" ∈ gtb := mg 299 rfl rfl
set_option maxRecDepth 100000 in
theorem w_300 : Cond.fieldLink RX7 11 "ShownLibrary$Tape" "bytes" "[B" ∈ gtb := mg 300 rfl rfl
set_option maxRecDepth 100000 in
theorem w_301 : Cond.fieldLink RX7 20 "ShownLibrary$Tape" "one" "LShownLibrary$Term;" ∈ gtb := mg 301 rfl rfl
set_option maxRecDepth 100000 in
theorem w_302 : Cond.fieldLink RX7 24 "ShownLibrary$Tape" "other" "LShownLibrary$Term;" ∈ gtb := mg 302 rfl rfl
set_option maxRecDepth 100000 in
theorem w_303 : Cond.fieldLink RX7 54 "ShownLibrary$Tape" "kind" "I" ∈ gtb := mg 303 rfl rfl
set_option maxRecDepth 100000 in
theorem w_304 : Cond.fieldLink RX7 65 "ShownLibrary$Tape" "first" "I" ∈ gtb := mg 304 rfl rfl
set_option maxRecDepth 100000 in
theorem w_305 : Cond.fieldLink RX7 88 "ShownLibrary$Tape" "next" "I" ∈ gtb := mg 305 rfl rfl
set_option maxRecDepth 100000 in
theorem w_306 : Cond.fieldLink RX7 35 "ShownLibrary$Tape" "length" "I" ∈ gtb := mg 306 rfl rfl
set_option maxRecDepth 100000 in
theorem w_307 : Cond.fieldLink RX11 88 "ShownLibrary$Tape" "length" "I" ∈ gtb := mg 307 rfl rfl
set_option maxRecDepth 100000 in
theorem w_308 : Cond.fieldLink RX11 95 "ShownLibrary$Tape" "latestFault" "I" ∈ gtb := mg 308 rfl rfl
set_option maxRecDepth 100000 in
theorem w_309 : Cond.fieldLink RX7 91 "ShownLibrary$Tape" "latestFault" "I" ∈ gtb := mg 309 rfl rfl
set_option maxRecDepth 100000 in
theorem w_339 : Cond.fieldLink RX6 30 "ShownLibrary$Stepper" "words" "LShownLibrary$Words;" ∈ gtb := mg 339 rfl rfl
set_option maxRecDepth 100000 in
theorem w_340 : Cond.fieldLink RX6 34 "ShownLibrary$Stepper" "sayings" "LShownLibrary$Sayings;" ∈ gtb := mg 340 rfl rfl
set_option maxRecDepth 100000 in
theorem w_341 : Cond.fieldLink RX6 14 "ShownLibrary$Stepper" "subject" "LShownLibrary$Term;" ∈ gtb := mg 341 rfl rfl
set_option maxRecDepth 100000 in
theorem w_342 : Cond.fieldLink RX6 20 "ShownLibrary$Stepper" "ends" "[I" ∈ gtb := mg 342 rfl rfl
set_option maxRecDepth 100000 in
theorem w_343 : Cond.fieldLink RX6 24 "ShownLibrary$Stepper" "starts" "[I" ∈ gtb := mg 343 rfl rfl
set_option maxRecDepth 100000 in
theorem w_344 : Cond.fieldLink RX6 27 "ShownLibrary$Stepper" "stops" "[I" ∈ gtb := mg 344 rfl rfl
set_option maxRecDepth 100000 in
theorem w_345 : Cond.fieldLink RX6 60 "ShownLibrary$Stepper" "put" "I" ∈ gtb := mg 345 rfl rfl
set_option maxRecDepth 100000 in
theorem w_346 : Cond.fieldLink RX1 84 "ShownLibrary$Stepper" "put" "I" ∈ gtb := mg 346 rfl rfl
set_option maxRecDepth 100000 in
theorem w_370 : Cond.fieldLink RX1 30 "ShownLibrary$Row" "stepper" "LShownLibrary$Stepper;" ∈ gtb := mg 370 rfl rfl
set_option maxRecDepth 100000 in
theorem w_371 : Cond.fieldLink RX1 34 "ShownLibrary$Row" "sayings" "LShownLibrary$Sayings;" ∈ gtb := mg 371 rfl rfl
set_option maxRecDepth 100000 in
theorem w_372 : Cond.fieldLink RX1 9 "ShownLibrary$Row" "kinds" "[I" ∈ gtb := mg 372 rfl rfl
set_option maxRecDepth 100000 in
theorem w_373 : Cond.fieldLink RX1 15 "ShownLibrary$Row" "whichs" "[I" ∈ gtb := mg 373 rfl rfl
set_option maxRecDepth 100000 in
theorem w_374 : Cond.fieldLink RX1 18 "ShownLibrary$Row" "places" "[I" ∈ gtb := mg 374 rfl rfl
set_option maxRecDepth 100000 in
theorem w_375 : Cond.fieldLink RX1 21 "ShownLibrary$Row" "puts" "[I" ∈ gtb := mg 375 rfl rfl
set_option maxRecDepth 100000 in
theorem w_376 : Cond.fieldLink RX1 26 "ShownLibrary$Row" "terms" "[LShownLibrary$Term;" ∈ gtb := mg 376 rfl rfl
set_option maxRecDepth 100000 in
theorem w_377 : Cond.fieldLink RX1 41 "ShownLibrary$Row" "wish" "I" ∈ gtb := mg 377 rfl rfl
set_option maxRecDepth 100000 in
theorem w_378 : Cond.fieldLink RX3 97 "ShownLibrary$Row" "wish" "I" ∈ gtb := mg 378 rfl rfl
set_option maxRecDepth 100000 in
theorem w_379 : Cond.fieldLink RX11 189 "ShownLibrary$Row" "wish" "I" ∈ gtb := mg 379 rfl rfl
set_option maxRecDepth 100000 in
theorem w_380 : Cond.fieldLink RX1 45 "ShownLibrary$Row" "size" "I" ∈ gtb := mg 380 rfl rfl
set_option maxRecDepth 100000 in
theorem w_381 : Cond.fieldLink RX3 102 "ShownLibrary$Row" "size" "I" ∈ gtb := mg 381 rfl rfl
set_option maxRecDepth 100000 in
theorem w_382 : Cond.fieldLink RX11 192 "ShownLibrary$Row" "size" "I" ∈ gtb := mg 382 rfl rfl
set_option maxRecDepth 100000 in
theorem w_410 : Cond.fieldLink RX4 49 "ShownLibrary$Seeker" "words" "LShownLibrary$Words;" ∈ gtb := mg 410 rfl rfl
set_option maxRecDepth 100000 in
theorem w_411 : Cond.fieldLink RX4 53 "ShownLibrary$Seeker" "sayings" "LShownLibrary$Sayings;" ∈ gtb := mg 411 rfl rfl
set_option maxRecDepth 100000 in
theorem w_412 : Cond.fieldLink RX4 57 "ShownLibrary$Seeker" "stepper" "LShownLibrary$Stepper;" ∈ gtb := mg 412 rfl rfl
set_option maxRecDepth 100000 in
theorem w_413 : Cond.fieldLink RX4 13 "ShownLibrary$Seeker" "terms" "[LShownLibrary$Term;" ∈ gtb := mg 413 rfl rfl
set_option maxRecDepth 100000 in
theorem w_414 : Cond.fieldLink RX4 17 "ShownLibrary$Seeker" "parents" "[I" ∈ gtb := mg 414 rfl rfl
set_option maxRecDepth 100000 in
theorem w_415 : Cond.fieldLink RX4 21 "ShownLibrary$Seeker" "kinds" "[I" ∈ gtb := mg 415 rfl rfl
set_option maxRecDepth 100000 in
theorem w_416 : Cond.fieldLink RX4 24 "ShownLibrary$Seeker" "whichs" "[I" ∈ gtb := mg 416 rfl rfl
set_option maxRecDepth 100000 in
theorem w_417 : Cond.fieldLink RX4 27 "ShownLibrary$Seeker" "places" "[I" ∈ gtb := mg 417 rfl rfl
set_option maxRecDepth 100000 in
theorem w_418 : Cond.fieldLink RX4 30 "ShownLibrary$Seeker" "depths" "[I" ∈ gtb := mg 418 rfl rfl
set_option maxRecDepth 100000 in
theorem w_419 : Cond.fieldLink RX4 33 "ShownLibrary$Seeker" "heads" "[I" ∈ gtb := mg 419 rfl rfl
set_option maxRecDepth 100000 in
theorem w_420 : Cond.fieldLink RX4 36 "ShownLibrary$Seeker" "chain" "[I" ∈ gtb := mg 420 rfl rfl
set_option maxRecDepth 100000 in
theorem w_421 : Cond.fieldLink RX4 39 "ShownLibrary$Seeker" "path" "[I" ∈ gtb := mg 421 rfl rfl
set_option maxRecDepth 100000 in
theorem w_422 : Cond.fieldLink RX4 45 "ShownLibrary$Seeker" "spare" "LShownLibrary$Term;" ∈ gtb := mg 422 rfl rfl
set_option maxRecDepth 100000 in
theorem w_423 : Cond.fieldLink RX4 78 "ShownLibrary$Seeker" "wish" "I" ∈ gtb := mg 423 rfl rfl
set_option maxRecDepth 100000 in
theorem w_424 : Cond.fieldLink RX4 81 "ShownLibrary$Seeker" "mostSigns" "I" ∈ gtb := mg 424 rfl rfl
set_option maxRecDepth 100000 in
theorem w_425 : Cond.fieldLink RX4 71 "ShownLibrary$Seeker" "found" "I" ∈ gtb := mg 425 rfl rfl
set_option maxRecDepth 100000 in
theorem w_426 : Cond.fieldLink RX4 74 "ShownLibrary$Seeker" "spent" "Z" ∈ gtb := mg 426 rfl rfl
set_option maxRecDepth 100000 in
theorem w_427 : Cond.fieldLink RX4 67 "ShownLibrary$Seeker" "met" "I" ∈ gtb := mg 427 rfl rfl
set_option maxRecDepth 100000 in
theorem w_428 : Cond.fieldLink RX11 222 "ShownLibrary$Seeker" "met" "I" ∈ gtb := mg 428 rfl rfl
set_option maxRecDepth 100000 in
theorem w_474 : Cond.fieldLink RX10 26 "ShownLibrary$Worlds" "words" "LShownLibrary$Words;" ∈ gtb := mg 474 rfl rfl
set_option maxRecDepth 100000 in
theorem w_475 : Cond.fieldLink RX10 30 "ShownLibrary$Worlds" "sayings" "LShownLibrary$Sayings;" ∈ gtb := mg 475 rfl rfl
set_option maxRecDepth 100000 in
theorem w_476 : Cond.fieldLink RX10 11 "ShownLibrary$Worlds" "mTable" "[I" ∈ gtb := mg 476 rfl rfl
set_option maxRecDepth 100000 in
theorem w_477 : Cond.fieldLink RX10 17 "ShownLibrary$Worlds" "wordTables" "[[I" ∈ gtb := mg 477 rfl rfl
set_option maxRecDepth 100000 in
theorem w_478 : Cond.fieldLink RX10 20 "ShownLibrary$Worlds" "values" "[I" ∈ gtb := mg 478 rfl rfl
set_option maxRecDepth 100000 in
theorem w_479 : Cond.fieldLink RX10 23 "ShownLibrary$Worlds" "stack" "[I" ∈ gtb := mg 479 rfl rfl
set_option maxRecDepth 100000 in
theorem w_480 : Cond.fieldLink RX10 37 "ShownLibrary$Worlds" "things" "I" ∈ gtb := mg 480 rfl rfl
set_option maxRecDepth 100000 in
theorem w_481 : Cond.fieldLink RX10 41 "ShownLibrary$Worlds" "o" "I" ∈ gtb := mg 481 rfl rfl
set_option maxRecDepth 100000 in
theorem w_507 : Cond.fieldLink RX0 42 "ShownLibrary$Likeness" "words" "LShownLibrary$Words;" ∈ gtb := mg 507 rfl rfl
set_option maxRecDepth 100000 in
theorem w_508 : Cond.fieldLink RX0 46 "ShownLibrary$Likeness" "sayings" "LShownLibrary$Sayings;" ∈ gtb := mg 508 rfl rfl
set_option maxRecDepth 100000 in
theorem w_509 : Cond.fieldLink RX0 16 "ShownLibrary$Likeness" "left" "LShownLibrary$Term;" ∈ gtb := mg 509 rfl rfl
set_option maxRecDepth 100000 in
theorem w_510 : Cond.fieldLink RX0 20 "ShownLibrary$Likeness" "right" "LShownLibrary$Term;" ∈ gtb := mg 510 rfl rfl
set_option maxRecDepth 100000 in
theorem w_511 : Cond.fieldLink RX0 23 "ShownLibrary$Likeness" "otherLeft" "LShownLibrary$Term;" ∈ gtb := mg 511 rfl rfl
set_option maxRecDepth 100000 in
theorem w_512 : Cond.fieldLink RX0 26 "ShownLibrary$Likeness" "otherRight" "LShownLibrary$Term;" ∈ gtb := mg 512 rfl rfl
set_option maxRecDepth 100000 in
theorem w_513 : Cond.fieldLink RX0 29 "ShownLibrary$Likeness" "namedLeft" "LShownLibrary$Term;" ∈ gtb := mg 513 rfl rfl
set_option maxRecDepth 100000 in
theorem w_514 : Cond.fieldLink RX0 32 "ShownLibrary$Likeness" "namedRight" "LShownLibrary$Term;" ∈ gtb := mg 514 rfl rfl
set_option maxRecDepth 100000 in
theorem w_515 : Cond.fieldLink RX0 35 "ShownLibrary$Likeness" "spare" "LShownLibrary$Term;" ∈ gtb := mg 515 rfl rfl
set_option maxRecDepth 100000 in
theorem w_516 : Cond.fieldLink RX0 38 "ShownLibrary$Likeness" "ends" "[I" ∈ gtb := mg 516 rfl rfl
set_option maxRecDepth 100000 in
theorem w_517 : Cond.fieldLink RX0 50 "ShownLibrary$Likeness" "how" "I" ∈ gtb := mg 517 rfl rfl
set_option maxRecDepth 100000 in
theorem w_548 : Cond.fieldLink RX5 13 "ShownLibrary$Sheets" "cells" "[[I" ∈ gtb := mg 548 rfl rfl
set_option maxRecDepth 100000 in
theorem w_549 : Cond.fieldLink RX5 16 "ShownLibrary$Sheets" "lanes" "[I" ∈ gtb := mg 549 rfl rfl
set_option maxRecDepth 100000 in
theorem w_550 : Cond.fieldLink RX5 20 "ShownLibrary$Sheets" "sizes" "[I" ∈ gtb := mg 550 rfl rfl
set_option maxRecDepth 100000 in
theorem w_558 : Cond.fieldLink RX11 10 "ShownLibrary" "words" "LShownLibrary$Words;" ∈ gtb := mg 558 rfl rfl
set_option maxRecDepth 100000 in
theorem w_559 : Cond.fieldLink RX11 19 "ShownLibrary" "sayings" "LShownLibrary$Sayings;" ∈ gtb := mg 559 rfl rfl
set_option maxRecDepth 100000 in
theorem w_560 : Cond.fieldLink RX11 28 "ShownLibrary" "tape" "LShownLibrary$Tape;" ∈ gtb := mg 560 rfl rfl
set_option maxRecDepth 100000 in
theorem w_561 : Cond.fieldLink RX11 40 "ShownLibrary" "inHand" "LShownLibrary$Row;" ∈ gtb := mg 561 rfl rfl
set_option maxRecDepth 100000 in
theorem w_562 : Cond.fieldLink RX11 44 "ShownLibrary" "tried" "LShownLibrary$Row;" ∈ gtb := mg 562 rfl rfl
set_option maxRecDepth 100000 in
theorem w_563 : Cond.fieldLink RX11 52 "ShownLibrary" "seeker" "LShownLibrary$Seeker;" ∈ gtb := mg 563 rfl rfl
set_option maxRecDepth 100000 in
theorem w_564 : Cond.fieldLink RX11 59 "ShownLibrary" "small" "LShownLibrary$Worlds;" ∈ gtb := mg 564 rfl rfl
set_option maxRecDepth 100000 in
theorem w_565 : Cond.fieldLink RX11 66 "ShownLibrary" "likeness" "LShownLibrary$Likeness;" ∈ gtb := mg 565 rfl rfl
set_option maxRecDepth 100000 in
theorem w_566 : Cond.fieldLink RX11 73 "ShownLibrary" "sheets" "LShownLibrary$Sheets;" ∈ gtb := mg 566 rfl rfl
set_option maxRecDepth 100000 in
theorem w_567 : Cond.fieldLink RX11 77 "ShownLibrary" "theHand" "I" ∈ gtb := mg 567 rfl rfl
set_option maxRecDepth 100000 in
theorem w_568 : Cond.fieldLink RX11 81 "ShownLibrary" "theDay" "I" ∈ gtb := mg 568 rfl rfl
set_option maxRecDepth 100000 in
theorem w_596 : Cond.methodLink RX11 84 yX7_append ∈ gtb := mg 596 rfl rfl
set_option maxRecDepth 100000 in
theorem w_597 : Cond.instanceMethod yX7_append ∈ gtb := mg 597 rfl rfl
set_option maxRecDepth 100000 in
theorem w_598 : Cond.selects RX7 yX7_append yX7_append ∈ gtb := mg 598 rfl rfl
set_option maxRecDepth 100000 in
theorem w_599 : Cond.code yX7_append cX7_append 4 (some .boolean) ∈ gtb := mg 599 rfl rfl
set_option maxRecDepth 100000 in
theorem w_608 : Cond.methodLink RX11 91 yX7_tellLines ∈ gtb := mg 608 rfl rfl
set_option maxRecDepth 100000 in
theorem w_609 : Cond.instanceMethod yX7_tellLines ∈ gtb := mg 609 rfl rfl
set_option maxRecDepth 100000 in
theorem w_610 : Cond.selects RX7 yX7_tellLines yX7_tellLines ∈ gtb := mg 610 rfl rfl
set_option maxRecDepth 100000 in
theorem w_611 : Cond.code yX7_tellLines cX7_tellLines 8 (some .int) ∈ gtb := mg 611 rfl rfl
set_option maxRecDepth 100000 in
theorem w_612 : Cond.methodLink RX7 47 yX7_begin ∈ gtb := mg 612 rfl rfl
set_option maxRecDepth 100000 in
theorem w_614 : Cond.instanceMethod yX7_begin ∈ gtb := mg 614 rfl rfl
set_option maxRecDepth 100000 in
theorem w_615 : Cond.code yX7_begin cX7_begin 1 none ∈ gtb := mg 615 rfl rfl
set_option maxRecDepth 100000 in
theorem w_616 : Cond.methodLink RX7 50 yX7_advance ∈ gtb := mg 616 rfl rfl
set_option maxRecDepth 100000 in
theorem w_618 : Cond.instanceMethod yX7_advance ∈ gtb := mg 618 rfl rfl
set_option maxRecDepth 100000 in
theorem w_619 : Cond.code yX7_advance cX7_advance 1 (some .boolean) ∈ gtb := mg 619 rfl rfl
set_option maxRecDepth 100000 in
theorem w_620 : Cond.methodLink RX7 117 yX7_byteAt ∈ gtb := mg 620 rfl rfl
set_option maxRecDepth 100000 in
theorem w_622 : Cond.instanceMethod yX7_byteAt ∈ gtb := mg 622 rfl rfl
set_option maxRecDepth 100000 in
theorem w_623 : Cond.code yX7_byteAt cX7_byteAt 2 (some .int) ∈ gtb := mg 623 rfl rfl
set_option maxRecDepth 100000 in
theorem w_624 : Cond.methodLink RX7 136 yX7_kindAt ∈ gtb := mg 624 rfl rfl
set_option maxRecDepth 100000 in
theorem w_626 : Cond.instanceMethod yX7_kindAt ∈ gtb := mg 626 rfl rfl
set_option maxRecDepth 100000 in
theorem w_627 : Cond.code yX7_kindAt cX7_kindAt 3 (some .int) ∈ gtb := mg 627 rfl rfl
set_option maxRecDepth 100000 in
theorem w_628 : Cond.methodLink RX7 114 yX7_fails ∈ gtb := mg 628 rfl rfl
set_option maxRecDepth 100000 in
theorem w_630 : Cond.instanceMethod yX7_fails ∈ gtb := mg 630 rfl rfl
set_option maxRecDepth 100000 in
theorem w_631 : Cond.code yX7_fails cX7_fails 2 (some .boolean) ∈ gtb := mg 631 rfl rfl
set_option maxRecDepth 100000 in
theorem w_632 : Cond.methodLink RX7 57 yX7_tellLine ∈ gtb := mg 632 rfl rfl
set_option maxRecDepth 100000 in
theorem w_634 : Cond.instanceMethod yX7_tellLine ∈ gtb := mg 634 rfl rfl
set_option maxRecDepth 100000 in
theorem w_635 : Cond.code yX7_tellLine cX7_tellLine 3 (some .boolean) ∈ gtb := mg 635 rfl rfl
set_option maxRecDepth 100000 in
theorem w_636 : Cond.fieldLink RX7 94 "ShownLibrary$Tape" "WORD_LINE" "[B" ∈ gtb := mg 636 rfl rfl
set_option maxRecDepth 100000 in
theorem w_638 : Cond.methodLink RX7 97 yX7_isRow ∈ gtb := mg 638 rfl rfl
set_option maxRecDepth 100000 in
theorem w_640 : Cond.instanceMethod yX7_isRow ∈ gtb := mg 640 rfl rfl
set_option maxRecDepth 100000 in
theorem w_641 : Cond.code yX7_isRow cX7_isRow 3 (some .boolean) ∈ gtb := mg 641 rfl rfl
set_option maxRecDepth 100000 in
theorem w_642 : Cond.methodLink RX7 101 yX7_tellWord ∈ gtb := mg 642 rfl rfl
set_option maxRecDepth 100000 in
theorem w_644 : Cond.instanceMethod yX7_tellWord ∈ gtb := mg 644 rfl rfl
set_option maxRecDepth 100000 in
theorem w_645 : Cond.code yX7_tellWord cX7_tellWord 3 (some .boolean) ∈ gtb := mg 645 rfl rfl
set_option maxRecDepth 100000 in
theorem w_646 : Cond.methodLink RX7 80 yX7_want ∈ gtb := mg 646 rfl rfl
set_option maxRecDepth 100000 in
theorem w_648 : Cond.instanceMethod yX7_want ∈ gtb := mg 648 rfl rfl
set_option maxRecDepth 100000 in
theorem w_649 : Cond.code yX7_want cX7_want 2 (some .boolean) ∈ gtb := mg 649 rfl rfl
set_option maxRecDepth 100000 in
theorem w_650 : Cond.methodLink RX7 120 yX9_numberOf ∈ gtb := mg 650 rfl rfl
set_option maxRecDepth 100000 in
theorem w_651 : Cond.instanceMethod yX9_numberOf ∈ gtb := mg 651 rfl rfl
set_option maxRecDepth 100000 in
theorem w_652 : Cond.selects RX9 yX9_numberOf yX9_numberOf ∈ gtb := mg 652 rfl rfl
set_option maxRecDepth 100000 in
theorem w_653 : Cond.code yX9_numberOf cX9_numberOf 2 (some .int) ∈ gtb := mg 653 rfl rfl
set_option maxRecDepth 100000 in
theorem w_654 : Cond.methodLink RX7 76 yX7_wantTerm ∈ gtb := mg 654 rfl rfl
set_option maxRecDepth 100000 in
theorem w_656 : Cond.instanceMethod yX7_wantTerm ∈ gtb := mg 656 rfl rfl
set_option maxRecDepth 100000 in
theorem w_657 : Cond.code yX7_wantTerm cX7_wantTerm 5 (some .boolean) ∈ gtb := mg 657 rfl rfl
set_option maxRecDepth 100000 in
theorem w_658 : Cond.methodLink RX7 131 yX8_add ∈ gtb := mg 658 rfl rfl
set_option maxRecDepth 100000 in
theorem w_659 : Cond.instanceMethod yX8_add ∈ gtb := mg 659 rfl rfl
set_option maxRecDepth 100000 in
theorem w_660 : Cond.selects RX8 yX8_add yX8_add ∈ gtb := mg 660 rfl rfl
set_option maxRecDepth 100000 in
theorem w_661 : Cond.code yX8_add cX8_add 2 (some .boolean) ∈ gtb := mg 661 rfl rfl
set_option maxRecDepth 100000 in
theorem w_662 : Cond.methodLink RX7 133 yX9_isTerm ∈ gtb := mg 662 rfl rfl
set_option maxRecDepth 100000 in
theorem w_663 : Cond.instanceMethod yX9_isTerm ∈ gtb := mg 663 rfl rfl
set_option maxRecDepth 100000 in
theorem w_664 : Cond.selects RX9 yX9_isTerm yX9_isTerm ∈ gtb := mg 664 rfl rfl
set_option maxRecDepth 100000 in
theorem w_665 : Cond.code yX9_isTerm cX9_isTerm 6 (some .boolean) ∈ gtb := mg 665 rfl rfl
set_option maxRecDepth 100000 in
theorem w_666 : Cond.methodLink RX9 55 yX8_at ∈ gtb := mg 666 rfl rfl
set_option maxRecDepth 100000 in
theorem w_667 : Cond.instanceMethod yX8_at ∈ gtb := mg 667 rfl rfl
set_option maxRecDepth 100000 in
theorem w_668 : Cond.selects RX8 yX8_at yX8_at ∈ gtb := mg 668 rfl rfl
set_option maxRecDepth 100000 in
theorem w_669 : Cond.code yX8_at cX8_at 2 (some .int) ∈ gtb := mg 669 rfl rfl
set_option maxRecDepth 100000 in
theorem w_670 : Cond.methodLink RX9 59 yX9_mayStand ∈ gtb := mg 670 rfl rfl
set_option maxRecDepth 100000 in
theorem w_672 : Cond.instanceMethod yX9_mayStand ∈ gtb := mg 672 rfl rfl
set_option maxRecDepth 100000 in
theorem w_673 : Cond.code yX9_mayStand cX9_mayStand 5 (some .boolean) ∈ gtb := mg 673 rfl rfl
set_option maxRecDepth 100000 in
theorem w_674 : Cond.methodLink RX9 66 yX9_numberOf ∈ gtb := mg 674 rfl rfl
set_option maxRecDepth 100000 in
theorem w_675 : Cond.methodLink RX9 63 yX9_behind ∈ gtb := mg 675 rfl rfl
set_option maxRecDepth 100000 in
theorem w_676 : Cond.instanceMethod yX9_behind ∈ gtb := mg 676 rfl rfl
set_option maxRecDepth 100000 in
theorem w_677 : Cond.selects RX9 yX9_behind yX9_behind ∈ gtb := mg 677 rfl rfl
set_option maxRecDepth 100000 in
theorem w_678 : Cond.code yX9_behind cX9_behind 3 (some .int) ∈ gtb := mg 678 rfl rfl
set_option maxRecDepth 100000 in
theorem w_679 : Cond.methodLink RX7 123 yX9_add ∈ gtb := mg 679 rfl rfl
set_option maxRecDepth 100000 in
theorem w_680 : Cond.instanceMethod yX9_add ∈ gtb := mg 680 rfl rfl
set_option maxRecDepth 100000 in
theorem w_681 : Cond.selects RX9 yX9_add yX9_add ∈ gtb := mg 681 rfl rfl
set_option maxRecDepth 100000 in
theorem w_682 : Cond.code yX9_add cX9_add 6 none ∈ gtb := mg 682 rfl rfl
set_option maxRecDepth 100000 in
theorem w_683 : Cond.methodLink RX9 37 yX8_copy ∈ gtb := mg 683 rfl rfl
set_option maxRecDepth 100000 in
theorem w_684 : Cond.instanceMethod yX8_copy ∈ gtb := mg 684 rfl rfl
set_option maxRecDepth 100000 in
theorem w_685 : Cond.selects RX8 yX8_copy yX8_copy ∈ gtb := mg 685 rfl rfl
set_option maxRecDepth 100000 in
theorem w_686 : Cond.code yX8_copy cX8_copy 2 none ∈ gtb := mg 686 rfl rfl
set_option maxRecDepth 100000 in
theorem w_687 : Cond.methodLink RX8 25 yX8_addPart ∈ gtb := mg 687 rfl rfl
set_option maxRecDepth 100000 in
theorem w_688 : Cond.instanceMethod yX8_addPart ∈ gtb := mg 688 rfl rfl
set_option maxRecDepth 100000 in
theorem w_689 : Cond.selects RX8 yX8_addPart yX8_addPart ∈ gtb := mg 689 rfl rfl
set_option maxRecDepth 100000 in
theorem w_690 : Cond.code yX8_addPart cX8_addPart 5 (some .boolean) ∈ gtb := mg 690 rfl rfl
set_option maxRecDepth 100000 in
theorem w_691 : Cond.methodLink RX9 42 yX8_add ∈ gtb := mg 691 rfl rfl
set_option maxRecDepth 100000 in
theorem w_692 : Cond.fieldLink RX7 104 "ShownLibrary$Tape" "TAKEN_LINE" "[B" ∈ gtb := mg 692 rfl rfl
set_option maxRecDepth 100000 in
theorem w_694 : Cond.methodLink RX7 107 yX7_tellSaying ∈ gtb := mg 694 rfl rfl
set_option maxRecDepth 100000 in
theorem w_696 : Cond.instanceMethod yX7_tellSaying ∈ gtb := mg 696 rfl rfl
set_option maxRecDepth 100000 in
theorem w_697 : Cond.code yX7_tellSaying cX7_tellSaying 5 (some .boolean) ∈ gtb := mg 697 rfl rfl
set_option maxRecDepth 100000 in
theorem w_698 : Cond.methodLink RX7 127 yX3_add ∈ gtb := mg 698 rfl rfl
set_option maxRecDepth 100000 in
theorem w_699 : Cond.instanceMethod yX3_add ∈ gtb := mg 699 rfl rfl
set_option maxRecDepth 100000 in
theorem w_700 : Cond.selects RX3 yX3_add yX3_add ∈ gtb := mg 700 rfl rfl
set_option maxRecDepth 100000 in
theorem w_701 : Cond.code yX3_add cX3_add 7 none ∈ gtb := mg 701 rfl rfl
set_option maxRecDepth 100000 in
theorem w_702 : Cond.methodLink RX3 47 yX8_copy ∈ gtb := mg 702 rfl rfl
set_option maxRecDepth 100000 in
theorem w_703 : Cond.fieldLink RX7 111 "ShownLibrary$Tape" "WISH_LINE" "[B" ∈ gtb := mg 703 rfl rfl
set_option maxRecDepth 100000 in
theorem w_705 : Cond.methodLink RX7 61 yX9_keep ∈ gtb := mg 705 rfl rfl
set_option maxRecDepth 100000 in
theorem w_706 : Cond.instanceMethod yX9_keep ∈ gtb := mg 706 rfl rfl
set_option maxRecDepth 100000 in
theorem w_707 : Cond.selects RX9 yX9_keep yX9_keep ∈ gtb := mg 707 rfl rfl
set_option maxRecDepth 100000 in
theorem w_708 : Cond.code yX9_keep cX9_keep 3 none ∈ gtb := mg 708 rfl rfl
set_option maxRecDepth 100000 in
theorem w_709 : Cond.methodLink RX9 46 Lib.Math.max.name ∈ gtb := mg 709 rfl rfl
set_option maxRecDepth 100000 in
theorem w_710 : Cond.methodLink RX9 52 Lib.Math.min.name ∈ gtb := mg 710 rfl rfl
set_option maxRecDepth 100000 in
theorem w_711 : Cond.static Lib.Math.min.name ∈ gtb := mg 711 rfl rfl
set_option maxRecDepth 100000 in
theorem w_712 : Cond.code Lib.Math.min.name Lib.Math.min.code 2 (some .int) ∈ gtb := mg 712 rfl rfl
set_option maxRecDepth 100000 in
theorem w_713 : Cond.methodLink RX7 64 yX3_keep ∈ gtb := mg 713 rfl rfl
set_option maxRecDepth 100000 in
theorem w_714 : Cond.instanceMethod yX3_keep ∈ gtb := mg 714 rfl rfl
set_option maxRecDepth 100000 in
theorem w_715 : Cond.selects RX3 yX3_keep yX3_keep ∈ gtb := mg 715 rfl rfl
set_option maxRecDepth 100000 in
theorem w_716 : Cond.code yX3_keep cX3_keep 2 none ∈ gtb := mg 716 rfl rfl
set_option maxRecDepth 100000 in
theorem w_717 : Cond.methodLink RX3 68 Lib.Math.max.name ∈ gtb := mg 717 rfl rfl
set_option maxRecDepth 100000 in
theorem w_718 : Cond.methodLink RX3 74 Lib.Math.min.name ∈ gtb := mg 718 rfl rfl
set_option maxRecDepth 100000 in
theorem w_735 : Cond.methodLink RX11 98 yX3_get ∈ gtb := mg 735 rfl rfl
set_option maxRecDepth 100000 in
theorem w_736 : Cond.instanceMethod yX3_get ∈ gtb := mg 736 rfl rfl
set_option maxRecDepth 100000 in
theorem w_737 : Cond.selects RX3 yX3_get yX3_get ∈ gtb := mg 737 rfl rfl
set_option maxRecDepth 100000 in
theorem w_738 : Cond.code yX3_get cX3_get 2 (some (.object "ShownLibrary$Saying")) ∈ gtb := mg 738 rfl rfl
set_option maxRecDepth 100000 in
theorem w_739 : Cond.methodLink RX11 131 yX3_underOf ∈ gtb := mg 739 rfl rfl
set_option maxRecDepth 100000 in
theorem w_740 : Cond.instanceMethod yX3_underOf ∈ gtb := mg 740 rfl rfl
set_option maxRecDepth 100000 in
theorem w_741 : Cond.selects RX3 yX3_underOf yX3_underOf ∈ gtb := mg 741 rfl rfl
set_option maxRecDepth 100000 in
theorem w_742 : Cond.code yX3_underOf cX3_underOf 3 (some .int) ∈ gtb := mg 742 rfl rfl
set_option maxRecDepth 100000 in
theorem w_743 : Cond.methodLink RX3 77 yX3_get ∈ gtb := mg 743 rfl rfl
set_option maxRecDepth 100000 in
theorem w_744 : Cond.methodLink RX11 135 yJ6_bitCount_0f7a4 ∈ gtb := mg 744 rfl rfl
set_option maxRecDepth 100000 in
theorem w_745 : Cond.static yJ6_bitCount_0f7a4 ∈ gtb := mg 745 rfl rfl
set_option maxRecDepth 100000 in
theorem w_746 : Cond.code yJ6_bitCount_0f7a4 cJ6_bitCount_0f7a4 1 (some .int) ∈ gtb := mg 746 rfl rfl
set_option maxRecDepth 100000 in
theorem w_747 : Cond.constant RJ6 265 (q32 (1431655765)) ∈ gtb := mg 747 rfl rfl
set_option maxRecDepth 100000 in
theorem w_748 : Cond.constant RJ6 266 (q32 (858993459)) ∈ gtb := mg 748 rfl rfl
set_option maxRecDepth 100000 in
theorem w_749 : Cond.constant RJ6 267 (q32 (252645135)) ∈ gtb := mg 749 rfl rfl
set_option maxRecDepth 100000 in
theorem w_750 : Cond.methodLink RX11 140 yX3_overOf ∈ gtb := mg 750 rfl rfl
set_option maxRecDepth 100000 in
theorem w_751 : Cond.instanceMethod yX3_overOf ∈ gtb := mg 751 rfl rfl
set_option maxRecDepth 100000 in
theorem w_752 : Cond.selects RX3 yX3_overOf yX3_overOf ∈ gtb := mg 752 rfl rfl
set_option maxRecDepth 100000 in
theorem w_753 : Cond.code yX3_overOf cX3_overOf 4 (some .int) ∈ gtb := mg 753 rfl rfl
set_option maxRecDepth 100000 in
theorem w_754 : Cond.methodLink RX3 84 yX3_underOf ∈ gtb := mg 754 rfl rfl
set_option maxRecDepth 100000 in
theorem w_759 : Cond.methodLink RX11 143 yX8_at ∈ gtb := mg 759 rfl rfl
set_option maxRecDepth 100000 in
theorem w_764 : Cond.methodLink RX11 146 yX9_meaningOf ∈ gtb := mg 764 rfl rfl
set_option maxRecDepth 100000 in
theorem w_765 : Cond.instanceMethod yX9_meaningOf ∈ gtb := mg 765 rfl rfl
set_option maxRecDepth 100000 in
theorem w_766 : Cond.selects RX9 yX9_meaningOf yX9_meaningOf ∈ gtb := mg 766 rfl rfl
set_option maxRecDepth 100000 in
theorem w_767 : Cond.code yX9_meaningOf cX9_meaningOf 2 (some (.object "ShownLibrary$Term")) ∈ gtb := mg 767 rfl rfl
set_option maxRecDepth 100000 in
theorem w_768 : Cond.methodLink RX11 150 yX9_letterOf ∈ gtb := mg 768 rfl rfl
set_option maxRecDepth 100000 in
theorem w_769 : Cond.instanceMethod yX9_letterOf ∈ gtb := mg 769 rfl rfl
set_option maxRecDepth 100000 in
theorem w_770 : Cond.selects RX9 yX9_letterOf yX9_letterOf ∈ gtb := mg 770 rfl rfl
set_option maxRecDepth 100000 in
theorem w_771 : Cond.code yX9_letterOf cX9_letterOf 2 (some .int) ∈ gtb := mg 771 rfl rfl
set_option maxRecDepth 100000 in
theorem w_772 : Cond.methodLink RX11 153 yX9_needOf ∈ gtb := mg 772 rfl rfl
set_option maxRecDepth 100000 in
theorem w_773 : Cond.instanceMethod yX9_needOf ∈ gtb := mg 773 rfl rfl
set_option maxRecDepth 100000 in
theorem w_774 : Cond.selects RX9 yX9_needOf yX9_needOf ∈ gtb := mg 774 rfl rfl
set_option maxRecDepth 100000 in
theorem w_775 : Cond.code yX9_needOf cX9_needOf 2 (some .int) ∈ gtb := mg 775 rfl rfl
set_option maxRecDepth 100000 in
theorem w_776 : Cond.methodLink RX11 156 yX3_shownPutting ∈ gtb := mg 776 rfl rfl
set_option maxRecDepth 100000 in
theorem w_777 : Cond.instanceMethod yX3_shownPutting ∈ gtb := mg 777 rfl rfl
set_option maxRecDepth 100000 in
theorem w_778 : Cond.selects RX3 yX3_shownPutting yX3_shownPutting ∈ gtb := mg 778 rfl rfl
set_option maxRecDepth 100000 in
theorem w_779 : Cond.code yX3_shownPutting cX3_shownPutting 4 (some .int) ∈ gtb := mg 779 rfl rfl
set_option maxRecDepth 100000 in
theorem w_780 : Cond.methodLink RX11 159 yX11_letterAt ∈ gtb := mg 780 rfl rfl
set_option maxRecDepth 100000 in
theorem w_782 : Cond.instanceMethod yX11_letterAt ∈ gtb := mg 782 rfl rfl
set_option maxRecDepth 100000 in
theorem w_783 : Cond.code yX11_letterAt cX11_letterAt 3 (some .int) ∈ gtb := mg 783 rfl rfl
set_option maxRecDepth 100000 in
theorem w_788 : Cond.methodLink RX11 163 yX3_stateOn ∈ gtb := mg 788 rfl rfl
set_option maxRecDepth 100000 in
theorem w_789 : Cond.instanceMethod yX3_stateOn ∈ gtb := mg 789 rfl rfl
set_option maxRecDepth 100000 in
theorem w_790 : Cond.selects RX3 yX3_stateOn yX3_stateOn ∈ gtb := mg 790 rfl rfl
set_option maxRecDepth 100000 in
theorem w_791 : Cond.code yX3_stateOn cX3_stateOn 6 (some .int) ∈ gtb := mg 791 rfl rfl
set_option maxRecDepth 100000 in
theorem w_796 : Cond.methodLink RX11 166 yX2_isOpen ∈ gtb := mg 796 rfl rfl
set_option maxRecDepth 100000 in
theorem w_797 : Cond.instanceMethod yX2_isOpen ∈ gtb := mg 797 rfl rfl
set_option maxRecDepth 100000 in
theorem w_798 : Cond.selects RX2 yX2_isOpen yX2_isOpen ∈ gtb := mg 798 rfl rfl
set_option maxRecDepth 100000 in
theorem w_799 : Cond.code yX2_isOpen cX2_isOpen 1 (some .boolean) ∈ gtb := mg 799 rfl rfl
set_option maxRecDepth 100000 in
theorem w_800 : Cond.methodLink RX11 170 yX1_begin ∈ gtb := mg 800 rfl rfl
set_option maxRecDepth 100000 in
theorem w_801 : Cond.instanceMethod yX1_begin ∈ gtb := mg 801 rfl rfl
set_option maxRecDepth 100000 in
theorem w_802 : Cond.selects RX1 yX1_begin yX1_begin ∈ gtb := mg 802 rfl rfl
set_option maxRecDepth 100000 in
theorem w_803 : Cond.code yX1_begin cX1_begin 3 none ∈ gtb := mg 803 rfl rfl
set_option maxRecDepth 100000 in
theorem w_804 : Cond.methodLink RX1 48 yX3_get ∈ gtb := mg 804 rfl rfl
set_option maxRecDepth 100000 in
theorem w_805 : Cond.methodLink RX1 60 yX8_copy ∈ gtb := mg 805 rfl rfl
set_option maxRecDepth 100000 in
theorem w_806 : Cond.methodLink RX11 174 yX1_now ∈ gtb := mg 806 rfl rfl
set_option maxRecDepth 100000 in
theorem w_807 : Cond.instanceMethod yX1_now ∈ gtb := mg 807 rfl rfl
set_option maxRecDepth 100000 in
theorem w_808 : Cond.selects RX1 yX1_now yX1_now ∈ gtb := mg 808 rfl rfl
set_option maxRecDepth 100000 in
theorem w_809 : Cond.code yX1_now cX1_now 1 (some (.object "ShownLibrary$Term")) ∈ gtb := mg 809 rfl rfl
set_option maxRecDepth 100000 in
theorem w_814 : Cond.methodLink RX11 178 yX1_isDropped ∈ gtb := mg 814 rfl rfl
set_option maxRecDepth 100000 in
theorem w_815 : Cond.instanceMethod yX1_isDropped ∈ gtb := mg 815 rfl rfl
set_option maxRecDepth 100000 in
theorem w_816 : Cond.selects RX1 yX1_isDropped yX1_isDropped ∈ gtb := mg 816 rfl rfl
set_option maxRecDepth 100000 in
theorem w_817 : Cond.code yX1_isDropped cX1_isDropped 1 (some .boolean) ∈ gtb := mg 817 rfl rfl
set_option maxRecDepth 100000 in
theorem w_818 : Cond.methodLink RX11 181 yX1_go ∈ gtb := mg 818 rfl rfl
set_option maxRecDepth 100000 in
theorem w_819 : Cond.instanceMethod yX1_go ∈ gtb := mg 819 rfl rfl
set_option maxRecDepth 100000 in
theorem w_820 : Cond.selects RX1 yX1_go yX1_go ∈ gtb := mg 820 rfl rfl
set_option maxRecDepth 100000 in
theorem w_821 : Cond.code yX1_go cX1_go 5 (some .int) ∈ gtb := mg 821 rfl rfl
set_option maxRecDepth 100000 in
theorem w_822 : Cond.methodLink RX1 75 yX6_look ∈ gtb := mg 822 rfl rfl
set_option maxRecDepth 100000 in
theorem w_823 : Cond.instanceMethod yX6_look ∈ gtb := mg 823 rfl rfl
set_option maxRecDepth 100000 in
theorem w_824 : Cond.selects RX6 yX6_look yX6_look ∈ gtb := mg 824 rfl rfl
set_option maxRecDepth 100000 in
theorem w_825 : Cond.code yX6_look cX6_look 6 none ∈ gtb := mg 825 rfl rfl
set_option maxRecDepth 100000 in
theorem w_826 : Cond.methodLink RX6 42 Lib.Math.min.name ∈ gtb := mg 826 rfl rfl
set_option maxRecDepth 100000 in
theorem w_827 : Cond.methodLink RX6 48 yX8_at ∈ gtb := mg 827 rfl rfl
set_option maxRecDepth 100000 in
theorem w_828 : Cond.methodLink RX6 52 yX9_behind ∈ gtb := mg 828 rfl rfl
set_option maxRecDepth 100000 in
theorem w_829 : Cond.methodLink RX6 57 yX6_endAt ∈ gtb := mg 829 rfl rfl
set_option maxRecDepth 100000 in
theorem w_831 : Cond.instanceMethod yX6_endAt ∈ gtb := mg 831 rfl rfl
set_option maxRecDepth 100000 in
theorem w_832 : Cond.code yX6_endAt cX6_endAt 2 (some .int) ∈ gtb := mg 832 rfl rfl
set_option maxRecDepth 100000 in
theorem w_833 : Cond.methodLink RX1 80 yX6_go ∈ gtb := mg 833 rfl rfl
set_option maxRecDepth 100000 in
theorem w_834 : Cond.instanceMethod yX6_go ∈ gtb := mg 834 rfl rfl
set_option maxRecDepth 100000 in
theorem w_835 : Cond.selects RX6 yX6_go yX6_go ∈ gtb := mg 835 rfl rfl
set_option maxRecDepth 100000 in
theorem w_836 : Cond.code yX6_go cX6_go 9 (some .int) ∈ gtb := mg 836 rfl rfl
set_option maxRecDepth 100000 in
theorem w_837 : Cond.methodLink RX6 63 yX3_get ∈ gtb := mg 837 rfl rfl
set_option maxRecDepth 100000 in
theorem w_838 : Cond.methodLink RX6 69 yX2_isUsable ∈ gtb := mg 838 rfl rfl
set_option maxRecDepth 100000 in
theorem w_839 : Cond.instanceMethod yX2_isUsable ∈ gtb := mg 839 rfl rfl
set_option maxRecDepth 100000 in
theorem w_840 : Cond.selects RX2 yX2_isUsable yX2_isUsable ∈ gtb := mg 840 rfl rfl
set_option maxRecDepth 100000 in
theorem w_841 : Cond.code yX2_isUsable cX2_isUsable 1 (some .boolean) ∈ gtb := mg 841 rfl rfl
set_option maxRecDepth 100000 in
theorem w_842 : Cond.methodLink RX6 81 yX9_numberOf ∈ gtb := mg 842 rfl rfl
set_option maxRecDepth 100000 in
theorem w_843 : Cond.methodLink RX6 84 yX9_faceOf ∈ gtb := mg 843 rfl rfl
set_option maxRecDepth 100000 in
theorem w_844 : Cond.instanceMethod yX9_faceOf ∈ gtb := mg 844 rfl rfl
set_option maxRecDepth 100000 in
theorem w_845 : Cond.selects RX9 yX9_faceOf yX9_faceOf ∈ gtb := mg 845 rfl rfl
set_option maxRecDepth 100000 in
theorem w_846 : Cond.code yX9_faceOf cX9_faceOf 2 (some (.object "ShownLibrary$Term")) ∈ gtb := mg 846 rfl rfl
set_option maxRecDepth 100000 in
theorem w_847 : Cond.methodLink RX6 88 yX9_meaningOf ∈ gtb := mg 847 rfl rfl
set_option maxRecDepth 100000 in
theorem w_848 : Cond.methodLink RX6 91 yX6_fits ∈ gtb := mg 848 rfl rfl
set_option maxRecDepth 100000 in
theorem w_850 : Cond.instanceMethod yX6_fits ∈ gtb := mg 850 rfl rfl
set_option maxRecDepth 100000 in
theorem w_851 : Cond.code yX6_fits cX6_fits 9 (some .boolean) ∈ gtb := mg 851 rfl rfl
set_option maxRecDepth 100000 in
theorem w_852 : Cond.methodLink RX6 99 yX8_samePart ∈ gtb := mg 852 rfl rfl
set_option maxRecDepth 100000 in
theorem w_853 : Cond.instanceMethod yX8_samePart ∈ gtb := mg 853 rfl rfl
set_option maxRecDepth 100000 in
theorem w_854 : Cond.selects RX8 yX8_samePart yX8_samePart ∈ gtb := mg 854 rfl rfl
set_option maxRecDepth 100000 in
theorem w_855 : Cond.code yX8_samePart cX8_samePart 6 (some .boolean) ∈ gtb := mg 855 rfl rfl
set_option maxRecDepth 100000 in
theorem w_856 : Cond.methodLink RX6 95 yX6_becomes ∈ gtb := mg 856 rfl rfl
set_option maxRecDepth 100000 in
theorem w_858 : Cond.instanceMethod yX6_becomes ∈ gtb := mg 858 rfl rfl
set_option maxRecDepth 100000 in
theorem w_859 : Cond.code yX6_becomes cX6_becomes 8 (some .int) ∈ gtb := mg 859 rfl rfl
set_option maxRecDepth 100000 in
theorem w_860 : Cond.methodLink RX6 103 yX8_addPart ∈ gtb := mg 860 rfl rfl
set_option maxRecDepth 100000 in
theorem w_861 : Cond.methodLink RX6 107 yX8_add ∈ gtb := mg 861 rfl rfl
set_option maxRecDepth 100000 in
theorem w_866 : Cond.methodLink RX11 185 yX1_goBack ∈ gtb := mg 866 rfl rfl
set_option maxRecDepth 100000 in
theorem w_867 : Cond.instanceMethod yX1_goBack ∈ gtb := mg 867 rfl rfl
set_option maxRecDepth 100000 in
theorem w_868 : Cond.selects RX1 yX1_goBack yX1_goBack ∈ gtb := mg 868 rfl rfl
set_option maxRecDepth 100000 in
theorem w_869 : Cond.code yX1_goBack cX1_goBack 1 (some .int) ∈ gtb := mg 869 rfl rfl
set_option maxRecDepth 100000 in
theorem w_874 : Cond.methodLink RX11 193 yX1_arrived ∈ gtb := mg 874 rfl rfl
set_option maxRecDepth 100000 in
theorem w_875 : Cond.instanceMethod yX1_arrived ∈ gtb := mg 875 rfl rfl
set_option maxRecDepth 100000 in
theorem w_876 : Cond.selects RX1 yX1_arrived yX1_arrived ∈ gtb := mg 876 rfl rfl
set_option maxRecDepth 100000 in
theorem w_877 : Cond.code yX1_arrived cX1_arrived 2 (some .boolean) ∈ gtb := mg 877 rfl rfl
set_option maxRecDepth 100000 in
theorem w_878 : Cond.methodLink RX1 64 yX1_now ∈ gtb := mg 878 rfl rfl
set_option maxRecDepth 100000 in
theorem w_879 : Cond.methodLink RX1 71 yX8_same ∈ gtb := mg 879 rfl rfl
set_option maxRecDepth 100000 in
theorem w_880 : Cond.instanceMethod yX8_same ∈ gtb := mg 880 rfl rfl
set_option maxRecDepth 100000 in
theorem w_881 : Cond.selects RX8 yX8_same yX8_same ∈ gtb := mg 881 rfl rfl
set_option maxRecDepth 100000 in
theorem w_882 : Cond.code yX8_same cX8_same 2 (some .boolean) ∈ gtb := mg 882 rfl rfl
set_option maxRecDepth 100000 in
theorem w_883 : Cond.methodLink RX8 29 yX8_samePart ∈ gtb := mg 883 rfl rfl
set_option maxRecDepth 100000 in
theorem w_888 : Cond.methodLink RX11 196 yX11_tell ∈ gtb := mg 888 rfl rfl
set_option maxRecDepth 100000 in
theorem w_890 : Cond.instanceMethod yX11_tell ∈ gtb := mg 890 rfl rfl
set_option maxRecDepth 100000 in
theorem w_891 : Cond.code yX11_tell cX11_tell 3 (some .int) ∈ gtb := mg 891 rfl rfl
set_option maxRecDepth 100000 in
theorem w_892 : Cond.methodLink RX11 293 yX3_tellProof ∈ gtb := mg 892 rfl rfl
set_option maxRecDepth 100000 in
theorem w_893 : Cond.instanceMethod yX3_tellProof ∈ gtb := mg 893 rfl rfl
set_option maxRecDepth 100000 in
theorem w_894 : Cond.selects RX3 yX3_tellProof yX3_tellProof ∈ gtb := mg 894 rfl rfl
set_option maxRecDepth 100000 in
theorem w_895 : Cond.code yX3_tellProof cX3_tellProof 5 (some .boolean) ∈ gtb := mg 895 rfl rfl
set_option maxRecDepth 100000 in
theorem w_896 : Cond.methodLink RX3 106 yX1_kindAt ∈ gtb := mg 896 rfl rfl
set_option maxRecDepth 100000 in
theorem w_897 : Cond.instanceMethod yX1_kindAt ∈ gtb := mg 897 rfl rfl
set_option maxRecDepth 100000 in
theorem w_898 : Cond.selects RX1 yX1_kindAt yX1_kindAt ∈ gtb := mg 898 rfl rfl
set_option maxRecDepth 100000 in
theorem w_899 : Cond.code yX1_kindAt cX1_kindAt 2 (some .int) ∈ gtb := mg 899 rfl rfl
set_option maxRecDepth 100000 in
theorem w_900 : Cond.methodLink RX3 109 yX1_whichAt ∈ gtb := mg 900 rfl rfl
set_option maxRecDepth 100000 in
theorem w_901 : Cond.instanceMethod yX1_whichAt ∈ gtb := mg 901 rfl rfl
set_option maxRecDepth 100000 in
theorem w_902 : Cond.selects RX1 yX1_whichAt yX1_whichAt ∈ gtb := mg 902 rfl rfl
set_option maxRecDepth 100000 in
theorem w_903 : Cond.code yX1_whichAt cX1_whichAt 2 (some .int) ∈ gtb := mg 903 rfl rfl
set_option maxRecDepth 100000 in
theorem w_904 : Cond.methodLink RX3 112 yX1_placeAt ∈ gtb := mg 904 rfl rfl
set_option maxRecDepth 100000 in
theorem w_905 : Cond.instanceMethod yX1_placeAt ∈ gtb := mg 905 rfl rfl
set_option maxRecDepth 100000 in
theorem w_906 : Cond.selects RX1 yX1_placeAt yX1_placeAt ∈ gtb := mg 906 rfl rfl
set_option maxRecDepth 100000 in
theorem w_907 : Cond.code yX1_placeAt cX1_placeAt 2 (some .int) ∈ gtb := mg 907 rfl rfl
set_option maxRecDepth 100000 in
theorem w_908 : Cond.methodLink RX3 115 yX1_putting ∈ gtb := mg 908 rfl rfl
set_option maxRecDepth 100000 in
theorem w_909 : Cond.instanceMethod yX1_putting ∈ gtb := mg 909 rfl rfl
set_option maxRecDepth 100000 in
theorem w_910 : Cond.selects RX1 yX1_putting yX1_putting ∈ gtb := mg 910 rfl rfl
set_option maxRecDepth 100000 in
theorem w_911 : Cond.code yX1_putting cX1_putting 3 (some .int) ∈ gtb := mg 911 rfl rfl
set_option maxRecDepth 100000 in
theorem w_912 : Cond.methodLink RX3 118 yX1_using ∈ gtb := mg 912 rfl rfl
set_option maxRecDepth 100000 in
theorem w_913 : Cond.instanceMethod yX1_using ∈ gtb := mg 913 rfl rfl
set_option maxRecDepth 100000 in
theorem w_914 : Cond.selects RX1 yX1_using yX1_using ∈ gtb := mg 914 rfl rfl
set_option maxRecDepth 100000 in
theorem w_915 : Cond.code yX1_using cX1_using 3 (some .int) ∈ gtb := mg 915 rfl rfl
set_option maxRecDepth 100000 in
theorem w_916 : Cond.methodLink RX3 121 yX3_closed ∈ gtb := mg 916 rfl rfl
set_option maxRecDepth 100000 in
theorem w_918 : Cond.instanceMethod yX3_closed ∈ gtb := mg 918 rfl rfl
set_option maxRecDepth 100000 in
theorem w_919 : Cond.code yX3_closed cX3_closed 4 (some .int) ∈ gtb := mg 919 rfl rfl
set_option maxRecDepth 100000 in
theorem w_920 : Cond.methodLink RX3 130 yX3_turn ∈ gtb := mg 920 rfl rfl
set_option maxRecDepth 100000 in
theorem w_922 : Cond.instanceMethod yX3_turn ∈ gtb := mg 922 rfl rfl
set_option maxRecDepth 100000 in
theorem w_923 : Cond.code yX3_turn cX3_turn 4 none ∈ gtb := mg 923 rfl rfl
set_option maxRecDepth 100000 in
theorem w_924 : Cond.methodLink RX11 212 yX1_drop ∈ gtb := mg 924 rfl rfl
set_option maxRecDepth 100000 in
theorem w_925 : Cond.instanceMethod yX1_drop ∈ gtb := mg 925 rfl rfl
set_option maxRecDepth 100000 in
theorem w_926 : Cond.selects RX1 yX1_drop yX1_drop ∈ gtb := mg 926 rfl rfl
set_option maxRecDepth 100000 in
theorem w_927 : Cond.code yX1_drop cX1_drop 1 none ∈ gtb := mg 927 rfl rfl
set_option maxRecDepth 100000 in
theorem w_932 : Cond.methodLink RX11 203 yX3_toldAt ∈ gtb := mg 932 rfl rfl
set_option maxRecDepth 100000 in
theorem w_933 : Cond.instanceMethod yX3_toldAt ∈ gtb := mg 933 rfl rfl
set_option maxRecDepth 100000 in
theorem w_934 : Cond.selects RX3 yX3_toldAt yX3_toldAt ∈ gtb := mg 934 rfl rfl
set_option maxRecDepth 100000 in
theorem w_935 : Cond.code yX3_toldAt cX3_toldAt 3 (some .int) ∈ gtb := mg 935 rfl rfl
set_option maxRecDepth 100000 in
theorem w_940 : Cond.methodLink RX11 206 yX3_maskOf ∈ gtb := mg 940 rfl rfl
set_option maxRecDepth 100000 in
theorem w_941 : Cond.instanceMethod yX3_maskOf ∈ gtb := mg 941 rfl rfl
set_option maxRecDepth 100000 in
theorem w_942 : Cond.selects RX3 yX3_maskOf yX3_maskOf ∈ gtb := mg 942 rfl rfl
set_option maxRecDepth 100000 in
theorem w_943 : Cond.code yX3_maskOf cX3_maskOf 4 (some .int) ∈ gtb := mg 943 rfl rfl
set_option maxRecDepth 100000 in
theorem w_948 : Cond.methodLink RX11 209 yX7_tellMeaning ∈ gtb := mg 948 rfl rfl
set_option maxRecDepth 100000 in
theorem w_949 : Cond.instanceMethod yX7_tellMeaning ∈ gtb := mg 949 rfl rfl
set_option maxRecDepth 100000 in
theorem w_950 : Cond.selects RX7 yX7_tellMeaning yX7_tellMeaning ∈ gtb := mg 950 rfl rfl
set_option maxRecDepth 100000 in
theorem w_951 : Cond.code yX7_tellMeaning cX7_tellMeaning 4 (some .int) ∈ gtb := mg 951 rfl rfl
set_option maxRecDepth 100000 in
theorem w_952 : Cond.methodLink RX7 68 yX9_meaningOf ∈ gtb := mg 952 rfl rfl
set_option maxRecDepth 100000 in
theorem w_953 : Cond.methodLink RX7 72 yX9_needOf ∈ gtb := mg 953 rfl rfl
set_option maxRecDepth 100000 in
theorem w_954 : Cond.methodLink RX7 84 yX8_copy ∈ gtb := mg 954 rfl rfl
set_option maxRecDepth 100000 in
theorem w_955 : Cond.methodLink RX11 215 yX3_tryAgain ∈ gtb := mg 955 rfl rfl
set_option maxRecDepth 100000 in
theorem w_956 : Cond.instanceMethod yX3_tryAgain ∈ gtb := mg 956 rfl rfl
set_option maxRecDepth 100000 in
theorem w_957 : Cond.selects RX3 yX3_tryAgain yX3_tryAgain ∈ gtb := mg 957 rfl rfl
set_option maxRecDepth 100000 in
theorem w_958 : Cond.code yX3_tryAgain cX3_tryAgain 9 (some .int) ∈ gtb := mg 958 rfl rfl
set_option maxRecDepth 100000 in
theorem w_959 : Cond.methodLink RX3 134 yX3_shownNext ∈ gtb := mg 959 rfl rfl
set_option maxRecDepth 100000 in
theorem w_961 : Cond.instanceMethod yX3_shownNext ∈ gtb := mg 961 rfl rfl
set_option maxRecDepth 100000 in
theorem w_962 : Cond.code yX3_shownNext cX3_shownNext 5 (some .int) ∈ gtb := mg 962 rfl rfl
set_option maxRecDepth 100000 in
theorem w_963 : Cond.methodLink RX3 137 yX3_goesAgain ∈ gtb := mg 963 rfl rfl
set_option maxRecDepth 100000 in
theorem w_965 : Cond.instanceMethod yX3_goesAgain ∈ gtb := mg 965 rfl rfl
set_option maxRecDepth 100000 in
theorem w_966 : Cond.code yX3_goesAgain cX3_goesAgain 6 (some .boolean) ∈ gtb := mg 966 rfl rfl
set_option maxRecDepth 100000 in
theorem w_967 : Cond.methodLink RX3 146 yX1_begin ∈ gtb := mg 967 rfl rfl
set_option maxRecDepth 100000 in
theorem w_968 : Cond.methodLink RX3 150 yX3_toldAt ∈ gtb := mg 968 rfl rfl
set_option maxRecDepth 100000 in
theorem w_969 : Cond.methodLink RX3 153 yX1_go ∈ gtb := mg 969 rfl rfl
set_option maxRecDepth 100000 in
theorem w_970 : Cond.methodLink RX3 160 yX1_arrived ∈ gtb := mg 970 rfl rfl
set_option maxRecDepth 100000 in
theorem w_971 : Cond.methodLink RX3 141 yJ6_bitCount_0f7a4 ∈ gtb := mg 971 rfl rfl
set_option maxRecDepth 100000 in
theorem w_976 : Cond.methodLink RX11 219 yX11_sought ∈ gtb := mg 976 rfl rfl
set_option maxRecDepth 100000 in
theorem w_978 : Cond.instanceMethod yX11_sought ∈ gtb := mg 978 rfl rfl
set_option maxRecDepth 100000 in
theorem w_979 : Cond.code yX11_sought cX11_sought 5 (some .int) ∈ gtb := mg 979 rfl rfl
set_option maxRecDepth 100000 in
theorem w_980 : Cond.methodLink RX11 229 yX4_run ∈ gtb := mg 980 rfl rfl
set_option maxRecDepth 100000 in
theorem w_981 : Cond.instanceMethod yX4_run ∈ gtb := mg 981 rfl rfl
set_option maxRecDepth 100000 in
theorem w_982 : Cond.selects RX4 yX4_run yX4_run ∈ gtb := mg 982 rfl rfl
set_option maxRecDepth 100000 in
theorem w_983 : Cond.code yX4_run cX4_run 6 (some .int) ∈ gtb := mg 983 rfl rfl
set_option maxRecDepth 100000 in
theorem w_984 : Cond.methodLink RX4 61 yX3_get ∈ gtb := mg 984 rfl rfl
set_option maxRecDepth 100000 in
theorem w_985 : Cond.methodLink RX4 89 yX8_copy ∈ gtb := mg 985 rfl rfl
set_option maxRecDepth 100000 in
theorem w_986 : Cond.methodLink RX4 96 yX4_meet ∈ gtb := mg 986 rfl rfl
set_option maxRecDepth 100000 in
theorem w_988 : Cond.instanceMethod yX4_meet ∈ gtb := mg 988 rfl rfl
set_option maxRecDepth 100000 in
theorem w_989 : Cond.code yX4_meet cX4_meet 9 none ∈ gtb := mg 989 rfl rfl
set_option maxRecDepth 100000 in
theorem w_990 : Cond.methodLink RX4 128 yX8_mark ∈ gtb := mg 990 rfl rfl
set_option maxRecDepth 100000 in
theorem w_991 : Cond.instanceMethod yX8_mark ∈ gtb := mg 991 rfl rfl
set_option maxRecDepth 100000 in
theorem w_992 : Cond.selects RX8 yX8_mark yX8_mark ∈ gtb := mg 992 rfl rfl
set_option maxRecDepth 100000 in
theorem w_993 : Cond.code yX8_mark cX8_mark 3 (some .int) ∈ gtb := mg 993 rfl rfl
set_option maxRecDepth 100000 in
theorem w_994 : Cond.methodLink RX4 132 yX8_same ∈ gtb := mg 994 rfl rfl
set_option maxRecDepth 100000 in
theorem w_995 : Cond.methodLink RX4 100 yX4_isOver ∈ gtb := mg 995 rfl rfl
set_option maxRecDepth 100000 in
theorem w_997 : Cond.instanceMethod yX4_isOver ∈ gtb := mg 997 rfl rfl
set_option maxRecDepth 100000 in
theorem w_998 : Cond.code yX4_isOver cX4_isOver 1 (some .boolean) ∈ gtb := mg 998 rfl rfl
set_option maxRecDepth 100000 in
theorem w_999 : Cond.methodLink RX4 104 yX4_goOn ∈ gtb := mg 999 rfl rfl
set_option maxRecDepth 100000 in
theorem w_1001 : Cond.instanceMethod yX4_goOn ∈ gtb := mg 1001 rfl rfl
set_option maxRecDepth 100000 in
theorem w_1002 : Cond.code yX4_goOn cX4_goOn 4 none ∈ gtb := mg 1002 rfl rfl
set_option maxRecDepth 100000 in
theorem w_1003 : Cond.methodLink RX4 108 yX6_look ∈ gtb := mg 1003 rfl rfl
set_option maxRecDepth 100000 in
theorem w_1004 : Cond.methodLink RX4 116 yX4_tryPlaces ∈ gtb := mg 1004 rfl rfl
set_option maxRecDepth 100000 in
theorem w_1006 : Cond.instanceMethod yX4_tryPlaces ∈ gtb := mg 1006 rfl rfl
set_option maxRecDepth 100000 in
theorem w_1007 : Cond.code yX4_tryPlaces cX4_tryPlaces 7 none ∈ gtb := mg 1007 rfl rfl
set_option maxRecDepth 100000 in
theorem w_1008 : Cond.methodLink RX4 124 yX6_go ∈ gtb := mg 1008 rfl rfl
set_option maxRecDepth 100000 in
theorem w_1013 : Cond.methodLink RX11 225 yX4_layOut ∈ gtb := mg 1013 rfl rfl
set_option maxRecDepth 100000 in
theorem w_1014 : Cond.instanceMethod yX4_layOut ∈ gtb := mg 1014 rfl rfl
set_option maxRecDepth 100000 in
theorem w_1015 : Cond.selects RX4 yX4_layOut yX4_layOut ∈ gtb := mg 1015 rfl rfl
set_option maxRecDepth 100000 in
theorem w_1016 : Cond.code yX4_layOut cX4_layOut 7 none ∈ gtb := mg 1016 rfl rfl
set_option maxRecDepth 100000 in
theorem w_1017 : Cond.methodLink RX4 136 yX1_begin ∈ gtb := mg 1017 rfl rfl
set_option maxRecDepth 100000 in
theorem w_1018 : Cond.methodLink RX4 141 yX1_go ∈ gtb := mg 1018 rfl rfl
set_option maxRecDepth 100000 in
theorem w_1023 : Cond.methodLink RX11 232 yX10_howMany ∈ gtb := mg 1023 rfl rfl
set_option maxRecDepth 100000 in
theorem w_1024 : Cond.instanceMethod yX10_howMany ∈ gtb := mg 1024 rfl rfl
set_option maxRecDepth 100000 in
theorem w_1025 : Cond.selects RX10 yX10_howMany yX10_howMany ∈ gtb := mg 1025 rfl rfl
set_option maxRecDepth 100000 in
theorem w_1026 : Cond.code yX10_howMany cX10_howMany 2 (some .int) ∈ gtb := mg 1026 rfl rfl
set_option maxRecDepth 100000 in
theorem w_1027 : Cond.fieldLink RX10 34 "ShownLibrary$Worlds" "HOW_MANY" "[I" ∈ gtb := mg 1027 rfl rfl
set_option maxRecDepth 100000 in
theorem w_1029 : Cond.methodLink RX11 235 yX10_enter ∈ gtb := mg 1029 rfl rfl
set_option maxRecDepth 100000 in
theorem w_1030 : Cond.instanceMethod yX10_enter ∈ gtb := mg 1030 rfl rfl
set_option maxRecDepth 100000 in
theorem w_1031 : Cond.selects RX10 yX10_enter yX10_enter ∈ gtb := mg 1031 rfl rfl
set_option maxRecDepth 100000 in
theorem w_1032 : Cond.code yX10_enter cX10_enter 5 none ∈ gtb := mg 1032 rfl rfl
set_option maxRecDepth 100000 in
theorem w_1033 : Cond.methodLink RX10 49 yX9_meaningOf ∈ gtb := mg 1033 rfl rfl
set_option maxRecDepth 100000 in
theorem w_1034 : Cond.methodLink RX10 53 yX9_needOf ∈ gtb := mg 1034 rfl rfl
set_option maxRecDepth 100000 in
theorem w_1035 : Cond.methodLink RX10 57 yX10_fillTable ∈ gtb := mg 1035 rfl rfl
set_option maxRecDepth 100000 in
theorem w_1037 : Cond.instanceMethod yX10_fillTable ∈ gtb := mg 1037 rfl rfl
set_option maxRecDepth 100000 in
theorem w_1038 : Cond.code yX10_fillTable cX10_fillTable 7 none ∈ gtb := mg 1038 rfl rfl
set_option maxRecDepth 100000 in
theorem w_1039 : Cond.methodLink RX10 61 yX10_valueOf ∈ gtb := mg 1039 rfl rfl
set_option maxRecDepth 100000 in
theorem w_1041 : Cond.instanceMethod yX10_valueOf ∈ gtb := mg 1041 rfl rfl
set_option maxRecDepth 100000 in
theorem w_1042 : Cond.code yX10_valueOf cX10_valueOf 8 (some .int) ∈ gtb := mg 1042 rfl rfl
set_option maxRecDepth 100000 in
theorem w_1043 : Cond.methodLink RX10 68 yX8_at ∈ gtb := mg 1043 rfl rfl
set_option maxRecDepth 100000 in
theorem w_1044 : Cond.methodLink RX10 71 yX9_behind ∈ gtb := mg 1044 rfl rfl
set_option maxRecDepth 100000 in
theorem w_1045 : Cond.methodLink RX10 74 Lib.Math.max.name ∈ gtb := mg 1045 rfl rfl
set_option maxRecDepth 100000 in
theorem w_1046 : Cond.methodLink RX10 80 yX10_valueAt ∈ gtb := mg 1046 rfl rfl
set_option maxRecDepth 100000 in
theorem w_1048 : Cond.instanceMethod yX10_valueAt ∈ gtb := mg 1048 rfl rfl
set_option maxRecDepth 100000 in
theorem w_1049 : Cond.code yX10_valueAt cX10_valueAt 7 (some .int) ∈ gtb := mg 1049 rfl rfl
set_option maxRecDepth 100000 in
theorem w_1050 : Cond.methodLink RX10 84 yX9_numberOf ∈ gtb := mg 1050 rfl rfl
set_option maxRecDepth 100000 in
theorem w_1051 : Cond.methodLink RX11 239 yX10_isTrue ∈ gtb := mg 1051 rfl rfl
set_option maxRecDepth 100000 in
theorem w_1052 : Cond.instanceMethod yX10_isTrue ∈ gtb := mg 1052 rfl rfl
set_option maxRecDepth 100000 in
theorem w_1053 : Cond.selects RX10 yX10_isTrue yX10_isTrue ∈ gtb := mg 1053 rfl rfl
set_option maxRecDepth 100000 in
theorem w_1054 : Cond.code yX10_isTrue cX10_isTrue 8 (some .boolean) ∈ gtb := mg 1054 rfl rfl
set_option maxRecDepth 100000 in
theorem w_1055 : Cond.methodLink RX10 87 yX10_has ∈ gtb := mg 1055 rfl rfl
set_option maxRecDepth 100000 in
theorem w_1057 : Cond.instanceMethod yX10_has ∈ gtb := mg 1057 rfl rfl
set_option maxRecDepth 100000 in
theorem w_1058 : Cond.code yX10_has cX10_has 4 (some .boolean) ∈ gtb := mg 1058 rfl rfl
set_option maxRecDepth 100000 in
theorem w_1063 : Cond.methodLink RX11 243 yX10_countGrounded ∈ gtb := mg 1063 rfl rfl
set_option maxRecDepth 100000 in
theorem w_1064 : Cond.instanceMethod yX10_countGrounded ∈ gtb := mg 1064 rfl rfl
set_option maxRecDepth 100000 in
theorem w_1065 : Cond.selects RX10 yX10_countGrounded yX10_countGrounded ∈ gtb := mg 1065 rfl rfl
set_option maxRecDepth 100000 in
theorem w_1066 : Cond.code yX10_countGrounded cX10_countGrounded 4 (some .int) ∈ gtb := mg 1066 rfl rfl
set_option maxRecDepth 100000 in
theorem w_1067 : Cond.methodLink RX10 114 yX10_howMany ∈ gtb := mg 1067 rfl rfl
set_option maxRecDepth 100000 in
theorem w_1068 : Cond.methodLink RX10 117 yX10_enter ∈ gtb := mg 1068 rfl rfl
set_option maxRecDepth 100000 in
theorem w_1069 : Cond.methodLink RX10 121 yX10_isGrounded ∈ gtb := mg 1069 rfl rfl
set_option maxRecDepth 100000 in
theorem w_1071 : Cond.instanceMethod yX10_isGrounded ∈ gtb := mg 1071 rfl rfl
set_option maxRecDepth 100000 in
theorem w_1072 : Cond.code yX10_isGrounded cX10_isGrounded 3 (some .boolean) ∈ gtb := mg 1072 rfl rfl
set_option maxRecDepth 100000 in
theorem w_1073 : Cond.methodLink RX10 103 yX3_get ∈ gtb := mg 1073 rfl rfl
set_option maxRecDepth 100000 in
theorem w_1074 : Cond.methodLink RX10 110 yX10_isTrue ∈ gtb := mg 1074 rfl rfl
set_option maxRecDepth 100000 in
theorem w_1075 : Cond.methodLink RX11 246 yX10_leastGrounded ∈ gtb := mg 1075 rfl rfl
set_option maxRecDepth 100000 in
theorem w_1076 : Cond.instanceMethod yX10_leastGrounded ∈ gtb := mg 1076 rfl rfl
set_option maxRecDepth 100000 in
theorem w_1077 : Cond.selects RX10 yX10_leastGrounded yX10_leastGrounded ∈ gtb := mg 1077 rfl rfl
set_option maxRecDepth 100000 in
theorem w_1078 : Cond.code yX10_leastGrounded cX10_leastGrounded 4 (some .int) ∈ gtb := mg 1078 rfl rfl
set_option maxRecDepth 100000 in
theorem w_1087 : Cond.methodLink RX11 250 yX0_begin ∈ gtb := mg 1087 rfl rfl
set_option maxRecDepth 100000 in
theorem w_1088 : Cond.instanceMethod yX0_begin ∈ gtb := mg 1088 rfl rfl
set_option maxRecDepth 100000 in
theorem w_1089 : Cond.selects RX0 yX0_begin yX0_begin ∈ gtb := mg 1089 rfl rfl
set_option maxRecDepth 100000 in
theorem w_1090 : Cond.code yX0_begin cX0_begin 3 (some .boolean) ∈ gtb := mg 1090 rfl rfl
set_option maxRecDepth 100000 in
theorem w_1091 : Cond.methodLink RX0 54 yX0_makeReady ∈ gtb := mg 1091 rfl rfl
set_option maxRecDepth 100000 in
theorem w_1093 : Cond.instanceMethod yX0_makeReady ∈ gtb := mg 1093 rfl rfl
set_option maxRecDepth 100000 in
theorem w_1094 : Cond.code yX0_makeReady cX0_makeReady 5 (some .boolean) ∈ gtb := mg 1094 rfl rfl
set_option maxRecDepth 100000 in
theorem w_1095 : Cond.methodLink RX0 87 yX3_get ∈ gtb := mg 1095 rfl rfl
set_option maxRecDepth 100000 in
theorem w_1096 : Cond.methodLink RX0 94 yX8_copy ∈ gtb := mg 1096 rfl rfl
set_option maxRecDepth 100000 in
theorem w_1097 : Cond.methodLink RX0 98 yX0_putAllIn ∈ gtb := mg 1097 rfl rfl
set_option maxRecDepth 100000 in
theorem w_1099 : Cond.instanceMethod yX0_putAllIn ∈ gtb := mg 1099 rfl rfl
set_option maxRecDepth 100000 in
theorem w_1100 : Cond.code yX0_putAllIn cX0_putAllIn 4 (some .boolean) ∈ gtb := mg 1100 rfl rfl
set_option maxRecDepth 100000 in
theorem w_1101 : Cond.methodLink RX0 101 yX0_firstWord ∈ gtb := mg 1101 rfl rfl
set_option maxRecDepth 100000 in
theorem w_1103 : Cond.instanceMethod yX0_firstWord ∈ gtb := mg 1103 rfl rfl
set_option maxRecDepth 100000 in
theorem w_1104 : Cond.code yX0_firstWord cX0_firstWord 4 (some .int) ∈ gtb := mg 1104 rfl rfl
set_option maxRecDepth 100000 in
theorem w_1105 : Cond.methodLink RX0 109 yX8_at ∈ gtb := mg 1105 rfl rfl
set_option maxRecDepth 100000 in
theorem w_1106 : Cond.methodLink RX0 113 yX9_numberOf ∈ gtb := mg 1106 rfl rfl
set_option maxRecDepth 100000 in
theorem w_1107 : Cond.methodLink RX0 105 yX0_putIn ∈ gtb := mg 1107 rfl rfl
set_option maxRecDepth 100000 in
theorem w_1109 : Cond.instanceMethod yX0_putIn ∈ gtb := mg 1109 rfl rfl
set_option maxRecDepth 100000 in
theorem w_1110 : Cond.code yX0_putIn cX0_putIn 10 (some .boolean) ∈ gtb := mg 1110 rfl rfl
set_option maxRecDepth 100000 in
theorem w_1111 : Cond.methodLink RX0 118 yX9_meaningOf ∈ gtb := mg 1111 rfl rfl
set_option maxRecDepth 100000 in
theorem w_1112 : Cond.methodLink RX0 122 yX9_endOf ∈ gtb := mg 1112 rfl rfl
set_option maxRecDepth 100000 in
theorem w_1113 : Cond.instanceMethod yX9_endOf ∈ gtb := mg 1113 rfl rfl
set_option maxRecDepth 100000 in
theorem w_1114 : Cond.selects RX9 yX9_endOf yX9_endOf ∈ gtb := mg 1114 rfl rfl
set_option maxRecDepth 100000 in
theorem w_1115 : Cond.code yX9_endOf cX9_endOf 5 (some .int) ∈ gtb := mg 1115 rfl rfl
set_option maxRecDepth 100000 in
theorem w_1116 : Cond.methodLink RX0 125 yX9_needOf ∈ gtb := mg 1116 rfl rfl
set_option maxRecDepth 100000 in
theorem w_1117 : Cond.methodLink RX0 128 yX8_addPart ∈ gtb := mg 1117 rfl rfl
set_option maxRecDepth 100000 in
theorem w_1118 : Cond.methodLink RX0 132 yX8_add ∈ gtb := mg 1118 rfl rfl
set_option maxRecDepth 100000 in
theorem w_1119 : Cond.methodLink RX11 253 yX0_isLike ∈ gtb := mg 1119 rfl rfl
set_option maxRecDepth 100000 in
theorem w_1120 : Cond.instanceMethod yX0_isLike ∈ gtb := mg 1120 rfl rfl
set_option maxRecDepth 100000 in
theorem w_1121 : Cond.selects RX0 yX0_isLike yX0_isLike ∈ gtb := mg 1121 rfl rfl
set_option maxRecDepth 100000 in
theorem w_1122 : Cond.code yX0_isLike cX0_isLike 3 (some .boolean) ∈ gtb := mg 1122 rfl rfl
set_option maxRecDepth 100000 in
theorem w_1123 : Cond.methodLink RX0 72 yX0_sortMates ∈ gtb := mg 1123 rfl rfl
set_option maxRecDepth 100000 in
theorem w_1125 : Cond.instanceMethod yX0_sortMates ∈ gtb := mg 1125 rfl rfl
set_option maxRecDepth 100000 in
theorem w_1126 : Cond.code yX0_sortMates cX0_sortMates 6 none ∈ gtb := mg 1126 rfl rfl
set_option maxRecDepth 100000 in
theorem w_1127 : Cond.methodLink RX0 135 Lib.Math.min.name ∈ gtb := mg 1127 rfl rfl
set_option maxRecDepth 100000 in
theorem w_1128 : Cond.methodLink RX0 141 yX9_behind ∈ gtb := mg 1128 rfl rfl
set_option maxRecDepth 100000 in
theorem w_1129 : Cond.methodLink RX0 144 yX0_endAt ∈ gtb := mg 1129 rfl rfl
set_option maxRecDepth 100000 in
theorem w_1131 : Cond.instanceMethod yX0_endAt ∈ gtb := mg 1131 rfl rfl
set_option maxRecDepth 100000 in
theorem w_1132 : Cond.code yX0_endAt cX0_endAt 3 (some .int) ∈ gtb := mg 1132 rfl rfl
set_option maxRecDepth 100000 in
theorem w_1133 : Cond.methodLink RX0 147 yX0_comesLater ∈ gtb := mg 1133 rfl rfl
set_option maxRecDepth 100000 in
theorem w_1135 : Cond.instanceMethod yX0_comesLater ∈ gtb := mg 1135 rfl rfl
set_option maxRecDepth 100000 in
theorem w_1136 : Cond.code yX0_comesLater cX0_comesLater 8 (some .boolean) ∈ gtb := mg 1136 rfl rfl
set_option maxRecDepth 100000 in
theorem w_1137 : Cond.methodLink RX0 151 yX0_changeMates ∈ gtb := mg 1137 rfl rfl
set_option maxRecDepth 100000 in
theorem w_1139 : Cond.instanceMethod yX0_changeMates ∈ gtb := mg 1139 rfl rfl
set_option maxRecDepth 100000 in
theorem w_1140 : Cond.code yX0_changeMates cX0_changeMates 6 none ∈ gtb := mg 1140 rfl rfl
set_option maxRecDepth 100000 in
theorem w_1141 : Cond.methodLink RX0 155 yX8_set ∈ gtb := mg 1141 rfl rfl
set_option maxRecDepth 100000 in
theorem w_1142 : Cond.instanceMethod yX8_set ∈ gtb := mg 1142 rfl rfl
set_option maxRecDepth 100000 in
theorem w_1143 : Cond.selects RX8 yX8_set yX8_set ∈ gtb := mg 1143 rfl rfl
set_option maxRecDepth 100000 in
theorem w_1144 : Cond.code yX8_set cX8_set 3 none ∈ gtb := mg 1144 rfl rfl
set_option maxRecDepth 100000 in
theorem w_1145 : Cond.fieldLink RX0 76 "ShownLibrary$Likeness" "RENAMINGS" "[I" ∈ gtb := mg 1145 rfl rfl
set_option maxRecDepth 100000 in
theorem w_1147 : Cond.methodLink RX0 79 yX0_rename ∈ gtb := mg 1147 rfl rfl
set_option maxRecDepth 100000 in
theorem w_1149 : Cond.instanceMethod yX0_rename ∈ gtb := mg 1149 rfl rfl
set_option maxRecDepth 100000 in
theorem w_1150 : Cond.code yX0_rename cX0_rename 8 none ∈ gtb := mg 1150 rfl rfl
set_option maxRecDepth 100000 in
theorem w_1151 : Cond.methodLink RX0 83 yX8_same ∈ gtb := mg 1151 rfl rfl
set_option maxRecDepth 100000 in
theorem w_1156 : Cond.methodLink RX11 257 yX0_allLike ∈ gtb := mg 1156 rfl rfl
set_option maxRecDepth 100000 in
theorem w_1157 : Cond.instanceMethod yX0_allLike ∈ gtb := mg 1157 rfl rfl
set_option maxRecDepth 100000 in
theorem w_1158 : Cond.selects RX0 yX0_allLike yX0_allLike ∈ gtb := mg 1158 rfl rfl
set_option maxRecDepth 100000 in
theorem w_1159 : Cond.code yX0_allLike cX0_allLike 5 (some .int) ∈ gtb := mg 1159 rfl rfl
set_option maxRecDepth 100000 in
theorem w_1160 : Cond.methodLink RX0 58 yX0_begin ∈ gtb := mg 1160 rfl rfl
set_option maxRecDepth 100000 in
theorem w_1161 : Cond.methodLink RX0 67 yX0_isLike ∈ gtb := mg 1161 rfl rfl
set_option maxRecDepth 100000 in
theorem w_1162 : Cond.methodLink RX11 260 yJ6_numberOfTrailingZeros_0f7a4 ∈ gtb := mg 1162 rfl rfl
set_option maxRecDepth 100000 in
theorem w_1163 : Cond.static yJ6_numberOfTrailingZeros_0f7a4 ∈ gtb := mg 1163 rfl rfl
set_option maxRecDepth 100000 in
theorem w_1164 : Cond.code yJ6_numberOfTrailingZeros_0f7a4 cJ6_numberOfTrailingZeros_0f7a4 2 (some .int) ∈ gtb := mg 1164 rfl rfl
set_option maxRecDepth 100000 in
theorem w_1165 : Cond.constant RJ6 264 (q32 (65536)) ∈ gtb := mg 1165 rfl rfl
set_option maxRecDepth 100000 in
theorem w_1170 : Cond.methodLink RX11 264 yX3_lessonAt ∈ gtb := mg 1170 rfl rfl
set_option maxRecDepth 100000 in
theorem w_1171 : Cond.instanceMethod yX3_lessonAt ∈ gtb := mg 1171 rfl rfl
set_option maxRecDepth 100000 in
theorem w_1172 : Cond.selects RX3 yX3_lessonAt yX3_lessonAt ∈ gtb := mg 1172 rfl rfl
set_option maxRecDepth 100000 in
theorem w_1173 : Cond.code yX3_lessonAt cX3_lessonAt 6 (some .int) ∈ gtb := mg 1173 rfl rfl
set_option maxRecDepth 100000 in
theorem w_1174 : Cond.methodLink RX3 164 yX3_lessonNext ∈ gtb := mg 1174 rfl rfl
set_option maxRecDepth 100000 in
theorem w_1176 : Cond.instanceMethod yX3_lessonNext ∈ gtb := mg 1176 rfl rfl
set_option maxRecDepth 100000 in
theorem w_1177 : Cond.code yX3_lessonNext cX3_lessonNext 3 (some .int) ∈ gtb := mg 1177 rfl rfl
set_option maxRecDepth 100000 in
theorem w_1182 : Cond.methodLink RX11 267 yX5_isSheet ∈ gtb := mg 1182 rfl rfl
set_option maxRecDepth 100000 in
theorem w_1183 : Cond.instanceMethod yX5_isSheet ∈ gtb := mg 1183 rfl rfl
set_option maxRecDepth 100000 in
theorem w_1184 : Cond.selects RX5 yX5_isSheet yX5_isSheet ∈ gtb := mg 1184 rfl rfl
set_option maxRecDepth 100000 in
theorem w_1185 : Cond.code yX5_isSheet cX5_isSheet 2 (some .boolean) ∈ gtb := mg 1185 rfl rfl
set_option maxRecDepth 100000 in
theorem w_1186 : Cond.methodLink RX11 270 yX5_isLane ∈ gtb := mg 1186 rfl rfl
set_option maxRecDepth 100000 in
theorem w_1187 : Cond.instanceMethod yX5_isLane ∈ gtb := mg 1187 rfl rfl
set_option maxRecDepth 100000 in
theorem w_1188 : Cond.selects RX5 yX5_isLane yX5_isLane ∈ gtb := mg 1188 rfl rfl
set_option maxRecDepth 100000 in
theorem w_1189 : Cond.code yX5_isLane cX5_isLane 2 (some .boolean) ∈ gtb := mg 1189 rfl rfl
set_option maxRecDepth 100000 in
theorem w_1190 : Cond.methodLink RX11 273 yX5_renew ∈ gtb := mg 1190 rfl rfl
set_option maxRecDepth 100000 in
theorem w_1191 : Cond.instanceMethod yX5_renew ∈ gtb := mg 1191 rfl rfl
set_option maxRecDepth 100000 in
theorem w_1192 : Cond.selects RX5 yX5_renew yX5_renew ∈ gtb := mg 1192 rfl rfl
set_option maxRecDepth 100000 in
theorem w_1193 : Cond.code yX5_renew cX5_renew 5 (some .int) ∈ gtb := mg 1193 rfl rfl
set_option maxRecDepth 100000 in
theorem w_1194 : Cond.methodLink RX5 23 yX5_isSheet ∈ gtb := mg 1194 rfl rfl
set_option maxRecDepth 100000 in
theorem w_1199 : Cond.methodLink RX11 276 yX5_write ∈ gtb := mg 1199 rfl rfl
set_option maxRecDepth 100000 in
theorem w_1200 : Cond.instanceMethod yX5_write ∈ gtb := mg 1200 rfl rfl
set_option maxRecDepth 100000 in
theorem w_1201 : Cond.selects RX5 yX5_write yX5_write ∈ gtb := mg 1201 rfl rfl
set_option maxRecDepth 100000 in
theorem w_1202 : Cond.code yX5_write cX5_write 4 (some .int) ∈ gtb := mg 1202 rfl rfl
set_option maxRecDepth 100000 in
theorem w_1203 : Cond.methodLink RX5 27 yX5_lowest ∈ gtb := mg 1203 rfl rfl
set_option maxRecDepth 100000 in
theorem w_1205 : Cond.instanceMethod yX5_lowest ∈ gtb := mg 1205 rfl rfl
set_option maxRecDepth 100000 in
theorem w_1206 : Cond.code yX5_lowest cX5_lowest 3 (some .int) ∈ gtb := mg 1206 rfl rfl
set_option maxRecDepth 100000 in
theorem w_1211 : Cond.methodLink RX11 279 yX5_faultOf ∈ gtb := mg 1211 rfl rfl
set_option maxRecDepth 100000 in
theorem w_1212 : Cond.instanceMethod yX5_faultOf ∈ gtb := mg 1212 rfl rfl
set_option maxRecDepth 100000 in
theorem w_1213 : Cond.selects RX5 yX5_faultOf yX5_faultOf ∈ gtb := mg 1213 rfl rfl
set_option maxRecDepth 100000 in
theorem w_1214 : Cond.code yX5_faultOf cX5_faultOf 6 (some .int) ∈ gtb := mg 1214 rfl rfl
set_option maxRecDepth 100000 in
theorem w_1215 : Cond.methodLink RX5 31 yX5_cellsOf ∈ gtb := mg 1215 rfl rfl
set_option maxRecDepth 100000 in
theorem w_1216 : Cond.instanceMethod yX5_cellsOf ∈ gtb := mg 1216 rfl rfl
set_option maxRecDepth 100000 in
theorem w_1217 : Cond.selects RX5 yX5_cellsOf yX5_cellsOf ∈ gtb := mg 1217 rfl rfl
set_option maxRecDepth 100000 in
theorem w_1218 : Cond.code yX5_cellsOf cX5_cellsOf 2 (some .int) ∈ gtb := mg 1218 rfl rfl
set_option maxRecDepth 100000 in
theorem w_1219 : Cond.methodLink RX11 283 yX11_goBySheet ∈ gtb := mg 1219 rfl rfl
set_option maxRecDepth 100000 in
theorem w_1221 : Cond.instanceMethod yX11_goBySheet ∈ gtb := mg 1221 rfl rfl
set_option maxRecDepth 100000 in
theorem w_1222 : Cond.code yX11_goBySheet cX11_goBySheet 9 (some .int) ∈ gtb := mg 1222 rfl rfl
set_option maxRecDepth 100000 in
theorem w_1223 : Cond.methodLink RX11 297 yX5_cell ∈ gtb := mg 1223 rfl rfl
set_option maxRecDepth 100000 in
theorem w_1224 : Cond.instanceMethod yX5_cell ∈ gtb := mg 1224 rfl rfl
set_option maxRecDepth 100000 in
theorem w_1225 : Cond.selects RX5 yX5_cell yX5_cell ∈ gtb := mg 1225 rfl rfl
set_option maxRecDepth 100000 in
theorem w_1226 : Cond.code yX5_cell cX5_cell 3 (some .int) ∈ gtb := mg 1226 rfl rfl
set_option maxRecDepth 100000 in
theorem w_1231 : Cond.methodLink RX11 290 yX5_cellsOf ∈ gtb := mg 1231 rfl rfl
set_option maxRecDepth 100000 in
theorem w_1238 : Cond.fieldLink RX12 191 "ShownLibraryModel" "words" "I" ∈ gtb := mg 1238 rfl rfl
set_option maxRecDepth 100000 in
theorem w_1239 : Cond.fieldLink RX12 7 "ShownLibraryModel" "wLetter" "[I" ∈ gtb := mg 1239 rfl rfl
set_option maxRecDepth 100000 in
theorem w_1240 : Cond.fieldLink RX12 13 "ShownLibraryModel" "wHas" "[I" ∈ gtb := mg 1240 rfl rfl
set_option maxRecDepth 100000 in
theorem w_1241 : Cond.fieldLink RX12 16 "ShownLibraryModel" "wLong" "[I" ∈ gtb := mg 1241 rfl rfl
set_option maxRecDepth 100000 in
theorem w_1242 : Cond.fieldLink RX12 19 "ShownLibraryModel" "meaning" "[I" ∈ gtb := mg 1242 rfl rfl
set_option maxRecDepth 100000 in
theorem w_1243 : Cond.fieldLink RX12 184 "ShownLibraryModel" "sayings" "I" ∈ gtb := mg 1243 rfl rfl
set_option maxRecDepth 100000 in
theorem w_1244 : Cond.fieldLink RX12 22 "ShownLibraryModel" "side" "[I" ∈ gtb := mg 1244 rfl rfl
set_option maxRecDepth 100000 in
theorem w_1245 : Cond.fieldLink RX12 25 "ShownLibraryModel" "sideLong" "[I" ∈ gtb := mg 1245 rfl rfl
set_option maxRecDepth 100000 in
theorem w_1246 : Cond.fieldLink RX12 28 "ShownLibraryModel" "state" "[I" ∈ gtb := mg 1246 rfl rfl
set_option maxRecDepth 100000 in
theorem w_1247 : Cond.fieldLink RX12 31 "ShownLibraryModel" "hands" "[I" ∈ gtb := mg 1247 rfl rfl
set_option maxRecDepth 100000 in
theorem w_1248 : Cond.fieldLink RX12 34 "ShownLibraryModel" "cameOn" "[I" ∈ gtb := mg 1248 rfl rfl
set_option maxRecDepth 100000 in
theorem w_1249 : Cond.fieldLink RX12 37 "ShownLibraryModel" "proofAt" "[I" ∈ gtb := mg 1249 rfl rfl
set_option maxRecDepth 100000 in
theorem w_1250 : Cond.fieldLink RX12 40 "ShownLibraryModel" "proofLong" "[I" ∈ gtb := mg 1250 rfl rfl
set_option maxRecDepth 100000 in
theorem w_1251 : Cond.fieldLink RX12 43 "ShownLibraryModel" "brokenAt" "[I" ∈ gtb := mg 1251 rfl rfl
set_option maxRecDepth 100000 in
theorem w_1252 : Cond.fieldLink RX12 46 "ShownLibraryModel" "shownAs" "[I" ∈ gtb := mg 1252 rfl rfl
set_option maxRecDepth 100000 in
theorem w_1253 : Cond.fieldLink RX12 375 "ShownLibraryModel" "shownMany" "I" ∈ gtb := mg 1253 rfl rfl
set_option maxRecDepth 100000 in
theorem w_1254 : Cond.fieldLink RX12 372 "ShownLibraryModel" "pool" "I" ∈ gtb := mg 1254 rfl rfl
set_option maxRecDepth 100000 in
theorem w_1255 : Cond.fieldLink RX12 49 "ShownLibraryModel" "kinds" "[I" ∈ gtb := mg 1255 rfl rfl
set_option maxRecDepth 100000 in
theorem w_1256 : Cond.fieldLink RX12 52 "ShownLibraryModel" "whiches" "[I" ∈ gtb := mg 1256 rfl rfl
set_option maxRecDepth 100000 in
theorem w_1257 : Cond.fieldLink RX12 55 "ShownLibraryModel" "places" "[I" ∈ gtb := mg 1257 rfl rfl
set_option maxRecDepth 100000 in
theorem w_1258 : Cond.fieldLink RX12 58 "ShownLibraryModel" "became" "[I" ∈ gtb := mg 1258 rfl rfl
set_option maxRecDepth 100000 in
theorem w_1259 : Cond.fieldLink RX12 273 "ShownLibraryModel" "hand" "I" ∈ gtb := mg 1259 rfl rfl
set_option maxRecDepth 100000 in
theorem w_1260 : Cond.fieldLink RX12 276 "ShownLibraryModel" "day" "I" ∈ gtb := mg 1260 rfl rfl
set_option maxRecDepth 100000 in
theorem w_1261 : Cond.fieldLink RX12 174 "ShownLibraryModel" "seenWords" "I" ∈ gtb := mg 1261 rfl rfl
set_option maxRecDepth 100000 in
theorem w_1262 : Cond.fieldLink RX12 61 "ShownLibraryModel" "tape" "[I" ∈ gtb := mg 1262 rfl rfl
set_option maxRecDepth 100000 in
theorem w_1263 : Cond.fieldLink RX12 194 "ShownLibraryModel" "taped" "I" ∈ gtb := mg 1263 rfl rfl
set_option maxRecDepth 100000 in
theorem w_1264 : Cond.fieldLink RX12 208 "ShownLibraryModel" "pos" "I" ∈ gtb := mg 1264 rfl rfl
set_option maxRecDepth 100000 in
theorem w_1265 : Cond.fieldLink RX12 202 "ShownLibraryModel" "from" "I" ∈ gtb := mg 1265 rfl rfl
set_option maxRecDepth 100000 in
theorem w_1266 : Cond.fieldLink RX12 214 "ShownLibraryModel" "sort" "I" ∈ gtb := mg 1266 rfl rfl
set_option maxRecDepth 100000 in
theorem w_1267 : Cond.fieldLink RX12 225 "ShownLibraryModel" "value" "I" ∈ gtb := mg 1267 rfl rfl
set_option maxRecDepth 100000 in
theorem w_1268 : Cond.fieldLink RX12 199 "ShownLibraryModel" "fault" "I" ∈ gtb := mg 1268 rfl rfl
set_option maxRecDepth 100000 in
theorem w_1269 : Cond.fieldLink RX12 205 "ShownLibraryModel" "wrongAt" "I" ∈ gtb := mg 1269 rfl rfl
set_option maxRecDepth 100000 in
theorem w_1270 : Cond.fieldLink RX12 64 "ShownLibraryModel" "readRow" "[I" ∈ gtb := mg 1270 rfl rfl
set_option maxRecDepth 100000 in
theorem w_1271 : Cond.fieldLink RX12 235 "ShownLibraryModel" "readLong" "I" ∈ gtb := mg 1271 rfl rfl
set_option maxRecDepth 100000 in
theorem w_1272 : Cond.fieldLink RX12 254 "ShownLibraryModel" "seenSayings" "I" ∈ gtb := mg 1272 rfl rfl
set_option maxRecDepth 100000 in
theorem w_1273 : Cond.fieldLink RX12 67 "ShownLibraryModel" "term" "[I" ∈ gtb := mg 1273 rfl rfl
set_option maxRecDepth 100000 in
theorem w_1274 : Cond.fieldLink RX12 311 "ShownLibraryModel" "termLong" "I" ∈ gtb := mg 1274 rfl rfl
set_option maxRecDepth 100000 in
theorem w_1275 : Cond.fieldLink RX12 70 "ShownLibraryModel" "then" "[I" ∈ gtb := mg 1275 rfl rfl
set_option maxRecDepth 100000 in
theorem w_1276 : Cond.fieldLink RX12 324 "ShownLibraryModel" "thenLong" "I" ∈ gtb := mg 1276 rfl rfl
set_option maxRecDepth 100000 in
theorem w_1277 : Cond.fieldLink RX12 73 "ShownLibraryModel" "nameAt" "[I" ∈ gtb := mg 1277 rfl rfl
set_option maxRecDepth 100000 in
theorem w_1278 : Cond.fieldLink RX12 76 "ShownLibraryModel" "nameLong" "[I" ∈ gtb := mg 1278 rfl rfl
set_option maxRecDepth 100000 in
theorem w_1279 : Cond.fieldLink RX12 79 "ShownLibraryModel" "pattern" "[I" ∈ gtb := mg 1279 rfl rfl
set_option maxRecDepth 100000 in
theorem w_1280 : Cond.fieldLink RX12 314 "ShownLibraryModel" "patternLong" "I" ∈ gtb := mg 1280 rfl rfl
set_option maxRecDepth 100000 in
theorem w_1281 : Cond.fieldLink RX12 82 "ShownLibraryModel" "instead" "[I" ∈ gtb := mg 1281 rfl rfl
set_option maxRecDepth 100000 in
theorem w_1282 : Cond.fieldLink RX12 321 "ShownLibraryModel" "insteadLong" "I" ∈ gtb := mg 1282 rfl rfl
set_option maxRecDepth 100000 in
theorem w_1283 : Cond.fieldLink RX12 85 "ShownLibraryModel" "proving" "I" ∈ gtb := mg 1283 rfl rfl
set_option maxRecDepth 100000 in
theorem w_1284 : Cond.fieldLink RX12 358 "ShownLibraryModel" "stepMany" "I" ∈ gtb := mg 1284 rfl rfl
set_option maxRecDepth 100000 in
theorem w_1285 : Cond.fieldLink RX12 89 "ShownLibraryModel" "hKind" "[I" ∈ gtb := mg 1285 rfl rfl
set_option maxRecDepth 100000 in
theorem w_1286 : Cond.fieldLink RX12 92 "ShownLibraryModel" "hWhich" "[I" ∈ gtb := mg 1286 rfl rfl
set_option maxRecDepth 100000 in
theorem w_1287 : Cond.fieldLink RX12 95 "ShownLibraryModel" "hPlace" "[I" ∈ gtb := mg 1287 rfl rfl
set_option maxRecDepth 100000 in
theorem w_1288 : Cond.fieldLink RX12 98 "ShownLibraryModel" "isTried" "[Z" ∈ gtb := mg 1288 rfl rfl
set_option maxRecDepth 100000 in
theorem w_1289 : Cond.fieldLink RX12 102 "ShownLibraryModel" "met" "[I" ∈ gtb := mg 1289 rfl rfl
set_option maxRecDepth 100000 in
theorem w_1290 : Cond.fieldLink RX12 105 "ShownLibraryModel" "metLong" "[I" ∈ gtb := mg 1290 rfl rfl
set_option maxRecDepth 100000 in
theorem w_1291 : Cond.fieldLink RX12 108 "ShownLibraryModel" "metFrom" "[I" ∈ gtb := mg 1291 rfl rfl
set_option maxRecDepth 100000 in
theorem w_1292 : Cond.fieldLink RX12 111 "ShownLibraryModel" "metDeep" "[I" ∈ gtb := mg 1292 rfl rfl
set_option maxRecDepth 100000 in
theorem w_1293 : Cond.fieldLink RX12 114 "ShownLibraryModel" "metKind" "[I" ∈ gtb := mg 1293 rfl rfl
set_option maxRecDepth 100000 in
theorem w_1294 : Cond.fieldLink RX12 117 "ShownLibraryModel" "metWhich" "[I" ∈ gtb := mg 1294 rfl rfl
set_option maxRecDepth 100000 in
theorem w_1295 : Cond.fieldLink RX12 120 "ShownLibraryModel" "metPlace" "[I" ∈ gtb := mg 1295 rfl rfl
set_option maxRecDepth 100000 in
theorem w_1296 : Cond.fieldLink RX12 123 "ShownLibraryModel" "metNext" "[I" ∈ gtb := mg 1296 rfl rfl
set_option maxRecDepth 100000 in
theorem w_1297 : Cond.fieldLink RX12 126 "ShownLibraryModel" "heads" "[I" ∈ gtb := mg 1297 rfl rfl
set_option maxRecDepth 100000 in
theorem w_1298 : Cond.fieldLink RX12 387 "ShownLibraryModel" "metMany" "I" ∈ gtb := mg 1298 rfl rfl
set_option maxRecDepth 100000 in
theorem w_1299 : Cond.fieldLink RX12 390 "ShownLibraryModel" "foundAt" "I" ∈ gtb := mg 1299 rfl rfl
set_option maxRecDepth 100000 in
theorem w_1300 : Cond.fieldLink RX12 393 "ShownLibraryModel" "isSpent" "Z" ∈ gtb := mg 1300 rfl rfl
set_option maxRecDepth 100000 in
theorem w_1301 : Cond.fieldLink RX12 422 "ShownLibraryModel" "things" "I" ∈ gtb := mg 1301 rfl rfl
set_option maxRecDepth 100000 in
theorem w_1302 : Cond.fieldLink RX12 425 "ShownLibraryModel" "nought" "I" ∈ gtb := mg 1302 rfl rfl
set_option maxRecDepth 100000 in
theorem w_1303 : Cond.fieldLink RX12 129 "ShownLibraryModel" "table" "[I" ∈ gtb := mg 1303 rfl rfl
set_option maxRecDepth 100000 in
theorem w_1304 : Cond.fieldLink RX12 132 "ShownLibraryModel" "wordTable" "[I" ∈ gtb := mg 1304 rfl rfl
set_option maxRecDepth 100000 in
theorem w_1305 : Cond.fieldLink RX12 135 "ShownLibraryModel" "stack" "[I" ∈ gtb := mg 1305 rfl rfl
set_option maxRecDepth 100000 in
theorem w_1306 : Cond.fieldLink RX12 279 "ShownLibraryModel" "isWeighed" "Z" ∈ gtb := mg 1306 rfl rfl
set_option maxRecDepth 100000 in
theorem w_1307 : Cond.fieldLink RX12 138 "ShownLibraryModel" "goodOne" "[Z" ∈ gtb := mg 1307 rfl rfl
set_option maxRecDepth 100000 in
theorem w_1308 : Cond.fieldLink RX12 141 "ShownLibraryModel" "goodTwo" "[Z" ∈ gtb := mg 1308 rfl rfl
set_option maxRecDepth 100000 in
theorem w_1309 : Cond.fieldLink RX12 144 "ShownLibraryModel" "wide" "[I" ∈ gtb := mg 1309 rfl rfl
set_option maxRecDepth 100000 in
theorem w_1310 : Cond.fieldLink RX12 147 "ShownLibraryModel" "wideLong" "[I" ∈ gtb := mg 1310 rfl rfl
set_option maxRecDepth 100000 in
theorem w_1311 : Cond.fieldLink RX12 150 "ShownLibraryModel" "row" "[I" ∈ gtb := mg 1311 rfl rfl
set_option maxRecDepth 100000 in
theorem w_1312 : Cond.fieldLink RX12 453 "ShownLibraryModel" "rowLong" "I" ∈ gtb := mg 1312 rfl rfl
set_option maxRecDepth 100000 in
theorem w_1313 : Cond.fieldLink RX12 153 "ShownLibraryModel" "built" "[I" ∈ gtb := mg 1313 rfl rfl
set_option maxRecDepth 100000 in
theorem w_1314 : Cond.fieldLink RX12 450 "ShownLibraryModel" "builtLong" "I" ∈ gtb := mg 1314 rfl rfl
set_option maxRecDepth 100000 in
theorem w_1315 : Cond.fieldLink RX12 156 "ShownLibraryModel" "tidied" "[I" ∈ gtb := mg 1315 rfl rfl
set_option maxRecDepth 100000 in
theorem w_1316 : Cond.fieldLink RX12 159 "ShownLibraryModel" "spare" "[I" ∈ gtb := mg 1316 rfl rfl
set_option maxRecDepth 100000 in
theorem w_1317 : Cond.fieldLink RX12 162 "ShownLibraryModel" "kept" "[I" ∈ gtb := mg 1317 rfl rfl
set_option maxRecDepth 100000 in
theorem w_1318 : Cond.fieldLink RX12 165 "ShownLibraryModel" "lanes" "[I" ∈ gtb := mg 1318 rfl rfl
set_option maxRecDepth 100000 in
theorem w_1319 : Cond.fieldLink RX12 168 "ShownLibraryModel" "sizes" "[I" ∈ gtb := mg 1319 rfl rfl
set_option maxRecDepth 100000 in
theorem w_1320 : Cond.fieldLink RX12 171 "ShownLibraryModel" "cells" "[I" ∈ gtb := mg 1320 rfl rfl
set_option maxRecDepth 100000 in
theorem w_1493 : Cond.constantLong RX12 197 (q64 (255)) ∈ gtb := mg 1493 rfl rfl
set_option maxRecDepth 100000 in
theorem w_1498 : Cond.methodLink RX12 187 yX12_in ∈ gtb := mg 1498 rfl rfl
set_option maxRecDepth 100000 in
theorem w_1499 : Cond.static yX12_in ∈ gtb := mg 1499 rfl rfl
set_option maxRecDepth 100000 in
theorem w_1500 : Cond.code yX12_in cX12_in 6 (some .boolean) ∈ gtb := mg 1500 rfl rfl
set_option maxRecDepth 100000 in
theorem w_1505 : Cond.methodLink RX12 232 yX12_next ∈ gtb := mg 1505 rfl rfl
set_option maxRecDepth 100000 in
theorem w_1507 : Cond.instanceMethod yX12_next ∈ gtb := mg 1507 rfl rfl
set_option maxRecDepth 100000 in
theorem w_1508 : Cond.code yX12_next cX12_next 2 none ∈ gtb := mg 1508 rfl rfl
set_option maxRecDepth 100000 in
theorem w_1509 : Cond.methodLink RX12 211 yX12_look ∈ gtb := mg 1509 rfl rfl
set_option maxRecDepth 100000 in
theorem w_1511 : Cond.instanceMethod yX12_look ∈ gtb := mg 1511 rfl rfl
set_option maxRecDepth 100000 in
theorem w_1512 : Cond.code yX12_look cX12_look 2 (some .int) ∈ gtb := mg 1512 rfl rfl
set_option maxRecDepth 100000 in
theorem w_1513 : Cond.constantLong RX12 217 (q64 (97)) ∈ gtb := mg 1513 rfl rfl
set_option maxRecDepth 100000 in
theorem w_1514 : Cond.constantLong RX12 219 (q64 (122)) ∈ gtb := mg 1514 rfl rfl
set_option maxRecDepth 100000 in
theorem w_1515 : Cond.constantLong RX12 221 (q64 (48)) ∈ gtb := mg 1515 rfl rfl
set_option maxRecDepth 100000 in
theorem w_1516 : Cond.constantLong RX12 223 (q64 (57)) ∈ gtb := mg 1516 rfl rfl
set_option maxRecDepth 100000 in
theorem w_1517 : Cond.methodLink RX12 228 yX12_wants ∈ gtb := mg 1517 rfl rfl
set_option maxRecDepth 100000 in
theorem w_1519 : Cond.instanceMethod yX12_wants ∈ gtb := mg 1519 rfl rfl
set_option maxRecDepth 100000 in
theorem w_1520 : Cond.code yX12_wants cX12_wants 3 none ∈ gtb := mg 1520 rfl rfl
set_option maxRecDepth 100000 in
theorem w_1521 : Cond.methodLink RX12 263 yX12_isRow ∈ gtb := mg 1521 rfl rfl
set_option maxRecDepth 100000 in
theorem w_1523 : Cond.instanceMethod yX12_isRow ∈ gtb := mg 1523 rfl rfl
set_option maxRecDepth 100000 in
theorem w_1524 : Cond.code yX12_isRow cX12_isRow 6 (some .boolean) ∈ gtb := mg 1524 rfl rfl
set_option maxRecDepth 100000 in
theorem w_1525 : Cond.methodLink RX12 267 yX12_readWord ∈ gtb := mg 1525 rfl rfl
set_option maxRecDepth 100000 in
theorem w_1527 : Cond.instanceMethod yX12_readWord ∈ gtb := mg 1527 rfl rfl
set_option maxRecDepth 100000 in
theorem w_1528 : Cond.code yX12_readWord cX12_readWord 4 none ∈ gtb := mg 1528 rfl rfl
set_option maxRecDepth 100000 in
theorem w_1529 : Cond.constantLong RX12 242 (q64 (100)) ∈ gtb := mg 1529 rfl rfl
set_option maxRecDepth 100000 in
theorem w_1530 : Cond.methodLink RX12 177 yX12_wordBy ∈ gtb := mg 1530 rfl rfl
set_option maxRecDepth 100000 in
theorem w_1532 : Cond.instanceMethod yX12_wordBy ∈ gtb := mg 1532 rfl rfl
set_option maxRecDepth 100000 in
theorem w_1533 : Cond.code yX12_wordBy cX12_wordBy 4 (some .int) ∈ gtb := mg 1533 rfl rfl
set_option maxRecDepth 100000 in
theorem w_1534 : Cond.constantLong RX12 244 (q64 (2)) ∈ gtb := mg 1534 rfl rfl
set_option maxRecDepth 100000 in
theorem w_1535 : Cond.methodLink RX12 246 yX12_readTerm ∈ gtb := mg 1535 rfl rfl
set_option maxRecDepth 100000 in
theorem w_1537 : Cond.instanceMethod yX12_readTerm ∈ gtb := mg 1537 rfl rfl
set_option maxRecDepth 100000 in
theorem w_1538 : Cond.code yX12_readTerm cX12_readTerm 7 none ∈ gtb := mg 1538 rfl rfl
set_option maxRecDepth 100000 in
theorem w_1539 : Cond.methodLink RX12 238 yX12_endAt ∈ gtb := mg 1539 rfl rfl
set_option maxRecDepth 100000 in
theorem w_1541 : Cond.instanceMethod yX12_endAt ∈ gtb := mg 1541 rfl rfl
set_option maxRecDepth 100000 in
theorem w_1542 : Cond.code yX12_endAt cX12_endAt 7 (some .int) ∈ gtb := mg 1542 rfl rfl
set_option maxRecDepth 100000 in
theorem w_1543 : Cond.methodLink RX12 181 yX12_has ∈ gtb := mg 1543 rfl rfl
set_option maxRecDepth 100000 in
theorem w_1545 : Cond.instanceMethod yX12_has ∈ gtb := mg 1545 rfl rfl
set_option maxRecDepth 100000 in
theorem w_1546 : Cond.code yX12_has cX12_has 3 (some .int) ∈ gtb := mg 1546 rfl rfl
set_option maxRecDepth 100000 in
theorem w_1547 : Cond.methodLink RX12 250 yX12_keepsMeaning ∈ gtb := mg 1547 rfl rfl
set_option maxRecDepth 100000 in
theorem w_1549 : Cond.instanceMethod yX12_keepsMeaning ∈ gtb := mg 1549 rfl rfl
set_option maxRecDepth 100000 in
theorem w_1550 : Cond.code yX12_keepsMeaning cX12_keepsMeaning 3 none ∈ gtb := mg 1550 rfl rfl
set_option maxRecDepth 100000 in
theorem w_1551 : Cond.methodLink RX12 270 yX12_readSaying ∈ gtb := mg 1551 rfl rfl
set_option maxRecDepth 100000 in
theorem w_1553 : Cond.instanceMethod yX12_readSaying ∈ gtb := mg 1553 rfl rfl
set_option maxRecDepth 100000 in
theorem w_1554 : Cond.code yX12_readSaying cX12_readSaying 2 none ∈ gtb := mg 1554 rfl rfl
set_option maxRecDepth 100000 in
theorem w_1555 : Cond.methodLink RX12 257 yX12_keepsSide ∈ gtb := mg 1555 rfl rfl
set_option maxRecDepth 100000 in
theorem w_1557 : Cond.instanceMethod yX12_keepsSide ∈ gtb := mg 1557 rfl rfl
set_option maxRecDepth 100000 in
theorem w_1558 : Cond.code yX12_keepsSide cX12_keepsSide 4 none ∈ gtb := mg 1558 rfl rfl
set_option maxRecDepth 100000 in
theorem w_1559 : Cond.methodLink RX12 260 yX12_readSign ∈ gtb := mg 1559 rfl rfl
set_option maxRecDepth 100000 in
theorem w_1561 : Cond.instanceMethod yX12_readSign ∈ gtb := mg 1561 rfl rfl
set_option maxRecDepth 100000 in
theorem w_1562 : Cond.code yX12_readSign cX12_readSign 2 none ∈ gtb := mg 1562 rfl rfl
set_option maxRecDepth 100000 in
theorem w_1571 : Cond.constantLong RX12 283 (q64 (9)) ∈ gtb := mg 1571 rfl rfl
set_option maxRecDepth 100000 in
theorem w_1576 : Cond.constantLong RX12 285 (q64 (999)) ∈ gtb := mg 1576 rfl rfl
set_option maxRecDepth 100000 in
theorem w_1581 : Cond.methodLink RX12 287 yX12_isSaying ∈ gtb := mg 1581 rfl rfl
set_option maxRecDepth 100000 in
theorem w_1583 : Cond.instanceMethod yX12_isSaying ∈ gtb := mg 1583 rfl rfl
set_option maxRecDepth 100000 in
theorem w_1584 : Cond.code yX12_isSaying cX12_isSaying 2 (some .boolean) ∈ gtb := mg 1584 rfl rfl
set_option maxRecDepth 100000 in
theorem w_1585 : Cond.constantLong RX12 291 (q64 (8)) ∈ gtb := mg 1585 rfl rfl
set_option maxRecDepth 100000 in
theorem w_1586 : Cond.methodLink RX12 293 yX12_leansOf ∈ gtb := mg 1586 rfl rfl
set_option maxRecDepth 100000 in
theorem w_1588 : Cond.instanceMethod yX12_leansOf ∈ gtb := mg 1588 rfl rfl
set_option maxRecDepth 100000 in
theorem w_1589 : Cond.code yX12_leansOf cX12_leansOf 5 (some .int) ∈ gtb := mg 1589 rfl rfl
set_option maxRecDepth 100000 in
theorem w_1590 : Cond.methodLink RX12 355 yX12_usesOf ∈ gtb := mg 1590 rfl rfl
set_option maxRecDepth 100000 in
theorem w_1592 : Cond.instanceMethod yX12_usesOf ∈ gtb := mg 1592 rfl rfl
set_option maxRecDepth 100000 in
theorem w_1593 : Cond.code yX12_usesOf cX12_usesOf 4 (some .int) ∈ gtb := mg 1593 rfl rfl
set_option maxRecDepth 100000 in
theorem w_1594 : Cond.methodLink RX12 296 yX12_bits ∈ gtb := mg 1594 rfl rfl
set_option maxRecDepth 100000 in
theorem w_1595 : Cond.static yX12_bits ∈ gtb := mg 1595 rfl rfl
set_option maxRecDepth 100000 in
theorem w_1596 : Cond.code yX12_bits cX12_bits 3 (some .int) ∈ gtb := mg 1596 rfl rfl
set_option maxRecDepth 100000 in
theorem w_1597 : Cond.methodLink RX12 299 yX12_leaning ∈ gtb := mg 1597 rfl rfl
set_option maxRecDepth 100000 in
theorem w_1599 : Cond.instanceMethod yX12_leaning ∈ gtb := mg 1599 rfl rfl
set_option maxRecDepth 100000 in
theorem w_1600 : Cond.code yX12_leaning cX12_leaning 4 (some .int) ∈ gtb := mg 1600 rfl rfl
set_option maxRecDepth 100000 in
theorem w_1609 : Cond.methodLink RX12 302 yX12_isWord ∈ gtb := mg 1609 rfl rfl
set_option maxRecDepth 100000 in
theorem w_1611 : Cond.instanceMethod yX12_isWord ∈ gtb := mg 1611 rfl rfl
set_option maxRecDepth 100000 in
theorem w_1612 : Cond.code yX12_isWord cX12_isWord 2 (some .boolean) ∈ gtb := mg 1612 rfl rfl
set_option maxRecDepth 100000 in
theorem w_1613 : Cond.constantLong RX12 305 (q64 (10)) ∈ gtb := mg 1613 rfl rfl
set_option maxRecDepth 100000 in
theorem w_1614 : Cond.methodLink RX12 307 yX12_putsWord ∈ gtb := mg 1614 rfl rfl
set_option maxRecDepth 100000 in
theorem w_1616 : Cond.instanceMethod yX12_putsWord ∈ gtb := mg 1616 rfl rfl
set_option maxRecDepth 100000 in
theorem w_1617 : Cond.code yX12_putsWord cX12_putsWord 6 (some .boolean) ∈ gtb := mg 1617 rfl rfl
set_option maxRecDepth 100000 in
theorem w_1618 : Cond.methodLink RX12 345 yX12_begins ∈ gtb := mg 1618 rfl rfl
set_option maxRecDepth 100000 in
theorem w_1620 : Cond.instanceMethod yX12_begins ∈ gtb := mg 1620 rfl rfl
set_option maxRecDepth 100000 in
theorem w_1621 : Cond.code yX12_begins cX12_begins 3 none ∈ gtb := mg 1621 rfl rfl
set_option maxRecDepth 100000 in
theorem w_1622 : Cond.methodLink RX12 348 yX12_steps ∈ gtb := mg 1622 rfl rfl
set_option maxRecDepth 100000 in
theorem w_1624 : Cond.instanceMethod yX12_steps ∈ gtb := mg 1624 rfl rfl
set_option maxRecDepth 100000 in
theorem w_1625 : Cond.code yX12_steps cX12_steps 6 (some .int) ∈ gtb := mg 1625 rfl rfl
set_option maxRecDepth 100000 in
theorem w_1626 : Cond.methodLink RX12 327 yX12_copiesSide ∈ gtb := mg 1626 rfl rfl
set_option maxRecDepth 100000 in
theorem w_1628 : Cond.instanceMethod yX12_copiesSide ∈ gtb := mg 1628 rfl rfl
set_option maxRecDepth 100000 in
theorem w_1629 : Cond.code yX12_copiesSide cX12_copiesSide 7 none ∈ gtb := mg 1629 rfl rfl
set_option maxRecDepth 100000 in
theorem w_1630 : Cond.methodLink RX12 331 yX12_copiesWord ∈ gtb := mg 1630 rfl rfl
set_option maxRecDepth 100000 in
theorem w_1632 : Cond.instanceMethod yX12_copiesWord ∈ gtb := mg 1632 rfl rfl
set_option maxRecDepth 100000 in
theorem w_1633 : Cond.code yX12_copiesWord cX12_copiesWord 5 none ∈ gtb := mg 1633 rfl rfl
set_option maxRecDepth 100000 in
theorem w_1634 : Cond.methodLink RX12 335 yX12_copiesMeaning ∈ gtb := mg 1634 rfl rfl
set_option maxRecDepth 100000 in
theorem w_1636 : Cond.instanceMethod yX12_copiesMeaning ∈ gtb := mg 1636 rfl rfl
set_option maxRecDepth 100000 in
theorem w_1637 : Cond.code yX12_copiesMeaning cX12_copiesMeaning 4 none ∈ gtb := mg 1637 rfl rfl
set_option maxRecDepth 100000 in
theorem w_1638 : Cond.methodLink RX12 338 yX12_fits ∈ gtb := mg 1638 rfl rfl
set_option maxRecDepth 100000 in
theorem w_1640 : Cond.instanceMethod yX12_fits ∈ gtb := mg 1640 rfl rfl
set_option maxRecDepth 100000 in
theorem w_1641 : Cond.code yX12_fits cX12_fits 7 (some .boolean) ∈ gtb := mg 1641 rfl rfl
set_option maxRecDepth 100000 in
theorem w_1642 : Cond.methodLink RX12 317 yX12_alike ∈ gtb := mg 1642 rfl rfl
set_option maxRecDepth 100000 in
theorem w_1644 : Cond.instanceMethod yX12_alike ∈ gtb := mg 1644 rfl rfl
set_option maxRecDepth 100000 in
theorem w_1645 : Cond.code yX12_alike cX12_alike 6 (some .boolean) ∈ gtb := mg 1645 rfl rfl
set_option maxRecDepth 100000 in
theorem w_1646 : Cond.methodLink RX12 341 yX12_puts ∈ gtb := mg 1646 rfl rfl
set_option maxRecDepth 100000 in
theorem w_1648 : Cond.instanceMethod yX12_puts ∈ gtb := mg 1648 rfl rfl
set_option maxRecDepth 100000 in
theorem w_1649 : Cond.code yX12_puts cX12_puts 7 (some .int) ∈ gtb := mg 1649 rfl rfl
set_option maxRecDepth 100000 in
theorem w_1650 : Cond.methodLink RX12 352 yX12_goes ∈ gtb := mg 1650 rfl rfl
set_option maxRecDepth 100000 in
theorem w_1652 : Cond.instanceMethod yX12_goes ∈ gtb := mg 1652 rfl rfl
set_option maxRecDepth 100000 in
theorem w_1653 : Cond.code yX12_goes cX12_goes 2 none ∈ gtb := mg 1653 rfl rfl
set_option maxRecDepth 100000 in
theorem w_1666 : Cond.methodLink RX12 361 yX12_isOpen ∈ gtb := mg 1666 rfl rfl
set_option maxRecDepth 100000 in
theorem w_1668 : Cond.instanceMethod yX12_isOpen ∈ gtb := mg 1668 rfl rfl
set_option maxRecDepth 100000 in
theorem w_1669 : Cond.code yX12_isOpen cX12_isOpen 2 (some .boolean) ∈ gtb := mg 1669 rfl rfl
set_option maxRecDepth 100000 in
theorem w_1674 : Cond.constantLong RX12 364 (q64 (3)) ∈ gtb := mg 1674 rfl rfl
set_option maxRecDepth 100000 in
theorem w_1675 : Cond.methodLink RX12 366 yX12_findTerm ∈ gtb := mg 1675 rfl rfl
set_option maxRecDepth 100000 in
theorem w_1677 : Cond.instanceMethod yX12_findTerm ∈ gtb := mg 1677 rfl rfl
set_option maxRecDepth 100000 in
theorem w_1678 : Cond.code yX12_findTerm cX12_findTerm 2 none ∈ gtb := mg 1678 rfl rfl
set_option maxRecDepth 100000 in
theorem w_1687 : Cond.methodLink RX12 369 yX12_isAtRight ∈ gtb := mg 1687 rfl rfl
set_option maxRecDepth 100000 in
theorem w_1689 : Cond.instanceMethod yX12_isAtRight ∈ gtb := mg 1689 rfl rfl
set_option maxRecDepth 100000 in
theorem w_1690 : Cond.code yX12_isAtRight cX12_isAtRight 4 (some .boolean) ∈ gtb := mg 1690 rfl rfl
set_option maxRecDepth 100000 in
theorem w_1695 : Cond.methodLink RX12 381 yX12_shows ∈ gtb := mg 1695 rfl rfl
set_option maxRecDepth 100000 in
theorem w_1697 : Cond.instanceMethod yX12_shows ∈ gtb := mg 1697 rfl rfl
set_option maxRecDepth 100000 in
theorem w_1698 : Cond.code yX12_shows cX12_shows 3 none ∈ gtb := mg 1698 rfl rfl
set_option maxRecDepth 100000 in
theorem w_1699 : Cond.methodLink RX12 378 yX12_becomes ∈ gtb := mg 1699 rfl rfl
set_option maxRecDepth 100000 in
theorem w_1701 : Cond.instanceMethod yX12_becomes ∈ gtb := mg 1701 rfl rfl
set_option maxRecDepth 100000 in
theorem w_1702 : Cond.code yX12_becomes cX12_becomes 3 none ∈ gtb := mg 1702 rfl rfl
set_option maxRecDepth 100000 in
theorem w_1711 : Cond.methodLink RX12 384 yX12_goesThrough ∈ gtb := mg 1711 rfl rfl
set_option maxRecDepth 100000 in
theorem w_1713 : Cond.instanceMethod yX12_goesThrough ∈ gtb := mg 1713 rfl rfl
set_option maxRecDepth 100000 in
theorem w_1714 : Cond.code yX12_goesThrough cX12_goesThrough 3 (some .int) ∈ gtb := mg 1714 rfl rfl
set_option maxRecDepth 100000 in
theorem w_1719 : Cond.constantLong RX12 413 (q64 (20)) ∈ gtb := mg 1719 rfl rfl
set_option maxRecDepth 100000 in
theorem w_1720 : Cond.methodLink RX12 415 yX12_findWay ∈ gtb := mg 1720 rfl rfl
set_option maxRecDepth 100000 in
theorem w_1722 : Cond.instanceMethod yX12_findWay ∈ gtb := mg 1722 rfl rfl
set_option maxRecDepth 100000 in
theorem w_1723 : Cond.code yX12_findWay cX12_findWay 6 none ∈ gtb := mg 1723 rfl rfl
set_option maxRecDepth 100000 in
theorem w_1724 : Cond.methodLink RX12 396 yX12_hashOf ∈ gtb := mg 1724 rfl rfl
set_option maxRecDepth 100000 in
theorem w_1726 : Cond.instanceMethod yX12_hashOf ∈ gtb := mg 1726 rfl rfl
set_option maxRecDepth 100000 in
theorem w_1727 : Cond.code yX12_hashOf cX12_hashOf 5 (some .int) ∈ gtb := mg 1727 rfl rfl
set_option maxRecDepth 100000 in
theorem w_1728 : Cond.methodLink RX12 403 yX12_meets ∈ gtb := mg 1728 rfl rfl
set_option maxRecDepth 100000 in
theorem w_1730 : Cond.instanceMethod yX12_meets ∈ gtb := mg 1730 rfl rfl
set_option maxRecDepth 100000 in
theorem w_1731 : Cond.code yX12_meets cX12_meets 7 none ∈ gtb := mg 1731 rfl rfl
set_option maxRecDepth 100000 in
theorem w_1732 : Cond.methodLink RX12 407 yX12_isThenRight ∈ gtb := mg 1732 rfl rfl
set_option maxRecDepth 100000 in
theorem w_1734 : Cond.instanceMethod yX12_isThenRight ∈ gtb := mg 1734 rfl rfl
set_option maxRecDepth 100000 in
theorem w_1735 : Cond.code yX12_isThenRight cX12_isThenRight 4 (some .boolean) ∈ gtb := mg 1735 rfl rfl
set_option maxRecDepth 100000 in
theorem w_1736 : Cond.methodLink RX12 410 yX12_seeks ∈ gtb := mg 1736 rfl rfl
set_option maxRecDepth 100000 in
theorem w_1738 : Cond.instanceMethod yX12_seeks ∈ gtb := mg 1738 rfl rfl
set_option maxRecDepth 100000 in
theorem w_1739 : Cond.code yX12_seeks cX12_seeks 8 none ∈ gtb := mg 1739 rfl rfl
set_option maxRecDepth 100000 in
theorem w_1740 : Cond.methodLink RX12 400 yX12_isMet ∈ gtb := mg 1740 rfl rfl
set_option maxRecDepth 100000 in
theorem w_1742 : Cond.instanceMethod yX12_isMet ∈ gtb := mg 1742 rfl rfl
set_option maxRecDepth 100000 in
theorem w_1743 : Cond.code yX12_isMet cX12_isMet 5 (some .boolean) ∈ gtb := mg 1743 rfl rfl
set_option maxRecDepth 100000 in
theorem w_1752 : Cond.methodLink RX12 432 yX12_worldsOf ∈ gtb := mg 1752 rfl rfl
set_option maxRecDepth 100000 in
theorem w_1753 : Cond.static yX12_worldsOf ∈ gtb := mg 1753 rfl rfl
set_option maxRecDepth 100000 in
theorem w_1754 : Cond.code yX12_worldsOf cX12_worldsOf 1 (some .int) ∈ gtb := mg 1754 rfl rfl
set_option maxRecDepth 100000 in
theorem w_1755 : Cond.methodLink RX12 419 yX12_power ∈ gtb := mg 1755 rfl rfl
set_option maxRecDepth 100000 in
theorem w_1756 : Cond.static yX12_power ∈ gtb := mg 1756 rfl rfl
set_option maxRecDepth 100000 in
theorem w_1757 : Cond.code yX12_power cX12_power 4 (some .int) ∈ gtb := mg 1757 rfl rfl
set_option maxRecDepth 100000 in
theorem w_1758 : Cond.methodLink RX12 435 yX12_world ∈ gtb := mg 1758 rfl rfl
set_option maxRecDepth 100000 in
theorem w_1760 : Cond.instanceMethod yX12_world ∈ gtb := mg 1760 rfl rfl
set_option maxRecDepth 100000 in
theorem w_1761 : Cond.code yX12_world cX12_world 7 none ∈ gtb := mg 1761 rfl rfl
set_option maxRecDepth 100000 in
theorem w_1762 : Cond.methodLink RX12 428 yX12_valueOf ∈ gtb := mg 1762 rfl rfl
set_option maxRecDepth 100000 in
theorem w_1764 : Cond.instanceMethod yX12_valueOf ∈ gtb := mg 1764 rfl rfl
set_option maxRecDepth 100000 in
theorem w_1765 : Cond.code yX12_valueOf cX12_valueOf 13 (some .int) ∈ gtb := mg 1765 rfl rfl
set_option maxRecDepth 100000 in
theorem w_1766 : Cond.methodLink RX12 438 yX12_holdsNow ∈ gtb := mg 1766 rfl rfl
set_option maxRecDepth 100000 in
theorem w_1768 : Cond.instanceMethod yX12_holdsNow ∈ gtb := mg 1768 rfl rfl
set_option maxRecDepth 100000 in
theorem w_1769 : Cond.code yX12_holdsNow cX12_holdsNow 8 (some .boolean) ∈ gtb := mg 1769 rfl rfl
set_option maxRecDepth 100000 in
theorem w_1774 : Cond.methodLink RX12 444 yX12_weighs ∈ gtb := mg 1774 rfl rfl
set_option maxRecDepth 100000 in
theorem w_1776 : Cond.instanceMethod yX12_weighs ∈ gtb := mg 1776 rfl rfl
set_option maxRecDepth 100000 in
theorem w_1777 : Cond.code yX12_weighs cX12_weighs 2 none ∈ gtb := mg 1777 rfl rfl
set_option maxRecDepth 100000 in
theorem w_1778 : Cond.methodLink RX12 441 yX12_allHold ∈ gtb := mg 1778 rfl rfl
set_option maxRecDepth 100000 in
theorem w_1780 : Cond.instanceMethod yX12_allHold ∈ gtb := mg 1780 rfl rfl
set_option maxRecDepth 100000 in
theorem w_1781 : Cond.code yX12_allHold cX12_allHold 5 (some .boolean) ∈ gtb := mg 1781 rfl rfl
set_option maxRecDepth 100000 in
theorem w_1782 : Cond.methodLink RX12 447 yX12_isGood ∈ gtb := mg 1782 rfl rfl
set_option maxRecDepth 100000 in
theorem w_1784 : Cond.instanceMethod yX12_isGood ∈ gtb := mg 1784 rfl rfl
set_option maxRecDepth 100000 in
theorem w_1785 : Cond.code yX12_isGood cX12_isGood 3 (some .boolean) ∈ gtb := mg 1785 rfl rfl
set_option maxRecDepth 100000 in
theorem w_1794 : Cond.constantLong RX12 487 (q64 (7)) ∈ gtb := mg 1794 rfl rfl
set_option maxRecDepth 100000 in
theorem w_1795 : Cond.methodLink RX12 489 yX12_areLike ∈ gtb := mg 1795 rfl rfl
set_option maxRecDepth 100000 in
theorem w_1797 : Cond.instanceMethod yX12_areLike ∈ gtb := mg 1797 rfl rfl
set_option maxRecDepth 100000 in
theorem w_1798 : Cond.code yX12_areLike cX12_areLike 9 (some .boolean) ∈ gtb := mg 1798 rfl rfl
set_option maxRecDepth 100000 in
theorem w_1799 : Cond.methodLink RX12 479 yX12_widens ∈ gtb := mg 1799 rfl rfl
set_option maxRecDepth 100000 in
theorem w_1801 : Cond.instanceMethod yX12_widens ∈ gtb := mg 1801 rfl rfl
set_option maxRecDepth 100000 in
theorem w_1802 : Cond.code yX12_widens cX12_widens 7 none ∈ gtb := mg 1802 rfl rfl
set_option maxRecDepth 100000 in
theorem w_1803 : Cond.methodLink RX12 459 yX12_firstWord ∈ gtb := mg 1803 rfl rfl
set_option maxRecDepth 100000 in
theorem w_1805 : Cond.instanceMethod yX12_firstWord ∈ gtb := mg 1805 rfl rfl
set_option maxRecDepth 100000 in
theorem w_1806 : Cond.code yX12_firstWord cX12_firstWord 2 (some .int) ∈ gtb := mg 1806 rfl rfl
set_option maxRecDepth 100000 in
theorem w_1807 : Cond.methodLink RX12 463 yX12_putsIn ∈ gtb := mg 1807 rfl rfl
set_option maxRecDepth 100000 in
theorem w_1809 : Cond.instanceMethod yX12_putsIn ∈ gtb := mg 1809 rfl rfl
set_option maxRecDepth 100000 in
theorem w_1810 : Cond.code yX12_putsIn cX12_putsIn 9 none ∈ gtb := mg 1810 rfl rfl
set_option maxRecDepth 100000 in
theorem w_1811 : Cond.methodLink RX12 456 yX12_builds ∈ gtb := mg 1811 rfl rfl
set_option maxRecDepth 100000 in
theorem w_1813 : Cond.instanceMethod yX12_builds ∈ gtb := mg 1813 rfl rfl
set_option maxRecDepth 100000 in
theorem w_1814 : Cond.code yX12_builds cX12_builds 2 none ∈ gtb := mg 1814 rfl rfl
set_option maxRecDepth 100000 in
theorem w_1815 : Cond.methodLink RX12 473 yX12_tidies ∈ gtb := mg 1815 rfl rfl
set_option maxRecDepth 100000 in
theorem w_1817 : Cond.instanceMethod yX12_tidies ∈ gtb := mg 1817 rfl rfl
set_option maxRecDepth 100000 in
theorem w_1818 : Cond.code yX12_tidies cX12_tidies 10 none ∈ gtb := mg 1818 rfl rfl
set_option maxRecDepth 100000 in
theorem w_1819 : Cond.methodLink RX12 466 yX12_renamed ∈ gtb := mg 1819 rfl rfl
set_option maxRecDepth 100000 in
theorem w_1820 : Cond.static yX12_renamed ∈ gtb := mg 1820 rfl rfl
set_option maxRecDepth 100000 in
theorem w_1821 : Cond.code yX12_renamed cX12_renamed 4 (some .int) ∈ gtb := mg 1821 rfl rfl
set_option maxRecDepth 100000 in
theorem w_1822 : Cond.methodLink RX12 469 yX12_isLess ∈ gtb := mg 1822 rfl rfl
set_option maxRecDepth 100000 in
theorem w_1824 : Cond.instanceMethod yX12_isLess ∈ gtb := mg 1824 rfl rfl
set_option maxRecDepth 100000 in
theorem w_1825 : Cond.code yX12_isLess cX12_isLess 6 (some .boolean) ∈ gtb := mg 1825 rfl rfl
set_option maxRecDepth 100000 in
theorem w_1826 : Cond.methodLink RX12 483 yX12_isSide ∈ gtb := mg 1826 rfl rfl
set_option maxRecDepth 100000 in
theorem w_1828 : Cond.instanceMethod yX12_isSide ∈ gtb := mg 1828 rfl rfl
set_option maxRecDepth 100000 in
theorem w_1829 : Cond.code yX12_isSide cX12_isSide 5 (some .boolean) ∈ gtb := mg 1829 rfl rfl
set_option maxRecDepth 100000 in
theorem w_1830 : Cond.methodLink RX12 476 yX12_isKept ∈ gtb := mg 1830 rfl rfl
set_option maxRecDepth 100000 in
theorem w_1832 : Cond.instanceMethod yX12_isKept ∈ gtb := mg 1832 rfl rfl
set_option maxRecDepth 100000 in
theorem w_1833 : Cond.code yX12_isKept cX12_isKept 5 (some .boolean) ∈ gtb := mg 1833 rfl rfl
set_option maxRecDepth 100000 in
theorem w_1842 : Cond.constantLong RX12 492 (q64 (33)) ∈ gtb := mg 1842 rfl rfl
set_option maxRecDepth 100000 in
theorem w_1847 : Cond.methodLink RX12 494 yX12_isSheet ∈ gtb := mg 1847 rfl rfl
set_option maxRecDepth 100000 in
theorem w_1848 : Cond.static yX12_isSheet ∈ gtb := mg 1848 rfl rfl
set_option maxRecDepth 100000 in
theorem w_1849 : Cond.code yX12_isSheet cX12_isSheet 2 (some .boolean) ∈ gtb := mg 1849 rfl rfl
set_option maxRecDepth 100000 in
theorem w_1862 : Cond.methodLink RX12 497 yX12_inState ∈ gtb := mg 1862 rfl rfl
set_option maxRecDepth 100000 in
theorem w_1864 : Cond.instanceMethod yX12_inState ∈ gtb := mg 1864 rfl rfl
set_option maxRecDepth 100000 in
theorem w_1865 : Cond.code yX12_inState cX12_inState 4 (some .int) ∈ gtb := mg 1865 rfl rfl
set_option maxRecDepth 100000 in
theorem inG_X0 : ∀ w ∈ u_ws RX0 TX0 11, w ∈ gtb := show ∀ w ∈ [u_lay RX0 TX0 0, u_lay RX0 TX0 1, u_lay RX0 TX0 2, u_lay RX0 TX0 3, u_lay RX0 TX0 4, u_lay RX0 TX0 5, u_lay RX0 TX0 6, u_lay RX0 TX0 7, u_lay RX0 TX0 8, u_lay RX0 TX0 9, u_lay RX0 TX0 10], w ∈ gtb from fa1 (mg 518 rfl rfl) (fa1 (mg 520 rfl rfl) (fa1 (mg 522 rfl rfl) (fa1 (mg 524 rfl rfl) (fa1 (mg 526 rfl rfl) (fa1 (mg 528 rfl rfl) (fa1 (mg 530 rfl rfl) (fa1 (mg 532 rfl rfl) (fa1 (mg 534 rfl rfl) (fa1 (mg 536 rfl rfl) (fa1 (mg 538 rfl rfl) (fa0)))))))))))
set_option maxRecDepth 100000 in
theorem inG_X1 : ∀ w ∈ u_ws RX1 TX1 9, w ∈ gtb := show ∀ w ∈ [u_lay RX1 TX1 0, u_lay RX1 TX1 1, u_lay RX1 TX1 2, u_lay RX1 TX1 3, u_lay RX1 TX1 4, u_lay RX1 TX1 5, u_lay RX1 TX1 6, u_lay RX1 TX1 7, u_lay RX1 TX1 8], w ∈ gtb from fa1 (mg 383 rfl rfl) (fa1 (mg 385 rfl rfl) (fa1 (mg 387 rfl rfl) (fa1 (mg 389 rfl rfl) (fa1 (mg 391 rfl rfl) (fa1 (mg 393 rfl rfl) (fa1 (mg 395 rfl rfl) (fa1 (mg 397 rfl rfl) (fa1 (mg 399 rfl rfl) (fa0)))))))))
set_option maxRecDepth 100000 in
theorem inG_X2 : ∀ w ∈ u_ws RX2 TX2 11, w ∈ gtb := show ∀ w ∈ [u_lay RX2 TX2 0, u_lay RX2 TX2 1, u_lay RX2 TX2 2, u_lay RX2 TX2 3, u_lay RX2 TX2 4, u_lay RX2 TX2 5, u_lay RX2 TX2 6, u_lay RX2 TX2 7, u_lay RX2 TX2 8, u_lay RX2 TX2 9, u_lay RX2 TX2 10], w ∈ gtb from fa1 (mg 226 rfl rfl) (fa1 (mg 228 rfl rfl) (fa1 (mg 230 rfl rfl) (fa1 (mg 232 rfl rfl) (fa1 (mg 234 rfl rfl) (fa1 (mg 236 rfl rfl) (fa1 (mg 238 rfl rfl) (fa1 (mg 240 rfl rfl) (fa1 (mg 242 rfl rfl) (fa1 (mg 244 rfl rfl) (fa1 (mg 246 rfl rfl) (fa0)))))))))))
set_option maxRecDepth 100000 in
theorem inG_X3 : ∀ w ∈ u_ws RX3 TX3 11, w ∈ gtb := show ∀ w ∈ [u_lay RX3 TX3 0, u_lay RX3 TX3 1, u_lay RX3 TX3 2, u_lay RX3 TX3 3, u_lay RX3 TX3 4, u_lay RX3 TX3 5, u_lay RX3 TX3 6, u_lay RX3 TX3 7, u_lay RX3 TX3 8, u_lay RX3 TX3 9, u_lay RX3 TX3 10], w ∈ gtb from fa1 (mg 267 rfl rfl) (fa1 (mg 269 rfl rfl) (fa1 (mg 271 rfl rfl) (fa1 (mg 273 rfl rfl) (fa1 (mg 275 rfl rfl) (fa1 (mg 277 rfl rfl) (fa1 (mg 279 rfl rfl) (fa1 (mg 281 rfl rfl) (fa1 (mg 283 rfl rfl) (fa1 (mg 285 rfl rfl) (fa1 (mg 287 rfl rfl) (fa0)))))))))))
set_option maxRecDepth 100000 in
theorem inG_X4 : ∀ w ∈ u_ws RX4 TX4 18, w ∈ gtb := show ∀ w ∈ [u_lay RX4 TX4 0, u_lay RX4 TX4 1, u_lay RX4 TX4 2, u_lay RX4 TX4 3, u_lay RX4 TX4 4, u_lay RX4 TX4 5, u_lay RX4 TX4 6, u_lay RX4 TX4 7, u_lay RX4 TX4 8, u_lay RX4 TX4 9, u_lay RX4 TX4 10, u_lay RX4 TX4 11, u_lay RX4 TX4 12, u_lay RX4 TX4 13, u_lay RX4 TX4 14, u_lay RX4 TX4 15, u_lay RX4 TX4 16, u_lay RX4 TX4 17], w ∈ gtb from fa1 (mg 429 rfl rfl) (fa1 (mg 431 rfl rfl) (fa1 (mg 433 rfl rfl) (fa1 (mg 435 rfl rfl) (fa1 (mg 437 rfl rfl) (fa1 (mg 439 rfl rfl) (fa1 (mg 441 rfl rfl) (fa1 (mg 443 rfl rfl) (fa1 (mg 445 rfl rfl) (fa1 (mg 447 rfl rfl) (fa1 (mg 449 rfl rfl) (fa1 (mg 451 rfl rfl) (fa1 (mg 453 rfl rfl) (fa1 (mg 455 rfl rfl) (fa1 (mg 457 rfl rfl) (fa1 (mg 459 rfl rfl) (fa1 (mg 461 rfl rfl) (fa1 (mg 463 rfl rfl) (fa0))))))))))))))))))
set_option maxRecDepth 100000 in
theorem inG_X5 : ∀ w ∈ u_ws RX5 TX5 3, w ∈ gtb := show ∀ w ∈ [u_lay RX5 TX5 0, u_lay RX5 TX5 1, u_lay RX5 TX5 2], w ∈ gtb from fa1 (mg 551 rfl rfl) (fa1 (mg 553 rfl rfl) (fa1 (mg 555 rfl rfl) (fa0)))
set_option maxRecDepth 100000 in
theorem inG_X6 : ∀ w ∈ u_ws RX6 TX6 7, w ∈ gtb := show ∀ w ∈ [u_lay RX6 TX6 0, u_lay RX6 TX6 1, u_lay RX6 TX6 2, u_lay RX6 TX6 3, u_lay RX6 TX6 4, u_lay RX6 TX6 5, u_lay RX6 TX6 6], w ∈ gtb from fa1 (mg 347 rfl rfl) (fa1 (mg 349 rfl rfl) (fa1 (mg 351 rfl rfl) (fa1 (mg 353 rfl rfl) (fa1 (mg 355 rfl rfl) (fa1 (mg 357 rfl rfl) (fa1 (mg 359 rfl rfl) (fa0)))))))
set_option maxRecDepth 100000 in
theorem inG_X7 : ∀ w ∈ u_ws RX7 TX7 10, w ∈ gtb := show ∀ w ∈ [u_lay RX7 TX7 0, u_lay RX7 TX7 1, u_lay RX7 TX7 2, u_lay RX7 TX7 3, u_lay RX7 TX7 4, u_lay RX7 TX7 5, u_lay RX7 TX7 6, u_lay RX7 TX7 7, u_lay RX7 TX7 8, u_lay RX7 TX7 9], w ∈ gtb from fa1 (mg 310 rfl rfl) (fa1 (mg 312 rfl rfl) (fa1 (mg 314 rfl rfl) (fa1 (mg 316 rfl rfl) (fa1 (mg 318 rfl rfl) (fa1 (mg 320 rfl rfl) (fa1 (mg 322 rfl rfl) (fa1 (mg 324 rfl rfl) (fa1 (mg 326 rfl rfl) (fa1 (mg 328 rfl rfl) (fa0))))))))))
set_option maxRecDepth 100000 in
theorem inG_X8 : ∀ w ∈ u_ws RX8 TX8 2, w ∈ gtb := show ∀ w ∈ [u_lay RX8 TX8 0, u_lay RX8 TX8 1], w ∈ gtb from fa1 (mg 148 rfl rfl) (fa1 (mg 150 rfl rfl) (fa0))
set_option maxRecDepth 100000 in
theorem inG_X9 : ∀ w ∈ u_ws RX9 TX9 6, w ∈ gtb := show ∀ w ∈ [u_lay RX9 TX9 0, u_lay RX9 TX9 1, u_lay RX9 TX9 2, u_lay RX9 TX9 3, u_lay RX9 TX9 4, u_lay RX9 TX9 5], w ∈ gtb from fa1 (mg 165 rfl rfl) (fa1 (mg 167 rfl rfl) (fa1 (mg 169 rfl rfl) (fa1 (mg 171 rfl rfl) (fa1 (mg 173 rfl rfl) (fa1 (mg 175 rfl rfl) (fa0))))))
set_option maxRecDepth 100000 in
theorem inG_X10 : ∀ w ∈ u_ws RX10 TX10 8, w ∈ gtb := show ∀ w ∈ [u_lay RX10 TX10 0, u_lay RX10 TX10 1, u_lay RX10 TX10 2, u_lay RX10 TX10 3, u_lay RX10 TX10 4, u_lay RX10 TX10 5, u_lay RX10 TX10 6, u_lay RX10 TX10 7], w ∈ gtb from fa1 (mg 482 rfl rfl) (fa1 (mg 484 rfl rfl) (fa1 (mg 486 rfl rfl) (fa1 (mg 488 rfl rfl) (fa1 (mg 490 rfl rfl) (fa1 (mg 492 rfl rfl) (fa1 (mg 494 rfl rfl) (fa1 (mg 496 rfl rfl) (fa0))))))))
set_option maxRecDepth 100000 in
theorem inG_X11 : ∀ w ∈ u_ws RX11 TX11 11, w ∈ gtb := show ∀ w ∈ [u_lay RX11 TX11 0, u_lay RX11 TX11 1, u_lay RX11 TX11 2, u_lay RX11 TX11 3, u_lay RX11 TX11 4, u_lay RX11 TX11 5, u_lay RX11 TX11 6, u_lay RX11 TX11 7, u_lay RX11 TX11 8, u_lay RX11 TX11 9, u_lay RX11 TX11 10], w ∈ gtb from fa1 (mg 569 rfl rfl) (fa1 (mg 571 rfl rfl) (fa1 (mg 573 rfl rfl) (fa1 (mg 575 rfl rfl) (fa1 (mg 577 rfl rfl) (fa1 (mg 579 rfl rfl) (fa1 (mg 581 rfl rfl) (fa1 (mg 583 rfl rfl) (fa1 (mg 585 rfl rfl) (fa1 (mg 587 rfl rfl) (fa1 (mg 589 rfl rfl) (fa0)))))))))))
set_option maxRecDepth 100000 in
theorem inG_X12 : ∀ w ∈ u_ws RX12 TX12 83, w ∈ gtb := show ∀ w ∈ [u_lay RX12 TX12 0, u_lay RX12 TX12 1, u_lay RX12 TX12 2, u_lay RX12 TX12 3, u_lay RX12 TX12 4, u_lay RX12 TX12 5, u_lay RX12 TX12 6, u_lay RX12 TX12 7, u_lay RX12 TX12 8, u_lay RX12 TX12 9, u_lay RX12 TX12 10, u_lay RX12 TX12 11, u_lay RX12 TX12 12, u_lay RX12 TX12 13, u_lay RX12 TX12 14, u_lay RX12 TX12 15, u_lay RX12 TX12 16, u_lay RX12 TX12 17, u_lay RX12 TX12 18, u_lay RX12 TX12 19, u_lay RX12 TX12 20, u_lay RX12 TX12 21, u_lay RX12 TX12 22, u_lay RX12 TX12 23, u_lay RX12 TX12 24, u_lay RX12 TX12 25, u_lay RX12 TX12 26, u_lay RX12 TX12 27, u_lay RX12 TX12 28, u_lay RX12 TX12 29, u_lay RX12 TX12 30, u_lay RX12 TX12 31, u_lay RX12 TX12 32, u_lay RX12 TX12 33, u_lay RX12 TX12 34, u_lay RX12 TX12 35, u_lay RX12 TX12 36, u_lay RX12 TX12 37, u_lay RX12 TX12 38, u_lay RX12 TX12 39, u_lay RX12 TX12 40, u_lay RX12 TX12 41, u_lay RX12 TX12 42, u_lay RX12 TX12 43, u_lay RX12 TX12 44, u_lay RX12 TX12 45, u_lay RX12 TX12 46, u_lay RX12 TX12 47, u_lay RX12 TX12 48, u_lay RX12 TX12 49, u_lay RX12 TX12 50, u_lay RX12 TX12 51, u_lay RX12 TX12 52, u_lay RX12 TX12 53, u_lay RX12 TX12 54, u_lay RX12 TX12 55, u_lay RX12 TX12 56, u_lay RX12 TX12 57, u_lay RX12 TX12 58, u_lay RX12 TX12 59, u_lay RX12 TX12 60, u_lay RX12 TX12 61, u_lay RX12 TX12 62, u_lay RX12 TX12 63, u_lay RX12 TX12 64, u_lay RX12 TX12 65, u_lay RX12 TX12 66, u_lay RX12 TX12 67, u_lay RX12 TX12 68, u_lay RX12 TX12 69, u_lay RX12 TX12 70, u_lay RX12 TX12 71, u_lay RX12 TX12 72, u_lay RX12 TX12 73, u_lay RX12 TX12 74, u_lay RX12 TX12 75, u_lay RX12 TX12 76, u_lay RX12 TX12 77, u_lay RX12 TX12 78, u_lay RX12 TX12 79, u_lay RX12 TX12 80, u_lay RX12 TX12 81, u_lay RX12 TX12 82], w ∈ gtb from fa1 (mg 1321 rfl rfl) (fa1 (mg 1323 rfl rfl) (fa1 (mg 1325 rfl rfl) (fa1 (mg 1327 rfl rfl) (fa1 (mg 1329 rfl rfl) (fa1 (mg 1331 rfl rfl) (fa1 (mg 1333 rfl rfl) (fa1 (mg 1335 rfl rfl) (fa1 (mg 1337 rfl rfl) (fa1 (mg 1339 rfl rfl) (fa1 (mg 1341 rfl rfl) (fa1 (mg 1343 rfl rfl) (fa1 (mg 1345 rfl rfl) (fa1 (mg 1347 rfl rfl) (fa1 (mg 1349 rfl rfl) (fa1 (mg 1351 rfl rfl) (fa1 (mg 1353 rfl rfl) (fa1 (mg 1355 rfl rfl) (fa1 (mg 1357 rfl rfl) (fa1 (mg 1359 rfl rfl) (fa1 (mg 1361 rfl rfl) (fa1 (mg 1363 rfl rfl) (fa1 (mg 1365 rfl rfl) (fa1 (mg 1367 rfl rfl) (fa1 (mg 1369 rfl rfl) (fa1 (mg 1371 rfl rfl) (fa1 (mg 1373 rfl rfl) (fa1 (mg 1375 rfl rfl) (fa1 (mg 1377 rfl rfl) (fa1 (mg 1379 rfl rfl) (fa1 (mg 1381 rfl rfl) (fa1 (mg 1383 rfl rfl) (fa1 (mg 1385 rfl rfl) (fa1 (mg 1387 rfl rfl) (fa1 (mg 1389 rfl rfl) (fa1 (mg 1391 rfl rfl) (fa1 (mg 1393 rfl rfl) (fa1 (mg 1395 rfl rfl) (fa1 (mg 1397 rfl rfl) (fa1 (mg 1399 rfl rfl) (fa1 (mg 1401 rfl rfl) (fa1 (mg 1403 rfl rfl) (fa1 (mg 1405 rfl rfl) (fa1 (mg 1407 rfl rfl) (fa1 (mg 1409 rfl rfl) (fa1 (mg 1411 rfl rfl) (fa1 (mg 1413 rfl rfl) (fa1 (mg 1415 rfl rfl) (fa1 (mg 1417 rfl rfl) (fa1 (mg 1419 rfl rfl) (fa1 (mg 1421 rfl rfl) (fa1 (mg 1423 rfl rfl) (fa1 (mg 1425 rfl rfl) (fa1 (mg 1427 rfl rfl) (fa1 (mg 1429 rfl rfl) (fa1 (mg 1431 rfl rfl) (fa1 (mg 1433 rfl rfl) (fa1 (mg 1435 rfl rfl) (fa1 (mg 1437 rfl rfl) (fa1 (mg 1439 rfl rfl) (fa1 (mg 1441 rfl rfl) (fa1 (mg 1443 rfl rfl) (fa1 (mg 1445 rfl rfl) (fa1 (mg 1447 rfl rfl) (fa1 (mg 1449 rfl rfl) (fa1 (mg 1451 rfl rfl) (fa1 (mg 1453 rfl rfl) (fa1 (mg 1455 rfl rfl) (fa1 (mg 1457 rfl rfl) (fa1 (mg 1459 rfl rfl) (fa1 (mg 1461 rfl rfl) (fa1 (mg 1463 rfl rfl) (fa1 (mg 1465 rfl rfl) (fa1 (mg 1467 rfl rfl) (fa1 (mg 1469 rfl rfl) (fa1 (mg 1471 rfl rfl) (fa1 (mg 1473 rfl rfl) (fa1 (mg 1475 rfl rfl) (fa1 (mg 1477 rfl rfl) (fa1 (mg 1479 rfl rfl) (fa1 (mg 1481 rfl rfl) (fa1 (mg 1483 rfl rfl) (fa1 (mg 1485 rfl rfl) (fa0)))))))))))))))))))))))))))))))))))))))))))))))))))))))))))))))))))))))))))))))))))
