set_option maxRecDepth 100000 in
theorem wm_701 : Cond.code ⟨"WeekBoats$Rules", "serving", "(I)I"⟩ prog_8_method_9_code 3 (some .int) ∈ lw_gd := wk_3 (i := 111) rfl rfl
theorem wm_702 : Cond.methodLink "WeekBoats$Rules" 74 ⟨"WeekBoats$Rules", "run", "(II)I"⟩ ∈ lw_gd := wk_3 (i := 112) (by decide +kernel) rfl
theorem wm_704 : Cond.instanceMethod ⟨"WeekBoats$Rules", "run", "(II)I"⟩ ∈ lw_gd := wk_3 (i := 114) (by decide +kernel) rfl
set_option maxRecDepth 100000 in
theorem wm_705 : Cond.code ⟨"WeekBoats$Rules", "run", "(II)I"⟩ prog_8_method_11_code 6 (some .int) ∈ lw_gd := wk_3 (i := 115) rfl rfl
theorem wm_706 : Cond.methodLink "WeekBoats$Rules" 82 ⟨"WeekBoats$Rules", "askedOf", "(I)I"⟩ ∈ lw_gd := wk_3 (i := 116) (by decide +kernel) rfl
theorem wm_708 : Cond.instanceMethod ⟨"WeekBoats$Rules", "askedOf", "(I)I"⟩ ∈ lw_gd := wk_3 (i := 118) (by decide +kernel) rfl
set_option maxRecDepth 100000 in
theorem wm_709 : Cond.code ⟨"WeekBoats$Rules", "askedOf", "(I)I"⟩ prog_8_method_12_code 2 (some .int) ∈ lw_gd := wk_3 (i := 119) rfl rfl
theorem wm_711 : Cond.methodLink "WeekBoats$Rules" 86 ⟨"WeekBoats$Rules", "alone", "(III)I"⟩ ∈ lw_gd := wk_3 (i := 121) (by decide +kernel) rfl
theorem wm_712 : Cond.static ⟨"WeekBoats$Rules", "alone", "(III)I"⟩ ∈ lw_gd := wk_3 (i := 122) (by decide +kernel) rfl
set_option maxRecDepth 100000 in
theorem wm_713 : Cond.code ⟨"WeekBoats$Rules", "alone", "(III)I"⟩ prog_8_method_13_code 3 (some .int) ∈ lw_gd := wk_3 (i := 123) rfl rfl
theorem wm_714 : Cond.methodLink "WeekBoats$Rules" 90 ⟨"WeekBoats$Rules", "both", "(III)I"⟩ ∈ lw_gd := wk_3 (i := 124) (by decide +kernel) rfl
theorem wm_715 : Cond.static ⟨"WeekBoats$Rules", "both", "(III)I"⟩ ∈ lw_gd := wk_3 (i := 125) (by decide +kernel) rfl
set_option maxRecDepth 100000 in
theorem wm_716 : Cond.code ⟨"WeekBoats$Rules", "both", "(III)I"⟩ prog_8_method_14_code 3 (some .int) ∈ lw_gd := wk_3 (i := 126) rfl rfl
theorem wm_717 : Cond.methodLink "WeekBoatsLaw" 23 ⟨"WeekBoats", "stoppage", "(III)I"⟩ ∈ lw_gd := wk_3 (i := 127) (by decide +kernel) rfl
theorem wm_718 : Cond.instanceMethod ⟨"WeekBoats", "stoppage", "(III)I"⟩ ∈ lw_gd := wk_3 (i := 128) (by decide +kernel) rfl
theorem wm_719 : Cond.selects "WeekBoats" ⟨"WeekBoats", "stoppage", "(III)I"⟩ ⟨"WeekBoats", "stoppage", "(III)I"⟩ ∈ lw_gd := wk_3 (i := 129) (by decide +kernel) rfl
set_option maxRecDepth 100000 in
theorem wm_720 : Cond.code ⟨"WeekBoats", "stoppage", "(III)I"⟩ prog_1_method_11_code 4 (some .int) ∈ lw_gd := wk_3 (i := 130) rfl rfl
theorem wm_721 : Cond.methodLink "WeekBoats" 133 ⟨"WeekBoats$Canal", "reopen", "()V"⟩ ∈ lw_gd := wk_3 (i := 131) (by decide +kernel) rfl
theorem wm_722 : Cond.instanceMethod ⟨"WeekBoats$Canal", "reopen", "()V"⟩ ∈ lw_gd := wk_3 (i := 132) (by decide +kernel) rfl
theorem wm_723 : Cond.selects "WeekBoats$Canal" ⟨"WeekBoats$Canal", "reopen", "()V"⟩ ⟨"WeekBoats$Canal", "reopen", "()V"⟩ ∈ lw_gd := wk_3 (i := 133) (by decide +kernel) rfl
set_option maxRecDepth 100000 in
theorem wm_724 : Cond.code ⟨"WeekBoats$Canal", "reopen", "()V"⟩ prog_4_method_3_code 1 none ∈ lw_gd := wk_3 (i := 134) rfl rfl
theorem wm_725 : Cond.methodLink "WeekBoats" 139 ⟨"WeekBoats$Canal", "stop", "(III)V"⟩ ∈ lw_gd := wk_3 (i := 135) (by decide +kernel) rfl
theorem wm_726 : Cond.instanceMethod ⟨"WeekBoats$Canal", "stop", "(III)V"⟩ ∈ lw_gd := wk_3 (i := 136) (by decide +kernel) rfl
theorem wm_727 : Cond.selects "WeekBoats$Canal" ⟨"WeekBoats$Canal", "stop", "(III)V"⟩ ⟨"WeekBoats$Canal", "stop", "(III)V"⟩ ∈ lw_gd := wk_3 (i := 137) (by decide +kernel) rfl
set_option maxRecDepth 100000 in
theorem wm_728 : Cond.code ⟨"WeekBoats$Canal", "stop", "(III)V"⟩ prog_4_method_2_code 5 none ∈ lw_gd := wk_3 (i := 138) rfl rfl
theorem wm_729 : Cond.methodLink "WeekBoatsLaw" 28 ⟨"WeekBoats", "boat", "(IIII)I"⟩ ∈ lw_gd := wk_3 (i := 139) (by decide +kernel) rfl
theorem wm_730 : Cond.instanceMethod ⟨"WeekBoats", "boat", "(IIII)I"⟩ ∈ lw_gd := wk_3 (i := 140) (by decide +kernel) rfl
theorem wm_731 : Cond.selects "WeekBoats" ⟨"WeekBoats", "boat", "(IIII)I"⟩ ⟨"WeekBoats", "boat", "(IIII)I"⟩ ∈ lw_gd := wk_3 (i := 141) (by decide +kernel) rfl
set_option maxRecDepth 100000 in
theorem wm_732 : Cond.code ⟨"WeekBoats", "boat", "(IIII)I"⟩ prog_1_method_12_code 5 (some .int) ∈ lw_gd := wk_3 (i := 142) rfl rfl
theorem wm_733 : Cond.methodLink "WeekBoats" 143 ⟨"WeekBoats", "isBerths", "(I)Z"⟩ ∈ lw_gd := wk_3 (i := 143) (by decide +kernel) rfl
theorem wm_734 : Cond.static ⟨"WeekBoats", "isBerths", "(I)Z"⟩ ∈ lw_gd := wk_3 (i := 144) (by decide +kernel) rfl
set_option maxRecDepth 100000 in
theorem wm_735 : Cond.code ⟨"WeekBoats", "isBerths", "(I)Z"⟩ prog_1_method_6_code 1 (some .boolean) ∈ lw_gd := wk_3 (i := 145) rfl rfl
theorem wm_736 : Cond.methodLink "WeekBoats" 111 ⟨"WeekBoats", "isPoint", "(I)Z"⟩ ∈ lw_gd := wk_3 (i := 146) (by decide +kernel) rfl
theorem wm_737 : Cond.static ⟨"WeekBoats", "isPoint", "(I)Z"⟩ ∈ lw_gd := wk_3 (i := 147) (by decide +kernel) rfl
set_option maxRecDepth 100000 in
theorem wm_738 : Cond.code ⟨"WeekBoats", "isPoint", "(I)Z"⟩ prog_1_method_3_code 1 (some .boolean) ∈ lw_gd := wk_3 (i := 148) rfl rfl
theorem wm_739 : Cond.methodLink "WeekBoats" 146 ⟨"WeekBoats$Boats", "add", "(IIII)I"⟩ ∈ lw_gd := wk_3 (i := 149) (by decide +kernel) rfl
theorem wm_740 : Cond.instanceMethod ⟨"WeekBoats$Boats", "add", "(IIII)I"⟩ ∈ lw_gd := wk_3 (i := 150) (by decide +kernel) rfl
theorem wm_741 : Cond.selects "WeekBoats$Boats" ⟨"WeekBoats$Boats", "add", "(IIII)I"⟩ ⟨"WeekBoats$Boats", "add", "(IIII)I"⟩ ∈ lw_gd := wk_3 (i := 151) (by decide +kernel) rfl
set_option maxRecDepth 100000 in
theorem wm_742 : Cond.code ⟨"WeekBoats$Boats", "add", "(IIII)I"⟩ prog_2_method_2_code 5 (some .int) ∈ lw_gd := wk_3 (i := 152) rfl rfl
theorem wm_743 : Cond.methodLink "WeekBoatsLaw" 33 ⟨"WeekBoats", "feed", "(IIIII)I"⟩ ∈ lw_gd := wk_3 (i := 153) (by decide +kernel) rfl
theorem wm_744 : Cond.instanceMethod ⟨"WeekBoats", "feed", "(IIIII)I"⟩ ∈ lw_gd := wk_3 (i := 154) (by decide +kernel) rfl
theorem wm_745 : Cond.selects "WeekBoats" ⟨"WeekBoats", "feed", "(IIIII)I"⟩ ⟨"WeekBoats", "feed", "(IIIII)I"⟩ ∈ lw_gd := wk_3 (i := 155) (by decide +kernel) rfl
set_option maxRecDepth 100000 in
theorem wm_746 : Cond.code ⟨"WeekBoats", "feed", "(IIIII)I"⟩ prog_1_method_13_code 6 (some .int) ∈ lw_gd := wk_3 (i := 156) rfl rfl
theorem wm_747 : Cond.methodLink "WeekBoats" 153 ⟨"WeekBoats$Parser", "put", "(I)V"⟩ ∈ lw_gd := wk_3 (i := 157) (by decide +kernel) rfl
theorem wm_748 : Cond.instanceMethod ⟨"WeekBoats$Parser", "put", "(I)V"⟩ ∈ lw_gd := wk_3 (i := 158) (by decide +kernel) rfl
theorem wm_749 : Cond.selects "WeekBoats$Parser" ⟨"WeekBoats$Parser", "put", "(I)V"⟩ ⟨"WeekBoats$Parser", "put", "(I)V"⟩ ∈ lw_gd := wk_3 (i := 159) (by decide +kernel) rfl
set_option maxRecDepth 100000 in
theorem wm_750 : Cond.code ⟨"WeekBoats$Parser", "put", "(I)V"⟩ prog_6_method_2_code 3 none ∈ lw_gd := wk_3 (i := 160) rfl rfl
theorem wm_751 : Cond.methodLink "WeekBoatsLaw" 38 ⟨"WeekBoats", "end", "(I)Z"⟩ ∈ lw_gd := wk_3 (i := 161) (by decide +kernel) rfl
theorem wm_752 : Cond.instanceMethod ⟨"WeekBoats", "end", "(I)Z"⟩ ∈ lw_gd := wk_3 (i := 162) (by decide +kernel) rfl
theorem wm_753 : Cond.selects "WeekBoats" ⟨"WeekBoats", "end", "(I)Z"⟩ ⟨"WeekBoats", "end", "(I)Z"⟩ ∈ lw_gd := wk_3 (i := 163) (by decide +kernel) rfl
set_option maxRecDepth 100000 in
theorem wm_754 : Cond.code ⟨"WeekBoats", "end", "(I)Z"⟩ prog_1_method_14_code 2 (some .boolean) ∈ lw_gd := wk_3 (i := 164) rfl rfl
theorem wm_755 : Cond.methodLink "WeekBoatsLaw" 42 ⟨"WeekBoats", "rules", "()I"⟩ ∈ lw_gd := wk_3 (i := 165) (by decide +kernel) rfl
theorem wm_756 : Cond.instanceMethod ⟨"WeekBoats", "rules", "()I"⟩ ∈ lw_gd := wk_3 (i := 166) (by decide +kernel) rfl
theorem wm_757 : Cond.selects "WeekBoats" ⟨"WeekBoats", "rules", "()I"⟩ ⟨"WeekBoats", "rules", "()I"⟩ ∈ lw_gd := wk_3 (i := 167) (by decide +kernel) rfl
set_option maxRecDepth 100000 in
theorem wm_758 : Cond.code ⟨"WeekBoats", "rules", "()I"⟩ prog_1_method_15_code 2 (some .int) ∈ lw_gd := wk_3 (i := 168) rfl rfl
theorem wm_759 : Cond.methodLink "WeekBoats" 157 ⟨"WeekBoats$Parser", "read", "()I"⟩ ∈ lw_gd := wk_3 (i := 169) (by decide +kernel) rfl
theorem wm_760 : Cond.instanceMethod ⟨"WeekBoats$Parser", "read", "()I"⟩ ∈ lw_gd := wk_3 (i := 170) (by decide +kernel) rfl
theorem wm_761 : Cond.selects "WeekBoats$Parser" ⟨"WeekBoats$Parser", "read", "()I"⟩ ⟨"WeekBoats$Parser", "read", "()I"⟩ ∈ lw_gd := wk_3 (i := 171) (by decide +kernel) rfl
set_option maxRecDepth 100000 in
theorem wm_762 : Cond.code ⟨"WeekBoats$Parser", "read", "()I"⟩ prog_6_method_3_code 2 (some .int) ∈ lw_gd := wk_3 (i := 172) rfl rfl
theorem wm_763 : Cond.methodLink "WeekBoats$Parser" 38 ⟨"WeekBoats$Rules", "clear", "()V"⟩ ∈ lw_gd := wk_3 (i := 173) (by decide +kernel) rfl
theorem wm_764 : Cond.instanceMethod ⟨"WeekBoats$Rules", "clear", "()V"⟩ ∈ lw_gd := wk_3 (i := 174) (by decide +kernel) rfl
theorem wm_765 : Cond.selects "WeekBoats$Rules" ⟨"WeekBoats$Rules", "clear", "()V"⟩ ⟨"WeekBoats$Rules", "clear", "()V"⟩ ∈ lw_gd := wk_3 (i := 175) (by decide +kernel) rfl
set_option maxRecDepth 100000 in
theorem wm_766 : Cond.code ⟨"WeekBoats$Rules", "clear", "()V"⟩ prog_8_method_2_code 1 none ∈ lw_gd := wk_3 (i := 176) rfl rfl
theorem wm_767 : Cond.methodLink "WeekBoats$Parser" 43 ⟨"WeekBoats$Parser", "scan", "()V"⟩ ∈ lw_gd := wk_3 (i := 177) (by decide +kernel) rfl
theorem wm_769 : Cond.instanceMethod ⟨"WeekBoats$Parser", "scan", "()V"⟩ ∈ lw_gd := wk_3 (i := 179) (by decide +kernel) rfl
set_option maxRecDepth 100000 in
theorem wm_770 : Cond.code ⟨"WeekBoats$Parser", "scan", "()V"⟩ prog_6_method_4_code 5 none ∈ lw_gd := wk_3 (i := 180) rfl rfl
theorem wm_771 : Cond.methodLink "WeekBoats$Parser" 55 ⟨"WeekBoats$Parser", "isLetter", "(I)Z"⟩ ∈ lw_gd := wk_3 (i := 181) (by decide +kernel) rfl
theorem wm_772 : Cond.static ⟨"WeekBoats$Parser", "isLetter", "(I)Z"⟩ ∈ lw_gd := wk_3 (i := 182) (by decide +kernel) rfl
set_option maxRecDepth 100000 in
theorem wm_773 : Cond.code ⟨"WeekBoats$Parser", "isLetter", "(I)Z"⟩ prog_6_method_6_code 1 (some .boolean) ∈ lw_gd := wk_3 (i := 183) rfl rfl
theorem wm_775 : Cond.methodLink "WeekBoats$Parser" 59 ⟨"WeekBoats$Parser", "endOfWord", "(I)I"⟩ ∈ lw_gd := wk_3 (i := 185) (by decide +kernel) rfl
theorem wm_777 : Cond.instanceMethod ⟨"WeekBoats$Parser", "endOfWord", "(I)I"⟩ ∈ lw_gd := wk_3 (i := 187) (by decide +kernel) rfl
set_option maxRecDepth 100000 in
theorem wm_778 : Cond.code ⟨"WeekBoats$Parser", "endOfWord", "(I)I"⟩ prog_6_method_8_code 4 (some .int) ∈ lw_gd := wk_3 (i := 188) rfl rfl
theorem wm_779 : Cond.methodLink "WeekBoats$Parser" 63 ⟨"WeekBoats$Parser", "wordOf", "(II)I"⟩ ∈ lw_gd := wk_3 (i := 189) (by decide +kernel) rfl
theorem wm_781 : Cond.instanceMethod ⟨"WeekBoats$Parser", "wordOf", "(II)I"⟩ ∈ lw_gd := wk_3 (i := 191) (by decide +kernel) rfl
set_option maxRecDepth 100000 in
theorem wm_782 : Cond.code ⟨"WeekBoats$Parser", "wordOf", "(II)I"⟩ prog_6_method_11_code 6 (some .int) ∈ lw_gd := wk_3 (i := 192) rfl rfl
theorem wm_784 : Cond.methodLink "WeekBoats$Parser" 93 ⟨"java/lang/String", "length", "()I"⟩ ∈ lw_gd := wk_3 (i := 194) (by decide +kernel) rfl
theorem wm_785 : Cond.instanceMethod ⟨"java/lang/String", "length", "()I"⟩ ∈ lw_gd := wk_3 (i := 195) (by decide +kernel) rfl
theorem wm_786 : Cond.selects "java/lang/String" ⟨"java/lang/String", "length", "()I"⟩ ⟨"java/lang/String", "length", "()I"⟩ ∈ lw_gd := wk_3 (i := 196) (by decide +kernel) rfl
set_option maxRecDepth 100000 in
theorem wm_787 : Cond.code ⟨"java/lang/String", "length", "()I"⟩ prog_18_method_54_code 1 (some .int) ∈ lw_gd := wk_3 (i := 197) rfl rfl
theorem wm_788 : Cond.methodLink "java/lang/String" 335 ⟨"java/lang/String", "coder", "()B"⟩ ∈ lw_gd := wk_3 (i := 198) (by decide +kernel) rfl
theorem wm_789 : Cond.instanceMethod ⟨"java/lang/String", "coder", "()B"⟩ ∈ lw_gd := wk_3 (i := 199) (by decide +kernel) rfl
theorem wm_790 : Cond.selects "java/lang/String" ⟨"java/lang/String", "coder", "()B"⟩ ⟨"java/lang/String", "coder", "()B"⟩ ∈ lw_gd := wk_3 (i := 200) (by decide +kernel) rfl
set_option maxRecDepth 100000 in
theorem wm_791 : Cond.code ⟨"java/lang/String", "coder", "()B"⟩ prog_18_method_152_code 1 (some .byte) ∈ lw_gd := wk_3 (i := 201) rfl rfl
theorem wm_792 : Cond.fieldLink "java/lang/String" 38 "java/lang/String" "COMPACT_STRINGS" "Z" ∈ lw_gd := wk_3 (i := 202) (by decide +kernel) rfl
theorem wm_794 : Cond.methodLink "WeekBoats$Parser" 96 ⟨"java/lang/String", "charAt", "(I)C"⟩ ∈ lw_gd := wk_3 (i := 204) (by decide +kernel) rfl
theorem wm_795 : Cond.instanceMethod ⟨"java/lang/String", "charAt", "(I)C"⟩ ∈ lw_gd := wk_3 (i := 205) (by decide +kernel) rfl
theorem wm_796 : Cond.selects "java/lang/String" ⟨"java/lang/String", "charAt", "(I)C"⟩ ⟨"java/lang/String", "charAt", "(I)C"⟩ ∈ lw_gd := wk_3 (i := 206) (by decide +kernel) rfl
set_option maxRecDepth 100000 in
theorem wm_797 : Cond.code ⟨"java/lang/String", "charAt", "(I)C"⟩ prog_18_method_56_code 2 (some .char) ∈ lw_gd := wk_3 (i := 207) rfl rfl
theorem wm_798 : Cond.methodLink "java/lang/String" 492 ⟨"java/lang/String", "isLatin1", "()Z"⟩ ∈ lw_gd := wk_3 (i := 208) (by decide +kernel) rfl
theorem wm_799 : Cond.instanceMethod ⟨"java/lang/String", "isLatin1", "()Z"⟩ ∈ lw_gd := wk_3 (i := 209) (by decide +kernel) rfl
theorem wm_800 : Cond.selects "java/lang/String" ⟨"java/lang/String", "isLatin1", "()Z"⟩ ⟨"java/lang/String", "isLatin1", "()Z"⟩ ∈ lw_gd := wk_3 (i := 210) (by decide +kernel) rfl
set_option maxRecDepth 100000 in
theorem wm_801 : Cond.code ⟨"java/lang/String", "isLatin1", "()Z"⟩ prog_18_method_154_code 1 (some .boolean) ∈ lw_gd := wk_3 (i := 211) rfl rfl
theorem wm_802 : Cond.methodLink "java/lang/String" 495 ⟨"java/lang/StringLatin1", "charAt", "([BI)C"⟩ ∈ lw_gd := wk_3 (i := 212) (by decide +kernel) rfl
theorem wm_803 : Cond.static ⟨"java/lang/StringLatin1", "charAt", "([BI)C"⟩ ∈ lw_gd := wk_3 (i := 213) (by decide +kernel) rfl
set_option maxRecDepth 100000 in
theorem wm_804 : Cond.code ⟨"java/lang/StringLatin1", "charAt", "([BI)C"⟩ prog_19_method_2_code 2 (some .char) ∈ lw_gd := wk_3 (i := 214) rfl rfl
theorem wm_805 : Cond.methodLink "java/lang/StringLatin1" 9 ⟨"java/lang/String", "checkIndex", "(II)V"⟩ ∈ lw_gd := wk_3 (i := 215) (by decide +kernel) rfl
theorem wm_806 : Cond.static ⟨"java/lang/String", "checkIndex", "(II)V"⟩ ∈ lw_gd := wk_3 (i := 216) (by decide +kernel) rfl
set_option maxRecDepth 100000 in
theorem wm_807 : Cond.code ⟨"java/lang/String", "checkIndex", "(II)V"⟩ prog_18_method_155_code 2 none ∈ lw_gd := wk_3 (i := 217) rfl rfl
theorem wm_808 : Cond.fieldLink "java/lang/String" 1053 "jdk/internal/util/Preconditions" "SIOOBE_FORMATTER" "Ljava/util/function/BiFunction;" ∈ lw_gd := wk_3 (i := 218) (by decide +kernel) rfl
theorem wm_810 : Cond.methodLink "java/lang/String" 1059 ⟨"jdk/internal/util/Preconditions", "checkIndex", "(IILjava/util/function/BiFunction;)I"⟩ ∈ lw_gd := wk_3 (i := 220) (by decide +kernel) rfl
theorem wm_811 : Cond.static ⟨"jdk/internal/util/Preconditions", "checkIndex", "(IILjava/util/function/BiFunction;)I"⟩ ∈ lw_gd := wk_3 (i := 221) (by decide +kernel) rfl
set_option maxRecDepth 100000 in
theorem wm_812 : Cond.code ⟨"jdk/internal/util/Preconditions", "checkIndex", "(IILjava/util/function/BiFunction;)I"⟩ prog_23_method_11_code 3 (some .int) ∈ lw_gd := wk_3 (i := 222) rfl rfl
theorem wm_813 : Cond.methodLink "java/lang/String" 498 ⟨"java/lang/StringUTF16", "charAt", "([BI)C"⟩ ∈ lw_gd := wk_3 (i := 223) (by decide +kernel) rfl
theorem wm_814 : Cond.static ⟨"java/lang/StringUTF16", "charAt", "([BI)C"⟩ ∈ lw_gd := wk_3 (i := 224) (by decide +kernel) rfl
set_option maxRecDepth 100000 in
theorem wm_815 : Cond.code ⟨"java/lang/StringUTF16", "charAt", "([BI)C"⟩ prog_20_method_83_code 2 (some .char) ∈ lw_gd := wk_3 (i := 225) rfl rfl
theorem wm_816 : Cond.methodLink "java/lang/StringUTF16" 67 ⟨"java/lang/StringUTF16", "checkIndex", "(I[B)V"⟩ ∈ lw_gd := wk_3 (i := 226) (by decide +kernel) rfl
theorem wm_817 : Cond.static ⟨"java/lang/StringUTF16", "checkIndex", "(I[B)V"⟩ ∈ lw_gd := wk_3 (i := 227) (by decide +kernel) rfl
set_option maxRecDepth 100000 in
theorem wm_818 : Cond.code ⟨"java/lang/StringUTF16", "checkIndex", "(I[B)V"⟩ prog_20_method_91_code 2 none ∈ lw_gd := wk_3 (i := 228) rfl rfl
theorem wm_819 : Cond.methodLink "java/lang/StringUTF16" 48 ⟨"java/lang/StringUTF16", "length", "([B)I"⟩ ∈ lw_gd := wk_3 (i := 229) (by decide +kernel) rfl
theorem wm_820 : Cond.static ⟨"java/lang/StringUTF16", "length", "([B)I"⟩ ∈ lw_gd := wk_3 (i := 230) (by decide +kernel) rfl
set_option maxRecDepth 100000 in
theorem wm_821 : Cond.code ⟨"java/lang/StringUTF16", "length", "([B)I"⟩ prog_20_method_6_code 1 (some .int) ∈ lw_gd := wk_3 (i := 231) rfl rfl
theorem wm_822 : Cond.methodLink "java/lang/StringUTF16" 414 ⟨"java/lang/String", "checkIndex", "(II)V"⟩ ∈ lw_gd := wk_3 (i := 232) (by decide +kernel) rfl
theorem wm_823 : Cond.methodLink "java/lang/StringUTF16" 71 ⟨"java/lang/StringUTF16", "getChar", "([BI)C"⟩ ∈ lw_gd := wk_3 (i := 233) (by decide +kernel) rfl
theorem wm_824 : Cond.static ⟨"java/lang/StringUTF16", "getChar", "([BI)C"⟩ ∈ lw_gd := wk_3 (i := 234) (by decide +kernel) rfl
set_option maxRecDepth 100000 in
theorem wm_825 : Cond.code ⟨"java/lang/StringUTF16", "getChar", "([BI)C"⟩ prog_20_method_5_code 2 (some .char) ∈ lw_gd := wk_3 (i := 235) rfl rfl
theorem wm_826 : Cond.fieldLink "java/lang/StringUTF16" 44 "java/lang/StringUTF16" "$assertionsDisabled" "Z" ∈ lw_gd := wk_3 (i := 236) (by decide +kernel) rfl
theorem wm_828 : Cond.fieldLink "java/lang/StringUTF16" 59 "java/lang/StringUTF16" "HI_BYTE_SHIFT" "I" ∈ lw_gd := wk_3 (i := 238) (by decide +kernel) rfl
theorem wm_830 : Cond.fieldLink "java/lang/StringUTF16" 63 "java/lang/StringUTF16" "LO_BYTE_SHIFT" "I" ∈ lw_gd := wk_4 (i := 0) (by decide +kernel) rfl
theorem wm_832 : Cond.methodLink "WeekBoats$Parser" 100 ⟨"WeekBoats$Parser", "isSame", "(III)Z"⟩ ∈ lw_gd := wk_4 (i := 2) (by decide +kernel) rfl
theorem wm_834 : Cond.instanceMethod ⟨"WeekBoats$Parser", "isSame", "(III)Z"⟩ ∈ lw_gd := wk_4 (i := 4) (by decide +kernel) rfl
set_option maxRecDepth 100000 in
theorem wm_835 : Cond.code ⟨"WeekBoats$Parser", "isSame", "(III)Z"⟩ prog_6_method_12_code 5 (some .boolean) ∈ lw_gd := wk_4 (i := 5) rfl rfl
theorem wm_836 : Cond.methodLink "WeekBoats$Parser" 67 ⟨"WeekBoats$Parser", "add", "(II)V"⟩ ∈ lw_gd := wk_4 (i := 6) (by decide +kernel) rfl
theorem wm_838 : Cond.instanceMethod ⟨"WeekBoats$Parser", "add", "(II)V"⟩ ∈ lw_gd := wk_4 (i := 8) (by decide +kernel) rfl
set_option maxRecDepth 100000 in
theorem wm_839 : Cond.code ⟨"WeekBoats$Parser", "add", "(II)V"⟩ prog_6_method_5_code 3 none ∈ lw_gd := wk_4 (i := 9) rfl rfl
theorem wm_840 : Cond.methodLink "WeekBoats$Parser" 71 ⟨"WeekBoats$Parser", "isDigit", "(I)Z"⟩ ∈ lw_gd := wk_4 (i := 10) (by decide +kernel) rfl
theorem wm_841 : Cond.static ⟨"WeekBoats$Parser", "isDigit", "(I)Z"⟩ ∈ lw_gd := wk_4 (i := 11) (by decide +kernel) rfl
set_option maxRecDepth 100000 in
theorem wm_842 : Cond.code ⟨"WeekBoats$Parser", "isDigit", "(I)Z"⟩ prog_6_method_7_code 1 (some .boolean) ∈ lw_gd := wk_4 (i := 12) rfl rfl
theorem wm_843 : Cond.methodLink "WeekBoats$Parser" 74 ⟨"WeekBoats$Parser", "endOfDigits", "(I)I"⟩ ∈ lw_gd := wk_4 (i := 13) (by decide +kernel) rfl
theorem wm_845 : Cond.instanceMethod ⟨"WeekBoats$Parser", "endOfDigits", "(I)I"⟩ ∈ lw_gd := wk_4 (i := 15) (by decide +kernel) rfl
set_option maxRecDepth 100000 in
theorem wm_846 : Cond.code ⟨"WeekBoats$Parser", "endOfDigits", "(I)I"⟩ prog_6_method_9_code 4 (some .int) ∈ lw_gd := wk_4 (i := 16) rfl rfl
theorem wm_847 : Cond.methodLink "WeekBoats$Parser" 77 ⟨"WeekBoats$Parser", "numberOf", "(II)I"⟩ ∈ lw_gd := wk_4 (i := 17) (by decide +kernel) rfl
theorem wm_849 : Cond.instanceMethod ⟨"WeekBoats$Parser", "numberOf", "(II)I"⟩ ∈ lw_gd := wk_4 (i := 19) (by decide +kernel) rfl
set_option maxRecDepth 100000 in
theorem wm_850 : Cond.code ⟨"WeekBoats$Parser", "numberOf", "(II)I"⟩ prog_6_method_10_code 5 (some .int) ∈ lw_gd := wk_4 (i := 20) rfl rfl
theorem wm_852 : Cond.methodLink "WeekBoats$Parser" 82 ⟨"java/lang/String", "indexOf", "(I)I"⟩ ∈ lw_gd := wk_4 (i := 22) (by decide +kernel) rfl
theorem wm_853 : Cond.instanceMethod ⟨"java/lang/String", "indexOf", "(I)I"⟩ ∈ lw_gd := wk_4 (i := 23) (by decide +kernel) rfl
theorem wm_854 : Cond.selects "java/lang/String" ⟨"java/lang/String", "indexOf", "(I)I"⟩ ⟨"java/lang/String", "indexOf", "(I)I"⟩ ∈ lw_gd := wk_4 (i := 24) (by decide +kernel) rfl
set_option maxRecDepth 100000 in
theorem wm_855 : Cond.code ⟨"java/lang/String", "indexOf", "(I)I"⟩ prog_18_method_79_code 2 (some .int) ∈ lw_gd := wk_4 (i := 25) rfl rfl
theorem wm_856 : Cond.methodLink "java/lang/String" 633 ⟨"java/lang/String", "indexOf", "(II)I"⟩ ∈ lw_gd := wk_4 (i := 26) (by decide +kernel) rfl
theorem wm_857 : Cond.instanceMethod ⟨"java/lang/String", "indexOf", "(II)I"⟩ ∈ lw_gd := wk_4 (i := 27) (by decide +kernel) rfl
theorem wm_858 : Cond.selects "java/lang/String" ⟨"java/lang/String", "indexOf", "(II)I"⟩ ⟨"java/lang/String", "indexOf", "(II)I"⟩ ∈ lw_gd := wk_4 (i := 28) (by decide +kernel) rfl
set_option maxRecDepth 100000 in
theorem wm_859 : Cond.code ⟨"java/lang/String", "indexOf", "(II)I"⟩ prog_18_method_80_code 3 (some .int) ∈ lw_gd := wk_4 (i := 29) rfl rfl
theorem wm_860 : Cond.methodLink "java/lang/String" 505 ⟨"java/lang/String", "length", "()I"⟩ ∈ lw_gd := wk_4 (i := 30) (by decide +kernel) rfl
theorem wm_861 : Cond.methodLink "java/lang/String" 637 ⟨"java/lang/StringLatin1", "indexOf", "([BIII)I"⟩ ∈ lw_gd := wk_4 (i := 31) (by decide +kernel) rfl
theorem wm_862 : Cond.static ⟨"java/lang/StringLatin1", "indexOf", "([BIII)I"⟩ ∈ lw_gd := wk_4 (i := 32) (by decide +kernel) rfl
set_option maxRecDepth 100000 in
theorem wm_863 : Cond.code ⟨"java/lang/StringLatin1", "indexOf", "([BIII)I"⟩ prog_19_method_22_code 4 (some .int) ∈ lw_gd := wk_4 (i := 33) rfl rfl
theorem wm_864 : Cond.methodLink "java/lang/StringLatin1" 88 ⟨"java/lang/StringLatin1", "canEncode", "(I)Z"⟩ ∈ lw_gd := wk_4 (i := 34) (by decide +kernel) rfl
theorem wm_865 : Cond.static ⟨"java/lang/StringLatin1", "canEncode", "(I)Z"⟩ ∈ lw_gd := wk_4 (i := 35) (by decide +kernel) rfl
set_option maxRecDepth 100000 in
theorem wm_866 : Cond.code ⟨"java/lang/StringLatin1", "canEncode", "(I)Z"⟩ prog_19_method_4_code 1 (some .boolean) ∈ lw_gd := wk_4 (i := 36) rfl rfl
theorem wm_867 : Cond.methodLink "java/lang/StringLatin1" 92 ⟨"java/lang/Math", "max", "(II)I"⟩ ∈ lw_gd := wk_4 (i := 37) (by decide +kernel) rfl
theorem wm_868 : Cond.static ⟨"java/lang/Math", "max", "(II)I"⟩ ∈ lw_gd := wk_4 (i := 38) (by decide +kernel) rfl
set_option maxRecDepth 100000 in
theorem wm_869 : Cond.code ⟨"java/lang/Math", "max", "(II)I"⟩ prog_17_method_65_code 2 (some .int) ∈ lw_gd := wk_4 (i := 39) rfl rfl
theorem wm_870 : Cond.methodLink "java/lang/StringLatin1" 38 ⟨"java/lang/Math", "min", "(II)I"⟩ ∈ lw_gd := wk_4 (i := 40) (by decide +kernel) rfl
theorem wm_871 : Cond.static ⟨"java/lang/Math", "min", "(II)I"⟩ ∈ lw_gd := wk_4 (i := 41) (by decide +kernel) rfl
set_option maxRecDepth 100000 in
theorem wm_872 : Cond.code ⟨"java/lang/Math", "min", "(II)I"⟩ prog_17_method_69_code 2 (some .int) ∈ lw_gd := wk_4 (i := 42) rfl rfl
theorem wm_873 : Cond.methodLink "java/lang/StringLatin1" 95 ⟨"java/lang/StringLatin1", "indexOfChar", "([BIII)I"⟩ ∈ lw_gd := wk_4 (i := 43) (by decide +kernel) rfl
theorem wm_874 : Cond.static ⟨"java/lang/StringLatin1", "indexOfChar", "([BIII)I"⟩ ∈ lw_gd := wk_4 (i := 44) (by decide +kernel) rfl
set_option maxRecDepth 100000 in
theorem wm_875 : Cond.code ⟨"java/lang/StringLatin1", "indexOfChar", "([BIII)I"⟩ prog_19_method_23_code 6 (some .int) ∈ lw_gd := wk_4 (i := 45) rfl rfl
theorem wm_876 : Cond.methodLink "java/lang/String" 640 ⟨"java/lang/StringUTF16", "indexOf", "([BIII)I"⟩ ∈ lw_gd := wk_4 (i := 46) (by decide +kernel) rfl
theorem wm_877 : Cond.static ⟨"java/lang/StringUTF16", "indexOf", "([BIII)I"⟩ ∈ lw_gd := wk_4 (i := 47) (by decide +kernel) rfl
set_option maxRecDepth 100000 in
theorem wm_878 : Cond.code ⟨"java/lang/StringUTF16", "indexOf", "([BIII)I"⟩ prog_20_method_40_code 4 (some .int) ∈ lw_gd := wk_4 (i := 48) rfl rfl
theorem wm_879 : Cond.methodLink "java/lang/StringUTF16" 224 ⟨"java/lang/Math", "max", "(II)I"⟩ ∈ lw_gd := wk_4 (i := 49) (by decide +kernel) rfl
theorem wm_880 : Cond.methodLink "java/lang/StringUTF16" 183 ⟨"java/lang/Math", "min", "(II)I"⟩ ∈ lw_gd := wk_4 (i := 50) (by decide +kernel) rfl
theorem wm_881 : Cond.constant "java/lang/StringUTF16" 227 65536 ∈ lw_gd := wk_4 (i := 51) (by decide +kernel) rfl
theorem wm_882 : Cond.methodLink "java/lang/StringUTF16" 228 ⟨"java/lang/StringUTF16", "indexOfChar", "([BIII)I"⟩ ∈ lw_gd := wk_4 (i := 52) (by decide +kernel) rfl
theorem wm_883 : Cond.static ⟨"java/lang/StringUTF16", "indexOfChar", "([BIII)I"⟩ ∈ lw_gd := wk_4 (i := 53) (by decide +kernel) rfl
set_option maxRecDepth 100000 in
theorem wm_884 : Cond.code ⟨"java/lang/StringUTF16", "indexOfChar", "([BIII)I"⟩ prog_20_method_47_code 4 (some .int) ∈ lw_gd := wk_4 (i := 54) rfl rfl
theorem wm_885 : Cond.methodLink "java/lang/StringUTF16" 96 ⟨"java/lang/StringUTF16", "checkBoundsBeginEnd", "(II[B)V"⟩ ∈ lw_gd := wk_4 (i := 55) (by decide +kernel) rfl
theorem wm_886 : Cond.static ⟨"java/lang/StringUTF16", "checkBoundsBeginEnd", "(II[B)V"⟩ ∈ lw_gd := wk_4 (i := 56) (by decide +kernel) rfl
set_option maxRecDepth 100000 in
theorem wm_887 : Cond.code ⟨"java/lang/StringUTF16", "checkBoundsBeginEnd", "(II[B)V"⟩ prog_20_method_93_code 3 none ∈ lw_gd := wk_4 (i := 57) rfl rfl
theorem wm_888 : Cond.methodLink "java/lang/StringUTF16" 241 ⟨"java/lang/String", "checkBoundsBeginEnd", "(III)V"⟩ ∈ lw_gd := wk_4 (i := 58) (by decide +kernel) rfl
theorem wm_889 : Cond.static ⟨"java/lang/String", "checkBoundsBeginEnd", "(III)V"⟩ ∈ lw_gd := wk_4 (i := 59) (by decide +kernel) rfl
set_option maxRecDepth 100000 in
theorem wm_890 : Cond.code ⟨"java/lang/String", "checkBoundsBeginEnd", "(III)V"⟩ prog_18_method_158_code 3 none ∈ lw_gd := wk_4 (i := 60) rfl rfl
theorem wm_891 : Cond.methodLink "java/lang/String" 1062 ⟨"jdk/internal/util/Preconditions", "checkFromToIndex", "(IIILjava/util/function/BiFunction;)I"⟩ ∈ lw_gd := wk_4 (i := 61) (by decide +kernel) rfl
theorem wm_892 : Cond.static ⟨"jdk/internal/util/Preconditions", "checkFromToIndex", "(IIILjava/util/function/BiFunction;)I"⟩ ∈ lw_gd := wk_4 (i := 62) (by decide +kernel) rfl
set_option maxRecDepth 100000 in
theorem wm_893 : Cond.code ⟨"jdk/internal/util/Preconditions", "checkFromToIndex", "(IIILjava/util/function/BiFunction;)I"⟩ prog_23_method_12_code 4 (some .int) ∈ lw_gd := wk_4 (i := 63) rfl rfl
theorem wm_894 : Cond.methodLink "java/lang/StringUTF16" 244 ⟨"java/lang/StringUTF16", "indexOfCharUnsafe", "([BIII)I"⟩ ∈ lw_gd := wk_4 (i := 64) (by decide +kernel) rfl
theorem wm_895 : Cond.static ⟨"java/lang/StringUTF16", "indexOfCharUnsafe", "([BIII)I"⟩ ∈ lw_gd := wk_4 (i := 65) (by decide +kernel) rfl
set_option maxRecDepth 100000 in
theorem wm_896 : Cond.code ⟨"java/lang/StringUTF16", "indexOfCharUnsafe", "([BIII)I"⟩ prog_20_method_48_code 5 (some .int) ∈ lw_gd := wk_4 (i := 66) rfl rfl
theorem wm_897 : Cond.methodLink "java/lang/StringUTF16" 232 ⟨"java/lang/StringUTF16", "indexOfSupplementary", "([BIII)I"⟩ ∈ lw_gd := wk_4 (i := 67) (by decide +kernel) rfl
theorem wm_898 : Cond.static ⟨"java/lang/StringUTF16", "indexOfSupplementary", "([BIII)I"⟩ ∈ lw_gd := wk_4 (i := 68) (by decide +kernel) rfl
set_option maxRecDepth 100000 in
theorem wm_899 : Cond.code ⟨"java/lang/StringUTF16", "indexOfSupplementary", "([BIII)I"⟩ prog_20_method_49_code 7 (some .int) ∈ lw_gd := wk_4 (i := 69) rfl rfl
theorem wm_900 : Cond.methodLink "java/lang/StringUTF16" 164 ⟨"java/lang/Character", "isValidCodePoint", "(I)Z"⟩ ∈ lw_gd := wk_4 (i := 70) (by decide +kernel) rfl
theorem wm_901 : Cond.static ⟨"java/lang/Character", "isValidCodePoint", "(I)Z"⟩ ∈ lw_gd := wk_4 (i := 71) (by decide +kernel) rfl
set_option maxRecDepth 100000 in
theorem wm_902 : Cond.code ⟨"java/lang/Character", "isValidCodePoint", "(I)Z"⟩ prog_15_method_11_code 2 (some .boolean) ∈ lw_gd := wk_4 (i := 72) rfl rfl
theorem wm_903 : Cond.methodLink "java/lang/StringUTF16" 157 ⟨"java/lang/Character", "highSurrogate", "(I)C"⟩ ∈ lw_gd := wk_4 (i := 73) (by decide +kernel) rfl
theorem wm_904 : Cond.static ⟨"java/lang/Character", "highSurrogate", "(I)C"⟩ ∈ lw_gd := wk_4 (i := 74) (by decide +kernel) rfl
set_option maxRecDepth 100000 in
theorem wm_905 : Cond.code ⟨"java/lang/Character", "highSurrogate", "(I)C"⟩ prog_15_method_28_code 1 (some .char) ∈ lw_gd := wk_4 (i := 75) rfl rfl
theorem wm_906 : Cond.constant "java/lang/Character" 110 55232 ∈ lw_gd := wk_4 (i := 76) (by decide +kernel) rfl
theorem wm_907 : Cond.methodLink "java/lang/StringUTF16" 161 ⟨"java/lang/Character", "lowSurrogate", "(I)C"⟩ ∈ lw_gd := wk_4 (i := 77) (by decide +kernel) rfl
theorem wm_908 : Cond.static ⟨"java/lang/Character", "lowSurrogate", "(I)C"⟩ ∈ lw_gd := wk_4 (i := 78) (by decide +kernel) rfl
set_option maxRecDepth 100000 in
theorem wm_909 : Cond.code ⟨"java/lang/Character", "lowSurrogate", "(I)C"⟩ prog_15_method_29_code 1 (some .char) ∈ lw_gd := wk_4 (i := 79) rfl rfl
theorem wm_910 : Cond.constant "java/lang/Character" 76 56320 ∈ lw_gd := wk_4 (i := 80) (by decide +kernel) rfl
theorem wm_911 : Cond.methodLink "WeekBoats$Parser" 46 ⟨"WeekBoats$Parser", "readLine", "()V"⟩ ∈ lw_gd := wk_4 (i := 81) (by decide +kernel) rfl
theorem wm_913 : Cond.instanceMethod ⟨"WeekBoats$Parser", "readLine", "()V"⟩ ∈ lw_gd := wk_4 (i := 83) (by decide +kernel) rfl
set_option maxRecDepth 100000 in
theorem wm_914 : Cond.code ⟨"WeekBoats$Parser", "readLine", "()V"⟩ prog_6_method_16_code 3 none ∈ lw_gd := wk_4 (i := 84) rfl rfl
theorem wm_915 : Cond.methodLink "WeekBoats$Parser" 103 ⟨"WeekBoats$Parser", "fail", "(I)V"⟩ ∈ lw_gd := wk_4 (i := 85) (by decide +kernel) rfl
theorem wm_917 : Cond.instanceMethod ⟨"WeekBoats$Parser", "fail", "(I)V"⟩ ∈ lw_gd := wk_4 (i := 87) (by decide +kernel) rfl
set_option maxRecDepth 100000 in
theorem wm_918 : Cond.code ⟨"WeekBoats$Parser", "fail", "(I)V"⟩ prog_6_method_13_code 2 none ∈ lw_gd := wk_4 (i := 88) rfl rfl
theorem wm_919 : Cond.methodLink "WeekBoats$Parser" 107 ⟨"WeekBoats$Parser", "goOn", "()V"⟩ ∈ lw_gd := wk_4 (i := 89) (by decide +kernel) rfl
theorem wm_921 : Cond.instanceMethod ⟨"WeekBoats$Parser", "goOn", "()V"⟩ ∈ lw_gd := wk_4 (i := 91) (by decide +kernel) rfl
set_option maxRecDepth 100000 in
theorem wm_922 : Cond.code ⟨"WeekBoats$Parser", "goOn", "()V"⟩ prog_6_method_15_code 1 none ∈ lw_gd := wk_4 (i := 92) rfl rfl
theorem wm_923 : Cond.methodLink "WeekBoats$Parser" 119 ⟨"WeekBoats$Parser", "readTunnel", "()V"⟩ ∈ lw_gd := wk_4 (i := 93) (by decide +kernel) rfl
theorem wm_925 : Cond.instanceMethod ⟨"WeekBoats$Parser", "readTunnel", "()V"⟩ ∈ lw_gd := wk_4 (i := 95) (by decide +kernel) rfl
set_option maxRecDepth 100000 in
theorem wm_926 : Cond.code ⟨"WeekBoats$Parser", "readTunnel", "()V"⟩ prog_6_method_17_code 3 none ∈ lw_gd := wk_4 (i := 96) rfl rfl
theorem wm_927 : Cond.methodLink "WeekBoats$Parser" 125 ⟨"WeekBoats$Parser", "numberUpTo", "(I)I"⟩ ∈ lw_gd := wk_4 (i := 97) (by decide +kernel) rfl
theorem wm_929 : Cond.instanceMethod ⟨"WeekBoats$Parser", "numberUpTo", "(I)I"⟩ ∈ lw_gd := wk_4 (i := 99) (by decide +kernel) rfl
set_option maxRecDepth 100000 in
theorem wm_930 : Cond.code ⟨"WeekBoats$Parser", "numberUpTo", "(I)I"⟩ prog_6_method_18_code 3 (some .int) ∈ lw_gd := wk_4 (i := 100) rfl rfl
theorem wm_931 : Cond.methodLink "WeekBoats$Parser" 137 ⟨"WeekBoats$Parser", "is", "(I)Z"⟩ ∈ lw_gd := wk_4 (i := 101) (by decide +kernel) rfl
theorem wm_933 : Cond.instanceMethod ⟨"WeekBoats$Parser", "is", "(I)Z"⟩ ∈ lw_gd := wk_4 (i := 103) (by decide +kernel) rfl
set_option maxRecDepth 100000 in
theorem wm_934 : Cond.code ⟨"WeekBoats$Parser", "is", "(I)Z"⟩ prog_6_method_14_code 2 (some .boolean) ∈ lw_gd := wk_4 (i := 104) rfl rfl
theorem wm_935 : Cond.methodLink "WeekBoats$Parser" 149 ⟨"WeekBoats$Rules", "hasTunnel", "(I)Z"⟩ ∈ lw_gd := wk_4 (i := 105) (by decide +kernel) rfl
theorem wm_936 : Cond.instanceMethod ⟨"WeekBoats$Rules", "hasTunnel", "(I)Z"⟩ ∈ lw_gd := wk_4 (i := 106) (by decide +kernel) rfl
theorem wm_937 : Cond.selects "WeekBoats$Rules" ⟨"WeekBoats$Rules", "hasTunnel", "(I)Z"⟩ ⟨"WeekBoats$Rules", "hasTunnel", "(I)Z"⟩ ∈ lw_gd := wk_4 (i := 107) (by decide +kernel) rfl
set_option maxRecDepth 100000 in
theorem wm_938 : Cond.code ⟨"WeekBoats$Rules", "hasTunnel", "(I)Z"⟩ prog_8_method_5_code 2 (some .boolean) ∈ lw_gd := wk_4 (i := 108) rfl rfl
theorem wm_939 : Cond.methodLink "WeekBoats$Parser" 131 ⟨"WeekBoats$Parser", "readSum", "()V"⟩ ∈ lw_gd := wk_4 (i := 109) (by decide +kernel) rfl
theorem wm_941 : Cond.instanceMethod ⟨"WeekBoats$Parser", "readSum", "()V"⟩ ∈ lw_gd := wk_4 (i := 111) (by decide +kernel) rfl
set_option maxRecDepth 100000 in
theorem wm_942 : Cond.code ⟨"WeekBoats$Parser", "readSum", "()V"⟩ prog_6_method_25_code 3 none ∈ lw_gd := wk_4 (i := 112) rfl rfl
theorem wm_943 : Cond.methodLink "WeekBoats$Parser" 176 ⟨"WeekBoats$Parser", "readProduct", "()V"⟩ ∈ lw_gd := wk_4 (i := 113) (by decide +kernel) rfl
theorem wm_945 : Cond.instanceMethod ⟨"WeekBoats$Parser", "readProduct", "()V"⟩ ∈ lw_gd := wk_4 (i := 115) (by decide +kernel) rfl
set_option maxRecDepth 100000 in
theorem wm_946 : Cond.code ⟨"WeekBoats$Parser", "readProduct", "()V"⟩ prog_6_method_26_code 3 none ∈ lw_gd := wk_4 (i := 116) rfl rfl
theorem wm_947 : Cond.methodLink "WeekBoats$Parser" 179 ⟨"WeekBoats$Parser", "readUnit", "()V"⟩ ∈ lw_gd := wk_4 (i := 117) (by decide +kernel) rfl
theorem wm_949 : Cond.instanceMethod ⟨"WeekBoats$Parser", "readUnit", "()V"⟩ ∈ lw_gd := wk_4 (i := 119) (by decide +kernel) rfl
set_option maxRecDepth 100000 in
theorem wm_950 : Cond.code ⟨"WeekBoats$Parser", "readUnit", "()V"⟩ prog_6_method_27_code 2 none ∈ lw_gd := wk_4 (i := 120) rfl rfl
theorem wm_951 : Cond.methodLink "WeekBoats$Parser" 164 ⟨"WeekBoats$Rules", "put", "(II)V"⟩ ∈ lw_gd := wk_4 (i := 121) (by decide +kernel) rfl
theorem wm_952 : Cond.instanceMethod ⟨"WeekBoats$Rules", "put", "(II)V"⟩ ∈ lw_gd := wk_4 (i := 122) (by decide +kernel) rfl
theorem wm_953 : Cond.selects "WeekBoats$Rules" ⟨"WeekBoats$Rules", "put", "(II)V"⟩ ⟨"WeekBoats$Rules", "put", "(II)V"⟩ ∈ lw_gd := wk_4 (i := 123) (by decide +kernel) rfl
set_option maxRecDepth 100000 in
theorem wm_954 : Cond.code ⟨"WeekBoats$Rules", "put", "(II)V"⟩ prog_8_method_4_code 3 none ∈ lw_gd := wk_4 (i := 124) rfl rfl
theorem wm_955 : Cond.methodLink "WeekBoats$Parser" 182 ⟨"WeekBoats$Parser", "readPart", "()V"⟩ ∈ lw_gd := wk_4 (i := 125) (by decide +kernel) rfl
theorem wm_957 : Cond.instanceMethod ⟨"WeekBoats$Parser", "readPart", "()V"⟩ ∈ lw_gd := wk_4 (i := 127) (by decide +kernel) rfl
set_option maxRecDepth 100000 in
theorem wm_958 : Cond.code ⟨"WeekBoats$Parser", "readPart", "()V"⟩ prog_6_method_28_code 2 none ∈ lw_gd := wk_4 (i := 128) rfl rfl
theorem wm_959 : Cond.methodLink "WeekBoats$Parser" 140 ⟨"WeekBoats$Parser", "readEither", "(I)V"⟩ ∈ lw_gd := wk_4 (i := 129) (by decide +kernel) rfl
theorem wm_961 : Cond.instanceMethod ⟨"WeekBoats$Parser", "readEither", "(I)V"⟩ ∈ lw_gd := wk_4 (i := 131) (by decide +kernel) rfl
set_option maxRecDepth 100000 in
theorem wm_962 : Cond.code ⟨"WeekBoats$Parser", "readEither", "(I)V"⟩ prog_6_method_20_code 3 none ∈ lw_gd := wk_4 (i := 132) rfl rfl
theorem wm_963 : Cond.methodLink "WeekBoats$Parser" 161 ⟨"WeekBoats$Parser", "readAll", "(I)V"⟩ ∈ lw_gd := wk_4 (i := 133) (by decide +kernel) rfl
theorem wm_965 : Cond.instanceMethod ⟨"WeekBoats$Parser", "readAll", "(I)V"⟩ ∈ lw_gd := wk_4 (i := 135) (by decide +kernel) rfl
set_option maxRecDepth 100000 in
theorem wm_966 : Cond.code ⟨"WeekBoats$Parser", "readAll", "(I)V"⟩ prog_6_method_21_code 3 none ∈ lw_gd := wk_4 (i := 136) rfl rfl
theorem wm_967 : Cond.methodLink "WeekBoats$Parser" 167 ⟨"WeekBoats$Parser", "readOne", "(I)V"⟩ ∈ lw_gd := wk_4 (i := 137) (by decide +kernel) rfl
theorem wm_969 : Cond.instanceMethod ⟨"WeekBoats$Parser", "readOne", "(I)V"⟩ ∈ lw_gd := wk_4 (i := 139) (by decide +kernel) rfl
set_option maxRecDepth 100000 in
theorem wm_970 : Cond.code ⟨"WeekBoats$Parser", "readOne", "(I)V"⟩ prog_6_method_22_code 4 none ∈ lw_gd := wk_4 (i := 140) rfl rfl
theorem wm_971 : Cond.methodLink "WeekBoats$Parser" 170 ⟨"WeekBoats$Parser", "openOneMore", "(I)V"⟩ ∈ lw_gd := wk_4 (i := 141) (by decide +kernel) rfl
theorem wm_973 : Cond.instanceMethod ⟨"WeekBoats$Parser", "openOneMore", "(I)V"⟩ ∈ lw_gd := wk_4 (i := 143) (by decide +kernel) rfl
set_option maxRecDepth 100000 in
theorem wm_974 : Cond.code ⟨"WeekBoats$Parser", "openOneMore", "(I)V"⟩ prog_6_method_23_code 2 none ∈ lw_gd := wk_4 (i := 144) rfl rfl
theorem wm_975 : Cond.methodLink "WeekBoats$Parser" 146 ⟨"WeekBoats$Parser", "demand", "(I)V"⟩ ∈ lw_gd := wk_4 (i := 145) (by decide +kernel) rfl
theorem wm_977 : Cond.instanceMethod ⟨"WeekBoats$Parser", "demand", "(I)V"⟩ ∈ lw_gd := wk_4 (i := 147) (by decide +kernel) rfl
set_option maxRecDepth 100000 in
theorem wm_978 : Cond.code ⟨"WeekBoats$Parser", "demand", "(I)V"⟩ prog_6_method_19_code 2 none ∈ lw_gd := wk_4 (i := 148) rfl rfl
theorem wm_979 : Cond.methodLink "WeekBoats$Parser" 173 ⟨"WeekBoats$Parser", "demandComparing", "()V"⟩ ∈ lw_gd := wk_4 (i := 149) (by decide +kernel) rfl
theorem wm_981 : Cond.instanceMethod ⟨"WeekBoats$Parser", "demandComparing", "()V"⟩ ∈ lw_gd := wk_4 (i := 151) (by decide +kernel) rfl
set_option maxRecDepth 100000 in
theorem wm_982 : Cond.code ⟨"WeekBoats$Parser", "demandComparing", "()V"⟩ prog_6_method_24_code 1 none ∈ lw_gd := wk_4 (i := 152) rfl rfl
theorem wm_983 : Cond.methodLink "WeekBoats" 161 ⟨"WeekBoats$Rules", "takeOver", "(LWeekBoats$Rules;)V"⟩ ∈ lw_gd := wk_4 (i := 153) (by decide +kernel) rfl
theorem wm_984 : Cond.instanceMethod ⟨"WeekBoats$Rules", "takeOver", "(LWeekBoats$Rules;)V"⟩ ∈ lw_gd := wk_4 (i := 154) (by decide +kernel) rfl
theorem wm_985 : Cond.selects "WeekBoats$Rules" ⟨"WeekBoats$Rules", "takeOver", "(LWeekBoats$Rules;)V"⟩ ⟨"WeekBoats$Rules", "takeOver", "(LWeekBoats$Rules;)V"⟩ ∈ lw_gd := wk_4 (i := 155) (by decide +kernel) rfl
set_option maxRecDepth 100000 in
theorem wm_986 : Cond.code ⟨"WeekBoats$Rules", "takeOver", "(LWeekBoats$Rules;)V"⟩ prog_8_method_3_code 2 none ∈ lw_gd := wk_4 (i := 156) rfl rfl
theorem wm_987 : Cond.methodLink "WeekBoats$Rules" 64 ⟨"java/lang/System", "arraycopy", "(Ljava/lang/Object;ILjava/lang/Object;II)V"⟩ ∈ lw_gd := wk_4 (i := 157) (by decide +kernel) rfl
theorem wm_988 : Cond.static ⟨"java/lang/System", "arraycopy", "(Ljava/lang/Object;ILjava/lang/Object;II)V"⟩ ∈ lw_gd := wk_4 (i := 158) (by decide +kernel) rfl
theorem wm_989 : Cond.native ⟨"java/lang/System", "arraycopy", "(Ljava/lang/Object;ILjava/lang/Object;II)V"⟩ ∈ lw_gd := wk_4 (i := 159) (by decide +kernel) rfl
theorem wm_991 : Cond.methodLink "WeekBoatsLaw" 47 ⟨"WeekBoats", "fault", "(I)I"⟩ ∈ lw_gd := wk_4 (i := 161) (by decide +kernel) rfl
theorem wm_992 : Cond.instanceMethod ⟨"WeekBoats", "fault", "(I)I"⟩ ∈ lw_gd := wk_4 (i := 162) (by decide +kernel) rfl
theorem wm_993 : Cond.selects "WeekBoats" ⟨"WeekBoats", "fault", "(I)I"⟩ ⟨"WeekBoats", "fault", "(I)I"⟩ ∈ lw_gd := wk_4 (i := 163) (by decide +kernel) rfl
set_option maxRecDepth 100000 in
theorem wm_994 : Cond.code ⟨"WeekBoats", "fault", "(I)I"⟩ prog_1_method_16_code 2 (some .int) ∈ lw_gd := wk_4 (i := 164) rfl rfl
theorem wm_995 : Cond.methodLink "WeekBoatsLaw" 52 ⟨"WeekBoats", "open", "(II)I"⟩ ∈ lw_gd := wk_4 (i := 165) (by decide +kernel) rfl
theorem wm_996 : Cond.instanceMethod ⟨"WeekBoats", "open", "(II)I"⟩ ∈ lw_gd := wk_4 (i := 166) (by decide +kernel) rfl
theorem wm_997 : Cond.selects "WeekBoats" ⟨"WeekBoats", "open", "(II)I"⟩ ⟨"WeekBoats", "open", "(II)I"⟩ ∈ lw_gd := wk_4 (i := 167) (by decide +kernel) rfl
set_option maxRecDepth 100000 in
theorem wm_998 : Cond.code ⟨"WeekBoats", "open", "(II)I"⟩ prog_1_method_17_code 3 (some .int) ∈ lw_gd := wk_4 (i := 168) rfl rfl
theorem wm_999 : Cond.methodLink "WeekBoatsLaw" 57 ⟨"WeekBoats", "comes", "(IIII)I"⟩ ∈ lw_gd := wk_4 (i := 169) (by decide +kernel) rfl
theorem wm_1000 : Cond.instanceMethod ⟨"WeekBoats", "comes", "(IIII)I"⟩ ∈ lw_gd := wk_4 (i := 170) (by decide +kernel) rfl
theorem wm_1001 : Cond.selects "WeekBoats" ⟨"WeekBoats", "comes", "(IIII)I"⟩ ⟨"WeekBoats", "comes", "(IIII)I"⟩ ∈ lw_gd := wk_4 (i := 171) (by decide +kernel) rfl
set_option maxRecDepth 100000 in
theorem wm_1002 : Cond.code ⟨"WeekBoats", "comes", "(IIII)I"⟩ prog_1_method_18_code 5 (some .int) ∈ lw_gd := wk_4 (i := 172) rfl rfl
theorem wm_1003 : Cond.methodLink "WeekBoats" 176 ⟨"WeekBoats", "isWay", "(IIII)Z"⟩ ∈ lw_gd := wk_4 (i := 173) (by decide +kernel) rfl
theorem wm_1005 : Cond.instanceMethod ⟨"WeekBoats", "isWay", "(IIII)Z"⟩ ∈ lw_gd := wk_4 (i := 175) (by decide +kernel) rfl
set_option maxRecDepth 100000 in
theorem wm_1006 : Cond.code ⟨"WeekBoats", "isWay", "(IIII)Z"⟩ prog_1_method_8_code 5 (some .boolean) ∈ lw_gd := wk_4 (i := 176) rfl rfl
theorem wm_1007 : Cond.methodLink "WeekBoats" 107 ⟨"WeekBoats", "isBoat", "(I)Z"⟩ ∈ lw_gd := wk_4 (i := 177) (by decide +kernel) rfl
theorem wm_1009 : Cond.instanceMethod ⟨"WeekBoats", "isBoat", "(I)Z"⟩ ∈ lw_gd := wk_4 (i := 179) (by decide +kernel) rfl
set_option maxRecDepth 100000 in
theorem wm_1010 : Cond.code ⟨"WeekBoats", "isBoat", "(I)Z"⟩ prog_1_method_7_code 2 (some .boolean) ∈ lw_gd := wk_4 (i := 180) rfl rfl
theorem wm_1011 : Cond.methodLink "WeekBoats" 114 ⟨"WeekBoats", "isTime", "(I)Z"⟩ ∈ lw_gd := wk_4 (i := 181) (by decide +kernel) rfl
theorem wm_1012 : Cond.static ⟨"WeekBoats", "isTime", "(I)Z"⟩ ∈ lw_gd := wk_4 (i := 182) (by decide +kernel) rfl
set_option maxRecDepth 100000 in
theorem wm_1013 : Cond.code ⟨"WeekBoats", "isTime", "(I)Z"⟩ prog_1_method_4_code 1 (some .boolean) ∈ lw_gd := wk_4 (i := 183) rfl rfl
theorem wm_1014 : Cond.methodLink "WeekBoats" 183 ⟨"WeekBoats$Voyage", "comesTo", "(IIIIZ)I"⟩ ∈ lw_gd := wk_4 (i := 184) (by decide +kernel) rfl
theorem wm_1015 : Cond.instanceMethod ⟨"WeekBoats$Voyage", "comesTo", "(IIIIZ)I"⟩ ∈ lw_gd := wk_4 (i := 185) (by decide +kernel) rfl
theorem wm_1016 : Cond.selects "WeekBoats$Voyage" ⟨"WeekBoats$Voyage", "comesTo", "(IIIIZ)I"⟩ ⟨"WeekBoats$Voyage", "comesTo", "(IIIIZ)I"⟩ ∈ lw_gd := wk_4 (i := 186) (by decide +kernel) rfl
set_option maxRecDepth 100000 in
theorem wm_1017 : Cond.code ⟨"WeekBoats$Voyage", "comesTo", "(IIIIZ)I"⟩ prog_11_method_4_code 8 (some .int) ∈ lw_gd := wk_4 (i := 187) rfl rfl
theorem wm_1018 : Cond.methodLink "WeekBoats$Voyage" 67 ⟨"WeekBoats$Voyage", "setOut", "(IZ)V"⟩ ∈ lw_gd := wk_4 (i := 188) (by decide +kernel) rfl
theorem wm_1020 : Cond.instanceMethod ⟨"WeekBoats$Voyage", "setOut", "(IZ)V"⟩ ∈ lw_gd := wk_4 (i := 190) (by decide +kernel) rfl
set_option maxRecDepth 100000 in
theorem wm_1021 : Cond.code ⟨"WeekBoats$Voyage", "setOut", "(IZ)V"⟩ prog_11_method_3_code 3 none ∈ lw_gd := wk_4 (i := 191) rfl rfl
theorem wm_1022 : Cond.methodLink "WeekBoats$Voyage" 71 ⟨"WeekBoats$Voyage", "pass", "(IZI)I"⟩ ∈ lw_gd := wk_4 (i := 192) (by decide +kernel) rfl
theorem wm_1024 : Cond.instanceMethod ⟨"WeekBoats$Voyage", "pass", "(IZI)I"⟩ ∈ lw_gd := wk_4 (i := 194) (by decide +kernel) rfl
set_option maxRecDepth 100000 in
theorem wm_1025 : Cond.code ⟨"WeekBoats$Voyage", "pass", "(IZI)I"⟩ prog_11_method_8_code 7 (some .int) ∈ lw_gd := wk_4 (i := 195) rfl rfl
theorem wm_1026 : Cond.methodLink "WeekBoats$Voyage" 81 ⟨"WeekBoats$Rules", "isTunnel", "(I)Z"⟩ ∈ lw_gd := wk_4 (i := 196) (by decide +kernel) rfl
theorem wm_1027 : Cond.instanceMethod ⟨"WeekBoats$Rules", "isTunnel", "(I)Z"⟩ ∈ lw_gd := wk_4 (i := 197) (by decide +kernel) rfl
theorem wm_1028 : Cond.selects "WeekBoats$Rules" ⟨"WeekBoats$Rules", "isTunnel", "(I)Z"⟩ ⟨"WeekBoats$Rules", "isTunnel", "(I)Z"⟩ ∈ lw_gd := wk_4 (i := 198) (by decide +kernel) rfl
set_option maxRecDepth 100000 in
theorem wm_1029 : Cond.code ⟨"WeekBoats$Rules", "isTunnel", "(I)Z"⟩ prog_8_method_6_code 2 (some .boolean) ∈ lw_gd := wk_4 (i := 199) rfl rfl
theorem wm_1030 : Cond.methodLink "WeekBoats$Rules" 70 ⟨"WeekBoats$Rules", "hasTunnel", "(I)Z"⟩ ∈ lw_gd := wk_4 (i := 200) (by decide +kernel) rfl
theorem wm_1031 : Cond.methodLink "WeekBoats$Voyage" 85 ⟨"WeekBoats$Voyage", "step", "(IIII)I"⟩ ∈ lw_gd := wk_4 (i := 201) (by decide +kernel) rfl
theorem wm_1033 : Cond.instanceMethod ⟨"WeekBoats$Voyage", "step", "(IIII)I"⟩ ∈ lw_gd := wk_4 (i := 203) (by decide +kernel) rfl
set_option maxRecDepth 100000 in
theorem wm_1034 : Cond.code ⟨"WeekBoats$Voyage", "step", "(IIII)I"⟩ prog_11_method_9_code 6 (some .int) ∈ lw_gd := wk_4 (i := 204) rfl rfl
theorem wm_1035 : Cond.methodLink "WeekBoats$Voyage" 92 ⟨"WeekBoats$Voyage", "begins", "(III)I"⟩ ∈ lw_gd := wk_4 (i := 205) (by decide +kernel) rfl
theorem wm_1037 : Cond.instanceMethod ⟨"WeekBoats$Voyage", "begins", "(III)I"⟩ ∈ lw_gd := wk_4 (i := 207) (by decide +kernel) rfl
set_option maxRecDepth 100000 in
theorem wm_1038 : Cond.code ⟨"WeekBoats$Voyage", "begins", "(III)I"⟩ prog_11_method_10_code 8 (some .int) ∈ lw_gd := wk_4 (i := 208) rfl rfl
theorem wm_1039 : Cond.methodLink "WeekBoats$Voyage" 96 ⟨"WeekBoats$Voyage", "firstHour", "(III)I"⟩ ∈ lw_gd := wk_4 (i := 209) (by decide +kernel) rfl
theorem wm_1041 : Cond.instanceMethod ⟨"WeekBoats$Voyage", "firstHour", "(III)I"⟩ ∈ lw_gd := wk_4 (i := 211) (by decide +kernel) rfl
set_option maxRecDepth 100000 in
theorem wm_1042 : Cond.code ⟨"WeekBoats$Voyage", "firstHour", "(III)I"⟩ prog_11_method_12_code 4 (some .int) ∈ lw_gd := wk_4 (i := 212) rfl rfl
theorem wm_1043 : Cond.methodLink "WeekBoats$Voyage" 99 ⟨"java/lang/Math", "max", "(II)I"⟩ ∈ lw_gd := wk_4 (i := 213) (by decide +kernel) rfl
theorem wm_1044 : Cond.methodLink "WeekBoats$Voyage" 105 ⟨"WeekBoats$Voyage", "hourBehind", "(III)I"⟩ ∈ lw_gd := wk_4 (i := 214) (by decide +kernel) rfl
theorem wm_1046 : Cond.instanceMethod ⟨"WeekBoats$Voyage", "hourBehind", "(III)I"⟩ ∈ lw_gd := wk_4 (i := 216) (by decide +kernel) rfl
set_option maxRecDepth 100000 in
theorem wm_1047 : Cond.code ⟨"WeekBoats$Voyage", "hourBehind", "(III)I"⟩ prog_11_method_13_code 4 (some .int) ∈ lw_gd := wk_4 (i := 217) rfl rfl
theorem wm_1048 : Cond.methodLink "WeekBoats$Voyage" 108 ⟨"java/lang/Math", "min", "(II)I"⟩ ∈ lw_gd := wk_4 (i := 218) (by decide +kernel) rfl
theorem wm_1049 : Cond.methodLink "WeekBoats$Voyage" 111 ⟨"WeekBoats$Voyage", "isStopped", "(II)Z"⟩ ∈ lw_gd := wk_4 (i := 219) (by decide +kernel) rfl
theorem wm_1051 : Cond.instanceMethod ⟨"WeekBoats$Voyage", "isStopped", "(II)Z"⟩ ∈ lw_gd := wk_4 (i := 221) (by decide +kernel) rfl
set_option maxRecDepth 100000 in
theorem wm_1052 : Cond.code ⟨"WeekBoats$Voyage", "isStopped", "(II)Z"⟩ prog_11_method_11_code 3 (some .boolean) ∈ lw_gd := wk_4 (i := 222) rfl rfl
theorem wm_1053 : Cond.methodLink "WeekBoatsLaw" 61 ⟨"WeekBoats", "maybe", "(IIII)I"⟩ ∈ lw_gd := wk_4 (i := 223) (by decide +kernel) rfl
theorem wm_1054 : Cond.instanceMethod ⟨"WeekBoats", "maybe", "(IIII)I"⟩ ∈ lw_gd := wk_4 (i := 224) (by decide +kernel) rfl
theorem wm_1055 : Cond.selects "WeekBoats" ⟨"WeekBoats", "maybe", "(IIII)I"⟩ ⟨"WeekBoats", "maybe", "(IIII)I"⟩ ∈ lw_gd := wk_4 (i := 225) (by decide +kernel) rfl
set_option maxRecDepth 100000 in
theorem wm_1056 : Cond.code ⟨"WeekBoats", "maybe", "(IIII)I"⟩ prog_1_method_19_code 5 (some .int) ∈ lw_gd := wk_4 (i := 226) rfl rfl
theorem wm_1057 : Cond.methodLink "WeekBoats" 187 ⟨"WeekBoats$Voyage", "reach", "(III)V"⟩ ∈ lw_gd := wk_4 (i := 227) (by decide +kernel) rfl
theorem wm_1058 : Cond.instanceMethod ⟨"WeekBoats$Voyage", "reach", "(III)V"⟩ ∈ lw_gd := wk_4 (i := 228) (by decide +kernel) rfl
theorem wm_1059 : Cond.selects "WeekBoats$Voyage" ⟨"WeekBoats$Voyage", "reach", "(III)V"⟩ ⟨"WeekBoats$Voyage", "reach", "(III)V"⟩ ∈ lw_gd := wk_4 (i := 229) (by decide +kernel) rfl
set_option maxRecDepth 100000 in
theorem wm_1060 : Cond.code ⟨"WeekBoats$Voyage", "reach", "(III)V"⟩ prog_11_method_5_code 5 none ∈ lw_gd := wk_4 (i := 230) rfl rfl
theorem wm_1061 : Cond.methodLink "WeekBoats" 190 ⟨"WeekBoats$Voyage", "reached", "(I)I"⟩ ∈ lw_gd := wk_4 (i := 231) (by decide +kernel) rfl
theorem wm_1062 : Cond.instanceMethod ⟨"WeekBoats$Voyage", "reached", "(I)I"⟩ ∈ lw_gd := wk_4 (i := 232) (by decide +kernel) rfl
theorem wm_1063 : Cond.selects "WeekBoats$Voyage" ⟨"WeekBoats$Voyage", "reached", "(I)I"⟩ ⟨"WeekBoats$Voyage", "reached", "(I)I"⟩ ∈ lw_gd := wk_4 (i := 233) (by decide +kernel) rfl
set_option maxRecDepth 100000 in
theorem wm_1064 : Cond.code ⟨"WeekBoats$Voyage", "reached", "(I)I"⟩ prog_11_method_6_code 4 (some .int) ∈ lw_gd := wk_4 (i := 234) rfl rfl
theorem wm_1065 : Cond.methodLink "WeekBoatsLaw" 65 ⟨"WeekBoats", "harm", "(IIII)I"⟩ ∈ lw_gd := wk_4 (i := 235) (by decide +kernel) rfl
theorem wm_1066 : Cond.instanceMethod ⟨"WeekBoats", "harm", "(IIII)I"⟩ ∈ lw_gd := wk_4 (i := 236) (by decide +kernel) rfl
theorem wm_1067 : Cond.selects "WeekBoats" ⟨"WeekBoats", "harm", "(IIII)I"⟩ ⟨"WeekBoats", "harm", "(IIII)I"⟩ ∈ lw_gd := wk_4 (i := 237) (by decide +kernel) rfl
set_option maxRecDepth 100000 in
theorem wm_1068 : Cond.code ⟨"WeekBoats", "harm", "(IIII)I"⟩ prog_1_method_20_code 6 (some .int) ∈ lw_gd := wk_4 (i := 238) rfl rfl
theorem wm_1069 : Cond.methodLink "WeekBoats" 194 ⟨"WeekBoats$Boats", "harmOfLatestWay", "(I)I"⟩ ∈ lw_gd := wk_4 (i := 239) (by decide +kernel) rfl
theorem wm_1070 : Cond.instanceMethod ⟨"WeekBoats$Boats", "harmOfLatestWay", "(I)I"⟩ ∈ lw_gd := wk_5 (i := 0) (by decide +kernel) rfl
theorem wm_1071 : Cond.selects "WeekBoats$Boats" ⟨"WeekBoats$Boats", "harmOfLatestWay", "(I)I"⟩ ⟨"WeekBoats$Boats", "harmOfLatestWay", "(I)I"⟩ ∈ lw_gd := wk_5 (i := 1) (by decide +kernel) rfl
set_option maxRecDepth 100000 in
theorem wm_1072 : Cond.code ⟨"WeekBoats$Boats", "harmOfLatestWay", "(I)I"⟩ prog_2_method_11_code 4 (some .int) ∈ lw_gd := wk_5 (i := 2) rfl rfl
theorem wm_1073 : Cond.methodLink "WeekBoats$Boats" 101 ⟨"WeekBoats$Boats", "harmOfLock", "(II)I"⟩ ∈ lw_gd := wk_5 (i := 3) (by decide +kernel) rfl
theorem wm_1075 : Cond.instanceMethod ⟨"WeekBoats$Boats", "harmOfLock", "(II)I"⟩ ∈ lw_gd := wk_5 (i := 5) (by decide +kernel) rfl
set_option maxRecDepth 100000 in
theorem wm_1076 : Cond.code ⟨"WeekBoats$Boats", "harmOfLock", "(II)I"⟩ prog_2_method_12_code 4 (some .int) ∈ lw_gd := wk_5 (i := 6) rfl rfl
theorem wm_1077 : Cond.methodLink "WeekBoats$Boats" 109 ⟨"WeekBoats$Rules", "askDay", "(II)V"⟩ ∈ lw_gd := wk_5 (i := 7) (by decide +kernel) rfl
theorem wm_1078 : Cond.methodLink "WeekBoats$Boats" 118 ⟨"WeekBoats$Rules", "serving", "(I)I"⟩ ∈ lw_gd := wk_5 (i := 8) (by decide +kernel) rfl
theorem wm_1079 : Cond.methodLink "WeekBoats$Boats" 121 ⟨"WeekBoats$Rules", "valueOf", "(I)I"⟩ ∈ lw_gd := wk_5 (i := 9) (by decide +kernel) rfl
theorem wm_1080 : Cond.instanceMethod ⟨"WeekBoats$Rules", "valueOf", "(I)I"⟩ ∈ lw_gd := wk_5 (i := 10) (by decide +kernel) rfl
theorem wm_1081 : Cond.selects "WeekBoats$Rules" ⟨"WeekBoats$Rules", "valueOf", "(I)I"⟩ ⟨"WeekBoats$Rules", "valueOf", "(I)I"⟩ ∈ lw_gd := wk_5 (i := 11) (by decide +kernel) rfl
set_option maxRecDepth 100000 in
theorem wm_1082 : Cond.code ⟨"WeekBoats$Rules", "valueOf", "(I)I"⟩ prog_8_method_10_code 2 (some .int) ∈ lw_gd := wk_5 (i := 12) rfl rfl
theorem wm_1083 : Cond.methodLink "WeekBoats$Boats" 124 ⟨"java/lang/Math", "min", "(II)I"⟩ ∈ lw_gd := wk_5 (i := 13) (by decide +kernel) rfl
theorem wm_1084 : Cond.methodLink "WeekBoats$Boats" 71 ⟨"java/lang/Math", "max", "(II)I"⟩ ∈ lw_gd := wk_5 (i := 14) (by decide +kernel) rfl
theorem wm_1085 : Cond.methodLink "WeekBoatsLaw" 69 ⟨"WeekBoats", "back", "(II)I"⟩ ∈ lw_gd := wk_5 (i := 15) (by decide +kernel) rfl
theorem wm_1086 : Cond.instanceMethod ⟨"WeekBoats", "back", "(II)I"⟩ ∈ lw_gd := wk_5 (i := 16) (by decide +kernel) rfl
theorem wm_1087 : Cond.selects "WeekBoats" ⟨"WeekBoats", "back", "(II)I"⟩ ⟨"WeekBoats", "back", "(II)I"⟩ ∈ lw_gd := wk_5 (i := 17) (by decide +kernel) rfl
set_option maxRecDepth 100000 in
theorem wm_1088 : Cond.code ⟨"WeekBoats", "back", "(II)I"⟩ prog_1_method_21_code 3 (some .int) ∈ lw_gd := wk_5 (i := 18) rfl rfl
theorem wm_1089 : Cond.constant "WeekBoats" 198 (-1000000) ∈ lw_gd := wk_5 (i := 19) (by decide +kernel) rfl
theorem wm_1090 : Cond.methodLink "WeekBoats" 199 ⟨"WeekBoats$Trips", "turningBack", "(I)I"⟩ ∈ lw_gd := wk_5 (i := 20) (by decide +kernel) rfl
theorem wm_1091 : Cond.instanceMethod ⟨"WeekBoats$Trips", "turningBack", "(I)I"⟩ ∈ lw_gd := wk_5 (i := 21) (by decide +kernel) rfl
theorem wm_1092 : Cond.selects "WeekBoats$Trips" ⟨"WeekBoats$Trips", "turningBack", "(I)I"⟩ ⟨"WeekBoats$Trips", "turningBack", "(I)I"⟩ ∈ lw_gd := wk_5 (i := 22) (by decide +kernel) rfl
set_option maxRecDepth 100000 in
theorem wm_1093 : Cond.code ⟨"WeekBoats$Trips", "turningBack", "(I)I"⟩ prog_9_method_5_code 7 (some .int) ∈ lw_gd := wk_5 (i := 23) rfl rfl
theorem wm_1094 : Cond.constant "WeekBoats$Trips" 64 (-1000000) ∈ lw_gd := wk_5 (i := 24) (by decide +kernel) rfl
theorem wm_1095 : Cond.methodLink "WeekBoats$Trips" 65 ⟨"java/lang/Math", "abs", "(I)I"⟩ ∈ lw_gd := wk_5 (i := 25) (by decide +kernel) rfl
theorem wm_1096 : Cond.static ⟨"java/lang/Math", "abs", "(I)I"⟩ ∈ lw_gd := wk_5 (i := 26) (by decide +kernel) rfl
set_option maxRecDepth 100000 in
theorem wm_1097 : Cond.code ⟨"java/lang/Math", "abs", "(I)I"⟩ prog_17_method_59_code 1 (some .int) ∈ lw_gd := wk_5 (i := 27) rfl rfl
theorem wm_1098 : Cond.methodLink "WeekBoats$Trips" 69 ⟨"WeekBoats$Trips", "isBackInTime", "(II)Z"⟩ ∈ lw_gd := wk_5 (i := 28) (by decide +kernel) rfl
theorem wm_1100 : Cond.instanceMethod ⟨"WeekBoats$Trips", "isBackInTime", "(II)Z"⟩ ∈ lw_gd := wk_5 (i := 30) (by decide +kernel) rfl
set_option maxRecDepth 100000 in
theorem wm_1101 : Cond.code ⟨"WeekBoats$Trips", "isBackInTime", "(II)Z"⟩ prog_9_method_6_code 6 (some .boolean) ∈ lw_gd := wk_5 (i := 31) rfl rfl
theorem wm_1102 : Cond.methodLink "WeekBoats$Trips" 48 ⟨"WeekBoats$Voyage", "comesTo", "(IIIIZ)I"⟩ ∈ lw_gd := wk_5 (i := 32) (by decide +kernel) rfl
theorem wm_1103 : Cond.methodLink "WeekBoats" 202 ⟨"WeekBoats$Trips", "refund", "(I)I"⟩ ∈ lw_gd := wk_5 (i := 33) (by decide +kernel) rfl
theorem wm_1104 : Cond.instanceMethod ⟨"WeekBoats$Trips", "refund", "(I)I"⟩ ∈ lw_gd := wk_5 (i := 34) (by decide +kernel) rfl
theorem wm_1105 : Cond.selects "WeekBoats$Trips" ⟨"WeekBoats$Trips", "refund", "(I)I"⟩ ⟨"WeekBoats$Trips", "refund", "(I)I"⟩ ∈ lw_gd := wk_5 (i := 35) (by decide +kernel) rfl
set_option maxRecDepth 100000 in
theorem wm_1106 : Cond.code ⟨"WeekBoats$Trips", "refund", "(I)I"⟩ prog_9_method_7_code 6 (some .int) ∈ lw_gd := wk_5 (i := 36) rfl rfl
theorem wm_1107 : Cond.methodLink "WeekBoats$Trips" 60 ⟨"WeekBoats$Trips", "lateBy", "(IZ)I"⟩ ∈ lw_gd := wk_5 (i := 37) (by decide +kernel) rfl
theorem wm_1108 : Cond.instanceMethod ⟨"WeekBoats$Trips", "lateBy", "(IZ)I"⟩ ∈ lw_gd := wk_5 (i := 38) (by decide +kernel) rfl
theorem wm_1109 : Cond.selects "WeekBoats$Trips" ⟨"WeekBoats$Trips", "lateBy", "(IZ)I"⟩ ⟨"WeekBoats$Trips", "lateBy", "(IZ)I"⟩ ∈ lw_gd := wk_5 (i := 39) (by decide +kernel) rfl
set_option maxRecDepth 100000 in
theorem wm_1110 : Cond.code ⟨"WeekBoats$Trips", "lateBy", "(IZ)I"⟩ prog_9_method_3_code 4 (some .int) ∈ lw_gd := wk_5 (i := 40) rfl rfl
theorem wm_1111 : Cond.methodLink "WeekBoats$Trips" 54 ⟨"java/lang/Math", "max", "(II)I"⟩ ∈ lw_gd := wk_5 (i := 41) (by decide +kernel) rfl
theorem wm_1112 : Cond.methodLink "WeekBoats$Trips" 73 ⟨"WeekBoats$Boats", "priceLine", "(IIZ)I"⟩ ∈ lw_gd := wk_5 (i := 42) (by decide +kernel) rfl
theorem wm_1113 : Cond.instanceMethod ⟨"WeekBoats$Boats", "priceLine", "(IIZ)I"⟩ ∈ lw_gd := wk_5 (i := 43) (by decide +kernel) rfl
theorem wm_1114 : Cond.selects "WeekBoats$Boats" ⟨"WeekBoats$Boats", "priceLine", "(IIZ)I"⟩ ⟨"WeekBoats$Boats", "priceLine", "(IIZ)I"⟩ ∈ lw_gd := wk_5 (i := 44) (by decide +kernel) rfl
set_option maxRecDepth 100000 in
theorem wm_1115 : Cond.code ⟨"WeekBoats$Boats", "priceLine", "(IIZ)I"⟩ prog_2_method_13_code 4 (some .int) ∈ lw_gd := wk_5 (i := 45) rfl rfl
theorem wm_1116 : Cond.methodLink "WeekBoats$Boats" 127 ⟨"WeekBoats$Rules", "askWeek", "(I)V"⟩ ∈ lw_gd := wk_5 (i := 46) (by decide +kernel) rfl
theorem wm_1117 : Cond.instanceMethod ⟨"WeekBoats$Rules", "askWeek", "(I)V"⟩ ∈ lw_gd := wk_5 (i := 47) (by decide +kernel) rfl
theorem wm_1118 : Cond.selects "WeekBoats$Rules" ⟨"WeekBoats$Rules", "askWeek", "(I)V"⟩ ⟨"WeekBoats$Rules", "askWeek", "(I)V"⟩ ∈ lw_gd := wk_5 (i := 48) (by decide +kernel) rfl
set_option maxRecDepth 100000 in
theorem wm_1119 : Cond.code ⟨"WeekBoats$Rules", "askWeek", "(I)V"⟩ prog_8_method_8_code 2 none ∈ lw_gd := wk_5 (i := 49) rfl rfl
theorem wm_1120 : Cond.methodLink "WeekBoats$Trips" 77 ⟨"java/lang/Math", "min", "(II)I"⟩ ∈ lw_gd := wk_5 (i := 50) (by decide +kernel) rfl
theorem wm_1121 : Cond.methodLink "WeekBoats$Trips" 80 ⟨"WeekBoats$Rules", "valueOf", "(I)I"⟩ ∈ lw_gd := wk_5 (i := 51) (by decide +kernel) rfl
theorem wm_1122 : Cond.constantLong "WeekBoats$Trips" 85 7 ∈ lw_gd := wk_5 (i := 52) (by decide +kernel) rfl
theorem wm_1123 : Cond.methodLink "WeekBoatsLaw" 73 ⟨"WeekBoats", "rung", "()I"⟩ ∈ lw_gd := wk_5 (i := 53) (by decide +kernel) rfl
theorem wm_1124 : Cond.instanceMethod ⟨"WeekBoats", "rung", "()I"⟩ ∈ lw_gd := wk_5 (i := 54) (by decide +kernel) rfl
theorem wm_1125 : Cond.selects "WeekBoats" ⟨"WeekBoats", "rung", "()I"⟩ ⟨"WeekBoats", "rung", "()I"⟩ ∈ lw_gd := wk_5 (i := 55) (by decide +kernel) rfl
set_option maxRecDepth 100000 in
theorem wm_1126 : Cond.code ⟨"WeekBoats", "rung", "()I"⟩ prog_1_method_22_code 3 (some .int) ∈ lw_gd := wk_5 (i := 56) rfl rfl
theorem wm_1127 : Cond.methodLink "WeekBoats" 205 ⟨"WeekBoats$Trips", "lateBy", "(IZ)I"⟩ ∈ lw_gd := wk_5 (i := 57) (by decide +kernel) rfl
theorem wm_1128 : Cond.methodLink "WeekBoatsLaw" 77 ⟨"WeekBoats", "pump", "(IZ)Z"⟩ ∈ lw_gd := wk_5 (i := 58) (by decide +kernel) rfl
theorem wm_1129 : Cond.instanceMethod ⟨"WeekBoats", "pump", "(IZ)Z"⟩ ∈ lw_gd := wk_5 (i := 59) (by decide +kernel) rfl
theorem wm_1130 : Cond.selects "WeekBoats" ⟨"WeekBoats", "pump", "(IZ)Z"⟩ ⟨"WeekBoats", "pump", "(IZ)Z"⟩ ∈ lw_gd := wk_5 (i := 60) (by decide +kernel) rfl
set_option maxRecDepth 100000 in
theorem wm_1131 : Cond.code ⟨"WeekBoats", "pump", "(IZ)Z"⟩ prog_1_method_23_code 3 (some .boolean) ∈ lw_gd := wk_5 (i := 61) rfl rfl
theorem wm_1132 : Cond.methodLink "WeekBoats" 209 ⟨"WeekBoats$Canal", "setPump", "(IZ)V"⟩ ∈ lw_gd := wk_5 (i := 62) (by decide +kernel) rfl
theorem wm_1133 : Cond.instanceMethod ⟨"WeekBoats$Canal", "setPump", "(IZ)V"⟩ ∈ lw_gd := wk_5 (i := 63) (by decide +kernel) rfl
theorem wm_1134 : Cond.selects "WeekBoats$Canal" ⟨"WeekBoats$Canal", "setPump", "(IZ)V"⟩ ⟨"WeekBoats$Canal", "setPump", "(IZ)V"⟩ ∈ lw_gd := wk_5 (i := 64) (by decide +kernel) rfl
set_option maxRecDepth 100000 in
theorem wm_1135 : Cond.code ⟨"WeekBoats$Canal", "setPump", "(IZ)V"⟩ prog_4_method_4_code 3 none ∈ lw_gd := wk_5 (i := 65) rfl rfl
theorem wm_1136 : Cond.methodLink "WeekBoatsLaw" 82 ⟨"WeekBoats", "pumped", "(IIIII)I"⟩ ∈ lw_gd := wk_5 (i := 66) (by decide +kernel) rfl
theorem wm_1137 : Cond.instanceMethod ⟨"WeekBoats", "pumped", "(IIIII)I"⟩ ∈ lw_gd := wk_5 (i := 67) (by decide +kernel) rfl
theorem wm_1138 : Cond.selects "WeekBoats" ⟨"WeekBoats", "pumped", "(IIIII)I"⟩ ⟨"WeekBoats", "pumped", "(IIIII)I"⟩ ∈ lw_gd := wk_5 (i := 68) (by decide +kernel) rfl
set_option maxRecDepth 100000 in
theorem wm_1139 : Cond.code ⟨"WeekBoats", "pumped", "(IIIII)I"⟩ prog_1_method_24_code 8 (some .int) ∈ lw_gd := wk_5 (i := 69) rfl rfl
theorem wm_1140 : Cond.methodLink "WeekBoats" 213 ⟨"WeekBoats$Voyage", "nextPump", "()I"⟩ ∈ lw_gd := wk_5 (i := 70) (by decide +kernel) rfl
theorem wm_1141 : Cond.instanceMethod ⟨"WeekBoats$Voyage", "nextPump", "()I"⟩ ∈ lw_gd := wk_5 (i := 71) (by decide +kernel) rfl
theorem wm_1142 : Cond.selects "WeekBoats$Voyage" ⟨"WeekBoats$Voyage", "nextPump", "()I"⟩ ⟨"WeekBoats$Voyage", "nextPump", "()I"⟩ ∈ lw_gd := wk_5 (i := 72) (by decide +kernel) rfl
set_option maxRecDepth 100000 in
theorem wm_1143 : Cond.code ⟨"WeekBoats$Voyage", "nextPump", "()I"⟩ prog_11_method_7_code 4 (some .int) ∈ lw_gd := wk_5 (i := 73) rfl rfl
theorem wm_1144 : Cond.methodLink "WeekBoatsLaw" 86 ⟨"WeekBoats", "enough", "(IIIII)I"⟩ ∈ lw_gd := wk_5 (i := 74) (by decide +kernel) rfl
theorem wm_1145 : Cond.instanceMethod ⟨"WeekBoats", "enough", "(IIIII)I"⟩ ∈ lw_gd := wk_5 (i := 75) (by decide +kernel) rfl
theorem wm_1146 : Cond.selects "WeekBoats" ⟨"WeekBoats", "enough", "(IIIII)I"⟩ ⟨"WeekBoats", "enough", "(IIIII)I"⟩ ∈ lw_gd := wk_5 (i := 76) (by decide +kernel) rfl
