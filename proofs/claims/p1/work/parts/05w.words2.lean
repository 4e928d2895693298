theorem wm_701 : Cond.code ⟨"WeekBoats$Rules", "serving", "(I)I"⟩ prog_8_method_9_code 3 (some .int) ∈ lw_gd := wmP (i := 701) (by decide +kernel) rfl
theorem wm_702 : Cond.methodLink "WeekBoats$Rules" 74 ⟨"WeekBoats$Rules", "run", "(II)I"⟩ ∈ lw_gd := wmP (i := 702) (by decide +kernel) rfl
theorem wm_704 : Cond.instanceMethod ⟨"WeekBoats$Rules", "run", "(II)I"⟩ ∈ lw_gd := wmP (i := 704) (by decide +kernel) rfl
theorem wm_705 : Cond.code ⟨"WeekBoats$Rules", "run", "(II)I"⟩ prog_8_method_11_code 6 (some .int) ∈ lw_gd := wmP (i := 705) (by decide +kernel) rfl
theorem wm_706 : Cond.methodLink "WeekBoats$Rules" 82 ⟨"WeekBoats$Rules", "askedOf", "(I)I"⟩ ∈ lw_gd := wmP (i := 706) (by decide +kernel) rfl
theorem wm_708 : Cond.instanceMethod ⟨"WeekBoats$Rules", "askedOf", "(I)I"⟩ ∈ lw_gd := wmP (i := 708) (by decide +kernel) rfl
theorem wm_709 : Cond.code ⟨"WeekBoats$Rules", "askedOf", "(I)I"⟩ prog_8_method_12_code 2 (some .int) ∈ lw_gd := wmP (i := 709) (by decide +kernel) rfl
theorem wm_711 : Cond.methodLink "WeekBoats$Rules" 86 ⟨"WeekBoats$Rules", "alone", "(III)I"⟩ ∈ lw_gd := wmP (i := 711) (by decide +kernel) rfl
theorem wm_712 : Cond.static ⟨"WeekBoats$Rules", "alone", "(III)I"⟩ ∈ lw_gd := wmP (i := 712) (by decide +kernel) rfl
theorem wm_713 : Cond.code ⟨"WeekBoats$Rules", "alone", "(III)I"⟩ prog_8_method_13_code 3 (some .int) ∈ lw_gd := wmP (i := 713) (by decide +kernel) rfl
theorem wm_714 : Cond.methodLink "WeekBoats$Rules" 90 ⟨"WeekBoats$Rules", "both", "(III)I"⟩ ∈ lw_gd := wmP (i := 714) (by decide +kernel) rfl
theorem wm_715 : Cond.static ⟨"WeekBoats$Rules", "both", "(III)I"⟩ ∈ lw_gd := wmP (i := 715) (by decide +kernel) rfl
theorem wm_716 : Cond.code ⟨"WeekBoats$Rules", "both", "(III)I"⟩ prog_8_method_14_code 3 (some .int) ∈ lw_gd := wmP (i := 716) (by decide +kernel) rfl
theorem wm_717 : Cond.methodLink "WeekBoatsLaw" 23 ⟨"WeekBoats", "stoppage", "(III)I"⟩ ∈ lw_gd := wmP (i := 717) (by decide +kernel) rfl
theorem wm_718 : Cond.instanceMethod ⟨"WeekBoats", "stoppage", "(III)I"⟩ ∈ lw_gd := wmP (i := 718) (by decide +kernel) rfl
theorem wm_719 : Cond.selects "WeekBoats" ⟨"WeekBoats", "stoppage", "(III)I"⟩ ⟨"WeekBoats", "stoppage", "(III)I"⟩ ∈ lw_gd := wmP (i := 719) (by decide +kernel) rfl
theorem wm_720 : Cond.code ⟨"WeekBoats", "stoppage", "(III)I"⟩ prog_1_method_11_code 4 (some .int) ∈ lw_gd := wmP (i := 720) (by decide +kernel) rfl
theorem wm_721 : Cond.methodLink "WeekBoats" 133 ⟨"WeekBoats$Canal", "reopen", "()V"⟩ ∈ lw_gd := wmP (i := 721) (by decide +kernel) rfl
theorem wm_722 : Cond.instanceMethod ⟨"WeekBoats$Canal", "reopen", "()V"⟩ ∈ lw_gd := wmP (i := 722) (by decide +kernel) rfl
theorem wm_723 : Cond.selects "WeekBoats$Canal" ⟨"WeekBoats$Canal", "reopen", "()V"⟩ ⟨"WeekBoats$Canal", "reopen", "()V"⟩ ∈ lw_gd := wmP (i := 723) (by decide +kernel) rfl
theorem wm_724 : Cond.code ⟨"WeekBoats$Canal", "reopen", "()V"⟩ prog_4_method_3_code 1 none ∈ lw_gd := wmP (i := 724) (by decide +kernel) rfl
theorem wm_725 : Cond.methodLink "WeekBoats" 139 ⟨"WeekBoats$Canal", "stop", "(III)V"⟩ ∈ lw_gd := wmP (i := 725) (by decide +kernel) rfl
theorem wm_726 : Cond.instanceMethod ⟨"WeekBoats$Canal", "stop", "(III)V"⟩ ∈ lw_gd := wmP (i := 726) (by decide +kernel) rfl
theorem wm_727 : Cond.selects "WeekBoats$Canal" ⟨"WeekBoats$Canal", "stop", "(III)V"⟩ ⟨"WeekBoats$Canal", "stop", "(III)V"⟩ ∈ lw_gd := wmP (i := 727) (by decide +kernel) rfl
theorem wm_728 : Cond.code ⟨"WeekBoats$Canal", "stop", "(III)V"⟩ prog_4_method_2_code 5 none ∈ lw_gd := wmP (i := 728) (by decide +kernel) rfl
theorem wm_729 : Cond.methodLink "WeekBoatsLaw" 28 ⟨"WeekBoats", "boat", "(IIII)I"⟩ ∈ lw_gd := wmP (i := 729) (by decide +kernel) rfl
theorem wm_730 : Cond.instanceMethod ⟨"WeekBoats", "boat", "(IIII)I"⟩ ∈ lw_gd := wmP (i := 730) (by decide +kernel) rfl
theorem wm_731 : Cond.selects "WeekBoats" ⟨"WeekBoats", "boat", "(IIII)I"⟩ ⟨"WeekBoats", "boat", "(IIII)I"⟩ ∈ lw_gd := wmP (i := 731) (by decide +kernel) rfl
theorem wm_732 : Cond.code ⟨"WeekBoats", "boat", "(IIII)I"⟩ prog_1_method_12_code 5 (some .int) ∈ lw_gd := wmP (i := 732) (by decide +kernel) rfl
theorem wm_733 : Cond.methodLink "WeekBoats" 143 ⟨"WeekBoats", "isBerths", "(I)Z"⟩ ∈ lw_gd := wmP (i := 733) (by decide +kernel) rfl
theorem wm_734 : Cond.static ⟨"WeekBoats", "isBerths", "(I)Z"⟩ ∈ lw_gd := wmP (i := 734) (by decide +kernel) rfl
theorem wm_735 : Cond.code ⟨"WeekBoats", "isBerths", "(I)Z"⟩ prog_1_method_6_code 1 (some .boolean) ∈ lw_gd := wmP (i := 735) (by decide +kernel) rfl
theorem wm_736 : Cond.methodLink "WeekBoats" 111 ⟨"WeekBoats", "isPoint", "(I)Z"⟩ ∈ lw_gd := wmP (i := 736) (by decide +kernel) rfl
theorem wm_737 : Cond.static ⟨"WeekBoats", "isPoint", "(I)Z"⟩ ∈ lw_gd := wmP (i := 737) (by decide +kernel) rfl
theorem wm_738 : Cond.code ⟨"WeekBoats", "isPoint", "(I)Z"⟩ prog_1_method_3_code 1 (some .boolean) ∈ lw_gd := wmP (i := 738) (by decide +kernel) rfl
theorem wm_739 : Cond.methodLink "WeekBoats" 146 ⟨"WeekBoats$Boats", "add", "(IIII)I"⟩ ∈ lw_gd := wmP (i := 739) (by decide +kernel) rfl
theorem wm_740 : Cond.instanceMethod ⟨"WeekBoats$Boats", "add", "(IIII)I"⟩ ∈ lw_gd := wmP (i := 740) (by decide +kernel) rfl
theorem wm_741 : Cond.selects "WeekBoats$Boats" ⟨"WeekBoats$Boats", "add", "(IIII)I"⟩ ⟨"WeekBoats$Boats", "add", "(IIII)I"⟩ ∈ lw_gd := wmP (i := 741) (by decide +kernel) rfl
theorem wm_742 : Cond.code ⟨"WeekBoats$Boats", "add", "(IIII)I"⟩ prog_2_method_2_code 5 (some .int) ∈ lw_gd := wmP (i := 742) (by decide +kernel) rfl
theorem wm_743 : Cond.methodLink "WeekBoatsLaw" 33 ⟨"WeekBoats", "feed", "(IIIII)I"⟩ ∈ lw_gd := wmP (i := 743) (by decide +kernel) rfl
theorem wm_744 : Cond.instanceMethod ⟨"WeekBoats", "feed", "(IIIII)I"⟩ ∈ lw_gd := wmP (i := 744) (by decide +kernel) rfl
theorem wm_745 : Cond.selects "WeekBoats" ⟨"WeekBoats", "feed", "(IIIII)I"⟩ ⟨"WeekBoats", "feed", "(IIIII)I"⟩ ∈ lw_gd := wmP (i := 745) (by decide +kernel) rfl
theorem wm_746 : Cond.code ⟨"WeekBoats", "feed", "(IIIII)I"⟩ prog_1_method_13_code 6 (some .int) ∈ lw_gd := wmP (i := 746) (by decide +kernel) rfl
theorem wm_747 : Cond.methodLink "WeekBoats" 153 ⟨"WeekBoats$Parser", "put", "(I)V"⟩ ∈ lw_gd := wmP (i := 747) (by decide +kernel) rfl
theorem wm_748 : Cond.instanceMethod ⟨"WeekBoats$Parser", "put", "(I)V"⟩ ∈ lw_gd := wmP (i := 748) (by decide +kernel) rfl
theorem wm_749 : Cond.selects "WeekBoats$Parser" ⟨"WeekBoats$Parser", "put", "(I)V"⟩ ⟨"WeekBoats$Parser", "put", "(I)V"⟩ ∈ lw_gd := wmP (i := 749) (by decide +kernel) rfl
theorem wm_750 : Cond.code ⟨"WeekBoats$Parser", "put", "(I)V"⟩ prog_6_method_2_code 3 none ∈ lw_gd := wmP (i := 750) (by decide +kernel) rfl
theorem wm_751 : Cond.methodLink "WeekBoatsLaw" 38 ⟨"WeekBoats", "end", "(I)Z"⟩ ∈ lw_gd := wmP (i := 751) (by decide +kernel) rfl
theorem wm_752 : Cond.instanceMethod ⟨"WeekBoats", "end", "(I)Z"⟩ ∈ lw_gd := wmP (i := 752) (by decide +kernel) rfl
theorem wm_753 : Cond.selects "WeekBoats" ⟨"WeekBoats", "end", "(I)Z"⟩ ⟨"WeekBoats", "end", "(I)Z"⟩ ∈ lw_gd := wmP (i := 753) (by decide +kernel) rfl
theorem wm_754 : Cond.code ⟨"WeekBoats", "end", "(I)Z"⟩ prog_1_method_14_code 2 (some .boolean) ∈ lw_gd := wmP (i := 754) (by decide +kernel) rfl
theorem wm_755 : Cond.methodLink "WeekBoatsLaw" 42 ⟨"WeekBoats", "rules", "()I"⟩ ∈ lw_gd := wmP (i := 755) (by decide +kernel) rfl
theorem wm_756 : Cond.instanceMethod ⟨"WeekBoats", "rules", "()I"⟩ ∈ lw_gd := wmP (i := 756) (by decide +kernel) rfl
theorem wm_757 : Cond.selects "WeekBoats" ⟨"WeekBoats", "rules", "()I"⟩ ⟨"WeekBoats", "rules", "()I"⟩ ∈ lw_gd := wmP (i := 757) (by decide +kernel) rfl
theorem wm_758 : Cond.code ⟨"WeekBoats", "rules", "()I"⟩ prog_1_method_15_code 2 (some .int) ∈ lw_gd := wmP (i := 758) (by decide +kernel) rfl
theorem wm_759 : Cond.methodLink "WeekBoats" 157 ⟨"WeekBoats$Parser", "read", "()I"⟩ ∈ lw_gd := wmP (i := 759) (by decide +kernel) rfl
theorem wm_760 : Cond.instanceMethod ⟨"WeekBoats$Parser", "read", "()I"⟩ ∈ lw_gd := wmP (i := 760) (by decide +kernel) rfl
theorem wm_761 : Cond.selects "WeekBoats$Parser" ⟨"WeekBoats$Parser", "read", "()I"⟩ ⟨"WeekBoats$Parser", "read", "()I"⟩ ∈ lw_gd := wmP (i := 761) (by decide +kernel) rfl
theorem wm_762 : Cond.code ⟨"WeekBoats$Parser", "read", "()I"⟩ prog_6_method_3_code 2 (some .int) ∈ lw_gd := wmP (i := 762) (by decide +kernel) rfl
theorem wm_763 : Cond.methodLink "WeekBoats$Parser" 38 ⟨"WeekBoats$Rules", "clear", "()V"⟩ ∈ lw_gd := wmP (i := 763) (by decide +kernel) rfl
theorem wm_764 : Cond.instanceMethod ⟨"WeekBoats$Rules", "clear", "()V"⟩ ∈ lw_gd := wmP (i := 764) (by decide +kernel) rfl
theorem wm_765 : Cond.selects "WeekBoats$Rules" ⟨"WeekBoats$Rules", "clear", "()V"⟩ ⟨"WeekBoats$Rules", "clear", "()V"⟩ ∈ lw_gd := wmP (i := 765) (by decide +kernel) rfl
theorem wm_766 : Cond.code ⟨"WeekBoats$Rules", "clear", "()V"⟩ prog_8_method_2_code 1 none ∈ lw_gd := wmP (i := 766) (by decide +kernel) rfl
theorem wm_767 : Cond.methodLink "WeekBoats$Parser" 43 ⟨"WeekBoats$Parser", "scan", "()V"⟩ ∈ lw_gd := wmP (i := 767) (by decide +kernel) rfl
theorem wm_769 : Cond.instanceMethod ⟨"WeekBoats$Parser", "scan", "()V"⟩ ∈ lw_gd := wmP (i := 769) (by decide +kernel) rfl
theorem wm_770 : Cond.code ⟨"WeekBoats$Parser", "scan", "()V"⟩ prog_6_method_4_code 5 none ∈ lw_gd := wmP (i := 770) (by decide +kernel) rfl
theorem wm_771 : Cond.methodLink "WeekBoats$Parser" 55 ⟨"WeekBoats$Parser", "isLetter", "(I)Z"⟩ ∈ lw_gd := wmP (i := 771) (by decide +kernel) rfl
theorem wm_772 : Cond.static ⟨"WeekBoats$Parser", "isLetter", "(I)Z"⟩ ∈ lw_gd := wmP (i := 772) (by decide +kernel) rfl
theorem wm_773 : Cond.code ⟨"WeekBoats$Parser", "isLetter", "(I)Z"⟩ prog_6_method_6_code 1 (some .boolean) ∈ lw_gd := wmP (i := 773) (by decide +kernel) rfl
theorem wm_775 : Cond.methodLink "WeekBoats$Parser" 59 ⟨"WeekBoats$Parser", "endOfWord", "(I)I"⟩ ∈ lw_gd := wmP (i := 775) (by decide +kernel) rfl
theorem wm_777 : Cond.instanceMethod ⟨"WeekBoats$Parser", "endOfWord", "(I)I"⟩ ∈ lw_gd := wmP (i := 777) (by decide +kernel) rfl
theorem wm_778 : Cond.code ⟨"WeekBoats$Parser", "endOfWord", "(I)I"⟩ prog_6_method_8_code 4 (some .int) ∈ lw_gd := wmP (i := 778) (by decide +kernel) rfl
theorem wm_779 : Cond.methodLink "WeekBoats$Parser" 63 ⟨"WeekBoats$Parser", "wordOf", "(II)I"⟩ ∈ lw_gd := wmP (i := 779) (by decide +kernel) rfl
theorem wm_781 : Cond.instanceMethod ⟨"WeekBoats$Parser", "wordOf", "(II)I"⟩ ∈ lw_gd := wmP (i := 781) (by decide +kernel) rfl
theorem wm_782 : Cond.code ⟨"WeekBoats$Parser", "wordOf", "(II)I"⟩ prog_6_method_11_code 6 (some .int) ∈ lw_gd := wmP (i := 782) (by decide +kernel) rfl
theorem wm_784 : Cond.methodLink "WeekBoats$Parser" 93 ⟨"java/lang/String", "length", "()I"⟩ ∈ lw_gd := wmP (i := 784) (by decide +kernel) rfl
theorem wm_785 : Cond.instanceMethod ⟨"java/lang/String", "length", "()I"⟩ ∈ lw_gd := wmP (i := 785) (by decide +kernel) rfl
theorem wm_786 : Cond.selects "java/lang/String" ⟨"java/lang/String", "length", "()I"⟩ ⟨"java/lang/String", "length", "()I"⟩ ∈ lw_gd := wmP (i := 786) (by decide +kernel) rfl
theorem wm_787 : Cond.code ⟨"java/lang/String", "length", "()I"⟩ prog_18_method_54_code 1 (some .int) ∈ lw_gd := wmP (i := 787) (by decide +kernel) rfl
theorem wm_788 : Cond.methodLink "java/lang/String" 335 ⟨"java/lang/String", "coder", "()B"⟩ ∈ lw_gd := wmP (i := 788) (by decide +kernel) rfl
theorem wm_789 : Cond.instanceMethod ⟨"java/lang/String", "coder", "()B"⟩ ∈ lw_gd := wmP (i := 789) (by decide +kernel) rfl
theorem wm_790 : Cond.selects "java/lang/String" ⟨"java/lang/String", "coder", "()B"⟩ ⟨"java/lang/String", "coder", "()B"⟩ ∈ lw_gd := wmP (i := 790) (by decide +kernel) rfl
theorem wm_791 : Cond.code ⟨"java/lang/String", "coder", "()B"⟩ prog_18_method_152_code 1 (some .byte) ∈ lw_gd := wmP (i := 791) (by decide +kernel) rfl
theorem wm_792 : Cond.fieldLink "java/lang/String" 38 "java/lang/String" "COMPACT_STRINGS" "Z" ∈ lw_gd := wmP (i := 792) (by decide +kernel) rfl
theorem wm_794 : Cond.methodLink "WeekBoats$Parser" 96 ⟨"java/lang/String", "charAt", "(I)C"⟩ ∈ lw_gd := wmP (i := 794) (by decide +kernel) rfl
theorem wm_795 : Cond.instanceMethod ⟨"java/lang/String", "charAt", "(I)C"⟩ ∈ lw_gd := wmP (i := 795) (by decide +kernel) rfl
theorem wm_796 : Cond.selects "java/lang/String" ⟨"java/lang/String", "charAt", "(I)C"⟩ ⟨"java/lang/String", "charAt", "(I)C"⟩ ∈ lw_gd := wmP (i := 796) (by decide +kernel) rfl
theorem wm_797 : Cond.code ⟨"java/lang/String", "charAt", "(I)C"⟩ prog_18_method_56_code 2 (some .char) ∈ lw_gd := wmP (i := 797) (by decide +kernel) rfl
theorem wm_798 : Cond.methodLink "java/lang/String" 492 ⟨"java/lang/String", "isLatin1", "()Z"⟩ ∈ lw_gd := wmP (i := 798) (by decide +kernel) rfl
theorem wm_799 : Cond.instanceMethod ⟨"java/lang/String", "isLatin1", "()Z"⟩ ∈ lw_gd := wmP (i := 799) (by decide +kernel) rfl
theorem wm_800 : Cond.selects "java/lang/String" ⟨"java/lang/String", "isLatin1", "()Z"⟩ ⟨"java/lang/String", "isLatin1", "()Z"⟩ ∈ lw_gd := wmP (i := 800) (by decide +kernel) rfl
theorem wm_801 : Cond.code ⟨"java/lang/String", "isLatin1", "()Z"⟩ prog_18_method_154_code 1 (some .boolean) ∈ lw_gd := wmP (i := 801) (by decide +kernel) rfl
theorem wm_802 : Cond.methodLink "java/lang/String" 495 ⟨"java/lang/StringLatin1", "charAt", "([BI)C"⟩ ∈ lw_gd := wmP (i := 802) (by decide +kernel) rfl
theorem wm_803 : Cond.static ⟨"java/lang/StringLatin1", "charAt", "([BI)C"⟩ ∈ lw_gd := wmP (i := 803) (by decide +kernel) rfl
theorem wm_804 : Cond.code ⟨"java/lang/StringLatin1", "charAt", "([BI)C"⟩ prog_19_method_2_code 2 (some .char) ∈ lw_gd := wmP (i := 804) (by decide +kernel) rfl
theorem wm_805 : Cond.methodLink "java/lang/StringLatin1" 9 ⟨"java/lang/String", "checkIndex", "(II)V"⟩ ∈ lw_gd := wmP (i := 805) (by decide +kernel) rfl
theorem wm_806 : Cond.static ⟨"java/lang/String", "checkIndex", "(II)V"⟩ ∈ lw_gd := wmP (i := 806) (by decide +kernel) rfl
theorem wm_807 : Cond.code ⟨"java/lang/String", "checkIndex", "(II)V"⟩ prog_18_method_155_code 2 none ∈ lw_gd := wmP (i := 807) (by decide +kernel) rfl
theorem wm_808 : Cond.fieldLink "java/lang/String" 1053 "jdk/internal/util/Preconditions" "SIOOBE_FORMATTER" "Ljava/util/function/BiFunction;" ∈ lw_gd := wmP (i := 808) (by decide +kernel) rfl
theorem wm_810 : Cond.methodLink "java/lang/String" 1059 ⟨"jdk/internal/util/Preconditions", "checkIndex", "(IILjava/util/function/BiFunction;)I"⟩ ∈ lw_gd := wmP (i := 810) (by decide +kernel) rfl
theorem wm_811 : Cond.static ⟨"jdk/internal/util/Preconditions", "checkIndex", "(IILjava/util/function/BiFunction;)I"⟩ ∈ lw_gd := wmP (i := 811) (by decide +kernel) rfl
theorem wm_812 : Cond.code ⟨"jdk/internal/util/Preconditions", "checkIndex", "(IILjava/util/function/BiFunction;)I"⟩ prog_23_method_11_code 3 (some .int) ∈ lw_gd := wmP (i := 812) (by decide +kernel) rfl
theorem wm_813 : Cond.methodLink "java/lang/String" 498 ⟨"java/lang/StringUTF16", "charAt", "([BI)C"⟩ ∈ lw_gd := wmP (i := 813) (by decide +kernel) rfl
theorem wm_814 : Cond.static ⟨"java/lang/StringUTF16", "charAt", "([BI)C"⟩ ∈ lw_gd := wmP (i := 814) (by decide +kernel) rfl
theorem wm_815 : Cond.code ⟨"java/lang/StringUTF16", "charAt", "([BI)C"⟩ prog_20_method_83_code 2 (some .char) ∈ lw_gd := wmP (i := 815) (by decide +kernel) rfl
theorem wm_816 : Cond.methodLink "java/lang/StringUTF16" 67 ⟨"java/lang/StringUTF16", "checkIndex", "(I[B)V"⟩ ∈ lw_gd := wmP (i := 816) (by decide +kernel) rfl
theorem wm_817 : Cond.static ⟨"java/lang/StringUTF16", "checkIndex", "(I[B)V"⟩ ∈ lw_gd := wmP (i := 817) (by decide +kernel) rfl
theorem wm_818 : Cond.code ⟨"java/lang/StringUTF16", "checkIndex", "(I[B)V"⟩ prog_20_method_91_code 2 none ∈ lw_gd := wmP (i := 818) (by decide +kernel) rfl
theorem wm_819 : Cond.methodLink "java/lang/StringUTF16" 48 ⟨"java/lang/StringUTF16", "length", "([B)I"⟩ ∈ lw_gd := wmP (i := 819) (by decide +kernel) rfl
theorem wm_820 : Cond.static ⟨"java/lang/StringUTF16", "length", "([B)I"⟩ ∈ lw_gd := wmP (i := 820) (by decide +kernel) rfl
theorem wm_821 : Cond.code ⟨"java/lang/StringUTF16", "length", "([B)I"⟩ prog_20_method_6_code 1 (some .int) ∈ lw_gd := wmP (i := 821) (by decide +kernel) rfl
theorem wm_822 : Cond.methodLink "java/lang/StringUTF16" 414 ⟨"java/lang/String", "checkIndex", "(II)V"⟩ ∈ lw_gd := wmP (i := 822) (by decide +kernel) rfl
theorem wm_823 : Cond.methodLink "java/lang/StringUTF16" 71 ⟨"java/lang/StringUTF16", "getChar", "([BI)C"⟩ ∈ lw_gd := wmP (i := 823) (by decide +kernel) rfl
theorem wm_824 : Cond.static ⟨"java/lang/StringUTF16", "getChar", "([BI)C"⟩ ∈ lw_gd := wmP (i := 824) (by decide +kernel) rfl
theorem wm_825 : Cond.code ⟨"java/lang/StringUTF16", "getChar", "([BI)C"⟩ prog_20_method_5_code 2 (some .char) ∈ lw_gd := wmP (i := 825) (by decide +kernel) rfl
theorem wm_826 : Cond.fieldLink "java/lang/StringUTF16" 44 "java/lang/StringUTF16" "$assertionsDisabled" "Z" ∈ lw_gd := wmP (i := 826) (by decide +kernel) rfl
theorem wm_828 : Cond.fieldLink "java/lang/StringUTF16" 59 "java/lang/StringUTF16" "HI_BYTE_SHIFT" "I" ∈ lw_gd := wmP (i := 828) (by decide +kernel) rfl
theorem wm_830 : Cond.fieldLink "java/lang/StringUTF16" 63 "java/lang/StringUTF16" "LO_BYTE_SHIFT" "I" ∈ lw_gd := wmP (i := 830) (by decide +kernel) rfl
theorem wm_832 : Cond.methodLink "WeekBoats$Parser" 100 ⟨"WeekBoats$Parser", "isSame", "(III)Z"⟩ ∈ lw_gd := wmP (i := 832) (by decide +kernel) rfl
theorem wm_834 : Cond.instanceMethod ⟨"WeekBoats$Parser", "isSame", "(III)Z"⟩ ∈ lw_gd := wmP (i := 834) (by decide +kernel) rfl
theorem wm_835 : Cond.code ⟨"WeekBoats$Parser", "isSame", "(III)Z"⟩ prog_6_method_12_code 5 (some .boolean) ∈ lw_gd := wmP (i := 835) (by decide +kernel) rfl
theorem wm_836 : Cond.methodLink "WeekBoats$Parser" 67 ⟨"WeekBoats$Parser", "add", "(II)V"⟩ ∈ lw_gd := wmP (i := 836) (by decide +kernel) rfl
theorem wm_838 : Cond.instanceMethod ⟨"WeekBoats$Parser", "add", "(II)V"⟩ ∈ lw_gd := wmP (i := 838) (by decide +kernel) rfl
theorem wm_839 : Cond.code ⟨"WeekBoats$Parser", "add", "(II)V"⟩ prog_6_method_5_code 3 none ∈ lw_gd := wmP (i := 839) (by decide +kernel) rfl
theorem wm_840 : Cond.methodLink "WeekBoats$Parser" 71 ⟨"WeekBoats$Parser", "isDigit", "(I)Z"⟩ ∈ lw_gd := wmP (i := 840) (by decide +kernel) rfl
theorem wm_841 : Cond.static ⟨"WeekBoats$Parser", "isDigit", "(I)Z"⟩ ∈ lw_gd := wmP (i := 841) (by decide +kernel) rfl
theorem wm_842 : Cond.code ⟨"WeekBoats$Parser", "isDigit", "(I)Z"⟩ prog_6_method_7_code 1 (some .boolean) ∈ lw_gd := wmP (i := 842) (by decide +kernel) rfl
theorem wm_843 : Cond.methodLink "WeekBoats$Parser" 74 ⟨"WeekBoats$Parser", "endOfDigits", "(I)I"⟩ ∈ lw_gd := wmP (i := 843) (by decide +kernel) rfl
theorem wm_845 : Cond.instanceMethod ⟨"WeekBoats$Parser", "endOfDigits", "(I)I"⟩ ∈ lw_gd := wmP (i := 845) (by decide +kernel) rfl
theorem wm_846 : Cond.code ⟨"WeekBoats$Parser", "endOfDigits", "(I)I"⟩ prog_6_method_9_code 4 (some .int) ∈ lw_gd := wmP (i := 846) (by decide +kernel) rfl
theorem wm_847 : Cond.methodLink "WeekBoats$Parser" 77 ⟨"WeekBoats$Parser", "numberOf", "(II)I"⟩ ∈ lw_gd := wmP (i := 847) (by decide +kernel) rfl
theorem wm_849 : Cond.instanceMethod ⟨"WeekBoats$Parser", "numberOf", "(II)I"⟩ ∈ lw_gd := wmP (i := 849) (by decide +kernel) rfl
theorem wm_850 : Cond.code ⟨"WeekBoats$Parser", "numberOf", "(II)I"⟩ prog_6_method_10_code 5 (some .int) ∈ lw_gd := wmP (i := 850) (by decide +kernel) rfl
theorem wm_852 : Cond.methodLink "WeekBoats$Parser" 82 ⟨"java/lang/String", "indexOf", "(I)I"⟩ ∈ lw_gd := wmP (i := 852) (by decide +kernel) rfl
theorem wm_853 : Cond.instanceMethod ⟨"java/lang/String", "indexOf", "(I)I"⟩ ∈ lw_gd := wmP (i := 853) (by decide +kernel) rfl
theorem wm_854 : Cond.selects "java/lang/String" ⟨"java/lang/String", "indexOf", "(I)I"⟩ ⟨"java/lang/String", "indexOf", "(I)I"⟩ ∈ lw_gd := wmP (i := 854) (by decide +kernel) rfl
theorem wm_855 : Cond.code ⟨"java/lang/String", "indexOf", "(I)I"⟩ prog_18_method_79_code 2 (some .int) ∈ lw_gd := wmP (i := 855) (by decide +kernel) rfl
theorem wm_856 : Cond.methodLink "java/lang/String" 633 ⟨"java/lang/String", "indexOf", "(II)I"⟩ ∈ lw_gd := wmP (i := 856) (by decide +kernel) rfl
theorem wm_857 : Cond.instanceMethod ⟨"java/lang/String", "indexOf", "(II)I"⟩ ∈ lw_gd := wmP (i := 857) (by decide +kernel) rfl
theorem wm_858 : Cond.selects "java/lang/String" ⟨"java/lang/String", "indexOf", "(II)I"⟩ ⟨"java/lang/String", "indexOf", "(II)I"⟩ ∈ lw_gd := wmP (i := 858) (by decide +kernel) rfl
theorem wm_859 : Cond.code ⟨"java/lang/String", "indexOf", "(II)I"⟩ prog_18_method_80_code 3 (some .int) ∈ lw_gd := wmP (i := 859) (by decide +kernel) rfl
theorem wm_860 : Cond.methodLink "java/lang/String" 505 ⟨"java/lang/String", "length", "()I"⟩ ∈ lw_gd := wmP (i := 860) (by decide +kernel) rfl
theorem wm_861 : Cond.methodLink "java/lang/String" 637 ⟨"java/lang/StringLatin1", "indexOf", "([BIII)I"⟩ ∈ lw_gd := wmP (i := 861) (by decide +kernel) rfl
theorem wm_862 : Cond.static ⟨"java/lang/StringLatin1", "indexOf", "([BIII)I"⟩ ∈ lw_gd := wmP (i := 862) (by decide +kernel) rfl
theorem wm_863 : Cond.code ⟨"java/lang/StringLatin1", "indexOf", "([BIII)I"⟩ prog_19_method_22_code 4 (some .int) ∈ lw_gd := wmP (i := 863) (by decide +kernel) rfl
theorem wm_864 : Cond.methodLink "java/lang/StringLatin1" 88 ⟨"java/lang/StringLatin1", "canEncode", "(I)Z"⟩ ∈ lw_gd := wmP (i := 864) (by decide +kernel) rfl
theorem wm_865 : Cond.static ⟨"java/lang/StringLatin1", "canEncode", "(I)Z"⟩ ∈ lw_gd := wmP (i := 865) (by decide +kernel) rfl
theorem wm_866 : Cond.code ⟨"java/lang/StringLatin1", "canEncode", "(I)Z"⟩ prog_19_method_4_code 1 (some .boolean) ∈ lw_gd := wmP (i := 866) (by decide +kernel) rfl
theorem wm_867 : Cond.methodLink "java/lang/StringLatin1" 92 ⟨"java/lang/Math", "max", "(II)I"⟩ ∈ lw_gd := wmP (i := 867) (by decide +kernel) rfl
theorem wm_868 : Cond.static ⟨"java/lang/Math", "max", "(II)I"⟩ ∈ lw_gd := wmP (i := 868) (by decide +kernel) rfl
theorem wm_869 : Cond.code ⟨"java/lang/Math", "max", "(II)I"⟩ prog_17_method_65_code 2 (some .int) ∈ lw_gd := wmP (i := 869) (by decide +kernel) rfl
theorem wm_870 : Cond.methodLink "java/lang/StringLatin1" 38 ⟨"java/lang/Math", "min", "(II)I"⟩ ∈ lw_gd := wmP (i := 870) (by decide +kernel) rfl
theorem wm_871 : Cond.static ⟨"java/lang/Math", "min", "(II)I"⟩ ∈ lw_gd := wmP (i := 871) (by decide +kernel) rfl
theorem wm_872 : Cond.code ⟨"java/lang/Math", "min", "(II)I"⟩ prog_17_method_69_code 2 (some .int) ∈ lw_gd := wmP (i := 872) (by decide +kernel) rfl
theorem wm_873 : Cond.methodLink "java/lang/StringLatin1" 95 ⟨"java/lang/StringLatin1", "indexOfChar", "([BIII)I"⟩ ∈ lw_gd := wmP (i := 873) (by decide +kernel) rfl
theorem wm_874 : Cond.static ⟨"java/lang/StringLatin1", "indexOfChar", "([BIII)I"⟩ ∈ lw_gd := wmP (i := 874) (by decide +kernel) rfl
theorem wm_875 : Cond.code ⟨"java/lang/StringLatin1", "indexOfChar", "([BIII)I"⟩ prog_19_method_23_code 6 (some .int) ∈ lw_gd := wmP (i := 875) (by decide +kernel) rfl
theorem wm_876 : Cond.methodLink "java/lang/String" 640 ⟨"java/lang/StringUTF16", "indexOf", "([BIII)I"⟩ ∈ lw_gd := wmP (i := 876) (by decide +kernel) rfl
theorem wm_877 : Cond.static ⟨"java/lang/StringUTF16", "indexOf", "([BIII)I"⟩ ∈ lw_gd := wmP (i := 877) (by decide +kernel) rfl
theorem wm_878 : Cond.code ⟨"java/lang/StringUTF16", "indexOf", "([BIII)I"⟩ prog_20_method_40_code 4 (some .int) ∈ lw_gd := wmP (i := 878) (by decide +kernel) rfl
theorem wm_879 : Cond.methodLink "java/lang/StringUTF16" 224 ⟨"java/lang/Math", "max", "(II)I"⟩ ∈ lw_gd := wmP (i := 879) (by decide +kernel) rfl
theorem wm_880 : Cond.methodLink "java/lang/StringUTF16" 183 ⟨"java/lang/Math", "min", "(II)I"⟩ ∈ lw_gd := wmP (i := 880) (by decide +kernel) rfl
theorem wm_881 : Cond.constant "java/lang/StringUTF16" 227 65536 ∈ lw_gd := wmP (i := 881) (by decide +kernel) rfl
theorem wm_882 : Cond.methodLink "java/lang/StringUTF16" 228 ⟨"java/lang/StringUTF16", "indexOfChar", "([BIII)I"⟩ ∈ lw_gd := wmP (i := 882) (by decide +kernel) rfl
theorem wm_883 : Cond.static ⟨"java/lang/StringUTF16", "indexOfChar", "([BIII)I"⟩ ∈ lw_gd := wmP (i := 883) (by decide +kernel) rfl
theorem wm_884 : Cond.code ⟨"java/lang/StringUTF16", "indexOfChar", "([BIII)I"⟩ prog_20_method_47_code 4 (some .int) ∈ lw_gd := wmP (i := 884) (by decide +kernel) rfl
theorem wm_885 : Cond.methodLink "java/lang/StringUTF16" 96 ⟨"java/lang/StringUTF16", "checkBoundsBeginEnd", "(II[B)V"⟩ ∈ lw_gd := wmP (i := 885) (by decide +kernel) rfl
theorem wm_886 : Cond.static ⟨"java/lang/StringUTF16", "checkBoundsBeginEnd", "(II[B)V"⟩ ∈ lw_gd := wmP (i := 886) (by decide +kernel) rfl
theorem wm_887 : Cond.code ⟨"java/lang/StringUTF16", "checkBoundsBeginEnd", "(II[B)V"⟩ prog_20_method_93_code 3 none ∈ lw_gd := wmP (i := 887) (by decide +kernel) rfl
theorem wm_888 : Cond.methodLink "java/lang/StringUTF16" 241 ⟨"java/lang/String", "checkBoundsBeginEnd", "(III)V"⟩ ∈ lw_gd := wmP (i := 888) (by decide +kernel) rfl
theorem wm_889 : Cond.static ⟨"java/lang/String", "checkBoundsBeginEnd", "(III)V"⟩ ∈ lw_gd := wmP (i := 889) (by decide +kernel) rfl
theorem wm_890 : Cond.code ⟨"java/lang/String", "checkBoundsBeginEnd", "(III)V"⟩ prog_18_method_158_code 3 none ∈ lw_gd := wmP (i := 890) (by decide +kernel) rfl
theorem wm_891 : Cond.methodLink "java/lang/String" 1062 ⟨"jdk/internal/util/Preconditions", "checkFromToIndex", "(IIILjava/util/function/BiFunction;)I"⟩ ∈ lw_gd := wmP (i := 891) (by decide +kernel) rfl
theorem wm_892 : Cond.static ⟨"jdk/internal/util/Preconditions", "checkFromToIndex", "(IIILjava/util/function/BiFunction;)I"⟩ ∈ lw_gd := wmP (i := 892) (by decide +kernel) rfl
theorem wm_893 : Cond.code ⟨"jdk/internal/util/Preconditions", "checkFromToIndex", "(IIILjava/util/function/BiFunction;)I"⟩ prog_23_method_12_code 4 (some .int) ∈ lw_gd := wmP (i := 893) (by decide +kernel) rfl
theorem wm_894 : Cond.methodLink "java/lang/StringUTF16" 244 ⟨"java/lang/StringUTF16", "indexOfCharUnsafe", "([BIII)I"⟩ ∈ lw_gd := wmP (i := 894) (by decide +kernel) rfl
theorem wm_895 : Cond.static ⟨"java/lang/StringUTF16", "indexOfCharUnsafe", "([BIII)I"⟩ ∈ lw_gd := wmP (i := 895) (by decide +kernel) rfl
theorem wm_896 : Cond.code ⟨"java/lang/StringUTF16", "indexOfCharUnsafe", "([BIII)I"⟩ prog_20_method_48_code 5 (some .int) ∈ lw_gd := wmP (i := 896) (by decide +kernel) rfl
theorem wm_897 : Cond.methodLink "java/lang/StringUTF16" 232 ⟨"java/lang/StringUTF16", "indexOfSupplementary", "([BIII)I"⟩ ∈ lw_gd := wmP (i := 897) (by decide +kernel) rfl
theorem wm_898 : Cond.static ⟨"java/lang/StringUTF16", "indexOfSupplementary", "([BIII)I"⟩ ∈ lw_gd := wmP (i := 898) (by decide +kernel) rfl
theorem wm_899 : Cond.code ⟨"java/lang/StringUTF16", "indexOfSupplementary", "([BIII)I"⟩ prog_20_method_49_code 7 (some .int) ∈ lw_gd := wmP (i := 899) (by decide +kernel) rfl
theorem wm_900 : Cond.methodLink "java/lang/StringUTF16" 164 ⟨"java/lang/Character", "isValidCodePoint", "(I)Z"⟩ ∈ lw_gd := wmP (i := 900) (by decide +kernel) rfl
theorem wm_901 : Cond.static ⟨"java/lang/Character", "isValidCodePoint", "(I)Z"⟩ ∈ lw_gd := wmP (i := 901) (by decide +kernel) rfl
theorem wm_902 : Cond.code ⟨"java/lang/Character", "isValidCodePoint", "(I)Z"⟩ prog_15_method_11_code 2 (some .boolean) ∈ lw_gd := wmP (i := 902) (by decide +kernel) rfl
theorem wm_903 : Cond.methodLink "java/lang/StringUTF16" 157 ⟨"java/lang/Character", "highSurrogate", "(I)C"⟩ ∈ lw_gd := wmP (i := 903) (by decide +kernel) rfl
theorem wm_904 : Cond.static ⟨"java/lang/Character", "highSurrogate", "(I)C"⟩ ∈ lw_gd := wmP (i := 904) (by decide +kernel) rfl
theorem wm_905 : Cond.code ⟨"java/lang/Character", "highSurrogate", "(I)C"⟩ prog_15_method_28_code 1 (some .char) ∈ lw_gd := wmP (i := 905) (by decide +kernel) rfl
theorem wm_906 : Cond.constant "java/lang/Character" 110 55232 ∈ lw_gd := wmP (i := 906) (by decide +kernel) rfl
theorem wm_907 : Cond.methodLink "java/lang/StringUTF16" 161 ⟨"java/lang/Character", "lowSurrogate", "(I)C"⟩ ∈ lw_gd := wmP (i := 907) (by decide +kernel) rfl
theorem wm_908 : Cond.static ⟨"java/lang/Character", "lowSurrogate", "(I)C"⟩ ∈ lw_gd := wmP (i := 908) (by decide +kernel) rfl
theorem wm_909 : Cond.code ⟨"java/lang/Character", "lowSurrogate", "(I)C"⟩ prog_15_method_29_code 1 (some .char) ∈ lw_gd := wmP (i := 909) (by decide +kernel) rfl
theorem wm_910 : Cond.constant "java/lang/Character" 76 56320 ∈ lw_gd := wmP (i := 910) (by decide +kernel) rfl
theorem wm_911 : Cond.methodLink "WeekBoats$Parser" 46 ⟨"WeekBoats$Parser", "readLine", "()V"⟩ ∈ lw_gd := wmP (i := 911) (by decide +kernel) rfl
theorem wm_913 : Cond.instanceMethod ⟨"WeekBoats$Parser", "readLine", "()V"⟩ ∈ lw_gd := wmP (i := 913) (by decide +kernel) rfl
theorem wm_914 : Cond.code ⟨"WeekBoats$Parser", "readLine", "()V"⟩ prog_6_method_16_code 3 none ∈ lw_gd := wmP (i := 914) (by decide +kernel) rfl
theorem wm_915 : Cond.methodLink "WeekBoats$Parser" 103 ⟨"WeekBoats$Parser", "fail", "(I)V"⟩ ∈ lw_gd := wmP (i := 915) (by decide +kernel) rfl
theorem wm_917 : Cond.instanceMethod ⟨"WeekBoats$Parser", "fail", "(I)V"⟩ ∈ lw_gd := wmP (i := 917) (by decide +kernel) rfl
theorem wm_918 : Cond.code ⟨"WeekBoats$Parser", "fail", "(I)V"⟩ prog_6_method_13_code 2 none ∈ lw_gd := wmP (i := 918) (by decide +kernel) rfl
theorem wm_919 : Cond.methodLink "WeekBoats$Parser" 107 ⟨"WeekBoats$Parser", "goOn", "()V"⟩ ∈ lw_gd := wmP (i := 919) (by decide +kernel) rfl
theorem wm_921 : Cond.instanceMethod ⟨"WeekBoats$Parser", "goOn", "()V"⟩ ∈ lw_gd := wmP (i := 921) (by decide +kernel) rfl
theorem wm_922 : Cond.code ⟨"WeekBoats$Parser", "goOn", "()V"⟩ prog_6_method_15_code 1 none ∈ lw_gd := wmP (i := 922) (by decide +kernel) rfl
theorem wm_923 : Cond.methodLink "WeekBoats$Parser" 119 ⟨"WeekBoats$Parser", "readTunnel", "()V"⟩ ∈ lw_gd := wmP (i := 923) (by decide +kernel) rfl
theorem wm_925 : Cond.instanceMethod ⟨"WeekBoats$Parser", "readTunnel", "()V"⟩ ∈ lw_gd := wmP (i := 925) (by decide +kernel) rfl
theorem wm_926 : Cond.code ⟨"WeekBoats$Parser", "readTunnel", "()V"⟩ prog_6_method_17_code 3 none ∈ lw_gd := wmP (i := 926) (by decide +kernel) rfl
theorem wm_927 : Cond.methodLink "WeekBoats$Parser" 125 ⟨"WeekBoats$Parser", "numberUpTo", "(I)I"⟩ ∈ lw_gd := wmP (i := 927) (by decide +kernel) rfl
theorem wm_929 : Cond.instanceMethod ⟨"WeekBoats$Parser", "numberUpTo", "(I)I"⟩ ∈ lw_gd := wmP (i := 929) (by decide +kernel) rfl
theorem wm_930 : Cond.code ⟨"WeekBoats$Parser", "numberUpTo", "(I)I"⟩ prog_6_method_18_code 3 (some .int) ∈ lw_gd := wmP (i := 930) (by decide +kernel) rfl
theorem wm_931 : Cond.methodLink "WeekBoats$Parser" 137 ⟨"WeekBoats$Parser", "is", "(I)Z"⟩ ∈ lw_gd := wmP (i := 931) (by decide +kernel) rfl
theorem wm_933 : Cond.instanceMethod ⟨"WeekBoats$Parser", "is", "(I)Z"⟩ ∈ lw_gd := wmP (i := 933) (by decide +kernel) rfl
theorem wm_934 : Cond.code ⟨"WeekBoats$Parser", "is", "(I)Z"⟩ prog_6_method_14_code 2 (some .boolean) ∈ lw_gd := wmP (i := 934) (by decide +kernel) rfl
theorem wm_935 : Cond.methodLink "WeekBoats$Parser" 149 ⟨"WeekBoats$Rules", "hasTunnel", "(I)Z"⟩ ∈ lw_gd := wmP (i := 935) (by decide +kernel) rfl
theorem wm_936 : Cond.instanceMethod ⟨"WeekBoats$Rules", "hasTunnel", "(I)Z"⟩ ∈ lw_gd := wmP (i := 936) (by decide +kernel) rfl
theorem wm_937 : Cond.selects "WeekBoats$Rules" ⟨"WeekBoats$Rules", "hasTunnel", "(I)Z"⟩ ⟨"WeekBoats$Rules", "hasTunnel", "(I)Z"⟩ ∈ lw_gd := wmP (i := 937) (by decide +kernel) rfl
theorem wm_938 : Cond.code ⟨"WeekBoats$Rules", "hasTunnel", "(I)Z"⟩ prog_8_method_5_code 2 (some .boolean) ∈ lw_gd := wmP (i := 938) (by decide +kernel) rfl
theorem wm_939 : Cond.methodLink "WeekBoats$Parser" 131 ⟨"WeekBoats$Parser", "readSum", "()V"⟩ ∈ lw_gd := wmP (i := 939) (by decide +kernel) rfl
theorem wm_941 : Cond.instanceMethod ⟨"WeekBoats$Parser", "readSum", "()V"⟩ ∈ lw_gd := wmP (i := 941) (by decide +kernel) rfl
theorem wm_942 : Cond.code ⟨"WeekBoats$Parser", "readSum", "()V"⟩ prog_6_method_25_code 3 none ∈ lw_gd := wmP (i := 942) (by decide +kernel) rfl
theorem wm_943 : Cond.methodLink "WeekBoats$Parser" 176 ⟨"WeekBoats$Parser", "readProduct", "()V"⟩ ∈ lw_gd := wmP (i := 943) (by decide +kernel) rfl
theorem wm_945 : Cond.instanceMethod ⟨"WeekBoats$Parser", "readProduct", "()V"⟩ ∈ lw_gd := wmP (i := 945) (by decide +kernel) rfl
theorem wm_946 : Cond.code ⟨"WeekBoats$Parser", "readProduct", "()V"⟩ prog_6_method_26_code 3 none ∈ lw_gd := wmP (i := 946) (by decide +kernel) rfl
theorem wm_947 : Cond.methodLink "WeekBoats$Parser" 179 ⟨"WeekBoats$Parser", "readUnit", "()V"⟩ ∈ lw_gd := wmP (i := 947) (by decide +kernel) rfl
theorem wm_949 : Cond.instanceMethod ⟨"WeekBoats$Parser", "readUnit", "()V"⟩ ∈ lw_gd := wmP (i := 949) (by decide +kernel) rfl
theorem wm_950 : Cond.code ⟨"WeekBoats$Parser", "readUnit", "()V"⟩ prog_6_method_27_code 2 none ∈ lw_gd := wmP (i := 950) (by decide +kernel) rfl
theorem wm_951 : Cond.methodLink "WeekBoats$Parser" 164 ⟨"WeekBoats$Rules", "put", "(II)V"⟩ ∈ lw_gd := wmP (i := 951) (by decide +kernel) rfl
theorem wm_952 : Cond.instanceMethod ⟨"WeekBoats$Rules", "put", "(II)V"⟩ ∈ lw_gd := wmP (i := 952) (by decide +kernel) rfl
theorem wm_953 : Cond.selects "WeekBoats$Rules" ⟨"WeekBoats$Rules", "put", "(II)V"⟩ ⟨"WeekBoats$Rules", "put", "(II)V"⟩ ∈ lw_gd := wmP (i := 953) (by decide +kernel) rfl
theorem wm_954 : Cond.code ⟨"WeekBoats$Rules", "put", "(II)V"⟩ prog_8_method_4_code 3 none ∈ lw_gd := wmP (i := 954) (by decide +kernel) rfl
theorem wm_955 : Cond.methodLink "WeekBoats$Parser" 182 ⟨"WeekBoats$Parser", "readPart", "()V"⟩ ∈ lw_gd := wmP (i := 955) (by decide +kernel) rfl
theorem wm_957 : Cond.instanceMethod ⟨"WeekBoats$Parser", "readPart", "()V"⟩ ∈ lw_gd := wmP (i := 957) (by decide +kernel) rfl
theorem wm_958 : Cond.code ⟨"WeekBoats$Parser", "readPart", "()V"⟩ prog_6_method_28_code 2 none ∈ lw_gd := wmP (i := 958) (by decide +kernel) rfl
theorem wm_959 : Cond.methodLink "WeekBoats$Parser" 140 ⟨"WeekBoats$Parser", "readEither", "(I)V"⟩ ∈ lw_gd := wmP (i := 959) (by decide +kernel) rfl
theorem wm_961 : Cond.instanceMethod ⟨"WeekBoats$Parser", "readEither", "(I)V"⟩ ∈ lw_gd := wmP (i := 961) (by decide +kernel) rfl
theorem wm_962 : Cond.code ⟨"WeekBoats$Parser", "readEither", "(I)V"⟩ prog_6_method_20_code 3 none ∈ lw_gd := wmP (i := 962) (by decide +kernel) rfl
theorem wm_963 : Cond.methodLink "WeekBoats$Parser" 161 ⟨"WeekBoats$Parser", "readAll", "(I)V"⟩ ∈ lw_gd := wmP (i := 963) (by decide +kernel) rfl
theorem wm_965 : Cond.instanceMethod ⟨"WeekBoats$Parser", "readAll", "(I)V"⟩ ∈ lw_gd := wmP (i := 965) (by decide +kernel) rfl
theorem wm_966 : Cond.code ⟨"WeekBoats$Parser", "readAll", "(I)V"⟩ prog_6_method_21_code 3 none ∈ lw_gd := wmP (i := 966) (by decide +kernel) rfl
theorem wm_967 : Cond.methodLink "WeekBoats$Parser" 167 ⟨"WeekBoats$Parser", "readOne", "(I)V"⟩ ∈ lw_gd := wmP (i := 967) (by decide +kernel) rfl
theorem wm_969 : Cond.instanceMethod ⟨"WeekBoats$Parser", "readOne", "(I)V"⟩ ∈ lw_gd := wmP (i := 969) (by decide +kernel) rfl
theorem wm_970 : Cond.code ⟨"WeekBoats$Parser", "readOne", "(I)V"⟩ prog_6_method_22_code 4 none ∈ lw_gd := wmP (i := 970) (by decide +kernel) rfl
theorem wm_971 : Cond.methodLink "WeekBoats$Parser" 170 ⟨"WeekBoats$Parser", "openOneMore", "(I)V"⟩ ∈ lw_gd := wmP (i := 971) (by decide +kernel) rfl
theorem wm_973 : Cond.instanceMethod ⟨"WeekBoats$Parser", "openOneMore", "(I)V"⟩ ∈ lw_gd := wmP (i := 973) (by decide +kernel) rfl
theorem wm_974 : Cond.code ⟨"WeekBoats$Parser", "openOneMore", "(I)V"⟩ prog_6_method_23_code 2 none ∈ lw_gd := wmP (i := 974) (by decide +kernel) rfl
theorem wm_975 : Cond.methodLink "WeekBoats$Parser" 146 ⟨"WeekBoats$Parser", "demand", "(I)V"⟩ ∈ lw_gd := wmP (i := 975) (by decide +kernel) rfl
theorem wm_977 : Cond.instanceMethod ⟨"WeekBoats$Parser", "demand", "(I)V"⟩ ∈ lw_gd := wmP (i := 977) (by decide +kernel) rfl
theorem wm_978 : Cond.code ⟨"WeekBoats$Parser", "demand", "(I)V"⟩ prog_6_method_19_code 2 none ∈ lw_gd := wmP (i := 978) (by decide +kernel) rfl
theorem wm_979 : Cond.methodLink "WeekBoats$Parser" 173 ⟨"WeekBoats$Parser", "demandComparing", "()V"⟩ ∈ lw_gd := wmP (i := 979) (by decide +kernel) rfl
theorem wm_981 : Cond.instanceMethod ⟨"WeekBoats$Parser", "demandComparing", "()V"⟩ ∈ lw_gd := wmP (i := 981) (by decide +kernel) rfl
theorem wm_982 : Cond.code ⟨"WeekBoats$Parser", "demandComparing", "()V"⟩ prog_6_method_24_code 1 none ∈ lw_gd := wmP (i := 982) (by decide +kernel) rfl
theorem wm_983 : Cond.methodLink "WeekBoats" 161 ⟨"WeekBoats$Rules", "takeOver", "(LWeekBoats$Rules;)V"⟩ ∈ lw_gd := wmP (i := 983) (by decide +kernel) rfl
theorem wm_984 : Cond.instanceMethod ⟨"WeekBoats$Rules", "takeOver", "(LWeekBoats$Rules;)V"⟩ ∈ lw_gd := wmP (i := 984) (by decide +kernel) rfl
theorem wm_985 : Cond.selects "WeekBoats$Rules" ⟨"WeekBoats$Rules", "takeOver", "(LWeekBoats$Rules;)V"⟩ ⟨"WeekBoats$Rules", "takeOver", "(LWeekBoats$Rules;)V"⟩ ∈ lw_gd := wmP (i := 985) (by decide +kernel) rfl
theorem wm_986 : Cond.code ⟨"WeekBoats$Rules", "takeOver", "(LWeekBoats$Rules;)V"⟩ prog_8_method_3_code 2 none ∈ lw_gd := wmP (i := 986) (by decide +kernel) rfl
theorem wm_987 : Cond.methodLink "WeekBoats$Rules" 64 ⟨"java/lang/System", "arraycopy", "(Ljava/lang/Object;ILjava/lang/Object;II)V"⟩ ∈ lw_gd := wmP (i := 987) (by decide +kernel) rfl
theorem wm_988 : Cond.static ⟨"java/lang/System", "arraycopy", "(Ljava/lang/Object;ILjava/lang/Object;II)V"⟩ ∈ lw_gd := wmP (i := 988) (by decide +kernel) rfl
theorem wm_989 : Cond.native ⟨"java/lang/System", "arraycopy", "(Ljava/lang/Object;ILjava/lang/Object;II)V"⟩ ∈ lw_gd := wmP (i := 989) (by decide +kernel) rfl
theorem wm_991 : Cond.methodLink "WeekBoatsLaw" 47 ⟨"WeekBoats", "fault", "(I)I"⟩ ∈ lw_gd := wmP (i := 991) (by decide +kernel) rfl
theorem wm_992 : Cond.instanceMethod ⟨"WeekBoats", "fault", "(I)I"⟩ ∈ lw_gd := wmP (i := 992) (by decide +kernel) rfl
theorem wm_993 : Cond.selects "WeekBoats" ⟨"WeekBoats", "fault", "(I)I"⟩ ⟨"WeekBoats", "fault", "(I)I"⟩ ∈ lw_gd := wmP (i := 993) (by decide +kernel) rfl
theorem wm_994 : Cond.code ⟨"WeekBoats", "fault", "(I)I"⟩ prog_1_method_16_code 2 (some .int) ∈ lw_gd := wmP (i := 994) (by decide +kernel) rfl
theorem wm_995 : Cond.methodLink "WeekBoatsLaw" 52 ⟨"WeekBoats", "open", "(II)I"⟩ ∈ lw_gd := wmP (i := 995) (by decide +kernel) rfl
theorem wm_996 : Cond.instanceMethod ⟨"WeekBoats", "open", "(II)I"⟩ ∈ lw_gd := wmP (i := 996) (by decide +kernel) rfl
theorem wm_997 : Cond.selects "WeekBoats" ⟨"WeekBoats", "open", "(II)I"⟩ ⟨"WeekBoats", "open", "(II)I"⟩ ∈ lw_gd := wmP (i := 997) (by decide +kernel) rfl
theorem wm_998 : Cond.code ⟨"WeekBoats", "open", "(II)I"⟩ prog_1_method_17_code 3 (some .int) ∈ lw_gd := wmP (i := 998) (by decide +kernel) rfl
theorem wm_999 : Cond.methodLink "WeekBoatsLaw" 57 ⟨"WeekBoats", "comes", "(IIII)I"⟩ ∈ lw_gd := wmP (i := 999) (by decide +kernel) rfl
theorem wm_1000 : Cond.instanceMethod ⟨"WeekBoats", "comes", "(IIII)I"⟩ ∈ lw_gd := wmP (i := 1000) (by decide +kernel) rfl
theorem wm_1001 : Cond.selects "WeekBoats" ⟨"WeekBoats", "comes", "(IIII)I"⟩ ⟨"WeekBoats", "comes", "(IIII)I"⟩ ∈ lw_gd := wmP (i := 1001) (by decide +kernel) rfl
theorem wm_1002 : Cond.code ⟨"WeekBoats", "comes", "(IIII)I"⟩ prog_1_method_18_code 5 (some .int) ∈ lw_gd := wmP (i := 1002) (by decide +kernel) rfl
theorem wm_1003 : Cond.methodLink "WeekBoats" 176 ⟨"WeekBoats", "isWay", "(IIII)Z"⟩ ∈ lw_gd := wmP (i := 1003) (by decide +kernel) rfl
theorem wm_1005 : Cond.instanceMethod ⟨"WeekBoats", "isWay", "(IIII)Z"⟩ ∈ lw_gd := wmP (i := 1005) (by decide +kernel) rfl
theorem wm_1006 : Cond.code ⟨"WeekBoats", "isWay", "(IIII)Z"⟩ prog_1_method_8_code 5 (some .boolean) ∈ lw_gd := wmP (i := 1006) (by decide +kernel) rfl
theorem wm_1007 : Cond.methodLink "WeekBoats" 107 ⟨"WeekBoats", "isBoat", "(I)Z"⟩ ∈ lw_gd := wmP (i := 1007) (by decide +kernel) rfl
theorem wm_1009 : Cond.instanceMethod ⟨"WeekBoats", "isBoat", "(I)Z"⟩ ∈ lw_gd := wmP (i := 1009) (by decide +kernel) rfl
theorem wm_1010 : Cond.code ⟨"WeekBoats", "isBoat", "(I)Z"⟩ prog_1_method_7_code 2 (some .boolean) ∈ lw_gd := wmP (i := 1010) (by decide +kernel) rfl
theorem wm_1011 : Cond.methodLink "WeekBoats" 114 ⟨"WeekBoats", "isTime", "(I)Z"⟩ ∈ lw_gd := wmP (i := 1011) (by decide +kernel) rfl
theorem wm_1012 : Cond.static ⟨"WeekBoats", "isTime", "(I)Z"⟩ ∈ lw_gd := wmP (i := 1012) (by decide +kernel) rfl
theorem wm_1013 : Cond.code ⟨"WeekBoats", "isTime", "(I)Z"⟩ prog_1_method_4_code 1 (some .boolean) ∈ lw_gd := wmP (i := 1013) (by decide +kernel) rfl
theorem wm_1014 : Cond.methodLink "WeekBoats" 183 ⟨"WeekBoats$Voyage", "comesTo", "(IIIIZ)I"⟩ ∈ lw_gd := wmP (i := 1014) (by decide +kernel) rfl
theorem wm_1015 : Cond.instanceMethod ⟨"WeekBoats$Voyage", "comesTo", "(IIIIZ)I"⟩ ∈ lw_gd := wmP (i := 1015) (by decide +kernel) rfl
theorem wm_1016 : Cond.selects "WeekBoats$Voyage" ⟨"WeekBoats$Voyage", "comesTo", "(IIIIZ)I"⟩ ⟨"WeekBoats$Voyage", "comesTo", "(IIIIZ)I"⟩ ∈ lw_gd := wmP (i := 1016) (by decide +kernel) rfl
theorem wm_1017 : Cond.code ⟨"WeekBoats$Voyage", "comesTo", "(IIIIZ)I"⟩ prog_11_method_4_code 8 (some .int) ∈ lw_gd := wmP (i := 1017) (by decide +kernel) rfl
theorem wm_1018 : Cond.methodLink "WeekBoats$Voyage" 67 ⟨"WeekBoats$Voyage", "setOut", "(IZ)V"⟩ ∈ lw_gd := wmP (i := 1018) (by decide +kernel) rfl
theorem wm_1020 : Cond.instanceMethod ⟨"WeekBoats$Voyage", "setOut", "(IZ)V"⟩ ∈ lw_gd := wmP (i := 1020) (by decide +kernel) rfl
theorem wm_1021 : Cond.code ⟨"WeekBoats$Voyage", "setOut", "(IZ)V"⟩ prog_11_method_3_code 3 none ∈ lw_gd := wmP (i := 1021) (by decide +kernel) rfl
theorem wm_1022 : Cond.methodLink "WeekBoats$Voyage" 71 ⟨"WeekBoats$Voyage", "pass", "(IZI)I"⟩ ∈ lw_gd := wmP (i := 1022) (by decide +kernel) rfl
theorem wm_1024 : Cond.instanceMethod ⟨"WeekBoats$Voyage", "pass", "(IZI)I"⟩ ∈ lw_gd := wmP (i := 1024) (by decide +kernel) rfl
theorem wm_1025 : Cond.code ⟨"WeekBoats$Voyage", "pass", "(IZI)I"⟩ prog_11_method_8_code 7 (some .int) ∈ lw_gd := wmP (i := 1025) (by decide +kernel) rfl
theorem wm_1026 : Cond.methodLink "WeekBoats$Voyage" 81 ⟨"WeekBoats$Rules", "isTunnel", "(I)Z"⟩ ∈ lw_gd := wmP (i := 1026) (by decide +kernel) rfl
theorem wm_1027 : Cond.instanceMethod ⟨"WeekBoats$Rules", "isTunnel", "(I)Z"⟩ ∈ lw_gd := wmP (i := 1027) (by decide +kernel) rfl
theorem wm_1028 : Cond.selects "WeekBoats$Rules" ⟨"WeekBoats$Rules", "isTunnel", "(I)Z"⟩ ⟨"WeekBoats$Rules", "isTunnel", "(I)Z"⟩ ∈ lw_gd := wmP (i := 1028) (by decide +kernel) rfl
theorem wm_1029 : Cond.code ⟨"WeekBoats$Rules", "isTunnel", "(I)Z"⟩ prog_8_method_6_code 2 (some .boolean) ∈ lw_gd := wmP (i := 1029) (by decide +kernel) rfl
theorem wm_1030 : Cond.methodLink "WeekBoats$Rules" 70 ⟨"WeekBoats$Rules", "hasTunnel", "(I)Z"⟩ ∈ lw_gd := wmP (i := 1030) (by decide +kernel) rfl
theorem wm_1031 : Cond.methodLink "WeekBoats$Voyage" 85 ⟨"WeekBoats$Voyage", "step", "(IIII)I"⟩ ∈ lw_gd := wmP (i := 1031) (by decide +kernel) rfl
theorem wm_1033 : Cond.instanceMethod ⟨"WeekBoats$Voyage", "step", "(IIII)I"⟩ ∈ lw_gd := wmP (i := 1033) (by decide +kernel) rfl
theorem wm_1034 : Cond.code ⟨"WeekBoats$Voyage", "step", "(IIII)I"⟩ prog_11_method_9_code 6 (some .int) ∈ lw_gd := wmP (i := 1034) (by decide +kernel) rfl
theorem wm_1035 : Cond.methodLink "WeekBoats$Voyage" 92 ⟨"WeekBoats$Voyage", "begins", "(III)I"⟩ ∈ lw_gd := wmP (i := 1035) (by decide +kernel) rfl
theorem wm_1037 : Cond.instanceMethod ⟨"WeekBoats$Voyage", "begins", "(III)I"⟩ ∈ lw_gd := wmP (i := 1037) (by decide +kernel) rfl
theorem wm_1038 : Cond.code ⟨"WeekBoats$Voyage", "begins", "(III)I"⟩ prog_11_method_10_code 8 (some .int) ∈ lw_gd := wmP (i := 1038) (by decide +kernel) rfl
theorem wm_1039 : Cond.methodLink "WeekBoats$Voyage" 96 ⟨"WeekBoats$Voyage", "firstHour", "(III)I"⟩ ∈ lw_gd := wmP (i := 1039) (by decide +kernel) rfl
theorem wm_1041 : Cond.instanceMethod ⟨"WeekBoats$Voyage", "firstHour", "(III)I"⟩ ∈ lw_gd := wmP (i := 1041) (by decide +kernel) rfl
theorem wm_1042 : Cond.code ⟨"WeekBoats$Voyage", "firstHour", "(III)I"⟩ prog_11_method_12_code 4 (some .int) ∈ lw_gd := wmP (i := 1042) (by decide +kernel) rfl
theorem wm_1043 : Cond.methodLink "WeekBoats$Voyage" 99 ⟨"java/lang/Math", "max", "(II)I"⟩ ∈ lw_gd := wmP (i := 1043) (by decide +kernel) rfl
theorem wm_1044 : Cond.methodLink "WeekBoats$Voyage" 105 ⟨"WeekBoats$Voyage", "hourBehind", "(III)I"⟩ ∈ lw_gd := wmP (i := 1044) (by decide +kernel) rfl
theorem wm_1046 : Cond.instanceMethod ⟨"WeekBoats$Voyage", "hourBehind", "(III)I"⟩ ∈ lw_gd := wmP (i := 1046) (by decide +kernel) rfl
theorem wm_1047 : Cond.code ⟨"WeekBoats$Voyage", "hourBehind", "(III)I"⟩ prog_11_method_13_code 4 (some .int) ∈ lw_gd := wmP (i := 1047) (by decide +kernel) rfl
theorem wm_1048 : Cond.methodLink "WeekBoats$Voyage" 108 ⟨"java/lang/Math", "min", "(II)I"⟩ ∈ lw_gd := wmP (i := 1048) (by decide +kernel) rfl
theorem wm_1049 : Cond.methodLink "WeekBoats$Voyage" 111 ⟨"WeekBoats$Voyage", "isStopped", "(II)Z"⟩ ∈ lw_gd := wmP (i := 1049) (by decide +kernel) rfl
theorem wm_1051 : Cond.instanceMethod ⟨"WeekBoats$Voyage", "isStopped", "(II)Z"⟩ ∈ lw_gd := wmP (i := 1051) (by decide +kernel) rfl
theorem wm_1052 : Cond.code ⟨"WeekBoats$Voyage", "isStopped", "(II)Z"⟩ prog_11_method_11_code 3 (some .boolean) ∈ lw_gd := wmP (i := 1052) (by decide +kernel) rfl
theorem wm_1053 : Cond.methodLink "WeekBoatsLaw" 61 ⟨"WeekBoats", "maybe", "(IIII)I"⟩ ∈ lw_gd := wmP (i := 1053) (by decide +kernel) rfl
theorem wm_1054 : Cond.instanceMethod ⟨"WeekBoats", "maybe", "(IIII)I"⟩ ∈ lw_gd := wmP (i := 1054) (by decide +kernel) rfl
theorem wm_1055 : Cond.selects "WeekBoats" ⟨"WeekBoats", "maybe", "(IIII)I"⟩ ⟨"WeekBoats", "maybe", "(IIII)I"⟩ ∈ lw_gd := wmP (i := 1055) (by decide +kernel) rfl
theorem wm_1056 : Cond.code ⟨"WeekBoats", "maybe", "(IIII)I"⟩ prog_1_method_19_code 5 (some .int) ∈ lw_gd := wmP (i := 1056) (by decide +kernel) rfl
theorem wm_1057 : Cond.methodLink "WeekBoats" 187 ⟨"WeekBoats$Voyage", "reach", "(III)V"⟩ ∈ lw_gd := wmP (i := 1057) (by decide +kernel) rfl
theorem wm_1058 : Cond.instanceMethod ⟨"WeekBoats$Voyage", "reach", "(III)V"⟩ ∈ lw_gd := wmP (i := 1058) (by decide +kernel) rfl
theorem wm_1059 : Cond.selects "WeekBoats$Voyage" ⟨"WeekBoats$Voyage", "reach", "(III)V"⟩ ⟨"WeekBoats$Voyage", "reach", "(III)V"⟩ ∈ lw_gd := wmP (i := 1059) (by decide +kernel) rfl
theorem wm_1060 : Cond.code ⟨"WeekBoats$Voyage", "reach", "(III)V"⟩ prog_11_method_5_code 5 none ∈ lw_gd := wmP (i := 1060) (by decide +kernel) rfl
theorem wm_1061 : Cond.methodLink "WeekBoats" 190 ⟨"WeekBoats$Voyage", "reached", "(I)I"⟩ ∈ lw_gd := wmP (i := 1061) (by decide +kernel) rfl
theorem wm_1062 : Cond.instanceMethod ⟨"WeekBoats$Voyage", "reached", "(I)I"⟩ ∈ lw_gd := wmP (i := 1062) (by decide +kernel) rfl
theorem wm_1063 : Cond.selects "WeekBoats$Voyage" ⟨"WeekBoats$Voyage", "reached", "(I)I"⟩ ⟨"WeekBoats$Voyage", "reached", "(I)I"⟩ ∈ lw_gd := wmP (i := 1063) (by decide +kernel) rfl
theorem wm_1064 : Cond.code ⟨"WeekBoats$Voyage", "reached", "(I)I"⟩ prog_11_method_6_code 4 (some .int) ∈ lw_gd := wmP (i := 1064) (by decide +kernel) rfl
theorem wm_1065 : Cond.methodLink "WeekBoatsLaw" 65 ⟨"WeekBoats", "harm", "(IIII)I"⟩ ∈ lw_gd := wmP (i := 1065) (by decide +kernel) rfl
theorem wm_1066 : Cond.instanceMethod ⟨"WeekBoats", "harm", "(IIII)I"⟩ ∈ lw_gd := wmP (i := 1066) (by decide +kernel) rfl
theorem wm_1067 : Cond.selects "WeekBoats" ⟨"WeekBoats", "harm", "(IIII)I"⟩ ⟨"WeekBoats", "harm", "(IIII)I"⟩ ∈ lw_gd := wmP (i := 1067) (by decide +kernel) rfl
theorem wm_1068 : Cond.code ⟨"WeekBoats", "harm", "(IIII)I"⟩ prog_1_method_20_code 6 (some .int) ∈ lw_gd := wmP (i := 1068) (by decide +kernel) rfl
theorem wm_1069 : Cond.methodLink "WeekBoats" 194 ⟨"WeekBoats$Boats", "harmOfLatestWay", "(I)I"⟩ ∈ lw_gd := wmP (i := 1069) (by decide +kernel) rfl
theorem wm_1070 : Cond.instanceMethod ⟨"WeekBoats$Boats", "harmOfLatestWay", "(I)I"⟩ ∈ lw_gd := wmP (i := 1070) (by decide +kernel) rfl
theorem wm_1071 : Cond.selects "WeekBoats$Boats" ⟨"WeekBoats$Boats", "harmOfLatestWay", "(I)I"⟩ ⟨"WeekBoats$Boats", "harmOfLatestWay", "(I)I"⟩ ∈ lw_gd := wmP (i := 1071) (by decide +kernel) rfl
theorem wm_1072 : Cond.code ⟨"WeekBoats$Boats", "harmOfLatestWay", "(I)I"⟩ prog_2_method_11_code 4 (some .int) ∈ lw_gd := wmP (i := 1072) (by decide +kernel) rfl
theorem wm_1073 : Cond.methodLink "WeekBoats$Boats" 101 ⟨"WeekBoats$Boats", "harmOfLock", "(II)I"⟩ ∈ lw_gd := wmP (i := 1073) (by decide +kernel) rfl
theorem wm_1075 : Cond.instanceMethod ⟨"WeekBoats$Boats", "harmOfLock", "(II)I"⟩ ∈ lw_gd := wmP (i := 1075) (by decide +kernel) rfl
theorem wm_1076 : Cond.code ⟨"WeekBoats$Boats", "harmOfLock", "(II)I"⟩ prog_2_method_12_code 4 (some .int) ∈ lw_gd := wmP (i := 1076) (by decide +kernel) rfl
theorem wm_1077 : Cond.methodLink "WeekBoats$Boats" 109 ⟨"WeekBoats$Rules", "askDay", "(II)V"⟩ ∈ lw_gd := wmP (i := 1077) (by decide +kernel) rfl
theorem wm_1078 : Cond.methodLink "WeekBoats$Boats" 118 ⟨"WeekBoats$Rules", "serving", "(I)I"⟩ ∈ lw_gd := wmP (i := 1078) (by decide +kernel) rfl
theorem wm_1079 : Cond.methodLink "WeekBoats$Boats" 121 ⟨"WeekBoats$Rules", "valueOf", "(I)I"⟩ ∈ lw_gd := wmP (i := 1079) (by decide +kernel) rfl
theorem wm_1080 : Cond.instanceMethod ⟨"WeekBoats$Rules", "valueOf", "(I)I"⟩ ∈ lw_gd := wmP (i := 1080) (by decide +kernel) rfl
theorem wm_1081 : Cond.selects "WeekBoats$Rules" ⟨"WeekBoats$Rules", "valueOf", "(I)I"⟩ ⟨"WeekBoats$Rules", "valueOf", "(I)I"⟩ ∈ lw_gd := wmP (i := 1081) (by decide +kernel) rfl
theorem wm_1082 : Cond.code ⟨"WeekBoats$Rules", "valueOf", "(I)I"⟩ prog_8_method_10_code 2 (some .int) ∈ lw_gd := wmP (i := 1082) (by decide +kernel) rfl
theorem wm_1083 : Cond.methodLink "WeekBoats$Boats" 124 ⟨"java/lang/Math", "min", "(II)I"⟩ ∈ lw_gd := wmP (i := 1083) (by decide +kernel) rfl
theorem wm_1084 : Cond.methodLink "WeekBoats$Boats" 71 ⟨"java/lang/Math", "max", "(II)I"⟩ ∈ lw_gd := wmP (i := 1084) (by decide +kernel) rfl
theorem wm_1085 : Cond.methodLink "WeekBoatsLaw" 69 ⟨"WeekBoats", "back", "(II)I"⟩ ∈ lw_gd := wmP (i := 1085) (by decide +kernel) rfl
theorem wm_1086 : Cond.instanceMethod ⟨"WeekBoats", "back", "(II)I"⟩ ∈ lw_gd := wmP (i := 1086) (by decide +kernel) rfl
theorem wm_1087 : Cond.selects "WeekBoats" ⟨"WeekBoats", "back", "(II)I"⟩ ⟨"WeekBoats", "back", "(II)I"⟩ ∈ lw_gd := wmP (i := 1087) (by decide +kernel) rfl
theorem wm_1088 : Cond.code ⟨"WeekBoats", "back", "(II)I"⟩ prog_1_method_21_code 3 (some .int) ∈ lw_gd := wmP (i := 1088) (by decide +kernel) rfl
theorem wm_1089 : Cond.constant "WeekBoats" 198 (-1000000) ∈ lw_gd := wmP (i := 1089) (by decide +kernel) rfl
theorem wm_1090 : Cond.methodLink "WeekBoats" 199 ⟨"WeekBoats$Trips", "turningBack", "(I)I"⟩ ∈ lw_gd := wmP (i := 1090) (by decide +kernel) rfl
theorem wm_1091 : Cond.instanceMethod ⟨"WeekBoats$Trips", "turningBack", "(I)I"⟩ ∈ lw_gd := wmP (i := 1091) (by decide +kernel) rfl
theorem wm_1092 : Cond.selects "WeekBoats$Trips" ⟨"WeekBoats$Trips", "turningBack", "(I)I"⟩ ⟨"WeekBoats$Trips", "turningBack", "(I)I"⟩ ∈ lw_gd := wmP (i := 1092) (by decide +kernel) rfl
theorem wm_1093 : Cond.code ⟨"WeekBoats$Trips", "turningBack", "(I)I"⟩ prog_9_method_5_code 7 (some .int) ∈ lw_gd := wmP (i := 1093) (by decide +kernel) rfl
theorem wm_1094 : Cond.constant "WeekBoats$Trips" 64 (-1000000) ∈ lw_gd := wmP (i := 1094) (by decide +kernel) rfl
theorem wm_1095 : Cond.methodLink "WeekBoats$Trips" 65 ⟨"java/lang/Math", "abs", "(I)I"⟩ ∈ lw_gd := wmP (i := 1095) (by decide +kernel) rfl
theorem wm_1096 : Cond.static ⟨"java/lang/Math", "abs", "(I)I"⟩ ∈ lw_gd := wmP (i := 1096) (by decide +kernel) rfl
theorem wm_1097 : Cond.code ⟨"java/lang/Math", "abs", "(I)I"⟩ prog_17_method_59_code 1 (some .int) ∈ lw_gd := wmP (i := 1097) (by decide +kernel) rfl
theorem wm_1098 : Cond.methodLink "WeekBoats$Trips" 69 ⟨"WeekBoats$Trips", "isBackInTime", "(II)Z"⟩ ∈ lw_gd := wmP (i := 1098) (by decide +kernel) rfl
theorem wm_1100 : Cond.instanceMethod ⟨"WeekBoats$Trips", "isBackInTime", "(II)Z"⟩ ∈ lw_gd := wmP (i := 1100) (by decide +kernel) rfl
theorem wm_1101 : Cond.code ⟨"WeekBoats$Trips", "isBackInTime", "(II)Z"⟩ prog_9_method_6_code 6 (some .boolean) ∈ lw_gd := wmP (i := 1101) (by decide +kernel) rfl
theorem wm_1102 : Cond.methodLink "WeekBoats$Trips" 48 ⟨"WeekBoats$Voyage", "comesTo", "(IIIIZ)I"⟩ ∈ lw_gd := wmP (i := 1102) (by decide +kernel) rfl
theorem wm_1103 : Cond.methodLink "WeekBoats" 202 ⟨"WeekBoats$Trips", "refund", "(I)I"⟩ ∈ lw_gd := wmP (i := 1103) (by decide +kernel) rfl
theorem wm_1104 : Cond.instanceMethod ⟨"WeekBoats$Trips", "refund", "(I)I"⟩ ∈ lw_gd := wmP (i := 1104) (by decide +kernel) rfl
theorem wm_1105 : Cond.selects "WeekBoats$Trips" ⟨"WeekBoats$Trips", "refund", "(I)I"⟩ ⟨"WeekBoats$Trips", "refund", "(I)I"⟩ ∈ lw_gd := wmP (i := 1105) (by decide +kernel) rfl
theorem wm_1106 : Cond.code ⟨"WeekBoats$Trips", "refund", "(I)I"⟩ prog_9_method_7_code 6 (some .int) ∈ lw_gd := wmP (i := 1106) (by decide +kernel) rfl
theorem wm_1107 : Cond.methodLink "WeekBoats$Trips" 60 ⟨"WeekBoats$Trips", "lateBy", "(IZ)I"⟩ ∈ lw_gd := wmP (i := 1107) (by decide +kernel) rfl
theorem wm_1108 : Cond.instanceMethod ⟨"WeekBoats$Trips", "lateBy", "(IZ)I"⟩ ∈ lw_gd := wmP (i := 1108) (by decide +kernel) rfl
theorem wm_1109 : Cond.selects "WeekBoats$Trips" ⟨"WeekBoats$Trips", "lateBy", "(IZ)I"⟩ ⟨"WeekBoats$Trips", "lateBy", "(IZ)I"⟩ ∈ lw_gd := wmP (i := 1109) (by decide +kernel) rfl
theorem wm_1110 : Cond.code ⟨"WeekBoats$Trips", "lateBy", "(IZ)I"⟩ prog_9_method_3_code 4 (some .int) ∈ lw_gd := wmP (i := 1110) (by decide +kernel) rfl
theorem wm_1111 : Cond.methodLink "WeekBoats$Trips" 54 ⟨"java/lang/Math", "max", "(II)I"⟩ ∈ lw_gd := wmP (i := 1111) (by decide +kernel) rfl
theorem wm_1112 : Cond.methodLink "WeekBoats$Trips" 73 ⟨"WeekBoats$Boats", "priceLine", "(IIZ)I"⟩ ∈ lw_gd := wmP (i := 1112) (by decide +kernel) rfl
theorem wm_1113 : Cond.instanceMethod ⟨"WeekBoats$Boats", "priceLine", "(IIZ)I"⟩ ∈ lw_gd := wmP (i := 1113) (by decide +kernel) rfl
theorem wm_1114 : Cond.selects "WeekBoats$Boats" ⟨"WeekBoats$Boats", "priceLine", "(IIZ)I"⟩ ⟨"WeekBoats$Boats", "priceLine", "(IIZ)I"⟩ ∈ lw_gd := wmP (i := 1114) (by decide +kernel) rfl
theorem wm_1115 : Cond.code ⟨"WeekBoats$Boats", "priceLine", "(IIZ)I"⟩ prog_2_method_13_code 4 (some .int) ∈ lw_gd := wmP (i := 1115) (by decide +kernel) rfl
theorem wm_1116 : Cond.methodLink "WeekBoats$Boats" 127 ⟨"WeekBoats$Rules", "askWeek", "(I)V"⟩ ∈ lw_gd := wmP (i := 1116) (by decide +kernel) rfl
theorem wm_1117 : Cond.instanceMethod ⟨"WeekBoats$Rules", "askWeek", "(I)V"⟩ ∈ lw_gd := wmP (i := 1117) (by decide +kernel) rfl
theorem wm_1118 : Cond.selects "WeekBoats$Rules" ⟨"WeekBoats$Rules", "askWeek", "(I)V"⟩ ⟨"WeekBoats$Rules", "askWeek", "(I)V"⟩ ∈ lw_gd := wmP (i := 1118) (by decide +kernel) rfl
theorem wm_1119 : Cond.code ⟨"WeekBoats$Rules", "askWeek", "(I)V"⟩ prog_8_method_8_code 2 none ∈ lw_gd := wmP (i := 1119) (by decide +kernel) rfl
theorem wm_1120 : Cond.methodLink "WeekBoats$Trips" 77 ⟨"java/lang/Math", "min", "(II)I"⟩ ∈ lw_gd := wmP (i := 1120) (by decide +kernel) rfl
theorem wm_1121 : Cond.methodLink "WeekBoats$Trips" 80 ⟨"WeekBoats$Rules", "valueOf", "(I)I"⟩ ∈ lw_gd := wmP (i := 1121) (by decide +kernel) rfl
theorem wm_1122 : Cond.constantLong "WeekBoats$Trips" 85 7 ∈ lw_gd := wmP (i := 1122) (by decide +kernel) rfl
theorem wm_1123 : Cond.methodLink "WeekBoatsLaw" 73 ⟨"WeekBoats", "rung", "()I"⟩ ∈ lw_gd := wmP (i := 1123) (by decide +kernel) rfl
theorem wm_1124 : Cond.instanceMethod ⟨"WeekBoats", "rung", "()I"⟩ ∈ lw_gd := wmP (i := 1124) (by decide +kernel) rfl
theorem wm_1125 : Cond.selects "WeekBoats" ⟨"WeekBoats", "rung", "()I"⟩ ⟨"WeekBoats", "rung", "()I"⟩ ∈ lw_gd := wmP (i := 1125) (by decide +kernel) rfl
theorem wm_1126 : Cond.code ⟨"WeekBoats", "rung", "()I"⟩ prog_1_method_22_code 3 (some .int) ∈ lw_gd := wmP (i := 1126) (by decide +kernel) rfl
theorem wm_1127 : Cond.methodLink "WeekBoats" 205 ⟨"WeekBoats$Trips", "lateBy", "(IZ)I"⟩ ∈ lw_gd := wmP (i := 1127) (by decide +kernel) rfl
theorem wm_1128 : Cond.methodLink "WeekBoatsLaw" 77 ⟨"WeekBoats", "pump", "(IZ)Z"⟩ ∈ lw_gd := wmP (i := 1128) (by decide +kernel) rfl
theorem wm_1129 : Cond.instanceMethod ⟨"WeekBoats", "pump", "(IZ)Z"⟩ ∈ lw_gd := wmP (i := 1129) (by decide +kernel) rfl
theorem wm_1130 : Cond.selects "WeekBoats" ⟨"WeekBoats", "pump", "(IZ)Z"⟩ ⟨"WeekBoats", "pump", "(IZ)Z"⟩ ∈ lw_gd := wmP (i := 1130) (by decide +kernel) rfl
theorem wm_1131 : Cond.code ⟨"WeekBoats", "pump", "(IZ)Z"⟩ prog_1_method_23_code 3 (some .boolean) ∈ lw_gd := wmP (i := 1131) (by decide +kernel) rfl
theorem wm_1132 : Cond.methodLink "WeekBoats" 209 ⟨"WeekBoats$Canal", "setPump", "(IZ)V"⟩ ∈ lw_gd := wmP (i := 1132) (by decide +kernel) rfl
theorem wm_1133 : Cond.instanceMethod ⟨"WeekBoats$Canal", "setPump", "(IZ)V"⟩ ∈ lw_gd := wmP (i := 1133) (by decide +kernel) rfl
theorem wm_1134 : Cond.selects "WeekBoats$Canal" ⟨"WeekBoats$Canal", "setPump", "(IZ)V"⟩ ⟨"WeekBoats$Canal", "setPump", "(IZ)V"⟩ ∈ lw_gd := wmP (i := 1134) (by decide +kernel) rfl
theorem wm_1135 : Cond.code ⟨"WeekBoats$Canal", "setPump", "(IZ)V"⟩ prog_4_method_4_code 3 none ∈ lw_gd := wmP (i := 1135) (by decide +kernel) rfl
theorem wm_1136 : Cond.methodLink "WeekBoatsLaw" 82 ⟨"WeekBoats", "pumped", "(IIIII)I"⟩ ∈ lw_gd := wmP (i := 1136) (by decide +kernel) rfl
theorem wm_1137 : Cond.instanceMethod ⟨"WeekBoats", "pumped", "(IIIII)I"⟩ ∈ lw_gd := wmP (i := 1137) (by decide +kernel) rfl
theorem wm_1138 : Cond.selects "WeekBoats" ⟨"WeekBoats", "pumped", "(IIIII)I"⟩ ⟨"WeekBoats", "pumped", "(IIIII)I"⟩ ∈ lw_gd := wmP (i := 1138) (by decide +kernel) rfl
theorem wm_1139 : Cond.code ⟨"WeekBoats", "pumped", "(IIIII)I"⟩ prog_1_method_24_code 8 (some .int) ∈ lw_gd := wmP (i := 1139) (by decide +kernel) rfl
theorem wm_1140 : Cond.methodLink "WeekBoats" 213 ⟨"WeekBoats$Voyage", "nextPump", "()I"⟩ ∈ lw_gd := wmP (i := 1140) (by decide +kernel) rfl
theorem wm_1141 : Cond.instanceMethod ⟨"WeekBoats$Voyage", "nextPump", "()I"⟩ ∈ lw_gd := wmP (i := 1141) (by decide +kernel) rfl
theorem wm_1142 : Cond.selects "WeekBoats$Voyage" ⟨"WeekBoats$Voyage", "nextPump", "()I"⟩ ⟨"WeekBoats$Voyage", "nextPump", "()I"⟩ ∈ lw_gd := wmP (i := 1142) (by decide +kernel) rfl
theorem wm_1143 : Cond.code ⟨"WeekBoats$Voyage", "nextPump", "()I"⟩ prog_11_method_7_code 4 (some .int) ∈ lw_gd := wmP (i := 1143) (by decide +kernel) rfl
theorem wm_1144 : Cond.methodLink "WeekBoatsLaw" 86 ⟨"WeekBoats", "enough", "(IIIII)I"⟩ ∈ lw_gd := wmP (i := 1144) (by decide +kernel) rfl
theorem wm_1145 : Cond.instanceMethod ⟨"WeekBoats", "enough", "(IIIII)I"⟩ ∈ lw_gd := wmP (i := 1145) (by decide +kernel) rfl
theorem wm_1146 : Cond.selects "WeekBoats" ⟨"WeekBoats", "enough", "(IIIII)I"⟩ ⟨"WeekBoats", "enough", "(IIIII)I"⟩ ∈ lw_gd := wmP (i := 1146) (by decide +kernel) rfl
