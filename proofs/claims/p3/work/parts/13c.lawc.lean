section LAWW
variable {p : Program} {l : Launch} {e : Env} {s : State} {m : MethodId} {below : List Frame} {meth : Method} {c : Code} {b L : Nat} {xs : Nat → Int32} {z : AZ} {pc : Nat} {lv : List (Nat × Value)} {st : List Value} {g : AG}
theorem lwc_pump {Inv0 Inv : AG → Prop} (hsim : Sim_pump Inv0 Inv) (C : LC p s m meth c b L xs z) (hL : L ≤ 3072) {i : Int} (h0 : 0 ≤ i) (h1 : i + 6 ≤ L) (hI : Inv0 g) (kk : ∀ g9, Inv g9 → LW p l e s m below meth c b z 1914 [(3, iv i), (2, rv z 117), (1, rv z 0), (0, .ref b)] [] g9) : LW p l e s m below meth c b z 748 [(3, iv i), (2, rv z 117), (1, rv z 0), (0, .ref b)] [] g := by
  by_cases hb : nw (xs (ix (i + 2))).toInt = 0
  · obtain ⟨r1, r2, e1, e2, hv, hI2⟩ := hsim ((xs (ix (i + 1))).toInt) (0) g (I32_of _) (Or.inl rfl) hI
    refine LW.aload_n C 2 dL_law_748 rfl ?_
    refine LW.aload_n C 3 dL_law_749 rfl ?_
    refine LW.iload_n C 0 dL_law_750 rfl ?_
    refine LW.iconst C dL_law_751 ?_
    refine LW.iadd C dL_law_752 ?_
    refine LW.sld C (lw_in hL h0 h1 (by decide) (by decide)) dL_law_753 ?_
    refine LW.aload_n C 3 dL_law_754 rfl ?_
    refine LW.iload_n C 0 dL_law_755 rfl ?_
    refine LW.iconst C dL_law_756 ?_
    refine LW.iadd C dL_law_757 ?_
    refine LW.sld C (lw_in hL h0 h1 (by decide) (by decide)) dL_law_758 ?_
    refine LW.if_eq (tgt := 766) C dL_law_759 (by decide) (fun _ => ?_) (fun q => absurd hb q)
    refine LW.iconst C dL_law_766 ?_
    refine LW.callV C (As := [iv (xs (ix (i + 1))).toInt, iv 0]) (st := []) (X_pump_ok e1) cqL_77 crL_77 (by decide) rfl dL_law_767 rfl (Nat.le_of_ble_eq_true rfl) ?_
    refine LW.pop C dL_law_770 ?_
    refine LW.aload_n C 1 dL_law_771 rfl ?_
    refine LW.aload_n C 3 dL_law_772 rfl ?_
    refine LW.iload_n C 0 dL_law_773 rfl ?_
    refine LW.iconst C dL_law_774 ?_
    refine LW.iadd C dL_law_775 ?_
    refine LW.sld C (lw_in hL h0 h1 (by decide) (by decide)) dL_law_776 ?_
    refine LW.aload_n C 3 dL_law_777 rfl ?_
    refine LW.iload_n C 0 dL_law_778 rfl ?_
    refine LW.iconst C dL_law_779 ?_
    refine LW.iadd C dL_law_780 ?_
    refine LW.sld C (lw_in hL h0 h1 (by decide) (by decide)) dL_law_781 ?_
    refine LW.if_eq (tgt := 789) C dL_law_782 (by decide) (fun _ => ?_) (fun q => absurd hb q)
    refine LW.iconst C dL_law_789 ?_
    refine LW.callV C (As := [iv (xs (ix (i + 1))).toInt, iv 0]) (st := []) (M_pump_ok e2) cqL_81 crL_81 (by decide) rfl dL_law_790 rfl (Nat.le_of_ble_eq_true rfl) ?_
    refine LW.pop C dL_law_793 ?_
    refine LW.goto (tgt := 1914) C dL_law_794 (by decide) ?_
    exact kk _ hI2
  · obtain ⟨r1, r2, e1, e2, hv, hI2⟩ := hsim ((xs (ix (i + 1))).toInt) (1) g (I32_of _) (Or.inr rfl) hI
    refine LW.aload_n C 2 dL_law_748 rfl ?_
    refine LW.aload_n C 3 dL_law_749 rfl ?_
    refine LW.iload_n C 0 dL_law_750 rfl ?_
    refine LW.iconst C dL_law_751 ?_
    refine LW.iadd C dL_law_752 ?_
    refine LW.sld C (lw_in hL h0 h1 (by decide) (by decide)) dL_law_753 ?_
    refine LW.aload_n C 3 dL_law_754 rfl ?_
    refine LW.iload_n C 0 dL_law_755 rfl ?_
    refine LW.iconst C dL_law_756 ?_
    refine LW.iadd C dL_law_757 ?_
    refine LW.sld C (lw_in hL h0 h1 (by decide) (by decide)) dL_law_758 ?_
    refine LW.if_eq (tgt := 766) C dL_law_759 (by decide) (fun q => absurd q hb) (fun _ => ?_)
    refine LW.iconst C dL_law_762 ?_
    refine LW.goto (tgt := 767) C dL_law_763 (by decide) ?_
    refine LW.callV C (As := [iv (xs (ix (i + 1))).toInt, iv 1]) (st := []) (X_pump_ok e1) cqL_77 crL_77 (by decide) rfl dL_law_767 rfl (Nat.le_of_ble_eq_true rfl) ?_
    refine LW.pop C dL_law_770 ?_
    refine LW.aload_n C 1 dL_law_771 rfl ?_
    refine LW.aload_n C 3 dL_law_772 rfl ?_
    refine LW.iload_n C 0 dL_law_773 rfl ?_
    refine LW.iconst C dL_law_774 ?_
    refine LW.iadd C dL_law_775 ?_
    refine LW.sld C (lw_in hL h0 h1 (by decide) (by decide)) dL_law_776 ?_
    refine LW.aload_n C 3 dL_law_777 rfl ?_
    refine LW.iload_n C 0 dL_law_778 rfl ?_
    refine LW.iconst C dL_law_779 ?_
    refine LW.iadd C dL_law_780 ?_
    refine LW.sld C (lw_in hL h0 h1 (by decide) (by decide)) dL_law_781 ?_
    refine LW.if_eq (tgt := 789) C dL_law_782 (by decide) (fun q => absurd q hb) (fun _ => ?_)
    refine LW.iconst C dL_law_785 ?_
    refine LW.goto (tgt := 790) C dL_law_786 (by decide) ?_
    refine LW.callV C (As := [iv (xs (ix (i + 1))).toInt, iv 1]) (st := []) (M_pump_ok e2) cqL_81 crL_81 (by decide) rfl dL_law_790 rfl (Nat.le_of_ble_eq_true rfl) ?_
    refine LW.pop C dL_law_793 ?_
    refine LW.goto (tgt := 1914) C dL_law_794 (by decide) ?_
    exact kk _ hI2
theorem lwc_pumped {Inv0 Inv : AG → Prop} (hsim : Sim_pumped Inv0 Inv) (C : LC p s m meth c b L xs z) (hL : L ≤ 3072) {i : Int} (h0 : 0 ≤ i) (h1 : i + 6 ≤ L) (hI : Inv0 g) (kk : ∀ g9, Inv g9 → LW p l e s m below meth c b z 1914 [(3, iv i), (2, rv z 117), (1, rv z 0), (0, .ref b)] [] g9) : LW p l e s m below meth c b z 797 [(3, iv i), (2, rv z 117), (1, rv z 0), (0, .ref b)] [] g := by
  obtain ⟨r1, r2, e1, e2, hv, hI2⟩ := hsim ((xs (ix (i + 1))).toInt) ((xs (ix (i + 2))).toInt) ((xs (ix (i + 3))).toInt) ((xs (ix (i + 4))).toInt) ((xs (ix (i + 5))).toInt) g (I32_of _) (I32_of _) (I32_of _) (I32_of _) (I32_of _) hI
  refine LW.aload_n C 2 dL_law_797 rfl ?_
  refine LW.aload_n C 3 dL_law_798 rfl ?_
  refine LW.iload_n C 0 dL_law_799 rfl ?_
  refine LW.iconst C dL_law_800 ?_
  refine LW.iadd C dL_law_801 ?_
  refine LW.sld C (lw_in hL h0 h1 (by decide) (by decide)) dL_law_802 ?_
  refine LW.aload_n C 3 dL_law_803 rfl ?_
  refine LW.iload_n C 0 dL_law_804 rfl ?_
  refine LW.iconst C dL_law_805 ?_
  refine LW.iadd C dL_law_806 ?_
  refine LW.sld C (lw_in hL h0 h1 (by decide) (by decide)) dL_law_807 ?_
  refine LW.aload_n C 3 dL_law_808 rfl ?_
  refine LW.iload_n C 0 dL_law_809 rfl ?_
  refine LW.iconst C dL_law_810 ?_
  refine LW.iadd C dL_law_811 ?_
  refine LW.sld C (lw_in hL h0 h1 (by decide) (by decide)) dL_law_812 ?_
  refine LW.aload_n C 3 dL_law_813 rfl ?_
  refine LW.iload_n C 0 dL_law_814 rfl ?_
  refine LW.iconst C dL_law_815 ?_
  refine LW.iadd C dL_law_816 ?_
  refine LW.sld C (lw_in hL h0 h1 (by decide) (by decide)) dL_law_817 ?_
  refine LW.aload_n C 3 dL_law_818 rfl ?_
  refine LW.iload_n C 0 dL_law_819 rfl ?_
  refine LW.iconst C dL_law_820 ?_
  refine LW.iadd C dL_law_821 ?_
  refine LW.sld C (lw_in hL h0 h1 (by decide) (by decide)) dL_law_822 ?_
  refine LW.callV C (As := [iv (xs (ix (i + 1))).toInt, iv (xs (ix (i + 2))).toInt, iv (xs (ix (i + 3))).toInt, iv (xs (ix (i + 4))).toInt, iv (xs (ix (i + 5))).toInt]) (st := []) (X_pumped_ok e1) cqL_82 crL_82 (by decide) rfl dL_law_823 rfl (Nat.le_of_ble_eq_true rfl) ?_
  refine LW.pop C dL_law_826 ?_
  refine LW.aload_n C 1 dL_law_827 rfl ?_
  refine LW.aload_n C 3 dL_law_828 rfl ?_
  refine LW.iload_n C 0 dL_law_829 rfl ?_
  refine LW.iconst C dL_law_830 ?_
  refine LW.iadd C dL_law_831 ?_
  refine LW.sld C (lw_in hL h0 h1 (by decide) (by decide)) dL_law_832 ?_
  refine LW.aload_n C 3 dL_law_833 rfl ?_
  refine LW.iload_n C 0 dL_law_834 rfl ?_
  refine LW.iconst C dL_law_835 ?_
  refine LW.iadd C dL_law_836 ?_
  refine LW.sld C (lw_in hL h0 h1 (by decide) (by decide)) dL_law_837 ?_
  refine LW.aload_n C 3 dL_law_838 rfl ?_
  refine LW.iload_n C 0 dL_law_839 rfl ?_
  refine LW.iconst C dL_law_840 ?_
  refine LW.iadd C dL_law_841 ?_
  refine LW.sld C (lw_in hL h0 h1 (by decide) (by decide)) dL_law_842 ?_
  refine LW.aload_n C 3 dL_law_843 rfl ?_
  refine LW.iload_n C 0 dL_law_844 rfl ?_
  refine LW.iconst C dL_law_845 ?_
  refine LW.iadd C dL_law_846 ?_
  refine LW.sld C (lw_in hL h0 h1 (by decide) (by decide)) dL_law_847 ?_
  refine LW.aload_n C 3 dL_law_848 rfl ?_
  refine LW.iload_n C 0 dL_law_849 rfl ?_
  refine LW.iconst C dL_law_850 ?_
  refine LW.iadd C dL_law_851 ?_
  refine LW.sld C (lw_in hL h0 h1 (by decide) (by decide)) dL_law_852 ?_
  refine LW.callV C (As := [iv (xs (ix (i + 1))).toInt, iv (xs (ix (i + 2))).toInt, iv (xs (ix (i + 3))).toInt, iv (xs (ix (i + 4))).toInt, iv (xs (ix (i + 5))).toInt]) (st := []) (M_pumped_ok e2) cqL_85 crL_85 (by decide) rfl dL_law_853 rfl (Nat.le_of_ble_eq_true rfl) ?_
  refine LW.pop C dL_law_856 ?_
  refine LW.goto (tgt := 1914) C dL_law_857 (by decide) ?_
  exact kk _ hI2
theorem lwc_enough {Inv0 Inv : AG → Prop} (hsim : Sim_enough Inv0 Inv) (C : LC p s m meth c b L xs z) (hL : L ≤ 3072) {i : Int} (h0 : 0 ≤ i) (h1 : i + 6 ≤ L) (hI : Inv0 g) (kk : ∀ g9, Inv g9 → LW p l e s m below meth c b z 1914 [(3, iv i), (2, rv z 117), (1, rv z 0), (0, .ref b)] [] g9) : LW p l e s m below meth c b z 860 [(3, iv i), (2, rv z 117), (1, rv z 0), (0, .ref b)] [] g := by
  obtain ⟨r1, r2, e1, e2, hv, hI2⟩ := hsim ((xs (ix (i + 1))).toInt) ((xs (ix (i + 2))).toInt) ((xs (ix (i + 3))).toInt) ((xs (ix (i + 4))).toInt) ((xs (ix (i + 5))).toInt) g (I32_of _) (I32_of _) (I32_of _) (I32_of _) (I32_of _) hI
  refine LW.aload_n C 2 dL_law_860 rfl ?_
  refine LW.aload_n C 3 dL_law_861 rfl ?_
  refine LW.iload_n C 0 dL_law_862 rfl ?_
  refine LW.iconst C dL_law_863 ?_
  refine LW.iadd C dL_law_864 ?_
  refine LW.sld C (lw_in hL h0 h1 (by decide) (by decide)) dL_law_865 ?_
  refine LW.aload_n C 3 dL_law_866 rfl ?_
  refine LW.iload_n C 0 dL_law_867 rfl ?_
  refine LW.iconst C dL_law_868 ?_
  refine LW.iadd C dL_law_869 ?_
  refine LW.sld C (lw_in hL h0 h1 (by decide) (by decide)) dL_law_870 ?_
  refine LW.aload_n C 3 dL_law_871 rfl ?_
  refine LW.iload_n C 0 dL_law_872 rfl ?_
  refine LW.iconst C dL_law_873 ?_
  refine LW.iadd C dL_law_874 ?_
  refine LW.sld C (lw_in hL h0 h1 (by decide) (by decide)) dL_law_875 ?_
  refine LW.aload_n C 3 dL_law_876 rfl ?_
  refine LW.iload_n C 0 dL_law_877 rfl ?_
  refine LW.iconst C dL_law_878 ?_
  refine LW.iadd C dL_law_879 ?_
  refine LW.sld C (lw_in hL h0 h1 (by decide) (by decide)) dL_law_880 ?_
  refine LW.aload_n C 3 dL_law_881 rfl ?_
  refine LW.iload_n C 0 dL_law_882 rfl ?_
  refine LW.iconst C dL_law_883 ?_
  refine LW.iadd C dL_law_884 ?_
  refine LW.sld C (lw_in hL h0 h1 (by decide) (by decide)) dL_law_885 ?_
  refine LW.callV C (As := [iv (xs (ix (i + 1))).toInt, iv (xs (ix (i + 2))).toInt, iv (xs (ix (i + 3))).toInt, iv (xs (ix (i + 4))).toInt, iv (xs (ix (i + 5))).toInt]) (st := []) (X_enough_ok e1) cqL_86 crL_86 (by decide) rfl dL_law_886 rfl (Nat.le_of_ble_eq_true rfl) ?_
  refine LW.pop C dL_law_889 ?_
  refine LW.aload_n C 1 dL_law_890 rfl ?_
  refine LW.aload_n C 3 dL_law_891 rfl ?_
  refine LW.iload_n C 0 dL_law_892 rfl ?_
  refine LW.iconst C dL_law_893 ?_
  refine LW.iadd C dL_law_894 ?_
  refine LW.sld C (lw_in hL h0 h1 (by decide) (by decide)) dL_law_895 ?_
  refine LW.aload_n C 3 dL_law_896 rfl ?_
  refine LW.iload_n C 0 dL_law_897 rfl ?_
  refine LW.iconst C dL_law_898 ?_
  refine LW.iadd C dL_law_899 ?_
  refine LW.sld C (lw_in hL h0 h1 (by decide) (by decide)) dL_law_900 ?_
  refine LW.aload_n C 3 dL_law_901 rfl ?_
  refine LW.iload_n C 0 dL_law_902 rfl ?_
  refine LW.iconst C dL_law_903 ?_
  refine LW.iadd C dL_law_904 ?_
  refine LW.sld C (lw_in hL h0 h1 (by decide) (by decide)) dL_law_905 ?_
  refine LW.aload_n C 3 dL_law_906 rfl ?_
  refine LW.iload_n C 0 dL_law_907 rfl ?_
  refine LW.iconst C dL_law_908 ?_
  refine LW.iadd C dL_law_909 ?_
  refine LW.sld C (lw_in hL h0 h1 (by decide) (by decide)) dL_law_910 ?_
  refine LW.aload_n C 3 dL_law_911 rfl ?_
  refine LW.iload_n C 0 dL_law_912 rfl ?_
  refine LW.iconst C dL_law_913 ?_
  refine LW.iadd C dL_law_914 ?_
  refine LW.sld C (lw_in hL h0 h1 (by decide) (by decide)) dL_law_915 ?_
  refine LW.callV C (As := [iv (xs (ix (i + 1))).toInt, iv (xs (ix (i + 2))).toInt, iv (xs (ix (i + 3))).toInt, iv (xs (ix (i + 4))).toInt, iv (xs (ix (i + 5))).toInt]) (st := []) (M_enough_ok e2) cqL_89 crL_89 (by decide) rfl dL_law_916 rfl (Nat.le_of_ble_eq_true rfl) ?_
  refine LW.pop C dL_law_919 ?_
  refine LW.goto (tgt := 1914) C dL_law_920 (by decide) ?_
  exact kk _ hI2
theorem lwc_trip {Inv0 Inv : AG → Prop} (hsim : Sim_trip Inv0 Inv) (C : LC p s m meth c b L xs z) (hL : L ≤ 3072) {i : Int} (h0 : 0 ≤ i) (h1 : i + 6 ≤ L) (hI : Inv0 g) (kk : ∀ g9, Inv g9 → LW p l e s m below meth c b z 1914 [(3, iv i), (2, rv z 117), (1, rv z 0), (0, .ref b)] [] g9) : LW p l e s m below meth c b z 923 [(3, iv i), (2, rv z 117), (1, rv z 0), (0, .ref b)] [] g := by
  obtain ⟨r1, r2, e1, e2, hv, hI2⟩ := hsim ((xs (ix (i + 1))).toInt) ((xs (ix (i + 2))).toInt) ((xs (ix (i + 3))).toInt) ((xs (ix (i + 4))).toInt) ((xs (ix (i + 5))).toInt) g (I32_of _) (I32_of _) (I32_of _) (I32_of _) (I32_of _) hI
  refine LW.aload_n C 2 dL_law_923 rfl ?_
  refine LW.aload_n C 3 dL_law_924 rfl ?_
  refine LW.iload_n C 0 dL_law_925 rfl ?_
  refine LW.iconst C dL_law_926 ?_
  refine LW.iadd C dL_law_927 ?_
  refine LW.sld C (lw_in hL h0 h1 (by decide) (by decide)) dL_law_928 ?_
  refine LW.aload_n C 3 dL_law_929 rfl ?_
  refine LW.iload_n C 0 dL_law_930 rfl ?_
  refine LW.iconst C dL_law_931 ?_
  refine LW.iadd C dL_law_932 ?_
  refine LW.sld C (lw_in hL h0 h1 (by decide) (by decide)) dL_law_933 ?_
  refine LW.aload_n C 3 dL_law_934 rfl ?_
  refine LW.iload_n C 0 dL_law_935 rfl ?_
  refine LW.iconst C dL_law_936 ?_
  refine LW.iadd C dL_law_937 ?_
  refine LW.sld C (lw_in hL h0 h1 (by decide) (by decide)) dL_law_938 ?_
  refine LW.aload_n C 3 dL_law_939 rfl ?_
  refine LW.iload_n C 0 dL_law_940 rfl ?_
  refine LW.iconst C dL_law_941 ?_
  refine LW.iadd C dL_law_942 ?_
  refine LW.sld C (lw_in hL h0 h1 (by decide) (by decide)) dL_law_943 ?_
  refine LW.aload_n C 3 dL_law_944 rfl ?_
  refine LW.iload_n C 0 dL_law_945 rfl ?_
  refine LW.iconst C dL_law_946 ?_
  refine LW.iadd C dL_law_947 ?_
  refine LW.sld C (lw_in hL h0 h1 (by decide) (by decide)) dL_law_948 ?_
  refine LW.callV C (As := [iv (xs (ix (i + 1))).toInt, iv (xs (ix (i + 2))).toInt, iv (xs (ix (i + 3))).toInt, iv (xs (ix (i + 4))).toInt, iv (xs (ix (i + 5))).toInt]) (st := []) (X_trip_ok e1) cqL_90 crL_90 (by decide) rfl dL_law_949 rfl (Nat.le_of_ble_eq_true rfl) ?_
  refine LW.pop C dL_law_952 ?_
  refine LW.aload_n C 1 dL_law_953 rfl ?_
  refine LW.aload_n C 3 dL_law_954 rfl ?_
  refine LW.iload_n C 0 dL_law_955 rfl ?_
  refine LW.iconst C dL_law_956 ?_
  refine LW.iadd C dL_law_957 ?_
  refine LW.sld C (lw_in hL h0 h1 (by decide) (by decide)) dL_law_958 ?_
  refine LW.aload_n C 3 dL_law_959 rfl ?_
  refine LW.iload_n C 0 dL_law_960 rfl ?_
  refine LW.iconst C dL_law_961 ?_
  refine LW.iadd C dL_law_962 ?_
  refine LW.sld C (lw_in hL h0 h1 (by decide) (by decide)) dL_law_963 ?_
  refine LW.aload_n C 3 dL_law_964 rfl ?_
  refine LW.iload_n C 0 dL_law_965 rfl ?_
  refine LW.iconst C dL_law_966 ?_
  refine LW.iadd C dL_law_967 ?_
  refine LW.sld C (lw_in hL h0 h1 (by decide) (by decide)) dL_law_968 ?_
  refine LW.aload_n C 3 dL_law_969 rfl ?_
  refine LW.iload_n C 0 dL_law_970 rfl ?_
  refine LW.iconst C dL_law_971 ?_
  refine LW.iadd C dL_law_972 ?_
  refine LW.sld C (lw_in hL h0 h1 (by decide) (by decide)) dL_law_973 ?_
  refine LW.aload_n C 3 dL_law_974 rfl ?_
  refine LW.iload_n C 0 dL_law_975 rfl ?_
  refine LW.iconst C dL_law_976 ?_
  refine LW.iadd C dL_law_977 ?_
  refine LW.sld C (lw_in hL h0 h1 (by decide) (by decide)) dL_law_978 ?_
  refine LW.callV C (As := [iv (xs (ix (i + 1))).toInt, iv (xs (ix (i + 2))).toInt, iv (xs (ix (i + 3))).toInt, iv (xs (ix (i + 4))).toInt, iv (xs (ix (i + 5))).toInt]) (st := []) (M_trip_ok e2) cqL_93 crL_93 (by decide) rfl dL_law_979 rfl (Nat.le_of_ble_eq_true rfl) ?_
  refine LW.pop C dL_law_982 ?_
  refine LW.goto (tgt := 1914) C dL_law_983 (by decide) ?_
  exact kk _ hI2
theorem lwc_late {Inv0 Inv : AG → Prop} (hsim : Sim_late Inv0 Inv) (C : LC p s m meth c b L xs z) (hL : L ≤ 3072) {i : Int} (h0 : 0 ≤ i) (h1 : i + 6 ≤ L) (hI : Inv0 g) (kk : ∀ g9, Inv g9 → LW p l e s m below meth c b z 1914 [(3, iv i), (2, rv z 117), (1, rv z 0), (0, .ref b)] [] g9) : LW p l e s m below meth c b z 986 [(3, iv i), (2, rv z 117), (1, rv z 0), (0, .ref b)] [] g := by
  obtain ⟨r1, r2, e1, e2, hv, hI2⟩ := hsim ((xs (ix (i + 1))).toInt) g (I32_of _) hI
  refine LW.aload_n C 2 dL_law_986 rfl ?_
  refine LW.aload_n C 3 dL_law_987 rfl ?_
  refine LW.iload_n C 0 dL_law_988 rfl ?_
  refine LW.iconst C dL_law_989 ?_
  refine LW.iadd C dL_law_990 ?_
  refine LW.sld C (lw_in hL h0 h1 (by decide) (by decide)) dL_law_991 ?_
  refine LW.callV C (As := [iv (xs (ix (i + 1))).toInt]) (st := []) (X_late_ok e1) cqL_94 crL_94 (by decide) rfl dL_law_992 rfl (Nat.le_of_ble_eq_true rfl) ?_
  refine LW.pop C dL_law_995 ?_
  refine LW.aload_n C 1 dL_law_996 rfl ?_
  refine LW.aload_n C 3 dL_law_997 rfl ?_
  refine LW.iload_n C 0 dL_law_998 rfl ?_
  refine LW.iconst C dL_law_999 ?_
  refine LW.iadd C dL_law_1000 ?_
  refine LW.sld C (lw_in hL h0 h1 (by decide) (by decide)) dL_law_1001 ?_
  refine LW.callV C (As := [iv (xs (ix (i + 1))).toInt]) (st := []) (M_late_ok e2) cqL_97 crL_97 (by decide) rfl dL_law_1002 rfl (Nat.le_of_ble_eq_true rfl) ?_
  refine LW.pop C dL_law_1005 ?_
  refine LW.goto (tgt := 1914) C dL_law_1006 (by decide) ?_
  exact kk _ hI2
theorem lwc_log {Inv0 Inv : AG → Prop} (hsim : Sim_log Inv0 Inv) (C : LC p s m meth c b L xs z) (hL : L ≤ 3072) {i : Int} (h0 : 0 ≤ i) (h1 : i + 6 ≤ L) (hI : Inv0 g) (kk : ∀ g9, Inv g9 → LW p l e s m below meth c b z 1914 [(3, iv i), (2, rv z 117), (1, rv z 0), (0, .ref b)] [] g9) : LW p l e s m below meth c b z 1009 [(3, iv i), (2, rv z 117), (1, rv z 0), (0, .ref b)] [] g := by
  obtain ⟨r1, r2, e1, e2, hv, hI2⟩ := hsim ((xs (ix (i + 1))).toInt) ((xs (ix (i + 2))).toInt) ((xs (ix (i + 3))).toInt) g (I32_of _) (I32_of _) (I32_of _) hI
  refine LW.aload_n C 2 dL_law_1009 rfl ?_
  refine LW.aload_n C 3 dL_law_1010 rfl ?_
  refine LW.iload_n C 0 dL_law_1011 rfl ?_
  refine LW.iconst C dL_law_1012 ?_
  refine LW.iadd C dL_law_1013 ?_
  refine LW.sld C (lw_in hL h0 h1 (by decide) (by decide)) dL_law_1014 ?_
  refine LW.aload_n C 3 dL_law_1015 rfl ?_
  refine LW.iload_n C 0 dL_law_1016 rfl ?_
  refine LW.iconst C dL_law_1017 ?_
  refine LW.iadd C dL_law_1018 ?_
  refine LW.sld C (lw_in hL h0 h1 (by decide) (by decide)) dL_law_1019 ?_
  refine LW.aload_n C 3 dL_law_1020 rfl ?_
  refine LW.iload_n C 0 dL_law_1021 rfl ?_
  refine LW.iconst C dL_law_1022 ?_
  refine LW.iadd C dL_law_1023 ?_
  refine LW.sld C (lw_in hL h0 h1 (by decide) (by decide)) dL_law_1024 ?_
  refine LW.callV C (As := [iv (xs (ix (i + 1))).toInt, iv (xs (ix (i + 2))).toInt, iv (xs (ix (i + 3))).toInt]) (st := []) (X_log_ok e1) cqL_98 crL_98 (by decide) rfl dL_law_1025 rfl (Nat.le_of_ble_eq_true rfl) ?_
  refine LW.pop C dL_law_1028 ?_
  refine LW.aload_n C 1 dL_law_1029 rfl ?_
  refine LW.aload_n C 3 dL_law_1030 rfl ?_
  refine LW.iload_n C 0 dL_law_1031 rfl ?_
  refine LW.iconst C dL_law_1032 ?_
  refine LW.iadd C dL_law_1033 ?_
  refine LW.sld C (lw_in hL h0 h1 (by decide) (by decide)) dL_law_1034 ?_
  refine LW.aload_n C 3 dL_law_1035 rfl ?_
  refine LW.iload_n C 0 dL_law_1036 rfl ?_
  refine LW.iconst C dL_law_1037 ?_
  refine LW.iadd C dL_law_1038 ?_
  refine LW.sld C (lw_in hL h0 h1 (by decide) (by decide)) dL_law_1039 ?_
  refine LW.aload_n C 3 dL_law_1040 rfl ?_
  refine LW.iload_n C 0 dL_law_1041 rfl ?_
  refine LW.iconst C dL_law_1042 ?_
  refine LW.iadd C dL_law_1043 ?_
  refine LW.sld C (lw_in hL h0 h1 (by decide) (by decide)) dL_law_1044 ?_
  refine LW.callV C (As := [iv (xs (ix (i + 1))).toInt, iv (xs (ix (i + 2))).toInt, iv (xs (ix (i + 3))).toInt]) (st := []) (M_log_ok e2) cqL_101 crL_101 (by decide) rfl dL_law_1045 rfl (Nat.le_of_ble_eq_true rfl) ?_
  refine LW.pop C dL_law_1048 ?_
  refine LW.goto (tgt := 1914) C dL_law_1049 (by decide) ?_
  exact kk _ hI2
theorem lwc_could {Inv0 Inv : AG → Prop} (hsim : Sim_could Inv0 Inv) (C : LC p s m meth c b L xs z) (hL : L ≤ 3072) {i : Int} (h0 : 0 ≤ i) (h1 : i + 6 ≤ L) (hI : Inv0 g) (kk : ∀ g9, Inv g9 → LW p l e s m below meth c b z 1914 [(3, iv i), (2, rv z 117), (1, rv z 0), (0, .ref b)] [] g9) : LW p l e s m below meth c b z 1052 [(3, iv i), (2, rv z 117), (1, rv z 0), (0, .ref b)] [] g := by
  obtain ⟨r1, r2, e1, e2, hv, hI2⟩ := hsim ((xs (ix (i + 1))).toInt) ((xs (ix (i + 2))).toInt) ((xs (ix (i + 3))).toInt) ((xs (ix (i + 4))).toInt) g (I32_of _) (I32_of _) (I32_of _) (I32_of _) hI
  refine LW.aload_n C 2 dL_law_1052 rfl ?_
  refine LW.aload_n C 3 dL_law_1053 rfl ?_
  refine LW.iload_n C 0 dL_law_1054 rfl ?_
  refine LW.iconst C dL_law_1055 ?_
  refine LW.iadd C dL_law_1056 ?_
  refine LW.sld C (lw_in hL h0 h1 (by decide) (by decide)) dL_law_1057 ?_
  refine LW.aload_n C 3 dL_law_1058 rfl ?_
  refine LW.iload_n C 0 dL_law_1059 rfl ?_
  refine LW.iconst C dL_law_1060 ?_
  refine LW.iadd C dL_law_1061 ?_
  refine LW.sld C (lw_in hL h0 h1 (by decide) (by decide)) dL_law_1062 ?_
  refine LW.aload_n C 3 dL_law_1063 rfl ?_
  refine LW.iload_n C 0 dL_law_1064 rfl ?_
  refine LW.iconst C dL_law_1065 ?_
  refine LW.iadd C dL_law_1066 ?_
  refine LW.sld C (lw_in hL h0 h1 (by decide) (by decide)) dL_law_1067 ?_
  refine LW.aload_n C 3 dL_law_1068 rfl ?_
  refine LW.iload_n C 0 dL_law_1069 rfl ?_
  refine LW.iconst C dL_law_1070 ?_
  refine LW.iadd C dL_law_1071 ?_
  refine LW.sld C (lw_in hL h0 h1 (by decide) (by decide)) dL_law_1072 ?_
  refine LW.callV C (As := [iv (xs (ix (i + 1))).toInt, iv (xs (ix (i + 2))).toInt, iv (xs (ix (i + 3))).toInt, iv (xs (ix (i + 4))).toInt]) (st := []) (X_could_ok e1) cqL_102 crL_102 (by decide) rfl dL_law_1073 rfl (Nat.le_of_ble_eq_true rfl) ?_
  refine LW.pop C dL_law_1076 ?_
  refine LW.aload_n C 1 dL_law_1077 rfl ?_
  refine LW.aload_n C 3 dL_law_1078 rfl ?_
  refine LW.iload_n C 0 dL_law_1079 rfl ?_
  refine LW.iconst C dL_law_1080 ?_
  refine LW.iadd C dL_law_1081 ?_
  refine LW.sld C (lw_in hL h0 h1 (by decide) (by decide)) dL_law_1082 ?_
  refine LW.aload_n C 3 dL_law_1083 rfl ?_
  refine LW.iload_n C 0 dL_law_1084 rfl ?_
  refine LW.iconst C dL_law_1085 ?_
  refine LW.iadd C dL_law_1086 ?_
  refine LW.sld C (lw_in hL h0 h1 (by decide) (by decide)) dL_law_1087 ?_
  refine LW.aload_n C 3 dL_law_1088 rfl ?_
  refine LW.iload_n C 0 dL_law_1089 rfl ?_
  refine LW.iconst C dL_law_1090 ?_
  refine LW.iadd C dL_law_1091 ?_
  refine LW.sld C (lw_in hL h0 h1 (by decide) (by decide)) dL_law_1092 ?_
  refine LW.aload_n C 3 dL_law_1093 rfl ?_
  refine LW.iload_n C 0 dL_law_1094 rfl ?_
  refine LW.iconst C dL_law_1095 ?_
  refine LW.iadd C dL_law_1096 ?_
  refine LW.sld C (lw_in hL h0 h1 (by decide) (by decide)) dL_law_1097 ?_
  refine LW.callV C (As := [iv (xs (ix (i + 1))).toInt, iv (xs (ix (i + 2))).toInt, iv (xs (ix (i + 3))).toInt, iv (xs (ix (i + 4))).toInt]) (st := []) (M_could_ok e2) cqL_105 crL_105 (by decide) rfl dL_law_1098 rfl (Nat.le_of_ble_eq_true rfl) ?_
  refine LW.pop C dL_law_1101 ?_
  refine LW.goto (tgt := 1914) C dL_law_1102 (by decide) ?_
  exact kk _ hI2
theorem lwc_whose {Inv0 Inv : AG → Prop} (hsim : Sim_whose Inv0 Inv) (C : LC p s m meth c b L xs z) (hL : L ≤ 3072) {i : Int} (h0 : 0 ≤ i) (h1 : i + 6 ≤ L) (hI : Inv0 g) (kk : ∀ g9, Inv g9 → LW p l e s m below meth c b z 1914 [(3, iv i), (2, rv z 117), (1, rv z 0), (0, .ref b)] [] g9) : LW p l e s m below meth c b z 1105 [(3, iv i), (2, rv z 117), (1, rv z 0), (0, .ref b)] [] g := by
  obtain ⟨r1, r2, e1, e2, hv, hI2⟩ := hsim ((xs (ix (i + 1))).toInt) ((xs (ix (i + 2))).toInt) ((xs (ix (i + 3))).toInt) ((xs (ix (i + 4))).toInt) g (I32_of _) (I32_of _) (I32_of _) (I32_of _) hI
  refine LW.aload_n C 2 dL_law_1105 rfl ?_
  refine LW.aload_n C 3 dL_law_1106 rfl ?_
  refine LW.iload_n C 0 dL_law_1107 rfl ?_
  refine LW.iconst C dL_law_1108 ?_
  refine LW.iadd C dL_law_1109 ?_
  refine LW.sld C (lw_in hL h0 h1 (by decide) (by decide)) dL_law_1110 ?_
  refine LW.aload_n C 3 dL_law_1111 rfl ?_
  refine LW.iload_n C 0 dL_law_1112 rfl ?_
  refine LW.iconst C dL_law_1113 ?_
  refine LW.iadd C dL_law_1114 ?_
  refine LW.sld C (lw_in hL h0 h1 (by decide) (by decide)) dL_law_1115 ?_
  refine LW.aload_n C 3 dL_law_1116 rfl ?_
  refine LW.iload_n C 0 dL_law_1117 rfl ?_
  refine LW.iconst C dL_law_1118 ?_
  refine LW.iadd C dL_law_1119 ?_
  refine LW.sld C (lw_in hL h0 h1 (by decide) (by decide)) dL_law_1120 ?_
  refine LW.aload_n C 3 dL_law_1121 rfl ?_
  refine LW.iload_n C 0 dL_law_1122 rfl ?_
  refine LW.iconst C dL_law_1123 ?_
  refine LW.iadd C dL_law_1124 ?_
  refine LW.sld C (lw_in hL h0 h1 (by decide) (by decide)) dL_law_1125 ?_
  refine LW.callV C (As := [iv (xs (ix (i + 1))).toInt, iv (xs (ix (i + 2))).toInt, iv (xs (ix (i + 3))).toInt, iv (xs (ix (i + 4))).toInt]) (st := []) (X_whose_ok e1) cqL_106 crL_106 (by decide) rfl dL_law_1126 rfl (Nat.le_of_ble_eq_true rfl) ?_
  refine LW.pop C dL_law_1129 ?_
  refine LW.aload_n C 1 dL_law_1130 rfl ?_
  refine LW.aload_n C 3 dL_law_1131 rfl ?_
  refine LW.iload_n C 0 dL_law_1132 rfl ?_
  refine LW.iconst C dL_law_1133 ?_
  refine LW.iadd C dL_law_1134 ?_
  refine LW.sld C (lw_in hL h0 h1 (by decide) (by decide)) dL_law_1135 ?_
  refine LW.aload_n C 3 dL_law_1136 rfl ?_
  refine LW.iload_n C 0 dL_law_1137 rfl ?_
  refine LW.iconst C dL_law_1138 ?_
  refine LW.iadd C dL_law_1139 ?_
  refine LW.sld C (lw_in hL h0 h1 (by decide) (by decide)) dL_law_1140 ?_
  refine LW.aload_n C 3 dL_law_1141 rfl ?_
  refine LW.iload_n C 0 dL_law_1142 rfl ?_
  refine LW.iconst C dL_law_1143 ?_
  refine LW.iadd C dL_law_1144 ?_
  refine LW.sld C (lw_in hL h0 h1 (by decide) (by decide)) dL_law_1145 ?_
  refine LW.aload_n C 3 dL_law_1146 rfl ?_
  refine LW.iload_n C 0 dL_law_1147 rfl ?_
  refine LW.iconst C dL_law_1148 ?_
  refine LW.iadd C dL_law_1149 ?_
  refine LW.sld C (lw_in hL h0 h1 (by decide) (by decide)) dL_law_1150 ?_
  refine LW.callV C (As := [iv (xs (ix (i + 1))).toInt, iv (xs (ix (i + 2))).toInt, iv (xs (ix (i + 3))).toInt, iv (xs (ix (i + 4))).toInt]) (st := []) (M_whose_ok e2) cqL_109 crL_109 (by decide) rfl dL_law_1151 rfl (Nat.le_of_ble_eq_true rfl) ?_
  refine LW.pop C dL_law_1154 ?_
  refine LW.goto (tgt := 1914) C dL_law_1155 (by decide) ?_
  exact kk _ hI2
theorem lwc_tonight {Inv0 Inv : AG → Prop} (hsim : Sim_tonight Inv0 Inv) (C : LC p s m meth c b L xs z) (hL : L ≤ 3072) {i : Int} (h0 : 0 ≤ i) (h1 : i + 6 ≤ L) (hI : Inv0 g) (kk : ∀ g9, Inv g9 → LW p l e s m below meth c b z 1914 [(3, iv i), (2, rv z 117), (1, rv z 0), (0, .ref b)] [] g9) : LW p l e s m below meth c b z 1158 [(3, iv i), (2, rv z 117), (1, rv z 0), (0, .ref b)] [] g := by
  obtain ⟨r1, r2, e1, e2, hv, hI2⟩ := hsim ((xs (ix (i + 1))).toInt) ((xs (ix (i + 2))).toInt) g (I32_of _) (I32_of _) hI
  refine LW.aload_n C 2 dL_law_1158 rfl ?_
  refine LW.aload_n C 3 dL_law_1159 rfl ?_
  refine LW.iload_n C 0 dL_law_1160 rfl ?_
  refine LW.iconst C dL_law_1161 ?_
  refine LW.iadd C dL_law_1162 ?_
  refine LW.sld C (lw_in hL h0 h1 (by decide) (by decide)) dL_law_1163 ?_
  refine LW.aload_n C 3 dL_law_1164 rfl ?_
  refine LW.iload_n C 0 dL_law_1165 rfl ?_
  refine LW.iconst C dL_law_1166 ?_
  refine LW.iadd C dL_law_1167 ?_
  refine LW.sld C (lw_in hL h0 h1 (by decide) (by decide)) dL_law_1168 ?_
  refine LW.callV C (As := [iv (xs (ix (i + 1))).toInt, iv (xs (ix (i + 2))).toInt]) (st := []) (X_tonight_ok e1) cqL_110 crL_110 (by decide) rfl dL_law_1169 rfl (Nat.le_of_ble_eq_true rfl) ?_
  refine LW.pop C dL_law_1172 ?_
  refine LW.aload_n C 1 dL_law_1173 rfl ?_
  refine LW.aload_n C 3 dL_law_1174 rfl ?_
  refine LW.iload_n C 0 dL_law_1175 rfl ?_
  refine LW.iconst C dL_law_1176 ?_
  refine LW.iadd C dL_law_1177 ?_
  refine LW.sld C (lw_in hL h0 h1 (by decide) (by decide)) dL_law_1178 ?_
  refine LW.aload_n C 3 dL_law_1179 rfl ?_
  refine LW.iload_n C 0 dL_law_1180 rfl ?_
  refine LW.iconst C dL_law_1181 ?_
  refine LW.iadd C dL_law_1182 ?_
  refine LW.sld C (lw_in hL h0 h1 (by decide) (by decide)) dL_law_1183 ?_
  refine LW.callV C (As := [iv (xs (ix (i + 1))).toInt, iv (xs (ix (i + 2))).toInt]) (st := []) (M_tonight_ok e2) cqL_113 crL_113 (by decide) rfl dL_law_1184 rfl (Nat.le_of_ble_eq_true rfl) ?_
  refine LW.pop C dL_law_1187 ?_
  refine LW.goto (tgt := 1914) C dL_law_1188 (by decide) ?_
  exact kk _ hI2
theorem lwc_queue {Inv0 Inv : AG → Prop} (hsim : Sim_queue Inv0 Inv) (C : LC p s m meth c b L xs z) (hL : L ≤ 3072) {i : Int} (h0 : 0 ≤ i) (h1 : i + 6 ≤ L) (hI : Inv0 g) (kk : ∀ g9, Inv g9 → LW p l e s m below meth c b z 1914 [(3, iv i), (2, rv z 117), (1, rv z 0), (0, .ref b)] [] g9) : LW p l e s m below meth c b z 1191 [(3, iv i), (2, rv z 117), (1, rv z 0), (0, .ref b)] [] g := by
  obtain ⟨r1, r2, e1, e2, hv, hI2⟩ := hsim ((xs (ix (i + 1))).toInt) ((xs (ix (i + 2))).toInt) g (I32_of _) (I32_of _) hI
  refine LW.aload_n C 2 dL_law_1191 rfl ?_
  refine LW.aload_n C 3 dL_law_1192 rfl ?_
  refine LW.iload_n C 0 dL_law_1193 rfl ?_
  refine LW.iconst C dL_law_1194 ?_
  refine LW.iadd C dL_law_1195 ?_
  refine LW.sld C (lw_in hL h0 h1 (by decide) (by decide)) dL_law_1196 ?_
  refine LW.aload_n C 3 dL_law_1197 rfl ?_
  refine LW.iload_n C 0 dL_law_1198 rfl ?_
  refine LW.iconst C dL_law_1199 ?_
  refine LW.iadd C dL_law_1200 ?_
  refine LW.sld C (lw_in hL h0 h1 (by decide) (by decide)) dL_law_1201 ?_
  refine LW.callV C (As := [iv (xs (ix (i + 1))).toInt, iv (xs (ix (i + 2))).toInt]) (st := []) (X_queue_ok e1) cqL_114 crL_114 (by decide) rfl dL_law_1202 rfl (Nat.le_of_ble_eq_true rfl) ?_
  refine LW.pop C dL_law_1205 ?_
  refine LW.aload_n C 1 dL_law_1206 rfl ?_
  refine LW.aload_n C 3 dL_law_1207 rfl ?_
  refine LW.iload_n C 0 dL_law_1208 rfl ?_
  refine LW.iconst C dL_law_1209 ?_
  refine LW.iadd C dL_law_1210 ?_
  refine LW.sld C (lw_in hL h0 h1 (by decide) (by decide)) dL_law_1211 ?_
  refine LW.aload_n C 3 dL_law_1212 rfl ?_
  refine LW.iload_n C 0 dL_law_1213 rfl ?_
  refine LW.iconst C dL_law_1214 ?_
  refine LW.iadd C dL_law_1215 ?_
  refine LW.sld C (lw_in hL h0 h1 (by decide) (by decide)) dL_law_1216 ?_
  refine LW.callV C (As := [iv (xs (ix (i + 1))).toInt, iv (xs (ix (i + 2))).toInt]) (st := []) (M_queue_ok e2) cqL_117 crL_117 (by decide) rfl dL_law_1217 rfl (Nat.le_of_ble_eq_true rfl) ?_
  refine LW.pop C dL_law_1220 ?_
  refine LW.goto (tgt := 1914) C dL_law_1221 (by decide) ?_
  exact kk _ hI2
theorem lwc_lock {Inv0 Inv : AG → Prop} (hsim : Sim_lock Inv0 Inv) (C : LC p s m meth c b L xs z) (hL : L ≤ 3072) {i : Int} (h0 : 0 ≤ i) (h1 : i + 6 ≤ L) (hI : Inv0 g) (kk : ∀ g9, Inv g9 → LW p l e s m below meth c b z 1914 [(3, iv i), (2, rv z 117), (1, rv z 0), (0, .ref b)] [] g9) : LW p l e s m below meth c b z 1224 [(3, iv i), (2, rv z 117), (1, rv z 0), (0, .ref b)] [] g := by
  obtain ⟨v1, r2, e1, e2, hv, hI2⟩ := hsim ((xs (ix (i + 1))).toInt) g (I32_of _) hI
  refine LW.aload_n C 2 dL_law_1224 rfl ?_
  refine LW.aload_n C 3 dL_law_1225 rfl ?_
  refine LW.iload_n C 0 dL_law_1226 rfl ?_
  refine LW.iconst C dL_law_1227 ?_
  refine LW.iadd C dL_law_1228 ?_
  refine LW.sld C (lw_in hL h0 h1 (by decide) (by decide)) dL_law_1229 ?_
  refine LW.callV C (As := [iv (xs (ix (i + 1))).toInt]) (st := []) (X_lock_ok e1) cqL_118 crL_118 (by decide) rfl dL_law_1230 rfl (Nat.le_of_ble_eq_true rfl) ?_
  refine LW.pop C dL_law_1233 ?_
  refine LW.aload_n C 1 dL_law_1234 rfl ?_
  refine LW.aload_n C 3 dL_law_1235 rfl ?_
  refine LW.iload_n C 0 dL_law_1236 rfl ?_
  refine LW.iconst C dL_law_1237 ?_
  refine LW.iadd C dL_law_1238 ?_
  refine LW.sld C (lw_in hL h0 h1 (by decide) (by decide)) dL_law_1239 ?_
  refine LW.callV C (As := [iv (xs (ix (i + 1))).toInt]) (st := []) (M_lock_ok e2) cqL_121 crL_121 (by decide) rfl dL_law_1240 rfl (Nat.le_of_ble_eq_true rfl) ?_
  refine LW.pop C dL_law_1243 ?_
  refine LW.goto (tgt := 1914) C dL_law_1244 (by decide) ?_
  exact kk _ hI2
theorem lwc_booking {Inv0 Inv : AG → Prop} (hsim : Sim_booking Inv0 Inv) (C : LC p s m meth c b L xs z) (hL : L ≤ 3072) {i : Int} (h0 : 0 ≤ i) (h1 : i + 6 ≤ L) (hI : Inv0 g) (kk : ∀ g9, Inv g9 → LW p l e s m below meth c b z 1914 [(3, iv i), (2, rv z 117), (1, rv z 0), (0, .ref b)] [] g9) : LW p l e s m below meth c b z 1247 [(3, iv i), (2, rv z 117), (1, rv z 0), (0, .ref b)] [] g := by
  obtain ⟨r1, r2, e1, e2, hv, hI2⟩ := hsim ((xs (ix (i + 1))).toInt) ((xs (ix (i + 2))).toInt) ((xs (ix (i + 3))).toInt) ((xs (ix (i + 4))).toInt) g (I32_of _) (I32_of _) (I32_of _) (I32_of _) hI
  refine LW.aload_n C 2 dL_law_1247 rfl ?_
  refine LW.aload_n C 3 dL_law_1248 rfl ?_
  refine LW.iload_n C 0 dL_law_1249 rfl ?_
  refine LW.iconst C dL_law_1250 ?_
  refine LW.iadd C dL_law_1251 ?_
  refine LW.sld C (lw_in hL h0 h1 (by decide) (by decide)) dL_law_1252 ?_
  refine LW.aload_n C 3 dL_law_1253 rfl ?_
  refine LW.iload_n C 0 dL_law_1254 rfl ?_
  refine LW.iconst C dL_law_1255 ?_
  refine LW.iadd C dL_law_1256 ?_
  refine LW.sld C (lw_in hL h0 h1 (by decide) (by decide)) dL_law_1257 ?_
  refine LW.aload_n C 3 dL_law_1258 rfl ?_
  refine LW.iload_n C 0 dL_law_1259 rfl ?_
  refine LW.iconst C dL_law_1260 ?_
  refine LW.iadd C dL_law_1261 ?_
  refine LW.sld C (lw_in hL h0 h1 (by decide) (by decide)) dL_law_1262 ?_
  refine LW.aload_n C 3 dL_law_1263 rfl ?_
  refine LW.iload_n C 0 dL_law_1264 rfl ?_
  refine LW.iconst C dL_law_1265 ?_
  refine LW.iadd C dL_law_1266 ?_
  refine LW.sld C (lw_in hL h0 h1 (by decide) (by decide)) dL_law_1267 ?_
  refine LW.callV C (As := [iv (xs (ix (i + 1))).toInt, iv (xs (ix (i + 2))).toInt, iv (xs (ix (i + 3))).toInt, iv (xs (ix (i + 4))).toInt]) (st := []) (X_booking_ok e1) cqL_122 crL_122 (by decide) rfl dL_law_1268 rfl (Nat.le_of_ble_eq_true rfl) ?_
  refine LW.pop C dL_law_1271 ?_
  refine LW.aload_n C 1 dL_law_1272 rfl ?_
  refine LW.aload_n C 3 dL_law_1273 rfl ?_
  refine LW.iload_n C 0 dL_law_1274 rfl ?_
  refine LW.iconst C dL_law_1275 ?_
  refine LW.iadd C dL_law_1276 ?_
  refine LW.sld C (lw_in hL h0 h1 (by decide) (by decide)) dL_law_1277 ?_
  refine LW.aload_n C 3 dL_law_1278 rfl ?_
  refine LW.iload_n C 0 dL_law_1279 rfl ?_
  refine LW.iconst C dL_law_1280 ?_
  refine LW.iadd C dL_law_1281 ?_
  refine LW.sld C (lw_in hL h0 h1 (by decide) (by decide)) dL_law_1282 ?_
  refine LW.aload_n C 3 dL_law_1283 rfl ?_
  refine LW.iload_n C 0 dL_law_1284 rfl ?_
  refine LW.iconst C dL_law_1285 ?_
  refine LW.iadd C dL_law_1286 ?_
  refine LW.sld C (lw_in hL h0 h1 (by decide) (by decide)) dL_law_1287 ?_
  refine LW.aload_n C 3 dL_law_1288 rfl ?_
  refine LW.iload_n C 0 dL_law_1289 rfl ?_
  refine LW.iconst C dL_law_1290 ?_
  refine LW.iadd C dL_law_1291 ?_
  refine LW.sld C (lw_in hL h0 h1 (by decide) (by decide)) dL_law_1292 ?_
  refine LW.callV C (As := [iv (xs (ix (i + 1))).toInt, iv (xs (ix (i + 2))).toInt, iv (xs (ix (i + 3))).toInt, iv (xs (ix (i + 4))).toInt]) (st := []) (M_booking_ok e2) cqL_125 crL_125 (by decide) rfl dL_law_1293 rfl (Nat.le_of_ble_eq_true rfl) ?_
  refine LW.pop C dL_law_1296 ?_
  refine LW.goto (tgt := 1914) C dL_law_1297 (by decide) ?_
  exact kk _ hI2
theorem lwc_given {Inv0 Inv : AG → Prop} (hsim : Sim_given Inv0 Inv) (C : LC p s m meth c b L xs z) (hL : L ≤ 3072) {i : Int} (h0 : 0 ≤ i) (h1 : i + 6 ≤ L) (hI : Inv0 g) (kk : ∀ g9, Inv g9 → LW p l e s m below meth c b z 1914 [(3, iv i), (2, rv z 117), (1, rv z 0), (0, .ref b)] [] g9) : LW p l e s m below meth c b z 1300 [(3, iv i), (2, rv z 117), (1, rv z 0), (0, .ref b)] [] g := by
  obtain ⟨r1, r2, e1, e2, hv, hI2⟩ := hsim ((xs (ix (i + 1))).toInt) ((xs (ix (i + 2))).toInt) g (I32_of _) (I32_of _) hI
  refine LW.aload_n C 2 dL_law_1300 rfl ?_
  refine LW.aload_n C 3 dL_law_1301 rfl ?_
  refine LW.iload_n C 0 dL_law_1302 rfl ?_
  refine LW.iconst C dL_law_1303 ?_
  refine LW.iadd C dL_law_1304 ?_
  refine LW.sld C (lw_in hL h0 h1 (by decide) (by decide)) dL_law_1305 ?_
  refine LW.aload_n C 3 dL_law_1306 rfl ?_
  refine LW.iload_n C 0 dL_law_1307 rfl ?_
  refine LW.iconst C dL_law_1308 ?_
  refine LW.iadd C dL_law_1309 ?_
  refine LW.sld C (lw_in hL h0 h1 (by decide) (by decide)) dL_law_1310 ?_
  refine LW.callV C (As := [iv (xs (ix (i + 1))).toInt, iv (xs (ix (i + 2))).toInt]) (st := []) (X_given_ok e1) cqL_126 crL_126 (by decide) rfl dL_law_1311 rfl (Nat.le_of_ble_eq_true rfl) ?_
  refine LW.pop C dL_law_1314 ?_
  refine LW.aload_n C 1 dL_law_1315 rfl ?_
  refine LW.aload_n C 3 dL_law_1316 rfl ?_
  refine LW.iload_n C 0 dL_law_1317 rfl ?_
  refine LW.iconst C dL_law_1318 ?_
  refine LW.iadd C dL_law_1319 ?_
  refine LW.sld C (lw_in hL h0 h1 (by decide) (by decide)) dL_law_1320 ?_
  refine LW.aload_n C 3 dL_law_1321 rfl ?_
  refine LW.iload_n C 0 dL_law_1322 rfl ?_
  refine LW.iconst C dL_law_1323 ?_
  refine LW.iadd C dL_law_1324 ?_
  refine LW.sld C (lw_in hL h0 h1 (by decide) (by decide)) dL_law_1325 ?_
  refine LW.callV C (As := [iv (xs (ix (i + 1))).toInt, iv (xs (ix (i + 2))).toInt]) (st := []) (M_given_ok e2) cqL_129 crL_129 (by decide) rfl dL_law_1326 rfl (Nat.le_of_ble_eq_true rfl) ?_
  refine LW.pop C dL_law_1329 ?_
  refine LW.goto (tgt := 1914) C dL_law_1330 (by decide) ?_
  exact kk _ hI2
theorem lwc_more {Inv0 Inv : AG → Prop} (hsim : Sim_more Inv0 Inv) (C : LC p s m meth c b L xs z) (hL : L ≤ 3072) {i : Int} (h0 : 0 ≤ i) (h1 : i + 6 ≤ L) (hI : Inv0 g) (kk : ∀ g9, Inv g9 → LW p l e s m below meth c b z 1914 [(3, iv i), (2, rv z 117), (1, rv z 0), (0, .ref b)] [] g9) : LW p l e s m below meth c b z 1333 [(3, iv i), (2, rv z 117), (1, rv z 0), (0, .ref b)] [] g := by
  obtain ⟨r1, r2, e1, e2, hv, hI2⟩ := hsim ((xs (ix (i + 1))).toInt) ((xs (ix (i + 2))).toInt) ((xs (ix (i + 3))).toInt) g (I32_of _) (I32_of _) (I32_of _) hI
  refine LW.aload_n C 2 dL_law_1333 rfl ?_
  refine LW.aload_n C 3 dL_law_1334 rfl ?_
  refine LW.iload_n C 0 dL_law_1335 rfl ?_
  refine LW.iconst C dL_law_1336 ?_
  refine LW.iadd C dL_law_1337 ?_
  refine LW.sld C (lw_in hL h0 h1 (by decide) (by decide)) dL_law_1338 ?_
  refine LW.aload_n C 3 dL_law_1339 rfl ?_
  refine LW.iload_n C 0 dL_law_1340 rfl ?_
  refine LW.iconst C dL_law_1341 ?_
  refine LW.iadd C dL_law_1342 ?_
  refine LW.sld C (lw_in hL h0 h1 (by decide) (by decide)) dL_law_1343 ?_
  refine LW.aload_n C 3 dL_law_1344 rfl ?_
  refine LW.iload_n C 0 dL_law_1345 rfl ?_
  refine LW.iconst C dL_law_1346 ?_
  refine LW.iadd C dL_law_1347 ?_
  refine LW.sld C (lw_in hL h0 h1 (by decide) (by decide)) dL_law_1348 ?_
  refine LW.callV C (As := [iv (xs (ix (i + 1))).toInt, iv (xs (ix (i + 2))).toInt, iv (xs (ix (i + 3))).toInt]) (st := []) (X_more_ok e1) cqL_130 crL_130 (by decide) rfl dL_law_1349 rfl (Nat.le_of_ble_eq_true rfl) ?_
  refine LW.pop C dL_law_1352 ?_
  refine LW.aload_n C 1 dL_law_1353 rfl ?_
  refine LW.aload_n C 3 dL_law_1354 rfl ?_
  refine LW.iload_n C 0 dL_law_1355 rfl ?_
  refine LW.iconst C dL_law_1356 ?_
  refine LW.iadd C dL_law_1357 ?_
  refine LW.sld C (lw_in hL h0 h1 (by decide) (by decide)) dL_law_1358 ?_
  refine LW.aload_n C 3 dL_law_1359 rfl ?_
  refine LW.iload_n C 0 dL_law_1360 rfl ?_
  refine LW.iconst C dL_law_1361 ?_
  refine LW.iadd C dL_law_1362 ?_
  refine LW.sld C (lw_in hL h0 h1 (by decide) (by decide)) dL_law_1363 ?_
  refine LW.aload_n C 3 dL_law_1364 rfl ?_
  refine LW.iload_n C 0 dL_law_1365 rfl ?_
  refine LW.iconst C dL_law_1366 ?_
  refine LW.iadd C dL_law_1367 ?_
  refine LW.sld C (lw_in hL h0 h1 (by decide) (by decide)) dL_law_1368 ?_
  refine LW.callV C (As := [iv (xs (ix (i + 1))).toInt, iv (xs (ix (i + 2))).toInt, iv (xs (ix (i + 3))).toInt]) (st := []) (M_more_ok e2) cqL_133 crL_133 (by decide) rfl dL_law_1369 rfl (Nat.le_of_ble_eq_true rfl) ?_
  refine LW.pop C dL_law_1372 ?_
  refine LW.goto (tgt := 1914) C dL_law_1373 (by decide) ?_
  exact kk _ hI2
end LAWW
