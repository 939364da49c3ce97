section ZL
variable {p : Program} {l : Launch} {e : Env} {s : State} {m : MethodId} {below : List Frame} {meth : Method} {c : Code} {b L : Nat} {xs : Nat → Int32} {G : zc_G} {fx fm : Nat → Nat} {σ τ : zz_T} {S : zSt} {i : Nat}
theorem zlw_kind (C : zl_C p s m c b L xs G) (hs : sOK S) (X : RX σ S) (M : RM τ S) (hi : i + 5 ≤ L) (K : ∀ (σ2 τ2 : zz_T) (S2 : zSt), sOK S2 → RX σ2 S2 → RM τ2 S2 → zl_V p l e s m below meth c b G fx fm σ2 τ2 i 1453 []) : zl_V p l e s m below meth c b G fx fm σ τ i 794 [] := by
  obtain ⟨r, S2, ok, px, pm⟩ := b_kind hs X M (xs (i + 1)) (xs (i + 2)) (xs (i + 3))
  refine zc_aload_n C.1 dL_law_794 2 rfl rfl rfl ?_
  refine zl_arg C (k := 1) (by omega) dL_law_795 dL_law_796 dL_law_797 rfl dL_law_798 dL_law_799 ?_
  refine zl_arg C (k := 2) (by omega) dL_law_800 dL_law_801 dL_law_802 rfl dL_law_803 dL_law_804 ?_
  refine zl_arg C (k := 3) (by omega) dL_law_805 dL_law_806 dL_law_807 rfl dL_law_808 dL_law_809 ?_
  refine zl_x C [.int (xs (i + 1)), .int (xs (i + 2)), .int (xs (i + 3))] (fun hJ => kX5_kind l hJ _ _ _ rfl px) jl_L_97 ⟨rfl, rfl⟩ ⟨(Nat.le_of_ble_eq_true rfl), (Nat.le_of_ble_eq_true rfl)⟩ rfl rfl rfl (Nat.le_of_ble_eq_true rfl) dL_law_810 rfl (fun rx σ1 hx => ?_)
  obtain ⟨ex, hx⟩ := hx
  refine zc_aload_n C.1 dL_law_813 1 rfl rfl rfl ?_
  refine zl_arg C (k := 1) (by omega) dL_law_814 dL_law_815 dL_law_816 rfl dL_law_817 dL_law_818 ?_
  refine zl_arg C (k := 2) (by omega) dL_law_819 dL_law_820 dL_law_821 rfl dL_law_822 dL_law_823 ?_
  refine zl_arg C (k := 3) (by omega) dL_law_824 dL_law_825 dL_law_826 rfl dL_law_827 dL_law_828 ?_
  refine zl_m C [.int (xs (i + 1)), .int (xs (i + 2)), .int (xs (i + 3))] (fun hJ => kX6_kind l hJ _ _ _ rfl pm) jl_L_100 ⟨rfl, rfl⟩ ⟨(Nat.le_of_ble_eq_true rfl), (Nat.le_of_ble_eq_true rfl)⟩ rfl rfl rfl (Nat.le_of_ble_eq_true rfl) dL_law_829 rfl (fun rm τ1 hm => ?_)
  obtain ⟨em, hm⟩ := hm
  exact zc_icmp_eq (tgt := 1453) C.1 dL_law_832 (by decide) rfl (fun _ => K σ1 τ1 S2 ok hx hm) (fun h => absurd (by rw [ex, em]) h)
theorem zlw_best (C : zl_C p s m c b L xs G) (hs : sOK S) (X : RX σ S) (M : RM τ S) (hi : i + 5 ≤ L) (K : ∀ (σ2 τ2 : zz_T) (S2 : zSt), sOK S2 → RX σ2 S2 → RM τ2 S2 → zl_V p l e s m below meth c b G fx fm σ2 τ2 i 1453 []) : zl_V p l e s m below meth c b G fx fm σ τ i 837 [] := by
  obtain ⟨r, S2, ok, px, pm⟩ := b_best hs X M (xs (i + 1)) (xs (i + 2)) (xs (i + 3))
  refine zc_aload_n C.1 dL_law_837 2 rfl rfl rfl ?_
  refine zl_arg C (k := 1) (by omega) dL_law_838 dL_law_839 dL_law_840 rfl dL_law_841 dL_law_842 ?_
  refine zl_arg C (k := 2) (by omega) dL_law_843 dL_law_844 dL_law_845 rfl dL_law_846 dL_law_847 ?_
  refine zl_arg C (k := 3) (by omega) dL_law_848 dL_law_849 dL_law_850 rfl dL_law_851 dL_law_852 ?_
  refine zl_x C [.int (xs (i + 1)), .int (xs (i + 2)), .int (xs (i + 3))] (fun hJ => kX5_best l hJ _ _ _ rfl px) jl_L_101 ⟨rfl, rfl⟩ ⟨(Nat.le_of_ble_eq_true rfl), (Nat.le_of_ble_eq_true rfl)⟩ rfl rfl rfl (Nat.le_of_ble_eq_true rfl) dL_law_853 rfl (fun rx σ1 hx => ?_)
  obtain ⟨ex, hx⟩ := hx
  refine zc_aload_n C.1 dL_law_856 1 rfl rfl rfl ?_
  refine zl_arg C (k := 1) (by omega) dL_law_857 dL_law_858 dL_law_859 rfl dL_law_860 dL_law_861 ?_
  refine zl_arg C (k := 2) (by omega) dL_law_862 dL_law_863 dL_law_864 rfl dL_law_865 dL_law_866 ?_
  refine zl_arg C (k := 3) (by omega) dL_law_867 dL_law_868 dL_law_869 rfl dL_law_870 dL_law_871 ?_
  refine zl_m C [.int (xs (i + 1)), .int (xs (i + 2)), .int (xs (i + 3))] (fun hJ => kX6_best l hJ _ _ _ rfl pm) jl_L_104 ⟨rfl, rfl⟩ ⟨(Nat.le_of_ble_eq_true rfl), (Nat.le_of_ble_eq_true rfl)⟩ rfl rfl rfl (Nat.le_of_ble_eq_true rfl) dL_law_872 rfl (fun rm τ1 hm => ?_)
  obtain ⟨em, hm⟩ := hm
  exact zc_icmp_eq (tgt := 1453) C.1 dL_law_875 (by decide) rfl (fun _ => K σ1 τ1 S2 ok hx hm) (fun h => absurd (by rw [ex, em]) h)
theorem zlw_swap (C : zl_C p s m c b L xs G) (hs : sOK S) (X : RX σ S) (M : RM τ S) (hi : i + 5 ≤ L) (K : ∀ (σ2 τ2 : zz_T) (S2 : zSt), sOK S2 → RX σ2 S2 → RM τ2 S2 → zl_V p l e s m below meth c b G fx fm σ2 τ2 i 1453 []) : zl_V p l e s m below meth c b G fx fm σ τ i 880 [] := by
  obtain ⟨r, S2, ok, px, pm⟩ := b_swap hs X M (xs (i + 1)) (xs (i + 2))
  refine zc_aload_n C.1 dL_law_880 2 rfl rfl rfl ?_
  refine zl_arg C (k := 1) (by omega) dL_law_881 dL_law_882 dL_law_883 rfl dL_law_884 dL_law_885 ?_
  refine zl_arg C (k := 2) (by omega) dL_law_886 dL_law_887 dL_law_888 rfl dL_law_889 dL_law_890 ?_
  refine zl_x C [.int (xs (i + 1)), .int (xs (i + 2))] (fun hJ => kX5_swap l hJ _ _ rfl px) jl_L_105 ⟨rfl, rfl⟩ ⟨(Nat.le_of_ble_eq_true rfl), (Nat.le_of_ble_eq_true rfl)⟩ rfl rfl rfl (Nat.le_of_ble_eq_true rfl) dL_law_891 rfl (fun rx σ1 hx => ?_)
  obtain ⟨ex, hx⟩ := hx
  refine zc_aload_n C.1 dL_law_894 1 rfl rfl rfl ?_
  refine zl_arg C (k := 1) (by omega) dL_law_895 dL_law_896 dL_law_897 rfl dL_law_898 dL_law_899 ?_
  refine zl_arg C (k := 2) (by omega) dL_law_900 dL_law_901 dL_law_902 rfl dL_law_903 dL_law_904 ?_
  refine zl_m C [.int (xs (i + 1)), .int (xs (i + 2))] (fun hJ => kX6_swap l hJ _ _ rfl pm) jl_L_108 ⟨rfl, rfl⟩ ⟨(Nat.le_of_ble_eq_true rfl), (Nat.le_of_ble_eq_true rfl)⟩ rfl rfl rfl (Nat.le_of_ble_eq_true rfl) dL_law_905 rfl (fun rm τ1 hm => ?_)
  obtain ⟨em, hm⟩ := hm
  exact zc_icmp_eq (tgt := 1453) C.1 dL_law_908 (by decide) rfl (fun _ => K σ1 τ1 S2 ok hx hm) (fun h => absurd (by rw [ex, em]) h)
theorem zlw_rest (C : zl_C p s m c b L xs G) (hs : sOK S) (X : RX σ S) (M : RM τ S) (hi : i + 5 ≤ L) (K : ∀ (σ2 τ2 : zz_T) (S2 : zSt), sOK S2 → RX σ2 S2 → RM τ2 S2 → zl_V p l e s m below meth c b G fx fm σ2 τ2 i 1453 []) : zl_V p l e s m below meth c b G fx fm σ τ i 913 [] := by
  obtain ⟨r, S2, ok, px, pm⟩ := b_rest hs X M (xs (i + 1)) (xs (i + 2))
  refine zc_aload_n C.1 dL_law_913 2 rfl rfl rfl ?_
  refine zl_arg C (k := 1) (by omega) dL_law_914 dL_law_915 dL_law_916 rfl dL_law_917 dL_law_918 ?_
  refine zl_arg C (k := 2) (by omega) dL_law_919 dL_law_920 dL_law_921 rfl dL_law_922 dL_law_923 ?_
  refine zl_x C [.int (xs (i + 1)), .int (xs (i + 2))] (fun hJ => kX5_rest l hJ _ _ rfl px) jl_L_109 ⟨rfl, rfl⟩ ⟨(Nat.le_of_ble_eq_true rfl), (Nat.le_of_ble_eq_true rfl)⟩ rfl rfl rfl (Nat.le_of_ble_eq_true rfl) dL_law_924 rfl (fun rx σ1 hx => ?_)
  obtain ⟨ex, hx⟩ := hx
  refine zc_aload_n C.1 dL_law_927 1 rfl rfl rfl ?_
  refine zl_arg C (k := 1) (by omega) dL_law_928 dL_law_929 dL_law_930 rfl dL_law_931 dL_law_932 ?_
  refine zl_arg C (k := 2) (by omega) dL_law_933 dL_law_934 dL_law_935 rfl dL_law_936 dL_law_937 ?_
  refine zl_m C [.int (xs (i + 1)), .int (xs (i + 2))] (fun hJ => kX6_rest l hJ _ _ rfl pm) jl_L_112 ⟨rfl, rfl⟩ ⟨(Nat.le_of_ble_eq_true rfl), (Nat.le_of_ble_eq_true rfl)⟩ rfl rfl rfl (Nat.le_of_ble_eq_true rfl) dL_law_938 rfl (fun rm τ1 hm => ?_)
  obtain ⟨em, hm⟩ := hm
  exact zc_icmp_eq (tgt := 1453) C.1 dL_law_941 (by decide) rfl (fun _ => K σ1 τ1 S2 ok hx hm) (fun h => absurd (by rw [ex, em]) h)
theorem zlw_luck (C : zl_C p s m c b L xs G) (hs : sOK S) (X : RX σ S) (M : RM τ S) (hi : i + 5 ≤ L) (K : ∀ (σ2 τ2 : zz_T) (S2 : zSt), sOK S2 → RX σ2 S2 → RM τ2 S2 → zl_V p l e s m below meth c b G fx fm σ2 τ2 i 1453 []) : zl_V p l e s m below meth c b G fx fm σ τ i 946 [] := by
  obtain ⟨r, S2, ok, px, pm⟩ := b_luck hs X M (xs (i + 1)) (xs (i + 2)) (xs (i + 3)) (xs (i + 4))
  refine zc_aload_n C.1 dL_law_946 2 rfl rfl rfl ?_
  refine zl_arg C (k := 1) (by omega) dL_law_947 dL_law_948 dL_law_949 rfl dL_law_950 dL_law_951 ?_
  refine zl_arg C (k := 2) (by omega) dL_law_952 dL_law_953 dL_law_954 rfl dL_law_955 dL_law_956 ?_
  refine zl_arg C (k := 3) (by omega) dL_law_957 dL_law_958 dL_law_959 rfl dL_law_960 dL_law_961 ?_
  refine zl_arg C (k := 4) (by omega) dL_law_962 dL_law_963 dL_law_964 rfl dL_law_965 dL_law_966 ?_
  refine zl_xl C [.int (xs (i + 1)), .int (xs (i + 2)), .int (xs (i + 3)), .int (xs (i + 4))] (fun hJ => kX5_luck l hJ _ _ _ _ rfl px) jl_L_113 ⟨rfl, rfl⟩ ⟨(Nat.le_of_ble_eq_true rfl), (Nat.le_of_ble_eq_true rfl)⟩ rfl rfl rfl (Nat.le_of_ble_eq_true rfl) dL_law_967 rfl (fun rx σ1 hx => ?_)
  obtain ⟨ex, hx⟩ := hx
  refine zc_aload_n C.1 dL_law_970 1 rfl rfl rfl ?_
  refine zl_arg C (k := 1) (by omega) dL_law_971 dL_law_972 dL_law_973 rfl dL_law_974 dL_law_975 ?_
  refine zl_arg C (k := 2) (by omega) dL_law_976 dL_law_977 dL_law_978 rfl dL_law_979 dL_law_980 ?_
  refine zl_arg C (k := 3) (by omega) dL_law_981 dL_law_982 dL_law_983 rfl dL_law_984 dL_law_985 ?_
  refine zl_arg C (k := 4) (by omega) dL_law_986 dL_law_987 dL_law_988 rfl dL_law_989 dL_law_990 ?_
  refine zl_ml C [.int (xs (i + 1)), .int (xs (i + 2)), .int (xs (i + 3)), .int (xs (i + 4))] (fun hJ => kX6_luck l hJ _ _ _ _ rfl pm) jl_L_117 ⟨rfl, rfl⟩ ⟨(Nat.le_of_ble_eq_true rfl), (Nat.le_of_ble_eq_true rfl)⟩ rfl rfl rfl (Nat.le_of_ble_eq_true rfl) dL_law_991 rfl (fun rm τ1 hm => ?_)
  obtain ⟨em, hm⟩ := hm
  refine zc_lcmp C.1 dL_law_994 rfl ?_
  exact zc_if_eq (tgt := 1453) C.1 dL_law_995 (by decide) rfl (fun _ => K σ1 τ1 S2 ok hx hm) (fun h => absurd ((lg_cmp_eq _ _).mpr (by rw [ex, em])) h)
theorem zlw_mean (C : zl_C p s m c b L xs G) (hs : sOK S) (X : RX σ S) (M : RM τ S) (hi : i + 5 ≤ L) (K : ∀ (σ2 τ2 : zz_T) (S2 : zSt), sOK S2 → RX σ2 S2 → RM τ2 S2 → zl_V p l e s m below meth c b G fx fm σ2 τ2 i 1453 []) : zl_V p l e s m below meth c b G fx fm σ τ i 1000 [] := by
  obtain ⟨r, S2, ok, px, pm⟩ := b_mean hs X M (xs (i + 1)) (xs (i + 2)) (xs (i + 3))
  refine zc_aload_n C.1 dL_law_1000 2 rfl rfl rfl ?_
  refine zl_arg C (k := 1) (by omega) dL_law_1001 dL_law_1002 dL_law_1003 rfl dL_law_1004 dL_law_1005 ?_
  refine zl_arg C (k := 2) (by omega) dL_law_1006 dL_law_1007 dL_law_1008 rfl dL_law_1009 dL_law_1010 ?_
  refine zl_arg C (k := 3) (by omega) dL_law_1011 dL_law_1012 dL_law_1013 rfl dL_law_1014 dL_law_1015 ?_
  refine zl_xl C [.int (xs (i + 1)), .int (xs (i + 2)), .int (xs (i + 3))] (fun hJ => kX5_mean l hJ _ _ _ rfl px) jl_L_118 ⟨rfl, rfl⟩ ⟨(Nat.le_of_ble_eq_true rfl), (Nat.le_of_ble_eq_true rfl)⟩ rfl rfl rfl (Nat.le_of_ble_eq_true rfl) dL_law_1016 rfl (fun rx σ1 hx => ?_)
  obtain ⟨ex, hx⟩ := hx
  refine zc_aload_n C.1 dL_law_1019 1 rfl rfl rfl ?_
  refine zl_arg C (k := 1) (by omega) dL_law_1020 dL_law_1021 dL_law_1022 rfl dL_law_1023 dL_law_1024 ?_
  refine zl_arg C (k := 2) (by omega) dL_law_1025 dL_law_1026 dL_law_1027 rfl dL_law_1028 dL_law_1029 ?_
  refine zl_arg C (k := 3) (by omega) dL_law_1030 dL_law_1031 dL_law_1032 rfl dL_law_1033 dL_law_1034 ?_
  refine zl_ml C [.int (xs (i + 1)), .int (xs (i + 2)), .int (xs (i + 3))] (fun hJ => kX6_mean l hJ _ _ _ rfl pm) jl_L_122 ⟨rfl, rfl⟩ ⟨(Nat.le_of_ble_eq_true rfl), (Nat.le_of_ble_eq_true rfl)⟩ rfl rfl rfl (Nat.le_of_ble_eq_true rfl) dL_law_1035 rfl (fun rm τ1 hm => ?_)
  obtain ⟨em, hm⟩ := hm
  refine zc_lcmp C.1 dL_law_1038 rfl ?_
  exact zc_if_eq (tgt := 1453) C.1 dL_law_1039 (by decide) rfl (fun _ => K σ1 τ1 S2 ok hx hm) (fun h => absurd ((lg_cmp_eq _ _).mpr (by rw [ex, em])) h)
theorem zlw_see (C : zl_C p s m c b L xs G) (hs : sOK S) (X : RX σ S) (M : RM τ S) (hi : i + 5 ≤ L) (K : ∀ (σ2 τ2 : zz_T) (S2 : zSt), sOK S2 → RX σ2 S2 → RM τ2 S2 → zl_V p l e s m below meth c b G fx fm σ2 τ2 i 1453 []) : zl_V p l e s m below meth c b G fx fm σ τ i 1044 [] := by
  obtain ⟨r, S2, ok, px, pm⟩ := b_see hs X M (xs (i + 1)) (xs (i + 2)) (xs (i + 3))
  refine zc_aload_n C.1 dL_law_1044 2 rfl rfl rfl ?_
  refine zl_arg C (k := 1) (by omega) dL_law_1045 dL_law_1046 dL_law_1047 rfl dL_law_1048 dL_law_1049 ?_
  refine zl_arg C (k := 2) (by omega) dL_law_1050 dL_law_1051 dL_law_1052 rfl dL_law_1053 dL_law_1054 ?_
  refine zl_arg C (k := 3) (by omega) dL_law_1055 dL_law_1056 dL_law_1057 rfl dL_law_1058 dL_law_1059 ?_
  refine zl_x C [.int (xs (i + 1)), .int (xs (i + 2)), .int (xs (i + 3))] (fun hJ => kX5_see l hJ _ _ _ rfl px) jl_L_123 ⟨rfl, rfl⟩ ⟨(Nat.le_of_ble_eq_true rfl), (Nat.le_of_ble_eq_true rfl)⟩ rfl rfl rfl (Nat.le_of_ble_eq_true rfl) dL_law_1060 rfl (fun rx σ1 hx => ?_)
  obtain ⟨ex, hx⟩ := hx
  refine zc_aload_n C.1 dL_law_1063 1 rfl rfl rfl ?_
  refine zl_arg C (k := 1) (by omega) dL_law_1064 dL_law_1065 dL_law_1066 rfl dL_law_1067 dL_law_1068 ?_
  refine zl_arg C (k := 2) (by omega) dL_law_1069 dL_law_1070 dL_law_1071 rfl dL_law_1072 dL_law_1073 ?_
  refine zl_arg C (k := 3) (by omega) dL_law_1074 dL_law_1075 dL_law_1076 rfl dL_law_1077 dL_law_1078 ?_
  refine zl_m C [.int (xs (i + 1)), .int (xs (i + 2)), .int (xs (i + 3))] (fun hJ => kX6_see l hJ _ _ _ rfl pm) jl_L_126 ⟨rfl, rfl⟩ ⟨(Nat.le_of_ble_eq_true rfl), (Nat.le_of_ble_eq_true rfl)⟩ rfl rfl rfl (Nat.le_of_ble_eq_true rfl) dL_law_1079 rfl (fun rm τ1 hm => ?_)
  obtain ⟨em, hm⟩ := hm
  exact zc_icmp_eq (tgt := 1453) C.1 dL_law_1082 (by decide) rfl (fun _ => K σ1 τ1 S2 ok hx hm) (fun h => absurd (by rw [ex, em]) h)
theorem zlw_forget (C : zl_C p s m c b L xs G) (hs : sOK S) (X : RX σ S) (M : RM τ S) (hi : i + 5 ≤ L) (K : ∀ (σ2 τ2 : zz_T) (S2 : zSt), sOK S2 → RX σ2 S2 → RM τ2 S2 → zl_V p l e s m below meth c b G fx fm σ2 τ2 i 1453 []) : zl_V p l e s m below meth c b G fx fm σ τ i 1087 [] := by
  obtain ⟨r, S2, ok, px, pm⟩ := b_forget hs X M (xs (i + 1))
  refine zc_aload_n C.1 dL_law_1087 2 rfl rfl rfl ?_
  refine zl_arg C (k := 1) (by omega) dL_law_1088 dL_law_1089 dL_law_1090 rfl dL_law_1091 dL_law_1092 ?_
  refine zl_x C [.int (xs (i + 1))] (fun hJ => kX5_forget l hJ _ rfl px) jl_L_127 ⟨rfl, rfl⟩ ⟨(Nat.le_of_ble_eq_true rfl), (Nat.le_of_ble_eq_true rfl)⟩ rfl rfl rfl (Nat.le_of_ble_eq_true rfl) dL_law_1093 rfl (fun rx σ1 hx => ?_)
  obtain ⟨ex, hx⟩ := hx
  refine zc_aload_n C.1 dL_law_1096 1 rfl rfl rfl ?_
  refine zl_arg C (k := 1) (by omega) dL_law_1097 dL_law_1098 dL_law_1099 rfl dL_law_1100 dL_law_1101 ?_
  refine zl_m C [.int (xs (i + 1))] (fun hJ => kX6_forget l hJ _ rfl pm) jl_L_130 ⟨rfl, rfl⟩ ⟨(Nat.le_of_ble_eq_true rfl), (Nat.le_of_ble_eq_true rfl)⟩ rfl rfl rfl (Nat.le_of_ble_eq_true rfl) dL_law_1102 rfl (fun rm τ1 hm => ?_)
  obtain ⟨em, hm⟩ := hm
  exact zc_icmp_eq (tgt := 1453) C.1 dL_law_1105 (by decide) rfl (fun _ => K σ1 τ1 S2 ok hx hm) (fun h => absurd (by rw [ex, em]) h)
theorem zlw_kinds (C : zl_C p s m c b L xs G) (hs : sOK S) (X : RX σ S) (M : RM τ S) (hi : i + 5 ≤ L) (K : ∀ (σ2 τ2 : zz_T) (S2 : zSt), sOK S2 → RX σ2 S2 → RM τ2 S2 → zl_V p l e s m below meth c b G fx fm σ2 τ2 i 1453 []) : zl_V p l e s m below meth c b G fx fm σ τ i 1110 [] := by
  obtain ⟨r, S2, ok, px, pm⟩ := b_kinds hs X M (xs (i + 1))
  refine zc_aload_n C.1 dL_law_1110 2 rfl rfl rfl ?_
  refine zl_arg C (k := 1) (by omega) dL_law_1111 dL_law_1112 dL_law_1113 rfl dL_law_1114 dL_law_1115 ?_
  refine zl_x C [.int (xs (i + 1))] (fun hJ => kX5_kinds l hJ _ rfl px) jl_L_131 ⟨rfl, rfl⟩ ⟨(Nat.le_of_ble_eq_true rfl), (Nat.le_of_ble_eq_true rfl)⟩ rfl rfl rfl (Nat.le_of_ble_eq_true rfl) dL_law_1116 rfl (fun rx σ1 hx => ?_)
  obtain ⟨ex, hx⟩ := hx
  refine zc_aload_n C.1 dL_law_1119 1 rfl rfl rfl ?_
  refine zl_arg C (k := 1) (by omega) dL_law_1120 dL_law_1121 dL_law_1122 rfl dL_law_1123 dL_law_1124 ?_
  refine zl_m C [.int (xs (i + 1))] (fun hJ => kX6_kinds l hJ _ rfl pm) jl_L_134 ⟨rfl, rfl⟩ ⟨(Nat.le_of_ble_eq_true rfl), (Nat.le_of_ble_eq_true rfl)⟩ rfl rfl rfl (Nat.le_of_ble_eq_true rfl) dL_law_1125 rfl (fun rm τ1 hm => ?_)
  obtain ⟨em, hm⟩ := hm
  exact zc_icmp_eq (tgt := 1453) C.1 dL_law_1128 (by decide) rfl (fun _ => K σ1 τ1 S2 ok hx hm) (fun h => absurd (by rw [ex, em]) h)
theorem zlw_powers (C : zl_C p s m c b L xs G) (hs : sOK S) (X : RX σ S) (M : RM τ S) (hi : i + 5 ≤ L) (K : ∀ (σ2 τ2 : zz_T) (S2 : zSt), sOK S2 → RX σ2 S2 → RM τ2 S2 → zl_V p l e s m below meth c b G fx fm σ2 τ2 i 1453 []) : zl_V p l e s m below meth c b G fx fm σ τ i 1133 [] := by
  obtain ⟨r, S2, ok, px, pm⟩ := b_powers hs X M (xs (i + 1))
  refine zc_aload_n C.1 dL_law_1133 2 rfl rfl rfl ?_
  refine zl_arg C (k := 1) (by omega) dL_law_1134 dL_law_1135 dL_law_1136 rfl dL_law_1137 dL_law_1138 ?_
  refine zl_x C [.int (xs (i + 1))] (fun hJ => kX5_powers l hJ _ rfl px) jl_L_135 ⟨rfl, rfl⟩ ⟨(Nat.le_of_ble_eq_true rfl), (Nat.le_of_ble_eq_true rfl)⟩ rfl rfl rfl (Nat.le_of_ble_eq_true rfl) dL_law_1139 rfl (fun rx σ1 hx => ?_)
  obtain ⟨ex, hx⟩ := hx
  refine zc_aload_n C.1 dL_law_1142 1 rfl rfl rfl ?_
  refine zl_arg C (k := 1) (by omega) dL_law_1143 dL_law_1144 dL_law_1145 rfl dL_law_1146 dL_law_1147 ?_
  refine zl_m C [.int (xs (i + 1))] (fun hJ => kX6_powers l hJ _ rfl pm) jl_L_138 ⟨rfl, rfl⟩ ⟨(Nat.le_of_ble_eq_true rfl), (Nat.le_of_ble_eq_true rfl)⟩ rfl rfl rfl (Nat.le_of_ble_eq_true rfl) dL_law_1148 rfl (fun rm τ1 hm => ?_)
  obtain ⟨em, hm⟩ := hm
  exact zc_icmp_eq (tgt := 1453) C.1 dL_law_1151 (by decide) rfl (fun _ => K σ1 τ1 S2 ok hx hm) (fun h => absurd (by rw [ex, em]) h)
theorem zlw_ask (C : zl_C p s m c b L xs G) (hs : sOK S) (X : RX σ S) (M : RM τ S) (hi : i + 5 ≤ L) (K : ∀ (σ2 τ2 : zz_T) (S2 : zSt), sOK S2 → RX σ2 S2 → RM τ2 S2 → zl_V p l e s m below meth c b G fx fm σ2 τ2 i 1453 []) : zl_V p l e s m below meth c b G fx fm σ τ i 1156 [] := by
  obtain ⟨r, S2, ok, px, pm⟩ := b_ask hs X M (xs (i + 1)) (xs (i + 2))
  refine zc_aload_n C.1 dL_law_1156 2 rfl rfl rfl ?_
  refine zl_arg C (k := 1) (by omega) dL_law_1157 dL_law_1158 dL_law_1159 rfl dL_law_1160 dL_law_1161 ?_
  refine zl_arg C (k := 2) (by omega) dL_law_1162 dL_law_1163 dL_law_1164 rfl dL_law_1165 dL_law_1166 ?_
  refine zl_x C [.int (xs (i + 1)), .int (xs (i + 2))] (fun hJ => kX5_ask l hJ _ _ rfl px) jl_L_139 ⟨rfl, rfl⟩ ⟨(Nat.le_of_ble_eq_true rfl), (Nat.le_of_ble_eq_true rfl)⟩ rfl rfl rfl (Nat.le_of_ble_eq_true rfl) dL_law_1167 rfl (fun rx σ1 hx => ?_)
  obtain ⟨ex, hx⟩ := hx
  refine zc_aload_n C.1 dL_law_1170 1 rfl rfl rfl ?_
  refine zl_arg C (k := 1) (by omega) dL_law_1171 dL_law_1172 dL_law_1173 rfl dL_law_1174 dL_law_1175 ?_
  refine zl_arg C (k := 2) (by omega) dL_law_1176 dL_law_1177 dL_law_1178 rfl dL_law_1179 dL_law_1180 ?_
  refine zl_m C [.int (xs (i + 1)), .int (xs (i + 2))] (fun hJ => kX6_ask l hJ _ _ rfl pm) jl_L_142 ⟨rfl, rfl⟩ ⟨(Nat.le_of_ble_eq_true rfl), (Nat.le_of_ble_eq_true rfl)⟩ rfl rfl rfl (Nat.le_of_ble_eq_true rfl) dL_law_1181 rfl (fun rm τ1 hm => ?_)
  obtain ⟨em, hm⟩ := hm
  exact zc_icmp_eq (tgt := 1453) C.1 dL_law_1184 (by decide) rfl (fun _ => K σ1 τ1 S2 ok hx hm) (fun h => absurd (by rw [ex, em]) h)
theorem zlw_drift (C : zl_C p s m c b L xs G) (hs : sOK S) (X : RX σ S) (M : RM τ S) (hi : i + 5 ≤ L) (K : ∀ (σ2 τ2 : zz_T) (S2 : zSt), sOK S2 → RX σ2 S2 → RM τ2 S2 → zl_V p l e s m below meth c b G fx fm σ2 τ2 i 1453 []) : zl_V p l e s m below meth c b G fx fm σ τ i 1189 [] := by
  obtain ⟨r, S2, ok, px, pm⟩ := b_drift hs X M (xs (i + 1)) (xs (i + 2)) (xs (i + 3))
  refine zc_aload_n C.1 dL_law_1189 2 rfl rfl rfl ?_
  refine zl_arg C (k := 1) (by omega) dL_law_1190 dL_law_1191 dL_law_1192 rfl dL_law_1193 dL_law_1194 ?_
  refine zl_arg C (k := 2) (by omega) dL_law_1195 dL_law_1196 dL_law_1197 rfl dL_law_1198 dL_law_1199 ?_
  refine zl_arg C (k := 3) (by omega) dL_law_1200 dL_law_1201 dL_law_1202 rfl dL_law_1203 dL_law_1204 ?_
  refine zl_x C [.int (xs (i + 1)), .int (xs (i + 2)), .int (xs (i + 3))] (fun hJ => kX5_drift l hJ _ _ _ rfl px) jl_L_143 ⟨rfl, rfl⟩ ⟨(Nat.le_of_ble_eq_true rfl), (Nat.le_of_ble_eq_true rfl)⟩ rfl rfl rfl (Nat.le_of_ble_eq_true rfl) dL_law_1205 rfl (fun rx σ1 hx => ?_)
  obtain ⟨ex, hx⟩ := hx
  refine zc_aload_n C.1 dL_law_1208 1 rfl rfl rfl ?_
  refine zl_arg C (k := 1) (by omega) dL_law_1209 dL_law_1210 dL_law_1211 rfl dL_law_1212 dL_law_1213 ?_
  refine zl_arg C (k := 2) (by omega) dL_law_1214 dL_law_1215 dL_law_1216 rfl dL_law_1217 dL_law_1218 ?_
  refine zl_arg C (k := 3) (by omega) dL_law_1219 dL_law_1220 dL_law_1221 rfl dL_law_1222 dL_law_1223 ?_
  refine zl_m C [.int (xs (i + 1)), .int (xs (i + 2)), .int (xs (i + 3))] (fun hJ => kX6_drift l hJ _ _ _ rfl pm) jl_L_146 ⟨rfl, rfl⟩ ⟨(Nat.le_of_ble_eq_true rfl), (Nat.le_of_ble_eq_true rfl)⟩ rfl rfl rfl (Nat.le_of_ble_eq_true rfl) dL_law_1224 rfl (fun rm τ1 hm => ?_)
  obtain ⟨em, hm⟩ := hm
  exact zc_icmp_eq (tgt := 1453) C.1 dL_law_1227 (by decide) rfl (fun _ => K σ1 τ1 S2 ok hx hm) (fun h => absurd (by rw [ex, em]) h)
theorem zlw_keep (C : zl_C p s m c b L xs G) (hs : sOK S) (X : RX σ S) (M : RM τ S) (hi : i + 5 ≤ L) (K : ∀ (σ2 τ2 : zz_T) (S2 : zSt), sOK S2 → RX σ2 S2 → RM τ2 S2 → zl_V p l e s m below meth c b G fx fm σ2 τ2 i 1453 []) : zl_V p l e s m below meth c b G fx fm σ τ i 1232 [] := by
  obtain ⟨r, S2, ok, px, pm⟩ := b_keep hs X M (xs (i + 1))
  refine zc_aload_n C.1 dL_law_1232 2 rfl rfl rfl ?_
  refine zl_arg C (k := 1) (by omega) dL_law_1233 dL_law_1234 dL_law_1235 rfl dL_law_1236 dL_law_1237 ?_
  refine zl_x C [.int (xs (i + 1))] (fun hJ => kX5_keep l hJ _ rfl px) jl_L_147 ⟨rfl, rfl⟩ ⟨(Nat.le_of_ble_eq_true rfl), (Nat.le_of_ble_eq_true rfl)⟩ rfl rfl rfl (Nat.le_of_ble_eq_true rfl) dL_law_1238 rfl (fun rx σ1 hx => ?_)
  obtain ⟨ex, hx⟩ := hx
  refine zc_aload_n C.1 dL_law_1241 1 rfl rfl rfl ?_
  refine zl_arg C (k := 1) (by omega) dL_law_1242 dL_law_1243 dL_law_1244 rfl dL_law_1245 dL_law_1246 ?_
  refine zl_m C [.int (xs (i + 1))] (fun hJ => kX6_keep l hJ _ rfl pm) jl_L_150 ⟨rfl, rfl⟩ ⟨(Nat.le_of_ble_eq_true rfl), (Nat.le_of_ble_eq_true rfl)⟩ rfl rfl rfl (Nat.le_of_ble_eq_true rfl) dL_law_1247 rfl (fun rm τ1 hm => ?_)
  obtain ⟨em, hm⟩ := hm
  exact zc_icmp_eq (tgt := 1453) C.1 dL_law_1250 (by decide) rfl (fun _ => K σ1 τ1 S2 ok hx hm) (fun h => absurd (by rw [ex, em]) h)
theorem zlw_back (C : zl_C p s m c b L xs G) (hs : sOK S) (X : RX σ S) (M : RM τ S) (hi : i + 5 ≤ L) (K : ∀ (σ2 τ2 : zz_T) (S2 : zSt), sOK S2 → RX σ2 S2 → RM τ2 S2 → zl_V p l e s m below meth c b G fx fm σ2 τ2 i 1453 []) : zl_V p l e s m below meth c b G fx fm σ τ i 1255 [] := by
  obtain ⟨r, S2, ok, px, pm⟩ := b_back hs X M (xs (i + 1))
  refine zc_aload_n C.1 dL_law_1255 2 rfl rfl rfl ?_
  refine zl_arg C (k := 1) (by omega) dL_law_1256 dL_law_1257 dL_law_1258 rfl dL_law_1259 dL_law_1260 ?_
  refine zl_x C [.int (xs (i + 1))] (fun hJ => kX5_back l hJ _ rfl px) jl_L_151 ⟨rfl, rfl⟩ ⟨(Nat.le_of_ble_eq_true rfl), (Nat.le_of_ble_eq_true rfl)⟩ rfl rfl rfl (Nat.le_of_ble_eq_true rfl) dL_law_1261 rfl (fun rx σ1 hx => ?_)
  obtain ⟨ex, hx⟩ := hx
  refine zc_aload_n C.1 dL_law_1264 1 rfl rfl rfl ?_
  refine zl_arg C (k := 1) (by omega) dL_law_1265 dL_law_1266 dL_law_1267 rfl dL_law_1268 dL_law_1269 ?_
  refine zl_m C [.int (xs (i + 1))] (fun hJ => kX6_back l hJ _ rfl pm) jl_L_154 ⟨rfl, rfl⟩ ⟨(Nat.le_of_ble_eq_true rfl), (Nat.le_of_ble_eq_true rfl)⟩ rfl rfl rfl (Nat.le_of_ble_eq_true rfl) dL_law_1270 rfl (fun rm τ1 hm => ?_)
  obtain ⟨em, hm⟩ := hm
  exact zc_icmp_eq (tgt := 1453) C.1 dL_law_1273 (by decide) rfl (fun _ => K σ1 τ1 S2 ok hx hm) (fun h => absurd (by rw [ex, em]) h)
theorem zlw_sheet (C : zl_C p s m c b L xs G) (hs : sOK S) (X : RX σ S) (M : RM τ S) (hi : i + 5 ≤ L) (K : ∀ (σ2 τ2 : zz_T) (S2 : zSt), sOK S2 → RX σ2 S2 → RM τ2 S2 → zl_V p l e s m below meth c b G fx fm σ2 τ2 i 1453 []) : zl_V p l e s m below meth c b G fx fm σ τ i 1278 [] := by
  obtain ⟨r, S2, ok, px, pm⟩ := b_sheet hs X M (xs (i + 1)) (xs (i + 2)) (xs (i + 3))
  refine zc_aload_n C.1 dL_law_1278 2 rfl rfl rfl ?_
  refine zl_arg C (k := 1) (by omega) dL_law_1279 dL_law_1280 dL_law_1281 rfl dL_law_1282 dL_law_1283 ?_
  refine zl_arg C (k := 2) (by omega) dL_law_1284 dL_law_1285 dL_law_1286 rfl dL_law_1287 dL_law_1288 ?_
  refine zl_arg C (k := 3) (by omega) dL_law_1289 dL_law_1290 dL_law_1291 rfl dL_law_1292 dL_law_1293 ?_
  refine zl_x C [.int (xs (i + 1)), .int (xs (i + 2)), .int (xs (i + 3))] (fun hJ => kX5_sheet l hJ _ _ _ rfl px) jl_L_155 ⟨rfl, rfl⟩ ⟨(Nat.le_of_ble_eq_true rfl), (Nat.le_of_ble_eq_true rfl)⟩ rfl rfl rfl (Nat.le_of_ble_eq_true rfl) dL_law_1294 rfl (fun rx σ1 hx => ?_)
  obtain ⟨ex, hx⟩ := hx
  refine zc_aload_n C.1 dL_law_1297 1 rfl rfl rfl ?_
  refine zl_arg C (k := 1) (by omega) dL_law_1298 dL_law_1299 dL_law_1300 rfl dL_law_1301 dL_law_1302 ?_
  refine zl_arg C (k := 2) (by omega) dL_law_1303 dL_law_1304 dL_law_1305 rfl dL_law_1306 dL_law_1307 ?_
  refine zl_arg C (k := 3) (by omega) dL_law_1308 dL_law_1309 dL_law_1310 rfl dL_law_1311 dL_law_1312 ?_
  refine zl_m C [.int (xs (i + 1)), .int (xs (i + 2)), .int (xs (i + 3))] (fun hJ => kX6_sheet l hJ _ _ _ rfl pm) jl_L_158 ⟨rfl, rfl⟩ ⟨(Nat.le_of_ble_eq_true rfl), (Nat.le_of_ble_eq_true rfl)⟩ rfl rfl rfl (Nat.le_of_ble_eq_true rfl) dL_law_1313 rfl (fun rm τ1 hm => ?_)
  obtain ⟨em, hm⟩ := hm
  exact zc_icmp_eq (tgt := 1453) C.1 dL_law_1316 (by decide) rfl (fun _ => K σ1 τ1 S2 ok hx hm) (fun h => absurd (by rw [ex, em]) h)
theorem zlw_lay (C : zl_C p s m c b L xs G) (hs : sOK S) (X : RX σ S) (M : RM τ S) (hi : i + 5 ≤ L) (K : ∀ (σ2 τ2 : zz_T) (S2 : zSt), sOK S2 → RX σ2 S2 → RM τ2 S2 → zl_V p l e s m below meth c b G fx fm σ2 τ2 i 1453 []) : zl_V p l e s m below meth c b G fx fm σ τ i 1321 [] := by
  obtain ⟨r, S2, ok, px, pm⟩ := b_lay hs X M (xs (i + 1)) (xs (i + 2)) (xs (i + 3))
  refine zc_aload_n C.1 dL_law_1321 2 rfl rfl rfl ?_
  refine zl_arg C (k := 1) (by omega) dL_law_1322 dL_law_1323 dL_law_1324 rfl dL_law_1325 dL_law_1326 ?_
  refine zl_arg C (k := 2) (by omega) dL_law_1327 dL_law_1328 dL_law_1329 rfl dL_law_1330 dL_law_1331 ?_
  refine zl_arg C (k := 3) (by omega) dL_law_1332 dL_law_1333 dL_law_1334 rfl dL_law_1335 dL_law_1336 ?_
  refine zl_x C [.int (xs (i + 1)), .int (xs (i + 2)), .int (xs (i + 3))] (fun hJ => kX5_lay l hJ _ _ _ rfl px) jl_L_159 ⟨rfl, rfl⟩ ⟨(Nat.le_of_ble_eq_true rfl), (Nat.le_of_ble_eq_true rfl)⟩ rfl rfl rfl (Nat.le_of_ble_eq_true rfl) dL_law_1337 rfl (fun rx σ1 hx => ?_)
  obtain ⟨ex, hx⟩ := hx
  refine zc_aload_n C.1 dL_law_1340 1 rfl rfl rfl ?_
  refine zl_arg C (k := 1) (by omega) dL_law_1341 dL_law_1342 dL_law_1343 rfl dL_law_1344 dL_law_1345 ?_
  refine zl_arg C (k := 2) (by omega) dL_law_1346 dL_law_1347 dL_law_1348 rfl dL_law_1349 dL_law_1350 ?_
  refine zl_arg C (k := 3) (by omega) dL_law_1351 dL_law_1352 dL_law_1353 rfl dL_law_1354 dL_law_1355 ?_
  refine zl_m C [.int (xs (i + 1)), .int (xs (i + 2)), .int (xs (i + 3))] (fun hJ => kX6_lay l hJ _ _ _ rfl pm) jl_L_162 ⟨rfl, rfl⟩ ⟨(Nat.le_of_ble_eq_true rfl), (Nat.le_of_ble_eq_true rfl)⟩ rfl rfl rfl (Nat.le_of_ble_eq_true rfl) dL_law_1356 rfl (fun rm τ1 hm => ?_)
  obtain ⟨em, hm⟩ := hm
  exact zc_icmp_eq (tgt := 1453) C.1 dL_law_1359 (by decide) rfl (fun _ => K σ1 τ1 S2 ok hx hm) (fun h => absurd (by rw [ex, em]) h)
theorem zlw_read (C : zl_C p s m c b L xs G) (hs : sOK S) (X : RX σ S) (M : RM τ S) (hi : i + 5 ≤ L) (K : ∀ (σ2 τ2 : zz_T) (S2 : zSt), sOK S2 → RX σ2 S2 → RM τ2 S2 → zl_V p l e s m below meth c b G fx fm σ2 τ2 i 1453 []) : zl_V p l e s m below meth c b G fx fm σ τ i 1364 [] := by
  obtain ⟨r, S2, ok, px, pm⟩ := b_read hs X M (xs (i + 1)) (xs (i + 2)) (xs (i + 3)) (xs (i + 4))
  refine zc_aload_n C.1 dL_law_1364 2 rfl rfl rfl ?_
  refine zl_arg C (k := 1) (by omega) dL_law_1365 dL_law_1366 dL_law_1367 rfl dL_law_1368 dL_law_1369 ?_
  refine zl_arg C (k := 2) (by omega) dL_law_1370 dL_law_1371 dL_law_1372 rfl dL_law_1373 dL_law_1374 ?_
  refine zl_arg C (k := 3) (by omega) dL_law_1375 dL_law_1376 dL_law_1377 rfl dL_law_1378 dL_law_1379 ?_
  refine zl_arg C (k := 4) (by omega) dL_law_1380 dL_law_1381 dL_law_1382 rfl dL_law_1383 dL_law_1384 ?_
  refine zl_x C [.int (xs (i + 1)), .int (xs (i + 2)), .int (xs (i + 3)), .int (xs (i + 4))] (fun hJ => kX5_read l hJ _ _ _ _ rfl px) jl_L_163 ⟨rfl, rfl⟩ ⟨(Nat.le_of_ble_eq_true rfl), (Nat.le_of_ble_eq_true rfl)⟩ rfl rfl rfl (Nat.le_of_ble_eq_true rfl) dL_law_1385 rfl (fun rx σ1 hx => ?_)
  obtain ⟨ex, hx⟩ := hx
  refine zc_aload_n C.1 dL_law_1388 1 rfl rfl rfl ?_
  refine zl_arg C (k := 1) (by omega) dL_law_1389 dL_law_1390 dL_law_1391 rfl dL_law_1392 dL_law_1393 ?_
  refine zl_arg C (k := 2) (by omega) dL_law_1394 dL_law_1395 dL_law_1396 rfl dL_law_1397 dL_law_1398 ?_
  refine zl_arg C (k := 3) (by omega) dL_law_1399 dL_law_1400 dL_law_1401 rfl dL_law_1402 dL_law_1403 ?_
  refine zl_arg C (k := 4) (by omega) dL_law_1404 dL_law_1405 dL_law_1406 rfl dL_law_1407 dL_law_1408 ?_
  refine zl_m C [.int (xs (i + 1)), .int (xs (i + 2)), .int (xs (i + 3)), .int (xs (i + 4))] (fun hJ => kX6_read l hJ _ _ _ _ rfl pm) jl_L_167 ⟨rfl, rfl⟩ ⟨(Nat.le_of_ble_eq_true rfl), (Nat.le_of_ble_eq_true rfl)⟩ rfl rfl rfl (Nat.le_of_ble_eq_true rfl) dL_law_1409 rfl (fun rm τ1 hm => ?_)
  obtain ⟨em, hm⟩ := hm
  exact zc_icmp_eq (tgt := 1453) C.1 dL_law_1412 (by decide) rfl (fun _ => K σ1 τ1 S2 ok hx hm) (fun h => absurd (by rw [ex, em]) h)
theorem zlw_torn (C : zl_C p s m c b L xs G) (hs : sOK S) (X : RX σ S) (M : RM τ S) (hi : i + 5 ≤ L) (K : ∀ (σ2 τ2 : zz_T) (S2 : zSt), sOK S2 → RX σ2 S2 → RM τ2 S2 → zl_V p l e s m below meth c b G fx fm σ2 τ2 i 1453 []) : zl_V p l e s m below meth c b G fx fm σ τ i 1417 [] := by
  obtain ⟨r, S2, ok, px, pm⟩ := b_torn hs X M 
  refine zc_aload_n C.1 dL_law_1417 2 rfl rfl rfl ?_
  refine zl_x C [] (fun hJ => kX5_torn l hJ  rfl px) jl_L_168 ⟨rfl, rfl⟩ ⟨(Nat.le_of_ble_eq_true rfl), (Nat.le_of_ble_eq_true rfl)⟩ rfl rfl rfl (Nat.le_of_ble_eq_true rfl) dL_law_1418 rfl (fun rx σ1 hx => ?_)
  obtain ⟨ex, hx⟩ := hx
  refine zc_aload_n C.1 dL_law_1421 1 rfl rfl rfl ?_
  refine zl_m C [] (fun hJ => kX6_torn l hJ  rfl pm) jl_L_171 ⟨rfl, rfl⟩ ⟨(Nat.le_of_ble_eq_true rfl), (Nat.le_of_ble_eq_true rfl)⟩ rfl rfl rfl (Nat.le_of_ble_eq_true rfl) dL_law_1422 rfl (fun rm τ1 hm => ?_)
  obtain ⟨em, hm⟩ := hm
  exact zc_icmp_eq (tgt := 1453) C.1 dL_law_1425 (by decide) rfl (fun _ => K σ1 τ1 S2 ok hx hm) (fun h => absurd (by rw [ex, em]) h)
theorem zlw_count (C : zl_C p s m c b L xs G) (hs : sOK S) (X : RX σ S) (M : RM τ S) (hi : i + 5 ≤ L) (K : ∀ (σ2 τ2 : zz_T) (S2 : zSt), sOK S2 → RX σ2 S2 → RM τ2 S2 → zl_V p l e s m below meth c b G fx fm σ2 τ2 i 1453 []) : zl_V p l e s m below meth c b G fx fm σ τ i 1430 [] := by
  obtain ⟨r, S2, ok, px, pm⟩ := b_count hs X M (xs (i + 1))
  refine zc_aload_n C.1 dL_law_1430 2 rfl rfl rfl ?_
  refine zl_arg C (k := 1) (by omega) dL_law_1431 dL_law_1432 dL_law_1433 rfl dL_law_1434 dL_law_1435 ?_
  refine zl_x C [.int (xs (i + 1))] (fun hJ => kX5_count l hJ _ rfl px) jl_L_172 ⟨rfl, rfl⟩ ⟨(Nat.le_of_ble_eq_true rfl), (Nat.le_of_ble_eq_true rfl)⟩ rfl rfl rfl (Nat.le_of_ble_eq_true rfl) dL_law_1436 rfl (fun rx σ1 hx => ?_)
  obtain ⟨ex, hx⟩ := hx
  refine zc_aload_n C.1 dL_law_1439 1 rfl rfl rfl ?_
  refine zl_arg C (k := 1) (by omega) dL_law_1440 dL_law_1441 dL_law_1442 rfl dL_law_1443 dL_law_1444 ?_
  refine zl_m C [.int (xs (i + 1))] (fun hJ => kX6_count l hJ _ rfl pm) jl_L_175 ⟨rfl, rfl⟩ ⟨(Nat.le_of_ble_eq_true rfl), (Nat.le_of_ble_eq_true rfl)⟩ rfl rfl rfl (Nat.le_of_ble_eq_true rfl) dL_law_1445 rfl (fun rm τ1 hm => ?_)
  obtain ⟨em, hm⟩ := hm
  exact zc_icmp_eq (tgt := 1453) C.1 dL_law_1448 (by decide) rfl (fun _ => K σ1 τ1 S2 ok hx hm) (fun h => absurd (by rw [ex, em]) h)
end ZL
