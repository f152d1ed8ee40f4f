section LAWC
variable {X : Cx} {ce sl i b L : Nat} {xs : Nat → Int32} {ad Q md : Nat → Nat} {kv : Value} {S M : MS} {K RC : va_W} {RD : RDt}
theorem law_out (hX : Ok X code 4 RL) (hL : Lw X b L xs) (hi : i + 6 ≤ L) (hc : ce + 20 ≤ 600000) (hs : sl + 2000 ≤ 7302250) (R : Rel RD S M) (hQ : ∀ q ∈ roL Q RD, q ∈ RC) (hK : KO X.E kv K RC M) (kk : Go X b ad md i ce sl) : G X 4 ce sl 828 (lvL b (ad 10) (md 0) i) [] (LW X.E ad Q kv S K RC md M) := by
  obtain ⟨v, S2, M2, h1, h2, R2, e1, e2⟩ := two_out R (xs (i + 1)) (xs (i + 2))
  refine g_aloadn hX 2 rfl rfl dL_828 ?_
  refine gl_arg hX hL (j := 1) (by decide) (by omega) dL_829 dL_830 dL_831 dL_832 dL_833 ?_
  refine gl_arg hX hL (j := 2) (by decide) (by omega) dL_834 dL_835 dL_836 dL_837 dL_838 ?_
  refine gl_x (v := v) (S2 := S2) (RD := RD) [.int (xs (i + 1)), .int (xs (i + 2))] hX hL.1 kwl_X11_out (c_X11_out R.rk h1) hQ (by decide) (by omega) (by omega) rfl rfl (Nat.le_of_ble_eq_true rfl) dL_839 ?_
  refine g_aloadn hX 1 rfl rfl dL_842 ?_
  refine gl_arg hX hL (j := 1) (by decide) (by omega) dL_843 dL_844 dL_845 dL_846 dL_847 ?_
  refine gl_arg hX hL (j := 2) (by decide) (by omega) dL_848 dL_849 dL_850 dL_851 dL_852 ?_
  refine gl_m (M2 := M2) [.int (xs (i + 1)), .int (xs (i + 2))] hX hL.1 kwl_X12_out (c_X12_out h2) (by decide) (by omega) (by omega) rfl rfl (Nat.le_of_ble_eq_true rfl) dL_853 ?_
  exact g_icmp_eq hX 1398 (by decide) dL_856 (fun _ => g_widen (by omega) (by omega) (kk Q kv S2 M2 K RC RD R2 hQ (hK.go (fun _ h => h) e1 e2))) (fun c => absurd rfl c)
theorem law_when (hX : Ok X code 4 RL) (hL : Lw X b L xs) (hi : i + 6 ≤ L) (hc : ce + 20 ≤ 600000) (hs : sl + 2000 ≤ 7302250) (R : Rel RD S M) (hQ : ∀ q ∈ roL Q RD, q ∈ RC) (hK : KO X.E kv K RC M) (kk : Go X b ad md i ce sl) : G X 4 ce sl 861 (lvL b (ad 10) (md 0) i) [] (LW X.E ad Q kv S K RC md M) := by
  obtain ⟨v, S2, M2, h1, h2, R2, e1, e2⟩ := two_when R (xs (i + 1)) (xs (i + 2))
  refine g_aloadn hX 2 rfl rfl dL_861 ?_
  refine gl_arg hX hL (j := 1) (by decide) (by omega) dL_862 dL_863 dL_864 dL_865 dL_866 ?_
  refine gl_arg hX hL (j := 2) (by decide) (by omega) dL_867 dL_868 dL_869 dL_870 dL_871 ?_
  refine gl_x (v := v) (S2 := S2) (RD := RD) [.int (xs (i + 1)), .int (xs (i + 2))] hX hL.1 kwl_X11_when (c_X11_when R.rk h1) hQ (by decide) (by omega) (by omega) rfl rfl (Nat.le_of_ble_eq_true rfl) dL_872 ?_
  refine g_aloadn hX 1 rfl rfl dL_875 ?_
  refine gl_arg hX hL (j := 1) (by decide) (by omega) dL_876 dL_877 dL_878 dL_879 dL_880 ?_
  refine gl_arg hX hL (j := 2) (by decide) (by omega) dL_881 dL_882 dL_883 dL_884 dL_885 ?_
  refine gl_m (M2 := M2) [.int (xs (i + 1)), .int (xs (i + 2))] hX hL.1 kwl_X12_when (c_X12_when h2) (by decide) (by omega) (by omega) rfl rfl (Nat.le_of_ble_eq_true rfl) dL_886 ?_
  exact g_icmp_eq hX 1398 (by decide) dL_889 (fun _ => g_widen (by omega) (by omega) (kk Q kv S2 M2 K RC RD R2 hQ (hK.go (fun _ h => h) e1 e2))) (fun c => absurd rfl c)
theorem law_still (hX : Ok X code 4 RL) (hL : Lw X b L xs) (hi : i + 6 ≤ L) (hc : ce + 20 ≤ 600000) (hs : sl + 2000 ≤ 7302250) (R : Rel RD S M) (hQ : ∀ q ∈ roL Q RD, q ∈ RC) (hK : KO X.E kv K RC M) (kk : Go X b ad md i ce sl) : G X 4 ce sl 894 (lvL b (ad 10) (md 0) i) [] (LW X.E ad Q kv S K RC md M) := by
  obtain ⟨v, S2, M2, h1, h2, R2, e1, e2⟩ := two_still R 
  refine g_aloadn hX 2 rfl rfl dL_894 ?_
  refine gl_x (v := v) (S2 := S2) (RD := RD) [] hX hL.1 kwl_X11_still (c_X11_still R.rk h1) hQ (by decide) (by omega) (by omega) rfl rfl (Nat.le_of_ble_eq_true rfl) dL_895 ?_
  refine g_aloadn hX 1 rfl rfl dL_898 ?_
  refine gl_m (M2 := M2) [] hX hL.1 kwl_X12_still (c_X12_still h2) (by decide) (by omega) (by omega) rfl rfl (Nat.le_of_ble_eq_true rfl) dL_899 ?_
  exact g_icmp_eq hX 1398 (by decide) dL_902 (fun _ => g_widen (by omega) (by omega) (kk Q kv S2 M2 K RC RD R2 hQ (hK.go (fun _ h => h) e1 e2))) (fun c => absurd rfl c)
theorem law_then (hX : Ok X code 4 RL) (hL : Lw X b L xs) (hi : i + 6 ≤ L) (hc : ce + 20 ≤ 600000) (hs : sl + 2000 ≤ 7302250) (R : Rel RD S M) (hQ : ∀ q ∈ roL Q RD, q ∈ RC) (hK : KO X.E kv K RC M) (kk : Go X b ad md i ce sl) : G X 4 ce sl 907 (lvL b (ad 10) (md 0) i) [] (LW X.E ad Q kv S K RC md M) := by
  obtain ⟨v, S2, M2, h1, h2, R2, e1, e2⟩ := two_then R (xs (i + 1))
  refine g_aloadn hX 2 rfl rfl dL_907 ?_
  refine gl_arg hX hL (j := 1) (by decide) (by omega) dL_908 dL_909 dL_910 dL_911 dL_912 ?_
  refine gl_x (v := v) (S2 := S2) (RD := RD) [.int (xs (i + 1))] hX hL.1 kwl_X11_then (c_X11_then R.rk h1) hQ (by decide) (by omega) (by omega) rfl rfl (Nat.le_of_ble_eq_true rfl) dL_913 ?_
  refine g_aloadn hX 1 rfl rfl dL_916 ?_
  refine gl_arg hX hL (j := 1) (by decide) (by omega) dL_917 dL_918 dL_919 dL_920 dL_921 ?_
  refine gl_m (M2 := M2) [.int (xs (i + 1))] hX hL.1 kwl_X12_then (c_X12_then h2) (by decide) (by omega) (by omega) rfl rfl (Nat.le_of_ble_eq_true rfl) dL_922 ?_
  exact g_icmp_eq hX 1398 (by decide) dL_925 (fun _ => g_widen (by omega) (by omega) (kk Q kv S2 M2 K RC RD R2 hQ (hK.go (fun _ h => h) e1 e2))) (fun c => absurd rfl c)
theorem law_believed (hX : Ok X code 4 RL) (hL : Lw X b L xs) (hi : i + 6 ≤ L) (hc : ce + 20 ≤ 600000) (hs : sl + 2000 ≤ 7302250) (R : Rel RD S M) (hQ : ∀ q ∈ roL Q RD, q ∈ RC) (hK : KO X.E kv K RC M) (kk : Go X b ad md i ce sl) : G X 4 ce sl 930 (lvL b (ad 10) (md 0) i) [] (LW X.E ad Q kv S K RC md M) := by
  obtain ⟨v, S2, M2, h1, h2, R2, e1, e2⟩ := two_believed R (xs (i + 1)) (xs (i + 2))
  refine g_aloadn hX 2 rfl rfl dL_930 ?_
  refine gl_arg hX hL (j := 1) (by decide) (by omega) dL_931 dL_932 dL_933 dL_934 dL_935 ?_
  refine gl_arg hX hL (j := 2) (by decide) (by omega) dL_936 dL_937 dL_938 dL_939 dL_940 ?_
  refine gl_x (v := v) (S2 := S2) (RD := RD) [.int (xs (i + 1)), .int (xs (i + 2))] hX hL.1 kwl_X11_believed (c_X11_believed R.rk h1) hQ (by decide) (by omega) (by omega) rfl rfl (Nat.le_of_ble_eq_true rfl) dL_941 ?_
  refine g_aloadn hX 1 rfl rfl dL_944 ?_
  refine gl_arg hX hL (j := 1) (by decide) (by omega) dL_945 dL_946 dL_947 dL_948 dL_949 ?_
  refine gl_arg hX hL (j := 2) (by decide) (by omega) dL_950 dL_951 dL_952 dL_953 dL_954 ?_
  refine gl_m (M2 := M2) [.int (xs (i + 1)), .int (xs (i + 2))] hX hL.1 kwl_X12_believed (c_X12_believed h2) (by decide) (by omega) (by omega) rfl rfl (Nat.le_of_ble_eq_true rfl) dL_955 ?_
  exact g_icmp_eq hX 1398 (by decide) dL_958 (fun _ => g_widen (by omega) (by omega) (kk Q kv S2 M2 K RC RD R2 hQ (hK.go (fun _ h => h) e1 e2))) (fun c => absurd rfl c)
theorem law_word (hX : Ok X code 4 RL) (hL : Lw X b L xs) (hi : i + 6 ≤ L) (hc : ce + 20 ≤ 600000) (hs : sl + 2000 ≤ 7302250) (R : Rel RD S M) (hQ : ∀ q ∈ roL Q RD, q ∈ RC) (hK : KO X.E kv K RC M) (kk : Go X b ad md i ce sl) : G X 4 ce sl 963 (lvL b (ad 10) (md 0) i) [] (LW X.E ad Q kv S K RC md M) := by
  obtain ⟨v, S2, M2, h1, h2, R2, e1, e2⟩ := two_word R (xs (i + 1)) (xs (i + 2)) (xs (i + 3))
  refine g_aloadn hX 2 rfl rfl dL_963 ?_
  refine gl_arg hX hL (j := 1) (by decide) (by omega) dL_964 dL_965 dL_966 dL_967 dL_968 ?_
  refine gl_arg hX hL (j := 2) (by decide) (by omega) dL_969 dL_970 dL_971 dL_972 dL_973 ?_
  refine gl_arg hX hL (j := 3) (by decide) (by omega) dL_974 dL_975 dL_976 dL_977 dL_978 ?_
  refine gl_x (v := v) (S2 := S2) (RD := RD) [.int (xs (i + 1)), .int (xs (i + 2)), .int (xs (i + 3))] hX hL.1 kwl_X11_word (c_X11_word R.rk h1) hQ (by decide) (by omega) (by omega) rfl rfl (Nat.le_of_ble_eq_true rfl) dL_979 ?_
  refine g_aloadn hX 1 rfl rfl dL_982 ?_
  refine gl_arg hX hL (j := 1) (by decide) (by omega) dL_983 dL_984 dL_985 dL_986 dL_987 ?_
  refine gl_arg hX hL (j := 2) (by decide) (by omega) dL_988 dL_989 dL_990 dL_991 dL_992 ?_
  refine gl_arg hX hL (j := 3) (by decide) (by omega) dL_993 dL_994 dL_995 dL_996 dL_997 ?_
  refine gl_m (M2 := M2) [.int (xs (i + 1)), .int (xs (i + 2)), .int (xs (i + 3))] hX hL.1 kwl_X12_word (c_X12_word h2) (by decide) (by omega) (by omega) rfl rfl (Nat.le_of_ble_eq_true rfl) dL_998 ?_
  exact g_icmp_eq hX 1398 (by decide) dL_1001 (fun _ => g_widen (by omega) (by omega) (kk Q kv S2 M2 K RC RD R2 hQ (hK.go (fun _ h => h) e1 e2))) (fun c => absurd rfl c)
theorem law_seed (hX : Ok X code 4 RL) (hL : Lw X b L xs) (hi : i + 6 ≤ L) (hc : ce + 20 ≤ 600000) (hs : sl + 2000 ≤ 7302250) (R : Rel RD S M) (hQ : ∀ q ∈ roL Q RD, q ∈ RC) (hK : KO X.E kv K RC M) (kk : Go X b ad md i ce sl) : G X 4 ce sl 1006 (lvL b (ad 10) (md 0) i) [] (LW X.E ad Q kv S K RC md M) := by
  obtain ⟨v, S2, M2, h1, h2, R2, e1, e2⟩ := two_seed R (xs (i + 1))
  refine g_aloadn hX 2 rfl rfl dL_1006 ?_
  refine gl_arg hX hL (j := 1) (by decide) (by omega) dL_1007 dL_1008 dL_1009 dL_1010 dL_1011 ?_
  refine gl_x (v := v) (S2 := S2) (RD := RD) [.int (xs (i + 1))] hX hL.1 kwl_X11_seed (c_X11_seed R.rk h1) hQ (by decide) (by omega) (by omega) rfl rfl (Nat.le_of_ble_eq_true rfl) dL_1012 ?_
  refine g_aloadn hX 1 rfl rfl dL_1015 ?_
  refine gl_arg hX hL (j := 1) (by decide) (by omega) dL_1016 dL_1017 dL_1018 dL_1019 dL_1020 ?_
  refine gl_m (M2 := M2) [.int (xs (i + 1))] hX hL.1 kwl_X12_seed (c_X12_seed h2) (by decide) (by omega) (by omega) rfl rfl (Nat.le_of_ble_eq_true rfl) dL_1021 ?_
  exact g_icmp_eq hX 1398 (by decide) dL_1024 (fun _ => g_widen (by omega) (by omega) (kk Q kv S2 M2 K RC RD R2 hQ (hK.go (fun _ h => h) e1 e2))) (fun c => absurd rfl c)
theorem law_voice (hX : Ok X code 4 RL) (hL : Lw X b L xs) (hi : i + 6 ≤ L) (hc : ce + 20 ≤ 600000) (hs : sl + 2000 ≤ 7302250) (R : Rel RD S M) (hQ : ∀ q ∈ roL Q RD, q ∈ RC) (hK : KO X.E kv K RC M) (kk : Go X b ad md i ce sl) : G X 4 ce sl 1029 (lvL b (ad 10) (md 0) i) [] (LW X.E ad Q kv S K RC md M) := by
  obtain ⟨v, S2, M2, h1, h2, R2, e1, e2⟩ := two_voice R (xs (i + 1)) (xs (i + 2)) (xs (i + 3))
  refine g_aloadn hX 2 rfl rfl dL_1029 ?_
  refine gl_arg hX hL (j := 1) (by decide) (by omega) dL_1030 dL_1031 dL_1032 dL_1033 dL_1034 ?_
  refine gl_arg hX hL (j := 2) (by decide) (by omega) dL_1035 dL_1036 dL_1037 dL_1038 dL_1039 ?_
  refine gl_arg hX hL (j := 3) (by decide) (by omega) dL_1040 dL_1041 dL_1042 dL_1043 dL_1044 ?_
  refine gl_x (v := v) (S2 := S2) (RD := RD) [.int (xs (i + 1)), .int (xs (i + 2)), .int (xs (i + 3))] hX hL.1 kwl_X11_voice (c_X11_voice R.rk h1) hQ (by decide) (by omega) (by omega) rfl rfl (Nat.le_of_ble_eq_true rfl) dL_1045 ?_
  refine g_aloadn hX 1 rfl rfl dL_1048 ?_
  refine gl_arg hX hL (j := 1) (by decide) (by omega) dL_1049 dL_1050 dL_1051 dL_1052 dL_1053 ?_
  refine gl_arg hX hL (j := 2) (by decide) (by omega) dL_1054 dL_1055 dL_1056 dL_1057 dL_1058 ?_
  refine gl_arg hX hL (j := 3) (by decide) (by omega) dL_1059 dL_1060 dL_1061 dL_1062 dL_1063 ?_
  refine gl_m (M2 := M2) [.int (xs (i + 1)), .int (xs (i + 2)), .int (xs (i + 3))] hX hL.1 kwl_X12_voice (c_X12_voice h2) (by decide) (by omega) (by omega) rfl rfl (Nat.le_of_ble_eq_true rfl) dL_1064 ?_
  exact g_icmp_eq hX 1398 (by decide) dL_1067 (fun _ => g_widen (by omega) (by omega) (kk Q kv S2 M2 K RC RD R2 hQ (hK.go (fun _ h => h) e1 e2))) (fun c => absurd rfl c)
theorem law_trace (hX : Ok X code 4 RL) (hL : Lw X b L xs) (hi : i + 6 ≤ L) (hc : ce + 20 ≤ 600000) (hs : sl + 2000 ≤ 7302250) (R : Rel RD S M) (hQ : ∀ q ∈ roL Q RD, q ∈ RC) (hK : KO X.E kv K RC M) (kk : Go X b ad md i ce sl) : G X 4 ce sl 1072 (lvL b (ad 10) (md 0) i) [] (LW X.E ad Q kv S K RC md M) := by
  obtain ⟨v, S2, M2, h1, h2, R2, e1, e2⟩ := two_trace R (xs (i + 1))
  refine g_aloadn hX 2 rfl rfl dL_1072 ?_
  refine gl_arg hX hL (j := 1) (by decide) (by omega) dL_1073 dL_1074 dL_1075 dL_1076 dL_1077 ?_
  refine gl_x (v := v) (S2 := S2) (RD := RD) [.int (xs (i + 1))] hX hL.1 kwl_X11_trace (c_X11_trace R.rk h1) hQ (by decide) (by omega) (by omega) rfl rfl (Nat.le_of_ble_eq_true rfl) dL_1078 ?_
  refine g_aloadn hX 1 rfl rfl dL_1081 ?_
  refine gl_arg hX hL (j := 1) (by decide) (by omega) dL_1082 dL_1083 dL_1084 dL_1085 dL_1086 ?_
  refine gl_m (M2 := M2) [.int (xs (i + 1))] hX hL.1 kwl_X12_trace (c_X12_trace h2) (by decide) (by omega) (by omega) rfl rfl (Nat.le_of_ble_eq_true rfl) dL_1087 ?_
  exact g_icmp_eq hX 1398 (by decide) dL_1090 (fun _ => g_widen (by omega) (by omega) (kk Q kv S2 M2 K RC RD R2 hQ (hK.go (fun _ h => h) e1 e2))) (fun c => absurd rfl c)
theorem law_sheet (hX : Ok X code 4 RL) (hL : Lw X b L xs) (hi : i + 6 ≤ L) (hc : ce + 20 ≤ 600000) (hs : sl + 2000 ≤ 7302250) (R : Rel RD S M) (hQ : ∀ q ∈ roL Q RD, q ∈ RC) (hK : KO X.E kv K RC M) (kk : Go X b ad md i ce sl) : G X 4 ce sl 1095 (lvL b (ad 10) (md 0) i) [] (LW X.E ad Q kv S K RC md M) := by
  obtain ⟨v, S2, M2, h1, h2, R2, e1, e2⟩ := two_sheet R (xs (i + 1)) (xs (i + 2)) (xs (i + 3))
  refine g_aloadn hX 2 rfl rfl dL_1095 ?_
  refine gl_arg hX hL (j := 1) (by decide) (by omega) dL_1096 dL_1097 dL_1098 dL_1099 dL_1100 ?_
  refine gl_arg hX hL (j := 2) (by decide) (by omega) dL_1101 dL_1102 dL_1103 dL_1104 dL_1105 ?_
  refine gl_arg hX hL (j := 3) (by decide) (by omega) dL_1106 dL_1107 dL_1108 dL_1109 dL_1110 ?_
  refine gl_x (v := v) (S2 := S2) (RD := RD) [.int (xs (i + 1)), .int (xs (i + 2)), .int (xs (i + 3))] hX hL.1 kwl_X11_sheet (c_X11_sheet R.rk h1) hQ (by decide) (by omega) (by omega) rfl rfl (Nat.le_of_ble_eq_true rfl) dL_1111 ?_
  refine g_aloadn hX 1 rfl rfl dL_1114 ?_
  refine gl_arg hX hL (j := 1) (by decide) (by omega) dL_1115 dL_1116 dL_1117 dL_1118 dL_1119 ?_
  refine gl_arg hX hL (j := 2) (by decide) (by omega) dL_1120 dL_1121 dL_1122 dL_1123 dL_1124 ?_
  refine gl_arg hX hL (j := 3) (by decide) (by omega) dL_1125 dL_1126 dL_1127 dL_1128 dL_1129 ?_
  refine gl_m (M2 := M2) [.int (xs (i + 1)), .int (xs (i + 2)), .int (xs (i + 3))] hX hL.1 kwl_X12_sheet (c_X12_sheet h2) (by decide) (by omega) (by omega) rfl rfl (Nat.le_of_ble_eq_true rfl) dL_1130 ?_
  exact g_icmp_eq hX 1398 (by decide) dL_1133 (fun _ => g_widen (by omega) (by omega) (kk Q kv S2 M2 K RC RD R2 hQ (hK.go (fun _ h => h) e1 e2))) (fun c => absurd rfl c)
theorem law_put (hX : Ok X code 4 RL) (hL : Lw X b L xs) (hi : i + 6 ≤ L) (hc : ce + 20 ≤ 600000) (hs : sl + 2000 ≤ 7302250) (R : Rel RD S M) (hQ : ∀ q ∈ roL Q RD, q ∈ RC) (hK : KO X.E kv K RC M) (kk : Go X b ad md i ce sl) : G X 4 ce sl 1138 (lvL b (ad 10) (md 0) i) [] (LW X.E ad Q kv S K RC md M) := by
  obtain ⟨v, S2, M2, h1, h2, R2, e1, e2⟩ := two_put R (xs (i + 1)) (xs (i + 2)) (xs (i + 3))
  refine g_aloadn hX 2 rfl rfl dL_1138 ?_
  refine gl_arg hX hL (j := 1) (by decide) (by omega) dL_1139 dL_1140 dL_1141 dL_1142 dL_1143 ?_
  refine gl_arg hX hL (j := 2) (by decide) (by omega) dL_1144 dL_1145 dL_1146 dL_1147 dL_1148 ?_
  refine gl_arg hX hL (j := 3) (by decide) (by omega) dL_1149 dL_1150 dL_1151 dL_1152 dL_1153 ?_
  refine gl_x (v := v) (S2 := S2) (RD := RD) [.int (xs (i + 1)), .int (xs (i + 2)), .int (xs (i + 3))] hX hL.1 kwl_X11_put (c_X11_put R.rk h1) hQ (by decide) (by omega) (by omega) rfl rfl (Nat.le_of_ble_eq_true rfl) dL_1154 ?_
  refine g_aloadn hX 1 rfl rfl dL_1157 ?_
  refine gl_arg hX hL (j := 1) (by decide) (by omega) dL_1158 dL_1159 dL_1160 dL_1161 dL_1162 ?_
  refine gl_arg hX hL (j := 2) (by decide) (by omega) dL_1163 dL_1164 dL_1165 dL_1166 dL_1167 ?_
  refine gl_arg hX hL (j := 3) (by decide) (by omega) dL_1168 dL_1169 dL_1170 dL_1171 dL_1172 ?_
  refine gl_m (M2 := M2) [.int (xs (i + 1)), .int (xs (i + 2)), .int (xs (i + 3))] hX hL.1 kwl_X12_put (c_X12_put h2) (by decide) (by omega) (by omega) rfl rfl (Nat.le_of_ble_eq_true rfl) dL_1173 ?_
  exact g_icmp_eq hX 1398 (by decide) dL_1176 (fun _ => g_widen (by omega) (by omega) (kk Q kv S2 M2 K RC RD R2 hQ (hK.go (fun _ h => h) e1 e2))) (fun c => absurd rfl c)
theorem law_move (hX : Ok X code 4 RL) (hL : Lw X b L xs) (hi : i + 6 ≤ L) (hc : ce + 20 ≤ 600000) (hs : sl + 2000 ≤ 7302250) (R : Rel RD S M) (hQ : ∀ q ∈ roL Q RD, q ∈ RC) (hK : KO X.E kv K RC M) (kk : Go X b ad md i ce sl) : G X 4 ce sl 1181 (lvL b (ad 10) (md 0) i) [] (LW X.E ad Q kv S K RC md M) := by
  obtain ⟨v, S2, M2, h1, h2, R2, e1, e2⟩ := two_move R (xs (i + 1)) (xs (i + 2)) (xs (i + 3)) (xs (i + 4)) (xs (i + 5))
  refine g_aloadn hX 2 rfl rfl dL_1181 ?_
  refine gl_arg hX hL (j := 1) (by decide) (by omega) dL_1182 dL_1183 dL_1184 dL_1185 dL_1186 ?_
  refine gl_arg hX hL (j := 2) (by decide) (by omega) dL_1187 dL_1188 dL_1189 dL_1190 dL_1191 ?_
  refine gl_arg hX hL (j := 3) (by decide) (by omega) dL_1192 dL_1193 dL_1194 dL_1195 dL_1196 ?_
  refine gl_arg hX hL (j := 4) (by decide) (by omega) dL_1197 dL_1198 dL_1199 dL_1200 dL_1201 ?_
  refine gl_arg hX hL (j := 5) (by decide) (by omega) dL_1202 dL_1203 dL_1204 dL_1205 dL_1206 ?_
  refine gl_x (v := v) (S2 := S2) (RD := RD) [.int (xs (i + 1)), .int (xs (i + 2)), .int (xs (i + 3)), .int (xs (i + 4)), .int (xs (i + 5))] hX hL.1 kwl_X11_move (c_X11_move R.rk h1) hQ (by decide) (by omega) (by omega) rfl rfl (Nat.le_of_ble_eq_true rfl) dL_1207 ?_
  refine g_aloadn hX 1 rfl rfl dL_1210 ?_
  refine gl_arg hX hL (j := 1) (by decide) (by omega) dL_1211 dL_1212 dL_1213 dL_1214 dL_1215 ?_
  refine gl_arg hX hL (j := 2) (by decide) (by omega) dL_1216 dL_1217 dL_1218 dL_1219 dL_1220 ?_
  refine gl_arg hX hL (j := 3) (by decide) (by omega) dL_1221 dL_1222 dL_1223 dL_1224 dL_1225 ?_
  refine gl_arg hX hL (j := 4) (by decide) (by omega) dL_1226 dL_1227 dL_1228 dL_1229 dL_1230 ?_
  refine gl_arg hX hL (j := 5) (by decide) (by omega) dL_1231 dL_1232 dL_1233 dL_1234 dL_1235 ?_
  refine gl_m (M2 := M2) [.int (xs (i + 1)), .int (xs (i + 2)), .int (xs (i + 3)), .int (xs (i + 4)), .int (xs (i + 5))] hX hL.1 kwl_X12_move (c_X12_move h2) (by decide) (by omega) (by omega) rfl rfl (Nat.le_of_ble_eq_true rfl) dL_1236 ?_
  exact g_icmp_eq hX 1398 (by decide) dL_1239 (fun _ => g_widen (by omega) (by omega) (kk Q kv S2 M2 K RC RD R2 hQ (hK.go (fun _ h => h) e1 e2))) (fun c => absurd rfl c)
theorem law_stories (hX : Ok X code 4 RL) (hL : Lw X b L xs) (hi : i + 6 ≤ L) (hc : ce + 20 ≤ 600000) (hs : sl + 2000 ≤ 7302250) (R : Rel RD S M) (hQ : ∀ q ∈ roL Q RD, q ∈ RC) (hK : KO X.E kv K RC M) (kk : Go X b ad md i ce sl) : G X 4 ce sl 1244 (lvL b (ad 10) (md 0) i) [] (LW X.E ad Q kv S K RC md M) := by
  obtain ⟨v, S2, M2, h1, h2, R2, e1, e2⟩ := two_stories R (xs (i + 1))
  refine g_aloadn hX 2 rfl rfl dL_1244 ?_
  refine gl_arg hX hL (j := 1) (by decide) (by omega) dL_1245 dL_1246 dL_1247 dL_1248 dL_1249 ?_
  refine gl_x (v := v) (S2 := S2) (RD := RD) [.int (xs (i + 1))] hX hL.1 kwl_X11_stories (c_X11_stories R.rk h1) hQ (by decide) (by omega) (by omega) rfl rfl (Nat.le_of_ble_eq_true rfl) dL_1250 ?_
  refine g_aloadn hX 1 rfl rfl dL_1253 ?_
  refine gl_arg hX hL (j := 1) (by decide) (by omega) dL_1254 dL_1255 dL_1256 dL_1257 dL_1258 ?_
  refine gl_m (M2 := M2) [.int (xs (i + 1))] hX hL.1 kwl_X12_stories (c_X12_stories h2) (by decide) (by omega) (by omega) rfl rfl (Nat.le_of_ble_eq_true rfl) dL_1259 ?_
  exact g_icmp_eq hX 1398 (by decide) dL_1262 (fun _ => g_widen (by omega) (by omega) (kk Q kv S2 M2 K RC RD R2 hQ (hK.go (fun _ h => h) e1 e2))) (fun c => absurd rfl c)
theorem law_judge (hX : Ok X code 4 RL) (hL : Lw X b L xs) (hi : i + 6 ≤ L) (hc : ce + 20 ≤ 600000) (hs : sl + 2000 ≤ 7302250) (R : Rel RD S M) (hQ : ∀ q ∈ roL Q RD, q ∈ RC) (hK : KO X.E kv K RC M) (kk : Go X b ad md i ce sl) : G X 4 ce sl 1267 (lvL b (ad 10) (md 0) i) [] (LW X.E ad Q kv S K RC md M) := by
  obtain ⟨v, S2, M2, h1, h2, R2, e1, e2⟩ := two_judge R (xs (i + 1))
  refine g_aloadn hX 2 rfl rfl dL_1267 ?_
  refine gl_arg hX hL (j := 1) (by decide) (by omega) dL_1268 dL_1269 dL_1270 dL_1271 dL_1272 ?_
  refine gl_x (v := v) (S2 := S2) (RD := RD) [.int (xs (i + 1))] hX hL.1 kwl_X11_judge (c_X11_judge R.rk h1) hQ (by decide) (by omega) (by omega) rfl rfl (Nat.le_of_ble_eq_true rfl) dL_1273 ?_
  refine g_aloadn hX 1 rfl rfl dL_1276 ?_
  refine gl_arg hX hL (j := 1) (by decide) (by omega) dL_1277 dL_1278 dL_1279 dL_1280 dL_1281 ?_
  refine gl_m (M2 := M2) [.int (xs (i + 1))] hX hL.1 kwl_X12_judge (c_X12_judge h2) (by decide) (by omega) (by omega) rfl rfl (Nat.le_of_ble_eq_true rfl) dL_1282 ?_
  exact g_icmp_eq hX 1398 (by decide) dL_1285 (fun _ => g_widen (by omega) (by omega) (kk Q kv S2 M2 K RC RD R2 hQ (hK.go (fun _ h => h) e1 e2))) (fun c => absurd rfl c)
theorem law_tell (hX : Ok X code 4 RL) (hL : Lw X b L xs) (hi : i + 6 ≤ L) (hc : ce + 20 ≤ 600000) (hs : sl + 2000 ≤ 7302250) (R : Rel RD S M) (hQ : ∀ q ∈ roL Q RD, q ∈ RC) (hK : KO X.E kv K RC M) (kk : Go X b ad md i ce sl) : G X 4 ce sl 1316 (lvL b (ad 10) (md 0) i) [] (LW X.E ad Q kv S K RC md M) := by
  obtain ⟨v, S2, M2, h1, h2, R2, e1, e2⟩ := two_tell R (xs (i + 1))
  refine g_aloadn hX 2 rfl rfl dL_1316 ?_
  refine gl_arg hX hL (j := 1) (by decide) (by omega) dL_1317 dL_1318 dL_1319 dL_1320 dL_1321 ?_
  refine gl_x (v := v) (S2 := S2) (RD := RD) [.int (xs (i + 1))] hX hL.1 kwl_X11_tell (c_X11_tell R.rk h1) hQ (by decide) (by omega) (by omega) rfl rfl (Nat.le_of_ble_eq_true rfl) dL_1322 ?_
  refine g_aloadn hX 1 rfl rfl dL_1325 ?_
  refine gl_arg hX hL (j := 1) (by decide) (by omega) dL_1326 dL_1327 dL_1328 dL_1329 dL_1330 ?_
  refine gl_m (M2 := M2) [.int (xs (i + 1))] hX hL.1 kwl_X12_tell (c_X12_tell h2) (by decide) (by omega) (by omega) rfl rfl (Nat.le_of_ble_eq_true rfl) dL_1331 ?_
  exact g_icmp_eq hX 1398 (by decide) dL_1334 (fun _ => g_widen (by omega) (by omega) (kk Q kv S2 M2 K RC RD R2 hQ (hK.go (fun _ h => h) e1 e2))) (fun c => absurd rfl c)
theorem law_check (hX : Ok X code 4 RL) (hL : Lw X b L xs) (hi : i + 6 ≤ L) (hc : ce + 20 ≤ 600000) (hs : sl + 2000 ≤ 7302250) (R : Rel RD S M) (hQ : ∀ q ∈ roL Q RD, q ∈ RC) (hK : KO X.E kv K RC M) (kk : Go X b ad md i ce sl) : G X 4 ce sl 1339 (lvL b (ad 10) (md 0) i) [] (LW X.E ad Q kv S K RC md M) := by
  obtain ⟨v, S2, M2, h1, h2, R2, e1, e2⟩ := two_check R 
  refine g_aloadn hX 2 rfl rfl dL_1339 ?_
  refine gl_x (v := v) (S2 := S2) (RD := RD) [] hX hL.1 kwl_X11_check (c_X11_check R.rk h1) hQ (by decide) (by omega) (by omega) rfl rfl (Nat.le_of_ble_eq_true rfl) dL_1340 ?_
  refine g_aloadn hX 1 rfl rfl dL_1343 ?_
  refine gl_m (M2 := M2) [] hX hL.1 kwl_X12_check (c_X12_check h2) (by decide) (by omega) (by omega) rfl rfl (Nat.le_of_ble_eq_true rfl) dL_1344 ?_
  exact g_icmp_eq hX 1398 (by decide) dL_1347 (fun _ => g_widen (by omega) (by omega) (kk Q kv S2 M2 K RC RD R2 hQ (hK.go (fun _ h => h) e1 e2))) (fun c => absurd rfl c)
theorem law_count (hX : Ok X code 4 RL) (hL : Lw X b L xs) (hi : i + 6 ≤ L) (hc : ce + 20 ≤ 600000) (hs : sl + 2000 ≤ 7302250) (R : Rel RD S M) (hQ : ∀ q ∈ roL Q RD, q ∈ RC) (hK : KO X.E kv K RC M) (kk : Go X b ad md i ce sl) : G X 4 ce sl 1352 (lvL b (ad 10) (md 0) i) [] (LW X.E ad Q kv S K RC md M) := by
  obtain ⟨v, S2, M2, h1, h2, R2, e1, e2⟩ := two_count R (xs (i + 1))
  refine g_aloadn hX 2 rfl rfl dL_1352 ?_
  refine gl_arg hX hL (j := 1) (by decide) (by omega) dL_1353 dL_1354 dL_1355 dL_1356 dL_1357 ?_
  refine gl_x (v := v) (S2 := S2) (RD := RD) [.int (xs (i + 1))] hX hL.1 kwl_X11_count (c_X11_count R.rk h1) hQ (by decide) (by omega) (by omega) rfl rfl (Nat.le_of_ble_eq_true rfl) dL_1358 ?_
  refine g_aloadn hX 1 rfl rfl dL_1361 ?_
  refine gl_arg hX hL (j := 1) (by decide) (by omega) dL_1362 dL_1363 dL_1364 dL_1365 dL_1366 ?_
  refine gl_m (M2 := M2) [.int (xs (i + 1))] hX hL.1 kwl_X12_count (c_X12_count h2) (by decide) (by omega) (by omega) rfl rfl (Nat.le_of_ble_eq_true rfl) dL_1367 ?_
  exact g_icmp_eq hX 1398 (by decide) dL_1370 (fun _ => g_widen (by omega) (by omega) (kk Q kv S2 M2 K RC RD R2 hQ (hK.go (fun _ h => h) e1 e2))) (fun c => absurd rfl c)
theorem law_told (hX : Ok X code 4 RL) (hL : Lw X b L xs) (hi : i + 6 ≤ L) (hc : ce + 20 ≤ 600000) (hs : sl + 2000 ≤ 7302250) (R : Rel RD S M) (hQ : ∀ q ∈ roL Q RD, q ∈ RC) (hK : KO X.E kv K RC M) (kk : Go X b ad md i ce sl) : G X 4 ce sl 1375 (lvL b (ad 10) (md 0) i) [] (LW X.E ad Q kv S K RC md M) := by
  obtain ⟨v, S2, M2, h1, h2, R2, e1, e2⟩ := two_told R (xs (i + 1))
  refine g_aloadn hX 2 rfl rfl dL_1375 ?_
  refine gl_arg hX hL (j := 1) (by decide) (by omega) dL_1376 dL_1377 dL_1378 dL_1379 dL_1380 ?_
  refine gl_x (v := v) (S2 := S2) (RD := RD) [.int (xs (i + 1))] hX hL.1 kwl_X11_told (c_X11_told R.rk h1) hQ (by decide) (by omega) (by omega) rfl rfl (Nat.le_of_ble_eq_true rfl) dL_1381 ?_
  refine g_aloadn hX 1 rfl rfl dL_1384 ?_
  refine gl_arg hX hL (j := 1) (by decide) (by omega) dL_1385 dL_1386 dL_1387 dL_1388 dL_1389 ?_
  refine gl_m (M2 := M2) [.int (xs (i + 1))] hX hL.1 kwl_X12_told (c_X12_told h2) (by decide) (by omega) (by omega) rfl rfl (Nat.le_of_ble_eq_true rfl) dL_1390 ?_
  exact g_icmp_eq hX 1398 (by decide) dL_1393 (fun _ => g_widen (by omega) (by omega) (kk Q kv S2 M2 K RC RD R2 hQ (hK.go (fun _ h => h) e1 e2))) (fun c => absurd rfl c)
end LAWC
