/-! THE LAW: the cases of its switch (written by mk68.py) -/
theorem d_law_838 : decode code 838 = .ok (.aload_n 1, 1) := by decide +kernel
theorem d_law_839 : decode code 839 = .ok (.aload_n 0, 1) := by decide +kernel
theorem d_law_840 : decode code 840 = .ok (.iload_n 3, 1) := by decide +kernel
theorem d_law_841 : decode code 841 = .ok (.iconst 1, 1) := by decide +kernel
theorem d_law_842 : decode code 842 = .ok (.iadd, 1) := by decide +kernel
theorem d_law_843 : decode code 843 = .ok (.iaload, 1) := by decide +kernel
theorem d_law_844 : decode code 844 = .ok (.aload_n 0, 1) := by decide +kernel
theorem d_law_845 : decode code 845 = .ok (.iload_n 3, 1) := by decide +kernel
theorem d_law_846 : decode code 846 = .ok (.iconst 2, 1) := by decide +kernel
theorem d_law_847 : decode code 847 = .ok (.iadd, 1) := by decide +kernel
theorem d_law_848 : decode code 848 = .ok (.iaload, 1) := by decide +kernel
theorem d_law_849 : decode code 849 = .ok (.aload_n 0, 1) := by decide +kernel
theorem d_law_850 : decode code 850 = .ok (.iload_n 3, 1) := by decide +kernel
theorem d_law_851 : decode code 851 = .ok (.iconst 3, 1) := by decide +kernel
theorem d_law_852 : decode code 852 = .ok (.iadd, 1) := by decide +kernel
theorem d_law_853 : decode code 853 = .ok (.iaload, 1) := by decide +kernel
theorem d_law_854 : decode code 854 = .ok (.aload_n 0, 1) := by decide +kernel
theorem d_law_855 : decode code 855 = .ok (.iload_n 3, 1) := by decide +kernel
theorem d_law_856 : decode code 856 = .ok (.iconst 4, 1) := by decide +kernel
theorem d_law_857 : decode code 857 = .ok (.iadd, 1) := by decide +kernel
theorem d_law_858 : decode code 858 = .ok (.iaload, 1) := by decide +kernel
theorem d_law_859 : decode code 859 = .ok (.aload_n 0, 1) := by decide +kernel
theorem d_law_860 : decode code 860 = .ok (.iload_n 3, 1) := by decide +kernel
theorem d_law_861 : decode code 861 = .ok (.iconst 5, 1) := by decide +kernel
theorem d_law_862 : decode code 862 = .ok (.iadd, 1) := by decide +kernel
theorem d_law_863 : decode code 863 = .ok (.iaload, 1) := by decide +kernel
theorem d_law_864 : decode code 864 = .ok (.aload_n 0, 1) := by decide +kernel
theorem d_law_865 : decode code 865 = .ok (.iload_n 3, 1) := by decide +kernel
theorem d_law_866 : decode code 866 = .ok (.bipush 6, 2) := by decide +kernel
theorem d_law_868 : decode code 868 = .ok (.iadd, 1) := by decide +kernel
theorem d_law_869 : decode code 869 = .ok (.iaload, 1) := by decide +kernel
theorem d_law_870 : decode code 870 = .ok (.invokevirtual 102, 3) := by decide +kernel
theorem d_law_873 : decode code 873 = .ok (.aload_n 2, 1) := by decide +kernel
theorem d_law_874 : decode code 874 = .ok (.aload_n 0, 1) := by decide +kernel
theorem d_law_875 : decode code 875 = .ok (.iload_n 3, 1) := by decide +kernel
theorem d_law_876 : decode code 876 = .ok (.iconst 1, 1) := by decide +kernel
theorem d_law_877 : decode code 877 = .ok (.iadd, 1) := by decide +kernel
theorem d_law_878 : decode code 878 = .ok (.iaload, 1) := by decide +kernel
theorem d_law_879 : decode code 879 = .ok (.aload_n 0, 1) := by decide +kernel
theorem d_law_880 : decode code 880 = .ok (.iload_n 3, 1) := by decide +kernel
theorem d_law_881 : decode code 881 = .ok (.iconst 2, 1) := by decide +kernel
theorem d_law_882 : decode code 882 = .ok (.iadd, 1) := by decide +kernel
theorem d_law_883 : decode code 883 = .ok (.iaload, 1) := by decide +kernel
theorem d_law_884 : decode code 884 = .ok (.aload_n 0, 1) := by decide +kernel
theorem d_law_885 : decode code 885 = .ok (.iload_n 3, 1) := by decide +kernel
theorem d_law_886 : decode code 886 = .ok (.iconst 3, 1) := by decide +kernel
theorem d_law_887 : decode code 887 = .ok (.iadd, 1) := by decide +kernel
theorem d_law_888 : decode code 888 = .ok (.iaload, 1) := by decide +kernel
theorem d_law_889 : decode code 889 = .ok (.aload_n 0, 1) := by decide +kernel
theorem d_law_890 : decode code 890 = .ok (.iload_n 3, 1) := by decide +kernel
theorem d_law_891 : decode code 891 = .ok (.iconst 4, 1) := by decide +kernel
theorem d_law_892 : decode code 892 = .ok (.iadd, 1) := by decide +kernel
theorem d_law_893 : decode code 893 = .ok (.iaload, 1) := by decide +kernel
theorem d_law_894 : decode code 894 = .ok (.aload_n 0, 1) := by decide +kernel
theorem d_law_895 : decode code 895 = .ok (.iload_n 3, 1) := by decide +kernel
theorem d_law_896 : decode code 896 = .ok (.iconst 5, 1) := by decide +kernel
theorem d_law_897 : decode code 897 = .ok (.iadd, 1) := by decide +kernel
theorem d_law_898 : decode code 898 = .ok (.iaload, 1) := by decide +kernel
theorem d_law_899 : decode code 899 = .ok (.aload_n 0, 1) := by decide +kernel
theorem d_law_900 : decode code 900 = .ok (.iload_n 3, 1) := by decide +kernel
theorem d_law_901 : decode code 901 = .ok (.bipush 6, 2) := by decide +kernel
theorem d_law_903 : decode code 903 = .ok (.iadd, 1) := by decide +kernel
theorem d_law_904 : decode code 904 = .ok (.iaload, 1) := by decide +kernel
theorem d_law_905 : decode code 905 = .ok (.invokevirtual 106, 3) := by decide +kernel
theorem d_law_908 : decode code 908 = .ok (.if_icmp .eq 217, 3) := by decide +kernel
theorem d_law_913 : decode code 913 = .ok (.aload_n 1, 1) := by decide +kernel
theorem d_law_914 : decode code 914 = .ok (.aload_n 0, 1) := by decide +kernel
theorem d_law_915 : decode code 915 = .ok (.iload_n 3, 1) := by decide +kernel
theorem d_law_916 : decode code 916 = .ok (.iconst 1, 1) := by decide +kernel
theorem d_law_917 : decode code 917 = .ok (.iadd, 1) := by decide +kernel
theorem d_law_918 : decode code 918 = .ok (.iaload, 1) := by decide +kernel
theorem d_law_919 : decode code 919 = .ok (.aload_n 0, 1) := by decide +kernel
theorem d_law_920 : decode code 920 = .ok (.iload_n 3, 1) := by decide +kernel
theorem d_law_921 : decode code 921 = .ok (.iconst 2, 1) := by decide +kernel
theorem d_law_922 : decode code 922 = .ok (.iadd, 1) := by decide +kernel
theorem d_law_923 : decode code 923 = .ok (.iaload, 1) := by decide +kernel
theorem d_law_924 : decode code 924 = .ok (.aload_n 0, 1) := by decide +kernel
theorem d_law_925 : decode code 925 = .ok (.iload_n 3, 1) := by decide +kernel
theorem d_law_926 : decode code 926 = .ok (.iconst 3, 1) := by decide +kernel
theorem d_law_927 : decode code 927 = .ok (.iadd, 1) := by decide +kernel
theorem d_law_928 : decode code 928 = .ok (.iaload, 1) := by decide +kernel
theorem d_law_929 : decode code 929 = .ok (.invokevirtual 107, 3) := by decide +kernel
theorem d_law_932 : decode code 932 = .ok (.aload_n 2, 1) := by decide +kernel
theorem d_law_933 : decode code 933 = .ok (.aload_n 0, 1) := by decide +kernel
theorem d_law_934 : decode code 934 = .ok (.iload_n 3, 1) := by decide +kernel
theorem d_law_935 : decode code 935 = .ok (.iconst 1, 1) := by decide +kernel
theorem d_law_936 : decode code 936 = .ok (.iadd, 1) := by decide +kernel
theorem d_law_937 : decode code 937 = .ok (.iaload, 1) := by decide +kernel
theorem d_law_938 : decode code 938 = .ok (.aload_n 0, 1) := by decide +kernel
theorem d_law_939 : decode code 939 = .ok (.iload_n 3, 1) := by decide +kernel
theorem d_law_940 : decode code 940 = .ok (.iconst 2, 1) := by decide +kernel
theorem d_law_941 : decode code 941 = .ok (.iadd, 1) := by decide +kernel
theorem d_law_942 : decode code 942 = .ok (.iaload, 1) := by decide +kernel
theorem d_law_943 : decode code 943 = .ok (.aload_n 0, 1) := by decide +kernel
theorem d_law_944 : decode code 944 = .ok (.iload_n 3, 1) := by decide +kernel
theorem d_law_945 : decode code 945 = .ok (.iconst 3, 1) := by decide +kernel
theorem d_law_946 : decode code 946 = .ok (.iadd, 1) := by decide +kernel
theorem d_law_947 : decode code 947 = .ok (.iaload, 1) := by decide +kernel
theorem d_law_948 : decode code 948 = .ok (.invokevirtual 110, 3) := by decide +kernel
theorem d_law_951 : decode code 951 = .ok (.if_icmp .eq 174, 3) := by decide +kernel
theorem d_law_956 : decode code 956 = .ok (.aload_n 1, 1) := by decide +kernel
theorem d_law_957 : decode code 957 = .ok (.aload_n 0, 1) := by decide +kernel
theorem d_law_958 : decode code 958 = .ok (.iload_n 3, 1) := by decide +kernel
theorem d_law_959 : decode code 959 = .ok (.iconst 1, 1) := by decide +kernel
theorem d_law_960 : decode code 960 = .ok (.iadd, 1) := by decide +kernel
theorem d_law_961 : decode code 961 = .ok (.iaload, 1) := by decide +kernel
theorem d_law_962 : decode code 962 = .ok (.invokevirtual 111, 3) := by decide +kernel
theorem d_law_965 : decode code 965 = .ok (.aload_n 2, 1) := by decide +kernel
theorem d_law_966 : decode code 966 = .ok (.aload_n 0, 1) := by decide +kernel
theorem d_law_967 : decode code 967 = .ok (.iload_n 3, 1) := by decide +kernel
theorem d_law_968 : decode code 968 = .ok (.iconst 1, 1) := by decide +kernel
theorem d_law_969 : decode code 969 = .ok (.iadd, 1) := by decide +kernel
theorem d_law_970 : decode code 970 = .ok (.iaload, 1) := by decide +kernel
theorem d_law_971 : decode code 971 = .ok (.invokevirtual 114, 3) := by decide +kernel
theorem d_law_974 : decode code 974 = .ok (.if_icmp .eq 151, 3) := by decide +kernel
theorem d_law_979 : decode code 979 = .ok (.aload_n 1, 1) := by decide +kernel
theorem d_law_980 : decode code 980 = .ok (.aload_n 0, 1) := by decide +kernel
theorem d_law_981 : decode code 981 = .ok (.iload_n 3, 1) := by decide +kernel
theorem d_law_982 : decode code 982 = .ok (.iconst 1, 1) := by decide +kernel
theorem d_law_983 : decode code 983 = .ok (.iadd, 1) := by decide +kernel
theorem d_law_984 : decode code 984 = .ok (.iaload, 1) := by decide +kernel
theorem d_law_985 : decode code 985 = .ok (.aload_n 0, 1) := by decide +kernel
theorem d_law_986 : decode code 986 = .ok (.iload_n 3, 1) := by decide +kernel
theorem d_law_987 : decode code 987 = .ok (.iconst 2, 1) := by decide +kernel
theorem d_law_988 : decode code 988 = .ok (.iadd, 1) := by decide +kernel
theorem d_law_989 : decode code 989 = .ok (.iaload, 1) := by decide +kernel
theorem d_law_990 : decode code 990 = .ok (.aload_n 0, 1) := by decide +kernel
theorem d_law_991 : decode code 991 = .ok (.iload_n 3, 1) := by decide +kernel
theorem d_law_992 : decode code 992 = .ok (.iconst 3, 1) := by decide +kernel
theorem d_law_993 : decode code 993 = .ok (.iadd, 1) := by decide +kernel
theorem d_law_994 : decode code 994 = .ok (.iaload, 1) := by decide +kernel
theorem d_law_995 : decode code 995 = .ok (.aload_n 0, 1) := by decide +kernel
theorem d_law_996 : decode code 996 = .ok (.iload_n 3, 1) := by decide +kernel
theorem d_law_997 : decode code 997 = .ok (.iconst 4, 1) := by decide +kernel
theorem d_law_998 : decode code 998 = .ok (.iadd, 1) := by decide +kernel
theorem d_law_999 : decode code 999 = .ok (.iaload, 1) := by decide +kernel
theorem d_law_1000 : decode code 1000 = .ok (.i2l, 1) := by decide +kernel
theorem d_law_1001 : decode code 1001 = .ok (.bipush 32, 2) := by decide +kernel
theorem d_law_1003 : decode code 1003 = .ok (.lshl, 1) := by decide +kernel
theorem d_law_1004 : decode code 1004 = .ok (.aload_n 0, 1) := by decide +kernel
theorem d_law_1005 : decode code 1005 = .ok (.iload_n 3, 1) := by decide +kernel
theorem d_law_1006 : decode code 1006 = .ok (.iconst 5, 1) := by decide +kernel
theorem d_law_1007 : decode code 1007 = .ok (.iadd, 1) := by decide +kernel
theorem d_law_1008 : decode code 1008 = .ok (.iaload, 1) := by decide +kernel
theorem d_law_1009 : decode code 1009 = .ok (.i2l, 1) := by decide +kernel
theorem d_law_1010 : decode code 1010 = .ok (.ldc2_w 45, 3) := by decide +kernel
theorem d_law_1013 : decode code 1013 = .ok (.land, 1) := by decide +kernel
theorem d_law_1014 : decode code 1014 = .ok (.lor, 1) := by decide +kernel
theorem d_law_1015 : decode code 1015 = .ok (.invokevirtual 115, 3) := by decide +kernel
theorem d_law_1018 : decode code 1018 = .ok (.aload_n 2, 1) := by decide +kernel
theorem d_law_1019 : decode code 1019 = .ok (.aload_n 0, 1) := by decide +kernel
theorem d_law_1020 : decode code 1020 = .ok (.iload_n 3, 1) := by decide +kernel
theorem d_law_1021 : decode code 1021 = .ok (.iconst 1, 1) := by decide +kernel
theorem d_law_1022 : decode code 1022 = .ok (.iadd, 1) := by decide +kernel
theorem d_law_1023 : decode code 1023 = .ok (.iaload, 1) := by decide +kernel
theorem d_law_1024 : decode code 1024 = .ok (.aload_n 0, 1) := by decide +kernel
theorem d_law_1025 : decode code 1025 = .ok (.iload_n 3, 1) := by decide +kernel
theorem d_law_1026 : decode code 1026 = .ok (.iconst 2, 1) := by decide +kernel
theorem d_law_1027 : decode code 1027 = .ok (.iadd, 1) := by decide +kernel
theorem d_law_1028 : decode code 1028 = .ok (.iaload, 1) := by decide +kernel
theorem d_law_1029 : decode code 1029 = .ok (.aload_n 0, 1) := by decide +kernel
theorem d_law_1030 : decode code 1030 = .ok (.iload_n 3, 1) := by decide +kernel
theorem d_law_1031 : decode code 1031 = .ok (.iconst 3, 1) := by decide +kernel
theorem d_law_1032 : decode code 1032 = .ok (.iadd, 1) := by decide +kernel
theorem d_law_1033 : decode code 1033 = .ok (.iaload, 1) := by decide +kernel
theorem d_law_1034 : decode code 1034 = .ok (.aload_n 0, 1) := by decide +kernel
theorem d_law_1035 : decode code 1035 = .ok (.iload_n 3, 1) := by decide +kernel
theorem d_law_1036 : decode code 1036 = .ok (.iconst 4, 1) := by decide +kernel
theorem d_law_1037 : decode code 1037 = .ok (.iadd, 1) := by decide +kernel
theorem d_law_1038 : decode code 1038 = .ok (.iaload, 1) := by decide +kernel
theorem d_law_1039 : decode code 1039 = .ok (.i2l, 1) := by decide +kernel
theorem d_law_1040 : decode code 1040 = .ok (.bipush 32, 2) := by decide +kernel
theorem d_law_1042 : decode code 1042 = .ok (.lshl, 1) := by decide +kernel
theorem d_law_1043 : decode code 1043 = .ok (.aload_n 0, 1) := by decide +kernel
theorem d_law_1044 : decode code 1044 = .ok (.iload_n 3, 1) := by decide +kernel
theorem d_law_1045 : decode code 1045 = .ok (.iconst 5, 1) := by decide +kernel
theorem d_law_1046 : decode code 1046 = .ok (.iadd, 1) := by decide +kernel
theorem d_law_1047 : decode code 1047 = .ok (.iaload, 1) := by decide +kernel
theorem d_law_1048 : decode code 1048 = .ok (.i2l, 1) := by decide +kernel
theorem d_law_1049 : decode code 1049 = .ok (.ldc2_w 45, 3) := by decide +kernel
theorem d_law_1052 : decode code 1052 = .ok (.land, 1) := by decide +kernel
theorem d_law_1053 : decode code 1053 = .ok (.lor, 1) := by decide +kernel
theorem d_law_1054 : decode code 1054 = .ok (.invokevirtual 119, 3) := by decide +kernel
theorem d_law_1057 : decode code 1057 = .ok (.if_icmp .eq 68, 3) := by decide +kernel
theorem d_law_1062 : decode code 1062 = .ok (.aload_n 1, 1) := by decide +kernel
theorem d_law_1063 : decode code 1063 = .ok (.aload_n 0, 1) := by decide +kernel
theorem d_law_1064 : decode code 1064 = .ok (.iload_n 3, 1) := by decide +kernel
theorem d_law_1065 : decode code 1065 = .ok (.iconst 1, 1) := by decide +kernel
theorem d_law_1066 : decode code 1066 = .ok (.iadd, 1) := by decide +kernel
theorem d_law_1067 : decode code 1067 = .ok (.iaload, 1) := by decide +kernel
theorem d_law_1068 : decode code 1068 = .ok (.aload_n 0, 1) := by decide +kernel
theorem d_law_1069 : decode code 1069 = .ok (.iload_n 3, 1) := by decide +kernel
theorem d_law_1070 : decode code 1070 = .ok (.iconst 2, 1) := by decide +kernel
theorem d_law_1071 : decode code 1071 = .ok (.iadd, 1) := by decide +kernel
theorem d_law_1072 : decode code 1072 = .ok (.iaload, 1) := by decide +kernel
theorem d_law_1073 : decode code 1073 = .ok (.aload_n 0, 1) := by decide +kernel
theorem d_law_1074 : decode code 1074 = .ok (.iload_n 3, 1) := by decide +kernel
theorem d_law_1075 : decode code 1075 = .ok (.iconst 3, 1) := by decide +kernel
theorem d_law_1076 : decode code 1076 = .ok (.iadd, 1) := by decide +kernel
theorem d_law_1077 : decode code 1077 = .ok (.iaload, 1) := by decide +kernel
theorem d_law_1078 : decode code 1078 = .ok (.aload_n 0, 1) := by decide +kernel
theorem d_law_1079 : decode code 1079 = .ok (.iload_n 3, 1) := by decide +kernel
theorem d_law_1080 : decode code 1080 = .ok (.iconst 4, 1) := by decide +kernel
theorem d_law_1081 : decode code 1081 = .ok (.iadd, 1) := by decide +kernel
theorem d_law_1082 : decode code 1082 = .ok (.iaload, 1) := by decide +kernel
theorem d_law_1083 : decode code 1083 = .ok (.aload_n 0, 1) := by decide +kernel
theorem d_law_1084 : decode code 1084 = .ok (.iload_n 3, 1) := by decide +kernel
theorem d_law_1085 : decode code 1085 = .ok (.iconst 5, 1) := by decide +kernel
theorem d_law_1086 : decode code 1086 = .ok (.iadd, 1) := by decide +kernel
theorem d_law_1087 : decode code 1087 = .ok (.iaload, 1) := by decide +kernel
theorem d_law_1088 : decode code 1088 = .ok (.invokevirtual 120, 3) := by decide +kernel
theorem d_law_1091 : decode code 1091 = .ok (.aload_n 2, 1) := by decide +kernel
theorem d_law_1092 : decode code 1092 = .ok (.aload_n 0, 1) := by decide +kernel
theorem d_law_1093 : decode code 1093 = .ok (.iload_n 3, 1) := by decide +kernel
theorem d_law_1094 : decode code 1094 = .ok (.iconst 1, 1) := by decide +kernel
theorem d_law_1095 : decode code 1095 = .ok (.iadd, 1) := by decide +kernel
theorem d_law_1096 : decode code 1096 = .ok (.iaload, 1) := by decide +kernel
theorem d_law_1097 : decode code 1097 = .ok (.aload_n 0, 1) := by decide +kernel
theorem d_law_1098 : decode code 1098 = .ok (.iload_n 3, 1) := by decide +kernel
theorem d_law_1099 : decode code 1099 = .ok (.iconst 2, 1) := by decide +kernel
theorem d_law_1100 : decode code 1100 = .ok (.iadd, 1) := by decide +kernel
theorem d_law_1101 : decode code 1101 = .ok (.iaload, 1) := by decide +kernel
theorem d_law_1102 : decode code 1102 = .ok (.aload_n 0, 1) := by decide +kernel
theorem d_law_1103 : decode code 1103 = .ok (.iload_n 3, 1) := by decide +kernel
theorem d_law_1104 : decode code 1104 = .ok (.iconst 3, 1) := by decide +kernel
theorem d_law_1105 : decode code 1105 = .ok (.iadd, 1) := by decide +kernel
theorem d_law_1106 : decode code 1106 = .ok (.iaload, 1) := by decide +kernel
theorem d_law_1107 : decode code 1107 = .ok (.aload_n 0, 1) := by decide +kernel
theorem d_law_1108 : decode code 1108 = .ok (.iload_n 3, 1) := by decide +kernel
theorem d_law_1109 : decode code 1109 = .ok (.iconst 4, 1) := by decide +kernel
theorem d_law_1110 : decode code 1110 = .ok (.iadd, 1) := by decide +kernel
theorem d_law_1111 : decode code 1111 = .ok (.iaload, 1) := by decide +kernel
theorem d_law_1112 : decode code 1112 = .ok (.aload_n 0, 1) := by decide +kernel
theorem d_law_1113 : decode code 1113 = .ok (.iload_n 3, 1) := by decide +kernel
theorem d_law_1114 : decode code 1114 = .ok (.iconst 5, 1) := by decide +kernel
theorem d_law_1115 : decode code 1115 = .ok (.iadd, 1) := by decide +kernel
theorem d_law_1116 : decode code 1116 = .ok (.iaload, 1) := by decide +kernel
theorem d_law_1117 : decode code 1117 = .ok (.invokevirtual 124, 3) := by decide +kernel
theorem d_law_1120 : decode code 1120 = .ok (.if_icmp .eq 5, 3) := by decide +kernel
set_option maxRecDepth 100000 in
set_option maxHeartbeats 4000000 in
theorem law_20 {p : Program} {l : Launch} {e : Env} {s : State} {m : MethodId} {below : List Frame} {meth : Method} {c : Code} {b L : Nat} {xs : Nat → Int32} {D : va_G} {ca : Nat → ClassId} {adX adM : Nat → Nat} (E : lw_E p s m c b D ca adX adM) (hX : va_X b L xs s s.heap) (hbl : b < s.heap.size) {i : Int32} (hi : ∀ k : Nat, k < 8 → vp_in (i + nI k) L) {A : am_A} {cn : Nat} (hcn : cn + 4096 ≤ 1073741824) {H : Heap} {locs : List Loc} {ls : Array Slot} (hl : lv_has ls 4 [(0, .ref b), (1, .ref (adX 0)), (2, .ref (adM 0)), (3, .int i)]) (hSt : lw_St s D ca adX adM (fun I L => CR I L A) (fun I L => MR I L A cn) H locs)
    (kk : ∀ (A2 : am_A) (c2 : Nat) (H2 : Heap) (locs2 : List Loc), c2 ≤ cn + 4096 → lw_St s D ca adX adM (fun I L => CR I L A2) (fun I L => MR I L A2 c2) H2 locs2 → W p l e room_1 s m #[Value.ref b] below meth c H2 locs2 600000 7302250 (lw_Z below #[Value.ref b] s) (F0 m 1125 ls [])) : W p l e room_1 s m #[Value.ref b] below meth c H locs 600000 7302250 (lw_Z below #[Value.ref b] s) (F0 m 838 ls []) := by
  obtain ⟨hx, hb, hml, hown, hU, hN, hK, hD⟩ := id E
  have hbA : ¬ (fun q : Nat => s.heap.size ≤ q) b := Nat.not_le.mpr hbl
  have hS := hSt.S
  have hi1 : vp_in (i + 1) L := hi 1 (by omega)
  have hi2 : vp_in (i + 2) L := hi 2 (by omega)
  have hi3 : vp_in (i + 3) L := hi 3 (by omega)
  have hi4 : vp_in (i + 4) L := hi 4 (by omega)
  have hi5 : vp_in (i + 5) L := hi 5 (by omega)
  have hi6 : vp_in (i + 6) L := hi 6 (by omega)
  refine lv_aload_n hx hb d_law_838 rfl (lv_at hl 1 rfl) ?_
  refine lv_aload_n hx hb d_law_839 rfl (lv_at hl 0 rfl) ?_
  refine lv_iload_n hx hb d_law_840 rfl (lv_at hl 3 rfl) ?_
  refine lv_iconst (v := 1) hx hb d_law_841 (by decide) ?_
  refine lv_iadd hx hb d_law_842 ?_
  refine va_sld hx hb hX hbl hbA hS hi1 d_law_843 ?_
  refine lv_aload_n hx hb d_law_844 rfl (lv_at hl 0 rfl) ?_
  refine lv_iload_n hx hb d_law_845 rfl (lv_at hl 3 rfl) ?_
  refine lv_iconst (v := 2) hx hb d_law_846 (by decide) ?_
  refine lv_iadd hx hb d_law_847 ?_
  refine va_sld hx hb hX hbl hbA hS hi2 d_law_848 ?_
  refine lv_aload_n hx hb d_law_849 rfl (lv_at hl 0 rfl) ?_
  refine lv_iload_n hx hb d_law_850 rfl (lv_at hl 3 rfl) ?_
  refine lv_iconst (v := 3) hx hb d_law_851 (by decide) ?_
  refine lv_iadd hx hb d_law_852 ?_
  refine va_sld hx hb hX hbl hbA hS hi3 d_law_853 ?_
  refine lv_aload_n hx hb d_law_854 rfl (lv_at hl 0 rfl) ?_
  refine lv_iload_n hx hb d_law_855 rfl (lv_at hl 3 rfl) ?_
  refine lv_iconst (v := 4) hx hb d_law_856 (by decide) ?_
  refine lv_iadd hx hb d_law_857 ?_
  refine va_sld hx hb hX hbl hbA hS hi4 d_law_858 ?_
  refine lv_aload_n hx hb d_law_859 rfl (lv_at hl 0 rfl) ?_
  refine lv_iload_n hx hb d_law_860 rfl (lv_at hl 3 rfl) ?_
  refine lv_iconst (v := 5) hx hb d_law_861 (by decide) ?_
  refine lv_iadd hx hb d_law_862 ?_
  refine va_sld hx hb hX hbl hbA hS hi5 d_law_863 ?_
  refine lv_aload_n hx hb d_law_864 rfl (lv_at hl 0 rfl) ?_
  refine lv_iload_n hx hb d_law_865 rfl (lv_at hl 3 rfl) ?_
  refine lv_bipush (v := 6) hx hb d_law_866 (by decide) ?_
  refine lv_iadd hx hb d_law_868 ?_
  refine va_sld hx hb hX hbl hbA hS hi6 d_law_869 ?_
  refine lw_cX E (n := 6) met_RP_film (am_pos 537 (by decide +kernel) rfl) (am_pos 538 (by decide +kernel) rfl) (am_pos 539 (by decide +kernel) rfl) (am_pos 35 (by decide +kernel) rfl) (am_pos 540 (by decide +kernel) rfl) ⟨by decide +kernel, by decide +kernel, by decide +kernel⟩ rfl rfl ⟨Nat.le_of_ble_eq_true rfl, Nat.le_of_ble_eq_true rfl⟩ rfl (t := [.int (xs (i + 1).toNatClampNeg), .int (xs (i + 2).toNatClampNeg), .int (xs (i + 3).toNatClampNeg), .int (xs (i + 4).toNatClampNeg), .int (xs (i + 5).toNatClampNeg), .int (xs (i + 6).toNatClampNeg)]) (r := []) (PX' := fun I L => CR I L (o_film A ((xs (i + 1).toNatClampNeg)) ((xs (i + 2).toNatClampNeg)) ((xs (i + 3).toNatClampNeg)) ((xs (i + 4).toNatClampNeg)) ((xs (i + 5).toNatClampNeg)) ((xs (i + 6).toNatClampNeg))).2) (rv := (o_film A ((xs (i + 1).toNatClampNeg)) ((xs (i + 2).toNatClampNeg)) ((xs (i + 3).toNatClampNeg)) ((xs (i + 4).toNatClampNeg)) ((xs (i + 5).toNatClampNeg)) ((xs (i + 6).toNatClampNeg))).1) d_law_870 rfl rfl (Nat.le_of_ble_eq_true rfl) hl.1 (fun I L hC => ⟨rfl, A, hC, fun I2 L2 h => ⟨rfl, h⟩⟩) hSt ⟨Nat.le_refl _, Nat.le_refl _⟩ (fun H locs hSt => ?_)
  have hS := hSt.S
  refine lv_aload_n hx hb d_law_873 rfl (lv_at hl 2 rfl) ?_
  refine lv_aload_n hx hb d_law_874 rfl (lv_at hl 0 rfl) ?_
  refine lv_iload_n hx hb d_law_875 rfl (lv_at hl 3 rfl) ?_
  refine lv_iconst (v := 1) hx hb d_law_876 (by decide) ?_
  refine lv_iadd hx hb d_law_877 ?_
  refine va_sld hx hb hX hbl hbA hS hi1 d_law_878 ?_
  refine lv_aload_n hx hb d_law_879 rfl (lv_at hl 0 rfl) ?_
  refine lv_iload_n hx hb d_law_880 rfl (lv_at hl 3 rfl) ?_
  refine lv_iconst (v := 2) hx hb d_law_881 (by decide) ?_
  refine lv_iadd hx hb d_law_882 ?_
  refine va_sld hx hb hX hbl hbA hS hi2 d_law_883 ?_
  refine lv_aload_n hx hb d_law_884 rfl (lv_at hl 0 rfl) ?_
  refine lv_iload_n hx hb d_law_885 rfl (lv_at hl 3 rfl) ?_
  refine lv_iconst (v := 3) hx hb d_law_886 (by decide) ?_
  refine lv_iadd hx hb d_law_887 ?_
  refine va_sld hx hb hX hbl hbA hS hi3 d_law_888 ?_
  refine lv_aload_n hx hb d_law_889 rfl (lv_at hl 0 rfl) ?_
  refine lv_iload_n hx hb d_law_890 rfl (lv_at hl 3 rfl) ?_
  refine lv_iconst (v := 4) hx hb d_law_891 (by decide) ?_
  refine lv_iadd hx hb d_law_892 ?_
  refine va_sld hx hb hX hbl hbA hS hi4 d_law_893 ?_
  refine lv_aload_n hx hb d_law_894 rfl (lv_at hl 0 rfl) ?_
  refine lv_iload_n hx hb d_law_895 rfl (lv_at hl 3 rfl) ?_
  refine lv_iconst (v := 5) hx hb d_law_896 (by decide) ?_
  refine lv_iadd hx hb d_law_897 ?_
  refine va_sld hx hb hX hbl hbA hS hi5 d_law_898 ?_
  refine lv_aload_n hx hb d_law_899 rfl (lv_at hl 0 rfl) ?_
  refine lv_iload_n hx hb d_law_900 rfl (lv_at hl 3 rfl) ?_
  refine lv_bipush (v := 6) hx hb d_law_901 (by decide) ?_
  refine lv_iadd hx hb d_law_903 ?_
  refine va_sld hx hb hX hbl hbA hS hi6 d_law_904 ?_
  refine lw_cM E (n := 6) met_MD_film (am_pos 858 (by decide +kernel) rfl) (am_pos 859 (by decide +kernel) rfl) (am_pos 860 (by decide +kernel) rfl) (am_pos 41 (by decide +kernel) rfl) (am_pos 861 (by decide +kernel) rfl) ⟨by decide +kernel, by decide +kernel, by decide +kernel⟩ rfl rfl ⟨Nat.le_of_ble_eq_true rfl, Nat.le_of_ble_eq_true rfl⟩ rfl (t := [.int (xs (i + 1).toNatClampNeg), .int (xs (i + 2).toNatClampNeg), .int (xs (i + 3).toNatClampNeg), .int (xs (i + 4).toNatClampNeg), .int (xs (i + 5).toNatClampNeg), .int (xs (i + 6).toNatClampNeg)]) (r := [.int ((o_film A ((xs (i + 1).toNatClampNeg)) ((xs (i + 2).toNatClampNeg)) ((xs (i + 3).toNatClampNeg)) ((xs (i + 4).toNatClampNeg)) ((xs (i + 5).toNatClampNeg)) ((xs (i + 6).toNatClampNeg))).1)]) (PM' := fun I L => ∃ c2, c2 ≤ cn + 4096 ∧ MR I L (o_film A ((xs (i + 1).toNatClampNeg)) ((xs (i + 2).toNatClampNeg)) ((xs (i + 3).toNatClampNeg)) ((xs (i + 4).toNatClampNeg)) ((xs (i + 5).toNatClampNeg)) ((xs (i + 6).toNatClampNeg))).2 c2) (rv := (o_film A ((xs (i + 1).toNatClampNeg)) ((xs (i + 2).toNatClampNeg)) ((xs (i + 3).toNatClampNeg)) ((xs (i + 4).toNatClampNeg)) ((xs (i + 5).toNatClampNeg)) ((xs (i + 6).toNatClampNeg))).1) d_law_905 rfl rfl (Nat.le_of_ble_eq_true rfl) hl.1 (fun I L hC => ⟨rfl, A, cn, hC, hcn, fun I2 L2 c2 h1 h2 => ⟨rfl, c2, h1, h2⟩⟩) hSt ⟨Nat.le_refl _, Nat.le_refl _⟩ (fun H locs hSt => ?_)
  have hS := hSt.S
  refine lv_icmp_eq (tgt := 1125) hx hb d_law_908 (by decide) (fun _ => ?_) (fun q => absurd rfl q)
  obtain ⟨IX, LX, IM, LM, a1, ⟨c2, b1, b2⟩, a3, a4, a5⟩ := hSt
  exact kk _ c2 _ _ b1 ⟨IX, LX, IM, LM, a1, b2, a3, a4, a5⟩
set_option maxRecDepth 100000 in
set_option maxHeartbeats 4000000 in
theorem law_21 {p : Program} {l : Launch} {e : Env} {s : State} {m : MethodId} {below : List Frame} {meth : Method} {c : Code} {b L : Nat} {xs : Nat → Int32} {D : va_G} {ca : Nat → ClassId} {adX adM : Nat → Nat} (E : lw_E p s m c b D ca adX adM) (hX : va_X b L xs s s.heap) (hbl : b < s.heap.size) {i : Int32} (hi : ∀ k : Nat, k < 8 → vp_in (i + nI k) L) {A : am_A} {cn : Nat} (hcn : cn + 4096 ≤ 1073741824) {H : Heap} {locs : List Loc} {ls : Array Slot} (hl : lv_has ls 4 [(0, .ref b), (1, .ref (adX 0)), (2, .ref (adM 0)), (3, .int i)]) (hSt : lw_St s D ca adX adM (fun I L => CR I L A) (fun I L => MR I L A cn) H locs)
    (kk : ∀ (A2 : am_A) (c2 : Nat) (H2 : Heap) (locs2 : List Loc), c2 ≤ cn + 4096 → lw_St s D ca adX adM (fun I L => CR I L A2) (fun I L => MR I L A2 c2) H2 locs2 → W p l e room_1 s m #[Value.ref b] below meth c H2 locs2 600000 7302250 (lw_Z below #[Value.ref b] s) (F0 m 1125 ls [])) : W p l e room_1 s m #[Value.ref b] below meth c H locs 600000 7302250 (lw_Z below #[Value.ref b] s) (F0 m 913 ls []) := by
  obtain ⟨hx, hb, hml, hown, hU, hN, hK, hD⟩ := id E
  have hbA : ¬ (fun q : Nat => s.heap.size ≤ q) b := Nat.not_le.mpr hbl
  have hS := hSt.S
  have hi1 : vp_in (i + 1) L := hi 1 (by omega)
  have hi2 : vp_in (i + 2) L := hi 2 (by omega)
  have hi3 : vp_in (i + 3) L := hi 3 (by omega)
  refine lv_aload_n hx hb d_law_913 rfl (lv_at hl 1 rfl) ?_
  refine lv_aload_n hx hb d_law_914 rfl (lv_at hl 0 rfl) ?_
  refine lv_iload_n hx hb d_law_915 rfl (lv_at hl 3 rfl) ?_
  refine lv_iconst (v := 1) hx hb d_law_916 (by decide) ?_
  refine lv_iadd hx hb d_law_917 ?_
  refine va_sld hx hb hX hbl hbA hS hi1 d_law_918 ?_
  refine lv_aload_n hx hb d_law_919 rfl (lv_at hl 0 rfl) ?_
  refine lv_iload_n hx hb d_law_920 rfl (lv_at hl 3 rfl) ?_
  refine lv_iconst (v := 2) hx hb d_law_921 (by decide) ?_
  refine lv_iadd hx hb d_law_922 ?_
  refine va_sld hx hb hX hbl hbA hS hi2 d_law_923 ?_
  refine lv_aload_n hx hb d_law_924 rfl (lv_at hl 0 rfl) ?_
  refine lv_iload_n hx hb d_law_925 rfl (lv_at hl 3 rfl) ?_
  refine lv_iconst (v := 3) hx hb d_law_926 (by decide) ?_
  refine lv_iadd hx hb d_law_927 ?_
  refine va_sld hx hb hX hbl hbA hS hi3 d_law_928 ?_
  refine lw_cX E (n := 3) met_RP_sheet (am_pos 549 (by decide +kernel) rfl) (am_pos 550 (by decide +kernel) rfl) (am_pos 551 (by decide +kernel) rfl) (am_pos 35 (by decide +kernel) rfl) (am_pos 552 (by decide +kernel) rfl) ⟨by decide +kernel, by decide +kernel, by decide +kernel⟩ rfl rfl ⟨Nat.le_of_ble_eq_true rfl, Nat.le_of_ble_eq_true rfl⟩ rfl (t := [.int (xs (i + 1).toNatClampNeg), .int (xs (i + 2).toNatClampNeg), .int (xs (i + 3).toNatClampNeg)]) (r := []) (PX' := fun I L => CR I L (o_sheet A ((xs (i + 1).toNatClampNeg)) ((xs (i + 2).toNatClampNeg)) ((xs (i + 3).toNatClampNeg))).2) (rv := (o_sheet A ((xs (i + 1).toNatClampNeg)) ((xs (i + 2).toNatClampNeg)) ((xs (i + 3).toNatClampNeg))).1) d_law_929 rfl rfl (Nat.le_of_ble_eq_true rfl) hl.1 (fun I L hC => ⟨rfl, A, hC, fun I2 L2 h => ⟨rfl, h⟩⟩) hSt ⟨Nat.le_refl _, Nat.le_refl _⟩ (fun H locs hSt => ?_)
  have hS := hSt.S
  refine lv_aload_n hx hb d_law_932 rfl (lv_at hl 2 rfl) ?_
  refine lv_aload_n hx hb d_law_933 rfl (lv_at hl 0 rfl) ?_
  refine lv_iload_n hx hb d_law_934 rfl (lv_at hl 3 rfl) ?_
  refine lv_iconst (v := 1) hx hb d_law_935 (by decide) ?_
  refine lv_iadd hx hb d_law_936 ?_
  refine va_sld hx hb hX hbl hbA hS hi1 d_law_937 ?_
  refine lv_aload_n hx hb d_law_938 rfl (lv_at hl 0 rfl) ?_
  refine lv_iload_n hx hb d_law_939 rfl (lv_at hl 3 rfl) ?_
  refine lv_iconst (v := 2) hx hb d_law_940 (by decide) ?_
  refine lv_iadd hx hb d_law_941 ?_
  refine va_sld hx hb hX hbl hbA hS hi2 d_law_942 ?_
  refine lv_aload_n hx hb d_law_943 rfl (lv_at hl 0 rfl) ?_
  refine lv_iload_n hx hb d_law_944 rfl (lv_at hl 3 rfl) ?_
  refine lv_iconst (v := 3) hx hb d_law_945 (by decide) ?_
  refine lv_iadd hx hb d_law_946 ?_
  refine va_sld hx hb hX hbl hbA hS hi3 d_law_947 ?_
  refine lw_cM E (n := 3) met_MD_sheet (am_pos 862 (by decide +kernel) rfl) (am_pos 863 (by decide +kernel) rfl) (am_pos 864 (by decide +kernel) rfl) (am_pos 41 (by decide +kernel) rfl) (am_pos 865 (by decide +kernel) rfl) ⟨by decide +kernel, by decide +kernel, by decide +kernel⟩ rfl rfl ⟨Nat.le_of_ble_eq_true rfl, Nat.le_of_ble_eq_true rfl⟩ rfl (t := [.int (xs (i + 1).toNatClampNeg), .int (xs (i + 2).toNatClampNeg), .int (xs (i + 3).toNatClampNeg)]) (r := [.int ((o_sheet A ((xs (i + 1).toNatClampNeg)) ((xs (i + 2).toNatClampNeg)) ((xs (i + 3).toNatClampNeg))).1)]) (PM' := fun I L => ∃ c2, c2 ≤ cn + 4096 ∧ MR I L (o_sheet A ((xs (i + 1).toNatClampNeg)) ((xs (i + 2).toNatClampNeg)) ((xs (i + 3).toNatClampNeg))).2 c2) (rv := (o_sheet A ((xs (i + 1).toNatClampNeg)) ((xs (i + 2).toNatClampNeg)) ((xs (i + 3).toNatClampNeg))).1) d_law_948 rfl rfl (Nat.le_of_ble_eq_true rfl) hl.1 (fun I L hC => ⟨rfl, A, cn, hC, hcn, fun I2 L2 c2 h1 h2 => ⟨rfl, c2, h1, h2⟩⟩) hSt ⟨Nat.le_refl _, Nat.le_refl _⟩ (fun H locs hSt => ?_)
  have hS := hSt.S
  refine lv_icmp_eq (tgt := 1125) hx hb d_law_951 (by decide) (fun _ => ?_) (fun q => absurd rfl q)
  obtain ⟨IX, LX, IM, LM, a1, ⟨c2, b1, b2⟩, a3, a4, a5⟩ := hSt
  exact kk _ c2 _ _ b1 ⟨IX, LX, IM, LM, a1, b2, a3, a4, a5⟩
set_option maxRecDepth 100000 in
set_option maxHeartbeats 4000000 in
theorem law_22 {p : Program} {l : Launch} {e : Env} {s : State} {m : MethodId} {below : List Frame} {meth : Method} {c : Code} {b L : Nat} {xs : Nat → Int32} {D : va_G} {ca : Nat → ClassId} {adX adM : Nat → Nat} (E : lw_E p s m c b D ca adX adM) (hX : va_X b L xs s s.heap) (hbl : b < s.heap.size) {i : Int32} (hi : ∀ k : Nat, k < 8 → vp_in (i + nI k) L) {A : am_A} {cn : Nat} (hcn : cn + 4096 ≤ 1073741824) {H : Heap} {locs : List Loc} {ls : Array Slot} (hl : lv_has ls 4 [(0, .ref b), (1, .ref (adX 0)), (2, .ref (adM 0)), (3, .int i)]) (hSt : lw_St s D ca adX adM (fun I L => CR I L A) (fun I L => MR I L A cn) H locs)
    (kk : ∀ (A2 : am_A) (c2 : Nat) (H2 : Heap) (locs2 : List Loc), c2 ≤ cn + 4096 → lw_St s D ca adX adM (fun I L => CR I L A2) (fun I L => MR I L A2 c2) H2 locs2 → W p l e room_1 s m #[Value.ref b] below meth c H2 locs2 600000 7302250 (lw_Z below #[Value.ref b] s) (F0 m 1125 ls [])) : W p l e room_1 s m #[Value.ref b] below meth c H locs 600000 7302250 (lw_Z below #[Value.ref b] s) (F0 m 956 ls []) := by
  obtain ⟨hx, hb, hml, hown, hU, hN, hK, hD⟩ := id E
  have hbA : ¬ (fun q : Nat => s.heap.size ≤ q) b := Nat.not_le.mpr hbl
  have hS := hSt.S
  have hi1 : vp_in (i + 1) L := hi 1 (by omega)
  refine lv_aload_n hx hb d_law_956 rfl (lv_at hl 1 rfl) ?_
  refine lv_aload_n hx hb d_law_957 rfl (lv_at hl 0 rfl) ?_
  refine lv_iload_n hx hb d_law_958 rfl (lv_at hl 3 rfl) ?_
  refine lv_iconst (v := 1) hx hb d_law_959 (by decide) ?_
  refine lv_iadd hx hb d_law_960 ?_
  refine va_sld hx hb hX hbl hbA hS hi1 d_law_961 ?_
  refine lw_cX E (n := 1) met_RP_drop (am_pos 561 (by decide +kernel) rfl) (am_pos 562 (by decide +kernel) rfl) (am_pos 563 (by decide +kernel) rfl) (am_pos 35 (by decide +kernel) rfl) (am_pos 564 (by decide +kernel) rfl) ⟨by decide +kernel, by decide +kernel, by decide +kernel⟩ rfl rfl ⟨Nat.le_of_ble_eq_true rfl, Nat.le_of_ble_eq_true rfl⟩ rfl (t := [.int (xs (i + 1).toNatClampNeg)]) (r := []) (PX' := fun I L => CR I L (o_drop A ((xs (i + 1).toNatClampNeg))).2) (rv := (o_drop A ((xs (i + 1).toNatClampNeg))).1) d_law_962 rfl rfl (Nat.le_of_ble_eq_true rfl) hl.1 (fun I L hC => ⟨rfl, A, hC, fun I2 L2 h => ⟨rfl, h⟩⟩) hSt ⟨Nat.le_refl _, Nat.le_refl _⟩ (fun H locs hSt => ?_)
  have hS := hSt.S
  refine lv_aload_n hx hb d_law_965 rfl (lv_at hl 2 rfl) ?_
  refine lv_aload_n hx hb d_law_966 rfl (lv_at hl 0 rfl) ?_
  refine lv_iload_n hx hb d_law_967 rfl (lv_at hl 3 rfl) ?_
  refine lv_iconst (v := 1) hx hb d_law_968 (by decide) ?_
  refine lv_iadd hx hb d_law_969 ?_
  refine va_sld hx hb hX hbl hbA hS hi1 d_law_970 ?_
  refine lw_cM E (n := 1) met_MD_drop (am_pos 866 (by decide +kernel) rfl) (am_pos 867 (by decide +kernel) rfl) (am_pos 868 (by decide +kernel) rfl) (am_pos 41 (by decide +kernel) rfl) (am_pos 869 (by decide +kernel) rfl) ⟨by decide +kernel, by decide +kernel, by decide +kernel⟩ rfl rfl ⟨Nat.le_of_ble_eq_true rfl, Nat.le_of_ble_eq_true rfl⟩ rfl (t := [.int (xs (i + 1).toNatClampNeg)]) (r := [.int ((o_drop A ((xs (i + 1).toNatClampNeg))).1)]) (PM' := fun I L => ∃ c2, c2 ≤ cn + 4096 ∧ MR I L (o_drop A ((xs (i + 1).toNatClampNeg))).2 c2) (rv := (o_drop A ((xs (i + 1).toNatClampNeg))).1) d_law_971 rfl rfl (Nat.le_of_ble_eq_true rfl) hl.1 (fun I L hC => ⟨rfl, A, cn, hC, hcn, fun I2 L2 c2 h1 h2 => ⟨rfl, c2, h1, h2⟩⟩) hSt ⟨Nat.le_refl _, Nat.le_refl _⟩ (fun H locs hSt => ?_)
  have hS := hSt.S
  refine lv_icmp_eq (tgt := 1125) hx hb d_law_974 (by decide) (fun _ => ?_) (fun q => absurd rfl q)
  obtain ⟨IX, LX, IM, LM, a1, ⟨c2, b1, b2⟩, a3, a4, a5⟩ := hSt
  exact kk _ c2 _ _ b1 ⟨IX, LX, IM, LM, a1, b2, a3, a4, a5⟩
set_option maxRecDepth 100000 in
set_option maxHeartbeats 4000000 in
theorem law_23 {p : Program} {l : Launch} {e : Env} {s : State} {m : MethodId} {below : List Frame} {meth : Method} {c : Code} {b L : Nat} {xs : Nat → Int32} {D : va_G} {ca : Nat → ClassId} {adX adM : Nat → Nat} (E : lw_E p s m c b D ca adX adM) (hX : va_X b L xs s s.heap) (hbl : b < s.heap.size) {i : Int32} (hi : ∀ k : Nat, k < 8 → vp_in (i + nI k) L) {A : am_A} {cn : Nat} (hcn : cn + 4096 ≤ 1073741824) {H : Heap} {locs : List Loc} {ls : Array Slot} (hl : lv_has ls 4 [(0, .ref b), (1, .ref (adX 0)), (2, .ref (adM 0)), (3, .int i)]) (hSt : lw_St s D ca adX adM (fun I L => CR I L A) (fun I L => MR I L A cn) H locs)
    (kk : ∀ (A2 : am_A) (c2 : Nat) (H2 : Heap) (locs2 : List Loc), c2 ≤ cn + 4096 → lw_St s D ca adX adM (fun I L => CR I L A2) (fun I L => MR I L A2 c2) H2 locs2 → W p l e room_1 s m #[Value.ref b] below meth c H2 locs2 600000 7302250 (lw_Z below #[Value.ref b] s) (F0 m 1125 ls [])) : W p l e room_1 s m #[Value.ref b] below meth c H locs 600000 7302250 (lw_Z below #[Value.ref b] s) (F0 m 979 ls []) := by
  obtain ⟨hx, hb, hml, hown, hU, hN, hK, hD⟩ := id E
  have hbA : ¬ (fun q : Nat => s.heap.size ≤ q) b := Nat.not_le.mpr hbl
  have hS := hSt.S
  have hi1 : vp_in (i + 1) L := hi 1 (by omega)
  have hi2 : vp_in (i + 2) L := hi 2 (by omega)
  have hi3 : vp_in (i + 3) L := hi 3 (by omega)
  have hi4 : vp_in (i + 4) L := hi 4 (by omega)
  have hi5 : vp_in (i + 5) L := hi 5 (by omega)
  refine lv_aload_n hx hb d_law_979 rfl (lv_at hl 1 rfl) ?_
  refine lv_aload_n hx hb d_law_980 rfl (lv_at hl 0 rfl) ?_
  refine lv_iload_n hx hb d_law_981 rfl (lv_at hl 3 rfl) ?_
  refine lv_iconst (v := 1) hx hb d_law_982 (by decide) ?_
  refine lv_iadd hx hb d_law_983 ?_
  refine va_sld hx hb hX hbl hbA hS hi1 d_law_984 ?_
  refine lv_aload_n hx hb d_law_985 rfl (lv_at hl 0 rfl) ?_
  refine lv_iload_n hx hb d_law_986 rfl (lv_at hl 3 rfl) ?_
  refine lv_iconst (v := 2) hx hb d_law_987 (by decide) ?_
  refine lv_iadd hx hb d_law_988 ?_
  refine va_sld hx hb hX hbl hbA hS hi2 d_law_989 ?_
  refine lv_aload_n hx hb d_law_990 rfl (lv_at hl 0 rfl) ?_
  refine lv_iload_n hx hb d_law_991 rfl (lv_at hl 3 rfl) ?_
  refine lv_iconst (v := 3) hx hb d_law_992 (by decide) ?_
  refine lv_iadd hx hb d_law_993 ?_
  refine va_sld hx hb hX hbl hbA hS hi3 d_law_994 ?_
  refine lv_aload_n hx hb d_law_995 rfl (lv_at hl 0 rfl) ?_
  refine lv_iload_n hx hb d_law_996 rfl (lv_at hl 3 rfl) ?_
  refine lv_iconst (v := 4) hx hb d_law_997 (by decide) ?_
  refine lv_iadd hx hb d_law_998 ?_
  refine va_sld hx hb hX hbl hbA hS hi4 d_law_999 ?_
  refine lv_i2l hx hb d_law_1000 rfl ?_
  refine lv_bipush (v := 32) hx hb d_law_1001 (by decide) ?_
  refine lv_lshl hx hb d_law_1003 rfl ?_
  refine lv_aload_n hx hb d_law_1004 rfl (lv_at hl 0 rfl) ?_
  refine lv_iload_n hx hb d_law_1005 rfl (lv_at hl 3 rfl) ?_
  refine lv_iconst (v := 5) hx hb d_law_1006 (by decide) ?_
  refine lv_iadd hx hb d_law_1007 ?_
  refine va_sld hx hb hX hbl hbA hS hi5 d_law_1008 ?_
  refine lv_i2l hx hb d_law_1009 rfl ?_
  refine lv_ldc2 (v := 4294967295) hx hb hown (hU _ (am_pos 881 (by decide +kernel) rfl)) d_law_1010 ?_
  refine lv_land hx hb d_law_1013 ?_
  refine lv_lor hx hb d_law_1014 ?_
  refine lw_cX E (n := 4) met_RP_item (am_pos 567 (by decide +kernel) rfl) (am_pos 568 (by decide +kernel) rfl) (am_pos 569 (by decide +kernel) rfl) (am_pos 35 (by decide +kernel) rfl) (am_pos 570 (by decide +kernel) rfl) ⟨by decide +kernel, by decide +kernel, by decide +kernel⟩ rfl rfl ⟨Nat.le_of_ble_eq_true rfl, Nat.le_of_ble_eq_true rfl⟩ rfl (t := [.int (xs (i + 1).toNatClampNeg), .int (xs (i + 2).toNatClampNeg), .int (xs (i + 3).toNatClampNeg), .long ((((xs (i + 4).toNatClampNeg)).toInt64 <<< ((32 : Int32).toInt64 &&& 63)) ||| (((xs (i + 5).toNatClampNeg)).toInt64 &&& 4294967295))]) (r := []) (PX' := fun I L => CR I L (o_item A ((xs (i + 1).toNatClampNeg)) ((xs (i + 2).toNatClampNeg)) ((xs (i + 3).toNatClampNeg)) (((((xs (i + 4).toNatClampNeg)).toInt64 <<< ((32 : Int32).toInt64 &&& 63)) ||| (((xs (i + 5).toNatClampNeg)).toInt64 &&& 4294967295)))).2) (rv := (o_item A ((xs (i + 1).toNatClampNeg)) ((xs (i + 2).toNatClampNeg)) ((xs (i + 3).toNatClampNeg)) (((((xs (i + 4).toNatClampNeg)).toInt64 <<< ((32 : Int32).toInt64 &&& 63)) ||| (((xs (i + 5).toNatClampNeg)).toInt64 &&& 4294967295)))).1) d_law_1015 rfl rfl (Nat.le_of_ble_eq_true rfl) hl.1 (fun I L hC => ⟨rfl, A, hC, fun I2 L2 h => ⟨rfl, h⟩⟩) hSt ⟨Nat.le_refl _, Nat.le_refl _⟩ (fun H locs hSt => ?_)
  have hS := hSt.S
  refine lv_aload_n hx hb d_law_1018 rfl (lv_at hl 2 rfl) ?_
  refine lv_aload_n hx hb d_law_1019 rfl (lv_at hl 0 rfl) ?_
  refine lv_iload_n hx hb d_law_1020 rfl (lv_at hl 3 rfl) ?_
  refine lv_iconst (v := 1) hx hb d_law_1021 (by decide) ?_
  refine lv_iadd hx hb d_law_1022 ?_
  refine va_sld hx hb hX hbl hbA hS hi1 d_law_1023 ?_
  refine lv_aload_n hx hb d_law_1024 rfl (lv_at hl 0 rfl) ?_
  refine lv_iload_n hx hb d_law_1025 rfl (lv_at hl 3 rfl) ?_
  refine lv_iconst (v := 2) hx hb d_law_1026 (by decide) ?_
  refine lv_iadd hx hb d_law_1027 ?_
  refine va_sld hx hb hX hbl hbA hS hi2 d_law_1028 ?_
  refine lv_aload_n hx hb d_law_1029 rfl (lv_at hl 0 rfl) ?_
  refine lv_iload_n hx hb d_law_1030 rfl (lv_at hl 3 rfl) ?_
  refine lv_iconst (v := 3) hx hb d_law_1031 (by decide) ?_
  refine lv_iadd hx hb d_law_1032 ?_
  refine va_sld hx hb hX hbl hbA hS hi3 d_law_1033 ?_
  refine lv_aload_n hx hb d_law_1034 rfl (lv_at hl 0 rfl) ?_
  refine lv_iload_n hx hb d_law_1035 rfl (lv_at hl 3 rfl) ?_
  refine lv_iconst (v := 4) hx hb d_law_1036 (by decide) ?_
  refine lv_iadd hx hb d_law_1037 ?_
  refine va_sld hx hb hX hbl hbA hS hi4 d_law_1038 ?_
  refine lv_i2l hx hb d_law_1039 rfl ?_
  refine lv_bipush (v := 32) hx hb d_law_1040 (by decide) ?_
  refine lv_lshl hx hb d_law_1042 rfl ?_
  refine lv_aload_n hx hb d_law_1043 rfl (lv_at hl 0 rfl) ?_
  refine lv_iload_n hx hb d_law_1044 rfl (lv_at hl 3 rfl) ?_
  refine lv_iconst (v := 5) hx hb d_law_1045 (by decide) ?_
  refine lv_iadd hx hb d_law_1046 ?_
  refine va_sld hx hb hX hbl hbA hS hi5 d_law_1047 ?_
  refine lv_i2l hx hb d_law_1048 rfl ?_
  refine lv_ldc2 (v := 4294967295) hx hb hown (hU _ (am_pos 881 (by decide +kernel) rfl)) d_law_1049 ?_
  refine lv_land hx hb d_law_1052 ?_
  refine lv_lor hx hb d_law_1053 ?_
  refine lw_cM E (n := 4) met_MD_item (am_pos 870 (by decide +kernel) rfl) (am_pos 871 (by decide +kernel) rfl) (am_pos 872 (by decide +kernel) rfl) (am_pos 41 (by decide +kernel) rfl) (am_pos 873 (by decide +kernel) rfl) ⟨by decide +kernel, by decide +kernel, by decide +kernel⟩ rfl rfl ⟨Nat.le_of_ble_eq_true rfl, Nat.le_of_ble_eq_true rfl⟩ rfl (t := [.int (xs (i + 1).toNatClampNeg), .int (xs (i + 2).toNatClampNeg), .int (xs (i + 3).toNatClampNeg), .long ((((xs (i + 4).toNatClampNeg)).toInt64 <<< ((32 : Int32).toInt64 &&& 63)) ||| (((xs (i + 5).toNatClampNeg)).toInt64 &&& 4294967295))]) (r := [.int ((o_item A ((xs (i + 1).toNatClampNeg)) ((xs (i + 2).toNatClampNeg)) ((xs (i + 3).toNatClampNeg)) (((((xs (i + 4).toNatClampNeg)).toInt64 <<< ((32 : Int32).toInt64 &&& 63)) ||| (((xs (i + 5).toNatClampNeg)).toInt64 &&& 4294967295)))).1)]) (PM' := fun I L => ∃ c2, c2 ≤ cn + 4096 ∧ MR I L (o_item A ((xs (i + 1).toNatClampNeg)) ((xs (i + 2).toNatClampNeg)) ((xs (i + 3).toNatClampNeg)) (((((xs (i + 4).toNatClampNeg)).toInt64 <<< ((32 : Int32).toInt64 &&& 63)) ||| (((xs (i + 5).toNatClampNeg)).toInt64 &&& 4294967295)))).2 c2) (rv := (o_item A ((xs (i + 1).toNatClampNeg)) ((xs (i + 2).toNatClampNeg)) ((xs (i + 3).toNatClampNeg)) (((((xs (i + 4).toNatClampNeg)).toInt64 <<< ((32 : Int32).toInt64 &&& 63)) ||| (((xs (i + 5).toNatClampNeg)).toInt64 &&& 4294967295)))).1) d_law_1054 rfl rfl (Nat.le_of_ble_eq_true rfl) hl.1 (fun I L hC => ⟨rfl, A, cn, hC, hcn, fun I2 L2 c2 h1 h2 => ⟨rfl, c2, h1, h2⟩⟩) hSt ⟨Nat.le_refl _, Nat.le_refl _⟩ (fun H locs hSt => ?_)
  have hS := hSt.S
  refine lv_icmp_eq (tgt := 1125) hx hb d_law_1057 (by decide) (fun _ => ?_) (fun q => absurd rfl q)
  obtain ⟨IX, LX, IM, LM, a1, ⟨c2, b1, b2⟩, a3, a4, a5⟩ := hSt
  exact kk _ c2 _ _ b1 ⟨IX, LX, IM, LM, a1, b2, a3, a4, a5⟩
set_option maxRecDepth 100000 in
set_option maxHeartbeats 4000000 in
theorem law_24 {p : Program} {l : Launch} {e : Env} {s : State} {m : MethodId} {below : List Frame} {meth : Method} {c : Code} {b L : Nat} {xs : Nat → Int32} {D : va_G} {ca : Nat → ClassId} {adX adM : Nat → Nat} (E : lw_E p s m c b D ca adX adM) (hX : va_X b L xs s s.heap) (hbl : b < s.heap.size) {i : Int32} (hi : ∀ k : Nat, k < 8 → vp_in (i + nI k) L) {A : am_A} {cn : Nat} (hcn : cn + 4096 ≤ 1073741824) {H : Heap} {locs : List Loc} {ls : Array Slot} (hl : lv_has ls 4 [(0, .ref b), (1, .ref (adX 0)), (2, .ref (adM 0)), (3, .int i)]) (hSt : lw_St s D ca adX adM (fun I L => CR I L A) (fun I L => MR I L A cn) H locs)
    (kk : ∀ (A2 : am_A) (c2 : Nat) (H2 : Heap) (locs2 : List Loc), c2 ≤ cn + 4096 → lw_St s D ca adX adM (fun I L => CR I L A2) (fun I L => MR I L A2 c2) H2 locs2 → W p l e room_1 s m #[Value.ref b] below meth c H2 locs2 600000 7302250 (lw_Z below #[Value.ref b] s) (F0 m 1125 ls [])) : W p l e room_1 s m #[Value.ref b] below meth c H locs 600000 7302250 (lw_Z below #[Value.ref b] s) (F0 m 1062 ls []) := by
  obtain ⟨hx, hb, hml, hown, hU, hN, hK, hD⟩ := id E
  have hbA : ¬ (fun q : Nat => s.heap.size ≤ q) b := Nat.not_le.mpr hbl
  have hS := hSt.S
  have hi1 : vp_in (i + 1) L := hi 1 (by omega)
  have hi2 : vp_in (i + 2) L := hi 2 (by omega)
  have hi3 : vp_in (i + 3) L := hi 3 (by omega)
  have hi4 : vp_in (i + 4) L := hi 4 (by omega)
  have hi5 : vp_in (i + 5) L := hi 5 (by omega)
  refine lv_aload_n hx hb d_law_1062 rfl (lv_at hl 1 rfl) ?_
  refine lv_aload_n hx hb d_law_1063 rfl (lv_at hl 0 rfl) ?_
  refine lv_iload_n hx hb d_law_1064 rfl (lv_at hl 3 rfl) ?_
  refine lv_iconst (v := 1) hx hb d_law_1065 (by decide) ?_
  refine lv_iadd hx hb d_law_1066 ?_
  refine va_sld hx hb hX hbl hbA hS hi1 d_law_1067 ?_
  refine lv_aload_n hx hb d_law_1068 rfl (lv_at hl 0 rfl) ?_
  refine lv_iload_n hx hb d_law_1069 rfl (lv_at hl 3 rfl) ?_
  refine lv_iconst (v := 2) hx hb d_law_1070 (by decide) ?_
  refine lv_iadd hx hb d_law_1071 ?_
  refine va_sld hx hb hX hbl hbA hS hi2 d_law_1072 ?_
  refine lv_aload_n hx hb d_law_1073 rfl (lv_at hl 0 rfl) ?_
  refine lv_iload_n hx hb d_law_1074 rfl (lv_at hl 3 rfl) ?_
  refine lv_iconst (v := 3) hx hb d_law_1075 (by decide) ?_
  refine lv_iadd hx hb d_law_1076 ?_
  refine va_sld hx hb hX hbl hbA hS hi3 d_law_1077 ?_
  refine lv_aload_n hx hb d_law_1078 rfl (lv_at hl 0 rfl) ?_
  refine lv_iload_n hx hb d_law_1079 rfl (lv_at hl 3 rfl) ?_
  refine lv_iconst (v := 4) hx hb d_law_1080 (by decide) ?_
  refine lv_iadd hx hb d_law_1081 ?_
  refine va_sld hx hb hX hbl hbA hS hi4 d_law_1082 ?_
  refine lv_aload_n hx hb d_law_1083 rfl (lv_at hl 0 rfl) ?_
  refine lv_iload_n hx hb d_law_1084 rfl (lv_at hl 3 rfl) ?_
  refine lv_iconst (v := 5) hx hb d_law_1085 (by decide) ?_
  refine lv_iadd hx hb d_law_1086 ?_
  refine va_sld hx hb hX hbl hbA hS hi5 d_law_1087 ?_
  refine lw_cX E (n := 5) met_RP_copy (am_pos 571 (by decide +kernel) rfl) (am_pos 572 (by decide +kernel) rfl) (am_pos 573 (by decide +kernel) rfl) (am_pos 35 (by decide +kernel) rfl) (am_pos 574 (by decide +kernel) rfl) ⟨by decide +kernel, by decide +kernel, by decide +kernel⟩ rfl rfl ⟨Nat.le_of_ble_eq_true rfl, Nat.le_of_ble_eq_true rfl⟩ rfl (t := [.int (xs (i + 1).toNatClampNeg), .int (xs (i + 2).toNatClampNeg), .int (xs (i + 3).toNatClampNeg), .int (xs (i + 4).toNatClampNeg), .int (xs (i + 5).toNatClampNeg)]) (r := []) (PX' := fun I L => CR I L (o_copy A ((xs (i + 1).toNatClampNeg)) ((xs (i + 2).toNatClampNeg)) ((xs (i + 3).toNatClampNeg)) ((xs (i + 4).toNatClampNeg)) ((xs (i + 5).toNatClampNeg))).2) (rv := (o_copy A ((xs (i + 1).toNatClampNeg)) ((xs (i + 2).toNatClampNeg)) ((xs (i + 3).toNatClampNeg)) ((xs (i + 4).toNatClampNeg)) ((xs (i + 5).toNatClampNeg))).1) d_law_1088 rfl rfl (Nat.le_of_ble_eq_true rfl) hl.1 (fun I L hC => ⟨rfl, A, hC, fun I2 L2 h => ⟨rfl, h⟩⟩) hSt ⟨Nat.le_refl _, Nat.le_refl _⟩ (fun H locs hSt => ?_)
  have hS := hSt.S
  refine lv_aload_n hx hb d_law_1091 rfl (lv_at hl 2 rfl) ?_
  refine lv_aload_n hx hb d_law_1092 rfl (lv_at hl 0 rfl) ?_
  refine lv_iload_n hx hb d_law_1093 rfl (lv_at hl 3 rfl) ?_
  refine lv_iconst (v := 1) hx hb d_law_1094 (by decide) ?_
  refine lv_iadd hx hb d_law_1095 ?_
  refine va_sld hx hb hX hbl hbA hS hi1 d_law_1096 ?_
  refine lv_aload_n hx hb d_law_1097 rfl (lv_at hl 0 rfl) ?_
  refine lv_iload_n hx hb d_law_1098 rfl (lv_at hl 3 rfl) ?_
  refine lv_iconst (v := 2) hx hb d_law_1099 (by decide) ?_
  refine lv_iadd hx hb d_law_1100 ?_
  refine va_sld hx hb hX hbl hbA hS hi2 d_law_1101 ?_
  refine lv_aload_n hx hb d_law_1102 rfl (lv_at hl 0 rfl) ?_
  refine lv_iload_n hx hb d_law_1103 rfl (lv_at hl 3 rfl) ?_
  refine lv_iconst (v := 3) hx hb d_law_1104 (by decide) ?_
  refine lv_iadd hx hb d_law_1105 ?_
  refine va_sld hx hb hX hbl hbA hS hi3 d_law_1106 ?_
  refine lv_aload_n hx hb d_law_1107 rfl (lv_at hl 0 rfl) ?_
  refine lv_iload_n hx hb d_law_1108 rfl (lv_at hl 3 rfl) ?_
  refine lv_iconst (v := 4) hx hb d_law_1109 (by decide) ?_
  refine lv_iadd hx hb d_law_1110 ?_
  refine va_sld hx hb hX hbl hbA hS hi4 d_law_1111 ?_
  refine lv_aload_n hx hb d_law_1112 rfl (lv_at hl 0 rfl) ?_
  refine lv_iload_n hx hb d_law_1113 rfl (lv_at hl 3 rfl) ?_
  refine lv_iconst (v := 5) hx hb d_law_1114 (by decide) ?_
  refine lv_iadd hx hb d_law_1115 ?_
  refine va_sld hx hb hX hbl hbA hS hi5 d_law_1116 ?_
  refine lw_cM E (n := 5) met_MD_copy (am_pos 877 (by decide +kernel) rfl) (am_pos 878 (by decide +kernel) rfl) (am_pos 879 (by decide +kernel) rfl) (am_pos 41 (by decide +kernel) rfl) (am_pos 880 (by decide +kernel) rfl) ⟨by decide +kernel, by decide +kernel, by decide +kernel⟩ rfl rfl ⟨Nat.le_of_ble_eq_true rfl, Nat.le_of_ble_eq_true rfl⟩ rfl (t := [.int (xs (i + 1).toNatClampNeg), .int (xs (i + 2).toNatClampNeg), .int (xs (i + 3).toNatClampNeg), .int (xs (i + 4).toNatClampNeg), .int (xs (i + 5).toNatClampNeg)]) (r := [.int ((o_copy A ((xs (i + 1).toNatClampNeg)) ((xs (i + 2).toNatClampNeg)) ((xs (i + 3).toNatClampNeg)) ((xs (i + 4).toNatClampNeg)) ((xs (i + 5).toNatClampNeg))).1)]) (PM' := fun I L => ∃ c2, c2 ≤ cn + 4096 ∧ MR I L (o_copy A ((xs (i + 1).toNatClampNeg)) ((xs (i + 2).toNatClampNeg)) ((xs (i + 3).toNatClampNeg)) ((xs (i + 4).toNatClampNeg)) ((xs (i + 5).toNatClampNeg))).2 c2) (rv := (o_copy A ((xs (i + 1).toNatClampNeg)) ((xs (i + 2).toNatClampNeg)) ((xs (i + 3).toNatClampNeg)) ((xs (i + 4).toNatClampNeg)) ((xs (i + 5).toNatClampNeg))).1) d_law_1117 rfl rfl (Nat.le_of_ble_eq_true rfl) hl.1 (fun I L hC => ⟨rfl, A, cn, hC, hcn, fun I2 L2 c2 h1 h2 => ⟨rfl, c2, h1, h2⟩⟩) hSt ⟨Nat.le_refl _, Nat.le_refl _⟩ (fun H locs hSt => ?_)
  have hS := hSt.S
  refine lv_icmp_eq (tgt := 1125) hx hb d_law_1120 (by decide) (fun _ => ?_) (fun q => absurd rfl q)
  obtain ⟨IX, LX, IM, LM, a1, ⟨c2, b1, b2⟩, a3, a4, a5⟩ := hSt
  exact kk _ c2 _ _ b1 ⟨IX, LX, IM, LM, a1, b2, a3, a4, a5⟩
