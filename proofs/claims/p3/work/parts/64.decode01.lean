/-! decode rows, by program -/
theorem zd_24_818 : decode prog_14_method_1_code 818 = .ok (.bipush 12, 2) := by decide +kernel
theorem zd_24_820 : decode prog_14_method_1_code 820 = .ok (.newarray .int, 2) := by decide +kernel
theorem zd_24_822 : decode prog_14_method_1_code 822 = .ok (.putfield 307, 3) := by decide +kernel
theorem zd_24_825 : decode prog_14_method_1_code 825 = .ok (.aload_n 0, 1) := by decide +kernel
theorem zd_24_826 : decode prog_14_method_1_code 826 = .ok (.bipush 12, 2) := by decide +kernel
theorem zd_24_828 : decode prog_14_method_1_code 828 = .ok (.newarray .int, 2) := by decide +kernel
theorem zd_24_830 : decode prog_14_method_1_code 830 = .ok (.putfield 310, 3) := by decide +kernel
theorem zd_24_833 : decode prog_14_method_1_code 833 = .ok (.aload_n 0, 1) := by decide +kernel
theorem zd_24_834 : decode prog_14_method_1_code 834 = .ok (.bipush 12, 2) := by decide +kernel
theorem zd_24_836 : decode prog_14_method_1_code 836 = .ok (.newarray .int, 2) := by decide +kernel
theorem zd_24_838 : decode prog_14_method_1_code 838 = .ok (.putfield 313, 3) := by decide +kernel
theorem zd_24_841 : decode prog_14_method_1_code 841 = .ok (.aload_n 0, 1) := by decide +kernel
theorem zd_24_842 : decode prog_14_method_1_code 842 = .ok (.bipush 12, 2) := by decide +kernel
theorem zd_24_844 : decode prog_14_method_1_code 844 = .ok (.newarray .int, 2) := by decide +kernel
theorem zd_24_846 : decode prog_14_method_1_code 846 = .ok (.putfield 316, 3) := by decide +kernel
theorem zd_24_849 : decode prog_14_method_1_code 849 = .ok (.aload_n 0, 1) := by decide +kernel
theorem zd_24_850 : decode prog_14_method_1_code 850 = .ok (.bipush 12, 2) := by decide +kernel
theorem zd_24_852 : decode prog_14_method_1_code 852 = .ok (.newarray .int, 2) := by decide +kernel
theorem zd_24_854 : decode prog_14_method_1_code 854 = .ok (.putfield 319, 3) := by decide +kernel
theorem zd_24_857 : decode prog_14_method_1_code 857 = .ok (.aload_n 0, 1) := by decide +kernel
theorem zd_24_858 : decode prog_14_method_1_code 858 = .ok (.bipush 12, 2) := by decide +kernel
theorem zd_24_860 : decode prog_14_method_1_code 860 = .ok (.newarray .int, 2) := by decide +kernel
theorem zd_24_862 : decode prog_14_method_1_code 862 = .ok (.putfield 322, 3) := by decide +kernel
theorem zd_24_865 : decode prog_14_method_1_code 865 = .ok (.aload_n 0, 1) := by decide +kernel
theorem zd_24_866 : decode prog_14_method_1_code 866 = .ok (.ldc_w 325, 3) := by decide +kernel
theorem zd_24_869 : decode prog_14_method_1_code 869 = .ok (.newarray .int, 2) := by decide +kernel
theorem zd_24_871 : decode prog_14_method_1_code 871 = .ok (.putfield 326, 3) := by decide +kernel
theorem zd_24_874 : decode prog_14_method_1_code 874 = .ok (.aload_n 0, 1) := by decide +kernel
theorem zd_24_875 : decode prog_14_method_1_code 875 = .ok (.bipush 48, 2) := by decide +kernel
theorem zd_24_877 : decode prog_14_method_1_code 877 = .ok (.newarray .int, 2) := by decide +kernel
theorem zd_24_879 : decode prog_14_method_1_code 879 = .ok (.putfield 329, 3) := by decide +kernel
theorem zd_24_882 : decode prog_14_method_1_code 882 = .ok (.aload_n 0, 1) := by decide +kernel
theorem zd_24_883 : decode prog_14_method_1_code 883 = .ok (.bipush 48, 2) := by decide +kernel
theorem zd_24_885 : decode prog_14_method_1_code 885 = .ok (.newarray .int, 2) := by decide +kernel
theorem zd_24_887 : decode prog_14_method_1_code 887 = .ok (.putfield 332, 3) := by decide +kernel
theorem zd_24_890 : decode prog_14_method_1_code 890 = .ok (.aload_n 0, 1) := by decide +kernel
theorem zd_24_891 : decode prog_14_method_1_code 891 = .ok (.bipush 12, 2) := by decide +kernel
theorem zd_24_893 : decode prog_14_method_1_code 893 = .ok (.newarray .int, 2) := by decide +kernel
theorem zd_24_895 : decode prog_14_method_1_code 895 = .ok (.putfield 335, 3) := by decide +kernel
theorem zd_24_898 : decode prog_14_method_1_code 898 = .ok (.aload_n 0, 1) := by decide +kernel
theorem zd_24_899 : decode prog_14_method_1_code 899 = .ok (.bipush 12, 2) := by decide +kernel
theorem zd_24_901 : decode prog_14_method_1_code 901 = .ok (.newarray .int, 2) := by decide +kernel
theorem zd_24_903 : decode prog_14_method_1_code 903 = .ok (.putfield 338, 3) := by decide +kernel
theorem zd_24_906 : decode prog_14_method_1_code 906 = .ok (.aload_n 0, 1) := by decide +kernel
theorem zd_24_907 : decode prog_14_method_1_code 907 = .ok (.bipush 12, 2) := by decide +kernel
theorem zd_24_909 : decode prog_14_method_1_code 909 = .ok (.newarray .int, 2) := by decide +kernel
theorem zd_24_911 : decode prog_14_method_1_code 911 = .ok (.putfield 341, 3) := by decide +kernel
theorem zd_24_914 : decode prog_14_method_1_code 914 = .ok (.aload_n 0, 1) := by decide +kernel
theorem zd_24_915 : decode prog_14_method_1_code 915 = .ok (.bipush 12, 2) := by decide +kernel
theorem zd_24_917 : decode prog_14_method_1_code 917 = .ok (.newarray .int, 2) := by decide +kernel
theorem zd_24_919 : decode prog_14_method_1_code 919 = .ok (.putfield 344, 3) := by decide +kernel
theorem zd_24_922 : decode prog_14_method_1_code 922 = .ok (.aload_n 0, 1) := by decide +kernel
theorem zd_24_923 : decode prog_14_method_1_code 923 = .ok (.bipush 48, 2) := by decide +kernel
theorem zd_24_925 : decode prog_14_method_1_code 925 = .ok (.newarray .int, 2) := by decide +kernel
theorem zd_24_927 : decode prog_14_method_1_code 927 = .ok (.putfield 347, 3) := by decide +kernel
theorem zd_24_930 : decode prog_14_method_1_code 930 = .ok (.aload_n 0, 1) := by decide +kernel
theorem zd_24_931 : decode prog_14_method_1_code 931 = .ok (.bipush 9, 2) := by decide +kernel
theorem zd_24_933 : decode prog_14_method_1_code 933 = .ok (.newarray .boolean, 2) := by decide +kernel
theorem zd_24_935 : decode prog_14_method_1_code 935 = .ok (.putfield 350, 3) := by decide +kernel
theorem zd_24_938 : decode prog_14_method_1_code 938 = .ok (.aload_n 0, 1) := by decide +kernel
theorem zd_24_939 : decode prog_14_method_1_code 939 = .ok (.bipush 9, 2) := by decide +kernel
theorem zd_24_941 : decode prog_14_method_1_code 941 = .ok (.newarray .boolean, 2) := by decide +kernel
theorem zd_24_943 : decode prog_14_method_1_code 943 = .ok (.putfield 353, 3) := by decide +kernel
theorem zd_24_946 : decode prog_14_method_1_code 946 = .ok (.aload_n 0, 1) := by decide +kernel
theorem zd_24_947 : decode prog_14_method_1_code 947 = .ok (.bipush 9, 2) := by decide +kernel
theorem zd_24_949 : decode prog_14_method_1_code 949 = .ok (.newarray .boolean, 2) := by decide +kernel
theorem zd_24_951 : decode prog_14_method_1_code 951 = .ok (.putfield 356, 3) := by decide +kernel
theorem zd_24_954 : decode prog_14_method_1_code 954 = .ok (.aload_n 0, 1) := by decide +kernel
theorem zd_24_955 : decode prog_14_method_1_code 955 = .ok (.bipush 9, 2) := by decide +kernel
theorem zd_24_957 : decode prog_14_method_1_code 957 = .ok (.newarray .int, 2) := by decide +kernel
theorem zd_24_959 : decode prog_14_method_1_code 959 = .ok (.putfield 359, 3) := by decide +kernel
theorem zd_24_962 : decode prog_14_method_1_code 962 = .ok (.aload_n 0, 1) := by decide +kernel
theorem zd_24_963 : decode prog_14_method_1_code 963 = .ok (.sipush 200, 3) := by decide +kernel
theorem zd_24_966 : decode prog_14_method_1_code 966 = .ok (.newarray .int, 2) := by decide +kernel
theorem zd_24_968 : decode prog_14_method_1_code 968 = .ok (.putfield 362, 3) := by decide +kernel
theorem zd_24_971 : decode prog_14_method_1_code 971 = .ok (.aload_n 0, 1) := by decide +kernel
theorem zd_24_972 : decode prog_14_method_1_code 972 = .ok (.sipush 200, 3) := by decide +kernel
theorem zd_24_975 : decode prog_14_method_1_code 975 = .ok (.newarray .int, 2) := by decide +kernel
theorem zd_24_977 : decode prog_14_method_1_code 977 = .ok (.putfield 365, 3) := by decide +kernel
theorem zd_24_980 : decode prog_14_method_1_code 980 = .ok (.aload_n 0, 1) := by decide +kernel
theorem zd_24_981 : decode prog_14_method_1_code 981 = .ok (.sipush 600, 3) := by decide +kernel
theorem zd_24_984 : decode prog_14_method_1_code 984 = .ok (.newarray .int, 2) := by decide +kernel
theorem zd_24_986 : decode prog_14_method_1_code 986 = .ok (.putfield 368, 3) := by decide +kernel
theorem zd_24_989 : decode prog_14_method_1_code 989 = .ok (.aload_n 0, 1) := by decide +kernel
theorem zd_24_990 : decode prog_14_method_1_code 990 = .ok (.sipush 600, 3) := by decide +kernel
theorem zd_24_993 : decode prog_14_method_1_code 993 = .ok (.newarray .int, 2) := by decide +kernel
theorem zd_24_995 : decode prog_14_method_1_code 995 = .ok (.putfield 371, 3) := by decide +kernel
theorem zd_24_998 : decode prog_14_method_1_code 998 = .ok (.aload_n 0, 1) := by decide +kernel
theorem zd_24_999 : decode prog_14_method_1_code 999 = .ok (.sipush 600, 3) := by decide +kernel
theorem zd_24_1002 : decode prog_14_method_1_code 1002 = .ok (.newarray .int, 2) := by decide +kernel
theorem zd_24_1004 : decode prog_14_method_1_code 1004 = .ok (.putfield 374, 3) := by decide +kernel
theorem zd_24_1007 : decode prog_14_method_1_code 1007 = .ok (.aload_n 0, 1) := by decide +kernel
theorem zd_24_1008 : decode prog_14_method_1_code 1008 = .ok (.sipush 16384, 3) := by decide +kernel
theorem zd_24_1011 : decode prog_14_method_1_code 1011 = .ok (.newarray .int, 2) := by decide +kernel
theorem zd_24_1013 : decode prog_14_method_1_code 1013 = .ok (.putfield 377, 3) := by decide +kernel
theorem zd_24_1016 : decode prog_14_method_1_code 1016 = .ok (.aload_n 0, 1) := by decide +kernel
theorem zd_24_1017 : decode prog_14_method_1_code 1017 = .ok (.sipush 16384, 3) := by decide +kernel
theorem zd_24_1020 : decode prog_14_method_1_code 1020 = .ok (.newarray .int, 2) := by decide +kernel
theorem zd_24_1022 : decode prog_14_method_1_code 1022 = .ok (.putfield 380, 3) := by decide +kernel
theorem zd_24_1025 : decode prog_14_method_1_code 1025 = .ok (.aload_n 0, 1) := by decide +kernel
theorem zd_24_1026 : decode prog_14_method_1_code 1026 = .ok (.bipush 64, 2) := by decide +kernel
theorem zd_24_1028 : decode prog_14_method_1_code 1028 = .ok (.newarray .int, 2) := by decide +kernel
theorem zd_24_1030 : decode prog_14_method_1_code 1030 = .ok (.putfield 383, 3) := by decide +kernel
theorem zd_24_1033 : decode prog_14_method_1_code 1033 = .ok (.aload_n 0, 1) := by decide +kernel
theorem zd_24_1034 : decode prog_14_method_1_code 1034 = .ok (.bipush 64, 2) := by decide +kernel
theorem zd_24_1036 : decode prog_14_method_1_code 1036 = .ok (.newarray .boolean, 2) := by decide +kernel
theorem zd_24_1038 : decode prog_14_method_1_code 1038 = .ok (.putfield 386, 3) := by decide +kernel
theorem zd_24_1041 : decode prog_14_method_1_code 1041 = .ok (.aload_n 0, 1) := by decide +kernel
theorem zd_24_1042 : decode prog_14_method_1_code 1042 = .ok (.bipush 64, 2) := by decide +kernel
theorem zd_24_1044 : decode prog_14_method_1_code 1044 = .ok (.newarray .int, 2) := by decide +kernel
theorem zd_24_1046 : decode prog_14_method_1_code 1046 = .ok (.putfield 389, 3) := by decide +kernel
theorem zd_24_1049 : decode prog_14_method_1_code 1049 = .ok (.aload_n 0, 1) := by decide +kernel
theorem zd_24_1050 : decode prog_14_method_1_code 1050 = .ok (.bipush 64, 2) := by decide +kernel
theorem zd_24_1052 : decode prog_14_method_1_code 1052 = .ok (.newarray .int, 2) := by decide +kernel
theorem zd_24_1054 : decode prog_14_method_1_code 1054 = .ok (.putfield 392, 3) := by decide +kernel
theorem zd_24_1057 : decode prog_14_method_1_code 1057 = .ok (.aload_n 0, 1) := by decide +kernel
theorem zd_24_1058 : decode prog_14_method_1_code 1058 = .ok (.bipush 64, 2) := by decide +kernel
theorem zd_24_1060 : decode prog_14_method_1_code 1060 = .ok (.newarray .int, 2) := by decide +kernel
theorem zd_24_1062 : decode prog_14_method_1_code 1062 = .ok (.putfield 395, 3) := by decide +kernel
theorem zd_24_1065 : decode prog_14_method_1_code 1065 = .ok (.aload_n 0, 1) := by decide +kernel
theorem zd_24_1066 : decode prog_14_method_1_code 1066 = .ok (.bipush 64, 2) := by decide +kernel
theorem zd_24_1068 : decode prog_14_method_1_code 1068 = .ok (.newarray .int, 2) := by decide +kernel
theorem zd_24_1070 : decode prog_14_method_1_code 1070 = .ok (.putfield 398, 3) := by decide +kernel
theorem zd_24_1073 : decode prog_14_method_1_code 1073 = .ok (.aload_n 0, 1) := by decide +kernel
theorem zd_24_1074 : decode prog_14_method_1_code 1074 = .ok (.bipush 10, 2) := by decide +kernel
theorem zd_24_1076 : decode prog_14_method_1_code 1076 = .ok (.newarray .int, 2) := by decide +kernel
theorem zd_24_1078 : decode prog_14_method_1_code 1078 = .ok (.putfield 401, 3) := by decide +kernel
theorem zd_24_1081 : decode prog_14_method_1_code 1081 = .ok (.aload_n 0, 1) := by decide +kernel
theorem zd_24_1082 : decode prog_14_method_1_code 1082 = .ok (.bipush 10, 2) := by decide +kernel
theorem zd_24_1084 : decode prog_14_method_1_code 1084 = .ok (.newarray .int, 2) := by decide +kernel
theorem zd_24_1086 : decode prog_14_method_1_code 1086 = .ok (.putfield 404, 3) := by decide +kernel
theorem zd_24_1089 : decode prog_14_method_1_code 1089 = .ok (.aload_n 0, 1) := by decide +kernel
theorem zd_24_1090 : decode prog_14_method_1_code 1090 = .ok (.sipush 3000, 3) := by decide +kernel
theorem zd_24_1093 : decode prog_14_method_1_code 1093 = .ok (.newarray .int, 2) := by decide +kernel
theorem zd_24_1095 : decode prog_14_method_1_code 1095 = .ok (.putfield 407, 3) := by decide +kernel
theorem zd_24_1098 : decode prog_14_method_1_code 1098 = .ok (.aload_n 0, 1) := by decide +kernel
theorem zd_24_1099 : decode prog_14_method_1_code 1099 = .ok (.sipush 3000, 3) := by decide +kernel
theorem zd_24_1102 : decode prog_14_method_1_code 1102 = .ok (.newarray .int, 2) := by decide +kernel
theorem zd_24_1104 : decode prog_14_method_1_code 1104 = .ok (.putfield 410, 3) := by decide +kernel
theorem zd_24_1107 : decode prog_14_method_1_code 1107 = .ok (.aload_n 0, 1) := by decide +kernel
theorem zd_24_1108 : decode prog_14_method_1_code 1108 = .ok (.sipush 3000, 3) := by decide +kernel
theorem zd_24_1111 : decode prog_14_method_1_code 1111 = .ok (.newarray .int, 2) := by decide +kernel
theorem zd_24_1113 : decode prog_14_method_1_code 1113 = .ok (.putfield 413, 3) := by decide +kernel
theorem zd_24_1116 : decode prog_14_method_1_code 1116 = .ok (.aload_n 0, 1) := by decide +kernel
theorem zd_24_1117 : decode prog_14_method_1_code 1117 = .ok (.sipush 3000, 3) := by decide +kernel
theorem zd_24_1120 : decode prog_14_method_1_code 1120 = .ok (.newarray .int, 2) := by decide +kernel
theorem zd_24_1122 : decode prog_14_method_1_code 1122 = .ok (.putfield 416, 3) := by decide +kernel
theorem zd_24_1125 : decode prog_14_method_1_code 1125 = .ok (.aload_n 0, 1) := by decide +kernel
theorem zd_24_1126 : decode prog_14_method_1_code 1126 = .ok (.sipush 3000, 3) := by decide +kernel
theorem zd_24_1129 : decode prog_14_method_1_code 1129 = .ok (.newarray .int, 2) := by decide +kernel
theorem zd_24_1131 : decode prog_14_method_1_code 1131 = .ok (.putfield 419, 3) := by decide +kernel
theorem zd_24_1134 : decode prog_14_method_1_code 1134 = .ok (.aload_n 0, 1) := by decide +kernel
theorem zd_24_1135 : decode prog_14_method_1_code 1135 = .ok (.sipush 3000, 3) := by decide +kernel
theorem zd_24_1138 : decode prog_14_method_1_code 1138 = .ok (.newarray .int, 2) := by decide +kernel
theorem zd_24_1140 : decode prog_14_method_1_code 1140 = .ok (.putfield 422, 3) := by decide +kernel
theorem zd_24_1143 : decode prog_14_method_1_code 1143 = .ok (.aload_n 0, 1) := by decide +kernel
theorem zd_24_1144 : decode prog_14_method_1_code 1144 = .ok (.sipush 3000, 3) := by decide +kernel
theorem zd_24_1147 : decode prog_14_method_1_code 1147 = .ok (.newarray .int, 2) := by decide +kernel
theorem zd_24_1149 : decode prog_14_method_1_code 1149 = .ok (.putfield 425, 3) := by decide +kernel
theorem zd_24_1152 : decode prog_14_method_1_code 1152 = .ok (.aload_n 0, 1) := by decide +kernel
theorem zd_24_1153 : decode prog_14_method_1_code 1153 = .ok (.sipush 3000, 3) := by decide +kernel
theorem zd_24_1156 : decode prog_14_method_1_code 1156 = .ok (.newarray .int, 2) := by decide +kernel
theorem zd_24_1158 : decode prog_14_method_1_code 1158 = .ok (.putfield 428, 3) := by decide +kernel
theorem zd_24_1161 : decode prog_14_method_1_code 1161 = .ok (.aload_n 0, 1) := by decide +kernel
theorem zd_24_1162 : decode prog_14_method_1_code 1162 = .ok (.sipush 3001, 3) := by decide +kernel
theorem zd_24_1165 : decode prog_14_method_1_code 1165 = .ok (.newarray .int, 2) := by decide +kernel
theorem zd_24_1167 : decode prog_14_method_1_code 1167 = .ok (.putfield 431, 3) := by decide +kernel
theorem zd_24_1170 : decode prog_14_method_1_code 1170 = .ok (.aload_n 0, 1) := by decide +kernel
theorem zd_24_1171 : decode prog_14_method_1_code 1171 = .ok (.sipush 3001, 3) := by decide +kernel
theorem zd_24_1174 : decode prog_14_method_1_code 1174 = .ok (.newarray .int, 2) := by decide +kernel
theorem zd_24_1176 : decode prog_14_method_1_code 1176 = .ok (.putfield 434, 3) := by decide +kernel
theorem zd_24_1179 : decode prog_14_method_1_code 1179 = .ok (.aload_n 0, 1) := by decide +kernel
theorem zd_24_1180 : decode prog_14_method_1_code 1180 = .ok (.sipush 3001, 3) := by decide +kernel
theorem zd_24_1183 : decode prog_14_method_1_code 1183 = .ok (.newarray .int, 2) := by decide +kernel
theorem zd_24_1185 : decode prog_14_method_1_code 1185 = .ok (.putfield 437, 3) := by decide +kernel
theorem zd_24_1188 : decode prog_14_method_1_code 1188 = .ok (.aload_n 0, 1) := by decide +kernel
theorem zd_24_1189 : decode prog_14_method_1_code 1189 = .ok (.sipush 3001, 3) := by decide +kernel
theorem zd_24_1192 : decode prog_14_method_1_code 1192 = .ok (.newarray .int, 2) := by decide +kernel
theorem zd_24_1194 : decode prog_14_method_1_code 1194 = .ok (.putfield 440, 3) := by decide +kernel
theorem zd_24_1197 : decode prog_14_method_1_code 1197 = .ok (.aload_n 0, 1) := by decide +kernel
theorem zd_24_1198 : decode prog_14_method_1_code 1198 = .ok (.iconst 5, 1) := by decide +kernel
theorem zd_24_1199 : decode prog_14_method_1_code 1199 = .ok (.newarray .int, 2) := by decide +kernel
theorem zd_24_1201 : decode prog_14_method_1_code 1201 = .ok (.putfield 443, 3) := by decide +kernel
theorem zd_24_1204 : decode prog_14_method_1_code 1204 = .ok (.aload_n 0, 1) := by decide +kernel
theorem zd_24_1205 : decode prog_14_method_1_code 1205 = .ok (.bipush 12, 2) := by decide +kernel
theorem zd_24_1207 : decode prog_14_method_1_code 1207 = .ok (.newarray .int, 2) := by decide +kernel
theorem zd_24_1209 : decode prog_14_method_1_code 1209 = .ok (.putfield 446, 3) := by decide +kernel
theorem zd_24_1212 : decode prog_14_method_1_code 1212 = .ok (.aload_n 0, 1) := by decide +kernel
theorem zd_24_1213 : decode prog_14_method_1_code 1213 = .ok (.bipush 64, 2) := by decide +kernel
theorem zd_24_1215 : decode prog_14_method_1_code 1215 = .ok (.newarray .int, 2) := by decide +kernel
theorem zd_24_1217 : decode prog_14_method_1_code 1217 = .ok (.putfield 449, 3) := by decide +kernel
theorem zd_24_1220 : decode prog_14_method_1_code 1220 = .ok (.aload_n 0, 1) := by decide +kernel
theorem zd_24_1221 : decode prog_14_method_1_code 1221 = .ok (.ldc 13, 2) := by decide +kernel
theorem zd_24_1223 : decode prog_14_method_1_code 1223 = .ok (.newarray .byte, 2) := by decide +kernel
theorem zd_24_1225 : decode prog_14_method_1_code 1225 = .ok (.putfield 452, 3) := by decide +kernel
theorem zd_24_1228 : decode prog_14_method_1_code 1228 = .ok (.aload_n 0, 1) := by decide +kernel
theorem zd_24_1229 : decode prog_14_method_1_code 1229 = .ok (.ldc 13, 2) := by decide +kernel
theorem zd_24_1231 : decode prog_14_method_1_code 1231 = .ok (.newarray .int, 2) := by decide +kernel
theorem zd_24_1233 : decode prog_14_method_1_code 1233 = .ok (.putfield 455, 3) := by decide +kernel
theorem zd_24_1236 : decode prog_14_method_1_code 1236 = .ok (.aload_n 0, 1) := by decide +kernel
theorem zd_24_1237 : decode prog_14_method_1_code 1237 = .ok (.bipush 32, 2) := by decide +kernel
theorem zd_24_1239 : decode prog_14_method_1_code 1239 = .ok (.newarray .int, 2) := by decide +kernel
theorem zd_24_1241 : decode prog_14_method_1_code 1241 = .ok (.putfield 458, 3) := by decide +kernel
theorem zd_24_1244 : decode prog_14_method_1_code 1244 = .ok (.aload_n 0, 1) := by decide +kernel
theorem zd_24_1245 : decode prog_14_method_1_code 1245 = .ok (.bipush 64, 2) := by decide +kernel
theorem zd_24_1247 : decode prog_14_method_1_code 1247 = .ok (.newarray .int, 2) := by decide +kernel
theorem zd_24_1249 : decode prog_14_method_1_code 1249 = .ok (.putfield 461, 3) := by decide +kernel
theorem zd_24_1252 : decode prog_14_method_1_code 1252 = .ok (.aload_n 0, 1) := by decide +kernel
theorem zd_24_1253 : decode prog_14_method_1_code 1253 = .ok (.sipush 200, 3) := by decide +kernel
theorem zd_24_1256 : decode prog_14_method_1_code 1256 = .ok (.newarray .int, 2) := by decide +kernel
theorem zd_24_1258 : decode prog_14_method_1_code 1258 = .ok (.putfield 464, 3) := by decide +kernel
theorem zd_24_1261 : decode prog_14_method_1_code 1261 = .ok (.aload_n 0, 1) := by decide +kernel
theorem zd_24_1262 : decode prog_14_method_1_code 1262 = .ok (.bipush 64, 2) := by decide +kernel
theorem zd_24_1264 : decode prog_14_method_1_code 1264 = .ok (.newarray .int, 2) := by decide +kernel
theorem zd_24_1266 : decode prog_14_method_1_code 1266 = .ok (.putfield 467, 3) := by decide +kernel
theorem zd_24_1269 : decode prog_14_method_1_code 1269 = .ok (.aload_n 0, 1) := by decide +kernel
theorem zd_24_1270 : decode prog_14_method_1_code 1270 = .ok (.sipush 200, 3) := by decide +kernel
theorem zd_24_1273 : decode prog_14_method_1_code 1273 = .ok (.newarray .int, 2) := by decide +kernel
theorem zd_24_1275 : decode prog_14_method_1_code 1275 = .ok (.putfield 470, 3) := by decide +kernel
theorem zd_24_1278 : decode prog_14_method_1_code 1278 = .ok (.aload_n 0, 1) := by decide +kernel
theorem zd_24_1279 : decode prog_14_method_1_code 1279 = .ok (.sipush 384, 3) := by decide +kernel
theorem zd_24_1282 : decode prog_14_method_1_code 1282 = .ok (.newarray .int, 2) := by decide +kernel
theorem zd_24_1284 : decode prog_14_method_1_code 1284 = .ok (.putfield 473, 3) := by decide +kernel
theorem zd_24_1287 : decode prog_14_method_1_code 1287 = .ok (.aload_n 0, 1) := by decide +kernel
theorem zd_24_1288 : decode prog_14_method_1_code 1288 = .ok (.ldc_w 476, 3) := by decide +kernel
theorem zd_24_1291 : decode prog_14_method_1_code 1291 = .ok (.newarray .int, 2) := by decide +kernel
theorem zd_24_1293 : decode prog_14_method_1_code 1293 = .ok (.putfield 477, 3) := by decide +kernel
theorem zd_24_1296 : decode prog_14_method_1_code 1296 = .ok (.aload_n 0, 1) := by decide +kernel
theorem zd_24_1297 : decode prog_14_method_1_code 1297 = .ok (.ldc 132, 2) := by decide +kernel
theorem zd_24_1299 : decode prog_14_method_1_code 1299 = .ok (.newarray .int, 2) := by decide +kernel
theorem zd_24_1301 : decode prog_14_method_1_code 1301 = .ok (.putfield 480, 3) := by decide +kernel
theorem zd_24_1304 : decode prog_14_method_1_code 1304 = .ok (.aload_n 0, 1) := by decide +kernel
theorem zd_24_1305 : decode prog_14_method_1_code 1305 = .ok (.bipush 41, 2) := by decide +kernel
theorem zd_24_1307 : decode prog_14_method_1_code 1307 = .ok (.newarray .int, 2) := by decide +kernel
theorem zd_24_1309 : decode prog_14_method_1_code 1309 = .ok (.putfield 483, 3) := by decide +kernel
theorem zd_24_1312 : decode prog_14_method_1_code 1312 = .ok (.aload_n 0, 1) := by decide +kernel
theorem zd_24_1313 : decode prog_14_method_1_code 1313 = .ok (.bipush 41, 2) := by decide +kernel
theorem zd_24_1315 : decode prog_14_method_1_code 1315 = .ok (.newarray .int, 2) := by decide +kernel
theorem zd_24_1317 : decode prog_14_method_1_code 1317 = .ok (.putfield 486, 3) := by decide +kernel
theorem zd_24_1320 : decode prog_14_method_1_code 1320 = .ok (.aload_n 0, 1) := by decide +kernel
theorem zd_24_1321 : decode prog_14_method_1_code 1321 = .ok (.sipush 16605, 3) := by decide +kernel
theorem zd_24_1324 : decode prog_14_method_1_code 1324 = .ok (.newarray .int, 2) := by decide +kernel
theorem zd_24_1326 : decode prog_14_method_1_code 1326 = .ok (.putfield 489, 3) := by decide +kernel
theorem zd_24_1329 : decode prog_14_method_1_code 1329 = .ok (.aload_n 0, 1) := by decide +kernel
theorem zd_24_1330 : decode prog_14_method_1_code 1330 = .ok (.sipush 410, 3) := by decide +kernel
theorem zd_24_1333 : decode prog_14_method_1_code 1333 = .ok (.newarray .int, 2) := by decide +kernel
theorem zd_24_1335 : decode prog_14_method_1_code 1335 = .ok (.putfield 492, 3) := by decide +kernel
theorem zd_24_1338 : decode prog_14_method_1_code 1338 = .ok (.aload_n 0, 1) := by decide +kernel
theorem zd_24_1339 : decode prog_14_method_1_code 1339 = .ok (.invokevirtual 495, 3) := by decide +kernel
theorem zd_24_1342 : decode prog_14_method_1_code 1342 = .ok (.aload_n 0, 1) := by decide +kernel
theorem zd_24_1343 : decode prog_14_method_1_code 1343 = .ok (.invokevirtual 498, 3) := by decide +kernel
theorem zd_25_0 : decode prog_14_method_5_code 0 = .ok (.iconst 0, 1) := by decide +kernel
theorem zd_25_1 : decode prog_14_method_5_code 1 = .ok (.istore_n 2, 1) := by decide +kernel
theorem zd_25_2 : decode prog_14_method_5_code 2 = .ok (.iconst 1, 1) := by decide +kernel
theorem zd_25_3 : decode prog_14_method_5_code 3 = .ok (.istore_n 3, 1) := by decide +kernel
theorem zd_25_4 : decode prog_14_method_5_code 4 = .ok (.iconst 0, 1) := by decide +kernel
theorem zd_25_5 : decode prog_14_method_5_code 5 = .ok (.istore 4, 2) := by decide +kernel
theorem zd_25_7 : decode prog_14_method_5_code 7 = .ok (.iload 4, 2) := by decide +kernel
theorem zd_25_9 : decode prog_14_method_5_code 9 = .ok (.iconst 4, 1) := by decide +kernel
theorem zd_25_10 : decode prog_14_method_5_code 10 = .ok (.if_icmp .ge 69, 3) := by decide +kernel
theorem zd_25_13 : decode prog_14_method_5_code 13 = .ok (.iload_n 1, 1) := by decide +kernel
theorem zd_25_14 : decode prog_14_method_5_code 14 = .ok (.bipush 8, 2) := by decide +kernel
theorem zd_25_16 : decode prog_14_method_5_code 16 = .ok (.iload 4, 2) := by decide +kernel
theorem zd_25_18 : decode prog_14_method_5_code 18 = .ok (.imul, 1) := by decide +kernel
theorem zd_25_19 : decode prog_14_method_5_code 19 = .ok (.ishr, 1) := by decide +kernel
theorem zd_25_20 : decode prog_14_method_5_code 20 = .ok (.sipush 255, 3) := by decide +kernel
theorem zd_25_23 : decode prog_14_method_5_code 23 = .ok (.iand, 1) := by decide +kernel
theorem zd_25_24 : decode prog_14_method_5_code 24 = .ok (.istore 5, 2) := by decide +kernel
theorem zd_25_26 : decode prog_14_method_5_code 26 = .ok (.iload_n 3, 1) := by decide +kernel
theorem zd_25_27 : decode prog_14_method_5_code 27 = .ok (.ifCond .eq 31, 3) := by decide +kernel
theorem zd_25_30 : decode prog_14_method_5_code 30 = .ok (.iload 5, 2) := by decide +kernel
theorem zd_25_32 : decode prog_14_method_5_code 32 = .ok (.ifCond .eq 22, 3) := by decide +kernel
theorem zd_25_35 : decode prog_14_method_5_code 35 = .ok (.iload 5, 2) := by decide +kernel
theorem zd_25_37 : decode prog_14_method_5_code 37 = .ok (.bipush 10, 2) := by decide +kernel
theorem zd_25_39 : decode prog_14_method_5_code 39 = .ok (.if_icmp .eq 15, 3) := by decide +kernel
theorem zd_25_42 : decode prog_14_method_5_code 42 = .ok (.iload 5, 2) := by decide +kernel
theorem zd_25_44 : decode prog_14_method_5_code 44 = .ok (.bipush 32, 2) := by decide +kernel
theorem zd_25_46 : decode prog_14_method_5_code 46 = .ok (.bipush 126, 2) := by decide +kernel
theorem zd_25_48 : decode prog_14_method_5_code 48 = .ok (.invokestatic 504, 3) := by decide +kernel
theorem zd_25_51 : decode prog_14_method_5_code 51 = .ok (.ifCond .eq 7, 3) := by decide +kernel
theorem zd_25_54 : decode prog_14_method_5_code 54 = .ok (.iconst 1, 1) := by decide +kernel
theorem zd_25_55 : decode prog_14_method_5_code 55 = .ok (.goto 4, 3) := by decide +kernel
theorem zd_25_58 : decode prog_14_method_5_code 58 = .ok (.iconst 0, 1) := by decide +kernel
theorem zd_25_59 : decode prog_14_method_5_code 59 = .ok (.istore_n 3, 1) := by decide +kernel
theorem zd_25_60 : decode prog_14_method_5_code 60 = .ok (.iload 5, 2) := by decide +kernel
theorem zd_25_62 : decode prog_14_method_5_code 62 = .ok (.ifCond .le 9, 3) := by decide +kernel
theorem zd_25_65 : decode prog_14_method_5_code 65 = .ok (.iload_n 2, 1) := by decide +kernel
theorem zd_25_66 : decode prog_14_method_5_code 66 = .ok (.iconst 1, 1) := by decide +kernel
theorem zd_25_67 : decode prog_14_method_5_code 67 = .ok (.iadd, 1) := by decide +kernel
theorem zd_25_68 : decode prog_14_method_5_code 68 = .ok (.goto 4, 3) := by decide +kernel
theorem zd_25_71 : decode prog_14_method_5_code 71 = .ok (.iload_n 2, 1) := by decide +kernel
theorem zd_25_72 : decode prog_14_method_5_code 72 = .ok (.istore_n 2, 1) := by decide +kernel
theorem zd_25_73 : decode prog_14_method_5_code 73 = .ok (.iinc 4 1, 3) := by decide +kernel
theorem zd_25_76 : decode prog_14_method_5_code 76 = .ok (.goto (-69), 3) := by decide +kernel
theorem zd_25_79 : decode prog_14_method_5_code 79 = .ok (.aload_n 0, 1) := by decide +kernel
theorem zd_25_80 : decode prog_14_method_5_code 80 = .ok (.iload_n 3, 1) := by decide +kernel
theorem zd_25_81 : decode prog_14_method_5_code 81 = .ok (.ifCond .ne 7, 3) := by decide +kernel
theorem zd_25_84 : decode prog_14_method_5_code 84 = .ok (.iconst 1, 1) := by decide +kernel
theorem zd_25_85 : decode prog_14_method_5_code 85 = .ok (.goto 4, 3) := by decide +kernel
theorem zd_25_88 : decode prog_14_method_5_code 88 = .ok (.iconst 0, 1) := by decide +kernel
theorem zd_25_89 : decode prog_14_method_5_code 89 = .ok (.iload_n 3, 1) := by decide +kernel
theorem zd_25_90 : decode prog_14_method_5_code 90 = .ok (.ifCond .eq 19, 3) := by decide +kernel
theorem zd_25_93 : decode prog_14_method_5_code 93 = .ok (.aload_n 0, 1) := by decide +kernel
theorem zd_25_94 : decode prog_14_method_5_code 94 = .ok (.getfield 508, 3) := by decide +kernel
theorem zd_25_97 : decode prog_14_method_5_code 97 = .ok (.iload_n 2, 1) := by decide +kernel
theorem zd_25_98 : decode prog_14_method_5_code 98 = .ok (.iadd, 1) := by decide +kernel
theorem zd_25_99 : decode prog_14_method_5_code 99 = .ok (.sipush 3000, 3) := by decide +kernel
theorem zd_25_102 : decode prog_14_method_5_code 102 = .ok (.if_icmp .le 7, 3) := by decide +kernel
theorem zd_25_105 : decode prog_14_method_5_code 105 = .ok (.iconst 1, 1) := by decide +kernel
theorem zd_25_106 : decode prog_14_method_5_code 106 = .ok (.goto 4, 3) := by decide +kernel
theorem zd_25_109 : decode prog_14_method_5_code 109 = .ok (.iconst 0, 1) := by decide +kernel
theorem zd_25_110 : decode prog_14_method_5_code 110 = .ok (.invokevirtual 511, 3) := by decide +kernel
theorem zd_25_113 : decode prog_14_method_5_code 113 = .ok (.ifCond .eq 5, 3) := by decide +kernel
theorem zd_25_116 : decode prog_14_method_5_code 116 = .ok (.iconst 0, 1) := by decide +kernel
theorem zd_25_118 : decode prog_14_method_5_code 118 = .ok (.iconst 0, 1) := by decide +kernel
theorem zd_25_119 : decode prog_14_method_5_code 119 = .ok (.istore 4, 2) := by decide +kernel
theorem zd_25_121 : decode prog_14_method_5_code 121 = .ok (.iload 4, 2) := by decide +kernel
theorem zd_25_123 : decode prog_14_method_5_code 123 = .ok (.iconst 4, 1) := by decide +kernel
theorem zd_25_124 : decode prog_14_method_5_code 124 = .ok (.if_icmp .ge 48, 3) := by decide +kernel
theorem zd_25_127 : decode prog_14_method_5_code 127 = .ok (.iload_n 1, 1) := by decide +kernel
theorem zd_25_128 : decode prog_14_method_5_code 128 = .ok (.bipush 8, 2) := by decide +kernel
theorem zd_25_130 : decode prog_14_method_5_code 130 = .ok (.iload 4, 2) := by decide +kernel
theorem zd_25_132 : decode prog_14_method_5_code 132 = .ok (.imul, 1) := by decide +kernel
theorem zd_25_133 : decode prog_14_method_5_code 133 = .ok (.ishr, 1) := by decide +kernel
theorem zd_25_134 : decode prog_14_method_5_code 134 = .ok (.sipush 255, 3) := by decide +kernel
theorem zd_25_137 : decode prog_14_method_5_code 137 = .ok (.iand, 1) := by decide +kernel
theorem zd_25_138 : decode prog_14_method_5_code 138 = .ok (.istore 5, 2) := by decide +kernel
theorem zd_25_140 : decode prog_14_method_5_code 140 = .ok (.iload 5, 2) := by decide +kernel
theorem zd_25_142 : decode prog_14_method_5_code 142 = .ok (.ifCond .le 24, 3) := by decide +kernel
theorem zd_25_145 : decode prog_14_method_5_code 145 = .ok (.aload_n 0, 1) := by decide +kernel
theorem zd_25_146 : decode prog_14_method_5_code 146 = .ok (.getfield 7, 3) := by decide +kernel
theorem zd_25_149 : decode prog_14_method_5_code 149 = .ok (.aload_n 0, 1) := by decide +kernel
theorem zd_25_150 : decode prog_14_method_5_code 150 = .ok (.getfield 508, 3) := by decide +kernel
theorem zd_25_153 : decode prog_14_method_5_code 153 = .ok (.iload 5, 2) := by decide +kernel
theorem zd_25_155 : decode prog_14_method_5_code 155 = .ok (.iastore, 1) := by decide +kernel
theorem zd_25_156 : decode prog_14_method_5_code 156 = .ok (.aload_n 0, 1) := by decide +kernel
theorem zd_25_157 : decode prog_14_method_5_code 157 = .ok (.dup, 1) := by decide +kernel
theorem zd_25_158 : decode prog_14_method_5_code 158 = .ok (.getfield 508, 3) := by decide +kernel
theorem zd_25_161 : decode prog_14_method_5_code 161 = .ok (.iconst 1, 1) := by decide +kernel
theorem zd_25_162 : decode prog_14_method_5_code 162 = .ok (.iadd, 1) := by decide +kernel
theorem zd_25_163 : decode prog_14_method_5_code 163 = .ok (.putfield 508, 3) := by decide +kernel
theorem zd_25_166 : decode prog_14_method_5_code 166 = .ok (.iinc 4 1, 3) := by decide +kernel
theorem zd_25_169 : decode prog_14_method_5_code 169 = .ok (.goto (-48), 3) := by decide +kernel
theorem zd_25_172 : decode prog_14_method_5_code 172 = .ok (.aload_n 0, 1) := by decide +kernel
theorem zd_25_173 : decode prog_14_method_5_code 173 = .ok (.getfield 508, 3) := by decide +kernel
theorem zd_26_0 : decode prog_14_method_6_code 0 = .ok (.aload_n 0, 1) := by decide +kernel
theorem zd_26_1 : decode prog_14_method_6_code 1 = .ok (.iload_n 1, 1) := by decide +kernel
theorem zd_26_2 : decode prog_14_method_6_code 2 = .ok (.iconst 0, 1) := by decide +kernel
theorem zd_26_3 : decode prog_14_method_6_code 3 = .ok (.aload_n 0, 1) := by decide +kernel
theorem zd_26_4 : decode prog_14_method_6_code 4 = .ok (.getfield 508, 3) := by decide +kernel
theorem zd_26_7 : decode prog_14_method_6_code 7 = .ok (.invokestatic 504, 3) := by decide +kernel
theorem zd_26_10 : decode prog_14_method_6_code 10 = .ok (.ifCond .ne 7, 3) := by decide +kernel
theorem zd_26_13 : decode prog_14_method_6_code 13 = .ok (.iconst 1, 1) := by decide +kernel
theorem zd_26_14 : decode prog_14_method_6_code 14 = .ok (.goto 4, 3) := by decide +kernel
theorem zd_26_17 : decode prog_14_method_6_code 17 = .ok (.iconst 0, 1) := by decide +kernel
theorem zd_26_18 : decode prog_14_method_6_code 18 = .ok (.iconst 0, 1) := by decide +kernel
theorem zd_26_19 : decode prog_14_method_6_code 19 = .ok (.invokevirtual 511, 3) := by decide +kernel
theorem zd_26_22 : decode prog_14_method_6_code 22 = .ok (.ifCond .ne 8, 3) := by decide +kernel
theorem zd_26_25 : decode prog_14_method_6_code 25 = .ok (.aload_n 0, 1) := by decide +kernel
theorem zd_26_26 : decode prog_14_method_6_code 26 = .ok (.iload_n 1, 1) := by decide +kernel
theorem zd_26_27 : decode prog_14_method_6_code 27 = .ok (.putfield 508, 3) := by decide +kernel
theorem zd_27_0 : decode prog_14_method_93_code 0 = .ok (.aload_n 0, 1) := by decide +kernel
theorem zd_27_1 : decode prog_14_method_93_code 1 = .ok (.aload_n 0, 1) := by decide +kernel
theorem zd_27_2 : decode prog_14_method_93_code 2 = .ok (.getfield 525, 3) := by decide +kernel
theorem zd_27_5 : decode prog_14_method_93_code 5 = .ok (.bipush 6, 2) := by decide +kernel
theorem zd_27_7 : decode prog_14_method_93_code 7 = .ok (.if_icmp .ne 7, 3) := by decide +kernel
theorem zd_27_10 : decode prog_14_method_93_code 10 = .ok (.iconst 1, 1) := by decide +kernel
theorem zd_27_11 : decode prog_14_method_93_code 11 = .ok (.goto 4, 3) := by decide +kernel
theorem zd_27_14 : decode prog_14_method_93_code 14 = .ok (.iconst 0, 1) := by decide +kernel
theorem zd_27_15 : decode prog_14_method_93_code 15 = .ok (.iconst 0, 1) := by decide +kernel
theorem zd_27_16 : decode prog_14_method_93_code 16 = .ok (.invokevirtual 511, 3) := by decide +kernel
theorem zd_27_19 : decode prog_14_method_93_code 19 = .ok (.ifCond .eq 5, 3) := by decide +kernel
theorem zd_27_22 : decode prog_14_method_93_code 22 = .ok (.iconst 0, 1) := by decide +kernel
theorem zd_27_24 : decode prog_14_method_93_code 24 = .ok (.aload_n 0, 1) := by decide +kernel
theorem zd_27_25 : decode prog_14_method_93_code 25 = .ok (.invokevirtual 977, 3) := by decide +kernel
theorem zd_27_28 : decode prog_14_method_93_code 28 = .ok (.aload_n 0, 1) := by decide +kernel
theorem zd_27_29 : decode prog_14_method_93_code 29 = .ok (.aload_n 0, 1) := by decide +kernel
theorem zd_27_30 : decode prog_14_method_93_code 30 = .ok (.getfield 525, 3) := by decide +kernel
theorem zd_27_33 : decode prog_14_method_93_code 33 = .ok (.putfield 589, 3) := by decide +kernel
theorem zd_27_36 : decode prog_14_method_93_code 36 = .ok (.iconst 1, 1) := by decide +kernel
theorem zd_27_37 : decode prog_14_method_93_code 37 = .ok (.istore_n 1, 1) := by decide +kernel
theorem zd_27_38 : decode prog_14_method_93_code 38 = .ok (.iload_n 1, 1) := by decide +kernel
theorem zd_27_39 : decode prog_14_method_93_code 39 = .ok (.iconst 5, 1) := by decide +kernel
theorem zd_27_40 : decode prog_14_method_93_code 40 = .ok (.if_icmp .ge 16, 3) := by decide +kernel
theorem zd_27_43 : decode prog_14_method_93_code 43 = .ok (.aload_n 0, 1) := by decide +kernel
theorem zd_27_44 : decode prog_14_method_93_code 44 = .ok (.getfield 181, 3) := by decide +kernel
theorem zd_27_47 : decode prog_14_method_93_code 47 = .ok (.iload_n 1, 1) := by decide +kernel
theorem zd_27_48 : decode prog_14_method_93_code 48 = .ok (.iconst (-1), 1) := by decide +kernel
theorem zd_27_49 : decode prog_14_method_93_code 49 = .ok (.iastore, 1) := by decide +kernel
theorem zd_27_50 : decode prog_14_method_93_code 50 = .ok (.iinc 1 1, 3) := by decide +kernel
theorem zd_27_53 : decode prog_14_method_93_code 53 = .ok (.goto (-15), 3) := by decide +kernel
theorem zd_27_56 : decode prog_14_method_93_code 56 = .ok (.aload_n 0, 1) := by decide +kernel
theorem zd_27_57 : decode prog_14_method_93_code 57 = .ok (.invokevirtual 980, 3) := by decide +kernel
theorem zd_27_60 : decode prog_14_method_93_code 60 = .ok (.aload_n 0, 1) := by decide +kernel
theorem zd_27_61 : decode prog_14_method_93_code 61 = .ok (.invokevirtual 983, 3) := by decide +kernel
theorem zd_27_64 : decode prog_14_method_93_code 64 = .ok (.aload_n 0, 1) := by decide +kernel
theorem zd_27_65 : decode prog_14_method_93_code 65 = .ok (.getfield 181, 3) := by decide +kernel
theorem zd_27_68 : decode prog_14_method_93_code 68 = .ok (.iconst 1, 1) := by decide +kernel
theorem zd_27_69 : decode prog_14_method_93_code 69 = .ok (.iaload, 1) := by decide +kernel
theorem zd_27_70 : decode prog_14_method_93_code 70 = .ok (.ifCond .ge 7, 3) := by decide +kernel
theorem zd_27_73 : decode prog_14_method_93_code 73 = .ok (.aload_n 0, 1) := by decide +kernel
theorem zd_27_74 : decode prog_14_method_93_code 74 = .ok (.invokevirtual 986, 3) := by decide +kernel
theorem zd_27_77 : decode prog_14_method_93_code 77 = .ok (.aload_n 0, 1) := by decide +kernel
theorem zd_27_78 : decode prog_14_method_93_code 78 = .ok (.getfield 181, 3) := by decide +kernel
theorem zd_27_81 : decode prog_14_method_93_code 81 = .ok (.iconst 1, 1) := by decide +kernel
theorem zd_27_82 : decode prog_14_method_93_code 82 = .ok (.iaload, 1) := by decide +kernel
theorem zd_27_83 : decode prog_14_method_93_code 83 = .ok (.ifCond .lt 7, 3) := by decide +kernel
theorem zd_27_86 : decode prog_14_method_93_code 86 = .ok (.iconst 1, 1) := by decide +kernel
theorem zd_27_87 : decode prog_14_method_93_code 87 = .ok (.goto 43, 3) := by decide +kernel
theorem zd_27_90 : decode prog_14_method_93_code 90 = .ok (.aload_n 0, 1) := by decide +kernel
theorem zd_27_91 : decode prog_14_method_93_code 91 = .ok (.getfield 181, 3) := by decide +kernel
theorem zd_27_94 : decode prog_14_method_93_code 94 = .ok (.iconst 2, 1) := by decide +kernel
theorem zd_27_95 : decode prog_14_method_93_code 95 = .ok (.iaload, 1) := by decide +kernel
theorem zd_27_96 : decode prog_14_method_93_code 96 = .ok (.ifCond .lt 7, 3) := by decide +kernel
theorem zd_27_99 : decode prog_14_method_93_code 99 = .ok (.iconst 2, 1) := by decide +kernel
theorem zd_27_100 : decode prog_14_method_93_code 100 = .ok (.goto 30, 3) := by decide +kernel
theorem zd_27_103 : decode prog_14_method_93_code 103 = .ok (.aload_n 0, 1) := by decide +kernel
theorem zd_27_104 : decode prog_14_method_93_code 104 = .ok (.getfield 181, 3) := by decide +kernel
theorem zd_27_107 : decode prog_14_method_93_code 107 = .ok (.iconst 3, 1) := by decide +kernel
theorem zd_27_108 : decode prog_14_method_93_code 108 = .ok (.iaload, 1) := by decide +kernel
theorem zd_27_109 : decode prog_14_method_93_code 109 = .ok (.ifCond .lt 7, 3) := by decide +kernel
theorem zd_27_112 : decode prog_14_method_93_code 112 = .ok (.iconst 3, 1) := by decide +kernel
theorem zd_27_113 : decode prog_14_method_93_code 113 = .ok (.goto 17, 3) := by decide +kernel
theorem zd_27_116 : decode prog_14_method_93_code 116 = .ok (.aload_n 0, 1) := by decide +kernel
theorem zd_27_117 : decode prog_14_method_93_code 117 = .ok (.getfield 181, 3) := by decide +kernel
theorem zd_27_120 : decode prog_14_method_93_code 120 = .ok (.iconst 4, 1) := by decide +kernel
theorem zd_27_121 : decode prog_14_method_93_code 121 = .ok (.iaload, 1) := by decide +kernel
theorem zd_27_122 : decode prog_14_method_93_code 122 = .ok (.ifCond .lt 7, 3) := by decide +kernel
theorem zd_27_125 : decode prog_14_method_93_code 125 = .ok (.iconst 4, 1) := by decide +kernel
theorem zd_27_126 : decode prog_14_method_93_code 126 = .ok (.goto 4, 3) := by decide +kernel
theorem zd_27_129 : decode prog_14_method_93_code 129 = .ok (.iconst 0, 1) := by decide +kernel
theorem zd_27_130 : decode prog_14_method_93_code 130 = .ok (.istore_n 1, 1) := by decide +kernel
theorem zd_27_131 : decode prog_14_method_93_code 131 = .ok (.iload_n 1, 1) := by decide +kernel
theorem zd_27_132 : decode prog_14_method_93_code 132 = .ok (.ifCond .le 12, 3) := by decide +kernel
theorem zd_27_135 : decode prog_14_method_93_code 135 = .ok (.aload_n 0, 1) := by decide +kernel
theorem zd_27_136 : decode prog_14_method_93_code 136 = .ok (.getfield 181, 3) := by decide +kernel
theorem zd_27_139 : decode prog_14_method_93_code 139 = .ok (.iload_n 1, 1) := by decide +kernel
theorem zd_27_140 : decode prog_14_method_93_code 140 = .ok (.iaload, 1) := by decide +kernel
theorem zd_27_141 : decode prog_14_method_93_code 141 = .ok (.goto 4, 3) := by decide +kernel
theorem zd_27_144 : decode prog_14_method_93_code 144 = .ok (.iconst (-1), 1) := by decide +kernel
theorem zd_27_145 : decode prog_14_method_93_code 145 = .ok (.istore_n 2, 1) := by decide +kernel
theorem zd_27_146 : decode prog_14_method_93_code 146 = .ok (.iload_n 1, 1) := by decide +kernel
theorem zd_27_147 : decode prog_14_method_93_code 147 = .ok (.ifCond .ne 55, 3) := by decide +kernel
theorem zd_27_150 : decode prog_14_method_93_code 150 = .ok (.aload_n 0, 1) := by decide +kernel
theorem zd_27_151 : decode prog_14_method_93_code 151 = .ok (.invokevirtual 989, 3) := by decide +kernel
theorem zd_27_154 : decode prog_14_method_93_code 154 = .ok (.aload_n 0, 1) := by decide +kernel
theorem zd_27_155 : decode prog_14_method_93_code 155 = .ok (.getfield 728, 3) := by decide +kernel
theorem zd_27_158 : decode prog_14_method_93_code 158 = .ok (.ifCond .ne 19, 3) := by decide +kernel
theorem zd_27_161 : decode prog_14_method_93_code 161 = .ok (.aload_n 0, 1) := by decide +kernel
theorem zd_27_162 : decode prog_14_method_93_code 162 = .ok (.aload_n 0, 1) := by decide +kernel
theorem zd_27_163 : decode prog_14_method_93_code 163 = .ok (.getfield 589, 3) := by decide +kernel
theorem zd_27_166 : decode prog_14_method_93_code 166 = .ok (.iconst 1, 1) := by decide +kernel
theorem zd_27_167 : decode prog_14_method_93_code 167 = .ok (.invokevirtual 992, 3) := by decide +kernel
theorem zd_27_170 : decode prog_14_method_93_code 170 = .ok (.ifCond .eq 7, 3) := by decide +kernel
theorem zd_27_173 : decode prog_14_method_93_code 173 = .ok (.iconst 1, 1) := by decide +kernel
theorem zd_27_174 : decode prog_14_method_93_code 174 = .ok (.goto 4, 3) := by decide +kernel
theorem zd_27_177 : decode prog_14_method_93_code 177 = .ok (.iconst 0, 1) := by decide +kernel
theorem zd_27_178 : decode prog_14_method_93_code 178 = .ok (.istore_n 3, 1) := by decide +kernel
theorem zd_27_179 : decode prog_14_method_93_code 179 = .ok (.iload_n 3, 1) := by decide +kernel
theorem zd_27_180 : decode prog_14_method_93_code 180 = .ok (.ifCond .eq 7, 3) := by decide +kernel
theorem zd_27_183 : decode prog_14_method_93_code 183 = .ok (.iconst 0, 1) := by decide +kernel
theorem zd_27_184 : decode prog_14_method_93_code 184 = .ok (.goto 4, 3) := by decide +kernel
theorem zd_27_187 : decode prog_14_method_93_code 187 = .ok (.iconst 4, 1) := by decide +kernel
theorem zd_27_188 : decode prog_14_method_93_code 188 = .ok (.istore_n 1, 1) := by decide +kernel
theorem zd_27_189 : decode prog_14_method_93_code 189 = .ok (.iload_n 3, 1) := by decide +kernel
theorem zd_27_190 : decode prog_14_method_93_code 190 = .ok (.ifCond .eq 7, 3) := by decide +kernel
theorem zd_27_193 : decode prog_14_method_93_code 193 = .ok (.iconst (-1), 1) := by decide +kernel
theorem zd_27_194 : decode prog_14_method_93_code 194 = .ok (.goto 7, 3) := by decide +kernel
theorem zd_27_197 : decode prog_14_method_93_code 197 = .ok (.aload_n 0, 1) := by decide +kernel
theorem zd_27_198 : decode prog_14_method_93_code 198 = .ok (.getfield 508, 3) := by decide +kernel
theorem zd_27_201 : decode prog_14_method_93_code 201 = .ok (.istore_n 2, 1) := by decide +kernel
theorem zd_27_202 : decode prog_14_method_93_code 202 = .ok (.aload_n 0, 1) := by decide +kernel
theorem zd_27_203 : decode prog_14_method_93_code 203 = .ok (.iload_n 1, 1) := by decide +kernel
theorem zd_27_204 : decode prog_14_method_93_code 204 = .ok (.putfield 996, 3) := by decide +kernel
theorem zd_27_207 : decode prog_14_method_93_code 207 = .ok (.aload_n 0, 1) := by decide +kernel
theorem zd_27_208 : decode prog_14_method_93_code 208 = .ok (.iload_n 2, 1) := by decide +kernel
theorem zd_27_209 : decode prog_14_method_93_code 209 = .ok (.putfield 25, 3) := by decide +kernel
theorem zd_27_212 : decode prog_14_method_93_code 212 = .ok (.aload_n 0, 1) := by decide +kernel
theorem zd_27_213 : decode prog_14_method_93_code 213 = .ok (.iconst (-1), 1) := by decide +kernel
theorem zd_27_214 : decode prog_14_method_93_code 214 = .ok (.putfield 29, 3) := by decide +kernel
theorem zd_27_217 : decode prog_14_method_93_code 217 = .ok (.iload_n 1, 1) := by decide +kernel
theorem zd_27_218 : decode prog_14_method_93_code 218 = .ok (.ifCond .le 5, 3) := by decide +kernel
theorem zd_27_221 : decode prog_14_method_93_code 221 = .ok (.iconst (-1), 1) := by decide +kernel
theorem zd_27_223 : decode prog_14_method_93_code 223 = .ok (.aload_n 0, 1) := by decide +kernel
theorem zd_27_224 : decode prog_14_method_93_code 224 = .ok (.getfield 32, 3) := by decide +kernel
theorem zd_27_227 : decode prog_14_method_93_code 227 = .ok (.aload_n 0, 1) := by decide +kernel
theorem zd_27_228 : decode prog_14_method_93_code 228 = .ok (.getfield 589, 3) := by decide +kernel
theorem zd_27_231 : decode prog_14_method_93_code 231 = .ok (.iconst 1, 1) := by decide +kernel
theorem zd_27_232 : decode prog_14_method_93_code 232 = .ok (.bastore, 1) := by decide +kernel
theorem zd_27_233 : decode prog_14_method_93_code 233 = .ok (.aload_n 0, 1) := by decide +kernel
theorem zd_27_234 : decode prog_14_method_93_code 234 = .ok (.getfield 148, 3) := by decide +kernel
theorem zd_27_237 : decode prog_14_method_93_code 237 = .ok (.aload_n 0, 1) := by decide +kernel
theorem zd_27_238 : decode prog_14_method_93_code 238 = .ok (.getfield 589, 3) := by decide +kernel
theorem zd_27_241 : decode prog_14_method_93_code 241 = .ok (.aload_n 0, 1) := by decide +kernel
theorem zd_27_242 : decode prog_14_method_93_code 242 = .ok (.getfield 704, 3) := by decide +kernel
theorem zd_27_245 : decode prog_14_method_93_code 245 = .ok (.iastore, 1) := by decide +kernel
theorem zd_27_246 : decode prog_14_method_93_code 246 = .ok (.iconst 0, 1) := by decide +kernel
theorem zd_27_247 : decode prog_14_method_93_code 247 = .ok (.istore_n 3, 1) := by decide +kernel
theorem zd_27_248 : decode prog_14_method_93_code 248 = .ok (.iload_n 3, 1) := by decide +kernel
theorem zd_27_249 : decode prog_14_method_93_code 249 = .ok (.aload_n 0, 1) := by decide +kernel
theorem zd_27_250 : decode prog_14_method_93_code 250 = .ok (.getfield 704, 3) := by decide +kernel
theorem zd_27_253 : decode prog_14_method_93_code 253 = .ok (.if_icmp .ge 98, 3) := by decide +kernel
theorem zd_27_256 : decode prog_14_method_93_code 256 = .ok (.bipush 64, 2) := by decide +kernel
theorem zd_27_258 : decode prog_14_method_93_code 258 = .ok (.aload_n 0, 1) := by decide +kernel
theorem zd_27_259 : decode prog_14_method_93_code 259 = .ok (.getfield 589, 3) := by decide +kernel
theorem zd_27_262 : decode prog_14_method_93_code 262 = .ok (.imul, 1) := by decide +kernel
theorem zd_27_263 : decode prog_14_method_93_code 263 = .ok (.iload_n 3, 1) := by decide +kernel
theorem zd_27_264 : decode prog_14_method_93_code 264 = .ok (.iadd, 1) := by decide +kernel
theorem zd_27_265 : decode prog_14_method_93_code 265 = .ok (.istore 4, 2) := by decide +kernel
theorem zd_27_267 : decode prog_14_method_93_code 267 = .ok (.aload_n 0, 1) := by decide +kernel
theorem zd_27_268 : decode prog_14_method_93_code 268 = .ok (.getfield 151, 3) := by decide +kernel
theorem zd_27_271 : decode prog_14_method_93_code 271 = .ok (.iload 4, 2) := by decide +kernel
theorem zd_27_273 : decode prog_14_method_93_code 273 = .ok (.aload_n 0, 1) := by decide +kernel
theorem zd_27_274 : decode prog_14_method_93_code 274 = .ok (.getfield 208, 3) := by decide +kernel
theorem zd_27_277 : decode prog_14_method_93_code 277 = .ok (.iload_n 3, 1) := by decide +kernel
theorem zd_27_278 : decode prog_14_method_93_code 278 = .ok (.iaload, 1) := by decide +kernel
theorem zd_27_279 : decode prog_14_method_93_code 279 = .ok (.iastore, 1) := by decide +kernel
theorem zd_27_280 : decode prog_14_method_93_code 280 = .ok (.aload_n 0, 1) := by decide +kernel
theorem zd_27_281 : decode prog_14_method_93_code 281 = .ok (.getfield 154, 3) := by decide +kernel
theorem zd_27_284 : decode prog_14_method_93_code 284 = .ok (.iload 4, 2) := by decide +kernel
theorem zd_27_286 : decode prog_14_method_93_code 286 = .ok (.aload_n 0, 1) := by decide +kernel
theorem zd_27_287 : decode prog_14_method_93_code 287 = .ok (.getfield 211, 3) := by decide +kernel
theorem zd_27_290 : decode prog_14_method_93_code 290 = .ok (.iload_n 3, 1) := by decide +kernel
theorem zd_27_291 : decode prog_14_method_93_code 291 = .ok (.iaload, 1) := by decide +kernel
theorem zd_27_292 : decode prog_14_method_93_code 292 = .ok (.iastore, 1) := by decide +kernel
theorem zd_27_293 : decode prog_14_method_93_code 293 = .ok (.aload_n 0, 1) := by decide +kernel
theorem zd_27_294 : decode prog_14_method_93_code 294 = .ok (.getfield 157, 3) := by decide +kernel
theorem zd_27_297 : decode prog_14_method_93_code 297 = .ok (.iload 4, 2) := by decide +kernel
theorem zd_27_299 : decode prog_14_method_93_code 299 = .ok (.aload_n 0, 1) := by decide +kernel
theorem zd_27_300 : decode prog_14_method_93_code 300 = .ok (.getfield 214, 3) := by decide +kernel
theorem zd_27_303 : decode prog_14_method_93_code 303 = .ok (.iload_n 3, 1) := by decide +kernel
theorem zd_27_304 : decode prog_14_method_93_code 304 = .ok (.iaload, 1) := by decide +kernel
theorem zd_27_305 : decode prog_14_method_93_code 305 = .ok (.iastore, 1) := by decide +kernel
theorem zd_27_306 : decode prog_14_method_93_code 306 = .ok (.aload_n 0, 1) := by decide +kernel
theorem zd_27_307 : decode prog_14_method_93_code 307 = .ok (.getfield 160, 3) := by decide +kernel
theorem zd_27_310 : decode prog_14_method_93_code 310 = .ok (.iload 4, 2) := by decide +kernel
theorem zd_27_312 : decode prog_14_method_93_code 312 = .ok (.aload_n 0, 1) := by decide +kernel
theorem zd_27_313 : decode prog_14_method_93_code 313 = .ok (.getfield 217, 3) := by decide +kernel
theorem zd_27_316 : decode prog_14_method_93_code 316 = .ok (.iload_n 3, 1) := by decide +kernel
theorem zd_27_317 : decode prog_14_method_93_code 317 = .ok (.iaload, 1) := by decide +kernel
theorem zd_27_318 : decode prog_14_method_93_code 318 = .ok (.iastore, 1) := by decide +kernel
theorem zd_27_319 : decode prog_14_method_93_code 319 = .ok (.aload_n 0, 1) := by decide +kernel
theorem zd_27_320 : decode prog_14_method_93_code 320 = .ok (.getfield 163, 3) := by decide +kernel
theorem zd_27_323 : decode prog_14_method_93_code 323 = .ok (.iload 4, 2) := by decide +kernel
theorem zd_27_325 : decode prog_14_method_93_code 325 = .ok (.aload_n 0, 1) := by decide +kernel
theorem zd_27_326 : decode prog_14_method_93_code 326 = .ok (.getfield 220, 3) := by decide +kernel
theorem zd_27_329 : decode prog_14_method_93_code 329 = .ok (.iload_n 3, 1) := by decide +kernel
theorem zd_27_330 : decode prog_14_method_93_code 330 = .ok (.iaload, 1) := by decide +kernel
theorem zd_27_331 : decode prog_14_method_93_code 331 = .ok (.iastore, 1) := by decide +kernel
theorem zd_27_332 : decode prog_14_method_93_code 332 = .ok (.aload_n 0, 1) := by decide +kernel
theorem zd_27_333 : decode prog_14_method_93_code 333 = .ok (.getfield 166, 3) := by decide +kernel
theorem zd_27_336 : decode prog_14_method_93_code 336 = .ok (.iload 4, 2) := by decide +kernel
theorem zd_27_338 : decode prog_14_method_93_code 338 = .ok (.aload_n 0, 1) := by decide +kernel
theorem zd_27_339 : decode prog_14_method_93_code 339 = .ok (.getfield 223, 3) := by decide +kernel
theorem zd_27_342 : decode prog_14_method_93_code 342 = .ok (.iload_n 3, 1) := by decide +kernel
theorem zd_27_343 : decode prog_14_method_93_code 343 = .ok (.iaload, 1) := by decide +kernel
theorem zd_27_344 : decode prog_14_method_93_code 344 = .ok (.iastore, 1) := by decide +kernel
theorem zd_27_345 : decode prog_14_method_93_code 345 = .ok (.iinc 3 1, 3) := by decide +kernel
theorem zd_27_348 : decode prog_14_method_93_code 348 = .ok (.goto (-100), 3) := by decide +kernel
theorem zd_27_351 : decode prog_14_method_93_code 351 = .ok (.aload_n 0, 1) := by decide +kernel
theorem zd_27_352 : decode prog_14_method_93_code 352 = .ok (.dup, 1) := by decide +kernel
theorem zd_27_353 : decode prog_14_method_93_code 353 = .ok (.getfield 525, 3) := by decide +kernel
theorem zd_27_356 : decode prog_14_method_93_code 356 = .ok (.iconst 1, 1) := by decide +kernel
theorem zd_27_357 : decode prog_14_method_93_code 357 = .ok (.iadd, 1) := by decide +kernel
theorem zd_27_358 : decode prog_14_method_93_code 358 = .ok (.putfield 525, 3) := by decide +kernel
theorem zd_27_361 : decode prog_14_method_93_code 361 = .ok (.aload_n 0, 1) := by decide +kernel
theorem zd_27_362 : decode prog_14_method_93_code 362 = .ok (.invokevirtual 999, 3) := by decide +kernel
theorem zd_27_365 : decode prog_14_method_93_code 365 = .ok (.aload_n 0, 1) := by decide +kernel
theorem zd_27_366 : decode prog_14_method_93_code 366 = .ok (.getfield 525, 3) := by decide +kernel
theorem zd_27_369 : decode prog_14_method_93_code 369 = .ok (.iconst 1, 1) := by decide +kernel
theorem zd_27_370 : decode prog_14_method_93_code 370 = .ok (.isub, 1) := by decide +kernel
theorem zd_28_0 : decode prog_14_method_179_code 0 = .ok (.aload_n 0, 1) := by decide +kernel
theorem zd_28_1 : decode prog_14_method_179_code 1 = .ok (.aload_n 0, 1) := by decide +kernel
theorem zd_28_2 : decode prog_14_method_179_code 2 = .ok (.getfield 525, 3) := by decide +kernel
theorem zd_28_5 : decode prog_14_method_179_code 5 = .ok (.bipush 6, 2) := by decide +kernel
theorem zd_28_7 : decode prog_14_method_179_code 7 = .ok (.if_icmp .ne 7, 3) := by decide +kernel
theorem zd_28_10 : decode prog_14_method_179_code 10 = .ok (.iconst 1, 1) := by decide +kernel
theorem zd_28_11 : decode prog_14_method_179_code 11 = .ok (.goto 4, 3) := by decide +kernel
theorem zd_28_14 : decode prog_14_method_179_code 14 = .ok (.iconst 0, 1) := by decide +kernel
theorem zd_28_15 : decode prog_14_method_179_code 15 = .ok (.iconst 0, 1) := by decide +kernel
theorem zd_28_16 : decode prog_14_method_179_code 16 = .ok (.invokevirtual 511, 3) := by decide +kernel
theorem zd_28_19 : decode prog_14_method_179_code 19 = .ok (.ifCond .eq 5, 3) := by decide +kernel
theorem zd_28_22 : decode prog_14_method_179_code 22 = .ok (.iconst 0, 1) := by decide +kernel
theorem zd_28_24 : decode prog_14_method_179_code 24 = .ok (.aload_n 0, 1) := by decide +kernel
theorem zd_28_25 : decode prog_14_method_179_code 25 = .ok (.invokevirtual 977, 3) := by decide +kernel
theorem zd_28_28 : decode prog_14_method_179_code 28 = .ok (.aload_n 0, 1) := by decide +kernel
theorem zd_28_29 : decode prog_14_method_179_code 29 = .ok (.aload_n 0, 1) := by decide +kernel
theorem zd_28_30 : decode prog_14_method_179_code 30 = .ok (.getfield 525, 3) := by decide +kernel
theorem zd_28_33 : decode prog_14_method_179_code 33 = .ok (.iconst 0, 1) := by decide +kernel
theorem zd_28_34 : decode prog_14_method_179_code 34 = .ok (.invokevirtual 992, 3) := by decide +kernel
theorem zd_28_37 : decode prog_14_method_179_code 37 = .ok (.istore_n 1, 1) := by decide +kernel
theorem zd_28_38 : decode prog_14_method_179_code 38 = .ok (.aload_n 0, 1) := by decide +kernel
theorem zd_28_39 : decode prog_14_method_179_code 39 = .ok (.aload_n 0, 1) := by decide +kernel
theorem zd_28_40 : decode prog_14_method_179_code 40 = .ok (.getfield 1183, 3) := by decide +kernel
theorem zd_28_43 : decode prog_14_method_179_code 43 = .ok (.putfield 996, 3) := by decide +kernel
theorem zd_28_46 : decode prog_14_method_179_code 46 = .ok (.aload_n 0, 1) := by decide +kernel
theorem zd_28_47 : decode prog_14_method_179_code 47 = .ok (.iload_n 1, 1) := by decide +kernel
theorem zd_28_48 : decode prog_14_method_179_code 48 = .ok (.ifCond .eq 7, 3) := by decide +kernel
theorem zd_28_51 : decode prog_14_method_179_code 51 = .ok (.iconst (-1), 1) := by decide +kernel
theorem zd_28_52 : decode prog_14_method_179_code 52 = .ok (.goto 7, 3) := by decide +kernel
theorem zd_28_55 : decode prog_14_method_179_code 55 = .ok (.aload_n 0, 1) := by decide +kernel
theorem zd_28_56 : decode prog_14_method_179_code 56 = .ok (.getfield 1186, 3) := by decide +kernel
theorem zd_28_59 : decode prog_14_method_179_code 59 = .ok (.putfield 25, 3) := by decide +kernel
theorem zd_28_62 : decode prog_14_method_179_code 62 = .ok (.aload_n 0, 1) := by decide +kernel
theorem zd_28_63 : decode prog_14_method_179_code 63 = .ok (.iconst (-1), 1) := by decide +kernel
theorem zd_28_64 : decode prog_14_method_179_code 64 = .ok (.putfield 29, 3) := by decide +kernel
theorem zd_28_67 : decode prog_14_method_179_code 67 = .ok (.iload_n 1, 1) := by decide +kernel
theorem zd_28_68 : decode prog_14_method_179_code 68 = .ok (.ifCond .ne 5, 3) := by decide +kernel
theorem zd_28_71 : decode prog_14_method_179_code 71 = .ok (.iconst (-1), 1) := by decide +kernel
theorem zd_28_73 : decode prog_14_method_179_code 73 = .ok (.aload_n 0, 1) := by decide +kernel
theorem zd_28_74 : decode prog_14_method_179_code 74 = .ok (.getfield 32, 3) := by decide +kernel
theorem zd_28_77 : decode prog_14_method_179_code 77 = .ok (.aload_n 0, 1) := by decide +kernel
theorem zd_28_78 : decode prog_14_method_179_code 78 = .ok (.getfield 525, 3) := by decide +kernel
theorem zd_28_81 : decode prog_14_method_179_code 81 = .ok (.iconst 0, 1) := by decide +kernel
theorem zd_28_82 : decode prog_14_method_179_code 82 = .ok (.bastore, 1) := by decide +kernel
theorem zd_28_83 : decode prog_14_method_179_code 83 = .ok (.aload_n 0, 1) := by decide +kernel
theorem zd_28_84 : decode prog_14_method_179_code 84 = .ok (.dup, 1) := by decide +kernel
theorem zd_28_85 : decode prog_14_method_179_code 85 = .ok (.getfield 525, 3) := by decide +kernel
theorem zd_28_88 : decode prog_14_method_179_code 88 = .ok (.iconst 1, 1) := by decide +kernel
theorem zd_28_89 : decode prog_14_method_179_code 89 = .ok (.iadd, 1) := by decide +kernel
theorem zd_28_90 : decode prog_14_method_179_code 90 = .ok (.putfield 525, 3) := by decide +kernel
theorem zd_28_93 : decode prog_14_method_179_code 93 = .ok (.aload_n 0, 1) := by decide +kernel
theorem zd_28_94 : decode prog_14_method_179_code 94 = .ok (.invokevirtual 999, 3) := by decide +kernel
theorem zd_28_97 : decode prog_14_method_179_code 97 = .ok (.aload_n 0, 1) := by decide +kernel
theorem zd_28_98 : decode prog_14_method_179_code 98 = .ok (.getfield 525, 3) := by decide +kernel
theorem zd_28_101 : decode prog_14_method_179_code 101 = .ok (.iconst 1, 1) := by decide +kernel
theorem zd_28_102 : decode prog_14_method_179_code 102 = .ok (.isub, 1) := by decide +kernel
theorem zd_29_0 : decode prog_14_method_180_code 0 = .ok (.aload_n 0, 1) := by decide +kernel
theorem zd_29_1 : decode prog_14_method_180_code 1 = .ok (.iconst 0, 1) := by decide +kernel
theorem zd_29_2 : decode prog_14_method_180_code 2 = .ok (.putfield 501, 3) := by decide +kernel
theorem zd_29_5 : decode prog_14_method_180_code 5 = .ok (.aload_n 0, 1) := by decide +kernel
theorem zd_29_6 : decode prog_14_method_180_code 6 = .ok (.iconst 0, 1) := by decide +kernel
theorem zd_29_7 : decode prog_14_method_180_code 7 = .ok (.putfield 525, 3) := by decide +kernel
theorem zd_29_10 : decode prog_14_method_180_code 10 = .ok (.aload_n 0, 1) := by decide +kernel
theorem zd_29_11 : decode prog_14_method_180_code 11 = .ok (.invokevirtual 999, 3) := by decide +kernel
theorem zd_30_0 : decode prog_14_method_181_code 0 = .ok (.aload_n 0, 1) := by decide +kernel
theorem zd_30_1 : decode prog_14_method_181_code 1 = .ok (.iload_n 1, 1) := by decide +kernel
theorem zd_30_2 : decode prog_14_method_181_code 2 = .ok (.iconst 0, 1) := by decide +kernel
theorem zd_30_3 : decode prog_14_method_181_code 3 = .ok (.iconst 2, 1) := by decide +kernel
theorem zd_30_4 : decode prog_14_method_181_code 4 = .ok (.invokestatic 504, 3) := by decide +kernel
theorem zd_30_7 : decode prog_14_method_181_code 7 = .ok (.ifCond .ne 7, 3) := by decide +kernel
theorem zd_30_10 : decode prog_14_method_181_code 10 = .ok (.iconst 1, 1) := by decide +kernel
theorem zd_30_11 : decode prog_14_method_181_code 11 = .ok (.goto 4, 3) := by decide +kernel
theorem zd_30_14 : decode prog_14_method_181_code 14 = .ok (.iconst 0, 1) := by decide +kernel
theorem zd_30_15 : decode prog_14_method_181_code 15 = .ok (.iconst 0, 1) := by decide +kernel
theorem zd_30_16 : decode prog_14_method_181_code 16 = .ok (.invokevirtual 511, 3) := by decide +kernel
theorem zd_30_19 : decode prog_14_method_181_code 19 = .ok (.ifCond .eq 5, 3) := by decide +kernel
theorem zd_30_22 : decode prog_14_method_181_code 22 = .ok (.iconst 0, 1) := by decide +kernel
theorem zd_30_24 : decode prog_14_method_181_code 24 = .ok (.iload_n 1, 1) := by decide +kernel
theorem zd_30_25 : decode prog_14_method_181_code 25 = .ok (.ifCond .ne 10, 3) := by decide +kernel
theorem zd_30_28 : decode prog_14_method_181_code 28 = .ok (.aload_n 0, 1) := by decide +kernel
theorem zd_30_29 : decode prog_14_method_181_code 29 = .ok (.getfield 996, 3) := by decide +kernel
theorem zd_30_32 : decode prog_14_method_181_code 32 = .ok (.goto 19, 3) := by decide +kernel
theorem zd_30_35 : decode prog_14_method_181_code 35 = .ok (.iload_n 1, 1) := by decide +kernel
theorem zd_30_36 : decode prog_14_method_181_code 36 = .ok (.iconst 1, 1) := by decide +kernel
theorem zd_30_37 : decode prog_14_method_181_code 37 = .ok (.if_icmp .ne 10, 3) := by decide +kernel
theorem zd_30_40 : decode prog_14_method_181_code 40 = .ok (.aload_n 0, 1) := by decide +kernel
theorem zd_30_41 : decode prog_14_method_181_code 41 = .ok (.getfield 25, 3) := by decide +kernel
theorem zd_30_44 : decode prog_14_method_181_code 44 = .ok (.goto 7, 3) := by decide +kernel
theorem zd_30_47 : decode prog_14_method_181_code 47 = .ok (.aload_n 0, 1) := by decide +kernel
theorem zd_30_48 : decode prog_14_method_181_code 48 = .ok (.getfield 29, 3) := by decide +kernel
theorem zd_31_0 : decode prog_14_method_94_code 0 = .ok (.aload_n 0, 1) := by decide +kernel
theorem zd_31_1 : decode prog_14_method_94_code 1 = .ok (.iload_n 1, 1) := by decide +kernel
theorem zd_31_2 : decode prog_14_method_94_code 2 = .ok (.iconst 0, 1) := by decide +kernel
theorem zd_31_3 : decode prog_14_method_94_code 3 = .ok (.aload_n 0, 1) := by decide +kernel
theorem zd_31_4 : decode prog_14_method_94_code 4 = .ok (.getfield 525, 3) := by decide +kernel
theorem zd_31_7 : decode prog_14_method_94_code 7 = .ok (.iconst 1, 1) := by decide +kernel
theorem zd_31_8 : decode prog_14_method_94_code 8 = .ok (.isub, 1) := by decide +kernel
theorem zd_31_9 : decode prog_14_method_94_code 9 = .ok (.invokestatic 504, 3) := by decide +kernel
theorem zd_31_12 : decode prog_14_method_94_code 12 = .ok (.ifCond .eq 16, 3) := by decide +kernel
theorem zd_31_15 : decode prog_14_method_94_code 15 = .ok (.aload_n 0, 1) := by decide +kernel
theorem zd_31_16 : decode prog_14_method_94_code 16 = .ok (.getfield 32, 3) := by decide +kernel
theorem zd_31_19 : decode prog_14_method_94_code 19 = .ok (.iload_n 1, 1) := by decide +kernel
theorem zd_31_20 : decode prog_14_method_94_code 20 = .ok (.baload, 1) := by decide +kernel
theorem zd_31_21 : decode prog_14_method_94_code 21 = .ok (.ifCond .eq 7, 3) := by decide +kernel
theorem zd_31_24 : decode prog_14_method_94_code 24 = .ok (.iload_n 2, 1) := by decide +kernel
theorem zd_31_25 : decode prog_14_method_94_code 25 = .ok (.ifCond .ge 7, 3) := by decide +kernel
theorem zd_31_28 : decode prog_14_method_94_code 28 = .ok (.iconst 1, 1) := by decide +kernel
theorem zd_31_29 : decode prog_14_method_94_code 29 = .ok (.goto 4, 3) := by decide +kernel
theorem zd_31_32 : decode prog_14_method_94_code 32 = .ok (.iconst 0, 1) := by decide +kernel
theorem zd_31_33 : decode prog_14_method_94_code 33 = .ok (.iconst 0, 1) := by decide +kernel
theorem zd_31_34 : decode prog_14_method_94_code 34 = .ok (.invokevirtual 511, 3) := by decide +kernel
theorem zd_31_37 : decode prog_14_method_94_code 37 = .ok (.ifCond .eq 5, 3) := by decide +kernel
theorem zd_31_40 : decode prog_14_method_94_code 40 = .ok (.iconst 0, 1) := by decide +kernel
theorem zd_31_42 : decode prog_14_method_94_code 42 = .ok (.iload_n 2, 1) := by decide +kernel
theorem zd_31_43 : decode prog_14_method_94_code 43 = .ok (.aload_n 0, 1) := by decide +kernel
theorem zd_31_44 : decode prog_14_method_94_code 44 = .ok (.getfield 41, 3) := by decide +kernel
theorem zd_31_47 : decode prog_14_method_94_code 47 = .ok (.iload_n 1, 1) := by decide +kernel
theorem zd_31_48 : decode prog_14_method_94_code 48 = .ok (.iaload, 1) := by decide +kernel
theorem zd_31_49 : decode prog_14_method_94_code 49 = .ok (.if_icmp .ge 18, 3) := by decide +kernel
theorem zd_31_52 : decode prog_14_method_94_code 52 = .ok (.aload_n 0, 1) := by decide +kernel
theorem zd_31_53 : decode prog_14_method_94_code 53 = .ok (.getfield 37, 3) := by decide +kernel
theorem zd_31_56 : decode prog_14_method_94_code 56 = .ok (.ldc_w 325, 3) := by decide +kernel
theorem zd_31_59 : decode prog_14_method_94_code 59 = .ok (.iload_n 1, 1) := by decide +kernel
theorem zd_31_60 : decode prog_14_method_94_code 60 = .ok (.imul, 1) := by decide +kernel
theorem zd_31_61 : decode prog_14_method_94_code 61 = .ok (.iload_n 2, 1) := by decide +kernel
theorem zd_31_62 : decode prog_14_method_94_code 62 = .ok (.iadd, 1) := by decide +kernel
theorem zd_31_63 : decode prog_14_method_94_code 63 = .ok (.baload, 1) := by decide +kernel
theorem zd_31_64 : decode prog_14_method_94_code 64 = .ok (.goto 4, 3) := by decide +kernel
theorem zd_31_67 : decode prog_14_method_94_code 67 = .ok (.iconst (-1), 1) := by decide +kernel
theorem zd_32_0 : decode prog_14_method_184_code 0 = .ok (.aload_n 0, 1) := by decide +kernel
theorem zd_32_1 : decode prog_14_method_184_code 1 = .ok (.iload_n 1, 1) := by decide +kernel
theorem zd_32_2 : decode prog_14_method_184_code 2 = .ok (.invokevirtual 1573, 3) := by decide +kernel
theorem zd_32_5 : decode prog_14_method_184_code 5 = .ok (.istore_n 3, 1) := by decide +kernel
theorem zd_32_6 : decode prog_14_method_184_code 6 = .ok (.aload_n 0, 1) := by decide +kernel
theorem zd_32_7 : decode prog_14_method_184_code 7 = .ok (.iload_n 3, 1) := by decide +kernel
theorem zd_32_8 : decode prog_14_method_184_code 8 = .ok (.ifCond .ne 7, 3) := by decide +kernel
theorem zd_32_11 : decode prog_14_method_184_code 11 = .ok (.iconst 1, 1) := by decide +kernel
theorem zd_32_12 : decode prog_14_method_184_code 12 = .ok (.goto 4, 3) := by decide +kernel
theorem zd_32_15 : decode prog_14_method_184_code 15 = .ok (.iconst 0, 1) := by decide +kernel
theorem zd_32_16 : decode prog_14_method_184_code 16 = .ok (.iload_n 3, 1) := by decide +kernel
theorem zd_32_17 : decode prog_14_method_184_code 17 = .ok (.ifCond .eq 16, 3) := by decide +kernel
theorem zd_32_20 : decode prog_14_method_184_code 20 = .ok (.iload_n 2, 1) := by decide +kernel
theorem zd_32_21 : decode prog_14_method_184_code 21 = .ok (.iconst 0, 1) := by decide +kernel
theorem zd_32_22 : decode prog_14_method_184_code 22 = .ok (.iconst 4, 1) := by decide +kernel
theorem zd_32_23 : decode prog_14_method_184_code 23 = .ok (.invokestatic 504, 3) := by decide +kernel
theorem zd_32_26 : decode prog_14_method_184_code 26 = .ok (.ifCond .ne 7, 3) := by decide +kernel
theorem zd_32_29 : decode prog_14_method_184_code 29 = .ok (.iconst 1, 1) := by decide +kernel
theorem zd_32_30 : decode prog_14_method_184_code 30 = .ok (.goto 4, 3) := by decide +kernel
theorem zd_32_33 : decode prog_14_method_184_code 33 = .ok (.iconst 0, 1) := by decide +kernel
theorem zd_32_34 : decode prog_14_method_184_code 34 = .ok (.invokevirtual 511, 3) := by decide +kernel
theorem zd_32_37 : decode prog_14_method_184_code 37 = .ok (.ifCond .eq 5, 3) := by decide +kernel
theorem zd_32_40 : decode prog_14_method_184_code 40 = .ok (.iconst 0, 1) := by decide +kernel
theorem zd_32_42 : decode prog_14_method_184_code 42 = .ok (.iload_n 2, 1) := by decide +kernel
theorem zd_32_43 : decode prog_14_method_184_code 43 = .ok (.tableswitch 71 0 3 #[29, 50, 57, 64], 29) := by decide +kernel
theorem zd_32_72 : decode prog_14_method_184_code 72 = .ok (.iload_n 1, 1) := by decide +kernel
theorem zd_32_73 : decode prog_14_method_184_code 73 = .ok (.bipush 6, 2) := by decide +kernel
theorem zd_32_75 : decode prog_14_method_184_code 75 = .ok (.if_icmp .ge 16, 3) := by decide +kernel
theorem zd_32_78 : decode prog_14_method_184_code 78 = .ok (.aload_n 0, 1) := by decide +kernel
theorem zd_32_79 : decode prog_14_method_184_code 79 = .ok (.getfield 32, 3) := by decide +kernel
theorem zd_32_82 : decode prog_14_method_184_code 82 = .ok (.iload_n 1, 1) := by decide +kernel
theorem zd_32_83 : decode prog_14_method_184_code 83 = .ok (.baload, 1) := by decide +kernel
theorem zd_32_84 : decode prog_14_method_184_code 84 = .ok (.ifCond .eq 7, 3) := by decide +kernel
theorem zd_32_87 : decode prog_14_method_184_code 87 = .ok (.iconst 1, 1) := by decide +kernel
theorem zd_32_88 : decode prog_14_method_184_code 88 = .ok (.goto 4, 3) := by decide +kernel
theorem zd_32_91 : decode prog_14_method_184_code 91 = .ok (.iconst 0, 1) := by decide +kernel
theorem zd_32_93 : decode prog_14_method_184_code 93 = .ok (.aload_n 0, 1) := by decide +kernel
theorem zd_32_94 : decode prog_14_method_184_code 94 = .ok (.getfield 44, 3) := by decide +kernel
theorem zd_32_97 : decode prog_14_method_184_code 97 = .ok (.iload_n 1, 1) := by decide +kernel
theorem zd_32_98 : decode prog_14_method_184_code 98 = .ok (.iaload, 1) := by decide +kernel
theorem zd_32_100 : decode prog_14_method_184_code 100 = .ok (.aload_n 0, 1) := by decide +kernel
theorem zd_32_101 : decode prog_14_method_184_code 101 = .ok (.getfield 72, 3) := by decide +kernel
theorem zd_32_104 : decode prog_14_method_184_code 104 = .ok (.iload_n 1, 1) := by decide +kernel
theorem zd_32_105 : decode prog_14_method_184_code 105 = .ok (.iaload, 1) := by decide +kernel
theorem zd_32_107 : decode prog_14_method_184_code 107 = .ok (.aload_n 0, 1) := by decide +kernel
theorem zd_32_108 : decode prog_14_method_184_code 108 = .ok (.getfield 93, 3) := by decide +kernel
theorem zd_32_111 : decode prog_14_method_184_code 111 = .ok (.iload_n 1, 1) := by decide +kernel
theorem zd_32_112 : decode prog_14_method_184_code 112 = .ok (.iaload, 1) := by decide +kernel
theorem zd_32_114 : decode prog_14_method_184_code 114 = .ok (.iconst 0, 1) := by decide +kernel
theorem zd_32_115 : decode prog_14_method_184_code 115 = .ok (.istore 4, 2) := by decide +kernel
theorem zd_32_117 : decode prog_14_method_184_code 117 = .ok (.iconst 0, 1) := by decide +kernel
theorem zd_32_118 : decode prog_14_method_184_code 118 = .ok (.istore 5, 2) := by decide +kernel
theorem zd_32_120 : decode prog_14_method_184_code 120 = .ok (.iload 5, 2) := by decide +kernel
theorem zd_32_122 : decode prog_14_method_184_code 122 = .ok (.aload_n 0, 1) := by decide +kernel
theorem zd_32_123 : decode prog_14_method_184_code 123 = .ok (.getfield 44, 3) := by decide +kernel
theorem zd_32_126 : decode prog_14_method_184_code 126 = .ok (.iload_n 1, 1) := by decide +kernel
theorem zd_32_127 : decode prog_14_method_184_code 127 = .ok (.iaload, 1) := by decide +kernel
theorem zd_32_128 : decode prog_14_method_184_code 128 = .ok (.if_icmp .ge 26, 3) := by decide +kernel
theorem zd_32_131 : decode prog_14_method_184_code 131 = .ok (.iload 4, 2) := by decide +kernel
theorem zd_32_133 : decode prog_14_method_184_code 133 = .ok (.aload_n 0, 1) := by decide +kernel
theorem zd_32_134 : decode prog_14_method_184_code 134 = .ok (.getfield 53, 3) := by decide +kernel
theorem zd_32_137 : decode prog_14_method_184_code 137 = .ok (.bipush 64, 2) := by decide +kernel
theorem zd_32_139 : decode prog_14_method_184_code 139 = .ok (.iload_n 1, 1) := by decide +kernel
theorem zd_32_140 : decode prog_14_method_184_code 140 = .ok (.imul, 1) := by decide +kernel
theorem zd_32_141 : decode prog_14_method_184_code 141 = .ok (.iload 5, 2) := by decide +kernel
theorem zd_32_143 : decode prog_14_method_184_code 143 = .ok (.iadd, 1) := by decide +kernel
theorem zd_32_144 : decode prog_14_method_184_code 144 = .ok (.iaload, 1) := by decide +kernel
theorem zd_32_145 : decode prog_14_method_184_code 145 = .ok (.iadd, 1) := by decide +kernel
theorem zd_32_146 : decode prog_14_method_184_code 146 = .ok (.istore 4, 2) := by decide +kernel
theorem zd_32_148 : decode prog_14_method_184_code 148 = .ok (.iinc 5 1, 3) := by decide +kernel
theorem zd_32_151 : decode prog_14_method_184_code 151 = .ok (.goto (-31), 3) := by decide +kernel
theorem zd_32_154 : decode prog_14_method_184_code 154 = .ok (.iload 4, 2) := by decide +kernel
theorem zd_33_0 : decode prog_14_method_185_code 0 = .ok (.aload_n 0, 1) := by decide +kernel
theorem zd_33_1 : decode prog_14_method_185_code 1 = .ok (.iload_n 1, 1) := by decide +kernel
theorem zd_33_2 : decode prog_14_method_185_code 2 = .ok (.invokevirtual 1573, 3) := by decide +kernel
theorem zd_33_5 : decode prog_14_method_185_code 5 = .ok (.ifCond .eq 23, 3) := by decide +kernel
theorem zd_33_8 : decode prog_14_method_185_code 8 = .ok (.iload_n 2, 1) := by decide +kernel
theorem zd_33_9 : decode prog_14_method_185_code 9 = .ok (.iconst 0, 1) := by decide +kernel
theorem zd_33_10 : decode prog_14_method_185_code 10 = .ok (.aload_n 0, 1) := by decide +kernel
theorem zd_33_11 : decode prog_14_method_185_code 11 = .ok (.getfield 44, 3) := by decide +kernel
theorem zd_33_14 : decode prog_14_method_185_code 14 = .ok (.iload_n 1, 1) := by decide +kernel
theorem zd_33_15 : decode prog_14_method_185_code 15 = .ok (.iaload, 1) := by decide +kernel
theorem zd_33_16 : decode prog_14_method_185_code 16 = .ok (.iconst 1, 1) := by decide +kernel
theorem zd_33_17 : decode prog_14_method_185_code 17 = .ok (.isub, 1) := by decide +kernel
theorem zd_33_18 : decode prog_14_method_185_code 18 = .ok (.invokestatic 504, 3) := by decide +kernel
theorem zd_33_21 : decode prog_14_method_185_code 21 = .ok (.ifCond .eq 7, 3) := by decide +kernel
theorem zd_33_24 : decode prog_14_method_185_code 24 = .ok (.iconst 1, 1) := by decide +kernel
theorem zd_33_25 : decode prog_14_method_185_code 25 = .ok (.goto 4, 3) := by decide +kernel
theorem zd_33_28 : decode prog_14_method_185_code 28 = .ok (.iconst 0, 1) := by decide +kernel
theorem zd_33_29 : decode prog_14_method_185_code 29 = .ok (.istore 4, 2) := by decide +kernel
theorem zd_33_31 : decode prog_14_method_185_code 31 = .ok (.aload_n 0, 1) := by decide +kernel
theorem zd_33_32 : decode prog_14_method_185_code 32 = .ok (.iload 4, 2) := by decide +kernel
theorem zd_33_34 : decode prog_14_method_185_code 34 = .ok (.ifCond .ne 7, 3) := by decide +kernel
theorem zd_33_37 : decode prog_14_method_185_code 37 = .ok (.iconst 1, 1) := by decide +kernel
theorem zd_33_38 : decode prog_14_method_185_code 38 = .ok (.goto 4, 3) := by decide +kernel
theorem zd_33_41 : decode prog_14_method_185_code 41 = .ok (.iconst 0, 1) := by decide +kernel
theorem zd_33_42 : decode prog_14_method_185_code 42 = .ok (.iload 4, 2) := by decide +kernel
theorem zd_33_44 : decode prog_14_method_185_code 44 = .ok (.ifCond .eq 16, 3) := by decide +kernel
theorem zd_33_47 : decode prog_14_method_185_code 47 = .ok (.iload_n 3, 1) := by decide +kernel
theorem zd_33_48 : decode prog_14_method_185_code 48 = .ok (.iconst 0, 1) := by decide +kernel
theorem zd_33_49 : decode prog_14_method_185_code 49 = .ok (.iconst 3, 1) := by decide +kernel
theorem zd_33_50 : decode prog_14_method_185_code 50 = .ok (.invokestatic 504, 3) := by decide +kernel
theorem zd_33_53 : decode prog_14_method_185_code 53 = .ok (.ifCond .ne 7, 3) := by decide +kernel
theorem zd_33_56 : decode prog_14_method_185_code 56 = .ok (.iconst 1, 1) := by decide +kernel
theorem zd_33_57 : decode prog_14_method_185_code 57 = .ok (.goto 4, 3) := by decide +kernel
theorem zd_33_60 : decode prog_14_method_185_code 60 = .ok (.iconst 0, 1) := by decide +kernel
theorem zd_33_61 : decode prog_14_method_185_code 61 = .ok (.invokevirtual 511, 3) := by decide +kernel
theorem zd_33_64 : decode prog_14_method_185_code 64 = .ok (.ifCond .eq 5, 3) := by decide +kernel
theorem zd_33_67 : decode prog_14_method_185_code 67 = .ok (.iconst 0, 1) := by decide +kernel
theorem zd_33_69 : decode prog_14_method_185_code 69 = .ok (.bipush 64, 2) := by decide +kernel
theorem zd_33_71 : decode prog_14_method_185_code 71 = .ok (.iload_n 1, 1) := by decide +kernel
theorem zd_33_72 : decode prog_14_method_185_code 72 = .ok (.imul, 1) := by decide +kernel
theorem zd_33_73 : decode prog_14_method_185_code 73 = .ok (.iload_n 2, 1) := by decide +kernel
theorem zd_33_74 : decode prog_14_method_185_code 74 = .ok (.iadd, 1) := by decide +kernel
theorem zd_33_75 : decode prog_14_method_185_code 75 = .ok (.istore 5, 2) := by decide +kernel
theorem zd_33_77 : decode prog_14_method_185_code 77 = .ok (.iload_n 3, 1) := by decide +kernel
theorem zd_33_78 : decode prog_14_method_185_code 78 = .ok (.tableswitch 58 0 2 #[26, 42, 50], 26) := by decide +kernel
theorem zd_33_104 : decode prog_14_method_185_code 104 = .ok (.aload_n 0, 1) := by decide +kernel
theorem zd_33_105 : decode prog_14_method_185_code 105 = .ok (.getfield 50, 3) := by decide +kernel
theorem zd_33_108 : decode prog_14_method_185_code 108 = .ok (.iload 5, 2) := by decide +kernel
theorem zd_33_110 : decode prog_14_method_185_code 110 = .ok (.baload, 1) := by decide +kernel
theorem zd_33_111 : decode prog_14_method_185_code 111 = .ok (.ifCond .eq 7, 3) := by decide +kernel
theorem zd_33_114 : decode prog_14_method_185_code 114 = .ok (.iconst 1, 1) := by decide +kernel
theorem zd_33_115 : decode prog_14_method_185_code 115 = .ok (.goto 4, 3) := by decide +kernel
theorem zd_33_118 : decode prog_14_method_185_code 118 = .ok (.iconst 0, 1) := by decide +kernel
theorem zd_33_120 : decode prog_14_method_185_code 120 = .ok (.aload_n 0, 1) := by decide +kernel
theorem zd_33_121 : decode prog_14_method_185_code 121 = .ok (.getfield 53, 3) := by decide +kernel
theorem zd_33_124 : decode prog_14_method_185_code 124 = .ok (.iload 5, 2) := by decide +kernel
theorem zd_33_126 : decode prog_14_method_185_code 126 = .ok (.iaload, 1) := by decide +kernel
theorem zd_33_128 : decode prog_14_method_185_code 128 = .ok (.aload_n 0, 1) := by decide +kernel
theorem zd_33_129 : decode prog_14_method_185_code 129 = .ok (.getfield 56, 3) := by decide +kernel
theorem zd_33_132 : decode prog_14_method_185_code 132 = .ok (.iload 5, 2) := by decide +kernel
theorem zd_33_134 : decode prog_14_method_185_code 134 = .ok (.iaload, 1) := by decide +kernel
theorem zd_33_136 : decode prog_14_method_185_code 136 = .ok (.aload_n 0, 1) := by decide +kernel
theorem zd_33_137 : decode prog_14_method_185_code 137 = .ok (.getfield 1576, 3) := by decide +kernel
theorem zd_33_140 : decode prog_14_method_185_code 140 = .ok (.ifCond .eq 23, 3) := by decide +kernel
theorem zd_33_143 : decode prog_14_method_185_code 143 = .ok (.aload_n 0, 1) := by decide +kernel
theorem zd_33_144 : decode prog_14_method_185_code 144 = .ok (.getfield 65, 3) := by decide +kernel
theorem zd_33_147 : decode prog_14_method_185_code 147 = .ok (.iload 5, 2) := by decide +kernel
theorem zd_33_149 : decode prog_14_method_185_code 149 = .ok (.baload, 1) := by decide +kernel
theorem zd_33_150 : decode prog_14_method_185_code 150 = .ok (.ifCond .eq 13, 3) := by decide +kernel
theorem zd_33_153 : decode prog_14_method_185_code 153 = .ok (.aload_n 0, 1) := by decide +kernel
theorem zd_33_154 : decode prog_14_method_185_code 154 = .ok (.getfield 62, 3) := by decide +kernel
theorem zd_33_157 : decode prog_14_method_185_code 157 = .ok (.iload 5, 2) := by decide +kernel
theorem zd_33_159 : decode prog_14_method_185_code 159 = .ok (.iaload, 1) := by decide +kernel
theorem zd_33_160 : decode prog_14_method_185_code 160 = .ok (.goto 4, 3) := by decide +kernel
theorem zd_33_163 : decode prog_14_method_185_code 163 = .ok (.iconst (-1), 1) := by decide +kernel
theorem zd_34_0 : decode prog_14_method_186_code 0 = .ok (.aload_n 0, 1) := by decide +kernel
theorem zd_34_1 : decode prog_14_method_186_code 1 = .ok (.iload_n 1, 1) := by decide +kernel
theorem zd_34_2 : decode prog_14_method_186_code 2 = .ok (.invokevirtual 1573, 3) := by decide +kernel
theorem zd_34_5 : decode prog_14_method_186_code 5 = .ok (.ifCond .eq 23, 3) := by decide +kernel
theorem zd_34_8 : decode prog_14_method_186_code 8 = .ok (.iload_n 2, 1) := by decide +kernel
theorem zd_34_9 : decode prog_14_method_186_code 9 = .ok (.iconst 0, 1) := by decide +kernel
theorem zd_34_10 : decode prog_14_method_186_code 10 = .ok (.aload_n 0, 1) := by decide +kernel
theorem zd_34_11 : decode prog_14_method_186_code 11 = .ok (.getfield 44, 3) := by decide +kernel
theorem zd_34_14 : decode prog_14_method_186_code 14 = .ok (.iload_n 1, 1) := by decide +kernel
theorem zd_34_15 : decode prog_14_method_186_code 15 = .ok (.iaload, 1) := by decide +kernel
theorem zd_34_16 : decode prog_14_method_186_code 16 = .ok (.iconst 1, 1) := by decide +kernel
theorem zd_34_17 : decode prog_14_method_186_code 17 = .ok (.isub, 1) := by decide +kernel
theorem zd_34_18 : decode prog_14_method_186_code 18 = .ok (.invokestatic 504, 3) := by decide +kernel
theorem zd_34_21 : decode prog_14_method_186_code 21 = .ok (.ifCond .eq 7, 3) := by decide +kernel
theorem zd_34_24 : decode prog_14_method_186_code 24 = .ok (.iconst 1, 1) := by decide +kernel
theorem zd_34_25 : decode prog_14_method_186_code 25 = .ok (.goto 4, 3) := by decide +kernel
theorem zd_34_28 : decode prog_14_method_186_code 28 = .ok (.iconst 0, 1) := by decide +kernel
theorem zd_34_29 : decode prog_14_method_186_code 29 = .ok (.istore 4, 2) := by decide +kernel
theorem zd_34_31 : decode prog_14_method_186_code 31 = .ok (.iload 4, 2) := by decide +kernel
theorem zd_34_33 : decode prog_14_method_186_code 33 = .ok (.ifCond .eq 12, 3) := by decide +kernel
theorem zd_34_36 : decode prog_14_method_186_code 36 = .ok (.bipush 64, 2) := by decide +kernel
theorem zd_34_38 : decode prog_14_method_186_code 38 = .ok (.iload_n 1, 1) := by decide +kernel
theorem zd_34_39 : decode prog_14_method_186_code 39 = .ok (.imul, 1) := by decide +kernel
theorem zd_34_40 : decode prog_14_method_186_code 40 = .ok (.iload_n 2, 1) := by decide +kernel
theorem zd_34_41 : decode prog_14_method_186_code 41 = .ok (.iadd, 1) := by decide +kernel
theorem zd_34_42 : decode prog_14_method_186_code 42 = .ok (.goto 4, 3) := by decide +kernel
theorem zd_34_45 : decode prog_14_method_186_code 45 = .ok (.iconst 0, 1) := by decide +kernel
theorem zd_34_46 : decode prog_14_method_186_code 46 = .ok (.istore 5, 2) := by decide +kernel
theorem zd_34_48 : decode prog_14_method_186_code 48 = .ok (.iload 4, 2) := by decide +kernel
theorem zd_34_50 : decode prog_14_method_186_code 50 = .ok (.ifCond .eq 42, 3) := by decide +kernel
theorem zd_34_53 : decode prog_14_method_186_code 53 = .ok (.iload_n 3, 1) := by decide +kernel
theorem zd_34_54 : decode prog_14_method_186_code 54 = .ok (.ifCond .ge 23, 3) := by decide +kernel
theorem zd_34_57 : decode prog_14_method_186_code 57 = .ok (.aload_n 0, 1) := by decide +kernel
theorem zd_34_58 : decode prog_14_method_186_code 58 = .ok (.aload_n 0, 1) := by decide +kernel
theorem zd_34_59 : decode prog_14_method_186_code 59 = .ok (.getfield 47, 3) := by decide +kernel
theorem zd_34_62 : decode prog_14_method_186_code 62 = .ok (.iload 5, 2) := by decide +kernel
theorem zd_34_64 : decode prog_14_method_186_code 64 = .ok (.iaload, 1) := by decide +kernel
theorem zd_34_65 : decode prog_14_method_186_code 65 = .ok (.iconst (-1), 1) := by decide +kernel
theorem zd_34_66 : decode prog_14_method_186_code 66 = .ok (.iload_n 3, 1) := by decide +kernel
theorem zd_34_67 : decode prog_14_method_186_code 67 = .ok (.isub, 1) := by decide +kernel
theorem zd_34_68 : decode prog_14_method_186_code 68 = .ok (.invokevirtual 734, 3) := by decide +kernel
theorem zd_34_71 : decode prog_14_method_186_code 71 = .ok (.ifCond .lt 21, 3) := by decide +kernel
theorem zd_34_74 : decode prog_14_method_186_code 74 = .ok (.goto 14, 3) := by decide +kernel
theorem zd_34_77 : decode prog_14_method_186_code 77 = .ok (.iload_n 3, 1) := by decide +kernel
theorem zd_34_78 : decode prog_14_method_186_code 78 = .ok (.aload_n 0, 1) := by decide +kernel
theorem zd_34_79 : decode prog_14_method_186_code 79 = .ok (.getfield 53, 3) := by decide +kernel
theorem zd_34_82 : decode prog_14_method_186_code 82 = .ok (.iload 5, 2) := by decide +kernel
theorem zd_34_84 : decode prog_14_method_186_code 84 = .ok (.iaload, 1) := by decide +kernel
theorem zd_34_85 : decode prog_14_method_186_code 85 = .ok (.if_icmp .ge 7, 3) := by decide +kernel
theorem zd_34_88 : decode prog_14_method_186_code 88 = .ok (.iconst 1, 1) := by decide +kernel
theorem zd_34_89 : decode prog_14_method_186_code 89 = .ok (.goto 4, 3) := by decide +kernel
theorem zd_34_92 : decode prog_14_method_186_code 92 = .ok (.iconst 0, 1) := by decide +kernel
theorem zd_34_93 : decode prog_14_method_186_code 93 = .ok (.istore 4, 2) := by decide +kernel
theorem zd_34_95 : decode prog_14_method_186_code 95 = .ok (.aload_n 0, 1) := by decide +kernel
theorem zd_34_96 : decode prog_14_method_186_code 96 = .ok (.iload 4, 2) := by decide +kernel
theorem zd_34_98 : decode prog_14_method_186_code 98 = .ok (.ifCond .ne 7, 3) := by decide +kernel
theorem zd_34_101 : decode prog_14_method_186_code 101 = .ok (.iconst 1, 1) := by decide +kernel
theorem zd_34_102 : decode prog_14_method_186_code 102 = .ok (.goto 4, 3) := by decide +kernel
theorem zd_34_105 : decode prog_14_method_186_code 105 = .ok (.iconst 0, 1) := by decide +kernel
theorem zd_34_106 : decode prog_14_method_186_code 106 = .ok (.iconst 0, 1) := by decide +kernel
theorem zd_34_107 : decode prog_14_method_186_code 107 = .ok (.invokevirtual 511, 3) := by decide +kernel
theorem zd_34_110 : decode prog_14_method_186_code 110 = .ok (.ifCond .eq 5, 3) := by decide +kernel
theorem zd_34_113 : decode prog_14_method_186_code 113 = .ok (.iconst 0, 1) := by decide +kernel
theorem zd_34_115 : decode prog_14_method_186_code 115 = .ok (.iload_n 3, 1) := by decide +kernel
theorem zd_34_116 : decode prog_14_method_186_code 116 = .ok (.ifCond .ge 20, 3) := by decide +kernel
theorem zd_34_119 : decode prog_14_method_186_code 119 = .ok (.aload_n 0, 1) := by decide +kernel
theorem zd_34_120 : decode prog_14_method_186_code 120 = .ok (.aload_n 0, 1) := by decide +kernel
theorem zd_34_121 : decode prog_14_method_186_code 121 = .ok (.getfield 47, 3) := by decide +kernel
theorem zd_34_124 : decode prog_14_method_186_code 124 = .ok (.iload 5, 2) := by decide +kernel
theorem zd_34_126 : decode prog_14_method_186_code 126 = .ok (.iaload, 1) := by decide +kernel
theorem zd_34_127 : decode prog_14_method_186_code 127 = .ok (.iconst (-1), 1) := by decide +kernel
theorem zd_34_128 : decode prog_14_method_186_code 128 = .ok (.iload_n 3, 1) := by decide +kernel
theorem zd_34_129 : decode prog_14_method_186_code 129 = .ok (.isub, 1) := by decide +kernel
theorem zd_34_130 : decode prog_14_method_186_code 130 = .ok (.invokevirtual 734, 3) := by decide +kernel
theorem zd_34_133 : decode prog_14_method_186_code 133 = .ok (.goto 21, 3) := by decide +kernel
theorem zd_34_136 : decode prog_14_method_186_code 136 = .ok (.aload_n 0, 1) := by decide +kernel
theorem zd_34_137 : decode prog_14_method_186_code 137 = .ok (.getfield 69, 3) := by decide +kernel
theorem zd_34_140 : decode prog_14_method_186_code 140 = .ok (.aload_n 0, 1) := by decide +kernel
theorem zd_34_141 : decode prog_14_method_186_code 141 = .ok (.getfield 59, 3) := by decide +kernel
theorem zd_34_144 : decode prog_14_method_186_code 144 = .ok (.iload 5, 2) := by decide +kernel
theorem zd_34_146 : decode prog_14_method_186_code 146 = .ok (.iaload, 1) := by decide +kernel
theorem zd_34_147 : decode prog_14_method_186_code 147 = .ok (.iload_n 3, 1) := by decide +kernel
theorem zd_34_148 : decode prog_14_method_186_code 148 = .ok (.iadd, 1) := by decide +kernel
theorem zd_34_149 : decode prog_14_method_186_code 149 = .ok (.baload, 1) := by decide +kernel
theorem zd_34_150 : decode prog_14_method_186_code 150 = .ok (.sipush 255, 3) := by decide +kernel
theorem zd_34_153 : decode prog_14_method_186_code 153 = .ok (.iand, 1) := by decide +kernel
theorem zd_35_0 : decode prog_14_method_187_code 0 = .ok (.aload_n 0, 1) := by decide +kernel
theorem zd_35_1 : decode prog_14_method_187_code 1 = .ok (.iload_n 1, 1) := by decide +kernel
theorem zd_35_2 : decode prog_14_method_187_code 2 = .ok (.invokevirtual 1573, 3) := by decide +kernel
theorem zd_35_5 : decode prog_14_method_187_code 5 = .ok (.ifCond .eq 23, 3) := by decide +kernel
theorem zd_35_8 : decode prog_14_method_187_code 8 = .ok (.iload_n 2, 1) := by decide +kernel
theorem zd_35_9 : decode prog_14_method_187_code 9 = .ok (.iconst 0, 1) := by decide +kernel
theorem zd_35_10 : decode prog_14_method_187_code 10 = .ok (.aload_n 0, 1) := by decide +kernel
theorem zd_35_11 : decode prog_14_method_187_code 11 = .ok (.getfield 72, 3) := by decide +kernel
theorem zd_35_14 : decode prog_14_method_187_code 14 = .ok (.iload_n 1, 1) := by decide +kernel
theorem zd_35_15 : decode prog_14_method_187_code 15 = .ok (.iaload, 1) := by decide +kernel
theorem zd_35_16 : decode prog_14_method_187_code 16 = .ok (.iconst 1, 1) := by decide +kernel
theorem zd_35_17 : decode prog_14_method_187_code 17 = .ok (.isub, 1) := by decide +kernel
theorem zd_35_18 : decode prog_14_method_187_code 18 = .ok (.invokestatic 504, 3) := by decide +kernel
theorem zd_35_21 : decode prog_14_method_187_code 21 = .ok (.ifCond .eq 7, 3) := by decide +kernel
theorem zd_35_24 : decode prog_14_method_187_code 24 = .ok (.iconst 1, 1) := by decide +kernel
theorem zd_35_25 : decode prog_14_method_187_code 25 = .ok (.goto 4, 3) := by decide +kernel
theorem zd_35_28 : decode prog_14_method_187_code 28 = .ok (.iconst 0, 1) := by decide +kernel
theorem zd_35_29 : decode prog_14_method_187_code 29 = .ok (.istore 4, 2) := by decide +kernel
theorem zd_35_31 : decode prog_14_method_187_code 31 = .ok (.aload_n 0, 1) := by decide +kernel
theorem zd_35_32 : decode prog_14_method_187_code 32 = .ok (.iload 4, 2) := by decide +kernel
theorem zd_35_34 : decode prog_14_method_187_code 34 = .ok (.ifCond .ne 7, 3) := by decide +kernel
theorem zd_35_37 : decode prog_14_method_187_code 37 = .ok (.iconst 1, 1) := by decide +kernel
theorem zd_35_38 : decode prog_14_method_187_code 38 = .ok (.goto 4, 3) := by decide +kernel
theorem zd_35_41 : decode prog_14_method_187_code 41 = .ok (.iconst 0, 1) := by decide +kernel
theorem zd_35_42 : decode prog_14_method_187_code 42 = .ok (.iload 4, 2) := by decide +kernel
theorem zd_35_44 : decode prog_14_method_187_code 44 = .ok (.ifCond .eq 22, 3) := by decide +kernel
theorem zd_35_47 : decode prog_14_method_187_code 47 = .ok (.iload_n 3, 1) := by decide +kernel
theorem zd_35_48 : decode prog_14_method_187_code 48 = .ok (.iconst 0, 1) := by decide +kernel
theorem zd_35_49 : decode prog_14_method_187_code 49 = .ok (.iconst 3, 1) := by decide +kernel
theorem zd_35_50 : decode prog_14_method_187_code 50 = .ok (.invokestatic 504, 3) := by decide +kernel
theorem zd_35_53 : decode prog_14_method_187_code 53 = .ok (.ifCond .ne 13, 3) := by decide +kernel
theorem zd_35_56 : decode prog_14_method_187_code 56 = .ok (.iload_n 3, 1) := by decide +kernel
theorem zd_35_57 : decode prog_14_method_187_code 57 = .ok (.bipush 10, 2) := by decide +kernel
theorem zd_35_59 : decode prog_14_method_187_code 59 = .ok (.if_icmp .ge 7, 3) := by decide +kernel
theorem zd_35_62 : decode prog_14_method_187_code 62 = .ok (.iconst 1, 1) := by decide +kernel
theorem zd_35_63 : decode prog_14_method_187_code 63 = .ok (.goto 4, 3) := by decide +kernel
theorem zd_35_66 : decode prog_14_method_187_code 66 = .ok (.iconst 0, 1) := by decide +kernel
theorem zd_35_67 : decode prog_14_method_187_code 67 = .ok (.invokevirtual 511, 3) := by decide +kernel
theorem zd_35_70 : decode prog_14_method_187_code 70 = .ok (.ifCond .eq 5, 3) := by decide +kernel
theorem zd_35_73 : decode prog_14_method_187_code 73 = .ok (.iconst 0, 1) := by decide +kernel
theorem zd_35_75 : decode prog_14_method_187_code 75 = .ok (.sipush 600, 3) := by decide +kernel
theorem zd_35_78 : decode prog_14_method_187_code 78 = .ok (.iload_n 1, 1) := by decide +kernel
theorem zd_35_79 : decode prog_14_method_187_code 79 = .ok (.imul, 1) := by decide +kernel
theorem zd_35_80 : decode prog_14_method_187_code 80 = .ok (.iload_n 2, 1) := by decide +kernel
theorem zd_35_81 : decode prog_14_method_187_code 81 = .ok (.iadd, 1) := by decide +kernel
theorem zd_35_82 : decode prog_14_method_187_code 82 = .ok (.istore 5, 2) := by decide +kernel
theorem zd_35_84 : decode prog_14_method_187_code 84 = .ok (.iload_n 3, 1) := by decide +kernel
theorem zd_35_85 : decode prog_14_method_187_code 85 = .ok (.tableswitch 71 0 3 #[31, 39, 47, 63], 31) := by decide +kernel
theorem zd_35_116 : decode prog_14_method_187_code 116 = .ok (.aload_n 0, 1) := by decide +kernel
theorem zd_35_117 : decode prog_14_method_187_code 117 = .ok (.getfield 78, 3) := by decide +kernel
theorem zd_35_120 : decode prog_14_method_187_code 120 = .ok (.iload 5, 2) := by decide +kernel
theorem zd_35_122 : decode prog_14_method_187_code 122 = .ok (.iaload, 1) := by decide +kernel
theorem zd_35_124 : decode prog_14_method_187_code 124 = .ok (.aload_n 0, 1) := by decide +kernel
theorem zd_35_125 : decode prog_14_method_187_code 125 = .ok (.getfield 81, 3) := by decide +kernel
theorem zd_35_128 : decode prog_14_method_187_code 128 = .ok (.iload 5, 2) := by decide +kernel
theorem zd_35_130 : decode prog_14_method_187_code 130 = .ok (.iaload, 1) := by decide +kernel
theorem zd_35_132 : decode prog_14_method_187_code 132 = .ok (.aload_n 0, 1) := by decide +kernel
theorem zd_35_133 : decode prog_14_method_187_code 133 = .ok (.getfield 87, 3) := by decide +kernel
theorem zd_35_136 : decode prog_14_method_187_code 136 = .ok (.iload 5, 2) := by decide +kernel
theorem zd_35_138 : decode prog_14_method_187_code 138 = .ok (.baload, 1) := by decide +kernel
theorem zd_35_139 : decode prog_14_method_187_code 139 = .ok (.ifCond .eq 7, 3) := by decide +kernel
theorem zd_35_142 : decode prog_14_method_187_code 142 = .ok (.iconst 1, 1) := by decide +kernel
theorem zd_35_143 : decode prog_14_method_187_code 143 = .ok (.goto 4, 3) := by decide +kernel
theorem zd_35_146 : decode prog_14_method_187_code 146 = .ok (.iconst 0, 1) := by decide +kernel
theorem zd_35_148 : decode prog_14_method_187_code 148 = .ok (.aload_n 0, 1) := by decide +kernel
theorem zd_35_149 : decode prog_14_method_187_code 149 = .ok (.getfield 90, 3) := by decide +kernel
theorem zd_35_152 : decode prog_14_method_187_code 152 = .ok (.iload 5, 2) := by decide +kernel
theorem zd_35_154 : decode prog_14_method_187_code 154 = .ok (.iaload, 1) := by decide +kernel
theorem zd_35_156 : decode prog_14_method_187_code 156 = .ok (.aload_n 0, 1) := by decide +kernel
theorem zd_35_157 : decode prog_14_method_187_code 157 = .ok (.aload_n 0, 1) := by decide +kernel
theorem zd_35_158 : decode prog_14_method_187_code 158 = .ok (.getfield 75, 3) := by decide +kernel
theorem zd_35_161 : decode prog_14_method_187_code 161 = .ok (.iload 5, 2) := by decide +kernel
theorem zd_35_163 : decode prog_14_method_187_code 163 = .ok (.iaload, 1) := by decide +kernel
theorem zd_35_164 : decode prog_14_method_187_code 164 = .ok (.iload_n 3, 1) := by decide +kernel
theorem zd_35_165 : decode prog_14_method_187_code 165 = .ok (.bipush 10, 2) := by decide +kernel
theorem zd_35_167 : decode prog_14_method_187_code 167 = .ok (.isub, 1) := by decide +kernel
theorem zd_35_168 : decode prog_14_method_187_code 168 = .ok (.invokevirtual 734, 3) := by decide +kernel
theorem zd_36_0 : decode prog_14_method_188_code 0 = .ok (.aload_n 0, 1) := by decide +kernel
theorem zd_36_1 : decode prog_14_method_188_code 1 = .ok (.iload_n 1, 1) := by decide +kernel
theorem zd_36_2 : decode prog_14_method_188_code 2 = .ok (.invokevirtual 1573, 3) := by decide +kernel
theorem zd_36_5 : decode prog_14_method_188_code 5 = .ok (.ifCond .eq 23, 3) := by decide +kernel
theorem zd_36_8 : decode prog_14_method_188_code 8 = .ok (.iload_n 2, 1) := by decide +kernel
theorem zd_36_9 : decode prog_14_method_188_code 9 = .ok (.iconst 0, 1) := by decide +kernel
theorem zd_36_10 : decode prog_14_method_188_code 10 = .ok (.aload_n 0, 1) := by decide +kernel
theorem zd_36_11 : decode prog_14_method_188_code 11 = .ok (.getfield 93, 3) := by decide +kernel
theorem zd_36_14 : decode prog_14_method_188_code 14 = .ok (.iload_n 1, 1) := by decide +kernel
theorem zd_36_15 : decode prog_14_method_188_code 15 = .ok (.iaload, 1) := by decide +kernel
theorem zd_36_16 : decode prog_14_method_188_code 16 = .ok (.iconst 1, 1) := by decide +kernel
theorem zd_36_17 : decode prog_14_method_188_code 17 = .ok (.isub, 1) := by decide +kernel
theorem zd_36_18 : decode prog_14_method_188_code 18 = .ok (.invokestatic 504, 3) := by decide +kernel
theorem zd_36_21 : decode prog_14_method_188_code 21 = .ok (.ifCond .eq 7, 3) := by decide +kernel
theorem zd_36_24 : decode prog_14_method_188_code 24 = .ok (.iconst 1, 1) := by decide +kernel
theorem zd_36_25 : decode prog_14_method_188_code 25 = .ok (.goto 4, 3) := by decide +kernel
theorem zd_36_28 : decode prog_14_method_188_code 28 = .ok (.iconst 0, 1) := by decide +kernel
theorem zd_36_29 : decode prog_14_method_188_code 29 = .ok (.istore 4, 2) := by decide +kernel
theorem zd_36_31 : decode prog_14_method_188_code 31 = .ok (.aload_n 0, 1) := by decide +kernel
theorem zd_36_32 : decode prog_14_method_188_code 32 = .ok (.iload 4, 2) := by decide +kernel
theorem zd_36_34 : decode prog_14_method_188_code 34 = .ok (.ifCond .ne 7, 3) := by decide +kernel
theorem zd_36_37 : decode prog_14_method_188_code 37 = .ok (.iconst 1, 1) := by decide +kernel
theorem zd_36_38 : decode prog_14_method_188_code 38 = .ok (.goto 4, 3) := by decide +kernel
theorem zd_36_41 : decode prog_14_method_188_code 41 = .ok (.iconst 0, 1) := by decide +kernel
theorem zd_36_42 : decode prog_14_method_188_code 42 = .ok (.iload 4, 2) := by decide +kernel
theorem zd_36_44 : decode prog_14_method_188_code 44 = .ok (.ifCond .eq 22, 3) := by decide +kernel
theorem zd_36_47 : decode prog_14_method_188_code 47 = .ok (.iload_n 3, 1) := by decide +kernel
theorem zd_36_48 : decode prog_14_method_188_code 48 = .ok (.iconst 0, 1) := by decide +kernel
theorem zd_36_49 : decode prog_14_method_188_code 49 = .ok (.iconst 5, 1) := by decide +kernel
theorem zd_36_50 : decode prog_14_method_188_code 50 = .ok (.invokestatic 504, 3) := by decide +kernel
theorem zd_36_53 : decode prog_14_method_188_code 53 = .ok (.ifCond .ne 13, 3) := by decide +kernel
theorem zd_36_56 : decode prog_14_method_188_code 56 = .ok (.iload_n 3, 1) := by decide +kernel
theorem zd_36_57 : decode prog_14_method_188_code 57 = .ok (.bipush 10, 2) := by decide +kernel
theorem zd_36_59 : decode prog_14_method_188_code 59 = .ok (.if_icmp .ge 7, 3) := by decide +kernel
theorem zd_36_62 : decode prog_14_method_188_code 62 = .ok (.iconst 1, 1) := by decide +kernel
theorem zd_36_63 : decode prog_14_method_188_code 63 = .ok (.goto 4, 3) := by decide +kernel
theorem zd_36_66 : decode prog_14_method_188_code 66 = .ok (.iconst 0, 1) := by decide +kernel
theorem zd_36_67 : decode prog_14_method_188_code 67 = .ok (.invokevirtual 511, 3) := by decide +kernel
theorem zd_36_70 : decode prog_14_method_188_code 70 = .ok (.ifCond .eq 5, 3) := by decide +kernel
theorem zd_36_73 : decode prog_14_method_188_code 73 = .ok (.iconst 0, 1) := by decide +kernel
theorem zd_36_75 : decode prog_14_method_188_code 75 = .ok (.sipush 3000, 3) := by decide +kernel
theorem zd_36_78 : decode prog_14_method_188_code 78 = .ok (.iload_n 1, 1) := by decide +kernel
theorem zd_36_79 : decode prog_14_method_188_code 79 = .ok (.imul, 1) := by decide +kernel
theorem zd_36_80 : decode prog_14_method_188_code 80 = .ok (.iload_n 2, 1) := by decide +kernel
theorem zd_36_81 : decode prog_14_method_188_code 81 = .ok (.iadd, 1) := by decide +kernel
theorem zd_36_82 : decode prog_14_method_188_code 82 = .ok (.istore 5, 2) := by decide +kernel
theorem zd_36_84 : decode prog_14_method_188_code 84 = .ok (.iload_n 3, 1) := by decide +kernel
theorem zd_36_85 : decode prog_14_method_188_code 85 = .ok (.tableswitch 87 0 5 #[39, 47, 55, 63, 71, 79], 39) := by decide +kernel
theorem zd_36_124 : decode prog_14_method_188_code 124 = .ok (.aload_n 0, 1) := by decide +kernel
theorem zd_36_125 : decode prog_14_method_188_code 125 = .ok (.getfield 96, 3) := by decide +kernel
theorem zd_36_128 : decode prog_14_method_188_code 128 = .ok (.iload 5, 2) := by decide +kernel
theorem zd_36_130 : decode prog_14_method_188_code 130 = .ok (.iaload, 1) := by decide +kernel
theorem zd_36_132 : decode prog_14_method_188_code 132 = .ok (.aload_n 0, 1) := by decide +kernel
theorem zd_36_133 : decode prog_14_method_188_code 133 = .ok (.getfield 99, 3) := by decide +kernel
theorem zd_36_136 : decode prog_14_method_188_code 136 = .ok (.iload 5, 2) := by decide +kernel
theorem zd_36_138 : decode prog_14_method_188_code 138 = .ok (.iaload, 1) := by decide +kernel
theorem zd_36_140 : decode prog_14_method_188_code 140 = .ok (.aload_n 0, 1) := by decide +kernel
theorem zd_36_141 : decode prog_14_method_188_code 141 = .ok (.getfield 102, 3) := by decide +kernel
theorem zd_36_144 : decode prog_14_method_188_code 144 = .ok (.iload 5, 2) := by decide +kernel
theorem zd_36_146 : decode prog_14_method_188_code 146 = .ok (.iaload, 1) := by decide +kernel
theorem zd_36_148 : decode prog_14_method_188_code 148 = .ok (.aload_n 0, 1) := by decide +kernel
theorem zd_36_149 : decode prog_14_method_188_code 149 = .ok (.getfield 105, 3) := by decide +kernel
theorem zd_36_152 : decode prog_14_method_188_code 152 = .ok (.iload 5, 2) := by decide +kernel
theorem zd_36_154 : decode prog_14_method_188_code 154 = .ok (.iaload, 1) := by decide +kernel
theorem zd_36_156 : decode prog_14_method_188_code 156 = .ok (.aload_n 0, 1) := by decide +kernel
theorem zd_36_157 : decode prog_14_method_188_code 157 = .ok (.getfield 108, 3) := by decide +kernel
theorem zd_36_160 : decode prog_14_method_188_code 160 = .ok (.iload 5, 2) := by decide +kernel
theorem zd_36_162 : decode prog_14_method_188_code 162 = .ok (.iaload, 1) := by decide +kernel
theorem zd_36_164 : decode prog_14_method_188_code 164 = .ok (.aload_n 0, 1) := by decide +kernel
theorem zd_36_165 : decode prog_14_method_188_code 165 = .ok (.getfield 114, 3) := by decide +kernel
theorem zd_36_168 : decode prog_14_method_188_code 168 = .ok (.iload 5, 2) := by decide +kernel
theorem zd_36_170 : decode prog_14_method_188_code 170 = .ok (.iaload, 1) := by decide +kernel
theorem zd_36_172 : decode prog_14_method_188_code 172 = .ok (.aload_n 0, 1) := by decide +kernel
theorem zd_36_173 : decode prog_14_method_188_code 173 = .ok (.aload_n 0, 1) := by decide +kernel
theorem zd_36_174 : decode prog_14_method_188_code 174 = .ok (.getfield 111, 3) := by decide +kernel
theorem zd_36_177 : decode prog_14_method_188_code 177 = .ok (.iload 5, 2) := by decide +kernel
theorem zd_36_179 : decode prog_14_method_188_code 179 = .ok (.iaload, 1) := by decide +kernel
theorem zd_36_180 : decode prog_14_method_188_code 180 = .ok (.iload_n 3, 1) := by decide +kernel
theorem zd_36_181 : decode prog_14_method_188_code 181 = .ok (.bipush 10, 2) := by decide +kernel
theorem zd_36_183 : decode prog_14_method_188_code 183 = .ok (.isub, 1) := by decide +kernel
theorem zd_36_184 : decode prog_14_method_188_code 184 = .ok (.invokevirtual 734, 3) := by decide +kernel
theorem zd_37_0 : decode prog_14_method_207_code 0 = .ok (.aload_n 0, 1) := by decide +kernel
theorem zd_37_1 : decode prog_14_method_207_code 1 = .ok (.aload_n 0, 1) := by decide +kernel
theorem zd_37_2 : decode prog_14_method_207_code 2 = .ok (.getfield 1671, 3) := by decide +kernel
theorem zd_37_5 : decode prog_14_method_207_code 5 = .ok (.bipush 64, 2) := by decide +kernel
theorem zd_37_7 : decode prog_14_method_207_code 7 = .ok (.if_icmp .ne 7, 3) := by decide +kernel
theorem zd_37_10 : decode prog_14_method_207_code 10 = .ok (.iconst 1, 1) := by decide +kernel
theorem zd_37_11 : decode prog_14_method_207_code 11 = .ok (.goto 4, 3) := by decide +kernel
theorem zd_37_14 : decode prog_14_method_207_code 14 = .ok (.iconst 0, 1) := by decide +kernel
theorem zd_37_15 : decode prog_14_method_207_code 15 = .ok (.iconst 0, 1) := by decide +kernel
theorem zd_37_16 : decode prog_14_method_207_code 16 = .ok (.invokevirtual 511, 3) := by decide +kernel
theorem zd_37_19 : decode prog_14_method_207_code 19 = .ok (.ifCond .eq 5, 3) := by decide +kernel
theorem zd_37_22 : decode prog_14_method_207_code 22 = .ok (.iconst 0, 1) := by decide +kernel
theorem zd_37_24 : decode prog_14_method_207_code 24 = .ok (.aload_n 0, 1) := by decide +kernel
theorem zd_37_25 : decode prog_14_method_207_code 25 = .ok (.getfield 461, 3) := by decide +kernel
theorem zd_37_28 : decode prog_14_method_207_code 28 = .ok (.aload_n 0, 1) := by decide +kernel
theorem zd_37_29 : decode prog_14_method_207_code 29 = .ok (.getfield 1671, 3) := by decide +kernel
theorem zd_37_32 : decode prog_14_method_207_code 32 = .ok (.iload_n 1, 1) := by decide +kernel
theorem zd_37_33 : decode prog_14_method_207_code 33 = .ok (.iastore, 1) := by decide +kernel
theorem zd_37_34 : decode prog_14_method_207_code 34 = .ok (.aload_n 0, 1) := by decide +kernel
theorem zd_37_35 : decode prog_14_method_207_code 35 = .ok (.dup, 1) := by decide +kernel
theorem zd_37_36 : decode prog_14_method_207_code 36 = .ok (.getfield 1671, 3) := by decide +kernel
theorem zd_37_39 : decode prog_14_method_207_code 39 = .ok (.iconst 1, 1) := by decide +kernel
theorem zd_37_40 : decode prog_14_method_207_code 40 = .ok (.iadd, 1) := by decide +kernel
theorem zd_37_41 : decode prog_14_method_207_code 41 = .ok (.putfield 1671, 3) := by decide +kernel
theorem zd_37_44 : decode prog_14_method_207_code 44 = .ok (.aload_n 0, 1) := by decide +kernel
theorem zd_37_45 : decode prog_14_method_207_code 45 = .ok (.getfield 1671, 3) := by decide +kernel
theorem zd_38_0 : decode prog_14_method_205_code 0 = .ok (.aload_n 0, 1) := by decide +kernel
theorem zd_38_1 : decode prog_14_method_205_code 1 = .ok (.getfield 525, 3) := by decide +kernel
theorem zd_38_4 : decode prog_14_method_205_code 4 = .ok (.ifCond .ne 7, 3) := by decide +kernel
theorem zd_38_7 : decode prog_14_method_205_code 7 = .ok (.iconst 1, 1) := by decide +kernel
theorem zd_38_8 : decode prog_14_method_205_code 8 = .ok (.goto 4, 3) := by decide +kernel
theorem zd_38_11 : decode prog_14_method_205_code 11 = .ok (.iconst 0, 1) := by decide +kernel
theorem zd_38_12 : decode prog_14_method_205_code 12 = .ok (.istore_n 3, 1) := by decide +kernel
theorem zd_38_13 : decode prog_14_method_205_code 13 = .ok (.iload_n 1, 1) := by decide +kernel
theorem zd_38_14 : decode prog_14_method_205_code 14 = .ok (.iconst 4, 1) := by decide +kernel
theorem zd_38_15 : decode prog_14_method_205_code 15 = .ok (.irem, 1) := by decide +kernel
theorem zd_38_16 : decode prog_14_method_205_code 16 = .ok (.ifCond .ne 32, 3) := by decide +kernel
theorem zd_38_19 : decode prog_14_method_205_code 19 = .ok (.iload_n 1, 1) := by decide +kernel
theorem zd_38_20 : decode prog_14_method_205_code 20 = .ok (.iconst 0, 1) := by decide +kernel
theorem zd_38_21 : decode prog_14_method_205_code 21 = .ok (.ldc_w 1609, 3) := by decide +kernel
theorem zd_38_24 : decode prog_14_method_205_code 24 = .ok (.invokestatic 504, 3) := by decide +kernel
theorem zd_38_27 : decode prog_14_method_205_code 27 = .ok (.ifCond .eq 21, 3) := by decide +kernel
theorem zd_38_30 : decode prog_14_method_205_code 30 = .ok (.iload_n 2, 1) := by decide +kernel
theorem zd_38_31 : decode prog_14_method_205_code 31 = .ok (.iconst 4, 1) := by decide +kernel
theorem zd_38_32 : decode prog_14_method_205_code 32 = .ok (.irem, 1) := by decide +kernel
theorem zd_38_33 : decode prog_14_method_205_code 33 = .ok (.ifCond .ne 15, 3) := by decide +kernel
theorem zd_38_36 : decode prog_14_method_205_code 36 = .ok (.iload_n 2, 1) := by decide +kernel
theorem zd_38_37 : decode prog_14_method_205_code 37 = .ok (.sipush 512, 3) := by decide +kernel
theorem zd_38_40 : decode prog_14_method_205_code 40 = .ok (.ldc 13, 2) := by decide +kernel
theorem zd_38_42 : decode prog_14_method_205_code 42 = .ok (.invokestatic 504, 3) := by decide +kernel
theorem zd_38_45 : decode prog_14_method_205_code 45 = .ok (.ifCond .ne 7, 3) := by decide +kernel
theorem zd_38_48 : decode prog_14_method_205_code 48 = .ok (.iconst 1, 1) := by decide +kernel
theorem zd_38_49 : decode prog_14_method_205_code 49 = .ok (.goto 4, 3) := by decide +kernel
theorem zd_38_52 : decode prog_14_method_205_code 52 = .ok (.iconst 0, 1) := by decide +kernel
theorem zd_38_53 : decode prog_14_method_205_code 53 = .ok (.istore 4, 2) := by decide +kernel
theorem zd_38_55 : decode prog_14_method_205_code 55 = .ok (.aload_n 0, 1) := by decide +kernel
theorem zd_38_56 : decode prog_14_method_205_code 56 = .ok (.iload_n 3, 1) := by decide +kernel
theorem zd_38_57 : decode prog_14_method_205_code 57 = .ok (.iload_n 3, 1) := by decide +kernel
theorem zd_38_58 : decode prog_14_method_205_code 58 = .ok (.ifCond .ne 12, 3) := by decide +kernel
theorem zd_38_61 : decode prog_14_method_205_code 61 = .ok (.iload 4, 2) := by decide +kernel
theorem zd_38_63 : decode prog_14_method_205_code 63 = .ok (.ifCond .eq 7, 3) := by decide +kernel
theorem zd_38_66 : decode prog_14_method_205_code 66 = .ok (.iconst 1, 1) := by decide +kernel
theorem zd_38_67 : decode prog_14_method_205_code 67 = .ok (.goto 4, 3) := by decide +kernel
theorem zd_38_70 : decode prog_14_method_205_code 70 = .ok (.iconst 0, 1) := by decide +kernel
theorem zd_38_71 : decode prog_14_method_205_code 71 = .ok (.invokevirtual 511, 3) := by decide +kernel
theorem zd_38_74 : decode prog_14_method_205_code 74 = .ok (.ifCond .eq 5, 3) := by decide +kernel
theorem zd_38_77 : decode prog_14_method_205_code 77 = .ok (.iconst 0, 1) := by decide +kernel
theorem zd_38_79 : decode prog_14_method_205_code 79 = .ok (.aload_n 0, 1) := by decide +kernel
theorem zd_38_80 : decode prog_14_method_205_code 80 = .ok (.iconst 0, 1) := by decide +kernel
theorem zd_38_81 : decode prog_14_method_205_code 81 = .ok (.putfield 1576, 3) := by decide +kernel
theorem zd_38_84 : decode prog_14_method_205_code 84 = .ok (.aload_n 0, 1) := by decide +kernel
theorem zd_38_85 : decode prog_14_method_205_code 85 = .ok (.iconst 0, 1) := by decide +kernel
theorem zd_38_86 : decode prog_14_method_205_code 86 = .ok (.putfield 996, 3) := by decide +kernel
theorem zd_38_89 : decode prog_14_method_205_code 89 = .ok (.aload_n 0, 1) := by decide +kernel
theorem zd_38_90 : decode prog_14_method_205_code 90 = .ok (.iconst (-1), 1) := by decide +kernel
theorem zd_38_91 : decode prog_14_method_205_code 91 = .ok (.putfield 25, 3) := by decide +kernel
theorem zd_38_94 : decode prog_14_method_205_code 94 = .ok (.aload_n 0, 1) := by decide +kernel
theorem zd_38_95 : decode prog_14_method_205_code 95 = .ok (.iconst (-1), 1) := by decide +kernel
theorem zd_38_96 : decode prog_14_method_205_code 96 = .ok (.putfield 29, 3) := by decide +kernel
theorem zd_38_99 : decode prog_14_method_205_code 99 = .ok (.aload_n 0, 1) := by decide +kernel
theorem zd_38_100 : decode prog_14_method_205_code 100 = .ok (.invokevirtual 1610, 3) := by decide +kernel
theorem zd_38_103 : decode prog_14_method_205_code 103 = .ok (.aload_n 0, 1) := by decide +kernel
theorem zd_38_104 : decode prog_14_method_205_code 104 = .ok (.invokevirtual 1613, 3) := by decide +kernel
theorem zd_38_107 : decode prog_14_method_205_code 107 = .ok (.aload_n 0, 1) := by decide +kernel
theorem zd_38_108 : decode prog_14_method_205_code 108 = .ok (.invokevirtual 1616, 3) := by decide +kernel
theorem zd_38_111 : decode prog_14_method_205_code 111 = .ok (.aload_n 0, 1) := by decide +kernel
theorem zd_38_112 : decode prog_14_method_205_code 112 = .ok (.invokevirtual 1619, 3) := by decide +kernel
theorem zd_38_115 : decode prog_14_method_205_code 115 = .ok (.aload_n 0, 1) := by decide +kernel
theorem zd_38_116 : decode prog_14_method_205_code 116 = .ok (.invokevirtual 1622, 3) := by decide +kernel
theorem zd_38_119 : decode prog_14_method_205_code 119 = .ok (.aload_n 0, 1) := by decide +kernel
theorem zd_38_120 : decode prog_14_method_205_code 120 = .ok (.getfield 996, 3) := by decide +kernel
theorem zd_38_123 : decode prog_14_method_205_code 123 = .ok (.ifCond .le 5, 3) := by decide +kernel
theorem zd_38_126 : decode prog_14_method_205_code 126 = .ok (.iconst (-1), 1) := by decide +kernel
theorem zd_38_128 : decode prog_14_method_205_code 128 = .ok (.aload_n 0, 1) := by decide +kernel
theorem zd_38_129 : decode prog_14_method_205_code 129 = .ok (.iload_n 1, 1) := by decide +kernel
theorem zd_38_130 : decode prog_14_method_205_code 130 = .ok (.putfield 1597, 3) := by decide +kernel
theorem zd_38_133 : decode prog_14_method_205_code 133 = .ok (.aload_n 0, 1) := by decide +kernel
theorem zd_38_134 : decode prog_14_method_205_code 134 = .ok (.iload_n 2, 1) := by decide +kernel
theorem zd_38_135 : decode prog_14_method_205_code 135 = .ok (.putfield 1625, 3) := by decide +kernel
theorem zd_38_138 : decode prog_14_method_205_code 138 = .ok (.aload_n 0, 1) := by decide +kernel
theorem zd_38_139 : decode prog_14_method_205_code 139 = .ok (.aload_n 0, 1) := by decide +kernel
theorem zd_38_140 : decode prog_14_method_205_code 140 = .ok (.aload_n 0, 1) := by decide +kernel
theorem zd_38_141 : decode prog_14_method_205_code 141 = .ok (.getfield 1597, 3) := by decide +kernel
theorem zd_38_144 : decode prog_14_method_205_code 144 = .ok (.iconst 0, 1) := by decide +kernel
theorem zd_38_145 : decode prog_14_method_205_code 145 = .ok (.invokevirtual 1628, 3) := by decide +kernel
theorem zd_38_148 : decode prog_14_method_205_code 148 = .ok (.putfield 1632, 3) := by decide +kernel
theorem zd_38_151 : decode prog_14_method_205_code 151 = .ok (.aload_n 0, 1) := by decide +kernel
theorem zd_38_152 : decode prog_14_method_205_code 152 = .ok (.aload_n 0, 1) := by decide +kernel
theorem zd_38_153 : decode prog_14_method_205_code 153 = .ok (.aload_n 0, 1) := by decide +kernel
