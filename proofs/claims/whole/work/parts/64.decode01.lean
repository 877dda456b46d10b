/-! decode rows, by program -/
theorem zd_2_875 : decode prog_14_method_96_code 875 = .ok (.ldc2_w 1142, 3) := by decide +kernel
theorem zd_2_878 : decode prog_14_method_96_code 878 = .ok (.lconst 0, 1) := by decide +kernel
theorem zd_2_879 : decode prog_14_method_96_code 879 = .ok (.invokevirtual 1004, 3) := by decide +kernel
theorem zd_2_882 : decode prog_14_method_96_code 882 = .ok (.aload_n 0, 1) := by decide +kernel
theorem zd_2_883 : decode prog_14_method_96_code 883 = .ok (.ldc2_w 1144, 3) := by decide +kernel
theorem zd_2_886 : decode prog_14_method_96_code 886 = .ok (.lconst 0, 1) := by decide +kernel
theorem zd_2_887 : decode prog_14_method_96_code 887 = .ok (.invokevirtual 1004, 3) := by decide +kernel
theorem zd_2_890 : decode prog_14_method_96_code 890 = .ok (.aload_n 0, 1) := by decide +kernel
theorem zd_2_891 : decode prog_14_method_96_code 891 = .ok (.ldc2_w 1146, 3) := by decide +kernel
theorem zd_2_894 : decode prog_14_method_96_code 894 = .ok (.lconst 0, 1) := by decide +kernel
theorem zd_2_895 : decode prog_14_method_96_code 895 = .ok (.invokevirtual 1004, 3) := by decide +kernel
theorem zd_2_898 : decode prog_14_method_96_code 898 = .ok (.aload_n 0, 1) := by decide +kernel
theorem zd_2_899 : decode prog_14_method_96_code 899 = .ok (.ldc2_w 1148, 3) := by decide +kernel
theorem zd_2_902 : decode prog_14_method_96_code 902 = .ok (.lconst 0, 1) := by decide +kernel
theorem zd_2_903 : decode prog_14_method_96_code 903 = .ok (.invokevirtual 1004, 3) := by decide +kernel
theorem zd_2_906 : decode prog_14_method_96_code 906 = .ok (.aload_n 0, 1) := by decide +kernel
theorem zd_2_907 : decode prog_14_method_96_code 907 = .ok (.ldc2_w 1150, 3) := by decide +kernel
theorem zd_2_910 : decode prog_14_method_96_code 910 = .ok (.lconst 0, 1) := by decide +kernel
theorem zd_2_911 : decode prog_14_method_96_code 911 = .ok (.invokevirtual 1004, 3) := by decide +kernel
theorem zd_2_914 : decode prog_14_method_96_code 914 = .ok (.aload_n 0, 1) := by decide +kernel
theorem zd_2_915 : decode prog_14_method_96_code 915 = .ok (.ldc2_w 1152, 3) := by decide +kernel
theorem zd_2_918 : decode prog_14_method_96_code 918 = .ok (.lconst 0, 1) := by decide +kernel
theorem zd_2_919 : decode prog_14_method_96_code 919 = .ok (.invokevirtual 1004, 3) := by decide +kernel
theorem zd_2_922 : decode prog_14_method_96_code 922 = .ok (.aload_n 0, 1) := by decide +kernel
theorem zd_2_923 : decode prog_14_method_96_code 923 = .ok (.ldc2_w 1154, 3) := by decide +kernel
theorem zd_2_926 : decode prog_14_method_96_code 926 = .ok (.lconst 0, 1) := by decide +kernel
theorem zd_2_927 : decode prog_14_method_96_code 927 = .ok (.invokevirtual 1004, 3) := by decide +kernel
theorem zd_2_930 : decode prog_14_method_96_code 930 = .ok (.aload_n 0, 1) := by decide +kernel
theorem zd_2_931 : decode prog_14_method_96_code 931 = .ok (.ldc2_w 1156, 3) := by decide +kernel
theorem zd_2_934 : decode prog_14_method_96_code 934 = .ok (.lconst 0, 1) := by decide +kernel
theorem zd_2_935 : decode prog_14_method_96_code 935 = .ok (.invokevirtual 1004, 3) := by decide +kernel
theorem zd_2_938 : decode prog_14_method_96_code 938 = .ok (.aload_n 0, 1) := by decide +kernel
theorem zd_2_939 : decode prog_14_method_96_code 939 = .ok (.ldc2_w 1158, 3) := by decide +kernel
theorem zd_2_942 : decode prog_14_method_96_code 942 = .ok (.lconst 0, 1) := by decide +kernel
theorem zd_2_943 : decode prog_14_method_96_code 943 = .ok (.invokevirtual 1004, 3) := by decide +kernel
theorem zd_2_946 : decode prog_14_method_96_code 946 = .ok (.aload_n 0, 1) := by decide +kernel
theorem zd_2_947 : decode prog_14_method_96_code 947 = .ok (.ldc2_w 1160, 3) := by decide +kernel
theorem zd_2_950 : decode prog_14_method_96_code 950 = .ok (.lconst 0, 1) := by decide +kernel
theorem zd_2_951 : decode prog_14_method_96_code 951 = .ok (.invokevirtual 1004, 3) := by decide +kernel
theorem zd_2_954 : decode prog_14_method_96_code 954 = .ok (.aload_n 0, 1) := by decide +kernel
theorem zd_2_955 : decode prog_14_method_96_code 955 = .ok (.ldc2_w 1162, 3) := by decide +kernel
theorem zd_2_958 : decode prog_14_method_96_code 958 = .ok (.lconst 0, 1) := by decide +kernel
theorem zd_2_959 : decode prog_14_method_96_code 959 = .ok (.invokevirtual 1004, 3) := by decide +kernel
theorem zd_2_962 : decode prog_14_method_96_code 962 = .ok (.aload_n 0, 1) := by decide +kernel
theorem zd_2_963 : decode prog_14_method_96_code 963 = .ok (.ldc2_w 1164, 3) := by decide +kernel
theorem zd_2_966 : decode prog_14_method_96_code 966 = .ok (.lconst 0, 1) := by decide +kernel
theorem zd_2_967 : decode prog_14_method_96_code 967 = .ok (.invokevirtual 1004, 3) := by decide +kernel
theorem zd_2_970 : decode prog_14_method_96_code 970 = .ok (.aload_n 0, 1) := by decide +kernel
theorem zd_2_971 : decode prog_14_method_96_code 971 = .ok (.ldc2_w 806, 3) := by decide +kernel
theorem zd_2_974 : decode prog_14_method_96_code 974 = .ok (.lconst 0, 1) := by decide +kernel
theorem zd_2_975 : decode prog_14_method_96_code 975 = .ok (.invokevirtual 1004, 3) := by decide +kernel
theorem zd_2_978 : decode prog_14_method_96_code 978 = .ok (.aload_n 0, 1) := by decide +kernel
theorem zd_2_979 : decode prog_14_method_96_code 979 = .ok (.ldc2_w 756, 3) := by decide +kernel
theorem zd_2_982 : decode prog_14_method_96_code 982 = .ok (.lconst 0, 1) := by decide +kernel
theorem zd_2_983 : decode prog_14_method_96_code 983 = .ok (.invokevirtual 1004, 3) := by decide +kernel
theorem zd_2_986 : decode prog_14_method_96_code 986 = .ok (.aload_n 0, 1) := by decide +kernel
theorem zd_2_987 : decode prog_14_method_96_code 987 = .ok (.ldc2_w 1166, 3) := by decide +kernel
theorem zd_2_990 : decode prog_14_method_96_code 990 = .ok (.lconst 0, 1) := by decide +kernel
theorem zd_2_991 : decode prog_14_method_96_code 991 = .ok (.invokevirtual 1004, 3) := by decide +kernel
theorem zd_2_994 : decode prog_14_method_96_code 994 = .ok (.aload_n 0, 1) := by decide +kernel
theorem zd_2_995 : decode prog_14_method_96_code 995 = .ok (.ldc2_w 814, 3) := by decide +kernel
theorem zd_2_998 : decode prog_14_method_96_code 998 = .ok (.lconst 0, 1) := by decide +kernel
theorem zd_2_999 : decode prog_14_method_96_code 999 = .ok (.invokevirtual 1004, 3) := by decide +kernel
theorem zd_2_1002 : decode prog_14_method_96_code 1002 = .ok (.aload_n 0, 1) := by decide +kernel
theorem zd_2_1003 : decode prog_14_method_96_code 1003 = .ok (.invokevirtual 1168, 3) := by decide +kernel
theorem zd_3_0 : decode prog_14_method_182_code 0 = .ok (.iconst 0, 1) := by decide +kernel
theorem zd_3_1 : decode prog_14_method_182_code 1 = .ok (.istore_n 1, 1) := by decide +kernel
theorem zd_3_2 : decode prog_14_method_182_code 2 = .ok (.iload_n 1, 1) := by decide +kernel
theorem zd_3_3 : decode prog_14_method_182_code 3 = .ok (.aload_n 0, 1) := by decide +kernel
theorem zd_3_4 : decode prog_14_method_182_code 4 = .ok (.ldc_w 1522, 3) := by decide +kernel
theorem zd_3_7 : decode prog_14_method_182_code 7 = .ok (.invokevirtual 1523, 3) := by decide +kernel
theorem zd_3_10 : decode prog_14_method_182_code 10 = .ok (.iadd, 1) := by decide +kernel
theorem zd_3_11 : decode prog_14_method_182_code 11 = .ok (.aload_n 0, 1) := by decide +kernel
theorem zd_3_12 : decode prog_14_method_182_code 12 = .ok (.ldc_w 1526, 3) := by decide +kernel
theorem zd_3_15 : decode prog_14_method_182_code 15 = .ok (.invokevirtual 1523, 3) := by decide +kernel
theorem zd_3_18 : decode prog_14_method_182_code 18 = .ok (.iadd, 1) := by decide +kernel
theorem zd_3_19 : decode prog_14_method_182_code 19 = .ok (.aload_n 0, 1) := by decide +kernel
theorem zd_3_20 : decode prog_14_method_182_code 20 = .ok (.ldc_w 1527, 3) := by decide +kernel
theorem zd_3_23 : decode prog_14_method_182_code 23 = .ok (.invokevirtual 1523, 3) := by decide +kernel
theorem zd_3_26 : decode prog_14_method_182_code 26 = .ok (.iadd, 1) := by decide +kernel
theorem zd_3_27 : decode prog_14_method_182_code 27 = .ok (.aload_n 0, 1) := by decide +kernel
theorem zd_3_28 : decode prog_14_method_182_code 28 = .ok (.ldc_w 1528, 3) := by decide +kernel
theorem zd_3_31 : decode prog_14_method_182_code 31 = .ok (.invokevirtual 1523, 3) := by decide +kernel
theorem zd_3_34 : decode prog_14_method_182_code 34 = .ok (.iadd, 1) := by decide +kernel
theorem zd_3_35 : decode prog_14_method_182_code 35 = .ok (.aload_n 0, 1) := by decide +kernel
theorem zd_3_36 : decode prog_14_method_182_code 36 = .ok (.ldc_w 1529, 3) := by decide +kernel
theorem zd_3_39 : decode prog_14_method_182_code 39 = .ok (.invokevirtual 1523, 3) := by decide +kernel
theorem zd_3_42 : decode prog_14_method_182_code 42 = .ok (.iadd, 1) := by decide +kernel
theorem zd_3_43 : decode prog_14_method_182_code 43 = .ok (.aload_n 0, 1) := by decide +kernel
theorem zd_3_44 : decode prog_14_method_182_code 44 = .ok (.ldc_w 1530, 3) := by decide +kernel
theorem zd_3_47 : decode prog_14_method_182_code 47 = .ok (.invokevirtual 1523, 3) := by decide +kernel
theorem zd_3_50 : decode prog_14_method_182_code 50 = .ok (.iadd, 1) := by decide +kernel
theorem zd_3_51 : decode prog_14_method_182_code 51 = .ok (.istore_n 1, 1) := by decide +kernel
theorem zd_3_52 : decode prog_14_method_182_code 52 = .ok (.iload_n 1, 1) := by decide +kernel
theorem zd_3_53 : decode prog_14_method_182_code 53 = .ok (.aload_n 0, 1) := by decide +kernel
theorem zd_3_54 : decode prog_14_method_182_code 54 = .ok (.ldc_w 1531, 3) := by decide +kernel
theorem zd_3_57 : decode prog_14_method_182_code 57 = .ok (.invokevirtual 1523, 3) := by decide +kernel
theorem zd_3_60 : decode prog_14_method_182_code 60 = .ok (.iadd, 1) := by decide +kernel
theorem zd_3_61 : decode prog_14_method_182_code 61 = .ok (.aload_n 0, 1) := by decide +kernel
theorem zd_3_62 : decode prog_14_method_182_code 62 = .ok (.ldc_w 1532, 3) := by decide +kernel
theorem zd_3_65 : decode prog_14_method_182_code 65 = .ok (.invokevirtual 1523, 3) := by decide +kernel
theorem zd_3_68 : decode prog_14_method_182_code 68 = .ok (.iadd, 1) := by decide +kernel
theorem zd_3_69 : decode prog_14_method_182_code 69 = .ok (.aload_n 0, 1) := by decide +kernel
theorem zd_3_70 : decode prog_14_method_182_code 70 = .ok (.ldc_w 1533, 3) := by decide +kernel
theorem zd_3_73 : decode prog_14_method_182_code 73 = .ok (.invokevirtual 1523, 3) := by decide +kernel
theorem zd_3_76 : decode prog_14_method_182_code 76 = .ok (.iadd, 1) := by decide +kernel
theorem zd_3_77 : decode prog_14_method_182_code 77 = .ok (.aload_n 0, 1) := by decide +kernel
theorem zd_3_78 : decode prog_14_method_182_code 78 = .ok (.ldc_w 1534, 3) := by decide +kernel
theorem zd_3_81 : decode prog_14_method_182_code 81 = .ok (.invokevirtual 1523, 3) := by decide +kernel
theorem zd_3_84 : decode prog_14_method_182_code 84 = .ok (.iadd, 1) := by decide +kernel
theorem zd_3_85 : decode prog_14_method_182_code 85 = .ok (.aload_n 0, 1) := by decide +kernel
theorem zd_3_86 : decode prog_14_method_182_code 86 = .ok (.ldc_w 1535, 3) := by decide +kernel
theorem zd_3_89 : decode prog_14_method_182_code 89 = .ok (.invokevirtual 1523, 3) := by decide +kernel
theorem zd_3_92 : decode prog_14_method_182_code 92 = .ok (.iadd, 1) := by decide +kernel
theorem zd_3_93 : decode prog_14_method_182_code 93 = .ok (.aload_n 0, 1) := by decide +kernel
theorem zd_3_94 : decode prog_14_method_182_code 94 = .ok (.ldc_w 1536, 3) := by decide +kernel
theorem zd_3_97 : decode prog_14_method_182_code 97 = .ok (.invokevirtual 1523, 3) := by decide +kernel
theorem zd_3_100 : decode prog_14_method_182_code 100 = .ok (.iadd, 1) := by decide +kernel
theorem zd_3_101 : decode prog_14_method_182_code 101 = .ok (.istore_n 1, 1) := by decide +kernel
theorem zd_3_102 : decode prog_14_method_182_code 102 = .ok (.iload_n 1, 1) := by decide +kernel
theorem zd_3_103 : decode prog_14_method_182_code 103 = .ok (.aload_n 0, 1) := by decide +kernel
theorem zd_3_104 : decode prog_14_method_182_code 104 = .ok (.ldc_w 1537, 3) := by decide +kernel
theorem zd_3_107 : decode prog_14_method_182_code 107 = .ok (.invokevirtual 1523, 3) := by decide +kernel
theorem zd_3_110 : decode prog_14_method_182_code 110 = .ok (.iadd, 1) := by decide +kernel
theorem zd_3_111 : decode prog_14_method_182_code 111 = .ok (.aload_n 0, 1) := by decide +kernel
theorem zd_3_112 : decode prog_14_method_182_code 112 = .ok (.ldc_w 1538, 3) := by decide +kernel
theorem zd_3_115 : decode prog_14_method_182_code 115 = .ok (.invokevirtual 1523, 3) := by decide +kernel
theorem zd_3_118 : decode prog_14_method_182_code 118 = .ok (.iadd, 1) := by decide +kernel
theorem zd_3_119 : decode prog_14_method_182_code 119 = .ok (.aload_n 0, 1) := by decide +kernel
theorem zd_3_120 : decode prog_14_method_182_code 120 = .ok (.ldc_w 1539, 3) := by decide +kernel
theorem zd_3_123 : decode prog_14_method_182_code 123 = .ok (.invokevirtual 1523, 3) := by decide +kernel
theorem zd_3_126 : decode prog_14_method_182_code 126 = .ok (.iadd, 1) := by decide +kernel
theorem zd_3_127 : decode prog_14_method_182_code 127 = .ok (.aload_n 0, 1) := by decide +kernel
theorem zd_3_128 : decode prog_14_method_182_code 128 = .ok (.ldc_w 1540, 3) := by decide +kernel
theorem zd_3_131 : decode prog_14_method_182_code 131 = .ok (.invokevirtual 1523, 3) := by decide +kernel
theorem zd_3_134 : decode prog_14_method_182_code 134 = .ok (.iadd, 1) := by decide +kernel
theorem zd_3_135 : decode prog_14_method_182_code 135 = .ok (.aload_n 0, 1) := by decide +kernel
theorem zd_3_136 : decode prog_14_method_182_code 136 = .ok (.ldc_w 1541, 3) := by decide +kernel
theorem zd_3_139 : decode prog_14_method_182_code 139 = .ok (.invokevirtual 1523, 3) := by decide +kernel
theorem zd_3_142 : decode prog_14_method_182_code 142 = .ok (.iadd, 1) := by decide +kernel
theorem zd_3_143 : decode prog_14_method_182_code 143 = .ok (.aload_n 0, 1) := by decide +kernel
theorem zd_3_144 : decode prog_14_method_182_code 144 = .ok (.ldc_w 1542, 3) := by decide +kernel
theorem zd_3_147 : decode prog_14_method_182_code 147 = .ok (.invokevirtual 1523, 3) := by decide +kernel
theorem zd_3_150 : decode prog_14_method_182_code 150 = .ok (.iadd, 1) := by decide +kernel
theorem zd_3_151 : decode prog_14_method_182_code 151 = .ok (.istore_n 1, 1) := by decide +kernel
theorem zd_3_152 : decode prog_14_method_182_code 152 = .ok (.iload_n 1, 1) := by decide +kernel
theorem zd_3_153 : decode prog_14_method_182_code 153 = .ok (.aload_n 0, 1) := by decide +kernel
theorem zd_3_154 : decode prog_14_method_182_code 154 = .ok (.ldc_w 1543, 3) := by decide +kernel
theorem zd_3_157 : decode prog_14_method_182_code 157 = .ok (.invokevirtual 1523, 3) := by decide +kernel
theorem zd_3_160 : decode prog_14_method_182_code 160 = .ok (.iadd, 1) := by decide +kernel
theorem zd_3_161 : decode prog_14_method_182_code 161 = .ok (.aload_n 0, 1) := by decide +kernel
theorem zd_3_162 : decode prog_14_method_182_code 162 = .ok (.ldc_w 1544, 3) := by decide +kernel
theorem zd_3_165 : decode prog_14_method_182_code 165 = .ok (.invokevirtual 1523, 3) := by decide +kernel
theorem zd_3_168 : decode prog_14_method_182_code 168 = .ok (.iadd, 1) := by decide +kernel
theorem zd_3_169 : decode prog_14_method_182_code 169 = .ok (.aload_n 0, 1) := by decide +kernel
theorem zd_3_170 : decode prog_14_method_182_code 170 = .ok (.ldc_w 1545, 3) := by decide +kernel
theorem zd_3_173 : decode prog_14_method_182_code 173 = .ok (.invokevirtual 1523, 3) := by decide +kernel
theorem zd_3_176 : decode prog_14_method_182_code 176 = .ok (.iadd, 1) := by decide +kernel
theorem zd_3_177 : decode prog_14_method_182_code 177 = .ok (.aload_n 0, 1) := by decide +kernel
theorem zd_3_178 : decode prog_14_method_182_code 178 = .ok (.ldc_w 1546, 3) := by decide +kernel
theorem zd_3_181 : decode prog_14_method_182_code 181 = .ok (.invokevirtual 1523, 3) := by decide +kernel
theorem zd_3_184 : decode prog_14_method_182_code 184 = .ok (.iadd, 1) := by decide +kernel
theorem zd_3_185 : decode prog_14_method_182_code 185 = .ok (.aload_n 0, 1) := by decide +kernel
theorem zd_3_186 : decode prog_14_method_182_code 186 = .ok (.ldc_w 1547, 3) := by decide +kernel
theorem zd_3_189 : decode prog_14_method_182_code 189 = .ok (.invokevirtual 1523, 3) := by decide +kernel
theorem zd_3_192 : decode prog_14_method_182_code 192 = .ok (.iadd, 1) := by decide +kernel
theorem zd_3_193 : decode prog_14_method_182_code 193 = .ok (.aload_n 0, 1) := by decide +kernel
theorem zd_3_194 : decode prog_14_method_182_code 194 = .ok (.ldc_w 1548, 3) := by decide +kernel
theorem zd_3_197 : decode prog_14_method_182_code 197 = .ok (.invokevirtual 1523, 3) := by decide +kernel
theorem zd_3_200 : decode prog_14_method_182_code 200 = .ok (.iadd, 1) := by decide +kernel
theorem zd_3_201 : decode prog_14_method_182_code 201 = .ok (.istore_n 1, 1) := by decide +kernel
theorem zd_3_202 : decode prog_14_method_182_code 202 = .ok (.iload_n 1, 1) := by decide +kernel
theorem zd_3_203 : decode prog_14_method_182_code 203 = .ok (.aload_n 0, 1) := by decide +kernel
theorem zd_3_204 : decode prog_14_method_182_code 204 = .ok (.ldc_w 1549, 3) := by decide +kernel
theorem zd_3_207 : decode prog_14_method_182_code 207 = .ok (.invokevirtual 1523, 3) := by decide +kernel
theorem zd_3_210 : decode prog_14_method_182_code 210 = .ok (.iadd, 1) := by decide +kernel
theorem zd_3_211 : decode prog_14_method_182_code 211 = .ok (.aload_n 0, 1) := by decide +kernel
theorem zd_3_212 : decode prog_14_method_182_code 212 = .ok (.ldc_w 1547, 3) := by decide +kernel
theorem zd_3_215 : decode prog_14_method_182_code 215 = .ok (.invokevirtual 1523, 3) := by decide +kernel
theorem zd_3_218 : decode prog_14_method_182_code 218 = .ok (.iadd, 1) := by decide +kernel
theorem zd_3_219 : decode prog_14_method_182_code 219 = .ok (.aload_n 0, 1) := by decide +kernel
theorem zd_3_220 : decode prog_14_method_182_code 220 = .ok (.ldc_w 1548, 3) := by decide +kernel
theorem zd_3_223 : decode prog_14_method_182_code 223 = .ok (.invokevirtual 1523, 3) := by decide +kernel
theorem zd_3_226 : decode prog_14_method_182_code 226 = .ok (.iadd, 1) := by decide +kernel
theorem zd_3_227 : decode prog_14_method_182_code 227 = .ok (.aload_n 0, 1) := by decide +kernel
theorem zd_3_228 : decode prog_14_method_182_code 228 = .ok (.ldc_w 1550, 3) := by decide +kernel
theorem zd_3_231 : decode prog_14_method_182_code 231 = .ok (.invokevirtual 1523, 3) := by decide +kernel
theorem zd_3_234 : decode prog_14_method_182_code 234 = .ok (.iadd, 1) := by decide +kernel
theorem zd_3_235 : decode prog_14_method_182_code 235 = .ok (.aload_n 0, 1) := by decide +kernel
theorem zd_3_236 : decode prog_14_method_182_code 236 = .ok (.ldc_w 1551, 3) := by decide +kernel
theorem zd_3_239 : decode prog_14_method_182_code 239 = .ok (.invokevirtual 1523, 3) := by decide +kernel
theorem zd_3_242 : decode prog_14_method_182_code 242 = .ok (.iadd, 1) := by decide +kernel
theorem zd_3_243 : decode prog_14_method_182_code 243 = .ok (.aload_n 0, 1) := by decide +kernel
theorem zd_3_244 : decode prog_14_method_182_code 244 = .ok (.ldc_w 1552, 3) := by decide +kernel
theorem zd_3_247 : decode prog_14_method_182_code 247 = .ok (.invokevirtual 1523, 3) := by decide +kernel
theorem zd_3_250 : decode prog_14_method_182_code 250 = .ok (.iadd, 1) := by decide +kernel
theorem zd_3_251 : decode prog_14_method_182_code 251 = .ok (.istore_n 1, 1) := by decide +kernel
theorem zd_3_252 : decode prog_14_method_182_code 252 = .ok (.iload_n 1, 1) := by decide +kernel
theorem zd_3_253 : decode prog_14_method_182_code 253 = .ok (.aload_n 0, 1) := by decide +kernel
theorem zd_3_254 : decode prog_14_method_182_code 254 = .ok (.ldc_w 1553, 3) := by decide +kernel
theorem zd_3_257 : decode prog_14_method_182_code 257 = .ok (.invokevirtual 1523, 3) := by decide +kernel
theorem zd_3_260 : decode prog_14_method_182_code 260 = .ok (.iadd, 1) := by decide +kernel
theorem zd_3_261 : decode prog_14_method_182_code 261 = .ok (.aload_n 0, 1) := by decide +kernel
theorem zd_3_262 : decode prog_14_method_182_code 262 = .ok (.ldc_w 1554, 3) := by decide +kernel
theorem zd_3_265 : decode prog_14_method_182_code 265 = .ok (.invokevirtual 1523, 3) := by decide +kernel
theorem zd_3_268 : decode prog_14_method_182_code 268 = .ok (.iadd, 1) := by decide +kernel
theorem zd_3_269 : decode prog_14_method_182_code 269 = .ok (.aload_n 0, 1) := by decide +kernel
theorem zd_3_270 : decode prog_14_method_182_code 270 = .ok (.ldc_w 1555, 3) := by decide +kernel
theorem zd_3_273 : decode prog_14_method_182_code 273 = .ok (.invokevirtual 1523, 3) := by decide +kernel
theorem zd_3_276 : decode prog_14_method_182_code 276 = .ok (.iadd, 1) := by decide +kernel
theorem zd_3_277 : decode prog_14_method_182_code 277 = .ok (.aload_n 0, 1) := by decide +kernel
theorem zd_3_278 : decode prog_14_method_182_code 278 = .ok (.ldc_w 1556, 3) := by decide +kernel
theorem zd_3_281 : decode prog_14_method_182_code 281 = .ok (.invokevirtual 1523, 3) := by decide +kernel
theorem zd_3_284 : decode prog_14_method_182_code 284 = .ok (.iadd, 1) := by decide +kernel
theorem zd_3_285 : decode prog_14_method_182_code 285 = .ok (.aload_n 0, 1) := by decide +kernel
theorem zd_3_286 : decode prog_14_method_182_code 286 = .ok (.ldc_w 1557, 3) := by decide +kernel
theorem zd_3_289 : decode prog_14_method_182_code 289 = .ok (.invokevirtual 1523, 3) := by decide +kernel
theorem zd_3_292 : decode prog_14_method_182_code 292 = .ok (.iadd, 1) := by decide +kernel
theorem zd_3_293 : decode prog_14_method_182_code 293 = .ok (.aload_n 0, 1) := by decide +kernel
theorem zd_3_294 : decode prog_14_method_182_code 294 = .ok (.ldc_w 1558, 3) := by decide +kernel
theorem zd_3_297 : decode prog_14_method_182_code 297 = .ok (.invokevirtual 1523, 3) := by decide +kernel
theorem zd_3_300 : decode prog_14_method_182_code 300 = .ok (.iadd, 1) := by decide +kernel
theorem zd_3_301 : decode prog_14_method_182_code 301 = .ok (.istore_n 1, 1) := by decide +kernel
theorem zd_3_302 : decode prog_14_method_182_code 302 = .ok (.iload_n 1, 1) := by decide +kernel
theorem zd_3_303 : decode prog_14_method_182_code 303 = .ok (.aload_n 0, 1) := by decide +kernel
theorem zd_3_304 : decode prog_14_method_182_code 304 = .ok (.ldc_w 1559, 3) := by decide +kernel
theorem zd_3_307 : decode prog_14_method_182_code 307 = .ok (.invokevirtual 1523, 3) := by decide +kernel
theorem zd_3_310 : decode prog_14_method_182_code 310 = .ok (.iadd, 1) := by decide +kernel
theorem zd_3_311 : decode prog_14_method_182_code 311 = .ok (.aload_n 0, 1) := by decide +kernel
theorem zd_3_312 : decode prog_14_method_182_code 312 = .ok (.ldc_w 1556, 3) := by decide +kernel
theorem zd_3_315 : decode prog_14_method_182_code 315 = .ok (.invokevirtual 1523, 3) := by decide +kernel
theorem zd_3_318 : decode prog_14_method_182_code 318 = .ok (.iadd, 1) := by decide +kernel
theorem zd_3_319 : decode prog_14_method_182_code 319 = .ok (.aload_n 0, 1) := by decide +kernel
theorem zd_3_320 : decode prog_14_method_182_code 320 = .ok (.ldc_w 1560, 3) := by decide +kernel
theorem zd_3_323 : decode prog_14_method_182_code 323 = .ok (.invokevirtual 1523, 3) := by decide +kernel
theorem zd_3_326 : decode prog_14_method_182_code 326 = .ok (.iadd, 1) := by decide +kernel
theorem zd_3_327 : decode prog_14_method_182_code 327 = .ok (.aload_n 0, 1) := by decide +kernel
theorem zd_3_328 : decode prog_14_method_182_code 328 = .ok (.ldc_w 1561, 3) := by decide +kernel
theorem zd_3_331 : decode prog_14_method_182_code 331 = .ok (.invokevirtual 1523, 3) := by decide +kernel
theorem zd_3_334 : decode prog_14_method_182_code 334 = .ok (.iadd, 1) := by decide +kernel
theorem zd_3_335 : decode prog_14_method_182_code 335 = .ok (.aload_n 0, 1) := by decide +kernel
theorem zd_3_336 : decode prog_14_method_182_code 336 = .ok (.ldc_w 1562, 3) := by decide +kernel
theorem zd_3_339 : decode prog_14_method_182_code 339 = .ok (.invokevirtual 1523, 3) := by decide +kernel
theorem zd_3_342 : decode prog_14_method_182_code 342 = .ok (.iadd, 1) := by decide +kernel
theorem zd_3_343 : decode prog_14_method_182_code 343 = .ok (.aload_n 0, 1) := by decide +kernel
theorem zd_3_344 : decode prog_14_method_182_code 344 = .ok (.ldc_w 1563, 3) := by decide +kernel
theorem zd_3_347 : decode prog_14_method_182_code 347 = .ok (.invokevirtual 1523, 3) := by decide +kernel
theorem zd_3_350 : decode prog_14_method_182_code 350 = .ok (.iadd, 1) := by decide +kernel
theorem zd_3_351 : decode prog_14_method_182_code 351 = .ok (.istore_n 1, 1) := by decide +kernel
theorem zd_3_352 : decode prog_14_method_182_code 352 = .ok (.iload_n 1, 1) := by decide +kernel
theorem zd_3_353 : decode prog_14_method_182_code 353 = .ok (.aload_n 0, 1) := by decide +kernel
theorem zd_3_354 : decode prog_14_method_182_code 354 = .ok (.ldc_w 1564, 3) := by decide +kernel
theorem zd_3_357 : decode prog_14_method_182_code 357 = .ok (.invokevirtual 1523, 3) := by decide +kernel
theorem zd_3_360 : decode prog_14_method_182_code 360 = .ok (.iadd, 1) := by decide +kernel
theorem zd_3_361 : decode prog_14_method_182_code 361 = .ok (.aload_n 0, 1) := by decide +kernel
theorem zd_3_362 : decode prog_14_method_182_code 362 = .ok (.ldc_w 1565, 3) := by decide +kernel
theorem zd_3_365 : decode prog_14_method_182_code 365 = .ok (.invokevirtual 1523, 3) := by decide +kernel
theorem zd_3_368 : decode prog_14_method_182_code 368 = .ok (.iadd, 1) := by decide +kernel
theorem zd_3_369 : decode prog_14_method_182_code 369 = .ok (.aload_n 0, 1) := by decide +kernel
theorem zd_3_370 : decode prog_14_method_182_code 370 = .ok (.ldc_w 1566, 3) := by decide +kernel
theorem zd_3_373 : decode prog_14_method_182_code 373 = .ok (.invokevirtual 1523, 3) := by decide +kernel
theorem zd_3_376 : decode prog_14_method_182_code 376 = .ok (.iadd, 1) := by decide +kernel
theorem zd_3_377 : decode prog_14_method_182_code 377 = .ok (.aload_n 0, 1) := by decide +kernel
theorem zd_3_378 : decode prog_14_method_182_code 378 = .ok (.ldc_w 1567, 3) := by decide +kernel
theorem zd_3_381 : decode prog_14_method_182_code 381 = .ok (.invokevirtual 1523, 3) := by decide +kernel
theorem zd_3_384 : decode prog_14_method_182_code 384 = .ok (.iadd, 1) := by decide +kernel
theorem zd_3_385 : decode prog_14_method_182_code 385 = .ok (.aload_n 0, 1) := by decide +kernel
theorem zd_3_386 : decode prog_14_method_182_code 386 = .ok (.bipush 10, 2) := by decide +kernel
theorem zd_3_388 : decode prog_14_method_182_code 388 = .ok (.invokevirtual 1523, 3) := by decide +kernel
theorem zd_3_391 : decode prog_14_method_182_code 391 = .ok (.iadd, 1) := by decide +kernel
theorem zd_3_392 : decode prog_14_method_182_code 392 = .ok (.istore_n 1, 1) := by decide +kernel
theorem zd_3_393 : decode prog_14_method_182_code 393 = .ok (.iload_n 1, 1) := by decide +kernel
theorem zd_3_394 : decode prog_14_method_182_code 394 = .ok (.ifCond .le 17, 3) := by decide +kernel
theorem zd_3_397 : decode prog_14_method_182_code 397 = .ok (.aload_n 0, 1) := by decide +kernel
theorem zd_3_398 : decode prog_14_method_182_code 398 = .ok (.bipush 6, 2) := by decide +kernel
theorem zd_3_400 : decode prog_14_method_182_code 400 = .ok (.iconst 0, 1) := by decide +kernel
theorem zd_3_401 : decode prog_14_method_182_code 401 = .ok (.invokevirtual 992, 3) := by decide +kernel
theorem zd_3_404 : decode prog_14_method_182_code 404 = .ok (.ifCond .eq 7, 3) := by decide +kernel
theorem zd_3_407 : decode prog_14_method_182_code 407 = .ok (.iconst 1, 1) := by decide +kernel
theorem zd_3_408 : decode prog_14_method_182_code 408 = .ok (.goto 4, 3) := by decide +kernel
theorem zd_3_412 : decode prog_14_method_182_code 412 = .ok (.istore_n 2, 1) := by decide +kernel
theorem zd_3_413 : decode prog_14_method_182_code 413 = .ok (.aload_n 0, 1) := by decide +kernel
theorem zd_3_414 : decode prog_14_method_182_code 414 = .ok (.iload_n 2, 1) := by decide +kernel
theorem zd_3_415 : decode prog_14_method_182_code 415 = .ok (.ifCond .eq 18, 3) := by decide +kernel
theorem zd_3_418 : decode prog_14_method_182_code 418 = .ok (.aload_n 0, 1) := by decide +kernel
theorem zd_3_419 : decode prog_14_method_182_code 419 = .ok (.aload_n 0, 1) := by decide +kernel
theorem zd_3_420 : decode prog_14_method_182_code 420 = .ok (.ldc2_w 1568, 3) := by decide +kernel
theorem zd_3_423 : decode prog_14_method_182_code 423 = .ok (.lconst 0, 1) := by decide +kernel
theorem zd_3_424 : decode prog_14_method_182_code 424 = .ok (.invokevirtual 536, 3) := by decide +kernel
theorem zd_3_427 : decode prog_14_method_182_code 427 = .ok (.invokevirtual 1383, 3) := by decide +kernel
theorem zd_3_430 : decode prog_14_method_182_code 430 = .ok (.goto 4, 3) := by decide +kernel
theorem zd_3_434 : decode prog_14_method_182_code 434 = .ok (.putfield 1570, 3) := by decide +kernel
theorem zd_3_437 : decode prog_14_method_182_code 437 = .ok (.aload_n 0, 1) := by decide +kernel
theorem zd_3_438 : decode prog_14_method_182_code 438 = .ok (.iconst 0, 1) := by decide +kernel
theorem zd_3_439 : decode prog_14_method_182_code 439 = .ok (.putfield 508, 3) := by decide +kernel
theorem zd_4_0 : decode prog_9_method_1_code 0 = .ok (.aload_n 0, 1) := by decide +kernel
theorem zd_4_1 : decode prog_9_method_1_code 1 = .ok (.invokespecial 3, 3) := by decide +kernel
theorem zd_4_4 : decode prog_9_method_1_code 4 = .ok (.aload_n 0, 1) := by decide +kernel
theorem zd_4_5 : decode prog_9_method_1_code 5 = .ok (.sipush 4000, 3) := by decide +kernel
theorem zd_4_8 : decode prog_9_method_1_code 8 = .ok (.newarray .long, 2) := by decide +kernel
theorem zd_4_10 : decode prog_9_method_1_code 10 = .ok (.putfield 11, 3) := by decide +kernel
theorem zd_4_13 : decode prog_9_method_1_code 13 = .ok (.aload_n 0, 1) := by decide +kernel
theorem zd_4_14 : decode prog_9_method_1_code 14 = .ok (.sipush 4000, 3) := by decide +kernel
theorem zd_4_17 : decode prog_9_method_1_code 17 = .ok (.newarray .long, 2) := by decide +kernel
theorem zd_4_19 : decode prog_9_method_1_code 19 = .ok (.putfield 15, 3) := by decide +kernel
theorem zd_4_22 : decode prog_9_method_1_code 22 = .ok (.aload_n 0, 1) := by decide +kernel
theorem zd_4_23 : decode prog_9_method_1_code 23 = .ok (.sipush 4000, 3) := by decide +kernel
theorem zd_4_26 : decode prog_9_method_1_code 26 = .ok (.newarray .int, 2) := by decide +kernel
theorem zd_4_28 : decode prog_9_method_1_code 28 = .ok (.putfield 18, 3) := by decide +kernel
theorem zd_4_31 : decode prog_9_method_1_code 31 = .ok (.aload_n 0, 1) := by decide +kernel
theorem zd_4_32 : decode prog_9_method_1_code 32 = .ok (.sipush 4000, 3) := by decide +kernel
theorem zd_4_35 : decode prog_9_method_1_code 35 = .ok (.newarray .int, 2) := by decide +kernel
theorem zd_4_37 : decode prog_9_method_1_code 37 = .ok (.putfield 22, 3) := by decide +kernel
theorem zd_4_40 : decode prog_9_method_1_code 40 = .ok (.aload_n 0, 1) := by decide +kernel
theorem zd_4_41 : decode prog_9_method_1_code 41 = .ok (.sipush 4000, 3) := by decide +kernel
theorem zd_4_44 : decode prog_9_method_1_code 44 = .ok (.newarray .int, 2) := by decide +kernel
theorem zd_4_46 : decode prog_9_method_1_code 46 = .ok (.putfield 25, 3) := by decide +kernel
theorem zd_4_49 : decode prog_9_method_1_code 49 = .ok (.aload_n 0, 1) := by decide +kernel
theorem zd_4_50 : decode prog_9_method_1_code 50 = .ok (.sipush 8192, 3) := by decide +kernel
theorem zd_4_53 : decode prog_9_method_1_code 53 = .ok (.newarray .int, 2) := by decide +kernel
theorem zd_4_55 : decode prog_9_method_1_code 55 = .ok (.putfield 28, 3) := by decide +kernel
theorem zd_4_58 : decode prog_9_method_1_code 58 = .ok (.aload_n 0, 1) := by decide +kernel
theorem zd_4_59 : decode prog_9_method_1_code 59 = .ok (.sipush 4000, 3) := by decide +kernel
theorem zd_4_62 : decode prog_9_method_1_code 62 = .ok (.newarray .int, 2) := by decide +kernel
theorem zd_4_64 : decode prog_9_method_1_code 64 = .ok (.putfield 31, 3) := by decide +kernel
theorem zd_4_67 : decode prog_9_method_1_code 67 = .ok (.aload_n 0, 1) := by decide +kernel
theorem zd_4_68 : decode prog_9_method_1_code 68 = .ok (.ldc 34, 2) := by decide +kernel
theorem zd_4_70 : decode prog_9_method_1_code 70 = .ok (.invokevirtual 36, 3) := by decide +kernel
theorem zd_4_73 : decode prog_9_method_1_code 73 = .ok (.aload_n 0, 1) := by decide +kernel
theorem zd_4_74 : decode prog_9_method_1_code 74 = .ok (.ldc 40, 2) := by decide +kernel
theorem zd_4_76 : decode prog_9_method_1_code 76 = .ok (.invokevirtual 36, 3) := by decide +kernel
theorem zd_4_79 : decode prog_9_method_1_code 79 = .ok (.aload_n 0, 1) := by decide +kernel
theorem zd_4_80 : decode prog_9_method_1_code 80 = .ok (.ldc 42, 2) := by decide +kernel
theorem zd_4_82 : decode prog_9_method_1_code 82 = .ok (.invokevirtual 36, 3) := by decide +kernel
theorem zd_4_85 : decode prog_9_method_1_code 85 = .ok (.aload_n 0, 1) := by decide +kernel
theorem zd_4_86 : decode prog_9_method_1_code 86 = .ok (.ldc 44, 2) := by decide +kernel
theorem zd_4_88 : decode prog_9_method_1_code 88 = .ok (.invokevirtual 36, 3) := by decide +kernel
theorem zd_4_91 : decode prog_9_method_1_code 91 = .ok (.aload_n 0, 1) := by decide +kernel
theorem zd_4_92 : decode prog_9_method_1_code 92 = .ok (.ldc 46, 2) := by decide +kernel
theorem zd_4_94 : decode prog_9_method_1_code 94 = .ok (.invokevirtual 36, 3) := by decide +kernel
theorem zd_4_97 : decode prog_9_method_1_code 97 = .ok (.aload_n 0, 1) := by decide +kernel
theorem zd_4_98 : decode prog_9_method_1_code 98 = .ok (.ldc 48, 2) := by decide +kernel
theorem zd_4_100 : decode prog_9_method_1_code 100 = .ok (.invokevirtual 36, 3) := by decide +kernel
theorem zd_4_103 : decode prog_9_method_1_code 103 = .ok (.aload_n 0, 1) := by decide +kernel
theorem zd_4_104 : decode prog_9_method_1_code 104 = .ok (.aload_n 0, 1) := by decide +kernel
theorem zd_4_105 : decode prog_9_method_1_code 105 = .ok (.getfield 50, 3) := by decide +kernel
theorem zd_4_108 : decode prog_9_method_1_code 108 = .ok (.putfield 54, 3) := by decide +kernel
theorem zd_5_0 : decode prog_3_method_1_code 0 = .ok (.aload_n 0, 1) := by decide +kernel
theorem zd_5_1 : decode prog_3_method_1_code 1 = .ok (.invokespecial 3, 3) := by decide +kernel
theorem zd_5_4 : decode prog_3_method_1_code 4 = .ok (.aload_n 0, 1) := by decide +kernel
theorem zd_5_5 : decode prog_3_method_1_code 5 = .ok (.bipush 64, 2) := by decide +kernel
theorem zd_5_7 : decode prog_3_method_1_code 7 = .ok (.newarray .int, 2) := by decide +kernel
theorem zd_5_9 : decode prog_3_method_1_code 9 = .ok (.putfield 9, 3) := by decide +kernel
theorem zd_5_12 : decode prog_3_method_1_code 12 = .ok (.aload_n 0, 1) := by decide +kernel
theorem zd_5_13 : decode prog_3_method_1_code 13 = .ok (.bipush 64, 2) := by decide +kernel
theorem zd_5_15 : decode prog_3_method_1_code 15 = .ok (.newarray .int, 2) := by decide +kernel
theorem zd_5_17 : decode prog_3_method_1_code 17 = .ok (.putfield 15, 3) := by decide +kernel
theorem zd_5_20 : decode prog_3_method_1_code 20 = .ok (.aload_n 0, 1) := by decide +kernel
theorem zd_5_21 : decode prog_3_method_1_code 21 = .ok (.bipush 32, 2) := by decide +kernel
theorem zd_5_23 : decode prog_3_method_1_code 23 = .ok (.newarray .int, 2) := by decide +kernel
theorem zd_5_25 : decode prog_3_method_1_code 25 = .ok (.putfield 18, 3) := by decide +kernel
theorem zd_5_28 : decode prog_3_method_1_code 28 = .ok (.aload_n 0, 1) := by decide +kernel
theorem zd_5_29 : decode prog_3_method_1_code 29 = .ok (.new 21, 3) := by decide +kernel
theorem zd_5_32 : decode prog_3_method_1_code 32 = .ok (.dup, 1) := by decide +kernel
theorem zd_5_33 : decode prog_3_method_1_code 33 = .ok (.invokespecial 23, 3) := by decide +kernel
theorem zd_5_36 : decode prog_3_method_1_code 36 = .ok (.putfield 24, 3) := by decide +kernel
theorem zd_5_39 : decode prog_3_method_1_code 39 = .ok (.aload_n 0, 1) := by decide +kernel
theorem zd_5_40 : decode prog_3_method_1_code 40 = .ok (.aload_n 1, 1) := by decide +kernel
theorem zd_5_41 : decode prog_3_method_1_code 41 = .ok (.putfield 28, 3) := by decide +kernel
theorem zd_5_44 : decode prog_3_method_1_code 44 = .ok (.aload_n 0, 1) := by decide +kernel
theorem zd_5_45 : decode prog_3_method_1_code 45 = .ok (.getfield 9, 3) := by decide +kernel
theorem zd_5_48 : decode prog_3_method_1_code 48 = .ok (.iconst (-1), 1) := by decide +kernel
theorem zd_5_49 : decode prog_3_method_1_code 49 = .ok (.invokestatic 32, 3) := by decide +kernel
theorem zd_5_52 : decode prog_3_method_1_code 52 = .ok (.aload_n 0, 1) := by decide +kernel
theorem zd_5_53 : decode prog_3_method_1_code 53 = .ok (.getfield 15, 3) := by decide +kernel
theorem zd_5_56 : decode prog_3_method_1_code 56 = .ok (.iconst (-1), 1) := by decide +kernel
theorem zd_5_57 : decode prog_3_method_1_code 57 = .ok (.invokestatic 32, 3) := by decide +kernel
theorem zd_5_60 : decode prog_3_method_1_code 60 = .ok (.aload_n 0, 1) := by decide +kernel
theorem zd_5_61 : decode prog_3_method_1_code 61 = .ok (.getfield 18, 3) := by decide +kernel
theorem zd_5_64 : decode prog_3_method_1_code 64 = .ok (.iconst (-1), 1) := by decide +kernel
theorem zd_5_65 : decode prog_3_method_1_code 65 = .ok (.invokestatic 32, 3) := by decide +kernel
theorem zd_5_68 : decode prog_3_method_1_code 68 = .ok (.iconst 0, 1) := by decide +kernel
theorem zd_5_69 : decode prog_3_method_1_code 69 = .ok (.istore_n 2, 1) := by decide +kernel
theorem zd_5_70 : decode prog_3_method_1_code 70 = .ok (.iload_n 2, 1) := by decide +kernel
theorem zd_5_71 : decode prog_3_method_1_code 71 = .ok (.bipush 51, 2) := by decide +kernel
theorem zd_5_73 : decode prog_3_method_1_code 73 = .ok (.if_icmp .ge 71, 3) := by decide +kernel
theorem zd_5_76 : decode prog_3_method_1_code 76 = .ok (.getstatic 38, 3) := by decide +kernel
theorem zd_5_79 : decode prog_3_method_1_code 79 = .ok (.iload_n 2, 1) := by decide +kernel
theorem zd_5_80 : decode prog_3_method_1_code 80 = .ok (.iaload, 1) := by decide +kernel
theorem zd_5_81 : decode prog_3_method_1_code 81 = .ok (.bipush 26, 2) := by decide +kernel
theorem zd_5_83 : decode prog_3_method_1_code 83 = .ok (.iushr, 1) := by decide +kernel
theorem zd_5_84 : decode prog_3_method_1_code 84 = .ok (.istore_n 3, 1) := by decide +kernel
theorem zd_5_85 : decode prog_3_method_1_code 85 = .ok (.iload_n 3, 1) := by decide +kernel
theorem zd_5_86 : decode prog_3_method_1_code 86 = .ok (.ifCond .ne 20, 3) := by decide +kernel
theorem zd_5_89 : decode prog_3_method_1_code 89 = .ok (.aload_n 0, 1) := by decide +kernel
theorem zd_5_90 : decode prog_3_method_1_code 90 = .ok (.getfield 15, 3) := by decide +kernel
theorem zd_5_93 : decode prog_3_method_1_code 93 = .ok (.getstatic 38, 3) := by decide +kernel
theorem zd_5_96 : decode prog_3_method_1_code 96 = .ok (.iload_n 2, 1) := by decide +kernel
theorem zd_5_97 : decode prog_3_method_1_code 97 = .ok (.iaload, 1) := by decide +kernel
theorem zd_5_98 : decode prog_3_method_1_code 98 = .ok (.bipush 63, 2) := by decide +kernel
theorem zd_5_100 : decode prog_3_method_1_code 100 = .ok (.iand, 1) := by decide +kernel
theorem zd_5_101 : decode prog_3_method_1_code 101 = .ok (.iload_n 2, 1) := by decide +kernel
theorem zd_5_102 : decode prog_3_method_1_code 102 = .ok (.iastore, 1) := by decide +kernel
theorem zd_5_103 : decode prog_3_method_1_code 103 = .ok (.goto 35, 3) := by decide +kernel
theorem zd_5_106 : decode prog_3_method_1_code 106 = .ok (.iload_n 3, 1) := by decide +kernel
theorem zd_5_107 : decode prog_3_method_1_code 107 = .ok (.iconst 1, 1) := by decide +kernel
theorem zd_5_108 : decode prog_3_method_1_code 108 = .ok (.if_icmp .ne 23, 3) := by decide +kernel
theorem zd_5_111 : decode prog_3_method_1_code 111 = .ok (.aload_n 0, 1) := by decide +kernel
theorem zd_5_112 : decode prog_3_method_1_code 112 = .ok (.getfield 18, 3) := by decide +kernel
theorem zd_5_115 : decode prog_3_method_1_code 115 = .ok (.getstatic 38, 3) := by decide +kernel
theorem zd_5_118 : decode prog_3_method_1_code 118 = .ok (.iload_n 2, 1) := by decide +kernel
theorem zd_5_119 : decode prog_3_method_1_code 119 = .ok (.iaload, 1) := by decide +kernel
theorem zd_5_120 : decode prog_3_method_1_code 120 = .ok (.bipush 16, 2) := by decide +kernel
theorem zd_5_122 : decode prog_3_method_1_code 122 = .ok (.iushr, 1) := by decide +kernel
theorem zd_5_123 : decode prog_3_method_1_code 123 = .ok (.bipush 31, 2) := by decide +kernel
theorem zd_5_125 : decode prog_3_method_1_code 125 = .ok (.iand, 1) := by decide +kernel
theorem zd_5_126 : decode prog_3_method_1_code 126 = .ok (.iload_n 2, 1) := by decide +kernel
theorem zd_5_127 : decode prog_3_method_1_code 127 = .ok (.iastore, 1) := by decide +kernel
theorem zd_5_128 : decode prog_3_method_1_code 128 = .ok (.goto 10, 3) := by decide +kernel
theorem zd_5_131 : decode prog_3_method_1_code 131 = .ok (.aload_n 0, 1) := by decide +kernel
theorem zd_5_132 : decode prog_3_method_1_code 132 = .ok (.getfield 9, 3) := by decide +kernel
theorem zd_5_135 : decode prog_3_method_1_code 135 = .ok (.iload_n 3, 1) := by decide +kernel
theorem zd_5_136 : decode prog_3_method_1_code 136 = .ok (.iload_n 2, 1) := by decide +kernel
theorem zd_5_137 : decode prog_3_method_1_code 137 = .ok (.iastore, 1) := by decide +kernel
theorem zd_5_138 : decode prog_3_method_1_code 138 = .ok (.iinc 2 1, 3) := by decide +kernel
theorem zd_5_141 : decode prog_3_method_1_code 141 = .ok (.goto (-71), 3) := by decide +kernel
theorem zd_6_0 : decode prog_10_method_1_code 0 = .ok (.aload_n 0, 1) := by decide +kernel
theorem zd_6_1 : decode prog_10_method_1_code 1 = .ok (.invokespecial 3, 3) := by decide +kernel
theorem zd_6_4 : decode prog_10_method_1_code 4 = .ok (.aload_n 0, 1) := by decide +kernel
theorem zd_6_5 : decode prog_10_method_1_code 5 = .ok (.sipush 9006, 3) := by decide +kernel
theorem zd_6_8 : decode prog_10_method_1_code 8 = .ok (.newarray .int, 2) := by decide +kernel
theorem zd_6_10 : decode prog_10_method_1_code 10 = .ok (.putfield 11, 3) := by decide +kernel
theorem zd_6_13 : decode prog_10_method_1_code 13 = .ok (.aload_n 0, 1) := by decide +kernel
theorem zd_6_14 : decode prog_10_method_1_code 14 = .ok (.sipush 9006, 3) := by decide +kernel
theorem zd_6_17 : decode prog_10_method_1_code 17 = .ok (.newarray .int, 2) := by decide +kernel
theorem zd_6_19 : decode prog_10_method_1_code 19 = .ok (.putfield 15, 3) := by decide +kernel
theorem zd_6_22 : decode prog_10_method_1_code 22 = .ok (.aload_n 0, 1) := by decide +kernel
theorem zd_6_23 : decode prog_10_method_1_code 23 = .ok (.sipush 2250, 3) := by decide +kernel
theorem zd_6_26 : decode prog_10_method_1_code 26 = .ok (.newarray .int, 2) := by decide +kernel
theorem zd_6_28 : decode prog_10_method_1_code 28 = .ok (.putfield 18, 3) := by decide +kernel
theorem zd_6_31 : decode prog_10_method_1_code 31 = .ok (.aload_n 0, 1) := by decide +kernel
theorem zd_6_32 : decode prog_10_method_1_code 32 = .ok (.sipush 750, 3) := by decide +kernel
theorem zd_6_35 : decode prog_10_method_1_code 35 = .ok (.newarray .int, 2) := by decide +kernel
theorem zd_6_37 : decode prog_10_method_1_code 37 = .ok (.putfield 21, 3) := by decide +kernel
theorem zd_6_40 : decode prog_10_method_1_code 40 = .ok (.aload_n 0, 1) := by decide +kernel
theorem zd_6_41 : decode prog_10_method_1_code 41 = .ok (.aload_n 1, 1) := by decide +kernel
theorem zd_6_42 : decode prog_10_method_1_code 42 = .ok (.putfield 24, 3) := by decide +kernel
theorem zd_7_0 : decode prog_2_method_1_code 0 = .ok (.aload_n 0, 1) := by decide +kernel
theorem zd_7_1 : decode prog_2_method_1_code 1 = .ok (.invokespecial 5, 3) := by decide +kernel
theorem zd_7_4 : decode prog_2_method_1_code 4 = .ok (.aload_n 0, 1) := by decide +kernel
theorem zd_7_5 : decode prog_2_method_1_code 5 = .ok (.bipush 10, 2) := by decide +kernel
theorem zd_7_7 : decode prog_2_method_1_code 7 = .ok (.newarray .int, 2) := by decide +kernel
theorem zd_7_9 : decode prog_2_method_1_code 9 = .ok (.putfield 11, 3) := by decide +kernel
theorem zd_7_12 : decode prog_2_method_1_code 12 = .ok (.aload_n 0, 1) := by decide +kernel
theorem zd_7_13 : decode prog_2_method_1_code 13 = .ok (.bipush 10, 2) := by decide +kernel
theorem zd_7_15 : decode prog_2_method_1_code 15 = .ok (.newarray .int, 2) := by decide +kernel
theorem zd_7_17 : decode prog_2_method_1_code 17 = .ok (.putfield 15, 3) := by decide +kernel
theorem zd_7_20 : decode prog_2_method_1_code 20 = .ok (.aload_n 0, 1) := by decide +kernel
theorem zd_7_21 : decode prog_2_method_1_code 21 = .ok (.bipush 10, 2) := by decide +kernel
theorem zd_7_23 : decode prog_2_method_1_code 23 = .ok (.newarray .int, 2) := by decide +kernel
theorem zd_7_25 : decode prog_2_method_1_code 25 = .ok (.putfield 18, 3) := by decide +kernel
theorem zd_7_28 : decode prog_2_method_1_code 28 = .ok (.aload_n 0, 1) := by decide +kernel
theorem zd_7_29 : decode prog_2_method_1_code 29 = .ok (.sipush 3000, 3) := by decide +kernel
theorem zd_7_32 : decode prog_2_method_1_code 32 = .ok (.newarray .int, 2) := by decide +kernel
theorem zd_7_34 : decode prog_2_method_1_code 34 = .ok (.putfield 21, 3) := by decide +kernel
theorem zd_7_37 : decode prog_2_method_1_code 37 = .ok (.aload_n 0, 1) := by decide +kernel
theorem zd_7_38 : decode prog_2_method_1_code 38 = .ok (.bipush 64, 2) := by decide +kernel
theorem zd_7_40 : decode prog_2_method_1_code 40 = .ok (.newarray .int, 2) := by decide +kernel
theorem zd_7_42 : decode prog_2_method_1_code 42 = .ok (.putfield 24, 3) := by decide +kernel
theorem zd_7_45 : decode prog_2_method_1_code 45 = .ok (.aload_n 0, 1) := by decide +kernel
theorem zd_7_46 : decode prog_2_method_1_code 46 = .ok (.bipush 64, 2) := by decide +kernel
theorem zd_7_48 : decode prog_2_method_1_code 48 = .ok (.newarray .int, 2) := by decide +kernel
theorem zd_7_50 : decode prog_2_method_1_code 50 = .ok (.putfield 27, 3) := by decide +kernel
theorem zd_7_53 : decode prog_2_method_1_code 53 = .ok (.aload_n 0, 1) := by decide +kernel
theorem zd_7_54 : decode prog_2_method_1_code 54 = .ok (.bipush 64, 2) := by decide +kernel
theorem zd_7_56 : decode prog_2_method_1_code 56 = .ok (.newarray .int, 2) := by decide +kernel
theorem zd_7_58 : decode prog_2_method_1_code 58 = .ok (.putfield 30, 3) := by decide +kernel
theorem zd_7_61 : decode prog_2_method_1_code 61 = .ok (.aload_n 0, 1) := by decide +kernel
theorem zd_7_62 : decode prog_2_method_1_code 62 = .ok (.bipush 64, 2) := by decide +kernel
theorem zd_7_64 : decode prog_2_method_1_code 64 = .ok (.newarray .int, 2) := by decide +kernel
theorem zd_7_66 : decode prog_2_method_1_code 66 = .ok (.putfield 33, 3) := by decide +kernel
theorem zd_7_69 : decode prog_2_method_1_code 69 = .ok (.aload_n 0, 1) := by decide +kernel
theorem zd_7_70 : decode prog_2_method_1_code 70 = .ok (.aload_n 1, 1) := by decide +kernel
theorem zd_7_71 : decode prog_2_method_1_code 71 = .ok (.putfield 36, 3) := by decide +kernel
theorem zd_7_74 : decode prog_2_method_1_code 74 = .ok (.aload_n 0, 1) := by decide +kernel
theorem zd_7_75 : decode prog_2_method_1_code 75 = .ok (.new 40, 3) := by decide +kernel
theorem zd_7_78 : decode prog_2_method_1_code 78 = .ok (.dup, 1) := by decide +kernel
theorem zd_7_79 : decode prog_2_method_1_code 79 = .ok (.aload_n 1, 1) := by decide +kernel
theorem zd_7_80 : decode prog_2_method_1_code 80 = .ok (.invokespecial 42, 3) := by decide +kernel
theorem zd_7_83 : decode prog_2_method_1_code 83 = .ok (.putfield 45, 3) := by decide +kernel
theorem zd_7_86 : decode prog_2_method_1_code 86 = .ok (.aload_n 0, 1) := by decide +kernel
theorem zd_7_87 : decode prog_2_method_1_code 87 = .ok (.new 49, 3) := by decide +kernel
theorem zd_7_90 : decode prog_2_method_1_code 90 = .ok (.dup, 1) := by decide +kernel
theorem zd_7_91 : decode prog_2_method_1_code 91 = .ok (.aload_n 1, 1) := by decide +kernel
theorem zd_7_92 : decode prog_2_method_1_code 92 = .ok (.invokespecial 51, 3) := by decide +kernel
theorem zd_7_95 : decode prog_2_method_1_code 95 = .ok (.putfield 52, 3) := by decide +kernel
theorem zd_8_0 : decode prog_7_method_1_code 0 = .ok (.aload_n 0, 1) := by decide +kernel
theorem zd_8_1 : decode prog_7_method_1_code 1 = .ok (.invokespecial 3, 3) := by decide +kernel
theorem zd_8_4 : decode prog_7_method_1_code 4 = .ok (.aload_n 0, 1) := by decide +kernel
theorem zd_8_5 : decode prog_7_method_1_code 5 = .ok (.bipush 32, 2) := by decide +kernel
theorem zd_8_7 : decode prog_7_method_1_code 7 = .ok (.newarray .int, 2) := by decide +kernel
theorem zd_8_9 : decode prog_7_method_1_code 9 = .ok (.putfield 9, 3) := by decide +kernel
theorem zd_8_12 : decode prog_7_method_1_code 12 = .ok (.aload_n 0, 1) := by decide +kernel
theorem zd_8_13 : decode prog_7_method_1_code 13 = .ok (.sipush 200, 3) := by decide +kernel
theorem zd_8_16 : decode prog_7_method_1_code 16 = .ok (.newarray .int, 2) := by decide +kernel
theorem zd_8_18 : decode prog_7_method_1_code 18 = .ok (.putfield 15, 3) := by decide +kernel
theorem zd_8_21 : decode prog_7_method_1_code 21 = .ok (.aload_n 0, 1) := by decide +kernel
theorem zd_8_22 : decode prog_7_method_1_code 22 = .ok (.sipush 16384, 3) := by decide +kernel
theorem zd_8_25 : decode prog_7_method_1_code 25 = .ok (.newarray .int, 2) := by decide +kernel
theorem zd_8_27 : decode prog_7_method_1_code 27 = .ok (.putfield 18, 3) := by decide +kernel
theorem zd_8_30 : decode prog_7_method_1_code 30 = .ok (.aload_n 0, 1) := by decide +kernel
theorem zd_8_31 : decode prog_7_method_1_code 31 = .ok (.aload_n 1, 1) := by decide +kernel
theorem zd_8_32 : decode prog_7_method_1_code 32 = .ok (.putfield 21, 3) := by decide +kernel
theorem zd_9_0 : decode prog_6_method_1_code 0 = .ok (.aload_n 0, 1) := by decide +kernel
theorem zd_9_1 : decode prog_6_method_1_code 1 = .ok (.invokespecial 3, 3) := by decide +kernel
theorem zd_9_4 : decode prog_6_method_1_code 4 = .ok (.aload_n 0, 1) := by decide +kernel
theorem zd_9_5 : decode prog_6_method_1_code 5 = .ok (.sipush 448, 3) := by decide +kernel
theorem zd_9_8 : decode prog_6_method_1_code 8 = .ok (.newarray .int, 2) := by decide +kernel
theorem zd_9_10 : decode prog_6_method_1_code 10 = .ok (.putfield 9, 3) := by decide +kernel
theorem zd_9_13 : decode prog_6_method_1_code 13 = .ok (.aload_n 0, 1) := by decide +kernel
theorem zd_9_14 : decode prog_6_method_1_code 14 = .ok (.aload_n 1, 1) := by decide +kernel
theorem zd_9_15 : decode prog_6_method_1_code 15 = .ok (.putfield 15, 3) := by decide +kernel
theorem zd_9_18 : decode prog_6_method_1_code 18 = .ok (.aload_n 0, 1) := by decide +kernel
theorem zd_9_19 : decode prog_6_method_1_code 19 = .ok (.aload_n 2, 1) := by decide +kernel
theorem zd_9_20 : decode prog_6_method_1_code 20 = .ok (.putfield 19, 3) := by decide +kernel
theorem zd_10_0 : decode prog_8_method_1_code 0 = .ok (.aload_n 0, 1) := by decide +kernel
theorem zd_10_1 : decode prog_8_method_1_code 1 = .ok (.invokespecial 5, 3) := by decide +kernel
theorem zd_10_4 : decode prog_8_method_1_code 4 = .ok (.aload_n 0, 1) := by decide +kernel
theorem zd_10_5 : decode prog_8_method_1_code 5 = .ok (.sipush 200, 3) := by decide +kernel
theorem zd_10_8 : decode prog_8_method_1_code 8 = .ok (.newarray .int, 2) := by decide +kernel
theorem zd_10_10 : decode prog_8_method_1_code 10 = .ok (.putfield 11, 3) := by decide +kernel
theorem zd_10_13 : decode prog_8_method_1_code 13 = .ok (.aload_n 0, 1) := by decide +kernel
theorem zd_10_14 : decode prog_8_method_1_code 14 = .ok (.sipush 720, 3) := by decide +kernel
theorem zd_10_17 : decode prog_8_method_1_code 17 = .ok (.newarray .int, 2) := by decide +kernel
theorem zd_10_19 : decode prog_8_method_1_code 19 = .ok (.putfield 15, 3) := by decide +kernel
theorem zd_10_22 : decode prog_8_method_1_code 22 = .ok (.aload_n 0, 1) := by decide +kernel
theorem zd_10_23 : decode prog_8_method_1_code 23 = .ok (.sipush 360, 3) := by decide +kernel
theorem zd_10_26 : decode prog_8_method_1_code 26 = .ok (.newarray .int, 2) := by decide +kernel
theorem zd_10_28 : decode prog_8_method_1_code 28 = .ok (.putfield 18, 3) := by decide +kernel
theorem zd_10_31 : decode prog_8_method_1_code 31 = .ok (.aload_n 0, 1) := by decide +kernel
theorem zd_10_32 : decode prog_8_method_1_code 32 = .ok (.sipush 24576, 3) := by decide +kernel
theorem zd_10_35 : decode prog_8_method_1_code 35 = .ok (.newarray .int, 2) := by decide +kernel
theorem zd_10_37 : decode prog_8_method_1_code 37 = .ok (.putfield 21, 3) := by decide +kernel
theorem zd_10_40 : decode prog_8_method_1_code 40 = .ok (.aload_n 0, 1) := by decide +kernel
theorem zd_10_41 : decode prog_8_method_1_code 41 = .ok (.sipush 16600, 3) := by decide +kernel
theorem zd_10_44 : decode prog_8_method_1_code 44 = .ok (.newarray .int, 2) := by decide +kernel
theorem zd_10_46 : decode prog_8_method_1_code 46 = .ok (.putfield 24, 3) := by decide +kernel
theorem zd_10_49 : decode prog_8_method_1_code 49 = .ok (.aload_n 0, 1) := by decide +kernel
theorem zd_10_50 : decode prog_8_method_1_code 50 = .ok (.aload_n 1, 1) := by decide +kernel
theorem zd_10_51 : decode prog_8_method_1_code 51 = .ok (.putfield 27, 3) := by decide +kernel
theorem zd_11_0 : decode prog_4_method_1_code 0 = .ok (.aload_n 0, 1) := by decide +kernel
theorem zd_11_1 : decode prog_4_method_1_code 1 = .ok (.invokespecial 3, 3) := by decide +kernel
theorem zd_11_4 : decode prog_4_method_1_code 4 = .ok (.aload_n 0, 1) := by decide +kernel
theorem zd_11_5 : decode prog_4_method_1_code 5 = .ok (.ldc 9, 2) := by decide +kernel
theorem zd_11_7 : decode prog_4_method_1_code 7 = .ok (.newarray .byte, 2) := by decide +kernel
theorem zd_11_9 : decode prog_4_method_1_code 9 = .ok (.putfield 10, 3) := by decide +kernel
theorem zd_11_12 : decode prog_4_method_1_code 12 = .ok (.aload_n 0, 1) := by decide +kernel
theorem zd_11_13 : decode prog_4_method_1_code 13 = .ok (.sipush 6400, 3) := by decide +kernel
theorem zd_11_16 : decode prog_4_method_1_code 16 = .ok (.newarray .int, 2) := by decide +kernel
theorem zd_11_18 : decode prog_4_method_1_code 18 = .ok (.putfield 16, 3) := by decide +kernel
theorem zd_11_21 : decode prog_4_method_1_code 21 = .ok (.aload_n 0, 1) := by decide +kernel
theorem zd_11_22 : decode prog_4_method_1_code 22 = .ok (.sipush 3072, 3) := by decide +kernel
theorem zd_11_25 : decode prog_4_method_1_code 25 = .ok (.newarray .int, 2) := by decide +kernel
theorem zd_11_27 : decode prog_4_method_1_code 27 = .ok (.putfield 20, 3) := by decide +kernel
theorem zd_11_30 : decode prog_4_method_1_code 30 = .ok (.aload_n 0, 1) := by decide +kernel
theorem zd_11_31 : decode prog_4_method_1_code 31 = .ok (.sipush 512, 3) := by decide +kernel
theorem zd_11_34 : decode prog_4_method_1_code 34 = .ok (.newarray .long, 2) := by decide +kernel
theorem zd_11_36 : decode prog_4_method_1_code 36 = .ok (.putfield 23, 3) := by decide +kernel
theorem zd_11_39 : decode prog_4_method_1_code 39 = .ok (.aload_n 0, 1) := by decide +kernel
theorem zd_11_40 : decode prog_4_method_1_code 40 = .ok (.bipush 60, 2) := by decide +kernel
theorem zd_11_42 : decode prog_4_method_1_code 42 = .ok (.newarray .int, 2) := by decide +kernel
theorem zd_11_44 : decode prog_4_method_1_code 44 = .ok (.putfield 27, 3) := by decide +kernel
theorem zd_11_47 : decode prog_4_method_1_code 47 = .ok (.aload_n 0, 1) := by decide +kernel
theorem zd_11_48 : decode prog_4_method_1_code 48 = .ok (.bipush 60, 2) := by decide +kernel
theorem zd_11_50 : decode prog_4_method_1_code 50 = .ok (.newarray .long, 2) := by decide +kernel
theorem zd_11_52 : decode prog_4_method_1_code 52 = .ok (.putfield 30, 3) := by decide +kernel
theorem zd_12_0 : decode prog_12_method_1_code 0 = .ok (.aload_n 0, 1) := by decide +kernel
theorem zd_12_1 : decode prog_12_method_1_code 1 = .ok (.invokespecial 3, 3) := by decide +kernel
theorem zd_12_4 : decode prog_12_method_1_code 4 = .ok (.aload_n 0, 1) := by decide +kernel
theorem zd_12_5 : decode prog_12_method_1_code 5 = .ok (.aload_n 1, 1) := by decide +kernel
theorem zd_12_6 : decode prog_12_method_1_code 6 = .ok (.putfield 9, 3) := by decide +kernel
theorem zd_12_9 : decode prog_12_method_1_code 9 = .ok (.aload_n 0, 1) := by decide +kernel
theorem zd_12_10 : decode prog_12_method_1_code 10 = .ok (.iconst 2, 1) := by decide +kernel
theorem zd_12_11 : decode prog_12_method_1_code 11 = .ok (.iload_n 2, 1) := by decide +kernel
theorem zd_12_12 : decode prog_12_method_1_code 12 = .ok (.imul, 1) := by decide +kernel
theorem zd_12_13 : decode prog_12_method_1_code 13 = .ok (.newarray .long, 2) := by decide +kernel
theorem zd_12_15 : decode prog_12_method_1_code 15 = .ok (.putfield 15, 3) := by decide +kernel
theorem zd_12_18 : decode prog_12_method_1_code 18 = .ok (.aload_n 0, 1) := by decide +kernel
theorem zd_12_19 : decode prog_12_method_1_code 19 = .ok (.bipush 6, 2) := by decide +kernel
theorem zd_12_21 : decode prog_12_method_1_code 21 = .ok (.iload_n 2, 1) := by decide +kernel
theorem zd_12_22 : decode prog_12_method_1_code 22 = .ok (.imul, 1) := by decide +kernel
theorem zd_12_23 : decode prog_12_method_1_code 23 = .ok (.newarray .int, 2) := by decide +kernel
theorem zd_12_25 : decode prog_12_method_1_code 25 = .ok (.putfield 19, 3) := by decide +kernel
theorem zd_12_28 : decode prog_12_method_1_code 28 = .ok (.aload_n 0, 1) := by decide +kernel
theorem zd_12_29 : decode prog_12_method_1_code 29 = .ok (.iconst 2, 1) := by decide +kernel
theorem zd_12_30 : decode prog_12_method_1_code 30 = .ok (.iload_n 3, 1) := by decide +kernel
theorem zd_12_31 : decode prog_12_method_1_code 31 = .ok (.imul, 1) := by decide +kernel
theorem zd_12_32 : decode prog_12_method_1_code 32 = .ok (.newarray .long, 2) := by decide +kernel
theorem zd_12_34 : decode prog_12_method_1_code 34 = .ok (.putfield 23, 3) := by decide +kernel
theorem zd_12_37 : decode prog_12_method_1_code 37 = .ok (.aload_n 0, 1) := by decide +kernel
theorem zd_12_38 : decode prog_12_method_1_code 38 = .ok (.iconst 5, 1) := by decide +kernel
theorem zd_12_39 : decode prog_12_method_1_code 39 = .ok (.iload_n 3, 1) := by decide +kernel
theorem zd_12_40 : decode prog_12_method_1_code 40 = .ok (.imul, 1) := by decide +kernel
theorem zd_12_41 : decode prog_12_method_1_code 41 = .ok (.newarray .int, 2) := by decide +kernel
theorem zd_12_43 : decode prog_12_method_1_code 43 = .ok (.putfield 26, 3) := by decide +kernel
theorem zd_12_46 : decode prog_12_method_1_code 46 = .ok (.aload_n 0, 1) := by decide +kernel
theorem zd_12_47 : decode prog_12_method_1_code 47 = .ok (.iconst 2, 1) := by decide +kernel
theorem zd_12_48 : decode prog_12_method_1_code 48 = .ok (.iload 4, 2) := by decide +kernel
theorem zd_12_50 : decode prog_12_method_1_code 50 = .ok (.imul, 1) := by decide +kernel
theorem zd_12_51 : decode prog_12_method_1_code 51 = .ok (.newarray .long, 2) := by decide +kernel
theorem zd_12_53 : decode prog_12_method_1_code 53 = .ok (.putfield 29, 3) := by decide +kernel
theorem zd_12_56 : decode prog_12_method_1_code 56 = .ok (.aload_n 0, 1) := by decide +kernel
theorem zd_12_57 : decode prog_12_method_1_code 57 = .ok (.iconst 2, 1) := by decide +kernel
theorem zd_12_58 : decode prog_12_method_1_code 58 = .ok (.iload 4, 2) := by decide +kernel
theorem zd_12_60 : decode prog_12_method_1_code 60 = .ok (.imul, 1) := by decide +kernel
theorem zd_12_61 : decode prog_12_method_1_code 61 = .ok (.newarray .int, 2) := by decide +kernel
theorem zd_12_63 : decode prog_12_method_1_code 63 = .ok (.putfield 32, 3) := by decide +kernel
theorem zd_12_66 : decode prog_12_method_1_code 66 = .ok (.aload_n 0, 1) := by decide +kernel
theorem zd_12_67 : decode prog_12_method_1_code 67 = .ok (.iconst 2, 1) := by decide +kernel
theorem zd_12_68 : decode prog_12_method_1_code 68 = .ok (.iload 5, 2) := by decide +kernel
theorem zd_12_70 : decode prog_12_method_1_code 70 = .ok (.imul, 1) := by decide +kernel
theorem zd_12_71 : decode prog_12_method_1_code 71 = .ok (.newarray .long, 2) := by decide +kernel
theorem zd_12_73 : decode prog_12_method_1_code 73 = .ok (.putfield 35, 3) := by decide +kernel
theorem zd_12_76 : decode prog_12_method_1_code 76 = .ok (.aload_n 0, 1) := by decide +kernel
theorem zd_12_77 : decode prog_12_method_1_code 77 = .ok (.bipush 6, 2) := by decide +kernel
theorem zd_12_79 : decode prog_12_method_1_code 79 = .ok (.iload 5, 2) := by decide +kernel
theorem zd_12_81 : decode prog_12_method_1_code 81 = .ok (.imul, 1) := by decide +kernel
theorem zd_12_82 : decode prog_12_method_1_code 82 = .ok (.newarray .int, 2) := by decide +kernel
theorem zd_12_84 : decode prog_12_method_1_code 84 = .ok (.putfield 38, 3) := by decide +kernel
theorem zd_12_87 : decode prog_12_method_1_code 87 = .ok (.aload_n 0, 1) := by decide +kernel
theorem zd_12_88 : decode prog_12_method_1_code 88 = .ok (.iload 6, 2) := by decide +kernel
theorem zd_12_90 : decode prog_12_method_1_code 90 = .ok (.newarray .byte, 2) := by decide +kernel
theorem zd_12_92 : decode prog_12_method_1_code 92 = .ok (.putfield 41, 3) := by decide +kernel
theorem zd_13_0 : decode prog_26_method_54_code 0 = .ok (.aload_n 0, 1) := by decide +kernel
theorem zd_13_1 : decode prog_26_method_54_code 1 = .ok (.getfield 9, 3) := by decide +kernel
theorem zd_13_4 : decode prog_26_method_54_code 4 = .ok (.arraylength, 1) := by decide +kernel
theorem zd_13_5 : decode prog_26_method_54_code 5 = .ok (.aload_n 0, 1) := by decide +kernel
theorem zd_13_6 : decode prog_26_method_54_code 6 = .ok (.invokevirtual 335, 3) := by decide +kernel
theorem zd_13_9 : decode prog_26_method_54_code 9 = .ok (.ishr, 1) := by decide +kernel
theorem zd_14_0 : decode prog_26_method_56_code 0 = .ok (.aload_n 0, 1) := by decide +kernel
theorem zd_14_1 : decode prog_26_method_56_code 1 = .ok (.invokevirtual 492, 3) := by decide +kernel
theorem zd_14_4 : decode prog_26_method_56_code 4 = .ok (.ifCond .eq 12, 3) := by decide +kernel
theorem zd_14_7 : decode prog_26_method_56_code 7 = .ok (.aload_n 0, 1) := by decide +kernel
theorem zd_14_8 : decode prog_26_method_56_code 8 = .ok (.getfield 9, 3) := by decide +kernel
theorem zd_14_11 : decode prog_26_method_56_code 11 = .ok (.iload_n 1, 1) := by decide +kernel
theorem zd_14_12 : decode prog_26_method_56_code 12 = .ok (.invokestatic 495, 3) := by decide +kernel
theorem zd_15_0 : decode prog_2_method_2_code 0 = .ok (.aload_n 0, 1) := by decide +kernel
theorem zd_15_1 : decode prog_2_method_2_code 1 = .ok (.getfield 36, 3) := by decide +kernel
theorem zd_15_4 : decode prog_2_method_2_code 4 = .ok (.invokevirtual 56, 3) := by decide +kernel
theorem zd_15_7 : decode prog_2_method_2_code 7 = .ok (.aload_n 0, 1) := by decide +kernel
theorem zd_15_8 : decode prog_2_method_2_code 8 = .ok (.getfield 45, 3) := by decide +kernel
theorem zd_15_11 : decode prog_2_method_2_code 11 = .ok (.aload_n 2, 1) := by decide +kernel
theorem zd_15_12 : decode prog_2_method_2_code 12 = .ok (.iload_n 3, 1) := by decide +kernel
theorem zd_15_13 : decode prog_2_method_2_code 13 = .ok (.invokevirtual 61, 3) := by decide +kernel
theorem zd_15_16 : decode prog_2_method_2_code 16 = .ok (.aload_n 0, 1) := by decide +kernel
theorem zd_15_17 : decode prog_2_method_2_code 17 = .ok (.aload_n 1, 1) := by decide +kernel
theorem zd_15_18 : decode prog_2_method_2_code 18 = .ok (.putfield 65, 3) := by decide +kernel
theorem zd_15_21 : decode prog_2_method_2_code 21 = .ok (.aload_n 0, 1) := by decide +kernel
theorem zd_15_22 : decode prog_2_method_2_code 22 = .ok (.getfield 65, 3) := by decide +kernel
theorem zd_15_25 : decode prog_2_method_2_code 25 = .ok (.invokevirtual 69, 3) := by decide +kernel
theorem zd_15_28 : decode prog_2_method_2_code 28 = .ok (.aload_n 0, 1) := by decide +kernel
theorem zd_15_29 : decode prog_2_method_2_code 29 = .ok (.iconst 1, 1) := by decide +kernel
theorem zd_15_30 : decode prog_2_method_2_code 30 = .ok (.putfield 72, 3) := by decide +kernel
theorem zd_15_33 : decode prog_2_method_2_code 33 = .ok (.aload_n 0, 1) := by decide +kernel
theorem zd_15_34 : decode prog_2_method_2_code 34 = .ok (.iconst 0, 1) := by decide +kernel
theorem zd_15_35 : decode prog_2_method_2_code 35 = .ok (.putfield 76, 3) := by decide +kernel
theorem zd_15_38 : decode prog_2_method_2_code 38 = .ok (.aload_n 0, 1) := by decide +kernel
theorem zd_15_39 : decode prog_2_method_2_code 39 = .ok (.iconst 0, 1) := by decide +kernel
theorem zd_15_40 : decode prog_2_method_2_code 40 = .ok (.putfield 80, 3) := by decide +kernel
theorem zd_15_43 : decode prog_2_method_2_code 43 = .ok (.aload_n 0, 1) := by decide +kernel
theorem zd_15_44 : decode prog_2_method_2_code 44 = .ok (.getfield 11, 3) := by decide +kernel
theorem zd_15_47 : decode prog_2_method_2_code 47 = .ok (.iconst (-1), 1) := by decide +kernel
theorem zd_15_48 : decode prog_2_method_2_code 48 = .ok (.invokestatic 83, 3) := by decide +kernel
theorem zd_15_51 : decode prog_2_method_2_code 51 = .ok (.aload_n 0, 1) := by decide +kernel
theorem zd_15_52 : decode prog_2_method_2_code 52 = .ok (.getfield 15, 3) := by decide +kernel
theorem zd_15_55 : decode prog_2_method_2_code 55 = .ok (.iconst (-1), 1) := by decide +kernel
theorem zd_15_56 : decode prog_2_method_2_code 56 = .ok (.invokestatic 83, 3) := by decide +kernel
theorem zd_15_59 : decode prog_2_method_2_code 59 = .ok (.aload_n 0, 1) := by decide +kernel
theorem zd_15_60 : decode prog_2_method_2_code 60 = .ok (.iconst 0, 1) := by decide +kernel
theorem zd_15_61 : decode prog_2_method_2_code 61 = .ok (.putfield 89, 3) := by decide +kernel
theorem zd_15_64 : decode prog_2_method_2_code 64 = .ok (.aload_n 0, 1) := by decide +kernel
theorem zd_15_65 : decode prog_2_method_2_code 65 = .ok (.ldc 92, 2) := by decide +kernel
theorem zd_15_67 : decode prog_2_method_2_code 67 = .ok (.invokestatic 94, 3) := by decide +kernel
theorem zd_15_70 : decode prog_2_method_2_code 70 = .ok (.lconst 0, 1) := by decide +kernel
theorem zd_15_71 : decode prog_2_method_2_code 71 = .ok (.iconst 0, 1) := by decide +kernel
theorem zd_15_72 : decode prog_2_method_2_code 72 = .ok (.invokevirtual 98, 3) := by decide +kernel
theorem zd_15_75 : decode prog_2_method_2_code 75 = .ok (.iconst 0, 1) := by decide +kernel
theorem zd_15_76 : decode prog_2_method_2_code 76 = .ok (.istore 4, 2) := by decide +kernel
theorem zd_15_78 : decode prog_2_method_2_code 78 = .ok (.iload 4, 2) := by decide +kernel
theorem zd_15_80 : decode prog_2_method_2_code 80 = .ok (.sipush 4000, 3) := by decide +kernel
theorem zd_15_83 : decode prog_2_method_2_code 83 = .ok (.if_icmp .gt 34, 3) := by decide +kernel
theorem zd_15_86 : decode prog_2_method_2_code 86 = .ok (.aload_n 0, 1) := by decide +kernel
theorem zd_15_87 : decode prog_2_method_2_code 87 = .ok (.getfield 89, 3) := by decide +kernel
theorem zd_15_90 : decode prog_2_method_2_code 90 = .ok (.ifCond .ne 27, 3) := by decide +kernel
theorem zd_15_93 : decode prog_2_method_2_code 93 = .ok (.aload_n 0, 1) := by decide +kernel
theorem zd_15_94 : decode prog_2_method_2_code 94 = .ok (.getfield 45, 3) := by decide +kernel
theorem zd_15_97 : decode prog_2_method_2_code 97 = .ok (.invokevirtual 102, 3) := by decide +kernel
theorem zd_15_100 : decode prog_2_method_2_code 100 = .ok (.ifCond .eq 17, 3) := by decide +kernel
theorem zd_15_103 : decode prog_2_method_2_code 103 = .ok (.aload_n 0, 1) := by decide +kernel
theorem zd_15_104 : decode prog_2_method_2_code 104 = .ok (.aload_n 0, 1) := by decide +kernel
theorem zd_15_105 : decode prog_2_method_2_code 105 = .ok (.invokevirtual 106, 3) := by decide +kernel
theorem zd_15_108 : decode prog_2_method_2_code 108 = .ok (.putfield 89, 3) := by decide +kernel
theorem zd_15_111 : decode prog_2_method_2_code 111 = .ok (.iinc 4 1, 3) := by decide +kernel
theorem zd_15_114 : decode prog_2_method_2_code 114 = .ok (.goto (-36), 3) := by decide +kernel
theorem zd_15_117 : decode prog_2_method_2_code 117 = .ok (.aload_n 0, 1) := by decide +kernel
theorem zd_15_118 : decode prog_2_method_2_code 118 = .ok (.getfield 89, 3) := by decide +kernel
theorem zd_15_121 : decode prog_2_method_2_code 121 = .ok (.ifCond .ne 14, 3) := by decide +kernel
theorem zd_15_124 : decode prog_2_method_2_code 124 = .ok (.aload_n 0, 1) := by decide +kernel
theorem zd_15_125 : decode prog_2_method_2_code 125 = .ok (.aload_n 0, 1) := by decide +kernel
theorem zd_15_126 : decode prog_2_method_2_code 126 = .ok (.getfield 45, 3) := by decide +kernel
theorem zd_15_129 : decode prog_2_method_2_code 129 = .ok (.getfield 110, 3) := by decide +kernel
theorem zd_15_132 : decode prog_2_method_2_code 132 = .ok (.putfield 89, 3) := by decide +kernel
theorem zd_15_135 : decode prog_2_method_2_code 135 = .ok (.aload_n 0, 1) := by decide +kernel
theorem zd_15_136 : decode prog_2_method_2_code 136 = .ok (.aload_n 0, 1) := by decide +kernel
theorem zd_15_137 : decode prog_2_method_2_code 137 = .ok (.getfield 45, 3) := by decide +kernel
theorem zd_15_140 : decode prog_2_method_2_code 140 = .ok (.getfield 113, 3) := by decide +kernel
theorem zd_15_143 : decode prog_2_method_2_code 143 = .ok (.putfield 116, 3) := by decide +kernel
theorem zd_15_146 : decode prog_2_method_2_code 146 = .ok (.aload_n 0, 1) := by decide +kernel
theorem zd_15_147 : decode prog_2_method_2_code 147 = .ok (.getfield 89, 3) := by decide +kernel
theorem zd_15_150 : decode prog_2_method_2_code 150 = .ok (.ifCond .ne 7, 3) := by decide +kernel
theorem zd_15_153 : decode prog_2_method_2_code 153 = .ok (.aload_n 0, 1) := by decide +kernel
theorem zd_15_154 : decode prog_2_method_2_code 154 = .ok (.invokevirtual 119, 3) := by decide +kernel
theorem zd_15_157 : decode prog_2_method_2_code 157 = .ok (.aload_n 0, 1) := by decide +kernel
theorem zd_15_158 : decode prog_2_method_2_code 158 = .ok (.getfield 89, 3) := by decide +kernel
theorem zd_15_161 : decode prog_2_method_2_code 161 = .ok (.ifCond .ne 7, 3) := by decide +kernel
theorem zd_15_164 : decode prog_2_method_2_code 164 = .ok (.iconst 1, 1) := by decide +kernel
theorem zd_15_165 : decode prog_2_method_2_code 165 = .ok (.goto 4, 3) := by decide +kernel
theorem zd_16_0 : decode prog_14_method_95_code 0 = .ok (.aload_n 0, 1) := by decide +kernel
theorem zd_16_1 : decode prog_14_method_95_code 1 = .ok (.lload_n 1, 1) := by decide +kernel
theorem zd_16_2 : decode prog_14_method_95_code 2 = .ok (.lload_n 3, 1) := by decide +kernel
theorem zd_16_3 : decode prog_14_method_95_code 3 = .ok (.invokevirtual 536, 3) := by decide +kernel
theorem zd_16_6 : decode prog_14_method_95_code 6 = .ok (.istore 5, 2) := by decide +kernel
theorem zd_16_8 : decode prog_14_method_95_code 8 = .ok (.aload_n 0, 1) := by decide +kernel
theorem zd_16_9 : decode prog_14_method_95_code 9 = .ok (.iload 5, 2) := by decide +kernel
theorem zd_16_11 : decode prog_14_method_95_code 11 = .ok (.aload_n 0, 1) := by decide +kernel
theorem zd_16_12 : decode prog_14_method_95_code 12 = .ok (.getfield 520, 3) := by decide +kernel
theorem zd_16_15 : decode prog_14_method_95_code 15 = .ok (.if_icmp .ge 10, 3) := by decide +kernel
theorem zd_16_18 : decode prog_14_method_95_code 18 = .ok (.aload_n 0, 1) := by decide +kernel
theorem zd_16_19 : decode prog_14_method_95_code 19 = .ok (.getfield 520, 3) := by decide +kernel
theorem zd_16_22 : decode prog_14_method_95_code 22 = .ok (.goto 5, 3) := by decide +kernel
theorem zd_16_27 : decode prog_14_method_95_code 27 = .ok (.putfield 520, 3) := by decide +kernel
theorem zd_17_0 : decode prog_14_method_97_code 0 = .ok (.aload_n 0, 1) := by decide +kernel
theorem zd_17_1 : decode prog_14_method_97_code 1 = .ok (.getfield 289, 3) := by decide +kernel
theorem zd_17_4 : decode prog_14_method_97_code 4 = .ok (.iconst 0, 1) := by decide +kernel
theorem zd_17_5 : decode prog_14_method_97_code 5 = .ok (.bipush 33, 2) := by decide +kernel
theorem zd_17_7 : decode prog_14_method_97_code 7 = .ok (.iastore, 1) := by decide +kernel
theorem zd_17_8 : decode prog_14_method_97_code 8 = .ok (.aload_n 0, 1) := by decide +kernel
theorem zd_17_9 : decode prog_14_method_97_code 9 = .ok (.getfield 289, 3) := by decide +kernel
theorem zd_17_12 : decode prog_14_method_97_code 12 = .ok (.iconst 1, 1) := by decide +kernel
theorem zd_17_13 : decode prog_14_method_97_code 13 = .ok (.bipush 35, 2) := by decide +kernel
theorem zd_17_15 : decode prog_14_method_97_code 15 = .ok (.iastore, 1) := by decide +kernel
theorem zd_17_16 : decode prog_14_method_97_code 16 = .ok (.aload_n 0, 1) := by decide +kernel
theorem zd_17_17 : decode prog_14_method_97_code 17 = .ok (.getfield 289, 3) := by decide +kernel
theorem zd_17_20 : decode prog_14_method_97_code 20 = .ok (.iconst 2, 1) := by decide +kernel
theorem zd_17_21 : decode prog_14_method_97_code 21 = .ok (.bipush 36, 2) := by decide +kernel
theorem zd_17_23 : decode prog_14_method_97_code 23 = .ok (.iastore, 1) := by decide +kernel
theorem zd_17_24 : decode prog_14_method_97_code 24 = .ok (.aload_n 0, 1) := by decide +kernel
theorem zd_17_25 : decode prog_14_method_97_code 25 = .ok (.getfield 289, 3) := by decide +kernel
theorem zd_17_28 : decode prog_14_method_97_code 28 = .ok (.iconst 3, 1) := by decide +kernel
theorem zd_17_29 : decode prog_14_method_97_code 29 = .ok (.bipush 37, 2) := by decide +kernel
theorem zd_17_31 : decode prog_14_method_97_code 31 = .ok (.iastore, 1) := by decide +kernel
theorem zd_17_32 : decode prog_14_method_97_code 32 = .ok (.aload_n 0, 1) := by decide +kernel
theorem zd_17_33 : decode prog_14_method_97_code 33 = .ok (.getfield 289, 3) := by decide +kernel
theorem zd_17_36 : decode prog_14_method_97_code 36 = .ok (.iconst 4, 1) := by decide +kernel
theorem zd_17_37 : decode prog_14_method_97_code 37 = .ok (.bipush 38, 2) := by decide +kernel
theorem zd_17_39 : decode prog_14_method_97_code 39 = .ok (.iastore, 1) := by decide +kernel
theorem zd_17_40 : decode prog_14_method_97_code 40 = .ok (.aload_n 0, 1) := by decide +kernel
theorem zd_17_41 : decode prog_14_method_97_code 41 = .ok (.getfield 289, 3) := by decide +kernel
theorem zd_17_44 : decode prog_14_method_97_code 44 = .ok (.iconst 5, 1) := by decide +kernel
theorem zd_17_45 : decode prog_14_method_97_code 45 = .ok (.bipush 39, 2) := by decide +kernel
theorem zd_17_47 : decode prog_14_method_97_code 47 = .ok (.iastore, 1) := by decide +kernel
theorem zd_17_48 : decode prog_14_method_97_code 48 = .ok (.aload_n 0, 1) := by decide +kernel
theorem zd_17_49 : decode prog_14_method_97_code 49 = .ok (.getfield 289, 3) := by decide +kernel
theorem zd_17_52 : decode prog_14_method_97_code 52 = .ok (.bipush 6, 2) := by decide +kernel
theorem zd_17_54 : decode prog_14_method_97_code 54 = .ok (.bipush 42, 2) := by decide +kernel
theorem zd_17_56 : decode prog_14_method_97_code 56 = .ok (.iastore, 1) := by decide +kernel
theorem zd_17_57 : decode prog_14_method_97_code 57 = .ok (.aload_n 0, 1) := by decide +kernel
theorem zd_17_58 : decode prog_14_method_97_code 58 = .ok (.getfield 289, 3) := by decide +kernel
theorem zd_17_61 : decode prog_14_method_97_code 61 = .ok (.bipush 7, 2) := by decide +kernel
theorem zd_17_63 : decode prog_14_method_97_code 63 = .ok (.bipush 43, 2) := by decide +kernel
theorem zd_17_65 : decode prog_14_method_97_code 65 = .ok (.iastore, 1) := by decide +kernel
theorem zd_17_66 : decode prog_14_method_97_code 66 = .ok (.aload_n 0, 1) := by decide +kernel
theorem zd_17_67 : decode prog_14_method_97_code 67 = .ok (.getfield 289, 3) := by decide +kernel
theorem zd_17_70 : decode prog_14_method_97_code 70 = .ok (.bipush 8, 2) := by decide +kernel
theorem zd_17_72 : decode prog_14_method_97_code 72 = .ok (.iconst 0, 1) := by decide +kernel
theorem zd_17_73 : decode prog_14_method_97_code 73 = .ok (.iastore, 1) := by decide +kernel
theorem zd_17_74 : decode prog_14_method_97_code 74 = .ok (.aload_n 0, 1) := by decide +kernel
theorem zd_17_75 : decode prog_14_method_97_code 75 = .ok (.getfield 289, 3) := by decide +kernel
theorem zd_17_78 : decode prog_14_method_97_code 78 = .ok (.bipush 9, 2) := by decide +kernel
theorem zd_17_80 : decode prog_14_method_97_code 80 = .ok (.iconst 2, 1) := by decide +kernel
theorem zd_17_81 : decode prog_14_method_97_code 81 = .ok (.iastore, 1) := by decide +kernel
theorem zd_17_82 : decode prog_14_method_97_code 82 = .ok (.aload_n 0, 1) := by decide +kernel
theorem zd_17_83 : decode prog_14_method_97_code 83 = .ok (.getfield 289, 3) := by decide +kernel
theorem zd_17_86 : decode prog_14_method_97_code 86 = .ok (.bipush 10, 2) := by decide +kernel
theorem zd_17_88 : decode prog_14_method_97_code 88 = .ok (.iconst 3, 1) := by decide +kernel
theorem zd_17_89 : decode prog_14_method_97_code 89 = .ok (.iastore, 1) := by decide +kernel
theorem zd_17_90 : decode prog_14_method_97_code 90 = .ok (.aload_n 0, 1) := by decide +kernel
theorem zd_17_91 : decode prog_14_method_97_code 91 = .ok (.getfield 289, 3) := by decide +kernel
theorem zd_17_94 : decode prog_14_method_97_code 94 = .ok (.bipush 11, 2) := by decide +kernel
theorem zd_17_96 : decode prog_14_method_97_code 96 = .ok (.iconst 4, 1) := by decide +kernel
theorem zd_17_97 : decode prog_14_method_97_code 97 = .ok (.iastore, 1) := by decide +kernel
theorem zd_17_98 : decode prog_14_method_97_code 98 = .ok (.aload_n 0, 1) := by decide +kernel
theorem zd_17_99 : decode prog_14_method_97_code 99 = .ok (.getfield 289, 3) := by decide +kernel
theorem zd_17_102 : decode prog_14_method_97_code 102 = .ok (.bipush 12, 2) := by decide +kernel
theorem zd_17_104 : decode prog_14_method_97_code 104 = .ok (.bipush 6, 2) := by decide +kernel
theorem zd_17_106 : decode prog_14_method_97_code 106 = .ok (.iastore, 1) := by decide +kernel
theorem zd_17_107 : decode prog_14_method_97_code 107 = .ok (.aload_n 0, 1) := by decide +kernel
theorem zd_17_108 : decode prog_14_method_97_code 108 = .ok (.getfield 289, 3) := by decide +kernel
theorem zd_17_111 : decode prog_14_method_97_code 111 = .ok (.bipush 13, 2) := by decide +kernel
theorem zd_17_113 : decode prog_14_method_97_code 113 = .ok (.bipush 7, 2) := by decide +kernel
theorem zd_17_115 : decode prog_14_method_97_code 115 = .ok (.iastore, 1) := by decide +kernel
theorem zd_17_116 : decode prog_14_method_97_code 116 = .ok (.aload_n 0, 1) := by decide +kernel
theorem zd_17_117 : decode prog_14_method_97_code 117 = .ok (.getfield 289, 3) := by decide +kernel
theorem zd_17_120 : decode prog_14_method_97_code 120 = .ok (.bipush 14, 2) := by decide +kernel
theorem zd_17_122 : decode prog_14_method_97_code 122 = .ok (.bipush 24, 2) := by decide +kernel
theorem zd_17_124 : decode prog_14_method_97_code 124 = .ok (.iastore, 1) := by decide +kernel
theorem zd_17_125 : decode prog_14_method_97_code 125 = .ok (.aload_n 0, 1) := by decide +kernel
theorem zd_17_126 : decode prog_14_method_97_code 126 = .ok (.getfield 289, 3) := by decide +kernel
theorem zd_17_129 : decode prog_14_method_97_code 129 = .ok (.bipush 15, 2) := by decide +kernel
theorem zd_17_131 : decode prog_14_method_97_code 131 = .ok (.bipush 25, 2) := by decide +kernel
theorem zd_17_133 : decode prog_14_method_97_code 133 = .ok (.iastore, 1) := by decide +kernel
theorem zd_17_134 : decode prog_14_method_97_code 134 = .ok (.aload_n 0, 1) := by decide +kernel
theorem zd_17_135 : decode prog_14_method_97_code 135 = .ok (.getfield 289, 3) := by decide +kernel
theorem zd_17_138 : decode prog_14_method_97_code 138 = .ok (.bipush 16, 2) := by decide +kernel
theorem zd_17_140 : decode prog_14_method_97_code 140 = .ok (.bipush 26, 2) := by decide +kernel
theorem zd_17_142 : decode prog_14_method_97_code 142 = .ok (.iastore, 1) := by decide +kernel
theorem zd_17_143 : decode prog_14_method_97_code 143 = .ok (.aload_n 0, 1) := by decide +kernel
theorem zd_17_144 : decode prog_14_method_97_code 144 = .ok (.getfield 289, 3) := by decide +kernel
theorem zd_17_147 : decode prog_14_method_97_code 147 = .ok (.bipush 17, 2) := by decide +kernel
theorem zd_17_149 : decode prog_14_method_97_code 149 = .ok (.bipush 27, 2) := by decide +kernel
theorem zd_17_151 : decode prog_14_method_97_code 151 = .ok (.iastore, 1) := by decide +kernel
theorem zd_17_152 : decode prog_14_method_97_code 152 = .ok (.aload_n 0, 1) := by decide +kernel
theorem zd_17_153 : decode prog_14_method_97_code 153 = .ok (.getfield 289, 3) := by decide +kernel
theorem zd_17_156 : decode prog_14_method_97_code 156 = .ok (.bipush 18, 2) := by decide +kernel
theorem zd_17_158 : decode prog_14_method_97_code 158 = .ok (.bipush 16, 2) := by decide +kernel
theorem zd_17_160 : decode prog_14_method_97_code 160 = .ok (.iastore, 1) := by decide +kernel
theorem zd_17_161 : decode prog_14_method_97_code 161 = .ok (.aload_n 0, 1) := by decide +kernel
theorem zd_17_162 : decode prog_14_method_97_code 162 = .ok (.getfield 289, 3) := by decide +kernel
theorem zd_17_165 : decode prog_14_method_97_code 165 = .ok (.bipush 19, 2) := by decide +kernel
theorem zd_17_167 : decode prog_14_method_97_code 167 = .ok (.bipush 18, 2) := by decide +kernel
theorem zd_17_169 : decode prog_14_method_97_code 169 = .ok (.iastore, 1) := by decide +kernel
theorem zd_17_170 : decode prog_14_method_97_code 170 = .ok (.aload_n 0, 1) := by decide +kernel
theorem zd_17_171 : decode prog_14_method_97_code 171 = .ok (.getfield 289, 3) := by decide +kernel
theorem zd_17_174 : decode prog_14_method_97_code 174 = .ok (.bipush 20, 2) := by decide +kernel
theorem zd_17_176 : decode prog_14_method_97_code 176 = .ok (.bipush 17, 2) := by decide +kernel
theorem zd_17_178 : decode prog_14_method_97_code 178 = .ok (.iastore, 1) := by decide +kernel
theorem zd_17_179 : decode prog_14_method_97_code 179 = .ok (.aload_n 0, 1) := by decide +kernel
theorem zd_17_180 : decode prog_14_method_97_code 180 = .ok (.getfield 289, 3) := by decide +kernel
theorem zd_17_183 : decode prog_14_method_97_code 183 = .ok (.bipush 21, 2) := by decide +kernel
theorem zd_17_185 : decode prog_14_method_97_code 185 = .ok (.bipush 19, 2) := by decide +kernel
theorem zd_17_187 : decode prog_14_method_97_code 187 = .ok (.iastore, 1) := by decide +kernel
theorem zd_17_188 : decode prog_14_method_97_code 188 = .ok (.aload_n 0, 1) := by decide +kernel
theorem zd_17_189 : decode prog_14_method_97_code 189 = .ok (.getfield 289, 3) := by decide +kernel
theorem zd_17_192 : decode prog_14_method_97_code 192 = .ok (.bipush 22, 2) := by decide +kernel
theorem zd_17_194 : decode prog_14_method_97_code 194 = .ok (.bipush 8, 2) := by decide +kernel
theorem zd_17_196 : decode prog_14_method_97_code 196 = .ok (.iastore, 1) := by decide +kernel
theorem zd_17_197 : decode prog_14_method_97_code 197 = .ok (.aload_n 0, 1) := by decide +kernel
theorem zd_17_198 : decode prog_14_method_97_code 198 = .ok (.getfield 289, 3) := by decide +kernel
theorem zd_17_201 : decode prog_14_method_97_code 201 = .ok (.bipush 23, 2) := by decide +kernel
theorem zd_17_203 : decode prog_14_method_97_code 203 = .ok (.bipush 9, 2) := by decide +kernel
theorem zd_17_205 : decode prog_14_method_97_code 205 = .ok (.iastore, 1) := by decide +kernel
theorem zd_17_206 : decode prog_14_method_97_code 206 = .ok (.aload_n 0, 1) := by decide +kernel
theorem zd_17_207 : decode prog_14_method_97_code 207 = .ok (.getfield 289, 3) := by decide +kernel
theorem zd_17_210 : decode prog_14_method_97_code 210 = .ok (.bipush 24, 2) := by decide +kernel
theorem zd_17_212 : decode prog_14_method_97_code 212 = .ok (.bipush 12, 2) := by decide +kernel
theorem zd_17_214 : decode prog_14_method_97_code 214 = .ok (.iastore, 1) := by decide +kernel
theorem zd_17_215 : decode prog_14_method_97_code 215 = .ok (.aload_n 0, 1) := by decide +kernel
theorem zd_17_216 : decode prog_14_method_97_code 216 = .ok (.getfield 289, 3) := by decide +kernel
theorem zd_17_219 : decode prog_14_method_97_code 219 = .ok (.bipush 25, 2) := by decide +kernel
theorem zd_17_221 : decode prog_14_method_97_code 221 = .ok (.bipush 13, 2) := by decide +kernel
theorem zd_17_223 : decode prog_14_method_97_code 223 = .ok (.iastore, 1) := by decide +kernel
theorem zd_17_224 : decode prog_14_method_97_code 224 = .ok (.aload_n 0, 1) := by decide +kernel
theorem zd_17_225 : decode prog_14_method_97_code 225 = .ok (.getfield 289, 3) := by decide +kernel
theorem zd_17_228 : decode prog_14_method_97_code 228 = .ok (.bipush 26, 2) := by decide +kernel
theorem zd_17_230 : decode prog_14_method_97_code 230 = .ok (.bipush 9, 2) := by decide +kernel
theorem zd_17_232 : decode prog_14_method_97_code 232 = .ok (.iastore, 1) := by decide +kernel
theorem zd_17_233 : decode prog_14_method_97_code 233 = .ok (.aload_n 0, 1) := by decide +kernel
theorem zd_17_234 : decode prog_14_method_97_code 234 = .ok (.getfield 289, 3) := by decide +kernel
theorem zd_17_237 : decode prog_14_method_97_code 237 = .ok (.bipush 27, 2) := by decide +kernel
theorem zd_17_239 : decode prog_14_method_97_code 239 = .ok (.bipush 10, 2) := by decide +kernel
theorem zd_17_241 : decode prog_14_method_97_code 241 = .ok (.iastore, 1) := by decide +kernel
theorem zd_17_242 : decode prog_14_method_97_code 242 = .ok (.aload_n 0, 1) := by decide +kernel
theorem zd_17_243 : decode prog_14_method_97_code 243 = .ok (.getfield 289, 3) := by decide +kernel
theorem zd_17_246 : decode prog_14_method_97_code 246 = .ok (.bipush 28, 2) := by decide +kernel
theorem zd_17_248 : decode prog_14_method_97_code 248 = .ok (.bipush 11, 2) := by decide +kernel
theorem zd_17_250 : decode prog_14_method_97_code 250 = .ok (.iastore, 1) := by decide +kernel
theorem zd_17_251 : decode prog_14_method_97_code 251 = .ok (.aload_n 0, 1) := by decide +kernel
theorem zd_17_252 : decode prog_14_method_97_code 252 = .ok (.getfield 289, 3) := by decide +kernel
theorem zd_17_255 : decode prog_14_method_97_code 255 = .ok (.bipush 29, 2) := by decide +kernel
theorem zd_17_257 : decode prog_14_method_97_code 257 = .ok (.bipush 12, 2) := by decide +kernel
theorem zd_17_259 : decode prog_14_method_97_code 259 = .ok (.iastore, 1) := by decide +kernel
theorem zd_17_260 : decode prog_14_method_97_code 260 = .ok (.aload_n 0, 1) := by decide +kernel
theorem zd_17_261 : decode prog_14_method_97_code 261 = .ok (.getfield 289, 3) := by decide +kernel
theorem zd_17_264 : decode prog_14_method_97_code 264 = .ok (.bipush 30, 2) := by decide +kernel
theorem zd_17_266 : decode prog_14_method_97_code 266 = .ok (.bipush 13, 2) := by decide +kernel
theorem zd_17_268 : decode prog_14_method_97_code 268 = .ok (.iastore, 1) := by decide +kernel
theorem zd_17_269 : decode prog_14_method_97_code 269 = .ok (.aload_n 0, 1) := by decide +kernel
theorem zd_17_270 : decode prog_14_method_97_code 270 = .ok (.getfield 289, 3) := by decide +kernel
theorem zd_17_273 : decode prog_14_method_97_code 273 = .ok (.bipush 31, 2) := by decide +kernel
theorem zd_17_275 : decode prog_14_method_97_code 275 = .ok (.bipush 14, 2) := by decide +kernel
theorem zd_17_277 : decode prog_14_method_97_code 277 = .ok (.iastore, 1) := by decide +kernel
theorem zd_17_278 : decode prog_14_method_97_code 278 = .ok (.aload_n 0, 1) := by decide +kernel
theorem zd_17_279 : decode prog_14_method_97_code 279 = .ok (.getfield 289, 3) := by decide +kernel
theorem zd_17_282 : decode prog_14_method_97_code 282 = .ok (.bipush 32, 2) := by decide +kernel
theorem zd_17_284 : decode prog_14_method_97_code 284 = .ok (.bipush 15, 2) := by decide +kernel
theorem zd_17_286 : decode prog_14_method_97_code 286 = .ok (.iastore, 1) := by decide +kernel
theorem zd_17_287 : decode prog_14_method_97_code 287 = .ok (.aload_n 0, 1) := by decide +kernel
theorem zd_17_288 : decode prog_14_method_97_code 288 = .ok (.getfield 289, 3) := by decide +kernel
theorem zd_17_291 : decode prog_14_method_97_code 291 = .ok (.bipush 33, 2) := by decide +kernel
theorem zd_17_293 : decode prog_14_method_97_code 293 = .ok (.bipush 32, 2) := by decide +kernel
theorem zd_17_295 : decode prog_14_method_97_code 295 = .ok (.iastore, 1) := by decide +kernel
theorem zd_17_296 : decode prog_14_method_97_code 296 = .ok (.aload_n 0, 1) := by decide +kernel
theorem zd_17_297 : decode prog_14_method_97_code 297 = .ok (.getfield 289, 3) := by decide +kernel
theorem zd_17_300 : decode prog_14_method_97_code 300 = .ok (.bipush 34, 2) := by decide +kernel
theorem zd_17_302 : decode prog_14_method_97_code 302 = .ok (.bipush 33, 2) := by decide +kernel
theorem zd_17_304 : decode prog_14_method_97_code 304 = .ok (.iastore, 1) := by decide +kernel
theorem zd_17_305 : decode prog_14_method_97_code 305 = .ok (.aload_n 0, 1) := by decide +kernel
theorem zd_17_306 : decode prog_14_method_97_code 306 = .ok (.getfield 289, 3) := by decide +kernel
theorem zd_17_309 : decode prog_14_method_97_code 309 = .ok (.bipush 35, 2) := by decide +kernel
theorem zd_17_311 : decode prog_14_method_97_code 311 = .ok (.bipush 35, 2) := by decide +kernel
theorem zd_17_313 : decode prog_14_method_97_code 313 = .ok (.iastore, 1) := by decide +kernel
theorem zd_17_314 : decode prog_14_method_97_code 314 = .ok (.aload_n 0, 1) := by decide +kernel
theorem zd_17_315 : decode prog_14_method_97_code 315 = .ok (.getfield 289, 3) := by decide +kernel
theorem zd_17_318 : decode prog_14_method_97_code 318 = .ok (.bipush 36, 2) := by decide +kernel
theorem zd_17_320 : decode prog_14_method_97_code 320 = .ok (.bipush 36, 2) := by decide +kernel
theorem zd_17_322 : decode prog_14_method_97_code 322 = .ok (.iastore, 1) := by decide +kernel
theorem zd_17_323 : decode prog_14_method_97_code 323 = .ok (.aload_n 0, 1) := by decide +kernel
theorem zd_17_324 : decode prog_14_method_97_code 324 = .ok (.getfield 289, 3) := by decide +kernel
theorem zd_17_327 : decode prog_14_method_97_code 327 = .ok (.bipush 37, 2) := by decide +kernel
theorem zd_17_329 : decode prog_14_method_97_code 329 = .ok (.bipush 37, 2) := by decide +kernel
theorem zd_17_331 : decode prog_14_method_97_code 331 = .ok (.iastore, 1) := by decide +kernel
theorem zd_17_332 : decode prog_14_method_97_code 332 = .ok (.aload_n 0, 1) := by decide +kernel
theorem zd_17_333 : decode prog_14_method_97_code 333 = .ok (.getfield 289, 3) := by decide +kernel
theorem zd_17_336 : decode prog_14_method_97_code 336 = .ok (.bipush 38, 2) := by decide +kernel
theorem zd_17_338 : decode prog_14_method_97_code 338 = .ok (.bipush 40, 2) := by decide +kernel
theorem zd_17_340 : decode prog_14_method_97_code 340 = .ok (.iastore, 1) := by decide +kernel
theorem zd_17_341 : decode prog_14_method_97_code 341 = .ok (.aload_n 0, 1) := by decide +kernel
theorem zd_17_342 : decode prog_14_method_97_code 342 = .ok (.getfield 289, 3) := by decide +kernel
theorem zd_17_345 : decode prog_14_method_97_code 345 = .ok (.bipush 39, 2) := by decide +kernel
theorem zd_17_347 : decode prog_14_method_97_code 347 = .ok (.bipush 41, 2) := by decide +kernel
theorem zd_17_349 : decode prog_14_method_97_code 349 = .ok (.iastore, 1) := by decide +kernel
theorem zd_17_350 : decode prog_14_method_97_code 350 = .ok (.aload_n 0, 1) := by decide +kernel
theorem zd_17_351 : decode prog_14_method_97_code 351 = .ok (.getfield 289, 3) := by decide +kernel
theorem zd_17_354 : decode prog_14_method_97_code 354 = .ok (.bipush 40, 2) := by decide +kernel
theorem zd_17_356 : decode prog_14_method_97_code 356 = .ok (.bipush 43, 2) := by decide +kernel
theorem zd_17_358 : decode prog_14_method_97_code 358 = .ok (.iastore, 1) := by decide +kernel
theorem zd_17_359 : decode prog_14_method_97_code 359 = .ok (.aload_n 0, 1) := by decide +kernel
theorem zd_17_360 : decode prog_14_method_97_code 360 = .ok (.getfield 289, 3) := by decide +kernel
theorem zd_17_363 : decode prog_14_method_97_code 363 = .ok (.bipush 41, 2) := by decide +kernel
theorem zd_17_365 : decode prog_14_method_97_code 365 = .ok (.iconst 4, 1) := by decide +kernel
theorem zd_17_366 : decode prog_14_method_97_code 366 = .ok (.iastore, 1) := by decide +kernel
theorem zd_17_367 : decode prog_14_method_97_code 367 = .ok (.aload_n 0, 1) := by decide +kernel
theorem zd_17_368 : decode prog_14_method_97_code 368 = .ok (.getfield 289, 3) := by decide +kernel
theorem zd_17_371 : decode prog_14_method_97_code 371 = .ok (.bipush 42, 2) := by decide +kernel
theorem zd_17_373 : decode prog_14_method_97_code 373 = .ok (.iconst 5, 1) := by decide +kernel
theorem zd_17_374 : decode prog_14_method_97_code 374 = .ok (.iastore, 1) := by decide +kernel
theorem zd_17_375 : decode prog_14_method_97_code 375 = .ok (.aload_n 0, 1) := by decide +kernel
theorem zd_17_376 : decode prog_14_method_97_code 376 = .ok (.getfield 289, 3) := by decide +kernel
theorem zd_17_379 : decode prog_14_method_97_code 379 = .ok (.bipush 43, 2) := by decide +kernel
theorem zd_17_381 : decode prog_14_method_97_code 381 = .ok (.bipush 6, 2) := by decide +kernel
theorem zd_17_383 : decode prog_14_method_97_code 383 = .ok (.iastore, 1) := by decide +kernel
theorem zd_17_384 : decode prog_14_method_97_code 384 = .ok (.aload_n 0, 1) := by decide +kernel
theorem zd_17_385 : decode prog_14_method_97_code 385 = .ok (.getfield 289, 3) := by decide +kernel
theorem zd_17_388 : decode prog_14_method_97_code 388 = .ok (.bipush 44, 2) := by decide +kernel
theorem zd_17_390 : decode prog_14_method_97_code 390 = .ok (.bipush 7, 2) := by decide +kernel
theorem zd_17_392 : decode prog_14_method_97_code 392 = .ok (.iastore, 1) := by decide +kernel
theorem zd_17_393 : decode prog_14_method_97_code 393 = .ok (.aload_n 0, 1) := by decide +kernel
theorem zd_17_394 : decode prog_14_method_97_code 394 = .ok (.getfield 289, 3) := by decide +kernel
theorem zd_17_397 : decode prog_14_method_97_code 397 = .ok (.bipush 45, 2) := by decide +kernel
theorem zd_17_399 : decode prog_14_method_97_code 399 = .ok (.iconst 1, 1) := by decide +kernel
theorem zd_17_400 : decode prog_14_method_97_code 400 = .ok (.iastore, 1) := by decide +kernel
theorem zd_17_401 : decode prog_14_method_97_code 401 = .ok (.aload_n 0, 1) := by decide +kernel
theorem zd_17_402 : decode prog_14_method_97_code 402 = .ok (.getfield 289, 3) := by decide +kernel
theorem zd_17_405 : decode prog_14_method_97_code 405 = .ok (.bipush 46, 2) := by decide +kernel
theorem zd_17_407 : decode prog_14_method_97_code 407 = .ok (.iconst 1, 1) := by decide +kernel
theorem zd_17_408 : decode prog_14_method_97_code 408 = .ok (.iastore, 1) := by decide +kernel
theorem zd_17_409 : decode prog_14_method_97_code 409 = .ok (.aload_n 0, 1) := by decide +kernel
theorem zd_17_410 : decode prog_14_method_97_code 410 = .ok (.getfield 289, 3) := by decide +kernel
theorem zd_17_413 : decode prog_14_method_97_code 413 = .ok (.bipush 47, 2) := by decide +kernel
theorem zd_17_415 : decode prog_14_method_97_code 415 = .ok (.iconst 1, 1) := by decide +kernel
theorem zd_17_416 : decode prog_14_method_97_code 416 = .ok (.iastore, 1) := by decide +kernel
theorem zd_17_417 : decode prog_14_method_97_code 417 = .ok (.aload_n 0, 1) := by decide +kernel
theorem zd_17_418 : decode prog_14_method_97_code 418 = .ok (.getfield 289, 3) := by decide +kernel
theorem zd_17_421 : decode prog_14_method_97_code 421 = .ok (.bipush 48, 2) := by decide +kernel
theorem zd_17_423 : decode prog_14_method_97_code 423 = .ok (.iconst 1, 1) := by decide +kernel
theorem zd_17_424 : decode prog_14_method_97_code 424 = .ok (.iastore, 1) := by decide +kernel
theorem zd_17_425 : decode prog_14_method_97_code 425 = .ok (.aload_n 0, 1) := by decide +kernel
theorem zd_17_426 : decode prog_14_method_97_code 426 = .ok (.getfield 289, 3) := by decide +kernel
theorem zd_17_429 : decode prog_14_method_97_code 429 = .ok (.bipush 49, 2) := by decide +kernel
theorem zd_17_431 : decode prog_14_method_97_code 431 = .ok (.iconst 2, 1) := by decide +kernel
theorem zd_17_432 : decode prog_14_method_97_code 432 = .ok (.iastore, 1) := by decide +kernel
theorem zd_17_433 : decode prog_14_method_97_code 433 = .ok (.aload_n 0, 1) := by decide +kernel
theorem zd_17_434 : decode prog_14_method_97_code 434 = .ok (.getfield 289, 3) := by decide +kernel
theorem zd_17_437 : decode prog_14_method_97_code 437 = .ok (.bipush 50, 2) := by decide +kernel
theorem zd_17_439 : decode prog_14_method_97_code 439 = .ok (.iconst 3, 1) := by decide +kernel
theorem zd_17_440 : decode prog_14_method_97_code 440 = .ok (.iastore, 1) := by decide +kernel
theorem zd_18_0 : decode prog_14_method_5_code 0 = .ok (.iconst 0, 1) := by decide +kernel
theorem zd_18_1 : decode prog_14_method_5_code 1 = .ok (.istore_n 2, 1) := by decide +kernel
theorem zd_18_2 : decode prog_14_method_5_code 2 = .ok (.iconst 1, 1) := by decide +kernel
theorem zd_18_3 : decode prog_14_method_5_code 3 = .ok (.istore_n 3, 1) := by decide +kernel
theorem zd_18_4 : decode prog_14_method_5_code 4 = .ok (.iconst 0, 1) := by decide +kernel
theorem zd_18_5 : decode prog_14_method_5_code 5 = .ok (.istore 4, 2) := by decide +kernel
theorem zd_18_7 : decode prog_14_method_5_code 7 = .ok (.iload 4, 2) := by decide +kernel
theorem zd_18_9 : decode prog_14_method_5_code 9 = .ok (.iconst 4, 1) := by decide +kernel
theorem zd_18_10 : decode prog_14_method_5_code 10 = .ok (.if_icmp .ge 69, 3) := by decide +kernel
theorem zd_18_13 : decode prog_14_method_5_code 13 = .ok (.iload_n 1, 1) := by decide +kernel
theorem zd_18_14 : decode prog_14_method_5_code 14 = .ok (.bipush 8, 2) := by decide +kernel
theorem zd_18_16 : decode prog_14_method_5_code 16 = .ok (.iload 4, 2) := by decide +kernel
theorem zd_18_18 : decode prog_14_method_5_code 18 = .ok (.imul, 1) := by decide +kernel
theorem zd_18_19 : decode prog_14_method_5_code 19 = .ok (.ishr, 1) := by decide +kernel
theorem zd_18_20 : decode prog_14_method_5_code 20 = .ok (.sipush 255, 3) := by decide +kernel
theorem zd_18_23 : decode prog_14_method_5_code 23 = .ok (.iand, 1) := by decide +kernel
theorem zd_18_24 : decode prog_14_method_5_code 24 = .ok (.istore 5, 2) := by decide +kernel
theorem zd_18_26 : decode prog_14_method_5_code 26 = .ok (.iload_n 3, 1) := by decide +kernel
theorem zd_18_27 : decode prog_14_method_5_code 27 = .ok (.ifCond .eq 31, 3) := by decide +kernel
theorem zd_18_30 : decode prog_14_method_5_code 30 = .ok (.iload 5, 2) := by decide +kernel
theorem zd_18_32 : decode prog_14_method_5_code 32 = .ok (.ifCond .eq 22, 3) := by decide +kernel
theorem zd_18_35 : decode prog_14_method_5_code 35 = .ok (.iload 5, 2) := by decide +kernel
theorem zd_18_37 : decode prog_14_method_5_code 37 = .ok (.bipush 10, 2) := by decide +kernel
theorem zd_18_39 : decode prog_14_method_5_code 39 = .ok (.if_icmp .eq 15, 3) := by decide +kernel
theorem zd_18_42 : decode prog_14_method_5_code 42 = .ok (.iload 5, 2) := by decide +kernel
theorem zd_18_44 : decode prog_14_method_5_code 44 = .ok (.bipush 32, 2) := by decide +kernel
theorem zd_18_46 : decode prog_14_method_5_code 46 = .ok (.bipush 126, 2) := by decide +kernel
theorem zd_18_48 : decode prog_14_method_5_code 48 = .ok (.invokestatic 504, 3) := by decide +kernel
theorem zd_18_51 : decode prog_14_method_5_code 51 = .ok (.ifCond .eq 7, 3) := by decide +kernel
theorem zd_18_54 : decode prog_14_method_5_code 54 = .ok (.iconst 1, 1) := by decide +kernel
theorem zd_18_55 : decode prog_14_method_5_code 55 = .ok (.goto 4, 3) := by decide +kernel
theorem zd_18_59 : decode prog_14_method_5_code 59 = .ok (.istore_n 3, 1) := by decide +kernel
theorem zd_18_60 : decode prog_14_method_5_code 60 = .ok (.iload 5, 2) := by decide +kernel
theorem zd_18_62 : decode prog_14_method_5_code 62 = .ok (.ifCond .le 9, 3) := by decide +kernel
theorem zd_18_65 : decode prog_14_method_5_code 65 = .ok (.iload_n 2, 1) := by decide +kernel
theorem zd_18_66 : decode prog_14_method_5_code 66 = .ok (.iconst 1, 1) := by decide +kernel
theorem zd_18_67 : decode prog_14_method_5_code 67 = .ok (.iadd, 1) := by decide +kernel
theorem zd_18_68 : decode prog_14_method_5_code 68 = .ok (.goto 4, 3) := by decide +kernel
theorem zd_18_71 : decode prog_14_method_5_code 71 = .ok (.iload_n 2, 1) := by decide +kernel
theorem zd_18_72 : decode prog_14_method_5_code 72 = .ok (.istore_n 2, 1) := by decide +kernel
theorem zd_18_73 : decode prog_14_method_5_code 73 = .ok (.iinc 4 1, 3) := by decide +kernel
theorem zd_18_76 : decode prog_14_method_5_code 76 = .ok (.goto (-69), 3) := by decide +kernel
theorem zd_18_79 : decode prog_14_method_5_code 79 = .ok (.aload_n 0, 1) := by decide +kernel
theorem zd_18_80 : decode prog_14_method_5_code 80 = .ok (.iload_n 3, 1) := by decide +kernel
theorem zd_18_81 : decode prog_14_method_5_code 81 = .ok (.ifCond .ne 7, 3) := by decide +kernel
theorem zd_18_88 : decode prog_14_method_5_code 88 = .ok (.iconst 0, 1) := by decide +kernel
theorem zd_18_89 : decode prog_14_method_5_code 89 = .ok (.iload_n 3, 1) := by decide +kernel
theorem zd_18_90 : decode prog_14_method_5_code 90 = .ok (.ifCond .eq 19, 3) := by decide +kernel
theorem zd_18_93 : decode prog_14_method_5_code 93 = .ok (.aload_n 0, 1) := by decide +kernel
theorem zd_18_94 : decode prog_14_method_5_code 94 = .ok (.getfield 508, 3) := by decide +kernel
theorem zd_18_97 : decode prog_14_method_5_code 97 = .ok (.iload_n 2, 1) := by decide +kernel
theorem zd_18_98 : decode prog_14_method_5_code 98 = .ok (.iadd, 1) := by decide +kernel
theorem zd_18_99 : decode prog_14_method_5_code 99 = .ok (.sipush 3000, 3) := by decide +kernel
theorem zd_18_102 : decode prog_14_method_5_code 102 = .ok (.if_icmp .le 7, 3) := by decide +kernel
theorem zd_18_109 : decode prog_14_method_5_code 109 = .ok (.iconst 0, 1) := by decide +kernel
theorem zd_18_110 : decode prog_14_method_5_code 110 = .ok (.invokevirtual 511, 3) := by decide +kernel
theorem zd_18_113 : decode prog_14_method_5_code 113 = .ok (.ifCond .eq 5, 3) := by decide +kernel
theorem zd_18_118 : decode prog_14_method_5_code 118 = .ok (.iconst 0, 1) := by decide +kernel
theorem zd_18_119 : decode prog_14_method_5_code 119 = .ok (.istore 4, 2) := by decide +kernel
theorem zd_18_121 : decode prog_14_method_5_code 121 = .ok (.iload 4, 2) := by decide +kernel
theorem zd_18_123 : decode prog_14_method_5_code 123 = .ok (.iconst 4, 1) := by decide +kernel
theorem zd_18_124 : decode prog_14_method_5_code 124 = .ok (.if_icmp .ge 48, 3) := by decide +kernel
theorem zd_18_127 : decode prog_14_method_5_code 127 = .ok (.iload_n 1, 1) := by decide +kernel
theorem zd_18_128 : decode prog_14_method_5_code 128 = .ok (.bipush 8, 2) := by decide +kernel
theorem zd_18_130 : decode prog_14_method_5_code 130 = .ok (.iload 4, 2) := by decide +kernel
theorem zd_18_132 : decode prog_14_method_5_code 132 = .ok (.imul, 1) := by decide +kernel
theorem zd_18_133 : decode prog_14_method_5_code 133 = .ok (.ishr, 1) := by decide +kernel
theorem zd_18_134 : decode prog_14_method_5_code 134 = .ok (.sipush 255, 3) := by decide +kernel
theorem zd_18_137 : decode prog_14_method_5_code 137 = .ok (.iand, 1) := by decide +kernel
theorem zd_18_138 : decode prog_14_method_5_code 138 = .ok (.istore 5, 2) := by decide +kernel
theorem zd_18_140 : decode prog_14_method_5_code 140 = .ok (.iload 5, 2) := by decide +kernel
theorem zd_18_142 : decode prog_14_method_5_code 142 = .ok (.ifCond .le 24, 3) := by decide +kernel
theorem zd_18_145 : decode prog_14_method_5_code 145 = .ok (.aload_n 0, 1) := by decide +kernel
theorem zd_18_146 : decode prog_14_method_5_code 146 = .ok (.getfield 7, 3) := by decide +kernel
theorem zd_18_149 : decode prog_14_method_5_code 149 = .ok (.aload_n 0, 1) := by decide +kernel
theorem zd_18_150 : decode prog_14_method_5_code 150 = .ok (.getfield 508, 3) := by decide +kernel
theorem zd_18_153 : decode prog_14_method_5_code 153 = .ok (.iload 5, 2) := by decide +kernel
theorem zd_18_155 : decode prog_14_method_5_code 155 = .ok (.iastore, 1) := by decide +kernel
theorem zd_18_156 : decode prog_14_method_5_code 156 = .ok (.aload_n 0, 1) := by decide +kernel
theorem zd_18_157 : decode prog_14_method_5_code 157 = .ok (.dup, 1) := by decide +kernel
theorem zd_18_158 : decode prog_14_method_5_code 158 = .ok (.getfield 508, 3) := by decide +kernel
theorem zd_18_161 : decode prog_14_method_5_code 161 = .ok (.iconst 1, 1) := by decide +kernel
theorem zd_18_162 : decode prog_14_method_5_code 162 = .ok (.iadd, 1) := by decide +kernel
theorem zd_18_163 : decode prog_14_method_5_code 163 = .ok (.putfield 508, 3) := by decide +kernel
theorem zd_18_166 : decode prog_14_method_5_code 166 = .ok (.iinc 4 1, 3) := by decide +kernel
theorem zd_18_169 : decode prog_14_method_5_code 169 = .ok (.goto (-48), 3) := by decide +kernel
theorem zd_18_172 : decode prog_14_method_5_code 172 = .ok (.aload_n 0, 1) := by decide +kernel
theorem zd_18_173 : decode prog_14_method_5_code 173 = .ok (.getfield 508, 3) := by decide +kernel
theorem zd_19_0 : decode prog_14_method_175_code 0 = .ok (.aload_n 0, 1) := by decide +kernel
theorem zd_19_1 : decode prog_14_method_175_code 1 = .ok (.iload_n 1, 1) := by decide +kernel
theorem zd_19_2 : decode prog_14_method_175_code 2 = .ok (.invokevirtual 1504, 3) := by decide +kernel
theorem zd_19_5 : decode prog_14_method_175_code 5 = .ok (.aload_n 0, 1) := by decide +kernel
theorem zd_19_6 : decode prog_14_method_175_code 6 = .ok (.iload_n 2, 1) := by decide +kernel
theorem zd_19_7 : decode prog_14_method_175_code 7 = .ok (.putfield 1171, 3) := by decide +kernel
theorem zd_19_10 : decode prog_14_method_175_code 10 = .ok (.aload_n 0, 1) := by decide +kernel
theorem zd_19_11 : decode prog_14_method_175_code 11 = .ok (.iload_n 2, 1) := by decide +kernel
theorem zd_19_12 : decode prog_14_method_175_code 12 = .ok (.ifCond .eq 12, 3) := by decide +kernel
theorem zd_19_24 : decode prog_14_method_175_code 24 = .ok (.aload_n 0, 1) := by decide +kernel
theorem zd_19_25 : decode prog_14_method_175_code 25 = .ok (.getfield 508, 3) := by decide +kernel
theorem zd_19_28 : decode prog_14_method_175_code 28 = .ok (.putfield 1192, 3) := by decide +kernel
theorem zd_19_31 : decode prog_14_method_175_code 31 = .ok (.aload_n 0, 1) := by decide +kernel
theorem zd_19_32 : decode prog_14_method_175_code 32 = .ok (.invokevirtual 1507, 3) := by decide +kernel
theorem zd_19_35 : decode prog_14_method_175_code 35 = .ok (.aload_n 0, 1) := by decide +kernel
theorem zd_19_36 : decode prog_14_method_175_code 36 = .ok (.iconst 0, 1) := by decide +kernel
theorem zd_19_37 : decode prog_14_method_175_code 37 = .ok (.aload_n 0, 1) := by decide +kernel
theorem zd_19_38 : decode prog_14_method_175_code 38 = .ok (.getfield 1189, 3) := by decide +kernel
theorem zd_19_41 : decode prog_14_method_175_code 41 = .ok (.iconst 1, 1) := by decide +kernel
theorem zd_19_42 : decode prog_14_method_175_code 42 = .ok (.iconst (-1), 1) := by decide +kernel
theorem zd_19_43 : decode prog_14_method_175_code 43 = .ok (.iconst (-1), 1) := by decide +kernel
theorem zd_19_44 : decode prog_14_method_175_code 44 = .ok (.invokevirtual 1471, 3) := by decide +kernel
theorem zd_19_47 : decode prog_14_method_175_code 47 = .ok (.aload_n 0, 1) := by decide +kernel
theorem zd_19_48 : decode prog_14_method_175_code 48 = .ok (.getfield 1183, 3) := by decide +kernel
theorem zd_19_51 : decode prog_14_method_175_code 51 = .ok (.ifCond .ne 17, 3) := by decide +kernel
theorem zd_19_54 : decode prog_14_method_175_code 54 = .ok (.aload_n 0, 1) := by decide +kernel
theorem zd_19_55 : decode prog_14_method_175_code 55 = .ok (.getfield 1447, 3) := by decide +kernel
theorem zd_19_58 : decode prog_14_method_175_code 58 = .ok (.ifCond .le 10, 3) := by decide +kernel
theorem zd_19_61 : decode prog_14_method_175_code 61 = .ok (.aload_n 0, 1) := by decide +kernel
theorem zd_19_62 : decode prog_14_method_175_code 62 = .ok (.invokevirtual 1510, 3) := by decide +kernel
theorem zd_19_65 : decode prog_14_method_175_code 65 = .ok (.goto (-18), 3) := by decide +kernel
theorem zd_19_68 : decode prog_14_method_175_code 68 = .ok (.aload_n 0, 1) := by decide +kernel
theorem zd_19_69 : decode prog_14_method_175_code 69 = .ok (.getfield 1183, 3) := by decide +kernel
theorem zd_19_72 : decode prog_14_method_175_code 72 = .ok (.ifCond .ne 11, 3) := by decide +kernel
theorem zd_19_75 : decode prog_14_method_175_code 75 = .ok (.aload_n 0, 1) := by decide +kernel
theorem zd_19_76 : decode prog_14_method_175_code 76 = .ok (.invokevirtual 1513, 3) := by decide +kernel
theorem zd_19_79 : decode prog_14_method_175_code 79 = .ok (.aload_n 0, 1) := by decide +kernel
theorem zd_19_80 : decode prog_14_method_175_code 80 = .ok (.invokevirtual 1516, 3) := by decide +kernel
theorem zd_19_83 : decode prog_14_method_175_code 83 = .ok (.aload_n 0, 1) := by decide +kernel
theorem zd_19_84 : decode prog_14_method_175_code 84 = .ok (.getfield 1183, 3) := by decide +kernel
theorem zd_19_87 : decode prog_14_method_175_code 87 = .ok (.ifCond .ne 7, 3) := by decide +kernel
theorem zd_19_90 : decode prog_14_method_175_code 90 = .ok (.iconst 1, 1) := by decide +kernel
theorem zd_19_91 : decode prog_14_method_175_code 91 = .ok (.goto 4, 3) := by decide +kernel
theorem zd_20_0 : decode prog_14_method_7_code 0 = .ok (.lload_n 1, 1) := by decide +kernel
theorem zd_20_1 : decode prog_14_method_7_code 1 = .ok (.ldc2_w 515, 3) := by decide +kernel
theorem zd_20_4 : decode prog_14_method_7_code 4 = .ok (.lmul, 1) := by decide +kernel
theorem zd_20_5 : decode prog_14_method_7_code 5 = .ok (.lload_n 3, 1) := by decide +kernel
theorem zd_20_6 : decode prog_14_method_7_code 6 = .ok (.ldc2_w 517, 3) := by decide +kernel
theorem zd_20_9 : decode prog_14_method_7_code 9 = .ok (.lmul, 1) := by decide +kernel
theorem zd_20_10 : decode prog_14_method_7_code 10 = .ok (.ladd, 1) := by decide +kernel
theorem zd_20_11 : decode prog_14_method_7_code 11 = .ok (.lstore 5, 2) := by decide +kernel
theorem zd_20_13 : decode prog_14_method_7_code 13 = .ok (.lload 5, 2) := by decide +kernel
theorem zd_20_15 : decode prog_14_method_7_code 15 = .ok (.lload 5, 2) := by decide +kernel
theorem zd_20_17 : decode prog_14_method_7_code 17 = .ok (.bipush 17, 2) := by decide +kernel
theorem zd_20_19 : decode prog_14_method_7_code 19 = .ok (.lshr, 1) := by decide +kernel
theorem zd_20_20 : decode prog_14_method_7_code 20 = .ok (.lxor, 1) := by decide +kernel
theorem zd_20_21 : decode prog_14_method_7_code 21 = .ok (.lload 5, 2) := by decide +kernel
theorem zd_20_23 : decode prog_14_method_7_code 23 = .ok (.bipush 40, 2) := by decide +kernel
theorem zd_20_25 : decode prog_14_method_7_code 25 = .ok (.lshr, 1) := by decide +kernel
theorem zd_20_26 : decode prog_14_method_7_code 26 = .ok (.lxor, 1) := by decide +kernel
theorem zd_20_27 : decode prog_14_method_7_code 27 = .ok (.l2i, 1) := by decide +kernel
theorem zd_20_28 : decode prog_14_method_7_code 28 = .ok (.ldc_w 519, 3) := by decide +kernel
theorem zd_20_31 : decode prog_14_method_7_code 31 = .ok (.iand, 1) := by decide +kernel
theorem zd_20_32 : decode prog_14_method_7_code 32 = .ok (.istore 7, 2) := by decide +kernel
theorem zd_20_34 : decode prog_14_method_7_code 34 = .ok (.aload_n 0, 1) := by decide +kernel
theorem zd_20_35 : decode prog_14_method_7_code 35 = .ok (.getfield 22, 3) := by decide +kernel
theorem zd_20_38 : decode prog_14_method_7_code 38 = .ok (.iload 7, 2) := by decide +kernel
theorem zd_20_40 : decode prog_14_method_7_code 40 = .ok (.iaload, 1) := by decide +kernel
theorem zd_20_41 : decode prog_14_method_7_code 41 = .ok (.ifCond .le 54, 3) := by decide +kernel
theorem zd_20_44 : decode prog_14_method_7_code 44 = .ok (.aload_n 0, 1) := by decide +kernel
theorem zd_20_45 : decode prog_14_method_7_code 45 = .ok (.getfield 22, 3) := by decide +kernel
theorem zd_20_48 : decode prog_14_method_7_code 48 = .ok (.iload 7, 2) := by decide +kernel
theorem zd_20_50 : decode prog_14_method_7_code 50 = .ok (.iaload, 1) := by decide +kernel
theorem zd_20_51 : decode prog_14_method_7_code 51 = .ok (.iconst 1, 1) := by decide +kernel
theorem zd_20_52 : decode prog_14_method_7_code 52 = .ok (.isub, 1) := by decide +kernel
theorem zd_20_53 : decode prog_14_method_7_code 53 = .ok (.istore 8, 2) := by decide +kernel
theorem zd_20_55 : decode prog_14_method_7_code 55 = .ok (.aload_n 0, 1) := by decide +kernel
theorem zd_20_56 : decode prog_14_method_7_code 56 = .ok (.getfield 14, 3) := by decide +kernel
theorem zd_20_59 : decode prog_14_method_7_code 59 = .ok (.iload 8, 2) := by decide +kernel
theorem zd_20_61 : decode prog_14_method_7_code 61 = .ok (.laload, 1) := by decide +kernel
theorem zd_20_62 : decode prog_14_method_7_code 62 = .ok (.lload_n 1, 1) := by decide +kernel
theorem zd_20_63 : decode prog_14_method_7_code 63 = .ok (.lcmp, 1) := by decide +kernel
theorem zd_20_64 : decode prog_14_method_7_code 64 = .ok (.ifCond .ne 18, 3) := by decide +kernel
theorem zd_20_67 : decode prog_14_method_7_code 67 = .ok (.aload_n 0, 1) := by decide +kernel
theorem zd_20_68 : decode prog_14_method_7_code 68 = .ok (.getfield 18, 3) := by decide +kernel
theorem zd_20_71 : decode prog_14_method_7_code 71 = .ok (.iload 8, 2) := by decide +kernel
theorem zd_20_73 : decode prog_14_method_7_code 73 = .ok (.laload, 1) := by decide +kernel
theorem zd_20_74 : decode prog_14_method_7_code 74 = .ok (.lload_n 3, 1) := by decide +kernel
theorem zd_20_75 : decode prog_14_method_7_code 75 = .ok (.lcmp, 1) := by decide +kernel
theorem zd_20_76 : decode prog_14_method_7_code 76 = .ok (.ifCond .ne 6, 3) := by decide +kernel
theorem zd_20_79 : decode prog_14_method_7_code 79 = .ok (.iload 8, 2) := by decide +kernel
theorem zd_20_82 : decode prog_14_method_7_code 82 = .ok (.iload 7, 2) := by decide +kernel
theorem zd_20_84 : decode prog_14_method_7_code 84 = .ok (.iconst 1, 1) := by decide +kernel
theorem zd_20_85 : decode prog_14_method_7_code 85 = .ok (.iadd, 1) := by decide +kernel
theorem zd_20_86 : decode prog_14_method_7_code 86 = .ok (.ldc_w 519, 3) := by decide +kernel
theorem zd_20_89 : decode prog_14_method_7_code 89 = .ok (.iand, 1) := by decide +kernel
theorem zd_20_90 : decode prog_14_method_7_code 90 = .ok (.istore 7, 2) := by decide +kernel
theorem zd_20_92 : decode prog_14_method_7_code 92 = .ok (.goto (-58), 3) := by decide +kernel
theorem zd_20_95 : decode prog_14_method_7_code 95 = .ok (.aload_n 0, 1) := by decide +kernel
theorem zd_20_96 : decode prog_14_method_7_code 96 = .ok (.getfield 14, 3) := by decide +kernel
theorem zd_20_99 : decode prog_14_method_7_code 99 = .ok (.aload_n 0, 1) := by decide +kernel
theorem zd_20_100 : decode prog_14_method_7_code 100 = .ok (.getfield 520, 3) := by decide +kernel
theorem zd_20_103 : decode prog_14_method_7_code 103 = .ok (.lload_n 1, 1) := by decide +kernel
theorem zd_20_104 : decode prog_14_method_7_code 104 = .ok (.lastore, 1) := by decide +kernel
theorem zd_20_105 : decode prog_14_method_7_code 105 = .ok (.aload_n 0, 1) := by decide +kernel
theorem zd_20_106 : decode prog_14_method_7_code 106 = .ok (.getfield 18, 3) := by decide +kernel
theorem zd_20_109 : decode prog_14_method_7_code 109 = .ok (.aload_n 0, 1) := by decide +kernel
theorem zd_20_110 : decode prog_14_method_7_code 110 = .ok (.getfield 520, 3) := by decide +kernel
theorem zd_20_113 : decode prog_14_method_7_code 113 = .ok (.lload_n 3, 1) := by decide +kernel
theorem zd_20_114 : decode prog_14_method_7_code 114 = .ok (.lastore, 1) := by decide +kernel
theorem zd_20_115 : decode prog_14_method_7_code 115 = .ok (.aload_n 0, 1) := by decide +kernel
theorem zd_20_116 : decode prog_14_method_7_code 116 = .ok (.dup, 1) := by decide +kernel
theorem zd_20_117 : decode prog_14_method_7_code 117 = .ok (.getfield 520, 3) := by decide +kernel
theorem zd_20_120 : decode prog_14_method_7_code 120 = .ok (.iconst 1, 1) := by decide +kernel
theorem zd_20_121 : decode prog_14_method_7_code 121 = .ok (.iadd, 1) := by decide +kernel
theorem zd_20_122 : decode prog_14_method_7_code 122 = .ok (.putfield 520, 3) := by decide +kernel
