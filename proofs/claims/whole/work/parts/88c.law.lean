/-! the law, decoded (c) -/
theorem d_law_914 : decode code 914 = .ok (.invokevirtual 118, 3) := by decide +kernel
theorem d_law_917 : decode code 917 = .ok (.if_icmp .eq 353, 3) := by decide +kernel
theorem d_law_920 : decode code 920 = .ok (.iconst 0, 1) := by decide +kernel
theorem d_law_921 : decode code 921 = .ok (.ireturn, 1) := by decide +kernel
theorem d_law_922 : decode code 922 = .ok (.aload_n 1, 1) := by decide +kernel
theorem d_law_923 : decode code 923 = .ok (.aload_n 0, 1) := by decide +kernel
theorem d_law_924 : decode code 924 = .ok (.iload_n 3, 1) := by decide +kernel
theorem d_law_925 : decode code 925 = .ok (.iconst 1, 1) := by decide +kernel
theorem d_law_926 : decode code 926 = .ok (.iadd, 1) := by decide +kernel
theorem d_law_927 : decode code 927 = .ok (.iaload, 1) := by decide +kernel
theorem d_law_928 : decode code 928 = .ok (.aload_n 0, 1) := by decide +kernel
theorem d_law_929 : decode code 929 = .ok (.iload_n 3, 1) := by decide +kernel
theorem d_law_930 : decode code 930 = .ok (.iconst 2, 1) := by decide +kernel
theorem d_law_931 : decode code 931 = .ok (.iadd, 1) := by decide +kernel
theorem d_law_932 : decode code 932 = .ok (.iaload, 1) := by decide +kernel
theorem d_law_933 : decode code 933 = .ok (.invokevirtual 119, 3) := by decide +kernel
theorem d_law_936 : decode code 936 = .ok (.aload_n 2, 1) := by decide +kernel
theorem d_law_937 : decode code 937 = .ok (.aload_n 0, 1) := by decide +kernel
theorem d_law_938 : decode code 938 = .ok (.iload_n 3, 1) := by decide +kernel
theorem d_law_939 : decode code 939 = .ok (.iconst 1, 1) := by decide +kernel
theorem d_law_940 : decode code 940 = .ok (.iadd, 1) := by decide +kernel
theorem d_law_941 : decode code 941 = .ok (.iaload, 1) := by decide +kernel
theorem d_law_942 : decode code 942 = .ok (.aload_n 0, 1) := by decide +kernel
theorem d_law_943 : decode code 943 = .ok (.iload_n 3, 1) := by decide +kernel
theorem d_law_944 : decode code 944 = .ok (.iconst 2, 1) := by decide +kernel
theorem d_law_945 : decode code 945 = .ok (.iadd, 1) := by decide +kernel
theorem d_law_946 : decode code 946 = .ok (.iaload, 1) := by decide +kernel
theorem d_law_947 : decode code 947 = .ok (.invokevirtual 122, 3) := by decide +kernel
theorem d_law_950 : decode code 950 = .ok (.if_icmp .eq 320, 3) := by decide +kernel
theorem d_law_953 : decode code 953 = .ok (.iconst 0, 1) := by decide +kernel
theorem d_law_954 : decode code 954 = .ok (.ireturn, 1) := by decide +kernel
theorem d_law_955 : decode code 955 = .ok (.aload_n 1, 1) := by decide +kernel
theorem d_law_956 : decode code 956 = .ok (.aload_n 0, 1) := by decide +kernel
theorem d_law_957 : decode code 957 = .ok (.iload_n 3, 1) := by decide +kernel
theorem d_law_958 : decode code 958 = .ok (.iconst 1, 1) := by decide +kernel
theorem d_law_959 : decode code 959 = .ok (.iadd, 1) := by decide +kernel
theorem d_law_960 : decode code 960 = .ok (.iaload, 1) := by decide +kernel
theorem d_law_961 : decode code 961 = .ok (.aload_n 0, 1) := by decide +kernel
theorem d_law_962 : decode code 962 = .ok (.iload_n 3, 1) := by decide +kernel
theorem d_law_963 : decode code 963 = .ok (.iconst 2, 1) := by decide +kernel
theorem d_law_964 : decode code 964 = .ok (.iadd, 1) := by decide +kernel
theorem d_law_965 : decode code 965 = .ok (.iaload, 1) := by decide +kernel
theorem d_law_966 : decode code 966 = .ok (.aload_n 0, 1) := by decide +kernel
theorem d_law_967 : decode code 967 = .ok (.iload_n 3, 1) := by decide +kernel
theorem d_law_968 : decode code 968 = .ok (.iconst 3, 1) := by decide +kernel
theorem d_law_969 : decode code 969 = .ok (.iadd, 1) := by decide +kernel
theorem d_law_970 : decode code 970 = .ok (.iaload, 1) := by decide +kernel
theorem d_law_971 : decode code 971 = .ok (.aload_n 0, 1) := by decide +kernel
theorem d_law_972 : decode code 972 = .ok (.iload_n 3, 1) := by decide +kernel
theorem d_law_973 : decode code 973 = .ok (.iconst 4, 1) := by decide +kernel
theorem d_law_974 : decode code 974 = .ok (.iadd, 1) := by decide +kernel
theorem d_law_975 : decode code 975 = .ok (.iaload, 1) := by decide +kernel
theorem d_law_976 : decode code 976 = .ok (.invokevirtual 123, 3) := by decide +kernel
theorem d_law_979 : decode code 979 = .ok (.aload_n 2, 1) := by decide +kernel
theorem d_law_980 : decode code 980 = .ok (.aload_n 0, 1) := by decide +kernel
theorem d_law_981 : decode code 981 = .ok (.iload_n 3, 1) := by decide +kernel
theorem d_law_982 : decode code 982 = .ok (.iconst 1, 1) := by decide +kernel
theorem d_law_983 : decode code 983 = .ok (.iadd, 1) := by decide +kernel
theorem d_law_984 : decode code 984 = .ok (.iaload, 1) := by decide +kernel
theorem d_law_985 : decode code 985 = .ok (.aload_n 0, 1) := by decide +kernel
theorem d_law_986 : decode code 986 = .ok (.iload_n 3, 1) := by decide +kernel
theorem d_law_987 : decode code 987 = .ok (.iconst 2, 1) := by decide +kernel
theorem d_law_988 : decode code 988 = .ok (.iadd, 1) := by decide +kernel
theorem d_law_989 : decode code 989 = .ok (.iaload, 1) := by decide +kernel
theorem d_law_990 : decode code 990 = .ok (.aload_n 0, 1) := by decide +kernel
theorem d_law_991 : decode code 991 = .ok (.iload_n 3, 1) := by decide +kernel
theorem d_law_992 : decode code 992 = .ok (.iconst 3, 1) := by decide +kernel
theorem d_law_993 : decode code 993 = .ok (.iadd, 1) := by decide +kernel
theorem d_law_994 : decode code 994 = .ok (.iaload, 1) := by decide +kernel
theorem d_law_995 : decode code 995 = .ok (.aload_n 0, 1) := by decide +kernel
theorem d_law_996 : decode code 996 = .ok (.iload_n 3, 1) := by decide +kernel
theorem d_law_997 : decode code 997 = .ok (.iconst 4, 1) := by decide +kernel
theorem d_law_998 : decode code 998 = .ok (.iadd, 1) := by decide +kernel
theorem d_law_999 : decode code 999 = .ok (.iaload, 1) := by decide +kernel
theorem d_law_1000 : decode code 1000 = .ok (.invokevirtual 127, 3) := by decide +kernel
theorem d_law_1003 : decode code 1003 = .ok (.lcmp, 1) := by decide +kernel
theorem d_law_1004 : decode code 1004 = .ok (.ifCond .eq 266, 3) := by decide +kernel
theorem d_law_1007 : decode code 1007 = .ok (.iconst 0, 1) := by decide +kernel
theorem d_law_1008 : decode code 1008 = .ok (.ireturn, 1) := by decide +kernel
theorem d_law_1009 : decode code 1009 = .ok (.aload_n 1, 1) := by decide +kernel
theorem d_law_1010 : decode code 1010 = .ok (.invokevirtual 128, 3) := by decide +kernel
theorem d_law_1013 : decode code 1013 = .ok (.aload_n 2, 1) := by decide +kernel
theorem d_law_1014 : decode code 1014 = .ok (.invokevirtual 131, 3) := by decide +kernel
theorem d_law_1017 : decode code 1017 = .ok (.if_icmp .eq 253, 3) := by decide +kernel
theorem d_law_1020 : decode code 1020 = .ok (.iconst 0, 1) := by decide +kernel
theorem d_law_1021 : decode code 1021 = .ok (.ireturn, 1) := by decide +kernel
theorem d_law_1022 : decode code 1022 = .ok (.aload_n 1, 1) := by decide +kernel
theorem d_law_1023 : decode code 1023 = .ok (.invokevirtual 132, 3) := by decide +kernel
theorem d_law_1026 : decode code 1026 = .ok (.aload_n 2, 1) := by decide +kernel
theorem d_law_1027 : decode code 1027 = .ok (.invokevirtual 135, 3) := by decide +kernel
theorem d_law_1030 : decode code 1030 = .ok (.if_icmp .eq 240, 3) := by decide +kernel
theorem d_law_1033 : decode code 1033 = .ok (.iconst 0, 1) := by decide +kernel
theorem d_law_1034 : decode code 1034 = .ok (.ireturn, 1) := by decide +kernel
theorem d_law_1035 : decode code 1035 = .ok (.aload_n 1, 1) := by decide +kernel
theorem d_law_1036 : decode code 1036 = .ok (.aload_n 0, 1) := by decide +kernel
theorem d_law_1037 : decode code 1037 = .ok (.iload_n 3, 1) := by decide +kernel
theorem d_law_1038 : decode code 1038 = .ok (.iconst 1, 1) := by decide +kernel
theorem d_law_1039 : decode code 1039 = .ok (.iadd, 1) := by decide +kernel
theorem d_law_1040 : decode code 1040 = .ok (.iaload, 1) := by decide +kernel
theorem d_law_1041 : decode code 1041 = .ok (.aload_n 0, 1) := by decide +kernel
theorem d_law_1042 : decode code 1042 = .ok (.iload_n 3, 1) := by decide +kernel
theorem d_law_1043 : decode code 1043 = .ok (.iconst 2, 1) := by decide +kernel
theorem d_law_1044 : decode code 1044 = .ok (.iadd, 1) := by decide +kernel
theorem d_law_1045 : decode code 1045 = .ok (.iaload, 1) := by decide +kernel
theorem d_law_1046 : decode code 1046 = .ok (.aload_n 0, 1) := by decide +kernel
theorem d_law_1047 : decode code 1047 = .ok (.iload_n 3, 1) := by decide +kernel
theorem d_law_1048 : decode code 1048 = .ok (.iconst 3, 1) := by decide +kernel
theorem d_law_1049 : decode code 1049 = .ok (.iadd, 1) := by decide +kernel
theorem d_law_1050 : decode code 1050 = .ok (.iaload, 1) := by decide +kernel
theorem d_law_1051 : decode code 1051 = .ok (.invokevirtual 136, 3) := by decide +kernel
theorem d_law_1054 : decode code 1054 = .ok (.aload_n 2, 1) := by decide +kernel
theorem d_law_1055 : decode code 1055 = .ok (.aload_n 0, 1) := by decide +kernel
theorem d_law_1056 : decode code 1056 = .ok (.iload_n 3, 1) := by decide +kernel
theorem d_law_1057 : decode code 1057 = .ok (.iconst 1, 1) := by decide +kernel
theorem d_law_1058 : decode code 1058 = .ok (.iadd, 1) := by decide +kernel
theorem d_law_1059 : decode code 1059 = .ok (.iaload, 1) := by decide +kernel
theorem d_law_1060 : decode code 1060 = .ok (.aload_n 0, 1) := by decide +kernel
theorem d_law_1061 : decode code 1061 = .ok (.iload_n 3, 1) := by decide +kernel
theorem d_law_1062 : decode code 1062 = .ok (.iconst 2, 1) := by decide +kernel
theorem d_law_1063 : decode code 1063 = .ok (.iadd, 1) := by decide +kernel
theorem d_law_1064 : decode code 1064 = .ok (.iaload, 1) := by decide +kernel
theorem d_law_1065 : decode code 1065 = .ok (.aload_n 0, 1) := by decide +kernel
theorem d_law_1066 : decode code 1066 = .ok (.iload_n 3, 1) := by decide +kernel
theorem d_law_1067 : decode code 1067 = .ok (.iconst 3, 1) := by decide +kernel
theorem d_law_1068 : decode code 1068 = .ok (.iadd, 1) := by decide +kernel
theorem d_law_1069 : decode code 1069 = .ok (.iaload, 1) := by decide +kernel
theorem d_law_1070 : decode code 1070 = .ok (.invokevirtual 139, 3) := by decide +kernel
theorem d_law_1073 : decode code 1073 = .ok (.if_icmp .eq 197, 3) := by decide +kernel
theorem d_law_1076 : decode code 1076 = .ok (.iconst 0, 1) := by decide +kernel
theorem d_law_1077 : decode code 1077 = .ok (.ireturn, 1) := by decide +kernel
theorem d_law_1078 : decode code 1078 = .ok (.aload_n 1, 1) := by decide +kernel
theorem d_law_1079 : decode code 1079 = .ok (.aload_n 0, 1) := by decide +kernel
theorem d_law_1080 : decode code 1080 = .ok (.iload_n 3, 1) := by decide +kernel
theorem d_law_1081 : decode code 1081 = .ok (.iconst 1, 1) := by decide +kernel
theorem d_law_1082 : decode code 1082 = .ok (.iadd, 1) := by decide +kernel
theorem d_law_1083 : decode code 1083 = .ok (.iaload, 1) := by decide +kernel
theorem d_law_1084 : decode code 1084 = .ok (.aload_n 0, 1) := by decide +kernel
theorem d_law_1085 : decode code 1085 = .ok (.iload_n 3, 1) := by decide +kernel
theorem d_law_1086 : decode code 1086 = .ok (.iconst 2, 1) := by decide +kernel
theorem d_law_1087 : decode code 1087 = .ok (.iadd, 1) := by decide +kernel
theorem d_law_1088 : decode code 1088 = .ok (.iaload, 1) := by decide +kernel
theorem d_law_1089 : decode code 1089 = .ok (.aload_n 0, 1) := by decide +kernel
theorem d_law_1090 : decode code 1090 = .ok (.iload_n 3, 1) := by decide +kernel
theorem d_law_1091 : decode code 1091 = .ok (.iconst 3, 1) := by decide +kernel
theorem d_law_1092 : decode code 1092 = .ok (.iadd, 1) := by decide +kernel
theorem d_law_1093 : decode code 1093 = .ok (.iaload, 1) := by decide +kernel
theorem d_law_1094 : decode code 1094 = .ok (.invokevirtual 140, 3) := by decide +kernel
theorem d_law_1097 : decode code 1097 = .ok (.aload_n 2, 1) := by decide +kernel
theorem d_law_1098 : decode code 1098 = .ok (.aload_n 0, 1) := by decide +kernel
theorem d_law_1099 : decode code 1099 = .ok (.iload_n 3, 1) := by decide +kernel
theorem d_law_1100 : decode code 1100 = .ok (.iconst 1, 1) := by decide +kernel
theorem d_law_1101 : decode code 1101 = .ok (.iadd, 1) := by decide +kernel
theorem d_law_1102 : decode code 1102 = .ok (.iaload, 1) := by decide +kernel
theorem d_law_1103 : decode code 1103 = .ok (.aload_n 0, 1) := by decide +kernel
theorem d_law_1104 : decode code 1104 = .ok (.iload_n 3, 1) := by decide +kernel
theorem d_law_1105 : decode code 1105 = .ok (.iconst 2, 1) := by decide +kernel
theorem d_law_1106 : decode code 1106 = .ok (.iadd, 1) := by decide +kernel
theorem d_law_1107 : decode code 1107 = .ok (.iaload, 1) := by decide +kernel
theorem d_law_1108 : decode code 1108 = .ok (.aload_n 0, 1) := by decide +kernel
theorem d_law_1109 : decode code 1109 = .ok (.iload_n 3, 1) := by decide +kernel
theorem d_law_1110 : decode code 1110 = .ok (.iconst 3, 1) := by decide +kernel
theorem d_law_1111 : decode code 1111 = .ok (.iadd, 1) := by decide +kernel
theorem d_law_1112 : decode code 1112 = .ok (.iaload, 1) := by decide +kernel
theorem d_law_1113 : decode code 1113 = .ok (.invokevirtual 143, 3) := by decide +kernel
theorem d_law_1116 : decode code 1116 = .ok (.if_icmp .eq 154, 3) := by decide +kernel
theorem d_law_1119 : decode code 1119 = .ok (.iconst 0, 1) := by decide +kernel
theorem d_law_1120 : decode code 1120 = .ok (.ireturn, 1) := by decide +kernel
theorem d_law_1121 : decode code 1121 = .ok (.aload_n 1, 1) := by decide +kernel
theorem d_law_1122 : decode code 1122 = .ok (.aload_n 0, 1) := by decide +kernel
theorem d_law_1123 : decode code 1123 = .ok (.iload_n 3, 1) := by decide +kernel
theorem d_law_1124 : decode code 1124 = .ok (.iconst 1, 1) := by decide +kernel
theorem d_law_1125 : decode code 1125 = .ok (.iadd, 1) := by decide +kernel
theorem d_law_1126 : decode code 1126 = .ok (.iaload, 1) := by decide +kernel
theorem d_law_1127 : decode code 1127 = .ok (.aload_n 0, 1) := by decide +kernel
theorem d_law_1128 : decode code 1128 = .ok (.iload_n 3, 1) := by decide +kernel
theorem d_law_1129 : decode code 1129 = .ok (.iconst 2, 1) := by decide +kernel
theorem d_law_1130 : decode code 1130 = .ok (.iadd, 1) := by decide +kernel
theorem d_law_1131 : decode code 1131 = .ok (.iaload, 1) := by decide +kernel
theorem d_law_1132 : decode code 1132 = .ok (.aload_n 0, 1) := by decide +kernel
theorem d_law_1133 : decode code 1133 = .ok (.iload_n 3, 1) := by decide +kernel
theorem d_law_1134 : decode code 1134 = .ok (.iconst 3, 1) := by decide +kernel
theorem d_law_1135 : decode code 1135 = .ok (.iadd, 1) := by decide +kernel
theorem d_law_1136 : decode code 1136 = .ok (.iaload, 1) := by decide +kernel
theorem d_law_1137 : decode code 1137 = .ok (.aload_n 0, 1) := by decide +kernel
theorem d_law_1138 : decode code 1138 = .ok (.iload_n 3, 1) := by decide +kernel
theorem d_law_1139 : decode code 1139 = .ok (.iconst 4, 1) := by decide +kernel
theorem d_law_1140 : decode code 1140 = .ok (.iadd, 1) := by decide +kernel
theorem d_law_1141 : decode code 1141 = .ok (.iaload, 1) := by decide +kernel
theorem d_law_1142 : decode code 1142 = .ok (.aload_n 0, 1) := by decide +kernel
theorem d_law_1143 : decode code 1143 = .ok (.iload_n 3, 1) := by decide +kernel
theorem d_law_1144 : decode code 1144 = .ok (.iconst 5, 1) := by decide +kernel
theorem d_law_1145 : decode code 1145 = .ok (.iadd, 1) := by decide +kernel
theorem d_law_1146 : decode code 1146 = .ok (.iaload, 1) := by decide +kernel
theorem d_law_1147 : decode code 1147 = .ok (.invokevirtual 144, 3) := by decide +kernel
theorem d_law_1150 : decode code 1150 = .ok (.aload_n 2, 1) := by decide +kernel
theorem d_law_1151 : decode code 1151 = .ok (.aload_n 0, 1) := by decide +kernel
theorem d_law_1152 : decode code 1152 = .ok (.iload_n 3, 1) := by decide +kernel
theorem d_law_1153 : decode code 1153 = .ok (.iconst 1, 1) := by decide +kernel
theorem d_law_1154 : decode code 1154 = .ok (.iadd, 1) := by decide +kernel
theorem d_law_1155 : decode code 1155 = .ok (.iaload, 1) := by decide +kernel
theorem d_law_1156 : decode code 1156 = .ok (.aload_n 0, 1) := by decide +kernel
theorem d_law_1157 : decode code 1157 = .ok (.iload_n 3, 1) := by decide +kernel
theorem d_law_1158 : decode code 1158 = .ok (.iconst 2, 1) := by decide +kernel
theorem d_law_1159 : decode code 1159 = .ok (.iadd, 1) := by decide +kernel
theorem d_law_1160 : decode code 1160 = .ok (.iaload, 1) := by decide +kernel
theorem d_law_1161 : decode code 1161 = .ok (.aload_n 0, 1) := by decide +kernel
theorem d_law_1162 : decode code 1162 = .ok (.iload_n 3, 1) := by decide +kernel
theorem d_law_1163 : decode code 1163 = .ok (.iconst 3, 1) := by decide +kernel
theorem d_law_1164 : decode code 1164 = .ok (.iadd, 1) := by decide +kernel
theorem d_law_1165 : decode code 1165 = .ok (.iaload, 1) := by decide +kernel
theorem d_law_1166 : decode code 1166 = .ok (.aload_n 0, 1) := by decide +kernel
theorem d_law_1167 : decode code 1167 = .ok (.iload_n 3, 1) := by decide +kernel
theorem d_law_1168 : decode code 1168 = .ok (.iconst 4, 1) := by decide +kernel
theorem d_law_1169 : decode code 1169 = .ok (.iadd, 1) := by decide +kernel
theorem d_law_1170 : decode code 1170 = .ok (.iaload, 1) := by decide +kernel
theorem d_law_1171 : decode code 1171 = .ok (.aload_n 0, 1) := by decide +kernel
theorem d_law_1172 : decode code 1172 = .ok (.iload_n 3, 1) := by decide +kernel
theorem d_law_1173 : decode code 1173 = .ok (.iconst 5, 1) := by decide +kernel
theorem d_law_1174 : decode code 1174 = .ok (.iadd, 1) := by decide +kernel
theorem d_law_1175 : decode code 1175 = .ok (.iaload, 1) := by decide +kernel
theorem d_law_1176 : decode code 1176 = .ok (.invokevirtual 148, 3) := by decide +kernel
theorem d_law_1179 : decode code 1179 = .ok (.if_icmp .eq 91, 3) := by decide +kernel
theorem d_law_1182 : decode code 1182 = .ok (.iconst 0, 1) := by decide +kernel
theorem d_law_1183 : decode code 1183 = .ok (.ireturn, 1) := by decide +kernel
theorem d_law_1184 : decode code 1184 = .ok (.aload_n 1, 1) := by decide +kernel
theorem d_law_1185 : decode code 1185 = .ok (.aload_n 0, 1) := by decide +kernel
theorem d_law_1186 : decode code 1186 = .ok (.iload_n 3, 1) := by decide +kernel
theorem d_law_1187 : decode code 1187 = .ok (.iconst 1, 1) := by decide +kernel
theorem d_law_1188 : decode code 1188 = .ok (.iadd, 1) := by decide +kernel
theorem d_law_1189 : decode code 1189 = .ok (.iaload, 1) := by decide +kernel
theorem d_law_1190 : decode code 1190 = .ok (.aload_n 0, 1) := by decide +kernel
theorem d_law_1191 : decode code 1191 = .ok (.iload_n 3, 1) := by decide +kernel
theorem d_law_1192 : decode code 1192 = .ok (.iconst 2, 1) := by decide +kernel
theorem d_law_1193 : decode code 1193 = .ok (.iadd, 1) := by decide +kernel
theorem d_law_1194 : decode code 1194 = .ok (.iaload, 1) := by decide +kernel
theorem d_law_1195 : decode code 1195 = .ok (.aload_n 0, 1) := by decide +kernel
theorem d_law_1196 : decode code 1196 = .ok (.iload_n 3, 1) := by decide +kernel
theorem d_law_1197 : decode code 1197 = .ok (.iconst 3, 1) := by decide +kernel
theorem d_law_1198 : decode code 1198 = .ok (.iadd, 1) := by decide +kernel
theorem d_law_1199 : decode code 1199 = .ok (.iaload, 1) := by decide +kernel
theorem d_law_1200 : decode code 1200 = .ok (.aload_n 0, 1) := by decide +kernel
theorem d_law_1201 : decode code 1201 = .ok (.iload_n 3, 1) := by decide +kernel
theorem d_law_1202 : decode code 1202 = .ok (.iconst 4, 1) := by decide +kernel
theorem d_law_1203 : decode code 1203 = .ok (.iadd, 1) := by decide +kernel
theorem d_law_1204 : decode code 1204 = .ok (.iaload, 1) := by decide +kernel
theorem d_law_1205 : decode code 1205 = .ok (.invokevirtual 149, 3) := by decide +kernel
theorem d_law_1208 : decode code 1208 = .ok (.aload_n 2, 1) := by decide +kernel
theorem d_law_1209 : decode code 1209 = .ok (.aload_n 0, 1) := by decide +kernel
theorem d_law_1210 : decode code 1210 = .ok (.iload_n 3, 1) := by decide +kernel
theorem d_law_1211 : decode code 1211 = .ok (.iconst 1, 1) := by decide +kernel
theorem d_law_1212 : decode code 1212 = .ok (.iadd, 1) := by decide +kernel
theorem d_law_1213 : decode code 1213 = .ok (.iaload, 1) := by decide +kernel
theorem d_law_1214 : decode code 1214 = .ok (.aload_n 0, 1) := by decide +kernel
theorem d_law_1215 : decode code 1215 = .ok (.iload_n 3, 1) := by decide +kernel
theorem d_law_1216 : decode code 1216 = .ok (.iconst 2, 1) := by decide +kernel
theorem d_law_1217 : decode code 1217 = .ok (.iadd, 1) := by decide +kernel
theorem d_law_1218 : decode code 1218 = .ok (.iaload, 1) := by decide +kernel
theorem d_law_1219 : decode code 1219 = .ok (.aload_n 0, 1) := by decide +kernel
theorem d_law_1220 : decode code 1220 = .ok (.iload_n 3, 1) := by decide +kernel
theorem d_law_1221 : decode code 1221 = .ok (.iconst 3, 1) := by decide +kernel
theorem d_law_1222 : decode code 1222 = .ok (.iadd, 1) := by decide +kernel
theorem d_law_1223 : decode code 1223 = .ok (.iaload, 1) := by decide +kernel
theorem d_law_1224 : decode code 1224 = .ok (.aload_n 0, 1) := by decide +kernel
theorem d_law_1225 : decode code 1225 = .ok (.iload_n 3, 1) := by decide +kernel
theorem d_law_1226 : decode code 1226 = .ok (.iconst 4, 1) := by decide +kernel
theorem d_law_1227 : decode code 1227 = .ok (.iadd, 1) := by decide +kernel
theorem d_law_1228 : decode code 1228 = .ok (.iaload, 1) := by decide +kernel
theorem d_law_1229 : decode code 1229 = .ok (.invokevirtual 153, 3) := by decide +kernel
theorem d_law_1232 : decode code 1232 = .ok (.if_icmp .eq 38, 3) := by decide +kernel
theorem d_law_1235 : decode code 1235 = .ok (.iconst 0, 1) := by decide +kernel
theorem d_law_1236 : decode code 1236 = .ok (.ireturn, 1) := by decide +kernel
theorem d_law_1237 : decode code 1237 = .ok (.aload_n 1, 1) := by decide +kernel
theorem d_law_1238 : decode code 1238 = .ok (.aload_n 0, 1) := by decide +kernel
theorem d_law_1239 : decode code 1239 = .ok (.iload_n 3, 1) := by decide +kernel
theorem d_law_1240 : decode code 1240 = .ok (.iconst 1, 1) := by decide +kernel
theorem d_law_1241 : decode code 1241 = .ok (.iadd, 1) := by decide +kernel
theorem d_law_1242 : decode code 1242 = .ok (.iaload, 1) := by decide +kernel
theorem d_law_1243 : decode code 1243 = .ok (.aload_n 0, 1) := by decide +kernel
theorem d_law_1244 : decode code 1244 = .ok (.iload_n 3, 1) := by decide +kernel
theorem d_law_1245 : decode code 1245 = .ok (.iconst 2, 1) := by decide +kernel
theorem d_law_1246 : decode code 1246 = .ok (.iadd, 1) := by decide +kernel
theorem d_law_1247 : decode code 1247 = .ok (.iaload, 1) := by decide +kernel
theorem d_law_1248 : decode code 1248 = .ok (.invokevirtual 154, 3) := by decide +kernel
theorem d_law_1251 : decode code 1251 = .ok (.aload_n 2, 1) := by decide +kernel
theorem d_law_1252 : decode code 1252 = .ok (.aload_n 0, 1) := by decide +kernel
theorem d_law_1253 : decode code 1253 = .ok (.iload_n 3, 1) := by decide +kernel
theorem d_law_1254 : decode code 1254 = .ok (.iconst 1, 1) := by decide +kernel
theorem d_law_1255 : decode code 1255 = .ok (.iadd, 1) := by decide +kernel
theorem d_law_1256 : decode code 1256 = .ok (.iaload, 1) := by decide +kernel
theorem d_law_1257 : decode code 1257 = .ok (.aload_n 0, 1) := by decide +kernel
theorem d_law_1258 : decode code 1258 = .ok (.iload_n 3, 1) := by decide +kernel
theorem d_law_1259 : decode code 1259 = .ok (.iconst 2, 1) := by decide +kernel
theorem d_law_1260 : decode code 1260 = .ok (.iadd, 1) := by decide +kernel
theorem d_law_1261 : decode code 1261 = .ok (.iaload, 1) := by decide +kernel
theorem d_law_1262 : decode code 1262 = .ok (.invokevirtual 157, 3) := by decide +kernel
theorem d_law_1265 : decode code 1265 = .ok (.if_icmp .eq 5, 3) := by decide +kernel
theorem d_law_1268 : decode code 1268 = .ok (.iconst 0, 1) := by decide +kernel
theorem d_law_1269 : decode code 1269 = .ok (.ireturn, 1) := by decide +kernel
theorem d_law_1270 : decode code 1270 = .ok (.iinc 3 7, 3) := by decide +kernel
theorem d_law_1273 : decode code 1273 = .ok (.goto (-1255), 3) := by decide +kernel
theorem d_law_1276 : decode code 1276 = .ok (.iconst 1, 1) := by decide +kernel
theorem d_law_1277 : decode code 1277 = .ok (.ireturn, 1) := by decide +kernel
