theorem dL_law_916 : decode code 916 = .ok (.aload_n 1, 1) := by decide +kernel
theorem dL_law_917 : decode code 917 = .ok (.invokevirtual 103, 3) := by decide +kernel
theorem dL_law_920 : decode code 920 = .ok (.aload_n 2, 1) := by decide +kernel
theorem dL_law_921 : decode code 921 = .ok (.invokevirtual 106, 3) := by decide +kernel
theorem dL_law_924 : decode code 924 = .ok (.if_icmp .eq 492, 3) := by decide +kernel
theorem dL_law_927 : decode code 927 = .ok (.iconst 0, 1) := by decide +kernel
theorem dL_law_928 : decode code 928 = .ok (.ireturn, 1) := by decide +kernel
theorem dL_law_929 : decode code 929 = .ok (.aload_n 1, 1) := by decide +kernel
theorem dL_law_930 : decode code 930 = .ok (.aload_n 0, 1) := by decide +kernel
theorem dL_law_931 : decode code 931 = .ok (.iload_n 3, 1) := by decide +kernel
theorem dL_law_932 : decode code 932 = .ok (.iconst 1, 1) := by decide +kernel
theorem dL_law_933 : decode code 933 = .ok (.iadd, 1) := by decide +kernel
theorem dL_law_934 : decode code 934 = .ok (.iaload, 1) := by decide +kernel
theorem dL_law_935 : decode code 935 = .ok (.invokevirtual 107, 3) := by decide +kernel
theorem dL_law_938 : decode code 938 = .ok (.aload_n 2, 1) := by decide +kernel
theorem dL_law_939 : decode code 939 = .ok (.aload_n 0, 1) := by decide +kernel
theorem dL_law_940 : decode code 940 = .ok (.iload_n 3, 1) := by decide +kernel
theorem dL_law_941 : decode code 941 = .ok (.iconst 1, 1) := by decide +kernel
theorem dL_law_942 : decode code 942 = .ok (.iadd, 1) := by decide +kernel
theorem dL_law_943 : decode code 943 = .ok (.iaload, 1) := by decide +kernel
theorem dL_law_944 : decode code 944 = .ok (.invokevirtual 110, 3) := by decide +kernel
theorem dL_law_947 : decode code 947 = .ok (.if_icmp .eq 469, 3) := by decide +kernel
theorem dL_law_950 : decode code 950 = .ok (.iconst 0, 1) := by decide +kernel
theorem dL_law_951 : decode code 951 = .ok (.ireturn, 1) := by decide +kernel
theorem dL_law_952 : decode code 952 = .ok (.aload_n 1, 1) := by decide +kernel
theorem dL_law_953 : decode code 953 = .ok (.invokevirtual 111, 3) := by decide +kernel
theorem dL_law_956 : decode code 956 = .ok (.aload_n 2, 1) := by decide +kernel
theorem dL_law_957 : decode code 957 = .ok (.invokevirtual 114, 3) := by decide +kernel
theorem dL_law_960 : decode code 960 = .ok (.if_icmp .eq 456, 3) := by decide +kernel
theorem dL_law_963 : decode code 963 = .ok (.iconst 0, 1) := by decide +kernel
theorem dL_law_964 : decode code 964 = .ok (.ireturn, 1) := by decide +kernel
theorem dL_law_965 : decode code 965 = .ok (.aload_n 1, 1) := by decide +kernel
theorem dL_law_966 : decode code 966 = .ok (.aload_n 0, 1) := by decide +kernel
theorem dL_law_967 : decode code 967 = .ok (.iload_n 3, 1) := by decide +kernel
theorem dL_law_968 : decode code 968 = .ok (.iconst 1, 1) := by decide +kernel
theorem dL_law_969 : decode code 969 = .ok (.iadd, 1) := by decide +kernel
theorem dL_law_970 : decode code 970 = .ok (.iaload, 1) := by decide +kernel
theorem dL_law_971 : decode code 971 = .ok (.aload_n 0, 1) := by decide +kernel
theorem dL_law_972 : decode code 972 = .ok (.iload_n 3, 1) := by decide +kernel
theorem dL_law_973 : decode code 973 = .ok (.iconst 2, 1) := by decide +kernel
theorem dL_law_974 : decode code 974 = .ok (.iadd, 1) := by decide +kernel
theorem dL_law_975 : decode code 975 = .ok (.iaload, 1) := by decide +kernel
theorem dL_law_976 : decode code 976 = .ok (.aload_n 0, 1) := by decide +kernel
theorem dL_law_977 : decode code 977 = .ok (.iload_n 3, 1) := by decide +kernel
theorem dL_law_978 : decode code 978 = .ok (.iconst 3, 1) := by decide +kernel
theorem dL_law_979 : decode code 979 = .ok (.iadd, 1) := by decide +kernel
theorem dL_law_980 : decode code 980 = .ok (.iaload, 1) := by decide +kernel
theorem dL_law_981 : decode code 981 = .ok (.aload_n 0, 1) := by decide +kernel
theorem dL_law_982 : decode code 982 = .ok (.iload_n 3, 1) := by decide +kernel
theorem dL_law_983 : decode code 983 = .ok (.iconst 4, 1) := by decide +kernel
theorem dL_law_984 : decode code 984 = .ok (.iadd, 1) := by decide +kernel
theorem dL_law_985 : decode code 985 = .ok (.iaload, 1) := by decide +kernel
theorem dL_law_986 : decode code 986 = .ok (.aload_n 0, 1) := by decide +kernel
theorem dL_law_987 : decode code 987 = .ok (.iload_n 3, 1) := by decide +kernel
theorem dL_law_988 : decode code 988 = .ok (.iconst 5, 1) := by decide +kernel
theorem dL_law_989 : decode code 989 = .ok (.iadd, 1) := by decide +kernel
theorem dL_law_990 : decode code 990 = .ok (.iaload, 1) := by decide +kernel
theorem dL_law_991 : decode code 991 = .ok (.invokevirtual 115, 3) := by decide +kernel
theorem dL_law_994 : decode code 994 = .ok (.aload_n 2, 1) := by decide +kernel
theorem dL_law_995 : decode code 995 = .ok (.aload_n 0, 1) := by decide +kernel
theorem dL_law_996 : decode code 996 = .ok (.iload_n 3, 1) := by decide +kernel
theorem dL_law_997 : decode code 997 = .ok (.iconst 1, 1) := by decide +kernel
theorem dL_law_998 : decode code 998 = .ok (.iadd, 1) := by decide +kernel
theorem dL_law_999 : decode code 999 = .ok (.iaload, 1) := by decide +kernel
theorem dL_law_1000 : decode code 1000 = .ok (.aload_n 0, 1) := by decide +kernel
theorem dL_law_1001 : decode code 1001 = .ok (.iload_n 3, 1) := by decide +kernel
theorem dL_law_1002 : decode code 1002 = .ok (.iconst 2, 1) := by decide +kernel
theorem dL_law_1003 : decode code 1003 = .ok (.iadd, 1) := by decide +kernel
theorem dL_law_1004 : decode code 1004 = .ok (.iaload, 1) := by decide +kernel
theorem dL_law_1005 : decode code 1005 = .ok (.aload_n 0, 1) := by decide +kernel
theorem dL_law_1006 : decode code 1006 = .ok (.iload_n 3, 1) := by decide +kernel
theorem dL_law_1007 : decode code 1007 = .ok (.iconst 3, 1) := by decide +kernel
theorem dL_law_1008 : decode code 1008 = .ok (.iadd, 1) := by decide +kernel
theorem dL_law_1009 : decode code 1009 = .ok (.iaload, 1) := by decide +kernel
theorem dL_law_1010 : decode code 1010 = .ok (.aload_n 0, 1) := by decide +kernel
theorem dL_law_1011 : decode code 1011 = .ok (.iload_n 3, 1) := by decide +kernel
theorem dL_law_1012 : decode code 1012 = .ok (.iconst 4, 1) := by decide +kernel
theorem dL_law_1013 : decode code 1013 = .ok (.iadd, 1) := by decide +kernel
theorem dL_law_1014 : decode code 1014 = .ok (.iaload, 1) := by decide +kernel
theorem dL_law_1015 : decode code 1015 = .ok (.aload_n 0, 1) := by decide +kernel
theorem dL_law_1016 : decode code 1016 = .ok (.iload_n 3, 1) := by decide +kernel
theorem dL_law_1017 : decode code 1017 = .ok (.iconst 5, 1) := by decide +kernel
theorem dL_law_1018 : decode code 1018 = .ok (.iadd, 1) := by decide +kernel
theorem dL_law_1019 : decode code 1019 = .ok (.iaload, 1) := by decide +kernel
theorem dL_law_1020 : decode code 1020 = .ok (.invokevirtual 119, 3) := by decide +kernel
theorem dL_law_1023 : decode code 1023 = .ok (.if_icmp .eq 393, 3) := by decide +kernel
theorem dL_law_1026 : decode code 1026 = .ok (.iconst 0, 1) := by decide +kernel
theorem dL_law_1027 : decode code 1027 = .ok (.ireturn, 1) := by decide +kernel
theorem dL_law_1028 : decode code 1028 = .ok (.aload_n 1, 1) := by decide +kernel
theorem dL_law_1029 : decode code 1029 = .ok (.aload_n 0, 1) := by decide +kernel
theorem dL_law_1030 : decode code 1030 = .ok (.iload_n 3, 1) := by decide +kernel
theorem dL_law_1031 : decode code 1031 = .ok (.iconst 1, 1) := by decide +kernel
theorem dL_law_1032 : decode code 1032 = .ok (.iadd, 1) := by decide +kernel
theorem dL_law_1033 : decode code 1033 = .ok (.iaload, 1) := by decide +kernel
theorem dL_law_1034 : decode code 1034 = .ok (.aload_n 0, 1) := by decide +kernel
theorem dL_law_1035 : decode code 1035 = .ok (.iload_n 3, 1) := by decide +kernel
theorem dL_law_1036 : decode code 1036 = .ok (.iconst 2, 1) := by decide +kernel
theorem dL_law_1037 : decode code 1037 = .ok (.iadd, 1) := by decide +kernel
theorem dL_law_1038 : decode code 1038 = .ok (.iaload, 1) := by decide +kernel
theorem dL_law_1039 : decode code 1039 = .ok (.invokevirtual 120, 3) := by decide +kernel
theorem dL_law_1042 : decode code 1042 = .ok (.aload_n 2, 1) := by decide +kernel
theorem dL_law_1043 : decode code 1043 = .ok (.aload_n 0, 1) := by decide +kernel
theorem dL_law_1044 : decode code 1044 = .ok (.iload_n 3, 1) := by decide +kernel
theorem dL_law_1045 : decode code 1045 = .ok (.iconst 1, 1) := by decide +kernel
theorem dL_law_1046 : decode code 1046 = .ok (.iadd, 1) := by decide +kernel
theorem dL_law_1047 : decode code 1047 = .ok (.iaload, 1) := by decide +kernel
theorem dL_law_1048 : decode code 1048 = .ok (.aload_n 0, 1) := by decide +kernel
theorem dL_law_1049 : decode code 1049 = .ok (.iload_n 3, 1) := by decide +kernel
theorem dL_law_1050 : decode code 1050 = .ok (.iconst 2, 1) := by decide +kernel
theorem dL_law_1051 : decode code 1051 = .ok (.iadd, 1) := by decide +kernel
theorem dL_law_1052 : decode code 1052 = .ok (.iaload, 1) := by decide +kernel
theorem dL_law_1053 : decode code 1053 = .ok (.invokevirtual 123, 3) := by decide +kernel
theorem dL_law_1056 : decode code 1056 = .ok (.if_icmp .eq 360, 3) := by decide +kernel
theorem dL_law_1059 : decode code 1059 = .ok (.iconst 0, 1) := by decide +kernel
theorem dL_law_1060 : decode code 1060 = .ok (.ireturn, 1) := by decide +kernel
theorem dL_law_1061 : decode code 1061 = .ok (.aload_n 1, 1) := by decide +kernel
theorem dL_law_1062 : decode code 1062 = .ok (.invokevirtual 124, 3) := by decide +kernel
theorem dL_law_1065 : decode code 1065 = .ok (.aload_n 2, 1) := by decide +kernel
theorem dL_law_1066 : decode code 1066 = .ok (.invokevirtual 127, 3) := by decide +kernel
theorem dL_law_1069 : decode code 1069 = .ok (.if_icmp .eq 347, 3) := by decide +kernel
theorem dL_law_1072 : decode code 1072 = .ok (.iconst 0, 1) := by decide +kernel
theorem dL_law_1073 : decode code 1073 = .ok (.ireturn, 1) := by decide +kernel
theorem dL_law_1074 : decode code 1074 = .ok (.aload_n 1, 1) := by decide +kernel
theorem dL_law_1075 : decode code 1075 = .ok (.aload_n 0, 1) := by decide +kernel
theorem dL_law_1076 : decode code 1076 = .ok (.iload_n 3, 1) := by decide +kernel
theorem dL_law_1077 : decode code 1077 = .ok (.iconst 1, 1) := by decide +kernel
theorem dL_law_1078 : decode code 1078 = .ok (.iadd, 1) := by decide +kernel
theorem dL_law_1079 : decode code 1079 = .ok (.iaload, 1) := by decide +kernel
theorem dL_law_1080 : decode code 1080 = .ok (.invokevirtual 128, 3) := by decide +kernel
theorem dL_law_1083 : decode code 1083 = .ok (.aload_n 2, 1) := by decide +kernel
theorem dL_law_1084 : decode code 1084 = .ok (.aload_n 0, 1) := by decide +kernel
theorem dL_law_1085 : decode code 1085 = .ok (.iload_n 3, 1) := by decide +kernel
theorem dL_law_1086 : decode code 1086 = .ok (.iconst 1, 1) := by decide +kernel
theorem dL_law_1087 : decode code 1087 = .ok (.iadd, 1) := by decide +kernel
theorem dL_law_1088 : decode code 1088 = .ok (.iaload, 1) := by decide +kernel
theorem dL_law_1089 : decode code 1089 = .ok (.invokevirtual 131, 3) := by decide +kernel
theorem dL_law_1092 : decode code 1092 = .ok (.if_icmp .eq 324, 3) := by decide +kernel
theorem dL_law_1095 : decode code 1095 = .ok (.iconst 0, 1) := by decide +kernel
theorem dL_law_1096 : decode code 1096 = .ok (.ireturn, 1) := by decide +kernel
theorem dL_law_1097 : decode code 1097 = .ok (.aload_n 1, 1) := by decide +kernel
theorem dL_law_1098 : decode code 1098 = .ok (.invokevirtual 132, 3) := by decide +kernel
theorem dL_law_1101 : decode code 1101 = .ok (.aload_n 2, 1) := by decide +kernel
theorem dL_law_1102 : decode code 1102 = .ok (.invokevirtual 135, 3) := by decide +kernel
theorem dL_law_1105 : decode code 1105 = .ok (.if_icmp .eq 311, 3) := by decide +kernel
theorem dL_law_1108 : decode code 1108 = .ok (.iconst 0, 1) := by decide +kernel
theorem dL_law_1109 : decode code 1109 = .ok (.ireturn, 1) := by decide +kernel
theorem dL_law_1110 : decode code 1110 = .ok (.aload_n 1, 1) := by decide +kernel
theorem dL_law_1111 : decode code 1111 = .ok (.aload_n 0, 1) := by decide +kernel
theorem dL_law_1112 : decode code 1112 = .ok (.iload_n 3, 1) := by decide +kernel
theorem dL_law_1113 : decode code 1113 = .ok (.iconst 1, 1) := by decide +kernel
theorem dL_law_1114 : decode code 1114 = .ok (.iadd, 1) := by decide +kernel
theorem dL_law_1115 : decode code 1115 = .ok (.iaload, 1) := by decide +kernel
theorem dL_law_1116 : decode code 1116 = .ok (.aload_n 0, 1) := by decide +kernel
theorem dL_law_1117 : decode code 1117 = .ok (.iload_n 3, 1) := by decide +kernel
theorem dL_law_1118 : decode code 1118 = .ok (.iconst 2, 1) := by decide +kernel
theorem dL_law_1119 : decode code 1119 = .ok (.iadd, 1) := by decide +kernel
theorem dL_law_1120 : decode code 1120 = .ok (.iaload, 1) := by decide +kernel
theorem dL_law_1121 : decode code 1121 = .ok (.invokevirtual 136, 3) := by decide +kernel
theorem dL_law_1124 : decode code 1124 = .ok (.aload_n 2, 1) := by decide +kernel
theorem dL_law_1125 : decode code 1125 = .ok (.aload_n 0, 1) := by decide +kernel
theorem dL_law_1126 : decode code 1126 = .ok (.iload_n 3, 1) := by decide +kernel
theorem dL_law_1127 : decode code 1127 = .ok (.iconst 1, 1) := by decide +kernel
theorem dL_law_1128 : decode code 1128 = .ok (.iadd, 1) := by decide +kernel
theorem dL_law_1129 : decode code 1129 = .ok (.iaload, 1) := by decide +kernel
theorem dL_law_1130 : decode code 1130 = .ok (.aload_n 0, 1) := by decide +kernel
theorem dL_law_1131 : decode code 1131 = .ok (.iload_n 3, 1) := by decide +kernel
theorem dL_law_1132 : decode code 1132 = .ok (.iconst 2, 1) := by decide +kernel
theorem dL_law_1133 : decode code 1133 = .ok (.iadd, 1) := by decide +kernel
theorem dL_law_1134 : decode code 1134 = .ok (.iaload, 1) := by decide +kernel
theorem dL_law_1135 : decode code 1135 = .ok (.invokevirtual 139, 3) := by decide +kernel
theorem dL_law_1138 : decode code 1138 = .ok (.if_icmp .eq 278, 3) := by decide +kernel
theorem dL_law_1141 : decode code 1141 = .ok (.iconst 0, 1) := by decide +kernel
theorem dL_law_1142 : decode code 1142 = .ok (.ireturn, 1) := by decide +kernel
theorem dL_law_1143 : decode code 1143 = .ok (.aload_n 1, 1) := by decide +kernel
theorem dL_law_1144 : decode code 1144 = .ok (.invokevirtual 140, 3) := by decide +kernel
theorem dL_law_1147 : decode code 1147 = .ok (.aload_n 2, 1) := by decide +kernel
theorem dL_law_1148 : decode code 1148 = .ok (.invokevirtual 143, 3) := by decide +kernel
theorem dL_law_1151 : decode code 1151 = .ok (.if_icmp .eq 265, 3) := by decide +kernel
theorem dL_law_1154 : decode code 1154 = .ok (.iconst 0, 1) := by decide +kernel
theorem dL_law_1155 : decode code 1155 = .ok (.ireturn, 1) := by decide +kernel
theorem dL_law_1156 : decode code 1156 = .ok (.aload_n 1, 1) := by decide +kernel
theorem dL_law_1157 : decode code 1157 = .ok (.aload_n 0, 1) := by decide +kernel
theorem dL_law_1158 : decode code 1158 = .ok (.iload_n 3, 1) := by decide +kernel
theorem dL_law_1159 : decode code 1159 = .ok (.iconst 1, 1) := by decide +kernel
theorem dL_law_1160 : decode code 1160 = .ok (.iadd, 1) := by decide +kernel
theorem dL_law_1161 : decode code 1161 = .ok (.iaload, 1) := by decide +kernel
theorem dL_law_1162 : decode code 1162 = .ok (.invokevirtual 144, 3) := by decide +kernel
theorem dL_law_1165 : decode code 1165 = .ok (.aload_n 2, 1) := by decide +kernel
theorem dL_law_1166 : decode code 1166 = .ok (.aload_n 0, 1) := by decide +kernel
theorem dL_law_1167 : decode code 1167 = .ok (.iload_n 3, 1) := by decide +kernel
theorem dL_law_1168 : decode code 1168 = .ok (.iconst 1, 1) := by decide +kernel
theorem dL_law_1169 : decode code 1169 = .ok (.iadd, 1) := by decide +kernel
theorem dL_law_1170 : decode code 1170 = .ok (.iaload, 1) := by decide +kernel
theorem dL_law_1171 : decode code 1171 = .ok (.invokevirtual 147, 3) := by decide +kernel
theorem dL_law_1174 : decode code 1174 = .ok (.if_icmp .eq 242, 3) := by decide +kernel
theorem dL_law_1177 : decode code 1177 = .ok (.iconst 0, 1) := by decide +kernel
theorem dL_law_1178 : decode code 1178 = .ok (.ireturn, 1) := by decide +kernel
theorem dL_law_1179 : decode code 1179 = .ok (.aload_n 1, 1) := by decide +kernel
theorem dL_law_1180 : decode code 1180 = .ok (.invokevirtual 148, 3) := by decide +kernel
theorem dL_law_1183 : decode code 1183 = .ok (.aload_n 2, 1) := by decide +kernel
