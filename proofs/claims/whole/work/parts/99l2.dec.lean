theorem dL_law_908 : decode code 908 = .ok (.aload_n 2, 1) := by decide +kernel
theorem dL_law_909 : decode code 909 = .ok (.aload_n 0, 1) := by decide +kernel
theorem dL_law_910 : decode code 910 = .ok (.iload_n 3, 1) := by decide +kernel
theorem dL_law_911 : decode code 911 = .ok (.iconst 1, 1) := by decide +kernel
theorem dL_law_912 : decode code 912 = .ok (.iadd, 1) := by decide +kernel
theorem dL_law_913 : decode code 913 = .ok (.iaload, 1) := by decide +kernel
theorem dL_law_914 : decode code 914 = .ok (.aload_n 0, 1) := by decide +kernel
theorem dL_law_915 : decode code 915 = .ok (.iload_n 3, 1) := by decide +kernel
theorem dL_law_916 : decode code 916 = .ok (.iconst 2, 1) := by decide +kernel
theorem dL_law_917 : decode code 917 = .ok (.iadd, 1) := by decide +kernel
theorem dL_law_918 : decode code 918 = .ok (.iaload, 1) := by decide +kernel
theorem dL_law_919 : decode code 919 = .ok (.aload_n 0, 1) := by decide +kernel
theorem dL_law_920 : decode code 920 = .ok (.iload_n 3, 1) := by decide +kernel
theorem dL_law_921 : decode code 921 = .ok (.iconst 3, 1) := by decide +kernel
theorem dL_law_922 : decode code 922 = .ok (.iadd, 1) := by decide +kernel
theorem dL_law_923 : decode code 923 = .ok (.iaload, 1) := by decide +kernel
theorem dL_law_924 : decode code 924 = .ok (.aload_n 0, 1) := by decide +kernel
theorem dL_law_925 : decode code 925 = .ok (.iload_n 3, 1) := by decide +kernel
theorem dL_law_926 : decode code 926 = .ok (.iconst 4, 1) := by decide +kernel
theorem dL_law_927 : decode code 927 = .ok (.iadd, 1) := by decide +kernel
theorem dL_law_928 : decode code 928 = .ok (.iaload, 1) := by decide +kernel
theorem dL_law_929 : decode code 929 = .ok (.invokevirtual 120, 3) := by decide +kernel
theorem dL_law_932 : decode code 932 = .ok (.if_icmp .eq 317, 3) := by decide +kernel
theorem dL_law_935 : decode code 935 = .ok (.iconst 0, 1) := by decide +kernel
theorem dL_law_936 : decode code 936 = .ok (.ireturn, 1) := by decide +kernel
theorem dL_law_937 : decode code 937 = .ok (.aload_n 1, 1) := by decide +kernel
theorem dL_law_938 : decode code 938 = .ok (.aload_n 0, 1) := by decide +kernel
theorem dL_law_939 : decode code 939 = .ok (.iload_n 3, 1) := by decide +kernel
theorem dL_law_940 : decode code 940 = .ok (.iconst 1, 1) := by decide +kernel
theorem dL_law_941 : decode code 941 = .ok (.iadd, 1) := by decide +kernel
theorem dL_law_942 : decode code 942 = .ok (.iaload, 1) := by decide +kernel
theorem dL_law_943 : decode code 943 = .ok (.aload_n 0, 1) := by decide +kernel
theorem dL_law_944 : decode code 944 = .ok (.iload_n 3, 1) := by decide +kernel
theorem dL_law_945 : decode code 945 = .ok (.iconst 2, 1) := by decide +kernel
theorem dL_law_946 : decode code 946 = .ok (.iadd, 1) := by decide +kernel
theorem dL_law_947 : decode code 947 = .ok (.iaload, 1) := by decide +kernel
theorem dL_law_948 : decode code 948 = .ok (.aload_n 0, 1) := by decide +kernel
theorem dL_law_949 : decode code 949 = .ok (.iload_n 3, 1) := by decide +kernel
theorem dL_law_950 : decode code 950 = .ok (.iconst 3, 1) := by decide +kernel
theorem dL_law_951 : decode code 951 = .ok (.iadd, 1) := by decide +kernel
theorem dL_law_952 : decode code 952 = .ok (.iaload, 1) := by decide +kernel
theorem dL_law_953 : decode code 953 = .ok (.aload_n 0, 1) := by decide +kernel
theorem dL_law_954 : decode code 954 = .ok (.iload_n 3, 1) := by decide +kernel
theorem dL_law_955 : decode code 955 = .ok (.iconst 4, 1) := by decide +kernel
theorem dL_law_956 : decode code 956 = .ok (.iadd, 1) := by decide +kernel
theorem dL_law_957 : decode code 957 = .ok (.iaload, 1) := by decide +kernel
theorem dL_law_958 : decode code 958 = .ok (.aload_n 0, 1) := by decide +kernel
theorem dL_law_959 : decode code 959 = .ok (.iload_n 3, 1) := by decide +kernel
theorem dL_law_960 : decode code 960 = .ok (.iconst 5, 1) := by decide +kernel
theorem dL_law_961 : decode code 961 = .ok (.iadd, 1) := by decide +kernel
theorem dL_law_962 : decode code 962 = .ok (.iaload, 1) := by decide +kernel
theorem dL_law_963 : decode code 963 = .ok (.aload_n 0, 1) := by decide +kernel
theorem dL_law_964 : decode code 964 = .ok (.iload_n 3, 1) := by decide +kernel
theorem dL_law_965 : decode code 965 = .ok (.bipush 6, 2) := by decide +kernel
theorem dL_law_967 : decode code 967 = .ok (.iadd, 1) := by decide +kernel
theorem dL_law_968 : decode code 968 = .ok (.iaload, 1) := by decide +kernel
theorem dL_law_969 : decode code 969 = .ok (.aload_n 0, 1) := by decide +kernel
theorem dL_law_970 : decode code 970 = .ok (.iload_n 3, 1) := by decide +kernel
theorem dL_law_971 : decode code 971 = .ok (.bipush 7, 2) := by decide +kernel
theorem dL_law_973 : decode code 973 = .ok (.iadd, 1) := by decide +kernel
theorem dL_law_974 : decode code 974 = .ok (.iaload, 1) := by decide +kernel
theorem dL_law_975 : decode code 975 = .ok (.invokevirtual 121, 3) := by decide +kernel
theorem dL_law_978 : decode code 978 = .ok (.aload_n 2, 1) := by decide +kernel
theorem dL_law_979 : decode code 979 = .ok (.aload_n 0, 1) := by decide +kernel
theorem dL_law_980 : decode code 980 = .ok (.iload_n 3, 1) := by decide +kernel
theorem dL_law_981 : decode code 981 = .ok (.iconst 1, 1) := by decide +kernel
theorem dL_law_982 : decode code 982 = .ok (.iadd, 1) := by decide +kernel
theorem dL_law_983 : decode code 983 = .ok (.iaload, 1) := by decide +kernel
theorem dL_law_984 : decode code 984 = .ok (.aload_n 0, 1) := by decide +kernel
theorem dL_law_985 : decode code 985 = .ok (.iload_n 3, 1) := by decide +kernel
theorem dL_law_986 : decode code 986 = .ok (.iconst 2, 1) := by decide +kernel
theorem dL_law_987 : decode code 987 = .ok (.iadd, 1) := by decide +kernel
theorem dL_law_988 : decode code 988 = .ok (.iaload, 1) := by decide +kernel
theorem dL_law_989 : decode code 989 = .ok (.aload_n 0, 1) := by decide +kernel
theorem dL_law_990 : decode code 990 = .ok (.iload_n 3, 1) := by decide +kernel
theorem dL_law_991 : decode code 991 = .ok (.iconst 3, 1) := by decide +kernel
theorem dL_law_992 : decode code 992 = .ok (.iadd, 1) := by decide +kernel
theorem dL_law_993 : decode code 993 = .ok (.iaload, 1) := by decide +kernel
theorem dL_law_994 : decode code 994 = .ok (.aload_n 0, 1) := by decide +kernel
theorem dL_law_995 : decode code 995 = .ok (.iload_n 3, 1) := by decide +kernel
theorem dL_law_996 : decode code 996 = .ok (.iconst 4, 1) := by decide +kernel
theorem dL_law_997 : decode code 997 = .ok (.iadd, 1) := by decide +kernel
theorem dL_law_998 : decode code 998 = .ok (.iaload, 1) := by decide +kernel
theorem dL_law_999 : decode code 999 = .ok (.aload_n 0, 1) := by decide +kernel
theorem dL_law_1000 : decode code 1000 = .ok (.iload_n 3, 1) := by decide +kernel
theorem dL_law_1001 : decode code 1001 = .ok (.iconst 5, 1) := by decide +kernel
theorem dL_law_1002 : decode code 1002 = .ok (.iadd, 1) := by decide +kernel
theorem dL_law_1003 : decode code 1003 = .ok (.iaload, 1) := by decide +kernel
theorem dL_law_1004 : decode code 1004 = .ok (.aload_n 0, 1) := by decide +kernel
theorem dL_law_1005 : decode code 1005 = .ok (.iload_n 3, 1) := by decide +kernel
theorem dL_law_1006 : decode code 1006 = .ok (.bipush 6, 2) := by decide +kernel
theorem dL_law_1008 : decode code 1008 = .ok (.iadd, 1) := by decide +kernel
theorem dL_law_1009 : decode code 1009 = .ok (.iaload, 1) := by decide +kernel
theorem dL_law_1010 : decode code 1010 = .ok (.aload_n 0, 1) := by decide +kernel
theorem dL_law_1011 : decode code 1011 = .ok (.iload_n 3, 1) := by decide +kernel
theorem dL_law_1012 : decode code 1012 = .ok (.bipush 7, 2) := by decide +kernel
theorem dL_law_1014 : decode code 1014 = .ok (.iadd, 1) := by decide +kernel
theorem dL_law_1015 : decode code 1015 = .ok (.iaload, 1) := by decide +kernel
theorem dL_law_1016 : decode code 1016 = .ok (.invokevirtual 125, 3) := by decide +kernel
theorem dL_law_1019 : decode code 1019 = .ok (.if_icmp .eq 230, 3) := by decide +kernel
theorem dL_law_1022 : decode code 1022 = .ok (.iconst 0, 1) := by decide +kernel
theorem dL_law_1023 : decode code 1023 = .ok (.ireturn, 1) := by decide +kernel
theorem dL_law_1024 : decode code 1024 = .ok (.aload_n 1, 1) := by decide +kernel
theorem dL_law_1025 : decode code 1025 = .ok (.aload_n 0, 1) := by decide +kernel
theorem dL_law_1026 : decode code 1026 = .ok (.iload_n 3, 1) := by decide +kernel
theorem dL_law_1027 : decode code 1027 = .ok (.iconst 1, 1) := by decide +kernel
theorem dL_law_1028 : decode code 1028 = .ok (.iadd, 1) := by decide +kernel
theorem dL_law_1029 : decode code 1029 = .ok (.iaload, 1) := by decide +kernel
theorem dL_law_1030 : decode code 1030 = .ok (.aload_n 0, 1) := by decide +kernel
theorem dL_law_1031 : decode code 1031 = .ok (.iload_n 3, 1) := by decide +kernel
theorem dL_law_1032 : decode code 1032 = .ok (.iconst 2, 1) := by decide +kernel
theorem dL_law_1033 : decode code 1033 = .ok (.iadd, 1) := by decide +kernel
theorem dL_law_1034 : decode code 1034 = .ok (.iaload, 1) := by decide +kernel
theorem dL_law_1035 : decode code 1035 = .ok (.aload_n 0, 1) := by decide +kernel
theorem dL_law_1036 : decode code 1036 = .ok (.iload_n 3, 1) := by decide +kernel
theorem dL_law_1037 : decode code 1037 = .ok (.iconst 3, 1) := by decide +kernel
theorem dL_law_1038 : decode code 1038 = .ok (.iadd, 1) := by decide +kernel
theorem dL_law_1039 : decode code 1039 = .ok (.iaload, 1) := by decide +kernel
theorem dL_law_1040 : decode code 1040 = .ok (.invokevirtual 126, 3) := by decide +kernel
theorem dL_law_1043 : decode code 1043 = .ok (.aload_n 2, 1) := by decide +kernel
theorem dL_law_1044 : decode code 1044 = .ok (.aload_n 0, 1) := by decide +kernel
theorem dL_law_1045 : decode code 1045 = .ok (.iload_n 3, 1) := by decide +kernel
theorem dL_law_1046 : decode code 1046 = .ok (.iconst 1, 1) := by decide +kernel
theorem dL_law_1047 : decode code 1047 = .ok (.iadd, 1) := by decide +kernel
theorem dL_law_1048 : decode code 1048 = .ok (.iaload, 1) := by decide +kernel
theorem dL_law_1049 : decode code 1049 = .ok (.aload_n 0, 1) := by decide +kernel
theorem dL_law_1050 : decode code 1050 = .ok (.iload_n 3, 1) := by decide +kernel
theorem dL_law_1051 : decode code 1051 = .ok (.iconst 2, 1) := by decide +kernel
theorem dL_law_1052 : decode code 1052 = .ok (.iadd, 1) := by decide +kernel
theorem dL_law_1053 : decode code 1053 = .ok (.iaload, 1) := by decide +kernel
theorem dL_law_1054 : decode code 1054 = .ok (.aload_n 0, 1) := by decide +kernel
theorem dL_law_1055 : decode code 1055 = .ok (.iload_n 3, 1) := by decide +kernel
theorem dL_law_1056 : decode code 1056 = .ok (.iconst 3, 1) := by decide +kernel
theorem dL_law_1057 : decode code 1057 = .ok (.iadd, 1) := by decide +kernel
theorem dL_law_1058 : decode code 1058 = .ok (.iaload, 1) := by decide +kernel
theorem dL_law_1059 : decode code 1059 = .ok (.invokevirtual 129, 3) := by decide +kernel
theorem dL_law_1062 : decode code 1062 = .ok (.if_icmp .eq 187, 3) := by decide +kernel
theorem dL_law_1065 : decode code 1065 = .ok (.iconst 0, 1) := by decide +kernel
theorem dL_law_1066 : decode code 1066 = .ok (.ireturn, 1) := by decide +kernel
theorem dL_law_1067 : decode code 1067 = .ok (.aload_n 1, 1) := by decide +kernel
theorem dL_law_1068 : decode code 1068 = .ok (.aload_n 0, 1) := by decide +kernel
theorem dL_law_1069 : decode code 1069 = .ok (.iload_n 3, 1) := by decide +kernel
theorem dL_law_1070 : decode code 1070 = .ok (.iconst 1, 1) := by decide +kernel
theorem dL_law_1071 : decode code 1071 = .ok (.iadd, 1) := by decide +kernel
theorem dL_law_1072 : decode code 1072 = .ok (.iaload, 1) := by decide +kernel
theorem dL_law_1073 : decode code 1073 = .ok (.aload_n 0, 1) := by decide +kernel
theorem dL_law_1074 : decode code 1074 = .ok (.iload_n 3, 1) := by decide +kernel
theorem dL_law_1075 : decode code 1075 = .ok (.iconst 2, 1) := by decide +kernel
theorem dL_law_1076 : decode code 1076 = .ok (.iadd, 1) := by decide +kernel
theorem dL_law_1077 : decode code 1077 = .ok (.iaload, 1) := by decide +kernel
theorem dL_law_1078 : decode code 1078 = .ok (.aload_n 0, 1) := by decide +kernel
theorem dL_law_1079 : decode code 1079 = .ok (.iload_n 3, 1) := by decide +kernel
theorem dL_law_1080 : decode code 1080 = .ok (.iconst 3, 1) := by decide +kernel
theorem dL_law_1081 : decode code 1081 = .ok (.iadd, 1) := by decide +kernel
theorem dL_law_1082 : decode code 1082 = .ok (.iaload, 1) := by decide +kernel
theorem dL_law_1083 : decode code 1083 = .ok (.invokevirtual 130, 3) := by decide +kernel
theorem dL_law_1086 : decode code 1086 = .ok (.aload_n 2, 1) := by decide +kernel
theorem dL_law_1087 : decode code 1087 = .ok (.aload_n 0, 1) := by decide +kernel
theorem dL_law_1088 : decode code 1088 = .ok (.iload_n 3, 1) := by decide +kernel
theorem dL_law_1089 : decode code 1089 = .ok (.iconst 1, 1) := by decide +kernel
theorem dL_law_1090 : decode code 1090 = .ok (.iadd, 1) := by decide +kernel
theorem dL_law_1091 : decode code 1091 = .ok (.iaload, 1) := by decide +kernel
theorem dL_law_1092 : decode code 1092 = .ok (.aload_n 0, 1) := by decide +kernel
theorem dL_law_1093 : decode code 1093 = .ok (.iload_n 3, 1) := by decide +kernel
theorem dL_law_1094 : decode code 1094 = .ok (.iconst 2, 1) := by decide +kernel
theorem dL_law_1095 : decode code 1095 = .ok (.iadd, 1) := by decide +kernel
theorem dL_law_1096 : decode code 1096 = .ok (.iaload, 1) := by decide +kernel
theorem dL_law_1097 : decode code 1097 = .ok (.aload_n 0, 1) := by decide +kernel
theorem dL_law_1098 : decode code 1098 = .ok (.iload_n 3, 1) := by decide +kernel
theorem dL_law_1099 : decode code 1099 = .ok (.iconst 3, 1) := by decide +kernel
theorem dL_law_1100 : decode code 1100 = .ok (.iadd, 1) := by decide +kernel
theorem dL_law_1101 : decode code 1101 = .ok (.iaload, 1) := by decide +kernel
theorem dL_law_1102 : decode code 1102 = .ok (.invokevirtual 133, 3) := by decide +kernel
theorem dL_law_1105 : decode code 1105 = .ok (.if_icmp .eq 144, 3) := by decide +kernel
theorem dL_law_1108 : decode code 1108 = .ok (.iconst 0, 1) := by decide +kernel
theorem dL_law_1109 : decode code 1109 = .ok (.ireturn, 1) := by decide +kernel
theorem dL_law_1110 : decode code 1110 = .ok (.aload_n 1, 1) := by decide +kernel
theorem dL_law_1111 : decode code 1111 = .ok (.aload_n 0, 1) := by decide +kernel
theorem dL_law_1112 : decode code 1112 = .ok (.iload_n 3, 1) := by decide +kernel
theorem dL_law_1113 : decode code 1113 = .ok (.iconst 1, 1) := by decide +kernel
theorem dL_law_1114 : decode code 1114 = .ok (.iadd, 1) := by decide +kernel
theorem dL_law_1115 : decode code 1115 = .ok (.iaload, 1) := by decide +kernel
theorem dL_law_1116 : decode code 1116 = .ok (.invokevirtual 134, 3) := by decide +kernel
theorem dL_law_1119 : decode code 1119 = .ok (.aload_n 2, 1) := by decide +kernel
theorem dL_law_1120 : decode code 1120 = .ok (.aload_n 0, 1) := by decide +kernel
theorem dL_law_1121 : decode code 1121 = .ok (.iload_n 3, 1) := by decide +kernel
theorem dL_law_1122 : decode code 1122 = .ok (.iconst 1, 1) := by decide +kernel
theorem dL_law_1123 : decode code 1123 = .ok (.iadd, 1) := by decide +kernel
theorem dL_law_1124 : decode code 1124 = .ok (.iaload, 1) := by decide +kernel
theorem dL_law_1125 : decode code 1125 = .ok (.invokevirtual 137, 3) := by decide +kernel
theorem dL_law_1128 : decode code 1128 = .ok (.if_icmp .eq 121, 3) := by decide +kernel
theorem dL_law_1131 : decode code 1131 = .ok (.iconst 0, 1) := by decide +kernel
theorem dL_law_1132 : decode code 1132 = .ok (.ireturn, 1) := by decide +kernel
theorem dL_law_1133 : decode code 1133 = .ok (.aload_n 1, 1) := by decide +kernel
theorem dL_law_1134 : decode code 1134 = .ok (.aload_n 0, 1) := by decide +kernel
theorem dL_law_1135 : decode code 1135 = .ok (.iload_n 3, 1) := by decide +kernel
theorem dL_law_1136 : decode code 1136 = .ok (.iconst 1, 1) := by decide +kernel
theorem dL_law_1137 : decode code 1137 = .ok (.iadd, 1) := by decide +kernel
theorem dL_law_1138 : decode code 1138 = .ok (.iaload, 1) := by decide +kernel
theorem dL_law_1139 : decode code 1139 = .ok (.aload_n 0, 1) := by decide +kernel
theorem dL_law_1140 : decode code 1140 = .ok (.iload_n 3, 1) := by decide +kernel
theorem dL_law_1141 : decode code 1141 = .ok (.iconst 2, 1) := by decide +kernel
theorem dL_law_1142 : decode code 1142 = .ok (.iadd, 1) := by decide +kernel
theorem dL_law_1143 : decode code 1143 = .ok (.iaload, 1) := by decide +kernel
theorem dL_law_1144 : decode code 1144 = .ok (.aload_n 0, 1) := by decide +kernel
theorem dL_law_1145 : decode code 1145 = .ok (.iload_n 3, 1) := by decide +kernel
theorem dL_law_1146 : decode code 1146 = .ok (.iconst 3, 1) := by decide +kernel
theorem dL_law_1147 : decode code 1147 = .ok (.iadd, 1) := by decide +kernel
theorem dL_law_1148 : decode code 1148 = .ok (.iaload, 1) := by decide +kernel
theorem dL_law_1149 : decode code 1149 = .ok (.aload_n 0, 1) := by decide +kernel
theorem dL_law_1150 : decode code 1150 = .ok (.iload_n 3, 1) := by decide +kernel
theorem dL_law_1151 : decode code 1151 = .ok (.iconst 4, 1) := by decide +kernel
theorem dL_law_1152 : decode code 1152 = .ok (.iadd, 1) := by decide +kernel
theorem dL_law_1153 : decode code 1153 = .ok (.iaload, 1) := by decide +kernel
theorem dL_law_1154 : decode code 1154 = .ok (.invokevirtual 138, 3) := by decide +kernel
theorem dL_law_1157 : decode code 1157 = .ok (.aload_n 2, 1) := by decide +kernel
theorem dL_law_1158 : decode code 1158 = .ok (.aload_n 0, 1) := by decide +kernel
theorem dL_law_1159 : decode code 1159 = .ok (.iload_n 3, 1) := by decide +kernel
theorem dL_law_1160 : decode code 1160 = .ok (.iconst 1, 1) := by decide +kernel
theorem dL_law_1161 : decode code 1161 = .ok (.iadd, 1) := by decide +kernel
theorem dL_law_1162 : decode code 1162 = .ok (.iaload, 1) := by decide +kernel
theorem dL_law_1163 : decode code 1163 = .ok (.aload_n 0, 1) := by decide +kernel
theorem dL_law_1164 : decode code 1164 = .ok (.iload_n 3, 1) := by decide +kernel
theorem dL_law_1165 : decode code 1165 = .ok (.iconst 2, 1) := by decide +kernel
theorem dL_law_1166 : decode code 1166 = .ok (.iadd, 1) := by decide +kernel
theorem dL_law_1167 : decode code 1167 = .ok (.iaload, 1) := by decide +kernel
theorem dL_law_1168 : decode code 1168 = .ok (.aload_n 0, 1) := by decide +kernel
theorem dL_law_1169 : decode code 1169 = .ok (.iload_n 3, 1) := by decide +kernel
theorem dL_law_1170 : decode code 1170 = .ok (.iconst 3, 1) := by decide +kernel
theorem dL_law_1171 : decode code 1171 = .ok (.iadd, 1) := by decide +kernel
theorem dL_law_1172 : decode code 1172 = .ok (.iaload, 1) := by decide +kernel
theorem dL_law_1173 : decode code 1173 = .ok (.aload_n 0, 1) := by decide +kernel
theorem dL_law_1174 : decode code 1174 = .ok (.iload_n 3, 1) := by decide +kernel
theorem dL_law_1175 : decode code 1175 = .ok (.iconst 4, 1) := by decide +kernel
theorem dL_law_1176 : decode code 1176 = .ok (.iadd, 1) := by decide +kernel
theorem dL_law_1177 : decode code 1177 = .ok (.iaload, 1) := by decide +kernel
theorem dL_law_1178 : decode code 1178 = .ok (.invokevirtual 141, 3) := by decide +kernel
theorem dL_law_1181 : decode code 1181 = .ok (.if_icmp .eq 68, 3) := by decide +kernel
theorem dL_law_1184 : decode code 1184 = .ok (.iconst 0, 1) := by decide +kernel
theorem dL_law_1185 : decode code 1185 = .ok (.ireturn, 1) := by decide +kernel
theorem dL_law_1186 : decode code 1186 = .ok (.aload_n 1, 1) := by decide +kernel
theorem dL_law_1187 : decode code 1187 = .ok (.aload_n 0, 1) := by decide +kernel
theorem dL_law_1188 : decode code 1188 = .ok (.iload_n 3, 1) := by decide +kernel
theorem dL_law_1189 : decode code 1189 = .ok (.iconst 1, 1) := by decide +kernel
theorem dL_law_1190 : decode code 1190 = .ok (.iadd, 1) := by decide +kernel
theorem dL_law_1191 : decode code 1191 = .ok (.iaload, 1) := by decide +kernel
theorem dL_law_1192 : decode code 1192 = .ok (.aload_n 0, 1) := by decide +kernel
theorem dL_law_1193 : decode code 1193 = .ok (.iload_n 3, 1) := by decide +kernel
theorem dL_law_1194 : decode code 1194 = .ok (.iconst 2, 1) := by decide +kernel
theorem dL_law_1195 : decode code 1195 = .ok (.iadd, 1) := by decide +kernel
theorem dL_law_1196 : decode code 1196 = .ok (.iaload, 1) := by decide +kernel
theorem dL_law_1197 : decode code 1197 = .ok (.aload_n 0, 1) := by decide +kernel
theorem dL_law_1198 : decode code 1198 = .ok (.iload_n 3, 1) := by decide +kernel
theorem dL_law_1199 : decode code 1199 = .ok (.iconst 3, 1) := by decide +kernel
theorem dL_law_1200 : decode code 1200 = .ok (.iadd, 1) := by decide +kernel
theorem dL_law_1201 : decode code 1201 = .ok (.iaload, 1) := by decide +kernel
theorem dL_law_1202 : decode code 1202 = .ok (.aload_n 0, 1) := by decide +kernel
theorem dL_law_1203 : decode code 1203 = .ok (.iload_n 3, 1) := by decide +kernel
theorem dL_law_1204 : decode code 1204 = .ok (.iconst 4, 1) := by decide +kernel
theorem dL_law_1205 : decode code 1205 = .ok (.iadd, 1) := by decide +kernel
theorem dL_law_1206 : decode code 1206 = .ok (.iaload, 1) := by decide +kernel
theorem dL_law_1207 : decode code 1207 = .ok (.aload_n 0, 1) := by decide +kernel
theorem dL_law_1208 : decode code 1208 = .ok (.iload_n 3, 1) := by decide +kernel
theorem dL_law_1209 : decode code 1209 = .ok (.iconst 5, 1) := by decide +kernel
theorem dL_law_1210 : decode code 1210 = .ok (.iadd, 1) := by decide +kernel
theorem dL_law_1211 : decode code 1211 = .ok (.iaload, 1) := by decide +kernel
theorem dL_law_1212 : decode code 1212 = .ok (.invokevirtual 142, 3) := by decide +kernel
theorem dL_law_1215 : decode code 1215 = .ok (.aload_n 2, 1) := by decide +kernel
theorem dL_law_1216 : decode code 1216 = .ok (.aload_n 0, 1) := by decide +kernel
theorem dL_law_1217 : decode code 1217 = .ok (.iload_n 3, 1) := by decide +kernel
theorem dL_law_1218 : decode code 1218 = .ok (.iconst 1, 1) := by decide +kernel
theorem dL_law_1219 : decode code 1219 = .ok (.iadd, 1) := by decide +kernel
theorem dL_law_1220 : decode code 1220 = .ok (.iaload, 1) := by decide +kernel
theorem dL_law_1221 : decode code 1221 = .ok (.aload_n 0, 1) := by decide +kernel
theorem dL_law_1222 : decode code 1222 = .ok (.iload_n 3, 1) := by decide +kernel
theorem dL_law_1223 : decode code 1223 = .ok (.iconst 2, 1) := by decide +kernel
theorem dL_law_1224 : decode code 1224 = .ok (.iadd, 1) := by decide +kernel
theorem dL_law_1225 : decode code 1225 = .ok (.iaload, 1) := by decide +kernel
theorem dL_law_1226 : decode code 1226 = .ok (.aload_n 0, 1) := by decide +kernel
theorem dL_law_1227 : decode code 1227 = .ok (.iload_n 3, 1) := by decide +kernel
theorem dL_law_1228 : decode code 1228 = .ok (.iconst 3, 1) := by decide +kernel
theorem dL_law_1229 : decode code 1229 = .ok (.iadd, 1) := by decide +kernel
theorem dL_law_1230 : decode code 1230 = .ok (.iaload, 1) := by decide +kernel
theorem dL_law_1231 : decode code 1231 = .ok (.aload_n 0, 1) := by decide +kernel
theorem dL_law_1232 : decode code 1232 = .ok (.iload_n 3, 1) := by decide +kernel
theorem dL_law_1233 : decode code 1233 = .ok (.iconst 4, 1) := by decide +kernel
theorem dL_law_1234 : decode code 1234 = .ok (.iadd, 1) := by decide +kernel
theorem dL_law_1235 : decode code 1235 = .ok (.iaload, 1) := by decide +kernel
theorem dL_law_1236 : decode code 1236 = .ok (.aload_n 0, 1) := by decide +kernel
theorem dL_law_1237 : decode code 1237 = .ok (.iload_n 3, 1) := by decide +kernel
theorem dL_law_1238 : decode code 1238 = .ok (.iconst 5, 1) := by decide +kernel
theorem dL_law_1239 : decode code 1239 = .ok (.iadd, 1) := by decide +kernel
theorem dL_law_1240 : decode code 1240 = .ok (.iaload, 1) := by decide +kernel
theorem dL_law_1241 : decode code 1241 = .ok (.invokevirtual 146, 3) := by decide +kernel
theorem dL_law_1244 : decode code 1244 = .ok (.if_icmp .eq 5, 3) := by decide +kernel
theorem dL_law_1247 : decode code 1247 = .ok (.iconst 0, 1) := by decide +kernel
theorem dL_law_1248 : decode code 1248 = .ok (.ireturn, 1) := by decide +kernel
theorem dL_law_1249 : decode code 1249 = .ok (.iinc 3 8, 3) := by decide +kernel
theorem dL_law_1252 : decode code 1252 = .ok (.goto (-1234), 3) := by decide +kernel
theorem dL_law_1255 : decode code 1255 = .ok (.iconst 1, 1) := by decide +kernel
theorem dL_law_1256 : decode code 1256 = .ok (.ireturn, 1) := by decide +kernel
