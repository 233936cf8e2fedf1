/-! ===== decode rows of the law ===== -/
theorem dl_860 : decode code 860 = .ok (.iconst 2, 1) := by decide +kernel
theorem dl_861 : decode code 861 = .ok (.iadd, 1) := by decide +kernel
theorem dl_862 : decode code 862 = .ok (.iaload, 1) := by decide +kernel
theorem dl_863 : decode code 863 = .ok (.invokevirtual 110, 3) := by decide +kernel
theorem dl_866 : decode code 866 = .ok (.if_icmp .eq 616, 3) := by decide +kernel
theorem dl_869 : decode code 869 = .ok (.iconst 0, 1) := by decide +kernel
theorem dl_870 : decode code 870 = .ok (.ireturn, 1) := by decide +kernel
theorem dl_871 : decode code 871 = .ok (.aload_n 1, 1) := by decide +kernel
theorem dl_872 : decode code 872 = .ok (.aload_n 0, 1) := by decide +kernel
theorem dl_873 : decode code 873 = .ok (.iload 4, 2) := by decide +kernel
theorem dl_875 : decode code 875 = .ok (.iconst 1, 1) := by decide +kernel
theorem dl_876 : decode code 876 = .ok (.iadd, 1) := by decide +kernel
theorem dl_877 : decode code 877 = .ok (.iaload, 1) := by decide +kernel
theorem dl_878 : decode code 878 = .ok (.aload_n 0, 1) := by decide +kernel
theorem dl_879 : decode code 879 = .ok (.iload 4, 2) := by decide +kernel
theorem dl_881 : decode code 881 = .ok (.iconst 2, 1) := by decide +kernel
theorem dl_882 : decode code 882 = .ok (.iadd, 1) := by decide +kernel
theorem dl_883 : decode code 883 = .ok (.iaload, 1) := by decide +kernel
theorem dl_884 : decode code 884 = .ok (.invokevirtual 111, 3) := by decide +kernel
theorem dl_887 : decode code 887 = .ok (.aload_n 2, 1) := by decide +kernel
theorem dl_888 : decode code 888 = .ok (.aload_n 0, 1) := by decide +kernel
theorem dl_889 : decode code 889 = .ok (.iload 4, 2) := by decide +kernel
theorem dl_891 : decode code 891 = .ok (.iconst 1, 1) := by decide +kernel
theorem dl_892 : decode code 892 = .ok (.iadd, 1) := by decide +kernel
theorem dl_893 : decode code 893 = .ok (.iaload, 1) := by decide +kernel
theorem dl_894 : decode code 894 = .ok (.aload_n 0, 1) := by decide +kernel
theorem dl_895 : decode code 895 = .ok (.iload 4, 2) := by decide +kernel
theorem dl_897 : decode code 897 = .ok (.iconst 2, 1) := by decide +kernel
theorem dl_898 : decode code 898 = .ok (.iadd, 1) := by decide +kernel
theorem dl_899 : decode code 899 = .ok (.iaload, 1) := by decide +kernel
theorem dl_900 : decode code 900 = .ok (.invokevirtual 114, 3) := by decide +kernel
theorem dl_903 : decode code 903 = .ok (.if_icmp .eq 579, 3) := by decide +kernel
theorem dl_906 : decode code 906 = .ok (.iconst 0, 1) := by decide +kernel
theorem dl_907 : decode code 907 = .ok (.ireturn, 1) := by decide +kernel
theorem dl_908 : decode code 908 = .ok (.aload_n 1, 1) := by decide +kernel
theorem dl_909 : decode code 909 = .ok (.aload_n 0, 1) := by decide +kernel
theorem dl_910 : decode code 910 = .ok (.iload 4, 2) := by decide +kernel
theorem dl_912 : decode code 912 = .ok (.iconst 1, 1) := by decide +kernel
theorem dl_913 : decode code 913 = .ok (.iadd, 1) := by decide +kernel
theorem dl_914 : decode code 914 = .ok (.iaload, 1) := by decide +kernel
theorem dl_915 : decode code 915 = .ok (.invokevirtual 115, 3) := by decide +kernel
theorem dl_918 : decode code 918 = .ok (.aload_n 2, 1) := by decide +kernel
theorem dl_919 : decode code 919 = .ok (.aload_n 0, 1) := by decide +kernel
theorem dl_920 : decode code 920 = .ok (.iload 4, 2) := by decide +kernel
theorem dl_922 : decode code 922 = .ok (.iconst 1, 1) := by decide +kernel
theorem dl_923 : decode code 923 = .ok (.iadd, 1) := by decide +kernel
theorem dl_924 : decode code 924 = .ok (.iaload, 1) := by decide +kernel
theorem dl_925 : decode code 925 = .ok (.invokevirtual 118, 3) := by decide +kernel
theorem dl_928 : decode code 928 = .ok (.if_icmp .eq 554, 3) := by decide +kernel
theorem dl_931 : decode code 931 = .ok (.iconst 0, 1) := by decide +kernel
theorem dl_932 : decode code 932 = .ok (.ireturn, 1) := by decide +kernel
theorem dl_933 : decode code 933 = .ok (.aload_n 1, 1) := by decide +kernel
theorem dl_934 : decode code 934 = .ok (.aload_n 0, 1) := by decide +kernel
theorem dl_935 : decode code 935 = .ok (.iload 4, 2) := by decide +kernel
theorem dl_937 : decode code 937 = .ok (.iconst 1, 1) := by decide +kernel
theorem dl_938 : decode code 938 = .ok (.iadd, 1) := by decide +kernel
theorem dl_939 : decode code 939 = .ok (.iaload, 1) := by decide +kernel
theorem dl_940 : decode code 940 = .ok (.invokevirtual 119, 3) := by decide +kernel
theorem dl_943 : decode code 943 = .ok (.aload_n 2, 1) := by decide +kernel
theorem dl_944 : decode code 944 = .ok (.aload_n 0, 1) := by decide +kernel
theorem dl_945 : decode code 945 = .ok (.iload 4, 2) := by decide +kernel
theorem dl_947 : decode code 947 = .ok (.iconst 1, 1) := by decide +kernel
theorem dl_948 : decode code 948 = .ok (.iadd, 1) := by decide +kernel
theorem dl_949 : decode code 949 = .ok (.iaload, 1) := by decide +kernel
theorem dl_950 : decode code 950 = .ok (.invokevirtual 122, 3) := by decide +kernel
theorem dl_953 : decode code 953 = .ok (.if_icmp .eq 529, 3) := by decide +kernel
theorem dl_956 : decode code 956 = .ok (.iconst 0, 1) := by decide +kernel
theorem dl_957 : decode code 957 = .ok (.ireturn, 1) := by decide +kernel
theorem dl_958 : decode code 958 = .ok (.aload_n 1, 1) := by decide +kernel
theorem dl_959 : decode code 959 = .ok (.aload_n 0, 1) := by decide +kernel
theorem dl_960 : decode code 960 = .ok (.iload 4, 2) := by decide +kernel
theorem dl_962 : decode code 962 = .ok (.iconst 1, 1) := by decide +kernel
theorem dl_963 : decode code 963 = .ok (.iadd, 1) := by decide +kernel
theorem dl_964 : decode code 964 = .ok (.iaload, 1) := by decide +kernel
theorem dl_965 : decode code 965 = .ok (.invokevirtual 123, 3) := by decide +kernel
theorem dl_968 : decode code 968 = .ok (.aload_n 2, 1) := by decide +kernel
theorem dl_969 : decode code 969 = .ok (.aload_n 0, 1) := by decide +kernel
theorem dl_970 : decode code 970 = .ok (.iload 4, 2) := by decide +kernel
theorem dl_972 : decode code 972 = .ok (.iconst 1, 1) := by decide +kernel
theorem dl_973 : decode code 973 = .ok (.iadd, 1) := by decide +kernel
theorem dl_974 : decode code 974 = .ok (.iaload, 1) := by decide +kernel
theorem dl_975 : decode code 975 = .ok (.invokevirtual 126, 3) := by decide +kernel
theorem dl_978 : decode code 978 = .ok (.if_icmp .eq 504, 3) := by decide +kernel
theorem dl_981 : decode code 981 = .ok (.iconst 0, 1) := by decide +kernel
theorem dl_982 : decode code 982 = .ok (.ireturn, 1) := by decide +kernel
theorem dl_983 : decode code 983 = .ok (.aload_n 1, 1) := by decide +kernel
theorem dl_984 : decode code 984 = .ok (.aload_n 0, 1) := by decide +kernel
theorem dl_985 : decode code 985 = .ok (.iload 4, 2) := by decide +kernel
theorem dl_987 : decode code 987 = .ok (.iconst 1, 1) := by decide +kernel
theorem dl_988 : decode code 988 = .ok (.iadd, 1) := by decide +kernel
theorem dl_989 : decode code 989 = .ok (.iaload, 1) := by decide +kernel
theorem dl_990 : decode code 990 = .ok (.aload_n 0, 1) := by decide +kernel
theorem dl_991 : decode code 991 = .ok (.iload 4, 2) := by decide +kernel
theorem dl_993 : decode code 993 = .ok (.iconst 2, 1) := by decide +kernel
theorem dl_994 : decode code 994 = .ok (.iadd, 1) := by decide +kernel
theorem dl_995 : decode code 995 = .ok (.iaload, 1) := by decide +kernel
theorem dl_996 : decode code 996 = .ok (.aload_n 0, 1) := by decide +kernel
theorem dl_997 : decode code 997 = .ok (.iload 4, 2) := by decide +kernel
theorem dl_999 : decode code 999 = .ok (.iconst 3, 1) := by decide +kernel
theorem dl_1000 : decode code 1000 = .ok (.iadd, 1) := by decide +kernel
theorem dl_1001 : decode code 1001 = .ok (.iaload, 1) := by decide +kernel
theorem dl_1002 : decode code 1002 = .ok (.ifCond .eq 7, 3) := by decide +kernel
theorem dl_1005 : decode code 1005 = .ok (.iconst 1, 1) := by decide +kernel
theorem dl_1006 : decode code 1006 = .ok (.goto 4, 3) := by decide +kernel
theorem dl_1009 : decode code 1009 = .ok (.iconst 0, 1) := by decide +kernel
theorem dl_1010 : decode code 1010 = .ok (.invokevirtual 127, 3) := by decide +kernel
theorem dl_1013 : decode code 1013 = .ok (.aload_n 2, 1) := by decide +kernel
theorem dl_1014 : decode code 1014 = .ok (.aload_n 0, 1) := by decide +kernel
theorem dl_1015 : decode code 1015 = .ok (.iload 4, 2) := by decide +kernel
theorem dl_1017 : decode code 1017 = .ok (.iconst 1, 1) := by decide +kernel
theorem dl_1018 : decode code 1018 = .ok (.iadd, 1) := by decide +kernel
theorem dl_1019 : decode code 1019 = .ok (.iaload, 1) := by decide +kernel
theorem dl_1020 : decode code 1020 = .ok (.aload_n 0, 1) := by decide +kernel
theorem dl_1021 : decode code 1021 = .ok (.iload 4, 2) := by decide +kernel
theorem dl_1023 : decode code 1023 = .ok (.iconst 2, 1) := by decide +kernel
theorem dl_1024 : decode code 1024 = .ok (.iadd, 1) := by decide +kernel
theorem dl_1025 : decode code 1025 = .ok (.iaload, 1) := by decide +kernel
theorem dl_1026 : decode code 1026 = .ok (.aload_n 0, 1) := by decide +kernel
theorem dl_1027 : decode code 1027 = .ok (.iload 4, 2) := by decide +kernel
theorem dl_1029 : decode code 1029 = .ok (.iconst 3, 1) := by decide +kernel
theorem dl_1030 : decode code 1030 = .ok (.iadd, 1) := by decide +kernel
theorem dl_1031 : decode code 1031 = .ok (.iaload, 1) := by decide +kernel
theorem dl_1032 : decode code 1032 = .ok (.ifCond .eq 7, 3) := by decide +kernel
theorem dl_1035 : decode code 1035 = .ok (.iconst 1, 1) := by decide +kernel
theorem dl_1036 : decode code 1036 = .ok (.goto 4, 3) := by decide +kernel
theorem dl_1039 : decode code 1039 = .ok (.iconst 0, 1) := by decide +kernel
theorem dl_1040 : decode code 1040 = .ok (.invokevirtual 131, 3) := by decide +kernel
theorem dl_1043 : decode code 1043 = .ok (.if_icmp .eq 439, 3) := by decide +kernel
theorem dl_1046 : decode code 1046 = .ok (.iconst 0, 1) := by decide +kernel
theorem dl_1047 : decode code 1047 = .ok (.ireturn, 1) := by decide +kernel
theorem dl_1048 : decode code 1048 = .ok (.aload_n 1, 1) := by decide +kernel
theorem dl_1049 : decode code 1049 = .ok (.aload_n 0, 1) := by decide +kernel
theorem dl_1050 : decode code 1050 = .ok (.iload 4, 2) := by decide +kernel
theorem dl_1052 : decode code 1052 = .ok (.iconst 1, 1) := by decide +kernel
theorem dl_1053 : decode code 1053 = .ok (.iadd, 1) := by decide +kernel
theorem dl_1054 : decode code 1054 = .ok (.iaload, 1) := by decide +kernel
theorem dl_1055 : decode code 1055 = .ok (.invokevirtual 132, 3) := by decide +kernel
theorem dl_1058 : decode code 1058 = .ok (.aload_n 2, 1) := by decide +kernel
theorem dl_1059 : decode code 1059 = .ok (.aload_n 0, 1) := by decide +kernel
theorem dl_1060 : decode code 1060 = .ok (.iload 4, 2) := by decide +kernel
theorem dl_1062 : decode code 1062 = .ok (.iconst 1, 1) := by decide +kernel
theorem dl_1063 : decode code 1063 = .ok (.iadd, 1) := by decide +kernel
theorem dl_1064 : decode code 1064 = .ok (.iaload, 1) := by decide +kernel
theorem dl_1065 : decode code 1065 = .ok (.invokevirtual 135, 3) := by decide +kernel
theorem dl_1068 : decode code 1068 = .ok (.if_icmp .eq 414, 3) := by decide +kernel
theorem dl_1071 : decode code 1071 = .ok (.iconst 0, 1) := by decide +kernel
theorem dl_1072 : decode code 1072 = .ok (.ireturn, 1) := by decide +kernel
theorem dl_1073 : decode code 1073 = .ok (.aload_n 1, 1) := by decide +kernel
theorem dl_1074 : decode code 1074 = .ok (.aload_n 0, 1) := by decide +kernel
theorem dl_1075 : decode code 1075 = .ok (.iload 4, 2) := by decide +kernel
theorem dl_1077 : decode code 1077 = .ok (.iconst 1, 1) := by decide +kernel
theorem dl_1078 : decode code 1078 = .ok (.iadd, 1) := by decide +kernel
theorem dl_1079 : decode code 1079 = .ok (.iaload, 1) := by decide +kernel
theorem dl_1080 : decode code 1080 = .ok (.invokevirtual 136, 3) := by decide +kernel
theorem dl_1083 : decode code 1083 = .ok (.aload_n 2, 1) := by decide +kernel
theorem dl_1084 : decode code 1084 = .ok (.aload_n 0, 1) := by decide +kernel
theorem dl_1085 : decode code 1085 = .ok (.iload 4, 2) := by decide +kernel
theorem dl_1087 : decode code 1087 = .ok (.iconst 1, 1) := by decide +kernel
theorem dl_1088 : decode code 1088 = .ok (.iadd, 1) := by decide +kernel
theorem dl_1089 : decode code 1089 = .ok (.iaload, 1) := by decide +kernel
theorem dl_1090 : decode code 1090 = .ok (.invokevirtual 139, 3) := by decide +kernel
theorem dl_1093 : decode code 1093 = .ok (.if_icmp .eq 389, 3) := by decide +kernel
theorem dl_1096 : decode code 1096 = .ok (.iconst 0, 1) := by decide +kernel
theorem dl_1097 : decode code 1097 = .ok (.ireturn, 1) := by decide +kernel
theorem dl_1098 : decode code 1098 = .ok (.aload_n 1, 1) := by decide +kernel
theorem dl_1099 : decode code 1099 = .ok (.aload_n 0, 1) := by decide +kernel
theorem dl_1100 : decode code 1100 = .ok (.iload 4, 2) := by decide +kernel
theorem dl_1102 : decode code 1102 = .ok (.iconst 1, 1) := by decide +kernel
theorem dl_1103 : decode code 1103 = .ok (.iadd, 1) := by decide +kernel
theorem dl_1104 : decode code 1104 = .ok (.iaload, 1) := by decide +kernel
theorem dl_1105 : decode code 1105 = .ok (.aload_n 0, 1) := by decide +kernel
theorem dl_1106 : decode code 1106 = .ok (.iload 4, 2) := by decide +kernel
theorem dl_1108 : decode code 1108 = .ok (.iconst 2, 1) := by decide +kernel
theorem dl_1109 : decode code 1109 = .ok (.iadd, 1) := by decide +kernel
theorem dl_1110 : decode code 1110 = .ok (.iaload, 1) := by decide +kernel
theorem dl_1111 : decode code 1111 = .ok (.aload_n 0, 1) := by decide +kernel
theorem dl_1112 : decode code 1112 = .ok (.iload 4, 2) := by decide +kernel
theorem dl_1114 : decode code 1114 = .ok (.iconst 3, 1) := by decide +kernel
theorem dl_1115 : decode code 1115 = .ok (.iadd, 1) := by decide +kernel
theorem dl_1116 : decode code 1116 = .ok (.iaload, 1) := by decide +kernel
theorem dl_1117 : decode code 1117 = .ok (.aload_n 0, 1) := by decide +kernel
theorem dl_1118 : decode code 1118 = .ok (.iload 4, 2) := by decide +kernel
theorem dl_1120 : decode code 1120 = .ok (.iconst 4, 1) := by decide +kernel
theorem dl_1121 : decode code 1121 = .ok (.iadd, 1) := by decide +kernel
theorem dl_1122 : decode code 1122 = .ok (.iaload, 1) := by decide +kernel
theorem dl_1123 : decode code 1123 = .ok (.invokevirtual 140, 3) := by decide +kernel
theorem dl_1126 : decode code 1126 = .ok (.aload_n 2, 1) := by decide +kernel
theorem dl_1127 : decode code 1127 = .ok (.aload_n 0, 1) := by decide +kernel
theorem dl_1128 : decode code 1128 = .ok (.iload 4, 2) := by decide +kernel
theorem dl_1130 : decode code 1130 = .ok (.iconst 1, 1) := by decide +kernel
theorem dl_1131 : decode code 1131 = .ok (.iadd, 1) := by decide +kernel
theorem dl_1132 : decode code 1132 = .ok (.iaload, 1) := by decide +kernel
theorem dl_1133 : decode code 1133 = .ok (.aload_n 0, 1) := by decide +kernel
theorem dl_1134 : decode code 1134 = .ok (.iload 4, 2) := by decide +kernel
theorem dl_1136 : decode code 1136 = .ok (.iconst 2, 1) := by decide +kernel
theorem dl_1137 : decode code 1137 = .ok (.iadd, 1) := by decide +kernel
theorem dl_1138 : decode code 1138 = .ok (.iaload, 1) := by decide +kernel
theorem dl_1139 : decode code 1139 = .ok (.aload_n 0, 1) := by decide +kernel
theorem dl_1140 : decode code 1140 = .ok (.iload 4, 2) := by decide +kernel
theorem dl_1142 : decode code 1142 = .ok (.iconst 3, 1) := by decide +kernel
theorem dl_1143 : decode code 1143 = .ok (.iadd, 1) := by decide +kernel
theorem dl_1144 : decode code 1144 = .ok (.iaload, 1) := by decide +kernel
theorem dl_1145 : decode code 1145 = .ok (.aload_n 0, 1) := by decide +kernel
theorem dl_1146 : decode code 1146 = .ok (.iload 4, 2) := by decide +kernel
theorem dl_1148 : decode code 1148 = .ok (.iconst 4, 1) := by decide +kernel
theorem dl_1149 : decode code 1149 = .ok (.iadd, 1) := by decide +kernel
theorem dl_1150 : decode code 1150 = .ok (.iaload, 1) := by decide +kernel
theorem dl_1151 : decode code 1151 = .ok (.invokevirtual 144, 3) := by decide +kernel
theorem dl_1154 : decode code 1154 = .ok (.if_icmp .eq 328, 3) := by decide +kernel
theorem dl_1157 : decode code 1157 = .ok (.iconst 0, 1) := by decide +kernel
theorem dl_1158 : decode code 1158 = .ok (.ireturn, 1) := by decide +kernel
theorem dl_1159 : decode code 1159 = .ok (.aload_n 1, 1) := by decide +kernel
theorem dl_1160 : decode code 1160 = .ok (.aload_n 0, 1) := by decide +kernel
theorem dl_1161 : decode code 1161 = .ok (.iload 4, 2) := by decide +kernel
theorem dl_1163 : decode code 1163 = .ok (.iconst 1, 1) := by decide +kernel
theorem dl_1164 : decode code 1164 = .ok (.iadd, 1) := by decide +kernel
theorem dl_1165 : decode code 1165 = .ok (.iaload, 1) := by decide +kernel
theorem dl_1166 : decode code 1166 = .ok (.aload_n 0, 1) := by decide +kernel
theorem dl_1167 : decode code 1167 = .ok (.iload 4, 2) := by decide +kernel
theorem dl_1169 : decode code 1169 = .ok (.iconst 2, 1) := by decide +kernel
theorem dl_1170 : decode code 1170 = .ok (.iadd, 1) := by decide +kernel
theorem dl_1171 : decode code 1171 = .ok (.iaload, 1) := by decide +kernel
theorem dl_1172 : decode code 1172 = .ok (.invokevirtual 145, 3) := by decide +kernel
theorem dl_1175 : decode code 1175 = .ok (.aload_n 2, 1) := by decide +kernel
theorem dl_1176 : decode code 1176 = .ok (.aload_n 0, 1) := by decide +kernel
theorem dl_1177 : decode code 1177 = .ok (.iload 4, 2) := by decide +kernel
theorem dl_1179 : decode code 1179 = .ok (.iconst 1, 1) := by decide +kernel
theorem dl_1180 : decode code 1180 = .ok (.iadd, 1) := by decide +kernel
theorem dl_1181 : decode code 1181 = .ok (.iaload, 1) := by decide +kernel
theorem dl_1182 : decode code 1182 = .ok (.aload_n 0, 1) := by decide +kernel
theorem dl_1183 : decode code 1183 = .ok (.iload 4, 2) := by decide +kernel
theorem dl_1185 : decode code 1185 = .ok (.iconst 2, 1) := by decide +kernel
theorem dl_1186 : decode code 1186 = .ok (.iadd, 1) := by decide +kernel
theorem dl_1187 : decode code 1187 = .ok (.iaload, 1) := by decide +kernel
theorem dl_1188 : decode code 1188 = .ok (.invokevirtual 148, 3) := by decide +kernel
theorem dl_1191 : decode code 1191 = .ok (.if_icmp .eq 291, 3) := by decide +kernel
theorem dl_1194 : decode code 1194 = .ok (.iconst 0, 1) := by decide +kernel
theorem dl_1195 : decode code 1195 = .ok (.ireturn, 1) := by decide +kernel
theorem dl_1196 : decode code 1196 = .ok (.aload_n 1, 1) := by decide +kernel
theorem dl_1197 : decode code 1197 = .ok (.aload_n 0, 1) := by decide +kernel
