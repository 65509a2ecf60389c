theorem dL_law_862 : decode code 862 = .ok (.aload_n 0, 1) := by decide +kernel
theorem dL_law_863 : decode code 863 = .ok (.iload_n 3, 1) := by decide +kernel
theorem dL_law_864 : decode code 864 = .ok (.iconst 2, 1) := by decide +kernel
theorem dL_law_865 : decode code 865 = .ok (.iadd, 1) := by decide +kernel
theorem dL_law_866 : decode code 866 = .ok (.iaload, 1) := by decide +kernel
theorem dL_law_867 : decode code 867 = .ok (.invokevirtual 96, 3) := by decide +kernel
theorem dL_law_870 : decode code 870 = .ok (.if_icmp .eq 638, 3) := by decide +kernel
theorem dL_law_873 : decode code 873 = .ok (.iconst 0, 1) := by decide +kernel
theorem dL_law_874 : decode code 874 = .ok (.ireturn, 1) := by decide +kernel
theorem dL_law_875 : decode code 875 = .ok (.aload_n 1, 1) := by decide +kernel
theorem dL_law_876 : decode code 876 = .ok (.aload_n 0, 1) := by decide +kernel
theorem dL_law_877 : decode code 877 = .ok (.iload_n 3, 1) := by decide +kernel
theorem dL_law_878 : decode code 878 = .ok (.iconst 1, 1) := by decide +kernel
theorem dL_law_879 : decode code 879 = .ok (.iadd, 1) := by decide +kernel
theorem dL_law_880 : decode code 880 = .ok (.iaload, 1) := by decide +kernel
theorem dL_law_881 : decode code 881 = .ok (.aload_n 0, 1) := by decide +kernel
theorem dL_law_882 : decode code 882 = .ok (.iload_n 3, 1) := by decide +kernel
theorem dL_law_883 : decode code 883 = .ok (.iconst 2, 1) := by decide +kernel
theorem dL_law_884 : decode code 884 = .ok (.iadd, 1) := by decide +kernel
theorem dL_law_885 : decode code 885 = .ok (.iaload, 1) := by decide +kernel
theorem dL_law_886 : decode code 886 = .ok (.aload_n 0, 1) := by decide +kernel
theorem dL_law_887 : decode code 887 = .ok (.iload_n 3, 1) := by decide +kernel
theorem dL_law_888 : decode code 888 = .ok (.iconst 3, 1) := by decide +kernel
theorem dL_law_889 : decode code 889 = .ok (.iadd, 1) := by decide +kernel
theorem dL_law_890 : decode code 890 = .ok (.iaload, 1) := by decide +kernel
theorem dL_law_891 : decode code 891 = .ok (.invokevirtual 97, 3) := by decide +kernel
theorem dL_law_894 : decode code 894 = .ok (.aload_n 2, 1) := by decide +kernel
theorem dL_law_895 : decode code 895 = .ok (.aload_n 0, 1) := by decide +kernel
theorem dL_law_896 : decode code 896 = .ok (.iload_n 3, 1) := by decide +kernel
theorem dL_law_897 : decode code 897 = .ok (.iconst 1, 1) := by decide +kernel
theorem dL_law_898 : decode code 898 = .ok (.iadd, 1) := by decide +kernel
theorem dL_law_899 : decode code 899 = .ok (.iaload, 1) := by decide +kernel
theorem dL_law_900 : decode code 900 = .ok (.aload_n 0, 1) := by decide +kernel
theorem dL_law_901 : decode code 901 = .ok (.iload_n 3, 1) := by decide +kernel
theorem dL_law_902 : decode code 902 = .ok (.iconst 2, 1) := by decide +kernel
theorem dL_law_903 : decode code 903 = .ok (.iadd, 1) := by decide +kernel
theorem dL_law_904 : decode code 904 = .ok (.iaload, 1) := by decide +kernel
theorem dL_law_905 : decode code 905 = .ok (.aload_n 0, 1) := by decide +kernel
theorem dL_law_906 : decode code 906 = .ok (.iload_n 3, 1) := by decide +kernel
theorem dL_law_907 : decode code 907 = .ok (.iconst 3, 1) := by decide +kernel
theorem dL_law_908 : decode code 908 = .ok (.iadd, 1) := by decide +kernel
theorem dL_law_909 : decode code 909 = .ok (.iaload, 1) := by decide +kernel
theorem dL_law_910 : decode code 910 = .ok (.invokevirtual 100, 3) := by decide +kernel
theorem dL_law_913 : decode code 913 = .ok (.if_icmp .eq 595, 3) := by decide +kernel
theorem dL_law_916 : decode code 916 = .ok (.iconst 0, 1) := by decide +kernel
theorem dL_law_917 : decode code 917 = .ok (.ireturn, 1) := by decide +kernel
theorem dL_law_918 : decode code 918 = .ok (.aload_n 1, 1) := by decide +kernel
theorem dL_law_919 : decode code 919 = .ok (.aload_n 0, 1) := by decide +kernel
theorem dL_law_920 : decode code 920 = .ok (.iload_n 3, 1) := by decide +kernel
theorem dL_law_921 : decode code 921 = .ok (.iconst 1, 1) := by decide +kernel
theorem dL_law_922 : decode code 922 = .ok (.iadd, 1) := by decide +kernel
theorem dL_law_923 : decode code 923 = .ok (.iaload, 1) := by decide +kernel
theorem dL_law_924 : decode code 924 = .ok (.aload_n 0, 1) := by decide +kernel
theorem dL_law_925 : decode code 925 = .ok (.iload_n 3, 1) := by decide +kernel
theorem dL_law_926 : decode code 926 = .ok (.iconst 2, 1) := by decide +kernel
theorem dL_law_927 : decode code 927 = .ok (.iadd, 1) := by decide +kernel
theorem dL_law_928 : decode code 928 = .ok (.iaload, 1) := by decide +kernel
theorem dL_law_929 : decode code 929 = .ok (.invokevirtual 101, 3) := by decide +kernel
theorem dL_law_932 : decode code 932 = .ok (.aload_n 2, 1) := by decide +kernel
theorem dL_law_933 : decode code 933 = .ok (.aload_n 0, 1) := by decide +kernel
theorem dL_law_934 : decode code 934 = .ok (.iload_n 3, 1) := by decide +kernel
theorem dL_law_935 : decode code 935 = .ok (.iconst 1, 1) := by decide +kernel
theorem dL_law_936 : decode code 936 = .ok (.iadd, 1) := by decide +kernel
theorem dL_law_937 : decode code 937 = .ok (.iaload, 1) := by decide +kernel
theorem dL_law_938 : decode code 938 = .ok (.aload_n 0, 1) := by decide +kernel
theorem dL_law_939 : decode code 939 = .ok (.iload_n 3, 1) := by decide +kernel
theorem dL_law_940 : decode code 940 = .ok (.iconst 2, 1) := by decide +kernel
theorem dL_law_941 : decode code 941 = .ok (.iadd, 1) := by decide +kernel
theorem dL_law_942 : decode code 942 = .ok (.iaload, 1) := by decide +kernel
theorem dL_law_943 : decode code 943 = .ok (.invokevirtual 104, 3) := by decide +kernel
theorem dL_law_946 : decode code 946 = .ok (.if_icmp .eq 562, 3) := by decide +kernel
theorem dL_law_949 : decode code 949 = .ok (.iconst 0, 1) := by decide +kernel
theorem dL_law_950 : decode code 950 = .ok (.ireturn, 1) := by decide +kernel
theorem dL_law_951 : decode code 951 = .ok (.aload_n 1, 1) := by decide +kernel
theorem dL_law_952 : decode code 952 = .ok (.invokevirtual 105, 3) := by decide +kernel
theorem dL_law_955 : decode code 955 = .ok (.aload_n 2, 1) := by decide +kernel
theorem dL_law_956 : decode code 956 = .ok (.invokevirtual 108, 3) := by decide +kernel
theorem dL_law_959 : decode code 959 = .ok (.if_icmp .eq 549, 3) := by decide +kernel
theorem dL_law_962 : decode code 962 = .ok (.iconst 0, 1) := by decide +kernel
theorem dL_law_963 : decode code 963 = .ok (.ireturn, 1) := by decide +kernel
theorem dL_law_964 : decode code 964 = .ok (.aload_n 1, 1) := by decide +kernel
theorem dL_law_965 : decode code 965 = .ok (.aload_n 0, 1) := by decide +kernel
theorem dL_law_966 : decode code 966 = .ok (.iload_n 3, 1) := by decide +kernel
theorem dL_law_967 : decode code 967 = .ok (.iconst 1, 1) := by decide +kernel
theorem dL_law_968 : decode code 968 = .ok (.iadd, 1) := by decide +kernel
theorem dL_law_969 : decode code 969 = .ok (.iaload, 1) := by decide +kernel
theorem dL_law_970 : decode code 970 = .ok (.aload_n 0, 1) := by decide +kernel
theorem dL_law_971 : decode code 971 = .ok (.iload_n 3, 1) := by decide +kernel
theorem dL_law_972 : decode code 972 = .ok (.iconst 2, 1) := by decide +kernel
theorem dL_law_973 : decode code 973 = .ok (.iadd, 1) := by decide +kernel
theorem dL_law_974 : decode code 974 = .ok (.iaload, 1) := by decide +kernel
theorem dL_law_975 : decode code 975 = .ok (.aload_n 0, 1) := by decide +kernel
theorem dL_law_976 : decode code 976 = .ok (.iload_n 3, 1) := by decide +kernel
theorem dL_law_977 : decode code 977 = .ok (.iconst 3, 1) := by decide +kernel
theorem dL_law_978 : decode code 978 = .ok (.iadd, 1) := by decide +kernel
theorem dL_law_979 : decode code 979 = .ok (.iaload, 1) := by decide +kernel
theorem dL_law_980 : decode code 980 = .ok (.invokevirtual 109, 3) := by decide +kernel
theorem dL_law_983 : decode code 983 = .ok (.aload_n 2, 1) := by decide +kernel
theorem dL_law_984 : decode code 984 = .ok (.aload_n 0, 1) := by decide +kernel
theorem dL_law_985 : decode code 985 = .ok (.iload_n 3, 1) := by decide +kernel
theorem dL_law_986 : decode code 986 = .ok (.iconst 1, 1) := by decide +kernel
theorem dL_law_987 : decode code 987 = .ok (.iadd, 1) := by decide +kernel
theorem dL_law_988 : decode code 988 = .ok (.iaload, 1) := by decide +kernel
theorem dL_law_989 : decode code 989 = .ok (.aload_n 0, 1) := by decide +kernel
theorem dL_law_990 : decode code 990 = .ok (.iload_n 3, 1) := by decide +kernel
theorem dL_law_991 : decode code 991 = .ok (.iconst 2, 1) := by decide +kernel
theorem dL_law_992 : decode code 992 = .ok (.iadd, 1) := by decide +kernel
theorem dL_law_993 : decode code 993 = .ok (.iaload, 1) := by decide +kernel
theorem dL_law_994 : decode code 994 = .ok (.aload_n 0, 1) := by decide +kernel
theorem dL_law_995 : decode code 995 = .ok (.iload_n 3, 1) := by decide +kernel
theorem dL_law_996 : decode code 996 = .ok (.iconst 3, 1) := by decide +kernel
theorem dL_law_997 : decode code 997 = .ok (.iadd, 1) := by decide +kernel
theorem dL_law_998 : decode code 998 = .ok (.iaload, 1) := by decide +kernel
theorem dL_law_999 : decode code 999 = .ok (.invokevirtual 112, 3) := by decide +kernel
theorem dL_law_1002 : decode code 1002 = .ok (.if_icmp .eq 506, 3) := by decide +kernel
theorem dL_law_1005 : decode code 1005 = .ok (.iconst 0, 1) := by decide +kernel
theorem dL_law_1006 : decode code 1006 = .ok (.ireturn, 1) := by decide +kernel
theorem dL_law_1007 : decode code 1007 = .ok (.aload_n 1, 1) := by decide +kernel
theorem dL_law_1008 : decode code 1008 = .ok (.aload_n 0, 1) := by decide +kernel
theorem dL_law_1009 : decode code 1009 = .ok (.iload_n 3, 1) := by decide +kernel
theorem dL_law_1010 : decode code 1010 = .ok (.iconst 1, 1) := by decide +kernel
theorem dL_law_1011 : decode code 1011 = .ok (.iadd, 1) := by decide +kernel
theorem dL_law_1012 : decode code 1012 = .ok (.iaload, 1) := by decide +kernel
theorem dL_law_1013 : decode code 1013 = .ok (.invokevirtual 113, 3) := by decide +kernel
theorem dL_law_1016 : decode code 1016 = .ok (.aload_n 2, 1) := by decide +kernel
theorem dL_law_1017 : decode code 1017 = .ok (.aload_n 0, 1) := by decide +kernel
theorem dL_law_1018 : decode code 1018 = .ok (.iload_n 3, 1) := by decide +kernel
theorem dL_law_1019 : decode code 1019 = .ok (.iconst 1, 1) := by decide +kernel
theorem dL_law_1020 : decode code 1020 = .ok (.iadd, 1) := by decide +kernel
theorem dL_law_1021 : decode code 1021 = .ok (.iaload, 1) := by decide +kernel
theorem dL_law_1022 : decode code 1022 = .ok (.invokevirtual 116, 3) := by decide +kernel
theorem dL_law_1025 : decode code 1025 = .ok (.if_icmp .eq 483, 3) := by decide +kernel
theorem dL_law_1028 : decode code 1028 = .ok (.iconst 0, 1) := by decide +kernel
theorem dL_law_1029 : decode code 1029 = .ok (.ireturn, 1) := by decide +kernel
theorem dL_law_1030 : decode code 1030 = .ok (.aload_n 1, 1) := by decide +kernel
theorem dL_law_1031 : decode code 1031 = .ok (.aload_n 0, 1) := by decide +kernel
theorem dL_law_1032 : decode code 1032 = .ok (.iload_n 3, 1) := by decide +kernel
theorem dL_law_1033 : decode code 1033 = .ok (.iconst 1, 1) := by decide +kernel
theorem dL_law_1034 : decode code 1034 = .ok (.iadd, 1) := by decide +kernel
theorem dL_law_1035 : decode code 1035 = .ok (.iaload, 1) := by decide +kernel
theorem dL_law_1036 : decode code 1036 = .ok (.aload_n 0, 1) := by decide +kernel
theorem dL_law_1037 : decode code 1037 = .ok (.iload_n 3, 1) := by decide +kernel
theorem dL_law_1038 : decode code 1038 = .ok (.iconst 2, 1) := by decide +kernel
theorem dL_law_1039 : decode code 1039 = .ok (.iadd, 1) := by decide +kernel
theorem dL_law_1040 : decode code 1040 = .ok (.iaload, 1) := by decide +kernel
theorem dL_law_1041 : decode code 1041 = .ok (.aload_n 0, 1) := by decide +kernel
theorem dL_law_1042 : decode code 1042 = .ok (.iload_n 3, 1) := by decide +kernel
theorem dL_law_1043 : decode code 1043 = .ok (.iconst 3, 1) := by decide +kernel
theorem dL_law_1044 : decode code 1044 = .ok (.iadd, 1) := by decide +kernel
theorem dL_law_1045 : decode code 1045 = .ok (.iaload, 1) := by decide +kernel
theorem dL_law_1046 : decode code 1046 = .ok (.invokevirtual 117, 3) := by decide +kernel
theorem dL_law_1049 : decode code 1049 = .ok (.aload_n 2, 1) := by decide +kernel
theorem dL_law_1050 : decode code 1050 = .ok (.aload_n 0, 1) := by decide +kernel
theorem dL_law_1051 : decode code 1051 = .ok (.iload_n 3, 1) := by decide +kernel
theorem dL_law_1052 : decode code 1052 = .ok (.iconst 1, 1) := by decide +kernel
theorem dL_law_1053 : decode code 1053 = .ok (.iadd, 1) := by decide +kernel
theorem dL_law_1054 : decode code 1054 = .ok (.iaload, 1) := by decide +kernel
theorem dL_law_1055 : decode code 1055 = .ok (.aload_n 0, 1) := by decide +kernel
theorem dL_law_1056 : decode code 1056 = .ok (.iload_n 3, 1) := by decide +kernel
theorem dL_law_1057 : decode code 1057 = .ok (.iconst 2, 1) := by decide +kernel
theorem dL_law_1058 : decode code 1058 = .ok (.iadd, 1) := by decide +kernel
theorem dL_law_1059 : decode code 1059 = .ok (.iaload, 1) := by decide +kernel
theorem dL_law_1060 : decode code 1060 = .ok (.aload_n 0, 1) := by decide +kernel
theorem dL_law_1061 : decode code 1061 = .ok (.iload_n 3, 1) := by decide +kernel
theorem dL_law_1062 : decode code 1062 = .ok (.iconst 3, 1) := by decide +kernel
theorem dL_law_1063 : decode code 1063 = .ok (.iadd, 1) := by decide +kernel
theorem dL_law_1064 : decode code 1064 = .ok (.iaload, 1) := by decide +kernel
theorem dL_law_1065 : decode code 1065 = .ok (.invokevirtual 120, 3) := by decide +kernel
theorem dL_law_1068 : decode code 1068 = .ok (.if_icmp .eq 440, 3) := by decide +kernel
theorem dL_law_1071 : decode code 1071 = .ok (.iconst 0, 1) := by decide +kernel
theorem dL_law_1072 : decode code 1072 = .ok (.ireturn, 1) := by decide +kernel
theorem dL_law_1073 : decode code 1073 = .ok (.aload_n 1, 1) := by decide +kernel
theorem dL_law_1074 : decode code 1074 = .ok (.aload_n 0, 1) := by decide +kernel
theorem dL_law_1075 : decode code 1075 = .ok (.iload_n 3, 1) := by decide +kernel
theorem dL_law_1076 : decode code 1076 = .ok (.iconst 1, 1) := by decide +kernel
theorem dL_law_1077 : decode code 1077 = .ok (.iadd, 1) := by decide +kernel
theorem dL_law_1078 : decode code 1078 = .ok (.iaload, 1) := by decide +kernel
theorem dL_law_1079 : decode code 1079 = .ok (.aload_n 0, 1) := by decide +kernel
theorem dL_law_1080 : decode code 1080 = .ok (.iload_n 3, 1) := by decide +kernel
theorem dL_law_1081 : decode code 1081 = .ok (.iconst 2, 1) := by decide +kernel
theorem dL_law_1082 : decode code 1082 = .ok (.iadd, 1) := by decide +kernel
theorem dL_law_1083 : decode code 1083 = .ok (.iaload, 1) := by decide +kernel
theorem dL_law_1084 : decode code 1084 = .ok (.aload_n 0, 1) := by decide +kernel
theorem dL_law_1085 : decode code 1085 = .ok (.iload_n 3, 1) := by decide +kernel
theorem dL_law_1086 : decode code 1086 = .ok (.iconst 3, 1) := by decide +kernel
theorem dL_law_1087 : decode code 1087 = .ok (.iadd, 1) := by decide +kernel
theorem dL_law_1088 : decode code 1088 = .ok (.iaload, 1) := by decide +kernel
theorem dL_law_1089 : decode code 1089 = .ok (.invokevirtual 121, 3) := by decide +kernel
theorem dL_law_1092 : decode code 1092 = .ok (.aload_n 2, 1) := by decide +kernel
theorem dL_law_1093 : decode code 1093 = .ok (.aload_n 0, 1) := by decide +kernel
theorem dL_law_1094 : decode code 1094 = .ok (.iload_n 3, 1) := by decide +kernel
theorem dL_law_1095 : decode code 1095 = .ok (.iconst 1, 1) := by decide +kernel
theorem dL_law_1096 : decode code 1096 = .ok (.iadd, 1) := by decide +kernel
theorem dL_law_1097 : decode code 1097 = .ok (.iaload, 1) := by decide +kernel
theorem dL_law_1098 : decode code 1098 = .ok (.aload_n 0, 1) := by decide +kernel
theorem dL_law_1099 : decode code 1099 = .ok (.iload_n 3, 1) := by decide +kernel
theorem dL_law_1100 : decode code 1100 = .ok (.iconst 2, 1) := by decide +kernel
theorem dL_law_1101 : decode code 1101 = .ok (.iadd, 1) := by decide +kernel
theorem dL_law_1102 : decode code 1102 = .ok (.iaload, 1) := by decide +kernel
theorem dL_law_1103 : decode code 1103 = .ok (.aload_n 0, 1) := by decide +kernel
theorem dL_law_1104 : decode code 1104 = .ok (.iload_n 3, 1) := by decide +kernel
theorem dL_law_1105 : decode code 1105 = .ok (.iconst 3, 1) := by decide +kernel
theorem dL_law_1106 : decode code 1106 = .ok (.iadd, 1) := by decide +kernel
theorem dL_law_1107 : decode code 1107 = .ok (.iaload, 1) := by decide +kernel
theorem dL_law_1108 : decode code 1108 = .ok (.invokevirtual 124, 3) := by decide +kernel
theorem dL_law_1111 : decode code 1111 = .ok (.if_icmp .eq 397, 3) := by decide +kernel
theorem dL_law_1114 : decode code 1114 = .ok (.iconst 0, 1) := by decide +kernel
theorem dL_law_1115 : decode code 1115 = .ok (.ireturn, 1) := by decide +kernel
theorem dL_law_1116 : decode code 1116 = .ok (.aload_n 1, 1) := by decide +kernel
theorem dL_law_1117 : decode code 1117 = .ok (.aload_n 0, 1) := by decide +kernel
theorem dL_law_1118 : decode code 1118 = .ok (.iload_n 3, 1) := by decide +kernel
theorem dL_law_1119 : decode code 1119 = .ok (.iconst 1, 1) := by decide +kernel
theorem dL_law_1120 : decode code 1120 = .ok (.iadd, 1) := by decide +kernel
theorem dL_law_1121 : decode code 1121 = .ok (.iaload, 1) := by decide +kernel
theorem dL_law_1122 : decode code 1122 = .ok (.invokevirtual 125, 3) := by decide +kernel
theorem dL_law_1125 : decode code 1125 = .ok (.aload_n 2, 1) := by decide +kernel
theorem dL_law_1126 : decode code 1126 = .ok (.aload_n 0, 1) := by decide +kernel
theorem dL_law_1127 : decode code 1127 = .ok (.iload_n 3, 1) := by decide +kernel
theorem dL_law_1128 : decode code 1128 = .ok (.iconst 1, 1) := by decide +kernel
theorem dL_law_1129 : decode code 1129 = .ok (.iadd, 1) := by decide +kernel
theorem dL_law_1130 : decode code 1130 = .ok (.iaload, 1) := by decide +kernel
theorem dL_law_1131 : decode code 1131 = .ok (.invokevirtual 128, 3) := by decide +kernel
theorem dL_law_1134 : decode code 1134 = .ok (.if_icmp .eq 374, 3) := by decide +kernel
theorem dL_law_1137 : decode code 1137 = .ok (.iconst 0, 1) := by decide +kernel
theorem dL_law_1138 : decode code 1138 = .ok (.ireturn, 1) := by decide +kernel
theorem dL_law_1139 : decode code 1139 = .ok (.aload_n 1, 1) := by decide +kernel
theorem dL_law_1140 : decode code 1140 = .ok (.aload_n 0, 1) := by decide +kernel
theorem dL_law_1141 : decode code 1141 = .ok (.iload_n 3, 1) := by decide +kernel
theorem dL_law_1142 : decode code 1142 = .ok (.iconst 1, 1) := by decide +kernel
theorem dL_law_1143 : decode code 1143 = .ok (.iadd, 1) := by decide +kernel
theorem dL_law_1144 : decode code 1144 = .ok (.iaload, 1) := by decide +kernel
theorem dL_law_1145 : decode code 1145 = .ok (.aload_n 0, 1) := by decide +kernel
theorem dL_law_1146 : decode code 1146 = .ok (.iload_n 3, 1) := by decide +kernel
theorem dL_law_1147 : decode code 1147 = .ok (.iconst 2, 1) := by decide +kernel
theorem dL_law_1148 : decode code 1148 = .ok (.iadd, 1) := by decide +kernel
theorem dL_law_1149 : decode code 1149 = .ok (.iaload, 1) := by decide +kernel
theorem dL_law_1150 : decode code 1150 = .ok (.aload_n 0, 1) := by decide +kernel
theorem dL_law_1151 : decode code 1151 = .ok (.iload_n 3, 1) := by decide +kernel
theorem dL_law_1152 : decode code 1152 = .ok (.iconst 3, 1) := by decide +kernel
theorem dL_law_1153 : decode code 1153 = .ok (.iadd, 1) := by decide +kernel
theorem dL_law_1154 : decode code 1154 = .ok (.iaload, 1) := by decide +kernel
theorem dL_law_1155 : decode code 1155 = .ok (.invokevirtual 129, 3) := by decide +kernel
theorem dL_law_1158 : decode code 1158 = .ok (.aload_n 2, 1) := by decide +kernel
theorem dL_law_1159 : decode code 1159 = .ok (.aload_n 0, 1) := by decide +kernel
theorem dL_law_1160 : decode code 1160 = .ok (.iload_n 3, 1) := by decide +kernel
theorem dL_law_1161 : decode code 1161 = .ok (.iconst 1, 1) := by decide +kernel
theorem dL_law_1162 : decode code 1162 = .ok (.iadd, 1) := by decide +kernel
theorem dL_law_1163 : decode code 1163 = .ok (.iaload, 1) := by decide +kernel
theorem dL_law_1164 : decode code 1164 = .ok (.aload_n 0, 1) := by decide +kernel
theorem dL_law_1165 : decode code 1165 = .ok (.iload_n 3, 1) := by decide +kernel
theorem dL_law_1166 : decode code 1166 = .ok (.iconst 2, 1) := by decide +kernel
theorem dL_law_1167 : decode code 1167 = .ok (.iadd, 1) := by decide +kernel
theorem dL_law_1168 : decode code 1168 = .ok (.iaload, 1) := by decide +kernel
theorem dL_law_1169 : decode code 1169 = .ok (.aload_n 0, 1) := by decide +kernel
theorem dL_law_1170 : decode code 1170 = .ok (.iload_n 3, 1) := by decide +kernel
theorem dL_law_1171 : decode code 1171 = .ok (.iconst 3, 1) := by decide +kernel
theorem dL_law_1172 : decode code 1172 = .ok (.iadd, 1) := by decide +kernel
theorem dL_law_1173 : decode code 1173 = .ok (.iaload, 1) := by decide +kernel
theorem dL_law_1174 : decode code 1174 = .ok (.invokevirtual 132, 3) := by decide +kernel
theorem dL_law_1177 : decode code 1177 = .ok (.if_icmp .eq 331, 3) := by decide +kernel
theorem dL_law_1180 : decode code 1180 = .ok (.iconst 0, 1) := by decide +kernel
theorem dL_law_1181 : decode code 1181 = .ok (.ireturn, 1) := by decide +kernel
theorem dL_law_1182 : decode code 1182 = .ok (.aload_n 1, 1) := by decide +kernel
theorem dL_law_1183 : decode code 1183 = .ok (.aload_n 0, 1) := by decide +kernel
theorem dL_law_1184 : decode code 1184 = .ok (.iload_n 3, 1) := by decide +kernel
theorem dL_law_1185 : decode code 1185 = .ok (.iconst 1, 1) := by decide +kernel
theorem dL_law_1186 : decode code 1186 = .ok (.iadd, 1) := by decide +kernel
theorem dL_law_1187 : decode code 1187 = .ok (.iaload, 1) := by decide +kernel
theorem dL_law_1188 : decode code 1188 = .ok (.invokevirtual 133, 3) := by decide +kernel
theorem dL_law_1191 : decode code 1191 = .ok (.aload_n 2, 1) := by decide +kernel
theorem dL_law_1192 : decode code 1192 = .ok (.aload_n 0, 1) := by decide +kernel
theorem dL_law_1193 : decode code 1193 = .ok (.iload_n 3, 1) := by decide +kernel
theorem dL_law_1194 : decode code 1194 = .ok (.iconst 1, 1) := by decide +kernel
theorem dL_law_1195 : decode code 1195 = .ok (.iadd, 1) := by decide +kernel
theorem dL_law_1196 : decode code 1196 = .ok (.iaload, 1) := by decide +kernel
theorem dL_law_1197 : decode code 1197 = .ok (.invokevirtual 136, 3) := by decide +kernel
theorem dL_law_1200 : decode code 1200 = .ok (.if_icmp .eq 308, 3) := by decide +kernel
theorem dL_law_1203 : decode code 1203 = .ok (.iconst 0, 1) := by decide +kernel
theorem dL_law_1204 : decode code 1204 = .ok (.ireturn, 1) := by decide +kernel
theorem dL_law_1205 : decode code 1205 = .ok (.aload_n 1, 1) := by decide +kernel
theorem dL_law_1206 : decode code 1206 = .ok (.aload_n 0, 1) := by decide +kernel
theorem dL_law_1207 : decode code 1207 = .ok (.iload_n 3, 1) := by decide +kernel
theorem dL_law_1208 : decode code 1208 = .ok (.iconst 1, 1) := by decide +kernel
theorem dL_law_1209 : decode code 1209 = .ok (.iadd, 1) := by decide +kernel
theorem dL_law_1210 : decode code 1210 = .ok (.iaload, 1) := by decide +kernel
theorem dL_law_1211 : decode code 1211 = .ok (.aload_n 0, 1) := by decide +kernel
theorem dL_law_1212 : decode code 1212 = .ok (.iload_n 3, 1) := by decide +kernel
theorem dL_law_1213 : decode code 1213 = .ok (.iconst 2, 1) := by decide +kernel
theorem dL_law_1214 : decode code 1214 = .ok (.iadd, 1) := by decide +kernel
theorem dL_law_1215 : decode code 1215 = .ok (.iaload, 1) := by decide +kernel
theorem dL_law_1216 : decode code 1216 = .ok (.aload_n 0, 1) := by decide +kernel
theorem dL_law_1217 : decode code 1217 = .ok (.iload_n 3, 1) := by decide +kernel
theorem dL_law_1218 : decode code 1218 = .ok (.iconst 3, 1) := by decide +kernel
theorem dL_law_1219 : decode code 1219 = .ok (.iadd, 1) := by decide +kernel
theorem dL_law_1220 : decode code 1220 = .ok (.iaload, 1) := by decide +kernel
theorem dL_law_1221 : decode code 1221 = .ok (.invokevirtual 137, 3) := by decide +kernel
theorem dL_law_1224 : decode code 1224 = .ok (.aload_n 2, 1) := by decide +kernel
theorem dL_law_1225 : decode code 1225 = .ok (.aload_n 0, 1) := by decide +kernel
theorem dL_law_1226 : decode code 1226 = .ok (.iload_n 3, 1) := by decide +kernel
theorem dL_law_1227 : decode code 1227 = .ok (.iconst 1, 1) := by decide +kernel
theorem dL_law_1228 : decode code 1228 = .ok (.iadd, 1) := by decide +kernel
theorem dL_law_1229 : decode code 1229 = .ok (.iaload, 1) := by decide +kernel
theorem dL_law_1230 : decode code 1230 = .ok (.aload_n 0, 1) := by decide +kernel
theorem dL_law_1231 : decode code 1231 = .ok (.iload_n 3, 1) := by decide +kernel
theorem dL_law_1232 : decode code 1232 = .ok (.iconst 2, 1) := by decide +kernel
theorem dL_law_1233 : decode code 1233 = .ok (.iadd, 1) := by decide +kernel
theorem dL_law_1234 : decode code 1234 = .ok (.iaload, 1) := by decide +kernel
theorem dL_law_1235 : decode code 1235 = .ok (.aload_n 0, 1) := by decide +kernel
theorem dL_law_1236 : decode code 1236 = .ok (.iload_n 3, 1) := by decide +kernel
theorem dL_law_1237 : decode code 1237 = .ok (.iconst 3, 1) := by decide +kernel
theorem dL_law_1238 : decode code 1238 = .ok (.iadd, 1) := by decide +kernel
theorem dL_law_1239 : decode code 1239 = .ok (.iaload, 1) := by decide +kernel
theorem dL_law_1240 : decode code 1240 = .ok (.invokevirtual 140, 3) := by decide +kernel
theorem dL_law_1243 : decode code 1243 = .ok (.if_icmp .eq 265, 3) := by decide +kernel
theorem dL_law_1246 : decode code 1246 = .ok (.iconst 0, 1) := by decide +kernel
theorem dL_law_1247 : decode code 1247 = .ok (.ireturn, 1) := by decide +kernel
theorem dL_law_1248 : decode code 1248 = .ok (.aload_n 1, 1) := by decide +kernel
theorem dL_law_1249 : decode code 1249 = .ok (.aload_n 0, 1) := by decide +kernel
theorem dL_law_1250 : decode code 1250 = .ok (.iload_n 3, 1) := by decide +kernel
theorem dL_law_1251 : decode code 1251 = .ok (.iconst 1, 1) := by decide +kernel
theorem dL_law_1252 : decode code 1252 = .ok (.iadd, 1) := by decide +kernel
theorem dL_law_1253 : decode code 1253 = .ok (.iaload, 1) := by decide +kernel
theorem dL_law_1254 : decode code 1254 = .ok (.aload_n 0, 1) := by decide +kernel
theorem dL_law_1255 : decode code 1255 = .ok (.iload_n 3, 1) := by decide +kernel
theorem dL_law_1256 : decode code 1256 = .ok (.iconst 2, 1) := by decide +kernel
theorem dL_law_1257 : decode code 1257 = .ok (.iadd, 1) := by decide +kernel
theorem dL_law_1258 : decode code 1258 = .ok (.iaload, 1) := by decide +kernel
theorem dL_law_1259 : decode code 1259 = .ok (.aload_n 0, 1) := by decide +kernel
theorem dL_law_1260 : decode code 1260 = .ok (.iload_n 3, 1) := by decide +kernel
theorem dL_law_1261 : decode code 1261 = .ok (.iconst 3, 1) := by decide +kernel
theorem dL_law_1262 : decode code 1262 = .ok (.iadd, 1) := by decide +kernel
theorem dL_law_1263 : decode code 1263 = .ok (.iaload, 1) := by decide +kernel
theorem dL_law_1264 : decode code 1264 = .ok (.invokevirtual 141, 3) := by decide +kernel
theorem dL_law_1267 : decode code 1267 = .ok (.aload_n 2, 1) := by decide +kernel
theorem dL_law_1268 : decode code 1268 = .ok (.aload_n 0, 1) := by decide +kernel
theorem dL_law_1269 : decode code 1269 = .ok (.iload_n 3, 1) := by decide +kernel
theorem dL_law_1270 : decode code 1270 = .ok (.iconst 1, 1) := by decide +kernel
theorem dL_law_1271 : decode code 1271 = .ok (.iadd, 1) := by decide +kernel
theorem dL_law_1272 : decode code 1272 = .ok (.iaload, 1) := by decide +kernel
theorem dL_law_1273 : decode code 1273 = .ok (.aload_n 0, 1) := by decide +kernel
theorem dL_law_1274 : decode code 1274 = .ok (.iload_n 3, 1) := by decide +kernel
theorem dL_law_1275 : decode code 1275 = .ok (.iconst 2, 1) := by decide +kernel
theorem dL_law_1276 : decode code 1276 = .ok (.iadd, 1) := by decide +kernel
theorem dL_law_1277 : decode code 1277 = .ok (.iaload, 1) := by decide +kernel
theorem dL_law_1278 : decode code 1278 = .ok (.aload_n 0, 1) := by decide +kernel
theorem dL_law_1279 : decode code 1279 = .ok (.iload_n 3, 1) := by decide +kernel
theorem dL_law_1280 : decode code 1280 = .ok (.iconst 3, 1) := by decide +kernel
theorem dL_law_1281 : decode code 1281 = .ok (.iadd, 1) := by decide +kernel
theorem dL_law_1282 : decode code 1282 = .ok (.iaload, 1) := by decide +kernel
theorem dL_law_1283 : decode code 1283 = .ok (.invokevirtual 144, 3) := by decide +kernel
theorem dL_law_1286 : decode code 1286 = .ok (.if_icmp .eq 222, 3) := by decide +kernel
theorem dL_law_1289 : decode code 1289 = .ok (.iconst 0, 1) := by decide +kernel
theorem dL_law_1290 : decode code 1290 = .ok (.ireturn, 1) := by decide +kernel
theorem dL_law_1291 : decode code 1291 = .ok (.aload_n 1, 1) := by decide +kernel
theorem dL_law_1292 : decode code 1292 = .ok (.aload_n 0, 1) := by decide +kernel
theorem dL_law_1293 : decode code 1293 = .ok (.iload_n 3, 1) := by decide +kernel
theorem dL_law_1294 : decode code 1294 = .ok (.iconst 1, 1) := by decide +kernel
theorem dL_law_1295 : decode code 1295 = .ok (.iadd, 1) := by decide +kernel
theorem dL_law_1296 : decode code 1296 = .ok (.iaload, 1) := by decide +kernel
theorem dL_law_1297 : decode code 1297 = .ok (.aload_n 0, 1) := by decide +kernel
theorem dL_law_1298 : decode code 1298 = .ok (.iload_n 3, 1) := by decide +kernel
theorem dL_law_1299 : decode code 1299 = .ok (.iconst 2, 1) := by decide +kernel
theorem dL_law_1300 : decode code 1300 = .ok (.iadd, 1) := by decide +kernel
theorem dL_law_1301 : decode code 1301 = .ok (.iaload, 1) := by decide +kernel
theorem dL_law_1302 : decode code 1302 = .ok (.aload_n 0, 1) := by decide +kernel
theorem dL_law_1303 : decode code 1303 = .ok (.iload_n 3, 1) := by decide +kernel
theorem dL_law_1304 : decode code 1304 = .ok (.iconst 3, 1) := by decide +kernel
theorem dL_law_1305 : decode code 1305 = .ok (.iadd, 1) := by decide +kernel
theorem dL_law_1306 : decode code 1306 = .ok (.iaload, 1) := by decide +kernel
theorem dL_law_1307 : decode code 1307 = .ok (.aload_n 0, 1) := by decide +kernel
theorem dL_law_1308 : decode code 1308 = .ok (.iload_n 3, 1) := by decide +kernel
theorem dL_law_1309 : decode code 1309 = .ok (.iconst 4, 1) := by decide +kernel
theorem dL_law_1310 : decode code 1310 = .ok (.iadd, 1) := by decide +kernel
theorem dL_law_1311 : decode code 1311 = .ok (.iaload, 1) := by decide +kernel
theorem dL_law_1312 : decode code 1312 = .ok (.aload_n 0, 1) := by decide +kernel
theorem dL_law_1313 : decode code 1313 = .ok (.iload_n 3, 1) := by decide +kernel
theorem dL_law_1314 : decode code 1314 = .ok (.iconst 5, 1) := by decide +kernel
theorem dL_law_1315 : decode code 1315 = .ok (.iadd, 1) := by decide +kernel
theorem dL_law_1316 : decode code 1316 = .ok (.iaload, 1) := by decide +kernel
theorem dL_law_1317 : decode code 1317 = .ok (.invokevirtual 145, 3) := by decide +kernel
theorem dL_law_1320 : decode code 1320 = .ok (.aload_n 2, 1) := by decide +kernel
theorem dL_law_1321 : decode code 1321 = .ok (.aload_n 0, 1) := by decide +kernel
theorem dL_law_1322 : decode code 1322 = .ok (.iload_n 3, 1) := by decide +kernel
theorem dL_law_1323 : decode code 1323 = .ok (.iconst 1, 1) := by decide +kernel
theorem dL_law_1324 : decode code 1324 = .ok (.iadd, 1) := by decide +kernel
theorem dL_law_1325 : decode code 1325 = .ok (.iaload, 1) := by decide +kernel
theorem dL_law_1326 : decode code 1326 = .ok (.aload_n 0, 1) := by decide +kernel
theorem dL_law_1327 : decode code 1327 = .ok (.iload_n 3, 1) := by decide +kernel
theorem dL_law_1328 : decode code 1328 = .ok (.iconst 2, 1) := by decide +kernel
theorem dL_law_1329 : decode code 1329 = .ok (.iadd, 1) := by decide +kernel
theorem dL_law_1330 : decode code 1330 = .ok (.iaload, 1) := by decide +kernel
theorem dL_law_1331 : decode code 1331 = .ok (.aload_n 0, 1) := by decide +kernel
theorem dL_law_1332 : decode code 1332 = .ok (.iload_n 3, 1) := by decide +kernel
theorem dL_law_1333 : decode code 1333 = .ok (.iconst 3, 1) := by decide +kernel
theorem dL_law_1334 : decode code 1334 = .ok (.iadd, 1) := by decide +kernel
theorem dL_law_1335 : decode code 1335 = .ok (.iaload, 1) := by decide +kernel
theorem dL_law_1336 : decode code 1336 = .ok (.aload_n 0, 1) := by decide +kernel
theorem dL_law_1337 : decode code 1337 = .ok (.iload_n 3, 1) := by decide +kernel
theorem dL_law_1338 : decode code 1338 = .ok (.iconst 4, 1) := by decide +kernel
theorem dL_law_1339 : decode code 1339 = .ok (.iadd, 1) := by decide +kernel
theorem dL_law_1340 : decode code 1340 = .ok (.iaload, 1) := by decide +kernel
theorem dL_law_1341 : decode code 1341 = .ok (.aload_n 0, 1) := by decide +kernel
theorem dL_law_1342 : decode code 1342 = .ok (.iload_n 3, 1) := by decide +kernel
theorem dL_law_1343 : decode code 1343 = .ok (.iconst 5, 1) := by decide +kernel
theorem dL_law_1344 : decode code 1344 = .ok (.iadd, 1) := by decide +kernel
theorem dL_law_1345 : decode code 1345 = .ok (.iaload, 1) := by decide +kernel
theorem dL_law_1346 : decode code 1346 = .ok (.invokevirtual 149, 3) := by decide +kernel
theorem dL_law_1349 : decode code 1349 = .ok (.if_icmp .eq 159, 3) := by decide +kernel
theorem dL_law_1352 : decode code 1352 = .ok (.iconst 0, 1) := by decide +kernel
theorem dL_law_1353 : decode code 1353 = .ok (.ireturn, 1) := by decide +kernel
theorem dL_law_1354 : decode code 1354 = .ok (.aload_n 1, 1) := by decide +kernel
theorem dL_law_1355 : decode code 1355 = .ok (.aload_n 0, 1) := by decide +kernel
theorem dL_law_1356 : decode code 1356 = .ok (.iload_n 3, 1) := by decide +kernel
theorem dL_law_1357 : decode code 1357 = .ok (.iconst 1, 1) := by decide +kernel
theorem dL_law_1358 : decode code 1358 = .ok (.iadd, 1) := by decide +kernel
theorem dL_law_1359 : decode code 1359 = .ok (.iaload, 1) := by decide +kernel
theorem dL_law_1360 : decode code 1360 = .ok (.invokevirtual 150, 3) := by decide +kernel
theorem dL_law_1363 : decode code 1363 = .ok (.aload_n 2, 1) := by decide +kernel
theorem dL_law_1364 : decode code 1364 = .ok (.aload_n 0, 1) := by decide +kernel
theorem dL_law_1365 : decode code 1365 = .ok (.iload_n 3, 1) := by decide +kernel
theorem dL_law_1366 : decode code 1366 = .ok (.iconst 1, 1) := by decide +kernel
theorem dL_law_1367 : decode code 1367 = .ok (.iadd, 1) := by decide +kernel
theorem dL_law_1368 : decode code 1368 = .ok (.iaload, 1) := by decide +kernel
theorem dL_law_1369 : decode code 1369 = .ok (.invokevirtual 153, 3) := by decide +kernel
theorem dL_law_1372 : decode code 1372 = .ok (.if_icmp .eq 136, 3) := by decide +kernel
theorem dL_law_1375 : decode code 1375 = .ok (.iconst 0, 1) := by decide +kernel
theorem dL_law_1376 : decode code 1376 = .ok (.ireturn, 1) := by decide +kernel
theorem dL_law_1377 : decode code 1377 = .ok (.aload_n 1, 1) := by decide +kernel
theorem dL_law_1378 : decode code 1378 = .ok (.aload_n 0, 1) := by decide +kernel
theorem dL_law_1379 : decode code 1379 = .ok (.iload_n 3, 1) := by decide +kernel
theorem dL_law_1380 : decode code 1380 = .ok (.iconst 1, 1) := by decide +kernel
theorem dL_law_1381 : decode code 1381 = .ok (.iadd, 1) := by decide +kernel
theorem dL_law_1382 : decode code 1382 = .ok (.iaload, 1) := by decide +kernel
theorem dL_law_1383 : decode code 1383 = .ok (.invokevirtual 154, 3) := by decide +kernel
theorem dL_law_1386 : decode code 1386 = .ok (.aload_n 2, 1) := by decide +kernel
theorem dL_law_1387 : decode code 1387 = .ok (.aload_n 0, 1) := by decide +kernel
theorem dL_law_1388 : decode code 1388 = .ok (.iload_n 3, 1) := by decide +kernel
theorem dL_law_1389 : decode code 1389 = .ok (.iconst 1, 1) := by decide +kernel
theorem dL_law_1390 : decode code 1390 = .ok (.iadd, 1) := by decide +kernel
theorem dL_law_1391 : decode code 1391 = .ok (.iaload, 1) := by decide +kernel
theorem dL_law_1392 : decode code 1392 = .ok (.invokevirtual 157, 3) := by decide +kernel
theorem dL_law_1395 : decode code 1395 = .ok (.if_icmp .eq 113, 3) := by decide +kernel
theorem dL_law_1398 : decode code 1398 = .ok (.iconst 0, 1) := by decide +kernel
theorem dL_law_1399 : decode code 1399 = .ok (.ireturn, 1) := by decide +kernel
theorem dL_law_1400 : decode code 1400 = .ok (.aload_n 1, 1) := by decide +kernel
theorem dL_law_1401 : decode code 1401 = .ok (.invokevirtual 158, 3) := by decide +kernel
theorem dL_law_1404 : decode code 1404 = .ok (.aload_n 2, 1) := by decide +kernel
theorem dL_law_1405 : decode code 1405 = .ok (.invokevirtual 161, 3) := by decide +kernel
theorem dL_law_1408 : decode code 1408 = .ok (.if_icmp .eq 100, 3) := by decide +kernel
theorem dL_law_1411 : decode code 1411 = .ok (.iconst 0, 1) := by decide +kernel
theorem dL_law_1412 : decode code 1412 = .ok (.ireturn, 1) := by decide +kernel
theorem dL_law_1413 : decode code 1413 = .ok (.aload_n 1, 1) := by decide +kernel
theorem dL_law_1414 : decode code 1414 = .ok (.invokevirtual 162, 3) := by decide +kernel
theorem dL_law_1417 : decode code 1417 = .ok (.aload_n 2, 1) := by decide +kernel
theorem dL_law_1418 : decode code 1418 = .ok (.invokevirtual 165, 3) := by decide +kernel
theorem dL_law_1421 : decode code 1421 = .ok (.if_icmp .eq 87, 3) := by decide +kernel
theorem dL_law_1424 : decode code 1424 = .ok (.iconst 0, 1) := by decide +kernel
theorem dL_law_1425 : decode code 1425 = .ok (.ireturn, 1) := by decide +kernel
theorem dL_law_1426 : decode code 1426 = .ok (.aload_n 1, 1) := by decide +kernel
theorem dL_law_1427 : decode code 1427 = .ok (.aload_n 0, 1) := by decide +kernel
theorem dL_law_1428 : decode code 1428 = .ok (.iload_n 3, 1) := by decide +kernel
theorem dL_law_1429 : decode code 1429 = .ok (.iconst 1, 1) := by decide +kernel
theorem dL_law_1430 : decode code 1430 = .ok (.iadd, 1) := by decide +kernel
theorem dL_law_1431 : decode code 1431 = .ok (.iaload, 1) := by decide +kernel
theorem dL_law_1432 : decode code 1432 = .ok (.invokevirtual 166, 3) := by decide +kernel
theorem dL_law_1435 : decode code 1435 = .ok (.aload_n 2, 1) := by decide +kernel
theorem dL_law_1436 : decode code 1436 = .ok (.aload_n 0, 1) := by decide +kernel
theorem dL_law_1437 : decode code 1437 = .ok (.iload_n 3, 1) := by decide +kernel
theorem dL_law_1438 : decode code 1438 = .ok (.iconst 1, 1) := by decide +kernel
theorem dL_law_1439 : decode code 1439 = .ok (.iadd, 1) := by decide +kernel
theorem dL_law_1440 : decode code 1440 = .ok (.iaload, 1) := by decide +kernel
theorem dL_law_1441 : decode code 1441 = .ok (.invokevirtual 169, 3) := by decide +kernel
theorem dL_law_1444 : decode code 1444 = .ok (.if_icmp .eq 64, 3) := by decide +kernel
theorem dL_law_1447 : decode code 1447 = .ok (.iconst 0, 1) := by decide +kernel
theorem dL_law_1448 : decode code 1448 = .ok (.ireturn, 1) := by decide +kernel
theorem dL_law_1449 : decode code 1449 = .ok (.aload_n 1, 1) := by decide +kernel
theorem dL_law_1450 : decode code 1450 = .ok (.invokevirtual 170, 3) := by decide +kernel
theorem dL_law_1453 : decode code 1453 = .ok (.aload_n 2, 1) := by decide +kernel
theorem dL_law_1454 : decode code 1454 = .ok (.invokevirtual 173, 3) := by decide +kernel
theorem dL_law_1457 : decode code 1457 = .ok (.if_icmp .eq 51, 3) := by decide +kernel
theorem dL_law_1460 : decode code 1460 = .ok (.iconst 0, 1) := by decide +kernel
theorem dL_law_1461 : decode code 1461 = .ok (.ireturn, 1) := by decide +kernel
theorem dL_law_1462 : decode code 1462 = .ok (.aload_n 1, 1) := by decide +kernel
theorem dL_law_1463 : decode code 1463 = .ok (.aload_n 0, 1) := by decide +kernel
theorem dL_law_1464 : decode code 1464 = .ok (.iload_n 3, 1) := by decide +kernel
theorem dL_law_1465 : decode code 1465 = .ok (.iconst 1, 1) := by decide +kernel
theorem dL_law_1466 : decode code 1466 = .ok (.iadd, 1) := by decide +kernel
theorem dL_law_1467 : decode code 1467 = .ok (.iaload, 1) := by decide +kernel
theorem dL_law_1468 : decode code 1468 = .ok (.invokevirtual 174, 3) := by decide +kernel
theorem dL_law_1471 : decode code 1471 = .ok (.aload_n 2, 1) := by decide +kernel
theorem dL_law_1472 : decode code 1472 = .ok (.aload_n 0, 1) := by decide +kernel
theorem dL_law_1473 : decode code 1473 = .ok (.iload_n 3, 1) := by decide +kernel
theorem dL_law_1474 : decode code 1474 = .ok (.iconst 1, 1) := by decide +kernel
theorem dL_law_1475 : decode code 1475 = .ok (.iadd, 1) := by decide +kernel
theorem dL_law_1476 : decode code 1476 = .ok (.iaload, 1) := by decide +kernel
theorem dL_law_1477 : decode code 1477 = .ok (.invokevirtual 177, 3) := by decide +kernel
theorem dL_law_1480 : decode code 1480 = .ok (.if_icmp .eq 28, 3) := by decide +kernel
theorem dL_law_1483 : decode code 1483 = .ok (.iconst 0, 1) := by decide +kernel
theorem dL_law_1484 : decode code 1484 = .ok (.ireturn, 1) := by decide +kernel
theorem dL_law_1485 : decode code 1485 = .ok (.aload_n 1, 1) := by decide +kernel
theorem dL_law_1486 : decode code 1486 = .ok (.aload_n 0, 1) := by decide +kernel
theorem dL_law_1487 : decode code 1487 = .ok (.iload_n 3, 1) := by decide +kernel
theorem dL_law_1488 : decode code 1488 = .ok (.iconst 1, 1) := by decide +kernel
theorem dL_law_1489 : decode code 1489 = .ok (.iadd, 1) := by decide +kernel
theorem dL_law_1490 : decode code 1490 = .ok (.iaload, 1) := by decide +kernel
theorem dL_law_1491 : decode code 1491 = .ok (.invokevirtual 178, 3) := by decide +kernel
theorem dL_law_1494 : decode code 1494 = .ok (.aload_n 2, 1) := by decide +kernel
theorem dL_law_1495 : decode code 1495 = .ok (.aload_n 0, 1) := by decide +kernel
theorem dL_law_1496 : decode code 1496 = .ok (.iload_n 3, 1) := by decide +kernel
theorem dL_law_1497 : decode code 1497 = .ok (.iconst 1, 1) := by decide +kernel
theorem dL_law_1498 : decode code 1498 = .ok (.iadd, 1) := by decide +kernel
theorem dL_law_1499 : decode code 1499 = .ok (.iaload, 1) := by decide +kernel
theorem dL_law_1500 : decode code 1500 = .ok (.invokevirtual 181, 3) := by decide +kernel
theorem dL_law_1503 : decode code 1503 = .ok (.if_icmp .eq 5, 3) := by decide +kernel
theorem dL_law_1506 : decode code 1506 = .ok (.iconst 0, 1) := by decide +kernel
theorem dL_law_1507 : decode code 1507 = .ok (.ireturn, 1) := by decide +kernel
theorem dL_law_1508 : decode code 1508 = .ok (.iinc 3 6, 3) := by decide +kernel
theorem dL_law_1511 : decode code 1511 = .ok (.goto (-1493), 3) := by decide +kernel
theorem dL_law_1514 : decode code 1514 = .ok (.iconst 1, 1) := by decide +kernel
theorem dL_law_1515 : decode code 1515 = .ok (.ireturn, 1) := by decide +kernel
