theorem dl_912 : decode code 912 = .ok (.iload 5, 2) := by decide +kernel
theorem dl_914 : decode code 914 = .ok (.if_icmp .eq 5, 3) := by decide +kernel
theorem dl_917 : decode code 917 = .ok (.iconst 0, 1) := by decide +kernel
theorem dl_918 : decode code 918 = .ok (.ireturn, 1) := by decide +kernel
theorem dl_919 : decode code 919 = .ok (.iload 5, 2) := by decide +kernel
theorem dl_921 : decode code 921 = .ok (.ifCond .ne 15, 3) := by decide +kernel
theorem dl_924 : decode code 924 = .ok (.aload_n 3, 1) := by decide +kernel
theorem dl_925 : decode code 925 = .ok (.iconst 0, 1) := by decide +kernel
theorem dl_926 : decode code 926 = .ok (.laload, 1) := by decide +kernel
theorem dl_927 : decode code 927 = .ok (.iload 6, 2) := by decide +kernel
theorem dl_929 : decode code 929 = .ok (.i2l, 1) := by decide +kernel
theorem dl_930 : decode code 930 = .ok (.lcmp, 1) := by decide +kernel
theorem dl_931 : decode code 931 = .ok (.ifCond .eq 5, 3) := by decide +kernel
theorem dl_934 : decode code 934 = .ok (.iconst 0, 1) := by decide +kernel
theorem dl_935 : decode code 935 = .ok (.ireturn, 1) := by decide +kernel
theorem dl_936 : decode code 936 = .ok (.goto 1763, 3) := by decide +kernel
theorem dl_939 : decode code 939 = .ok (.aload_n 1, 1) := by decide +kernel
theorem dl_940 : decode code 940 = .ok (.aload_n 0, 1) := by decide +kernel
theorem dl_941 : decode code 941 = .ok (.iload 4, 2) := by decide +kernel
theorem dl_943 : decode code 943 = .ok (.iconst 1, 1) := by decide +kernel
theorem dl_944 : decode code 944 = .ok (.iadd, 1) := by decide +kernel
theorem dl_945 : decode code 945 = .ok (.iaload, 1) := by decide +kernel
theorem dl_946 : decode code 946 = .ok (.aload_n 3, 1) := by decide +kernel
theorem dl_947 : decode code 947 = .ok (.invokestatic 165, 3) := by decide +kernel
theorem dl_950 : decode code 950 = .ok (.istore 5, 2) := by decide +kernel
theorem dl_952 : decode code 952 = .ok (.aload_n 2, 1) := by decide +kernel
theorem dl_953 : decode code 953 = .ok (.aload_n 0, 1) := by decide +kernel
theorem dl_954 : decode code 954 = .ok (.iload 4, 2) := by decide +kernel
theorem dl_956 : decode code 956 = .ok (.iconst 1, 1) := by decide +kernel
theorem dl_957 : decode code 957 = .ok (.iadd, 1) := by decide +kernel
theorem dl_958 : decode code 958 = .ok (.iaload, 1) := by decide +kernel
theorem dl_959 : decode code 959 = .ok (.invokevirtual 167, 3) := by decide +kernel
theorem dl_962 : decode code 962 = .ok (.istore 6, 2) := by decide +kernel
theorem dl_964 : decode code 964 = .ok (.aload_n 2, 1) := by decide +kernel
theorem dl_965 : decode code 965 = .ok (.invokevirtual 131, 3) := by decide +kernel
theorem dl_968 : decode code 968 = .ok (.iload 5, 2) := by decide +kernel
theorem dl_970 : decode code 970 = .ok (.if_icmp .eq 5, 3) := by decide +kernel
theorem dl_973 : decode code 973 = .ok (.iconst 0, 1) := by decide +kernel
theorem dl_974 : decode code 974 = .ok (.ireturn, 1) := by decide +kernel
theorem dl_975 : decode code 975 = .ok (.iload 5, 2) := by decide +kernel
theorem dl_977 : decode code 977 = .ok (.ifCond .ne 15, 3) := by decide +kernel
theorem dl_980 : decode code 980 = .ok (.aload_n 3, 1) := by decide +kernel
theorem dl_981 : decode code 981 = .ok (.iconst 0, 1) := by decide +kernel
theorem dl_982 : decode code 982 = .ok (.laload, 1) := by decide +kernel
theorem dl_983 : decode code 983 = .ok (.iload 6, 2) := by decide +kernel
theorem dl_985 : decode code 985 = .ok (.i2l, 1) := by decide +kernel
theorem dl_986 : decode code 986 = .ok (.lcmp, 1) := by decide +kernel
theorem dl_987 : decode code 987 = .ok (.ifCond .eq 5, 3) := by decide +kernel
theorem dl_990 : decode code 990 = .ok (.iconst 0, 1) := by decide +kernel
theorem dl_991 : decode code 991 = .ok (.ireturn, 1) := by decide +kernel
theorem dl_992 : decode code 992 = .ok (.goto 1707, 3) := by decide +kernel
theorem dl_995 : decode code 995 = .ok (.aload_n 1, 1) := by decide +kernel
theorem dl_996 : decode code 996 = .ok (.invokevirtual 168, 3) := by decide +kernel
theorem dl_999 : decode code 999 = .ok (.aload_n 2, 1) := by decide +kernel
theorem dl_1000 : decode code 1000 = .ok (.invokevirtual 171, 3) := by decide +kernel
theorem dl_1003 : decode code 1003 = .ok (.if_icmp .eq 1696, 3) := by decide +kernel
theorem dl_1006 : decode code 1006 = .ok (.iconst 0, 1) := by decide +kernel
theorem dl_1007 : decode code 1007 = .ok (.ireturn, 1) := by decide +kernel
theorem dl_1008 : decode code 1008 = .ok (.aload_n 1, 1) := by decide +kernel
theorem dl_1009 : decode code 1009 = .ok (.invokevirtual 172, 3) := by decide +kernel
theorem dl_1012 : decode code 1012 = .ok (.aload_n 2, 1) := by decide +kernel
theorem dl_1013 : decode code 1013 = .ok (.invokevirtual 175, 3) := by decide +kernel
theorem dl_1016 : decode code 1016 = .ok (.if_icmp .eq 1683, 3) := by decide +kernel
theorem dl_1019 : decode code 1019 = .ok (.iconst 0, 1) := by decide +kernel
theorem dl_1020 : decode code 1020 = .ok (.ireturn, 1) := by decide +kernel
theorem dl_1021 : decode code 1021 = .ok (.aload_n 1, 1) := by decide +kernel
theorem dl_1022 : decode code 1022 = .ok (.invokevirtual 176, 3) := by decide +kernel
theorem dl_1025 : decode code 1025 = .ok (.aload_n 2, 1) := by decide +kernel
theorem dl_1026 : decode code 1026 = .ok (.invokevirtual 179, 3) := by decide +kernel
theorem dl_1029 : decode code 1029 = .ok (.if_icmp .eq 1670, 3) := by decide +kernel
theorem dl_1032 : decode code 1032 = .ok (.iconst 0, 1) := by decide +kernel
theorem dl_1033 : decode code 1033 = .ok (.ireturn, 1) := by decide +kernel
theorem dl_1034 : decode code 1034 = .ok (.aload_n 1, 1) := by decide +kernel
theorem dl_1035 : decode code 1035 = .ok (.invokevirtual 180, 3) := by decide +kernel
theorem dl_1038 : decode code 1038 = .ok (.aload_n 2, 1) := by decide +kernel
theorem dl_1039 : decode code 1039 = .ok (.invokevirtual 183, 3) := by decide +kernel
theorem dl_1042 : decode code 1042 = .ok (.if_icmp .eq 1657, 3) := by decide +kernel
theorem dl_1045 : decode code 1045 = .ok (.iconst 0, 1) := by decide +kernel
theorem dl_1046 : decode code 1046 = .ok (.ireturn, 1) := by decide +kernel
theorem dl_1047 : decode code 1047 = .ok (.aload_n 1, 1) := by decide +kernel
theorem dl_1048 : decode code 1048 = .ok (.aload_n 3, 1) := by decide +kernel
theorem dl_1049 : decode code 1049 = .ok (.invokestatic 184, 3) := by decide +kernel
theorem dl_1052 : decode code 1052 = .ok (.istore 5, 2) := by decide +kernel
theorem dl_1054 : decode code 1054 = .ok (.aload_n 2, 1) := by decide +kernel
theorem dl_1055 : decode code 1055 = .ok (.invokevirtual 187, 3) := by decide +kernel
theorem dl_1058 : decode code 1058 = .ok (.istore 6, 2) := by decide +kernel
theorem dl_1060 : decode code 1060 = .ok (.aload_n 2, 1) := by decide +kernel
theorem dl_1061 : decode code 1061 = .ok (.invokevirtual 131, 3) := by decide +kernel
theorem dl_1064 : decode code 1064 = .ok (.iload 5, 2) := by decide +kernel
theorem dl_1066 : decode code 1066 = .ok (.if_icmp .eq 5, 3) := by decide +kernel
theorem dl_1069 : decode code 1069 = .ok (.iconst 0, 1) := by decide +kernel
theorem dl_1070 : decode code 1070 = .ok (.ireturn, 1) := by decide +kernel
theorem dl_1071 : decode code 1071 = .ok (.iload 5, 2) := by decide +kernel
theorem dl_1073 : decode code 1073 = .ok (.ifCond .ne 15, 3) := by decide +kernel
theorem dl_1076 : decode code 1076 = .ok (.aload_n 3, 1) := by decide +kernel
theorem dl_1077 : decode code 1077 = .ok (.iconst 0, 1) := by decide +kernel
theorem dl_1078 : decode code 1078 = .ok (.laload, 1) := by decide +kernel
theorem dl_1079 : decode code 1079 = .ok (.iload 6, 2) := by decide +kernel
theorem dl_1081 : decode code 1081 = .ok (.i2l, 1) := by decide +kernel
theorem dl_1082 : decode code 1082 = .ok (.lcmp, 1) := by decide +kernel
theorem dl_1083 : decode code 1083 = .ok (.ifCond .eq 5, 3) := by decide +kernel
theorem dl_1086 : decode code 1086 = .ok (.iconst 0, 1) := by decide +kernel
theorem dl_1087 : decode code 1087 = .ok (.ireturn, 1) := by decide +kernel
theorem dl_1088 : decode code 1088 = .ok (.goto 1611, 3) := by decide +kernel
theorem dl_1091 : decode code 1091 = .ok (.aload_n 1, 1) := by decide +kernel
theorem dl_1092 : decode code 1092 = .ok (.invokevirtual 188, 3) := by decide +kernel
theorem dl_1095 : decode code 1095 = .ok (.aload_n 2, 1) := by decide +kernel
theorem dl_1096 : decode code 1096 = .ok (.invokevirtual 191, 3) := by decide +kernel
theorem dl_1099 : decode code 1099 = .ok (.if_icmp .eq 1600, 3) := by decide +kernel
theorem dl_1102 : decode code 1102 = .ok (.iconst 0, 1) := by decide +kernel
