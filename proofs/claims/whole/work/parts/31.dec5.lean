theorem d_Mo_begins_0 : decode b_Mo_begins 0 = .ok (.iload_n 0, 1) := by decide +kernel
theorem d_Mo_begins_1 : decode b_Mo_begins 1 = .ok (.bipush 65, 2) := by decide +kernel
theorem d_Mo_begins_3 : decode b_Mo_begins 3 = .ok (.if_icmp .lt 9, 3) := by decide +kernel
theorem d_Mo_begins_6 : decode b_Mo_begins 6 = .ok (.iload_n 0, 1) := by decide +kernel
theorem d_Mo_begins_7 : decode b_Mo_begins 7 = .ok (.bipush 90, 2) := by decide +kernel
theorem d_Mo_begins_9 : decode b_Mo_begins 9 = .ok (.if_icmp .le 27, 3) := by decide +kernel
theorem d_Mo_begins_12 : decode b_Mo_begins 12 = .ok (.iload_n 0, 1) := by decide +kernel
theorem d_Mo_begins_13 : decode b_Mo_begins 13 = .ok (.bipush 97, 2) := by decide +kernel
theorem d_Mo_begins_15 : decode b_Mo_begins 15 = .ok (.if_icmp .lt 9, 3) := by decide +kernel
theorem d_Mo_begins_18 : decode b_Mo_begins 18 = .ok (.iload_n 0, 1) := by decide +kernel
theorem d_Mo_begins_19 : decode b_Mo_begins 19 = .ok (.bipush 122, 2) := by decide +kernel
theorem d_Mo_begins_21 : decode b_Mo_begins 21 = .ok (.if_icmp .le 15, 3) := by decide +kernel
theorem d_Mo_begins_24 : decode b_Mo_begins 24 = .ok (.iload_n 0, 1) := by decide +kernel
theorem d_Mo_begins_25 : decode b_Mo_begins 25 = .ok (.bipush 36, 2) := by decide +kernel
theorem d_Mo_begins_27 : decode b_Mo_begins 27 = .ok (.if_icmp .eq 9, 3) := by decide +kernel
theorem d_Mo_begins_30 : decode b_Mo_begins 30 = .ok (.iload_n 0, 1) := by decide +kernel
theorem d_Mo_begins_31 : decode b_Mo_begins 31 = .ok (.bipush 95, 2) := by decide +kernel
theorem d_Mo_begins_33 : decode b_Mo_begins 33 = .ok (.if_icmp .ne 7, 3) := by decide +kernel
theorem d_Mo_begins_36 : decode b_Mo_begins 36 = .ok (.iconst 1, 1) := by decide +kernel
theorem d_Mo_begins_37 : decode b_Mo_begins 37 = .ok (.goto 4, 3) := by decide +kernel
theorem d_Mo_begins_40 : decode b_Mo_begins 40 = .ok (.iconst 0, 1) := by decide +kernel
theorem d_Mo_begins_41 : decode b_Mo_begins 41 = .ok (.ireturn, 1) := by decide +kernel
theorem d_Mo_init2_0 : decode b_Mo_init2 0 = .ok (.aload_n 0, 1) := by decide +kernel
theorem d_Mo_init2_1 : decode b_Mo_init2 1 = .ok (.getfield 95, 3) := by decide +kernel
theorem d_Mo_init2_4 : decode b_Mo_init2 4 = .ok (.bipush 6, 2) := by decide +kernel
theorem d_Mo_init2_6 : decode b_Mo_init2 6 = .ok (.if_icmp .ne 73, 3) := by decide +kernel
theorem d_Mo_init2_9 : decode b_Mo_init2 9 = .ok (.aload_n 0, 1) := by decide +kernel
theorem d_Mo_init2_10 : decode b_Mo_init2 10 = .ok (.getfield 43, 3) := by decide +kernel
theorem d_Mo_init2_13 : decode b_Mo_init2 13 = .ok (.iconst 0, 1) := by decide +kernel
theorem d_Mo_init2_14 : decode b_Mo_init2 14 = .ok (.iaload, 1) := by decide +kernel
theorem d_Mo_init2_15 : decode b_Mo_init2 15 = .ok (.bipush 60, 2) := by decide +kernel
theorem d_Mo_init2_17 : decode b_Mo_init2 17 = .ok (.if_icmp .ne 62, 3) := by decide +kernel
theorem d_Mo_init2_20 : decode b_Mo_init2 20 = .ok (.aload_n 0, 1) := by decide +kernel
theorem d_Mo_init2_21 : decode b_Mo_init2 21 = .ok (.getfield 43, 3) := by decide +kernel
theorem d_Mo_init2_24 : decode b_Mo_init2 24 = .ok (.iconst 1, 1) := by decide +kernel
theorem d_Mo_init2_25 : decode b_Mo_init2 25 = .ok (.iaload, 1) := by decide +kernel
theorem d_Mo_init2_26 : decode b_Mo_init2 26 = .ok (.bipush 105, 2) := by decide +kernel
theorem d_Mo_init2_28 : decode b_Mo_init2 28 = .ok (.if_icmp .ne 51, 3) := by decide +kernel
theorem d_Mo_init2_31 : decode b_Mo_init2 31 = .ok (.aload_n 0, 1) := by decide +kernel
theorem d_Mo_init2_32 : decode b_Mo_init2 32 = .ok (.getfield 43, 3) := by decide +kernel
theorem d_Mo_init2_35 : decode b_Mo_init2 35 = .ok (.iconst 2, 1) := by decide +kernel
theorem d_Mo_init2_36 : decode b_Mo_init2 36 = .ok (.iaload, 1) := by decide +kernel
theorem d_Mo_init2_37 : decode b_Mo_init2 37 = .ok (.bipush 110, 2) := by decide +kernel
theorem d_Mo_init2_39 : decode b_Mo_init2 39 = .ok (.if_icmp .ne 40, 3) := by decide +kernel
theorem d_Mo_init2_42 : decode b_Mo_init2 42 = .ok (.aload_n 0, 1) := by decide +kernel
theorem d_Mo_init2_43 : decode b_Mo_init2 43 = .ok (.getfield 43, 3) := by decide +kernel
theorem d_Mo_init2_46 : decode b_Mo_init2 46 = .ok (.iconst 3, 1) := by decide +kernel
theorem d_Mo_init2_47 : decode b_Mo_init2 47 = .ok (.iaload, 1) := by decide +kernel
theorem d_Mo_init2_48 : decode b_Mo_init2 48 = .ok (.bipush 105, 2) := by decide +kernel
theorem d_Mo_init2_50 : decode b_Mo_init2 50 = .ok (.if_icmp .ne 29, 3) := by decide +kernel
theorem d_Mo_init2_53 : decode b_Mo_init2 53 = .ok (.aload_n 0, 1) := by decide +kernel
theorem d_Mo_init2_54 : decode b_Mo_init2 54 = .ok (.getfield 43, 3) := by decide +kernel
theorem d_Mo_init2_57 : decode b_Mo_init2 57 = .ok (.iconst 4, 1) := by decide +kernel
theorem d_Mo_init2_58 : decode b_Mo_init2 58 = .ok (.iaload, 1) := by decide +kernel
theorem d_Mo_init2_59 : decode b_Mo_init2 59 = .ok (.bipush 116, 2) := by decide +kernel
theorem d_Mo_init2_61 : decode b_Mo_init2 61 = .ok (.if_icmp .ne 18, 3) := by decide +kernel
theorem d_Mo_init2_64 : decode b_Mo_init2 64 = .ok (.aload_n 0, 1) := by decide +kernel
theorem d_Mo_init2_65 : decode b_Mo_init2 65 = .ok (.getfield 43, 3) := by decide +kernel
theorem d_Mo_init2_68 : decode b_Mo_init2 68 = .ok (.iconst 5, 1) := by decide +kernel
theorem d_Mo_init2_69 : decode b_Mo_init2 69 = .ok (.iaload, 1) := by decide +kernel
theorem d_Mo_init2_70 : decode b_Mo_init2 70 = .ok (.bipush 62, 2) := by decide +kernel
theorem d_Mo_init2_72 : decode b_Mo_init2 72 = .ok (.if_icmp .ne 7, 3) := by decide +kernel
theorem d_Mo_init2_75 : decode b_Mo_init2 75 = .ok (.iconst 1, 1) := by decide +kernel
theorem d_Mo_init2_76 : decode b_Mo_init2 76 = .ok (.goto 4, 3) := by decide +kernel
theorem d_Mo_init2_79 : decode b_Mo_init2 79 = .ok (.iconst 0, 1) := by decide +kernel
theorem d_Mo_init2_80 : decode b_Mo_init2 80 = .ok (.ireturn, 1) := by decide +kernel
theorem d_Mo_method_0 : decode b_Mo_method 0 = .ok (.aload_n 0, 1) := by decide +kernel
theorem d_Mo_method_1 : decode b_Mo_method 1 = .ok (.getfield 95, 3) := by decide +kernel
theorem d_Mo_method_4 : decode b_Mo_method 4 = .ok (.ifCond .eq 14, 3) := by decide +kernel
theorem d_Mo_method_7 : decode b_Mo_method 7 = .ok (.aload_n 0, 1) := by decide +kernel
theorem d_Mo_method_8 : decode b_Mo_method 8 = .ok (.getfield 43, 3) := by decide +kernel
theorem d_Mo_method_11 : decode b_Mo_method 11 = .ok (.iconst 0, 1) := by decide +kernel
theorem d_Mo_method_12 : decode b_Mo_method 12 = .ok (.iaload, 1) := by decide +kernel
theorem d_Mo_method_13 : decode b_Mo_method 13 = .ok (.bipush 40, 2) := by decide +kernel
theorem d_Mo_method_15 : decode b_Mo_method 15 = .ok (.if_icmp .eq 5, 3) := by decide +kernel
theorem d_Mo_method_18 : decode b_Mo_method 18 = .ok (.iconst 0, 1) := by decide +kernel
theorem d_Mo_method_19 : decode b_Mo_method 19 = .ok (.ireturn, 1) := by decide +kernel
theorem d_Mo_method_20 : decode b_Mo_method 20 = .ok (.iconst 1, 1) := by decide +kernel
theorem d_Mo_method_21 : decode b_Mo_method 21 = .ok (.istore_n 1, 1) := by decide +kernel
theorem d_Mo_method_22 : decode b_Mo_method 22 = .ok (.iload_n 1, 1) := by decide +kernel
theorem d_Mo_method_23 : decode b_Mo_method 23 = .ok (.ifCond .lt 31, 3) := by decide +kernel
theorem d_Mo_method_26 : decode b_Mo_method 26 = .ok (.iload_n 1, 1) := by decide +kernel
theorem d_Mo_method_27 : decode b_Mo_method 27 = .ok (.aload_n 0, 1) := by decide +kernel
theorem d_Mo_method_28 : decode b_Mo_method 28 = .ok (.getfield 95, 3) := by decide +kernel
theorem d_Mo_method_31 : decode b_Mo_method 31 = .ok (.if_icmp .ge 23, 3) := by decide +kernel
theorem d_Mo_method_34 : decode b_Mo_method 34 = .ok (.aload_n 0, 1) := by decide +kernel
theorem d_Mo_method_35 : decode b_Mo_method 35 = .ok (.getfield 43, 3) := by decide +kernel
theorem d_Mo_method_38 : decode b_Mo_method 38 = .ok (.iload_n 1, 1) := by decide +kernel
theorem d_Mo_method_39 : decode b_Mo_method 39 = .ok (.iaload, 1) := by decide +kernel
theorem d_Mo_method_40 : decode b_Mo_method 40 = .ok (.bipush 41, 2) := by decide +kernel
theorem d_Mo_method_42 : decode b_Mo_method 42 = .ok (.if_icmp .eq 12, 3) := by decide +kernel
theorem d_Mo_method_45 : decode b_Mo_method 45 = .ok (.aload_n 0, 1) := by decide +kernel
theorem d_Mo_method_46 : decode b_Mo_method 46 = .ok (.iload_n 1, 1) := by decide +kernel
theorem d_Mo_method_47 : decode b_Mo_method 47 = .ok (.invokevirtual 109, 3) := by decide +kernel
theorem d_Mo_method_50 : decode b_Mo_method 50 = .ok (.istore_n 1, 1) := by decide +kernel
theorem d_Mo_method_51 : decode b_Mo_method 51 = .ok (.goto (-29), 3) := by decide +kernel
theorem d_Mo_method_54 : decode b_Mo_method 54 = .ok (.iload_n 1, 1) := by decide +kernel
theorem d_Mo_method_55 : decode b_Mo_method 55 = .ok (.ifCond .lt 13, 3) := by decide +kernel
theorem d_Mo_method_58 : decode b_Mo_method 58 = .ok (.iload_n 1, 1) := by decide +kernel
theorem d_Mo_method_59 : decode b_Mo_method 59 = .ok (.iconst 1, 1) := by decide +kernel
theorem d_Mo_method_60 : decode b_Mo_method 60 = .ok (.iadd, 1) := by decide +kernel
theorem d_Mo_method_61 : decode b_Mo_method 61 = .ok (.aload_n 0, 1) := by decide +kernel
theorem d_Mo_method_62 : decode b_Mo_method 62 = .ok (.getfield 95, 3) := by decide +kernel
theorem d_Mo_method_65 : decode b_Mo_method 65 = .ok (.if_icmp .lt 5, 3) := by decide +kernel
theorem d_Mo_method_68 : decode b_Mo_method 68 = .ok (.iconst 0, 1) := by decide +kernel
theorem d_Mo_method_69 : decode b_Mo_method 69 = .ok (.ireturn, 1) := by decide +kernel
theorem d_Mo_method_70 : decode b_Mo_method 70 = .ok (.aload_n 0, 1) := by decide +kernel
theorem d_Mo_method_71 : decode b_Mo_method 71 = .ok (.getfield 43, 3) := by decide +kernel
theorem d_Mo_method_74 : decode b_Mo_method 74 = .ok (.iload_n 1, 1) := by decide +kernel
theorem d_Mo_method_75 : decode b_Mo_method 75 = .ok (.iconst 1, 1) := by decide +kernel
theorem d_Mo_method_76 : decode b_Mo_method 76 = .ok (.iadd, 1) := by decide +kernel
theorem d_Mo_method_77 : decode b_Mo_method 77 = .ok (.iaload, 1) := by decide +kernel
theorem d_Mo_method_78 : decode b_Mo_method 78 = .ok (.bipush 86, 2) := by decide +kernel
theorem d_Mo_method_80 : decode b_Mo_method 80 = .ok (.if_icmp .ne 13, 3) := by decide +kernel
theorem d_Mo_method_83 : decode b_Mo_method 83 = .ok (.iload_n 1, 1) := by decide +kernel
theorem d_Mo_method_84 : decode b_Mo_method 84 = .ok (.iconst 2, 1) := by decide +kernel
theorem d_Mo_method_85 : decode b_Mo_method 85 = .ok (.iadd, 1) := by decide +kernel
theorem d_Mo_method_86 : decode b_Mo_method 86 = .ok (.aload_n 0, 1) := by decide +kernel
theorem d_Mo_method_87 : decode b_Mo_method 87 = .ok (.getfield 95, 3) := by decide +kernel
theorem d_Mo_method_90 : decode b_Mo_method 90 = .ok (.if_icmp .eq 17, 3) := by decide +kernel
theorem d_Mo_method_93 : decode b_Mo_method 93 = .ok (.aload_n 0, 1) := by decide +kernel
theorem d_Mo_method_94 : decode b_Mo_method 94 = .ok (.iload_n 1, 1) := by decide +kernel
theorem d_Mo_method_95 : decode b_Mo_method 95 = .ok (.iconst 1, 1) := by decide +kernel
theorem d_Mo_method_96 : decode b_Mo_method 96 = .ok (.iadd, 1) := by decide +kernel
theorem d_Mo_method_97 : decode b_Mo_method 97 = .ok (.invokevirtual 109, 3) := by decide +kernel
theorem d_Mo_method_100 : decode b_Mo_method 100 = .ok (.aload_n 0, 1) := by decide +kernel
theorem d_Mo_method_101 : decode b_Mo_method 101 = .ok (.getfield 95, 3) := by decide +kernel
theorem d_Mo_method_104 : decode b_Mo_method 104 = .ok (.if_icmp .ne 7, 3) := by decide +kernel
theorem d_Mo_method_107 : decode b_Mo_method 107 = .ok (.iconst 1, 1) := by decide +kernel
theorem d_Mo_method_108 : decode b_Mo_method 108 = .ok (.goto 4, 3) := by decide +kernel
theorem d_Mo_method_111 : decode b_Mo_method 111 = .ok (.iconst 0, 1) := by decide +kernel
theorem d_Mo_method_112 : decode b_Mo_method 112 = .ok (.ireturn, 1) := by decide +kernel
theorem d_Mo_field_0 : decode b_Mo_field 0 = .ok (.iload_n 1, 1) := by decide +kernel
theorem d_Mo_field_1 : decode b_Mo_field 1 = .ok (.istore_n 2, 1) := by decide +kernel
theorem d_Mo_field_2 : decode b_Mo_field 2 = .ok (.iload_n 2, 1) := by decide +kernel
theorem d_Mo_field_3 : decode b_Mo_field 3 = .ok (.aload_n 0, 1) := by decide +kernel
theorem d_Mo_field_4 : decode b_Mo_field 4 = .ok (.getfield 95, 3) := by decide +kernel
theorem d_Mo_field_7 : decode b_Mo_field 7 = .ok (.if_icmp .ge 20, 3) := by decide +kernel
theorem d_Mo_field_10 : decode b_Mo_field 10 = .ok (.aload_n 0, 1) := by decide +kernel
theorem d_Mo_field_11 : decode b_Mo_field 11 = .ok (.getfield 43, 3) := by decide +kernel
theorem d_Mo_field_14 : decode b_Mo_field 14 = .ok (.iload_n 2, 1) := by decide +kernel
theorem d_Mo_field_15 : decode b_Mo_field 15 = .ok (.iaload, 1) := by decide +kernel
theorem d_Mo_field_16 : decode b_Mo_field 16 = .ok (.bipush 91, 2) := by decide +kernel
theorem d_Mo_field_18 : decode b_Mo_field 18 = .ok (.if_icmp .ne 9, 3) := by decide +kernel
theorem d_Mo_field_21 : decode b_Mo_field 21 = .ok (.iinc 2 1, 3) := by decide +kernel
theorem d_Mo_field_24 : decode b_Mo_field 24 = .ok (.goto (-22), 3) := by decide +kernel
theorem d_Mo_field_27 : decode b_Mo_field 27 = .ok (.iload_n 2, 1) := by decide +kernel
theorem d_Mo_field_28 : decode b_Mo_field 28 = .ok (.aload_n 0, 1) := by decide +kernel
theorem d_Mo_field_29 : decode b_Mo_field 29 = .ok (.getfield 95, 3) := by decide +kernel
theorem d_Mo_field_32 : decode b_Mo_field 32 = .ok (.if_icmp .lt 5, 3) := by decide +kernel
theorem d_Mo_field_35 : decode b_Mo_field 35 = .ok (.iconst (-1), 1) := by decide +kernel
theorem d_Mo_field_36 : decode b_Mo_field 36 = .ok (.ireturn, 1) := by decide +kernel
theorem d_Mo_field_37 : decode b_Mo_field 37 = .ok (.aload_n 0, 1) := by decide +kernel
theorem d_Mo_field_38 : decode b_Mo_field 38 = .ok (.getfield 43, 3) := by decide +kernel
theorem d_Mo_field_41 : decode b_Mo_field 41 = .ok (.iload_n 2, 1) := by decide +kernel
theorem d_Mo_field_42 : decode b_Mo_field 42 = .ok (.iaload, 1) := by decide +kernel
theorem d_Mo_field_43 : decode b_Mo_field 43 = .ok (.istore_n 3, 1) := by decide +kernel
theorem d_Mo_field_44 : decode b_Mo_field 44 = .ok (.iload_n 3, 1) := by decide +kernel
theorem d_Mo_field_45 : decode b_Mo_field 45 = .ok (.bipush 66, 2) := by decide +kernel
theorem d_Mo_field_47 : decode b_Mo_field 47 = .ok (.if_icmp .eq 45, 3) := by decide +kernel
theorem d_Mo_field_50 : decode b_Mo_field 50 = .ok (.iload_n 3, 1) := by decide +kernel
theorem d_Mo_field_51 : decode b_Mo_field 51 = .ok (.bipush 67, 2) := by decide +kernel
theorem d_Mo_field_53 : decode b_Mo_field 53 = .ok (.if_icmp .eq 39, 3) := by decide +kernel
theorem d_Mo_field_56 : decode b_Mo_field 56 = .ok (.iload_n 3, 1) := by decide +kernel
theorem d_Mo_field_57 : decode b_Mo_field 57 = .ok (.bipush 68, 2) := by decide +kernel
theorem d_Mo_field_59 : decode b_Mo_field 59 = .ok (.if_icmp .eq 33, 3) := by decide +kernel
theorem d_Mo_field_62 : decode b_Mo_field 62 = .ok (.iload_n 3, 1) := by decide +kernel
theorem d_Mo_field_63 : decode b_Mo_field 63 = .ok (.bipush 70, 2) := by decide +kernel
theorem d_Mo_field_65 : decode b_Mo_field 65 = .ok (.if_icmp .eq 27, 3) := by decide +kernel
theorem d_Mo_field_68 : decode b_Mo_field 68 = .ok (.iload_n 3, 1) := by decide +kernel
theorem d_Mo_field_69 : decode b_Mo_field 69 = .ok (.bipush 73, 2) := by decide +kernel
theorem d_Mo_field_71 : decode b_Mo_field 71 = .ok (.if_icmp .eq 21, 3) := by decide +kernel
theorem d_Mo_field_74 : decode b_Mo_field 74 = .ok (.iload_n 3, 1) := by decide +kernel
theorem d_Mo_field_75 : decode b_Mo_field 75 = .ok (.bipush 74, 2) := by decide +kernel
theorem d_Mo_field_77 : decode b_Mo_field 77 = .ok (.if_icmp .eq 15, 3) := by decide +kernel
theorem d_Mo_field_80 : decode b_Mo_field 80 = .ok (.iload_n 3, 1) := by decide +kernel
theorem d_Mo_field_81 : decode b_Mo_field 81 = .ok (.bipush 83, 2) := by decide +kernel
theorem d_Mo_field_83 : decode b_Mo_field 83 = .ok (.if_icmp .eq 9, 3) := by decide +kernel
theorem d_Mo_field_86 : decode b_Mo_field 86 = .ok (.iload_n 3, 1) := by decide +kernel
theorem d_Mo_field_87 : decode b_Mo_field 87 = .ok (.bipush 90, 2) := by decide +kernel
theorem d_Mo_field_89 : decode b_Mo_field 89 = .ok (.if_icmp .ne 7, 3) := by decide +kernel
theorem d_Mo_field_92 : decode b_Mo_field 92 = .ok (.iload_n 2, 1) := by decide +kernel
theorem d_Mo_field_93 : decode b_Mo_field 93 = .ok (.iconst 1, 1) := by decide +kernel
theorem d_Mo_field_94 : decode b_Mo_field 94 = .ok (.iadd, 1) := by decide +kernel
theorem d_Mo_field_95 : decode b_Mo_field 95 = .ok (.ireturn, 1) := by decide +kernel
theorem d_Mo_field_96 : decode b_Mo_field 96 = .ok (.iload_n 3, 1) := by decide +kernel
theorem d_Mo_field_97 : decode b_Mo_field 97 = .ok (.bipush 76, 2) := by decide +kernel
theorem d_Mo_field_99 : decode b_Mo_field 99 = .ok (.if_icmp .eq 5, 3) := by decide +kernel
theorem d_Mo_field_102 : decode b_Mo_field 102 = .ok (.iconst (-1), 1) := by decide +kernel
theorem d_Mo_field_103 : decode b_Mo_field 103 = .ok (.ireturn, 1) := by decide +kernel
theorem d_Mo_field_104 : decode b_Mo_field 104 = .ok (.iload_n 2, 1) := by decide +kernel
theorem d_Mo_field_105 : decode b_Mo_field 105 = .ok (.iconst 1, 1) := by decide +kernel
theorem d_Mo_field_106 : decode b_Mo_field 106 = .ok (.iadd, 1) := by decide +kernel
theorem d_Mo_field_107 : decode b_Mo_field 107 = .ok (.istore 4, 2) := by decide +kernel
theorem d_Mo_field_109 : decode b_Mo_field 109 = .ok (.iload 4, 2) := by decide +kernel
theorem d_Mo_field_111 : decode b_Mo_field 111 = .ok (.aload_n 0, 1) := by decide +kernel
theorem d_Mo_field_112 : decode b_Mo_field 112 = .ok (.getfield 95, 3) := by decide +kernel
theorem d_Mo_field_115 : decode b_Mo_field 115 = .ok (.if_icmp .ge 21, 3) := by decide +kernel
theorem d_Mo_field_118 : decode b_Mo_field 118 = .ok (.aload_n 0, 1) := by decide +kernel
theorem d_Mo_field_119 : decode b_Mo_field 119 = .ok (.getfield 43, 3) := by decide +kernel
theorem d_Mo_field_122 : decode b_Mo_field 122 = .ok (.iload 4, 2) := by decide +kernel
theorem d_Mo_field_124 : decode b_Mo_field 124 = .ok (.iaload, 1) := by decide +kernel
theorem d_Mo_field_125 : decode b_Mo_field 125 = .ok (.bipush 59, 2) := by decide +kernel
theorem d_Mo_field_127 : decode b_Mo_field 127 = .ok (.if_icmp .eq 9, 3) := by decide +kernel
theorem d_Mo_field_130 : decode b_Mo_field 130 = .ok (.iinc 4 1, 3) := by decide +kernel
theorem d_Mo_field_133 : decode b_Mo_field 133 = .ok (.goto (-24), 3) := by decide +kernel
theorem d_Mo_field_136 : decode b_Mo_field 136 = .ok (.iload 4, 2) := by decide +kernel
theorem d_Mo_field_138 : decode b_Mo_field 138 = .ok (.aload_n 0, 1) := by decide +kernel
theorem d_Mo_field_139 : decode b_Mo_field 139 = .ok (.getfield 95, 3) := by decide +kernel
theorem d_Mo_field_142 : decode b_Mo_field 142 = .ok (.if_icmp .ge 24, 3) := by decide +kernel
theorem d_Mo_field_145 : decode b_Mo_field 145 = .ok (.aload_n 0, 1) := by decide +kernel
theorem d_Mo_field_146 : decode b_Mo_field 146 = .ok (.iload_n 2, 1) := by decide +kernel
theorem d_Mo_field_147 : decode b_Mo_field 147 = .ok (.iconst 1, 1) := by decide +kernel
theorem d_Mo_field_148 : decode b_Mo_field 148 = .ok (.iadd, 1) := by decide +kernel
theorem d_Mo_field_149 : decode b_Mo_field 149 = .ok (.iload 4, 2) := by decide +kernel
theorem d_Mo_field_151 : decode b_Mo_field 151 = .ok (.bipush 47, 2) := by decide +kernel
theorem d_Mo_field_153 : decode b_Mo_field 153 = .ok (.invokevirtual 105, 3) := by decide +kernel
theorem d_Mo_field_156 : decode b_Mo_field 156 = .ok (.ifCond .eq 10, 3) := by decide +kernel
theorem d_Mo_field_159 : decode b_Mo_field 159 = .ok (.iload 4, 2) := by decide +kernel
theorem d_Mo_field_161 : decode b_Mo_field 161 = .ok (.iconst 1, 1) := by decide +kernel
theorem d_Mo_field_162 : decode b_Mo_field 162 = .ok (.iadd, 1) := by decide +kernel
theorem d_Mo_field_163 : decode b_Mo_field 163 = .ok (.goto 4, 3) := by decide +kernel
theorem d_Mo_field_166 : decode b_Mo_field 166 = .ok (.iconst (-1), 1) := by decide +kernel
theorem d_Mo_field_167 : decode b_Mo_field 167 = .ok (.ireturn, 1) := by decide +kernel
theorem d_Mo_compareMembers_0 : decode b_Mo_compareMembers 0 = .ok (.aload_n 0, 1) := by decide +kernel
theorem d_Mo_compareMembers_1 : decode b_Mo_compareMembers 1 = .ok (.iload_n 1, 1) := by decide +kernel
theorem d_Mo_compareMembers_2 : decode b_Mo_compareMembers 2 = .ok (.iload_n 2, 1) := by decide +kernel
theorem d_Mo_compareMembers_3 : decode b_Mo_compareMembers 3 = .ok (.invokevirtual 152, 3) := by decide +kernel
theorem d_Mo_compareMembers_6 : decode b_Mo_compareMembers 6 = .ok (.istore_n 3, 1) := by decide +kernel
theorem d_Mo_compareMembers_7 : decode b_Mo_compareMembers 7 = .ok (.iload_n 3, 1) := by decide +kernel
theorem d_Mo_compareMembers_8 : decode b_Mo_compareMembers 8 = .ok (.ifCond .eq 5, 3) := by decide +kernel
theorem d_Mo_compareMembers_11 : decode b_Mo_compareMembers 11 = .ok (.iload_n 3, 1) := by decide +kernel
theorem d_Mo_compareMembers_12 : decode b_Mo_compareMembers 12 = .ok (.ireturn, 1) := by decide +kernel
theorem d_Mo_compareMembers_13 : decode b_Mo_compareMembers 13 = .ok (.aload_n 0, 1) := by decide +kernel
theorem d_Mo_compareMembers_14 : decode b_Mo_compareMembers 14 = .ok (.getfield 34, 3) := by decide +kernel
theorem d_Mo_compareMembers_17 : decode b_Mo_compareMembers 17 = .ok (.iload_n 1, 1) := by decide +kernel
theorem d_Mo_compareMembers_18 : decode b_Mo_compareMembers 18 = .ok (.iaload, 1) := by decide +kernel
theorem d_Mo_compareMembers_19 : decode b_Mo_compareMembers 19 = .ok (.aload_n 0, 1) := by decide +kernel
theorem d_Mo_compareMembers_20 : decode b_Mo_compareMembers 20 = .ok (.getfield 34, 3) := by decide +kernel
theorem d_Mo_compareMembers_23 : decode b_Mo_compareMembers 23 = .ok (.iload_n 2, 1) := by decide +kernel
theorem d_Mo_compareMembers_24 : decode b_Mo_compareMembers 24 = .ok (.iaload, 1) := by decide +kernel
theorem d_Mo_compareMembers_25 : decode b_Mo_compareMembers 25 = .ok (.if_icmp .eq 17, 3) := by decide +kernel
theorem d_Mo_compareMembers_28 : decode b_Mo_compareMembers 28 = .ok (.aload_n 0, 1) := by decide +kernel
theorem d_Mo_compareMembers_29 : decode b_Mo_compareMembers 29 = .ok (.getfield 34, 3) := by decide +kernel
theorem d_Mo_compareMembers_32 : decode b_Mo_compareMembers 32 = .ok (.iload_n 1, 1) := by decide +kernel
theorem d_Mo_compareMembers_33 : decode b_Mo_compareMembers 33 = .ok (.iaload, 1) := by decide +kernel
theorem d_Mo_compareMembers_34 : decode b_Mo_compareMembers 34 = .ok (.aload_n 0, 1) := by decide +kernel
theorem d_Mo_compareMembers_35 : decode b_Mo_compareMembers 35 = .ok (.getfield 34, 3) := by decide +kernel
theorem d_Mo_compareMembers_38 : decode b_Mo_compareMembers 38 = .ok (.iload_n 2, 1) := by decide +kernel
theorem d_Mo_compareMembers_39 : decode b_Mo_compareMembers 39 = .ok (.iaload, 1) := by decide +kernel
theorem d_Mo_compareMembers_40 : decode b_Mo_compareMembers 40 = .ok (.isub, 1) := by decide +kernel
theorem d_Mo_compareMembers_41 : decode b_Mo_compareMembers 41 = .ok (.ireturn, 1) := by decide +kernel
theorem d_Mo_compareMembers_42 : decode b_Mo_compareMembers 42 = .ok (.aload_n 0, 1) := by decide +kernel
theorem d_Mo_compareMembers_43 : decode b_Mo_compareMembers 43 = .ok (.getfield 31, 3) := by decide +kernel
theorem d_Mo_compareMembers_46 : decode b_Mo_compareMembers 46 = .ok (.iload_n 1, 1) := by decide +kernel
theorem d_Mo_compareMembers_47 : decode b_Mo_compareMembers 47 = .ok (.iaload, 1) := by decide +kernel
theorem d_Mo_compareMembers_48 : decode b_Mo_compareMembers 48 = .ok (.aload_n 0, 1) := by decide +kernel
theorem d_Mo_compareMembers_49 : decode b_Mo_compareMembers 49 = .ok (.getfield 31, 3) := by decide +kernel
theorem d_Mo_compareMembers_52 : decode b_Mo_compareMembers 52 = .ok (.iload_n 2, 1) := by decide +kernel
theorem d_Mo_compareMembers_53 : decode b_Mo_compareMembers 53 = .ok (.iaload, 1) := by decide +kernel
theorem d_Mo_compareMembers_54 : decode b_Mo_compareMembers 54 = .ok (.if_icmp .ge 12, 3) := by decide +kernel
theorem d_Mo_compareMembers_57 : decode b_Mo_compareMembers 57 = .ok (.aload_n 0, 1) := by decide +kernel
theorem d_Mo_compareMembers_58 : decode b_Mo_compareMembers 58 = .ok (.getfield 31, 3) := by decide +kernel
theorem d_Mo_compareMembers_61 : decode b_Mo_compareMembers 61 = .ok (.iload_n 1, 1) := by decide +kernel
theorem d_Mo_compareMembers_62 : decode b_Mo_compareMembers 62 = .ok (.iaload, 1) := by decide +kernel
theorem d_Mo_compareMembers_63 : decode b_Mo_compareMembers 63 = .ok (.goto 9, 3) := by decide +kernel
theorem d_Mo_compareMembers_66 : decode b_Mo_compareMembers 66 = .ok (.aload_n 0, 1) := by decide +kernel
theorem d_Mo_compareMembers_67 : decode b_Mo_compareMembers 67 = .ok (.getfield 31, 3) := by decide +kernel
theorem d_Mo_compareMembers_70 : decode b_Mo_compareMembers 70 = .ok (.iload_n 2, 1) := by decide +kernel
theorem d_Mo_compareMembers_71 : decode b_Mo_compareMembers 71 = .ok (.iaload, 1) := by decide +kernel
theorem d_Mo_compareMembers_72 : decode b_Mo_compareMembers 72 = .ok (.istore 4, 2) := by decide +kernel
theorem d_Mo_compareMembers_74 : decode b_Mo_compareMembers 74 = .ok (.iconst 0, 1) := by decide +kernel
theorem d_Mo_compareMembers_75 : decode b_Mo_compareMembers 75 = .ok (.istore 5, 2) := by decide +kernel
theorem d_Mo_compareMembers_77 : decode b_Mo_compareMembers 77 = .ok (.iload 5, 2) := by decide +kernel
theorem d_Mo_compareMembers_79 : decode b_Mo_compareMembers 79 = .ok (.iload 4, 2) := by decide +kernel
theorem d_Mo_compareMembers_81 : decode b_Mo_compareMembers 81 = .ok (.if_icmp .ge 62, 3) := by decide +kernel
theorem d_Mo_compareMembers_84 : decode b_Mo_compareMembers 84 = .ok (.aload_n 0, 1) := by decide +kernel
theorem d_Mo_compareMembers_85 : decode b_Mo_compareMembers 85 = .ok (.getfield 25, 3) := by decide +kernel
theorem d_Mo_compareMembers_88 : decode b_Mo_compareMembers 88 = .ok (.bipush 20, 2) := by decide +kernel
theorem d_Mo_compareMembers_90 : decode b_Mo_compareMembers 90 = .ok (.iload_n 1, 1) := by decide +kernel
theorem d_Mo_compareMembers_91 : decode b_Mo_compareMembers 91 = .ok (.imul, 1) := by decide +kernel
theorem d_Mo_compareMembers_92 : decode b_Mo_compareMembers 92 = .ok (.iload 5, 2) := by decide +kernel
theorem d_Mo_compareMembers_94 : decode b_Mo_compareMembers 94 = .ok (.iadd, 1) := by decide +kernel
theorem d_Mo_compareMembers_95 : decode b_Mo_compareMembers 95 = .ok (.iaload, 1) := by decide +kernel
theorem d_Mo_compareMembers_96 : decode b_Mo_compareMembers 96 = .ok (.aload_n 0, 1) := by decide +kernel
theorem d_Mo_compareMembers_97 : decode b_Mo_compareMembers 97 = .ok (.getfield 25, 3) := by decide +kernel
theorem d_Mo_compareMembers_100 : decode b_Mo_compareMembers 100 = .ok (.bipush 20, 2) := by decide +kernel
theorem d_Mo_compareMembers_102 : decode b_Mo_compareMembers 102 = .ok (.iload_n 2, 1) := by decide +kernel
theorem d_Mo_compareMembers_103 : decode b_Mo_compareMembers 103 = .ok (.imul, 1) := by decide +kernel
theorem d_Mo_compareMembers_104 : decode b_Mo_compareMembers 104 = .ok (.iload 5, 2) := by decide +kernel
theorem d_Mo_compareMembers_106 : decode b_Mo_compareMembers 106 = .ok (.iadd, 1) := by decide +kernel
theorem d_Mo_compareMembers_107 : decode b_Mo_compareMembers 107 = .ok (.iaload, 1) := by decide +kernel
theorem d_Mo_compareMembers_108 : decode b_Mo_compareMembers 108 = .ok (.if_icmp .eq 29, 3) := by decide +kernel
theorem d_Mo_compareMembers_111 : decode b_Mo_compareMembers 111 = .ok (.aload_n 0, 1) := by decide +kernel
theorem d_Mo_compareMembers_112 : decode b_Mo_compareMembers 112 = .ok (.getfield 25, 3) := by decide +kernel
theorem d_Mo_compareMembers_115 : decode b_Mo_compareMembers 115 = .ok (.bipush 20, 2) := by decide +kernel
theorem d_Mo_compareMembers_117 : decode b_Mo_compareMembers 117 = .ok (.iload_n 1, 1) := by decide +kernel
theorem d_Mo_compareMembers_118 : decode b_Mo_compareMembers 118 = .ok (.imul, 1) := by decide +kernel
theorem d_Mo_compareMembers_119 : decode b_Mo_compareMembers 119 = .ok (.iload 5, 2) := by decide +kernel
theorem d_Mo_compareMembers_121 : decode b_Mo_compareMembers 121 = .ok (.iadd, 1) := by decide +kernel
theorem d_Mo_compareMembers_122 : decode b_Mo_compareMembers 122 = .ok (.iaload, 1) := by decide +kernel
theorem d_Mo_compareMembers_123 : decode b_Mo_compareMembers 123 = .ok (.aload_n 0, 1) := by decide +kernel
theorem d_Mo_compareMembers_124 : decode b_Mo_compareMembers 124 = .ok (.getfield 25, 3) := by decide +kernel
theorem d_Mo_compareMembers_127 : decode b_Mo_compareMembers 127 = .ok (.bipush 20, 2) := by decide +kernel
theorem d_Mo_compareMembers_129 : decode b_Mo_compareMembers 129 = .ok (.iload_n 2, 1) := by decide +kernel
theorem d_Mo_compareMembers_130 : decode b_Mo_compareMembers 130 = .ok (.imul, 1) := by decide +kernel
theorem d_Mo_compareMembers_131 : decode b_Mo_compareMembers 131 = .ok (.iload 5, 2) := by decide +kernel
theorem d_Mo_compareMembers_133 : decode b_Mo_compareMembers 133 = .ok (.iadd, 1) := by decide +kernel
theorem d_Mo_compareMembers_134 : decode b_Mo_compareMembers 134 = .ok (.iaload, 1) := by decide +kernel
theorem d_Mo_compareMembers_135 : decode b_Mo_compareMembers 135 = .ok (.isub, 1) := by decide +kernel
theorem d_Mo_compareMembers_136 : decode b_Mo_compareMembers 136 = .ok (.ireturn, 1) := by decide +kernel
theorem d_Mo_compareMembers_137 : decode b_Mo_compareMembers 137 = .ok (.iinc 5 1, 3) := by decide +kernel
theorem d_Mo_compareMembers_140 : decode b_Mo_compareMembers 140 = .ok (.goto (-63), 3) := by decide +kernel
theorem d_Mo_compareMembers_143 : decode b_Mo_compareMembers 143 = .ok (.aload_n 0, 1) := by decide +kernel
theorem d_Mo_compareMembers_144 : decode b_Mo_compareMembers 144 = .ok (.getfield 31, 3) := by decide +kernel
theorem d_Mo_compareMembers_147 : decode b_Mo_compareMembers 147 = .ok (.iload_n 1, 1) := by decide +kernel
theorem d_Mo_compareMembers_148 : decode b_Mo_compareMembers 148 = .ok (.iaload, 1) := by decide +kernel
theorem d_Mo_compareMembers_149 : decode b_Mo_compareMembers 149 = .ok (.aload_n 0, 1) := by decide +kernel
theorem d_Mo_compareMembers_150 : decode b_Mo_compareMembers 150 = .ok (.getfield 31, 3) := by decide +kernel
theorem d_Mo_compareMembers_153 : decode b_Mo_compareMembers 153 = .ok (.iload_n 2, 1) := by decide +kernel
theorem d_Mo_compareMembers_154 : decode b_Mo_compareMembers 154 = .ok (.iaload, 1) := by decide +kernel
theorem d_Mo_compareMembers_155 : decode b_Mo_compareMembers 155 = .ok (.isub, 1) := by decide +kernel
theorem d_Mo_compareMembers_156 : decode b_Mo_compareMembers 156 = .ok (.ireturn, 1) := by decide +kernel
theorem d_Mo_compareNames_0 : decode b_Mo_compareNames 0 = .ok (.aload_n 0, 1) := by decide +kernel
theorem d_Mo_compareNames_1 : decode b_Mo_compareNames 1 = .ok (.getfield 28, 3) := by decide +kernel
theorem d_Mo_compareNames_4 : decode b_Mo_compareNames 4 = .ok (.iload_n 1, 1) := by decide +kernel
theorem d_Mo_compareNames_5 : decode b_Mo_compareNames 5 = .ok (.iaload, 1) := by decide +kernel
theorem d_Mo_compareNames_6 : decode b_Mo_compareNames 6 = .ok (.aload_n 0, 1) := by decide +kernel
theorem d_Mo_compareNames_7 : decode b_Mo_compareNames 7 = .ok (.getfield 28, 3) := by decide +kernel
theorem d_Mo_compareNames_10 : decode b_Mo_compareNames 10 = .ok (.iload_n 2, 1) := by decide +kernel
theorem d_Mo_compareNames_11 : decode b_Mo_compareNames 11 = .ok (.iaload, 1) := by decide +kernel
theorem d_Mo_compareNames_12 : decode b_Mo_compareNames 12 = .ok (.if_icmp .ge 12, 3) := by decide +kernel
theorem d_Mo_compareNames_15 : decode b_Mo_compareNames 15 = .ok (.aload_n 0, 1) := by decide +kernel
theorem d_Mo_compareNames_16 : decode b_Mo_compareNames 16 = .ok (.getfield 28, 3) := by decide +kernel
theorem d_Mo_compareNames_19 : decode b_Mo_compareNames 19 = .ok (.iload_n 1, 1) := by decide +kernel
theorem d_Mo_compareNames_20 : decode b_Mo_compareNames 20 = .ok (.iaload, 1) := by decide +kernel
theorem d_Mo_compareNames_21 : decode b_Mo_compareNames 21 = .ok (.goto 9, 3) := by decide +kernel
theorem d_Mo_compareNames_24 : decode b_Mo_compareNames 24 = .ok (.aload_n 0, 1) := by decide +kernel
theorem d_Mo_compareNames_25 : decode b_Mo_compareNames 25 = .ok (.getfield 28, 3) := by decide +kernel
theorem d_Mo_compareNames_28 : decode b_Mo_compareNames 28 = .ok (.iload_n 2, 1) := by decide +kernel
theorem d_Mo_compareNames_29 : decode b_Mo_compareNames 29 = .ok (.iaload, 1) := by decide +kernel
theorem d_Mo_compareNames_30 : decode b_Mo_compareNames 30 = .ok (.istore_n 3, 1) := by decide +kernel
theorem d_Mo_compareNames_31 : decode b_Mo_compareNames 31 = .ok (.iconst 0, 1) := by decide +kernel
theorem d_Mo_compareNames_32 : decode b_Mo_compareNames 32 = .ok (.istore 4, 2) := by decide +kernel
theorem d_Mo_compareNames_34 : decode b_Mo_compareNames 34 = .ok (.iload 4, 2) := by decide +kernel
theorem d_Mo_compareNames_36 : decode b_Mo_compareNames 36 = .ok (.iload_n 3, 1) := by decide +kernel
theorem d_Mo_compareNames_37 : decode b_Mo_compareNames 37 = .ok (.if_icmp .ge 62, 3) := by decide +kernel
theorem d_Mo_compareNames_40 : decode b_Mo_compareNames 40 = .ok (.aload_n 0, 1) := by decide +kernel
theorem d_Mo_compareNames_41 : decode b_Mo_compareNames 41 = .ok (.getfield 22, 3) := by decide +kernel
theorem d_Mo_compareNames_44 : decode b_Mo_compareNames 44 = .ok (.bipush 20, 2) := by decide +kernel
theorem d_Mo_compareNames_46 : decode b_Mo_compareNames 46 = .ok (.iload_n 1, 1) := by decide +kernel
theorem d_Mo_compareNames_47 : decode b_Mo_compareNames 47 = .ok (.imul, 1) := by decide +kernel
theorem d_Mo_compareNames_48 : decode b_Mo_compareNames 48 = .ok (.iload 4, 2) := by decide +kernel
theorem d_Mo_compareNames_50 : decode b_Mo_compareNames 50 = .ok (.iadd, 1) := by decide +kernel
theorem d_Mo_compareNames_51 : decode b_Mo_compareNames 51 = .ok (.iaload, 1) := by decide +kernel
theorem d_Mo_compareNames_52 : decode b_Mo_compareNames 52 = .ok (.aload_n 0, 1) := by decide +kernel
theorem d_Mo_compareNames_53 : decode b_Mo_compareNames 53 = .ok (.getfield 22, 3) := by decide +kernel
theorem d_Mo_compareNames_56 : decode b_Mo_compareNames 56 = .ok (.bipush 20, 2) := by decide +kernel
theorem d_Mo_compareNames_58 : decode b_Mo_compareNames 58 = .ok (.iload_n 2, 1) := by decide +kernel
theorem d_Mo_compareNames_59 : decode b_Mo_compareNames 59 = .ok (.imul, 1) := by decide +kernel
theorem d_Mo_compareNames_60 : decode b_Mo_compareNames 60 = .ok (.iload 4, 2) := by decide +kernel
theorem d_Mo_compareNames_62 : decode b_Mo_compareNames 62 = .ok (.iadd, 1) := by decide +kernel
theorem d_Mo_compareNames_63 : decode b_Mo_compareNames 63 = .ok (.iaload, 1) := by decide +kernel
theorem d_Mo_compareNames_64 : decode b_Mo_compareNames 64 = .ok (.if_icmp .eq 29, 3) := by decide +kernel
theorem d_Mo_compareNames_67 : decode b_Mo_compareNames 67 = .ok (.aload_n 0, 1) := by decide +kernel
theorem d_Mo_compareNames_68 : decode b_Mo_compareNames 68 = .ok (.getfield 22, 3) := by decide +kernel
theorem d_Mo_compareNames_71 : decode b_Mo_compareNames 71 = .ok (.bipush 20, 2) := by decide +kernel
theorem d_Mo_compareNames_73 : decode b_Mo_compareNames 73 = .ok (.iload_n 1, 1) := by decide +kernel
theorem d_Mo_compareNames_74 : decode b_Mo_compareNames 74 = .ok (.imul, 1) := by decide +kernel
theorem d_Mo_compareNames_75 : decode b_Mo_compareNames 75 = .ok (.iload 4, 2) := by decide +kernel
theorem d_Mo_compareNames_77 : decode b_Mo_compareNames 77 = .ok (.iadd, 1) := by decide +kernel
theorem d_Mo_compareNames_78 : decode b_Mo_compareNames 78 = .ok (.iaload, 1) := by decide +kernel
theorem d_Mo_compareNames_79 : decode b_Mo_compareNames 79 = .ok (.aload_n 0, 1) := by decide +kernel
theorem d_Mo_compareNames_80 : decode b_Mo_compareNames 80 = .ok (.getfield 22, 3) := by decide +kernel
theorem d_Mo_compareNames_83 : decode b_Mo_compareNames 83 = .ok (.bipush 20, 2) := by decide +kernel
theorem d_Mo_compareNames_85 : decode b_Mo_compareNames 85 = .ok (.iload_n 2, 1) := by decide +kernel
theorem d_Mo_compareNames_86 : decode b_Mo_compareNames 86 = .ok (.imul, 1) := by decide +kernel
theorem d_Mo_compareNames_87 : decode b_Mo_compareNames 87 = .ok (.iload 4, 2) := by decide +kernel
theorem d_Mo_compareNames_89 : decode b_Mo_compareNames 89 = .ok (.iadd, 1) := by decide +kernel
theorem d_Mo_compareNames_90 : decode b_Mo_compareNames 90 = .ok (.iaload, 1) := by decide +kernel
theorem d_Mo_compareNames_91 : decode b_Mo_compareNames 91 = .ok (.isub, 1) := by decide +kernel
theorem d_Mo_compareNames_92 : decode b_Mo_compareNames 92 = .ok (.ireturn, 1) := by decide +kernel
theorem d_Mo_compareNames_93 : decode b_Mo_compareNames 93 = .ok (.iinc 4 1, 3) := by decide +kernel
theorem d_Mo_compareNames_96 : decode b_Mo_compareNames 96 = .ok (.goto (-62), 3) := by decide +kernel
theorem d_Mo_compareNames_99 : decode b_Mo_compareNames 99 = .ok (.aload_n 0, 1) := by decide +kernel
theorem d_Mo_compareNames_100 : decode b_Mo_compareNames 100 = .ok (.getfield 28, 3) := by decide +kernel
theorem d_Mo_compareNames_103 : decode b_Mo_compareNames 103 = .ok (.iload_n 1, 1) := by decide +kernel
theorem d_Mo_compareNames_104 : decode b_Mo_compareNames 104 = .ok (.iaload, 1) := by decide +kernel
theorem d_Mo_compareNames_105 : decode b_Mo_compareNames 105 = .ok (.aload_n 0, 1) := by decide +kernel
theorem d_Mo_compareNames_106 : decode b_Mo_compareNames 106 = .ok (.getfield 28, 3) := by decide +kernel
theorem d_Mo_compareNames_109 : decode b_Mo_compareNames 109 = .ok (.iload_n 2, 1) := by decide +kernel
theorem d_Mo_compareNames_110 : decode b_Mo_compareNames 110 = .ok (.iaload, 1) := by decide +kernel
theorem d_Mo_compareNames_111 : decode b_Mo_compareNames 111 = .ok (.isub, 1) := by decide +kernel
theorem d_Mo_compareNames_112 : decode b_Mo_compareNames 112 = .ok (.ireturn, 1) := by decide +kernel
theorem d_Mo_move_0 : decode b_Mo_move 0 = .ok (.iconst 0, 1) := by decide +kernel
theorem d_Mo_move_1 : decode b_Mo_move 1 = .ok (.istore_n 3, 1) := by decide +kernel
theorem d_Mo_move_2 : decode b_Mo_move 2 = .ok (.iload_n 3, 1) := by decide +kernel
theorem d_Mo_move_3 : decode b_Mo_move 3 = .ok (.bipush 20, 2) := by decide +kernel
theorem d_Mo_move_5 : decode b_Mo_move 5 = .ok (.if_icmp .ge 53, 3) := by decide +kernel
theorem d_Mo_move_8 : decode b_Mo_move 8 = .ok (.aload_n 0, 1) := by decide +kernel
theorem d_Mo_move_9 : decode b_Mo_move 9 = .ok (.getfield 22, 3) := by decide +kernel
theorem d_Mo_move_12 : decode b_Mo_move 12 = .ok (.bipush 20, 2) := by decide +kernel
theorem d_Mo_move_14 : decode b_Mo_move 14 = .ok (.iload_n 2, 1) := by decide +kernel
theorem d_Mo_move_15 : decode b_Mo_move 15 = .ok (.imul, 1) := by decide +kernel
theorem d_Mo_move_16 : decode b_Mo_move 16 = .ok (.iload_n 3, 1) := by decide +kernel
theorem d_Mo_move_17 : decode b_Mo_move 17 = .ok (.iadd, 1) := by decide +kernel
theorem d_Mo_move_18 : decode b_Mo_move 18 = .ok (.aload_n 0, 1) := by decide +kernel
theorem d_Mo_move_19 : decode b_Mo_move 19 = .ok (.getfield 22, 3) := by decide +kernel
theorem d_Mo_move_22 : decode b_Mo_move 22 = .ok (.bipush 20, 2) := by decide +kernel
theorem d_Mo_move_24 : decode b_Mo_move 24 = .ok (.iload_n 1, 1) := by decide +kernel
theorem d_Mo_move_25 : decode b_Mo_move 25 = .ok (.imul, 1) := by decide +kernel
theorem d_Mo_move_26 : decode b_Mo_move 26 = .ok (.iload_n 3, 1) := by decide +kernel
theorem d_Mo_move_27 : decode b_Mo_move 27 = .ok (.iadd, 1) := by decide +kernel
theorem d_Mo_move_28 : decode b_Mo_move 28 = .ok (.iaload, 1) := by decide +kernel
theorem d_Mo_move_29 : decode b_Mo_move 29 = .ok (.iastore, 1) := by decide +kernel
theorem d_Mo_move_30 : decode b_Mo_move 30 = .ok (.aload_n 0, 1) := by decide +kernel
theorem d_Mo_move_31 : decode b_Mo_move 31 = .ok (.getfield 25, 3) := by decide +kernel
theorem d_Mo_move_34 : decode b_Mo_move 34 = .ok (.bipush 20, 2) := by decide +kernel
theorem d_Mo_move_36 : decode b_Mo_move 36 = .ok (.iload_n 2, 1) := by decide +kernel
theorem d_Mo_move_37 : decode b_Mo_move 37 = .ok (.imul, 1) := by decide +kernel
theorem d_Mo_move_38 : decode b_Mo_move 38 = .ok (.iload_n 3, 1) := by decide +kernel
theorem d_Mo_move_39 : decode b_Mo_move 39 = .ok (.iadd, 1) := by decide +kernel
theorem d_Mo_move_40 : decode b_Mo_move 40 = .ok (.aload_n 0, 1) := by decide +kernel
theorem d_Mo_move_41 : decode b_Mo_move 41 = .ok (.getfield 25, 3) := by decide +kernel
theorem d_Mo_move_44 : decode b_Mo_move 44 = .ok (.bipush 20, 2) := by decide +kernel
theorem d_Mo_move_46 : decode b_Mo_move 46 = .ok (.iload_n 1, 1) := by decide +kernel
theorem d_Mo_move_47 : decode b_Mo_move 47 = .ok (.imul, 1) := by decide +kernel
theorem d_Mo_move_48 : decode b_Mo_move 48 = .ok (.iload_n 3, 1) := by decide +kernel
theorem d_Mo_move_49 : decode b_Mo_move 49 = .ok (.iadd, 1) := by decide +kernel
theorem d_Mo_move_50 : decode b_Mo_move 50 = .ok (.iaload, 1) := by decide +kernel
theorem d_Mo_move_51 : decode b_Mo_move 51 = .ok (.iastore, 1) := by decide +kernel
theorem d_Mo_move_52 : decode b_Mo_move 52 = .ok (.iinc 3 1, 3) := by decide +kernel
theorem d_Mo_move_55 : decode b_Mo_move 55 = .ok (.goto (-53), 3) := by decide +kernel
theorem d_Mo_move_58 : decode b_Mo_move 58 = .ok (.aload_n 0, 1) := by decide +kernel
theorem d_Mo_move_59 : decode b_Mo_move 59 = .ok (.getfield 28, 3) := by decide +kernel
theorem d_Mo_move_62 : decode b_Mo_move 62 = .ok (.iload_n 2, 1) := by decide +kernel
theorem d_Mo_move_63 : decode b_Mo_move 63 = .ok (.aload_n 0, 1) := by decide +kernel
theorem d_Mo_move_64 : decode b_Mo_move 64 = .ok (.getfield 28, 3) := by decide +kernel
theorem d_Mo_move_67 : decode b_Mo_move 67 = .ok (.iload_n 1, 1) := by decide +kernel
theorem d_Mo_move_68 : decode b_Mo_move 68 = .ok (.iaload, 1) := by decide +kernel
theorem d_Mo_move_69 : decode b_Mo_move 69 = .ok (.iastore, 1) := by decide +kernel
theorem d_Mo_move_70 : decode b_Mo_move 70 = .ok (.aload_n 0, 1) := by decide +kernel
theorem d_Mo_move_71 : decode b_Mo_move 71 = .ok (.getfield 31, 3) := by decide +kernel
theorem d_Mo_move_74 : decode b_Mo_move 74 = .ok (.iload_n 2, 1) := by decide +kernel
theorem d_Mo_move_75 : decode b_Mo_move 75 = .ok (.aload_n 0, 1) := by decide +kernel
theorem d_Mo_move_76 : decode b_Mo_move 76 = .ok (.getfield 31, 3) := by decide +kernel
theorem d_Mo_move_79 : decode b_Mo_move 79 = .ok (.iload_n 1, 1) := by decide +kernel
theorem d_Mo_move_80 : decode b_Mo_move 80 = .ok (.iaload, 1) := by decide +kernel
theorem d_Mo_move_81 : decode b_Mo_move 81 = .ok (.iastore, 1) := by decide +kernel
theorem d_Mo_move_82 : decode b_Mo_move 82 = .ok (.aload_n 0, 1) := by decide +kernel
theorem d_Mo_move_83 : decode b_Mo_move 83 = .ok (.getfield 34, 3) := by decide +kernel
theorem d_Mo_move_86 : decode b_Mo_move 86 = .ok (.iload_n 2, 1) := by decide +kernel
theorem d_Mo_move_87 : decode b_Mo_move 87 = .ok (.aload_n 0, 1) := by decide +kernel
theorem d_Mo_move_88 : decode b_Mo_move 88 = .ok (.getfield 34, 3) := by decide +kernel
theorem d_Mo_move_91 : decode b_Mo_move 91 = .ok (.iload_n 1, 1) := by decide +kernel
theorem d_Mo_move_92 : decode b_Mo_move 92 = .ok (.iaload, 1) := by decide +kernel
theorem d_Mo_move_93 : decode b_Mo_move 93 = .ok (.iastore, 1) := by decide +kernel
theorem d_Mo_move_94 : decode b_Mo_move 94 = .ok (.aload_n 0, 1) := by decide +kernel
theorem d_Mo_move_95 : decode b_Mo_move 95 = .ok (.getfield 37, 3) := by decide +kernel
theorem d_Mo_move_98 : decode b_Mo_move 98 = .ok (.iload_n 2, 1) := by decide +kernel
theorem d_Mo_move_99 : decode b_Mo_move 99 = .ok (.aload_n 0, 1) := by decide +kernel
theorem d_Mo_move_100 : decode b_Mo_move 100 = .ok (.getfield 37, 3) := by decide +kernel
theorem d_Mo_move_103 : decode b_Mo_move 103 = .ok (.iload_n 1, 1) := by decide +kernel
theorem d_Mo_move_104 : decode b_Mo_move 104 = .ok (.iaload, 1) := by decide +kernel
theorem d_Mo_move_105 : decode b_Mo_move 105 = .ok (.iastore, 1) := by decide +kernel
theorem d_Mo_move_106 : decode b_Mo_move 106 = .ok (.return_, 1) := by decide +kernel
theorem d_Mo_typeLine_0 : decode b_Mo_typeLine 0 = .ok (.aload_n 0, 1) := by decide +kernel
theorem d_Mo_typeLine_1 : decode b_Mo_typeLine 1 = .ok (.iconst 0, 1) := by decide +kernel
theorem d_Mo_typeLine_2 : decode b_Mo_typeLine 2 = .ok (.putfield 116, 3) := by decide +kernel
theorem d_Mo_typeLine_5 : decode b_Mo_typeLine 5 = .ok (.aload_n 0, 1) := by decide +kernel
theorem d_Mo_typeLine_6 : decode b_Mo_typeLine 6 = .ok (.iconst 0, 1) := by decide +kernel
theorem d_Mo_typeLine_7 : decode b_Mo_typeLine 7 = .ok (.sipush 216, 3) := by decide +kernel
theorem d_Mo_typeLine_10 : decode b_Mo_typeLine 10 = .ok (.invokevirtual 156, 3) := by decide +kernel
theorem d_Mo_typeLine_13 : decode b_Mo_typeLine 13 = .ok (.ifCond .ne 5, 3) := by decide +kernel
theorem d_Mo_typeLine_16 : decode b_Mo_typeLine 16 = .ok (.iconst (-1), 1) := by decide +kernel
theorem d_Mo_typeLine_17 : decode b_Mo_typeLine 17 = .ok (.ireturn, 1) := by decide +kernel
theorem d_Mo_typeLine_18 : decode b_Mo_typeLine 18 = .ok (.iconst 0, 1) := by decide +kernel
theorem d_Mo_typeLine_19 : decode b_Mo_typeLine 19 = .ok (.istore_n 2, 1) := by decide +kernel
theorem d_Mo_typeLine_20 : decode b_Mo_typeLine 20 = .ok (.iload_n 2, 1) := by decide +kernel
theorem d_Mo_typeLine_21 : decode b_Mo_typeLine 21 = .ok (.aload_n 0, 1) := by decide +kernel
theorem d_Mo_typeLine_22 : decode b_Mo_typeLine 22 = .ok (.getfield 16, 3) := by decide +kernel
theorem d_Mo_typeLine_25 : decode b_Mo_typeLine 25 = .ok (.iload_n 1, 1) := by decide +kernel
theorem d_Mo_typeLine_26 : decode b_Mo_typeLine 26 = .ok (.iaload, 1) := by decide +kernel
theorem d_Mo_typeLine_27 : decode b_Mo_typeLine 27 = .ok (.if_icmp .ge 31, 3) := by decide +kernel
theorem d_Mo_typeLine_30 : decode b_Mo_typeLine 30 = .ok (.aload_n 0, 1) := by decide +kernel
theorem d_Mo_typeLine_31 : decode b_Mo_typeLine 31 = .ok (.bipush 108, 2) := by decide +kernel
theorem d_Mo_typeLine_33 : decode b_Mo_typeLine 33 = .ok (.iload_n 1, 1) := by decide +kernel
theorem d_Mo_typeLine_34 : decode b_Mo_typeLine 34 = .ok (.imul, 1) := by decide +kernel
theorem d_Mo_typeLine_35 : decode b_Mo_typeLine 35 = .ok (.iload_n 2, 1) := by decide +kernel
theorem d_Mo_typeLine_36 : decode b_Mo_typeLine 36 = .ok (.iadd, 1) := by decide +kernel
theorem d_Mo_typeLine_37 : decode b_Mo_typeLine 37 = .ok (.sipush 216, 3) := by decide +kernel
theorem d_Mo_typeLine_40 : decode b_Mo_typeLine 40 = .ok (.invokevirtual 152, 3) := by decide +kernel
theorem d_Mo_typeLine_43 : decode b_Mo_typeLine 43 = .ok (.ifCond .ne 9, 3) := by decide +kernel
theorem d_Mo_typeLine_46 : decode b_Mo_typeLine 46 = .ok (.aload_n 0, 1) := by decide +kernel
theorem d_Mo_typeLine_47 : decode b_Mo_typeLine 47 = .ok (.bipush 7, 2) := by decide +kernel
theorem d_Mo_typeLine_49 : decode b_Mo_typeLine 49 = .ok (.putfield 116, 3) := by decide +kernel
theorem d_Mo_typeLine_52 : decode b_Mo_typeLine 52 = .ok (.iinc 2 1, 3) := by decide +kernel
theorem d_Mo_typeLine_55 : decode b_Mo_typeLine 55 = .ok (.goto (-35), 3) := by decide +kernel
theorem d_Mo_typeLine_58 : decode b_Mo_typeLine 58 = .ok (.aload_n 0, 1) := by decide +kernel
theorem d_Mo_typeLine_59 : decode b_Mo_typeLine 59 = .ok (.getfield 116, 3) := by decide +kernel
theorem d_Mo_typeLine_62 : decode b_Mo_typeLine 62 = .ok (.ifCond .ne 20, 3) := by decide +kernel
theorem d_Mo_typeLine_65 : decode b_Mo_typeLine 65 = .ok (.aload_n 0, 1) := by decide +kernel
theorem d_Mo_typeLine_66 : decode b_Mo_typeLine 66 = .ok (.getfield 16, 3) := by decide +kernel
theorem d_Mo_typeLine_69 : decode b_Mo_typeLine 69 = .ok (.iload_n 1, 1) := by decide +kernel
theorem d_Mo_typeLine_70 : decode b_Mo_typeLine 70 = .ok (.iaload, 1) := by decide +kernel
theorem d_Mo_typeLine_71 : decode b_Mo_typeLine 71 = .ok (.bipush 12, 2) := by decide +kernel
theorem d_Mo_typeLine_73 : decode b_Mo_typeLine 73 = .ok (.if_icmp .ne 9, 3) := by decide +kernel
theorem d_Mo_typeLine_76 : decode b_Mo_typeLine 76 = .ok (.aload_n 0, 1) := by decide +kernel
theorem d_Mo_typeLine_77 : decode b_Mo_typeLine 77 = .ok (.bipush 8, 2) := by decide +kernel
theorem d_Mo_typeLine_79 : decode b_Mo_typeLine 79 = .ok (.putfield 116, 3) := by decide +kernel
theorem d_Mo_typeLine_82 : decode b_Mo_typeLine 82 = .ok (.aload_n 0, 1) := by decide +kernel
theorem d_Mo_typeLine_83 : decode b_Mo_typeLine 83 = .ok (.getfield 116, 3) := by decide +kernel
theorem d_Mo_typeLine_86 : decode b_Mo_typeLine 86 = .ok (.ifCond .eq 5, 3) := by decide +kernel
theorem d_Mo_typeLine_89 : decode b_Mo_typeLine 89 = .ok (.iconst (-1), 1) := by decide +kernel
theorem d_Mo_typeLine_90 : decode b_Mo_typeLine 90 = .ok (.ireturn, 1) := by decide +kernel
theorem d_Mo_typeLine_91 : decode b_Mo_typeLine 91 = .ok (.aload_n 0, 1) := by decide +kernel
theorem d_Mo_typeLine_92 : decode b_Mo_typeLine 92 = .ok (.sipush 216, 3) := by decide +kernel
theorem d_Mo_typeLine_95 : decode b_Mo_typeLine 95 = .ok (.bipush 108, 2) := by decide +kernel
theorem d_Mo_typeLine_97 : decode b_Mo_typeLine 97 = .ok (.iload_n 1, 1) := by decide +kernel
theorem d_Mo_typeLine_98 : decode b_Mo_typeLine 98 = .ok (.imul, 1) := by decide +kernel
theorem d_Mo_typeLine_99 : decode b_Mo_typeLine 99 = .ok (.aload_n 0, 1) := by decide +kernel
theorem d_Mo_typeLine_100 : decode b_Mo_typeLine 100 = .ok (.getfield 16, 3) := by decide +kernel
theorem d_Mo_typeLine_103 : decode b_Mo_typeLine 103 = .ok (.iload_n 1, 1) := by decide +kernel
theorem d_Mo_typeLine_104 : decode b_Mo_typeLine 104 = .ok (.iaload, 1) := by decide +kernel
theorem d_Mo_typeLine_105 : decode b_Mo_typeLine 105 = .ok (.iadd, 1) := by decide +kernel
theorem d_Mo_typeLine_106 : decode b_Mo_typeLine 106 = .ok (.invokevirtual 160, 3) := by decide +kernel
theorem d_Mo_typeLine_109 : decode b_Mo_typeLine 109 = .ok (.aload_n 0, 1) := by decide +kernel
theorem d_Mo_typeLine_110 : decode b_Mo_typeLine 110 = .ok (.getfield 40, 3) := by decide +kernel
theorem d_Mo_typeLine_113 : decode b_Mo_typeLine 113 = .ok (.bipush 12, 2) := by decide +kernel
theorem d_Mo_typeLine_115 : decode b_Mo_typeLine 115 = .ok (.iload_n 1, 1) := by decide +kernel
theorem d_Mo_typeLine_116 : decode b_Mo_typeLine 116 = .ok (.imul, 1) := by decide +kernel
theorem d_Mo_typeLine_117 : decode b_Mo_typeLine 117 = .ok (.aload_n 0, 1) := by decide +kernel
theorem d_Mo_typeLine_118 : decode b_Mo_typeLine 118 = .ok (.getfield 16, 3) := by decide +kernel
theorem d_Mo_typeLine_121 : decode b_Mo_typeLine 121 = .ok (.iload_n 1, 1) := by decide +kernel
theorem d_Mo_typeLine_122 : decode b_Mo_typeLine 122 = .ok (.iaload, 1) := by decide +kernel
theorem d_Mo_typeLine_123 : decode b_Mo_typeLine 123 = .ok (.iadd, 1) := by decide +kernel
theorem d_Mo_typeLine_124 : decode b_Mo_typeLine 124 = .ok (.iconst 0, 1) := by decide +kernel
theorem d_Mo_typeLine_125 : decode b_Mo_typeLine 125 = .ok (.iastore, 1) := by decide +kernel
theorem d_Mo_typeLine_126 : decode b_Mo_typeLine 126 = .ok (.aload_n 0, 1) := by decide +kernel
theorem d_Mo_typeLine_127 : decode b_Mo_typeLine 127 = .ok (.getfield 16, 3) := by decide +kernel
theorem d_Mo_typeLine_130 : decode b_Mo_typeLine 130 = .ok (.iload_n 1, 1) := by decide +kernel
theorem d_Mo_typeLine_131 : decode b_Mo_typeLine 131 = .ok (.dup2, 1) := by decide +kernel
theorem d_Mo_typeLine_132 : decode b_Mo_typeLine 132 = .ok (.iaload, 1) := by decide +kernel
theorem d_Mo_typeLine_133 : decode b_Mo_typeLine 133 = .ok (.iconst 1, 1) := by decide +kernel
theorem d_Mo_typeLine_134 : decode b_Mo_typeLine 134 = .ok (.iadd, 1) := by decide +kernel
theorem d_Mo_typeLine_135 : decode b_Mo_typeLine 135 = .ok (.iastore, 1) := by decide +kernel
theorem d_Mo_typeLine_136 : decode b_Mo_typeLine 136 = .ok (.aload_n 0, 1) := by decide +kernel
theorem d_Mo_typeLine_137 : decode b_Mo_typeLine 137 = .ok (.getfield 16, 3) := by decide +kernel
theorem d_Mo_typeLine_140 : decode b_Mo_typeLine 140 = .ok (.iload_n 1, 1) := by decide +kernel
theorem d_Mo_typeLine_141 : decode b_Mo_typeLine 141 = .ok (.iaload, 1) := by decide +kernel
theorem d_Mo_typeLine_142 : decode b_Mo_typeLine 142 = .ok (.iconst 1, 1) := by decide +kernel
theorem d_Mo_typeLine_143 : decode b_Mo_typeLine 143 = .ok (.isub, 1) := by decide +kernel
theorem d_Mo_typeLine_144 : decode b_Mo_typeLine 144 = .ok (.ireturn, 1) := by decide +kernel
theorem d_Mo_diagnostic_0 : decode b_Mo_diagnostic 0 = .ok (.aload_n 0, 1) := by decide +kernel
theorem d_Mo_diagnostic_1 : decode b_Mo_diagnostic 1 = .ok (.getfield 113, 3) := by decide +kernel
theorem d_Mo_diagnostic_4 : decode b_Mo_diagnostic 4 = .ok (.bipush 20, 2) := by decide +kernel
theorem d_Mo_diagnostic_6 : decode b_Mo_diagnostic 6 = .ok (.if_icmp .ge 10, 3) := by decide +kernel
theorem d_Mo_diagnostic_9 : decode b_Mo_diagnostic 9 = .ok (.aload_n 0, 1) := by decide +kernel
theorem d_Mo_diagnostic_10 : decode b_Mo_diagnostic 10 = .ok (.getfield 113, 3) := by decide +kernel
theorem d_Mo_diagnostic_13 : decode b_Mo_diagnostic 13 = .ok (.goto 5, 3) := by decide +kernel
theorem d_Mo_diagnostic_16 : decode b_Mo_diagnostic 16 = .ok (.bipush 20, 2) := by decide +kernel
theorem d_Mo_diagnostic_18 : decode b_Mo_diagnostic 18 = .ok (.istore_n 3, 1) := by decide +kernel
theorem d_Mo_diagnostic_19 : decode b_Mo_diagnostic 19 = .ok (.iload_n 1, 1) := by decide +kernel
theorem d_Mo_diagnostic_20 : decode b_Mo_diagnostic 20 = .ok (.ifCond .lt 17, 3) := by decide +kernel
theorem d_Mo_diagnostic_23 : decode b_Mo_diagnostic 23 = .ok (.iload_n 1, 1) := by decide +kernel
theorem d_Mo_diagnostic_24 : decode b_Mo_diagnostic 24 = .ok (.iload_n 3, 1) := by decide +kernel
theorem d_Mo_diagnostic_25 : decode b_Mo_diagnostic 25 = .ok (.if_icmp .ge 12, 3) := by decide +kernel
theorem d_Mo_diagnostic_28 : decode b_Mo_diagnostic 28 = .ok (.iload_n 2, 1) := by decide +kernel
theorem d_Mo_diagnostic_29 : decode b_Mo_diagnostic 29 = .ok (.ifCond .lt 8, 3) := by decide +kernel
theorem d_Mo_diagnostic_32 : decode b_Mo_diagnostic 32 = .ok (.iload_n 2, 1) := by decide +kernel
theorem d_Mo_diagnostic_33 : decode b_Mo_diagnostic 33 = .ok (.iconst 2, 1) := by decide +kernel
theorem d_Mo_diagnostic_34 : decode b_Mo_diagnostic 34 = .ok (.if_icmp .le 7, 3) := by decide +kernel
theorem d_Mo_diagnostic_37 : decode b_Mo_diagnostic 37 = .ok (.iconst (-1), 1) := by decide +kernel
theorem d_Mo_diagnostic_38 : decode b_Mo_diagnostic 38 = .ok (.goto 13, 3) := by decide +kernel
theorem d_Mo_diagnostic_41 : decode b_Mo_diagnostic 41 = .ok (.aload_n 0, 1) := by decide +kernel
theorem d_Mo_diagnostic_42 : decode b_Mo_diagnostic 42 = .ok (.getfield 13, 3) := by decide +kernel
theorem d_Mo_diagnostic_45 : decode b_Mo_diagnostic 45 = .ok (.iconst 3, 1) := by decide +kernel
theorem d_Mo_diagnostic_46 : decode b_Mo_diagnostic 46 = .ok (.iload_n 1, 1) := by decide +kernel
theorem d_Mo_diagnostic_47 : decode b_Mo_diagnostic 47 = .ok (.imul, 1) := by decide +kernel
theorem d_Mo_diagnostic_48 : decode b_Mo_diagnostic 48 = .ok (.iload_n 2, 1) := by decide +kernel
theorem d_Mo_diagnostic_49 : decode b_Mo_diagnostic 49 = .ok (.iadd, 1) := by decide +kernel
theorem d_Mo_diagnostic_50 : decode b_Mo_diagnostic 50 = .ok (.iaload, 1) := by decide +kernel
theorem d_Mo_diagnostic_51 : decode b_Mo_diagnostic 51 = .ok (.ireturn, 1) := by decide +kernel
theorem d_Mo_write_0 : decode b_Mo_write 0 = .ok (.iload_n 1, 1) := by decide +kernel
theorem d_Mo_write_1 : decode b_Mo_write 1 = .ok (.invokestatic 173, 3) := by decide +kernel
theorem d_Mo_write_4 : decode b_Mo_write 4 = .ok (.ifCond .eq 5, 3) := by decide +kernel
theorem d_Mo_write_7 : decode b_Mo_write 7 = .ok (.iconst (-1), 1) := by decide +kernel
theorem d_Mo_write_8 : decode b_Mo_write 8 = .ok (.ireturn, 1) := by decide +kernel
theorem d_Mo_write_9 : decode b_Mo_write 9 = .ok (.aload_n 0, 1) := by decide +kernel
theorem d_Mo_write_10 : decode b_Mo_write 10 = .ok (.iload_n 1, 1) := by decide +kernel
theorem d_Mo_write_11 : decode b_Mo_write 11 = .ok (.invokevirtual 176, 3) := by decide +kernel
theorem d_Mo_write_14 : decode b_Mo_write 14 = .ok (.istore_n 2, 1) := by decide +kernel
theorem d_Mo_write_15 : decode b_Mo_write 15 = .ok (.iconst 0, 1) := by decide +kernel
theorem d_Mo_write_16 : decode b_Mo_write 16 = .ok (.istore_n 3, 1) := by decide +kernel
theorem d_Mo_write_17 : decode b_Mo_write 17 = .ok (.iconst 0, 1) := by decide +kernel
theorem d_Mo_write_18 : decode b_Mo_write 18 = .ok (.istore 4, 2) := by decide +kernel
theorem d_Mo_write_20 : decode b_Mo_write 20 = .ok (.iload 4, 2) := by decide +kernel
theorem d_Mo_write_22 : decode b_Mo_write 22 = .ok (.bipush 110, 2) := by decide +kernel
theorem d_Mo_write_24 : decode b_Mo_write 24 = .ok (.if_icmp .ge 28, 3) := by decide +kernel
theorem d_Mo_write_27 : decode b_Mo_write 27 = .ok (.aload_n 0, 1) := by decide +kernel
theorem d_Mo_write_28 : decode b_Mo_write 28 = .ok (.iload_n 2, 1) := by decide +kernel
theorem d_Mo_write_29 : decode b_Mo_write 29 = .ok (.iload 4, 2) := by decide +kernel
theorem d_Mo_write_31 : decode b_Mo_write 31 = .ok (.invokevirtual 226, 3) := by decide +kernel
theorem d_Mo_write_34 : decode b_Mo_write 34 = .ok (.ifCond .eq 18, 3) := by decide +kernel
theorem d_Mo_write_37 : decode b_Mo_write 37 = .ok (.iload_n 3, 1) := by decide +kernel
theorem d_Mo_write_38 : decode b_Mo_write 38 = .ok (.aload_n 0, 1) := by decide +kernel
theorem d_Mo_write_39 : decode b_Mo_write 39 = .ok (.getfield 195, 3) := by decide +kernel
theorem d_Mo_write_42 : decode b_Mo_write 42 = .ok (.iconst 1, 1) := by decide +kernel
theorem d_Mo_write_43 : decode b_Mo_write 43 = .ok (.iadd, 1) := by decide +kernel
theorem d_Mo_write_44 : decode b_Mo_write 44 = .ok (.iadd, 1) := by decide +kernel
theorem d_Mo_write_45 : decode b_Mo_write 45 = .ok (.istore_n 3, 1) := by decide +kernel
theorem d_Mo_write_46 : decode b_Mo_write 46 = .ok (.iinc 4 1, 3) := by decide +kernel
theorem d_Mo_write_49 : decode b_Mo_write 49 = .ok (.goto (-29), 3) := by decide +kernel
theorem d_Mo_write_52 : decode b_Mo_write 52 = .ok (.iload_n 3, 1) := by decide +kernel
theorem d_Mo_write_53 : decode b_Mo_write 53 = .ok (.sipush 480, 3) := by decide +kernel
theorem d_Mo_write_56 : decode b_Mo_write 56 = .ok (.if_icmp .le 5, 3) := by decide +kernel
theorem d_Mo_write_59 : decode b_Mo_write 59 = .ok (.iconst (-1), 1) := by decide +kernel
theorem d_Mo_write_60 : decode b_Mo_write 60 = .ok (.ireturn, 1) := by decide +kernel
theorem d_Mo_write_61 : decode b_Mo_write 61 = .ok (.aload_n 0, 1) := by decide +kernel
theorem d_Mo_write_62 : decode b_Mo_write 62 = .ok (.iconst 0, 1) := by decide +kernel
theorem d_Mo_write_63 : decode b_Mo_write 63 = .ok (.putfield 52, 3) := by decide +kernel
theorem d_Mo_write_66 : decode b_Mo_write 66 = .ok (.iconst 0, 1) := by decide +kernel
theorem d_Mo_write_67 : decode b_Mo_write 67 = .ok (.istore 4, 2) := by decide +kernel
theorem d_Mo_write_69 : decode b_Mo_write 69 = .ok (.iload 4, 2) := by decide +kernel
theorem d_Mo_write_71 : decode b_Mo_write 71 = .ok (.bipush 110, 2) := by decide +kernel
theorem d_Mo_write_73 : decode b_Mo_write 73 = .ok (.if_icmp .ge 75, 3) := by decide +kernel
theorem d_Mo_write_76 : decode b_Mo_write 76 = .ok (.aload_n 0, 1) := by decide +kernel
theorem d_Mo_write_77 : decode b_Mo_write 77 = .ok (.iload_n 2, 1) := by decide +kernel
theorem d_Mo_write_78 : decode b_Mo_write 78 = .ok (.iload 4, 2) := by decide +kernel
theorem d_Mo_write_80 : decode b_Mo_write 80 = .ok (.invokevirtual 226, 3) := by decide +kernel
theorem d_Mo_write_83 : decode b_Mo_write 83 = .ok (.ifCond .eq 65, 3) := by decide +kernel
theorem d_Mo_write_86 : decode b_Mo_write 86 = .ok (.aload_n 0, 1) := by decide +kernel
theorem d_Mo_write_87 : decode b_Mo_write 87 = .ok (.bipush 10, 2) := by decide +kernel
theorem d_Mo_write_89 : decode b_Mo_write 89 = .ok (.invokevirtual 198, 3) := by decide +kernel
theorem d_Mo_write_92 : decode b_Mo_write 92 = .ok (.iconst 0, 1) := by decide +kernel
theorem d_Mo_write_93 : decode b_Mo_write 93 = .ok (.istore 5, 2) := by decide +kernel
theorem d_Mo_write_95 : decode b_Mo_write 95 = .ok (.iload 5, 2) := by decide +kernel
theorem d_Mo_write_97 : decode b_Mo_write 97 = .ok (.aload_n 0, 1) := by decide +kernel
theorem d_Mo_write_98 : decode b_Mo_write 98 = .ok (.getfield 195, 3) := by decide +kernel
theorem d_Mo_write_101 : decode b_Mo_write 101 = .ok (.if_icmp .ge 28, 3) := by decide +kernel
theorem d_Mo_write_104 : decode b_Mo_write 104 = .ok (.aload_n 0, 1) := by decide +kernel
theorem d_Mo_write_105 : decode b_Mo_write 105 = .ok (.getfield 7, 3) := by decide +kernel
theorem d_Mo_write_108 : decode b_Mo_write 108 = .ok (.aload_n 0, 1) := by decide +kernel
theorem d_Mo_write_109 : decode b_Mo_write 109 = .ok (.getfield 52, 3) := by decide +kernel
theorem d_Mo_write_112 : decode b_Mo_write 112 = .ok (.iload 5, 2) := by decide +kernel
theorem d_Mo_write_114 : decode b_Mo_write 114 = .ok (.iadd, 1) := by decide +kernel
theorem d_Mo_write_115 : decode b_Mo_write 115 = .ok (.aload_n 0, 1) := by decide +kernel
theorem d_Mo_write_116 : decode b_Mo_write 116 = .ok (.getfield 46, 3) := by decide +kernel
theorem d_Mo_write_119 : decode b_Mo_write 119 = .ok (.iload 5, 2) := by decide +kernel
theorem d_Mo_write_121 : decode b_Mo_write 121 = .ok (.iaload, 1) := by decide +kernel
theorem d_Mo_write_122 : decode b_Mo_write 122 = .ok (.iastore, 1) := by decide +kernel
theorem d_Mo_write_123 : decode b_Mo_write 123 = .ok (.iinc 5 1, 3) := by decide +kernel
theorem d_Mo_write_126 : decode b_Mo_write 126 = .ok (.goto (-31), 3) := by decide +kernel
theorem d_Mo_write_129 : decode b_Mo_write 129 = .ok (.aload_n 0, 1) := by decide +kernel
theorem d_Mo_write_130 : decode b_Mo_write 130 = .ok (.dup, 1) := by decide +kernel
theorem d_Mo_write_131 : decode b_Mo_write 131 = .ok (.getfield 52, 3) := by decide +kernel
theorem d_Mo_write_134 : decode b_Mo_write 134 = .ok (.aload_n 0, 1) := by decide +kernel
theorem d_Mo_write_135 : decode b_Mo_write 135 = .ok (.getfield 195, 3) := by decide +kernel
theorem d_Mo_write_138 : decode b_Mo_write 138 = .ok (.iadd, 1) := by decide +kernel
theorem d_Mo_write_139 : decode b_Mo_write 139 = .ok (.putfield 52, 3) := by decide +kernel
theorem d_Mo_write_142 : decode b_Mo_write 142 = .ok (.iinc 4 1, 3) := by decide +kernel
theorem d_Mo_write_145 : decode b_Mo_write 145 = .ok (.goto (-76), 3) := by decide +kernel
theorem d_Mo_write_148 : decode b_Mo_write 148 = .ok (.aload_n 0, 1) := by decide +kernel
theorem d_Mo_write_149 : decode b_Mo_write 149 = .ok (.getfield 52, 3) := by decide +kernel
theorem d_Mo_write_152 : decode b_Mo_write 152 = .ok (.ireturn, 1) := by decide +kernel
theorem d_Mo_lineOf_0 : decode b_Mo_lineOf 0 = .ok (.aload_n 0, 1) := by decide +kernel
theorem d_Mo_lineOf_1 : decode b_Mo_lineOf 1 = .ok (.iconst 0, 1) := by decide +kernel
theorem d_Mo_lineOf_2 : decode b_Mo_lineOf 2 = .ok (.putfield 195, 3) := by decide +kernel
theorem d_Mo_lineOf_5 : decode b_Mo_lineOf 5 = .ok (.iload_n 2, 1) := by decide +kernel
theorem d_Mo_lineOf_6 : decode b_Mo_lineOf 6 = .ok (.ifCond .ne 25, 3) := by decide +kernel
theorem d_Mo_lineOf_9 : decode b_Mo_lineOf 9 = .ok (.aload_n 0, 1) := by decide +kernel
theorem d_Mo_lineOf_10 : decode b_Mo_lineOf 10 = .ok (.ldc2_w 167, 3) := by decide +kernel
theorem d_Mo_lineOf_13 : decode b_Mo_lineOf 13 = .ok (.invokevirtual 206, 3) := by decide +kernel
theorem d_Mo_lineOf_16 : decode b_Mo_lineOf 16 = .ok (.aload_n 0, 1) := by decide +kernel
theorem d_Mo_lineOf_17 : decode b_Mo_lineOf 17 = .ok (.bipush 48, 2) := by decide +kernel
theorem d_Mo_lineOf_19 : decode b_Mo_lineOf 19 = .ok (.aload_n 0, 1) := by decide +kernel
theorem d_Mo_lineOf_20 : decode b_Mo_lineOf 20 = .ok (.getfield 19, 3) := by decide +kernel
theorem d_Mo_lineOf_23 : decode b_Mo_lineOf 23 = .ok (.iload_n 1, 1) := by decide +kernel
theorem d_Mo_lineOf_24 : decode b_Mo_lineOf 24 = .ok (.iaload, 1) := by decide +kernel
theorem d_Mo_lineOf_25 : decode b_Mo_lineOf 25 = .ok (.iadd, 1) := by decide +kernel
theorem d_Mo_lineOf_26 : decode b_Mo_lineOf 26 = .ok (.invokevirtual 198, 3) := by decide +kernel
theorem d_Mo_lineOf_29 : decode b_Mo_lineOf 29 = .ok (.iconst 1, 1) := by decide +kernel
theorem d_Mo_lineOf_30 : decode b_Mo_lineOf 30 = .ok (.ireturn, 1) := by decide +kernel
theorem d_Mo_lineOf_31 : decode b_Mo_lineOf 31 = .ok (.iload_n 2, 1) := by decide +kernel
theorem d_Mo_lineOf_32 : decode b_Mo_lineOf 32 = .ok (.iconst 1, 1) := by decide +kernel
theorem d_Mo_lineOf_33 : decode b_Mo_lineOf 33 = .ok (.isub, 1) := by decide +kernel
theorem d_Mo_lineOf_34 : decode b_Mo_lineOf 34 = .ok (.istore_n 3, 1) := by decide +kernel
theorem d_Mo_lineOf_35 : decode b_Mo_lineOf 35 = .ok (.iconst 0, 1) := by decide +kernel
theorem d_Mo_lineOf_36 : decode b_Mo_lineOf 36 = .ok (.istore 4, 2) := by decide +kernel
theorem d_Mo_lineOf_38 : decode b_Mo_lineOf 38 = .ok (.iload 4, 2) := by decide +kernel
theorem d_Mo_lineOf_40 : decode b_Mo_lineOf 40 = .ok (.aload_n 0, 1) := by decide +kernel
theorem d_Mo_lineOf_41 : decode b_Mo_lineOf 41 = .ok (.getfield 16, 3) := by decide +kernel
theorem d_Mo_lineOf_44 : decode b_Mo_lineOf 44 = .ok (.iload_n 1, 1) := by decide +kernel
theorem d_Mo_lineOf_45 : decode b_Mo_lineOf 45 = .ok (.iaload, 1) := by decide +kernel
theorem d_Mo_lineOf_46 : decode b_Mo_lineOf 46 = .ok (.if_icmp .ge 69, 3) := by decide +kernel
theorem d_Mo_lineOf_49 : decode b_Mo_lineOf 49 = .ok (.aload_n 0, 1) := by decide +kernel
theorem d_Mo_lineOf_50 : decode b_Mo_lineOf 50 = .ok (.iload_n 1, 1) := by decide +kernel
theorem d_Mo_lineOf_51 : decode b_Mo_lineOf 51 = .ok (.iload 4, 2) := by decide +kernel
theorem d_Mo_lineOf_53 : decode b_Mo_lineOf 53 = .ok (.invokevirtual 217, 3) := by decide +kernel
theorem d_Mo_lineOf_56 : decode b_Mo_lineOf 56 = .ok (.istore 5, 2) := by decide +kernel
theorem d_Mo_lineOf_58 : decode b_Mo_lineOf 58 = .ok (.iload_n 3, 1) := by decide +kernel
theorem d_Mo_lineOf_59 : decode b_Mo_lineOf 59 = .ok (.aload_n 0, 1) := by decide +kernel
theorem d_Mo_lineOf_60 : decode b_Mo_lineOf 60 = .ok (.iload 5, 2) := by decide +kernel
theorem d_Mo_lineOf_62 : decode b_Mo_lineOf 62 = .ok (.invokevirtual 192, 3) := by decide +kernel
theorem d_Mo_lineOf_65 : decode b_Mo_lineOf 65 = .ok (.if_icmp .gt 33, 3) := by decide +kernel
theorem d_Mo_lineOf_68 : decode b_Mo_lineOf 68 = .ok (.aload_n 0, 1) := by decide +kernel
theorem d_Mo_lineOf_69 : decode b_Mo_lineOf 69 = .ok (.iload_n 3, 1) := by decide +kernel
theorem d_Mo_lineOf_70 : decode b_Mo_lineOf 70 = .ok (.ifCond .ne 8, 3) := by decide +kernel
theorem d_Mo_lineOf_73 : decode b_Mo_lineOf 73 = .ok (.iload 5, 2) := by decide +kernel
theorem d_Mo_lineOf_75 : decode b_Mo_lineOf 75 = .ok (.goto 12, 3) := by decide +kernel
theorem d_Mo_lineOf_78 : decode b_Mo_lineOf 78 = .ok (.aload_n 0, 1) := by decide +kernel
theorem d_Mo_lineOf_79 : decode b_Mo_lineOf 79 = .ok (.iload 5, 2) := by decide +kernel
theorem d_Mo_lineOf_81 : decode b_Mo_lineOf 81 = .ok (.iload_n 3, 1) := by decide +kernel
theorem d_Mo_lineOf_82 : decode b_Mo_lineOf 82 = .ok (.iconst 1, 1) := by decide +kernel
theorem d_Mo_lineOf_83 : decode b_Mo_lineOf 83 = .ok (.isub, 1) := by decide +kernel
theorem d_Mo_lineOf_84 : decode b_Mo_lineOf 84 = .ok (.invokevirtual 220, 3) := by decide +kernel
theorem d_Mo_lineOf_87 : decode b_Mo_lineOf 87 = .ok (.aload_n 0, 1) := by decide +kernel
theorem d_Mo_lineOf_88 : decode b_Mo_lineOf 88 = .ok (.getfield 19, 3) := by decide +kernel
theorem d_Mo_lineOf_91 : decode b_Mo_lineOf 91 = .ok (.iload_n 1, 1) := by decide +kernel
theorem d_Mo_lineOf_92 : decode b_Mo_lineOf 92 = .ok (.iaload, 1) := by decide +kernel
theorem d_Mo_lineOf_93 : decode b_Mo_lineOf 93 = .ok (.invokevirtual 223, 3) := by decide +kernel
theorem d_Mo_lineOf_96 : decode b_Mo_lineOf 96 = .ok (.iconst 1, 1) := by decide +kernel
theorem d_Mo_lineOf_97 : decode b_Mo_lineOf 97 = .ok (.ireturn, 1) := by decide +kernel
theorem d_Mo_lineOf_98 : decode b_Mo_lineOf 98 = .ok (.iload_n 3, 1) := by decide +kernel
theorem d_Mo_lineOf_99 : decode b_Mo_lineOf 99 = .ok (.iconst 1, 1) := by decide +kernel
theorem d_Mo_lineOf_100 : decode b_Mo_lineOf 100 = .ok (.aload_n 0, 1) := by decide +kernel
theorem d_Mo_lineOf_101 : decode b_Mo_lineOf 101 = .ok (.iload 5, 2) := by decide +kernel
theorem d_Mo_lineOf_103 : decode b_Mo_lineOf 103 = .ok (.invokevirtual 192, 3) := by decide +kernel
theorem d_Mo_lineOf_106 : decode b_Mo_lineOf 106 = .ok (.iadd, 1) := by decide +kernel
theorem d_Mo_lineOf_107 : decode b_Mo_lineOf 107 = .ok (.isub, 1) := by decide +kernel
theorem d_Mo_lineOf_108 : decode b_Mo_lineOf 108 = .ok (.istore_n 3, 1) := by decide +kernel
theorem d_Mo_lineOf_109 : decode b_Mo_lineOf 109 = .ok (.iinc 4 1, 3) := by decide +kernel
theorem d_Mo_lineOf_112 : decode b_Mo_lineOf 112 = .ok (.goto (-74), 3) := by decide +kernel
theorem d_Mo_lineOf_115 : decode b_Mo_lineOf 115 = .ok (.iconst 0, 1) := by decide +kernel
theorem d_Mo_lineOf_116 : decode b_Mo_lineOf 116 = .ok (.ireturn, 1) := by decide +kernel
theorem d_Mo_say_0 : decode b_Mo_say 0 = .ok (.lconst 1, 1) := by decide +kernel
theorem d_Mo_say_1 : decode b_Mo_say 1 = .ok (.lstore_n 3, 1) := by decide +kernel
theorem d_Mo_say_2 : decode b_Mo_say 2 = .ok (.lload_n 1, 1) := by decide +kernel
theorem d_Mo_say_3 : decode b_Mo_say 3 = .ok (.lload_n 3, 1) := by decide +kernel
theorem d_Mo_say_4 : decode b_Mo_say 4 = .ok (.ldiv, 1) := by decide +kernel
theorem d_Mo_say_5 : decode b_Mo_say 5 = .ok (.ldc2_w 71, 3) := by decide +kernel
theorem d_Mo_say_8 : decode b_Mo_say 8 = .ok (.lcmp, 1) := by decide +kernel
theorem d_Mo_say_9 : decode b_Mo_say 9 = .ok (.ifCond .lt 12, 3) := by decide +kernel
theorem d_Mo_say_12 : decode b_Mo_say 12 = .ok (.lload_n 3, 1) := by decide +kernel
theorem d_Mo_say_13 : decode b_Mo_say 13 = .ok (.ldc2_w 71, 3) := by decide +kernel
theorem d_Mo_say_16 : decode b_Mo_say 16 = .ok (.lmul, 1) := by decide +kernel
theorem d_Mo_say_17 : decode b_Mo_say 17 = .ok (.lstore_n 3, 1) := by decide +kernel
theorem d_Mo_say_18 : decode b_Mo_say 18 = .ok (.goto (-16), 3) := by decide +kernel
theorem d_Mo_say_21 : decode b_Mo_say 21 = .ok (.lload_n 3, 1) := by decide +kernel
theorem d_Mo_say_22 : decode b_Mo_say 22 = .ok (.lconst 0, 1) := by decide +kernel
theorem d_Mo_say_23 : decode b_Mo_say 23 = .ok (.lcmp, 1) := by decide +kernel
theorem d_Mo_say_24 : decode b_Mo_say 24 = .ok (.ifCond .le 24, 3) := by decide +kernel
theorem d_Mo_say_27 : decode b_Mo_say 27 = .ok (.aload_n 0, 1) := by decide +kernel
theorem d_Mo_say_28 : decode b_Mo_say 28 = .ok (.lload_n 1, 1) := by decide +kernel
theorem d_Mo_say_29 : decode b_Mo_say 29 = .ok (.lload_n 3, 1) := by decide +kernel
theorem d_Mo_say_30 : decode b_Mo_say 30 = .ok (.ldiv, 1) := by decide +kernel
theorem d_Mo_say_31 : decode b_Mo_say 31 = .ok (.ldc2_w 71, 3) := by decide +kernel
theorem d_Mo_say_34 : decode b_Mo_say 34 = .ok (.lrem, 1) := by decide +kernel
theorem d_Mo_say_35 : decode b_Mo_say 35 = .ok (.l2i, 1) := by decide +kernel
theorem d_Mo_say_36 : decode b_Mo_say 36 = .ok (.invokevirtual 198, 3) := by decide +kernel
theorem d_Mo_say_39 : decode b_Mo_say 39 = .ok (.lload_n 3, 1) := by decide +kernel
theorem d_Mo_say_40 : decode b_Mo_say 40 = .ok (.ldc2_w 71, 3) := by decide +kernel
theorem d_Mo_say_43 : decode b_Mo_say 43 = .ok (.ldiv, 1) := by decide +kernel
theorem d_Mo_say_44 : decode b_Mo_say 44 = .ok (.lstore_n 3, 1) := by decide +kernel
theorem d_Mo_say_45 : decode b_Mo_say 45 = .ok (.goto (-24), 3) := by decide +kernel
theorem d_Mo_say_48 : decode b_Mo_say 48 = .ok (.aload_n 0, 1) := by decide +kernel
theorem d_Mo_say_49 : decode b_Mo_say 49 = .ok (.bipush 32, 2) := by decide +kernel
theorem d_Mo_say_51 : decode b_Mo_say 51 = .ok (.invokevirtual 198, 3) := by decide +kernel
theorem d_Mo_say_54 : decode b_Mo_say 54 = .ok (.return_, 1) := by decide +kernel
theorem d_Mo_put_0 : decode b_Mo_put 0 = .ok (.aload_n 0, 1) := by decide +kernel
theorem d_Mo_put_1 : decode b_Mo_put 1 = .ok (.getfield 46, 3) := by decide +kernel
theorem d_Mo_put_4 : decode b_Mo_put 4 = .ok (.aload_n 0, 1) := by decide +kernel
theorem d_Mo_put_5 : decode b_Mo_put 5 = .ok (.getfield 195, 3) := by decide +kernel
theorem d_Mo_put_8 : decode b_Mo_put 8 = .ok (.iload_n 1, 1) := by decide +kernel
theorem d_Mo_put_9 : decode b_Mo_put 9 = .ok (.iastore, 1) := by decide +kernel
theorem d_Mo_put_10 : decode b_Mo_put 10 = .ok (.aload_n 0, 1) := by decide +kernel
theorem d_Mo_put_11 : decode b_Mo_put 11 = .ok (.dup, 1) := by decide +kernel
theorem d_Mo_put_12 : decode b_Mo_put 12 = .ok (.getfield 195, 3) := by decide +kernel
theorem d_Mo_put_15 : decode b_Mo_put 15 = .ok (.iconst 1, 1) := by decide +kernel
theorem d_Mo_put_16 : decode b_Mo_put 16 = .ok (.iadd, 1) := by decide +kernel
theorem d_Mo_put_17 : decode b_Mo_put 17 = .ok (.putfield 195, 3) := by decide +kernel
theorem d_Mo_put_20 : decode b_Mo_put 20 = .ok (.return_, 1) := by decide +kernel
theorem d_Mo_typeRow_0 : decode b_Mo_typeRow 0 = .ok (.iconst 0, 1) := by decide +kernel
theorem d_Mo_typeRow_1 : decode b_Mo_typeRow 1 = .ok (.istore_n 3, 1) := by decide +kernel
theorem d_Mo_typeRow_2 : decode b_Mo_typeRow 2 = .ok (.iload_n 3, 1) := by decide +kernel
theorem d_Mo_typeRow_3 : decode b_Mo_typeRow 3 = .ok (.aload_n 0, 1) := by decide +kernel
theorem d_Mo_typeRow_4 : decode b_Mo_typeRow 4 = .ok (.getfield 16, 3) := by decide +kernel
theorem d_Mo_typeRow_7 : decode b_Mo_typeRow 7 = .ok (.iload_n 1, 1) := by decide +kernel
theorem d_Mo_typeRow_8 : decode b_Mo_typeRow 8 = .ok (.iaload, 1) := by decide +kernel
theorem d_Mo_typeRow_9 : decode b_Mo_typeRow 9 = .ok (.if_icmp .ge 68, 3) := by decide +kernel
theorem d_Mo_typeRow_12 : decode b_Mo_typeRow 12 = .ok (.iconst 0, 1) := by decide +kernel
theorem d_Mo_typeRow_13 : decode b_Mo_typeRow 13 = .ok (.istore 4, 2) := by decide +kernel
theorem d_Mo_typeRow_15 : decode b_Mo_typeRow 15 = .ok (.iconst 0, 1) := by decide +kernel
theorem d_Mo_typeRow_16 : decode b_Mo_typeRow 16 = .ok (.istore 5, 2) := by decide +kernel
theorem d_Mo_typeRow_18 : decode b_Mo_typeRow 18 = .ok (.iload 5, 2) := by decide +kernel
theorem d_Mo_typeRow_20 : decode b_Mo_typeRow 20 = .ok (.aload_n 0, 1) := by decide +kernel
theorem d_Mo_typeRow_21 : decode b_Mo_typeRow 21 = .ok (.getfield 16, 3) := by decide +kernel
theorem d_Mo_typeRow_24 : decode b_Mo_typeRow 24 = .ok (.iload_n 1, 1) := by decide +kernel
theorem d_Mo_typeRow_25 : decode b_Mo_typeRow 25 = .ok (.iaload, 1) := by decide +kernel
theorem d_Mo_typeRow_26 : decode b_Mo_typeRow 26 = .ok (.if_icmp .ge 32, 3) := by decide +kernel
theorem d_Mo_typeRow_29 : decode b_Mo_typeRow 29 = .ok (.aload_n 0, 1) := by decide +kernel
theorem d_Mo_typeRow_30 : decode b_Mo_typeRow 30 = .ok (.bipush 108, 2) := by decide +kernel
theorem d_Mo_typeRow_32 : decode b_Mo_typeRow 32 = .ok (.iload_n 1, 1) := by decide +kernel
theorem d_Mo_typeRow_33 : decode b_Mo_typeRow 33 = .ok (.imul, 1) := by decide +kernel
theorem d_Mo_typeRow_34 : decode b_Mo_typeRow 34 = .ok (.iload 5, 2) := by decide +kernel
theorem d_Mo_typeRow_36 : decode b_Mo_typeRow 36 = .ok (.iadd, 1) := by decide +kernel
theorem d_Mo_typeRow_37 : decode b_Mo_typeRow 37 = .ok (.bipush 108, 2) := by decide +kernel
theorem d_Mo_typeRow_39 : decode b_Mo_typeRow 39 = .ok (.iload_n 1, 1) := by decide +kernel
theorem d_Mo_typeRow_40 : decode b_Mo_typeRow 40 = .ok (.imul, 1) := by decide +kernel
theorem d_Mo_typeRow_41 : decode b_Mo_typeRow 41 = .ok (.iload_n 3, 1) := by decide +kernel
theorem d_Mo_typeRow_42 : decode b_Mo_typeRow 42 = .ok (.iadd, 1) := by decide +kernel
theorem d_Mo_typeRow_43 : decode b_Mo_typeRow 43 = .ok (.invokevirtual 152, 3) := by decide +kernel
theorem d_Mo_typeRow_46 : decode b_Mo_typeRow 46 = .ok (.ifCond .ge 6, 3) := by decide +kernel
theorem d_Mo_typeRow_49 : decode b_Mo_typeRow 49 = .ok (.iinc 4 1, 3) := by decide +kernel
theorem d_Mo_typeRow_52 : decode b_Mo_typeRow 52 = .ok (.iinc 5 1, 3) := by decide +kernel
theorem d_Mo_typeRow_55 : decode b_Mo_typeRow 55 = .ok (.goto (-37), 3) := by decide +kernel
theorem d_Mo_typeRow_58 : decode b_Mo_typeRow 58 = .ok (.iload 4, 2) := by decide +kernel
theorem d_Mo_typeRow_60 : decode b_Mo_typeRow 60 = .ok (.iload_n 2, 1) := by decide +kernel
theorem d_Mo_typeRow_61 : decode b_Mo_typeRow 61 = .ok (.if_icmp .ne 10, 3) := by decide +kernel
theorem d_Mo_typeRow_64 : decode b_Mo_typeRow 64 = .ok (.bipush 108, 2) := by decide +kernel
theorem d_Mo_typeRow_66 : decode b_Mo_typeRow 66 = .ok (.iload_n 1, 1) := by decide +kernel
theorem d_Mo_typeRow_67 : decode b_Mo_typeRow 67 = .ok (.imul, 1) := by decide +kernel
theorem d_Mo_typeRow_68 : decode b_Mo_typeRow 68 = .ok (.iload_n 3, 1) := by decide +kernel
theorem d_Mo_typeRow_69 : decode b_Mo_typeRow 69 = .ok (.iadd, 1) := by decide +kernel
theorem d_Mo_typeRow_70 : decode b_Mo_typeRow 70 = .ok (.ireturn, 1) := by decide +kernel
theorem d_Mo_typeRow_71 : decode b_Mo_typeRow 71 = .ok (.iinc 3 1, 3) := by decide +kernel
theorem d_Mo_typeRow_74 : decode b_Mo_typeRow 74 = .ok (.goto (-72), 3) := by decide +kernel
theorem d_Mo_typeRow_77 : decode b_Mo_typeRow 77 = .ok (.iconst (-1), 1) := by decide +kernel
theorem d_Mo_typeRow_78 : decode b_Mo_typeRow 78 = .ok (.ireturn, 1) := by decide +kernel
theorem d_Mo_count_0 : decode b_Mo_count 0 = .ok (.iload_n 1, 1) := by decide +kernel
theorem d_Mo_count_1 : decode b_Mo_count 1 = .ok (.ifCond .ge 7, 3) := by decide +kernel
theorem d_Mo_count_4 : decode b_Mo_count 4 = .ok (.iconst 0, 1) := by decide +kernel
theorem d_Mo_count_5 : decode b_Mo_count 5 = .ok (.goto 20, 3) := by decide +kernel
theorem d_Mo_count_8 : decode b_Mo_count 8 = .ok (.aload_n 0, 1) := by decide +kernel
theorem d_Mo_count_9 : decode b_Mo_count 9 = .ok (.getfield 40, 3) := by decide +kernel
theorem d_Mo_count_12 : decode b_Mo_count 12 = .ok (.iload_n 1, 1) := by decide +kernel
theorem d_Mo_count_13 : decode b_Mo_count 13 = .ok (.bipush 108, 2) := by decide +kernel
theorem d_Mo_count_15 : decode b_Mo_count 15 = .ok (.idiv, 1) := by decide +kernel
theorem d_Mo_count_16 : decode b_Mo_count 16 = .ok (.bipush 12, 2) := by decide +kernel
theorem d_Mo_count_18 : decode b_Mo_count 18 = .ok (.imul, 1) := by decide +kernel
theorem d_Mo_count_19 : decode b_Mo_count 19 = .ok (.iload_n 1, 1) := by decide +kernel
theorem d_Mo_count_20 : decode b_Mo_count 20 = .ok (.bipush 108, 2) := by decide +kernel
theorem d_Mo_count_22 : decode b_Mo_count 22 = .ok (.irem, 1) := by decide +kernel
theorem d_Mo_count_23 : decode b_Mo_count 23 = .ok (.iadd, 1) := by decide +kernel
theorem d_Mo_count_24 : decode b_Mo_count 24 = .ok (.iaload, 1) := by decide +kernel
theorem d_Mo_count_25 : decode b_Mo_count 25 = .ok (.ireturn, 1) := by decide +kernel
theorem d_Mo_memberRow_0 : decode b_Mo_memberRow 0 = .ok (.iload_n 1, 1) := by decide +kernel
theorem d_Mo_memberRow_1 : decode b_Mo_memberRow 1 = .ok (.bipush 108, 2) := by decide +kernel
theorem d_Mo_memberRow_3 : decode b_Mo_memberRow 3 = .ok (.idiv, 1) := by decide +kernel
theorem d_Mo_memberRow_4 : decode b_Mo_memberRow 4 = .ok (.bipush 108, 2) := by decide +kernel
theorem d_Mo_memberRow_6 : decode b_Mo_memberRow 6 = .ok (.imul, 1) := by decide +kernel
theorem d_Mo_memberRow_7 : decode b_Mo_memberRow 7 = .ok (.bipush 12, 2) := by decide +kernel
theorem d_Mo_memberRow_9 : decode b_Mo_memberRow 9 = .ok (.iadd, 1) := by decide +kernel
theorem d_Mo_memberRow_10 : decode b_Mo_memberRow 10 = .ok (.bipush 8, 2) := by decide +kernel
theorem d_Mo_memberRow_12 : decode b_Mo_memberRow 12 = .ok (.iload_n 1, 1) := by decide +kernel
theorem d_Mo_memberRow_13 : decode b_Mo_memberRow 13 = .ok (.bipush 108, 2) := by decide +kernel
theorem d_Mo_memberRow_15 : decode b_Mo_memberRow 15 = .ok (.irem, 1) := by decide +kernel
theorem d_Mo_memberRow_16 : decode b_Mo_memberRow 16 = .ok (.imul, 1) := by decide +kernel
theorem d_Mo_memberRow_17 : decode b_Mo_memberRow 17 = .ok (.iadd, 1) := by decide +kernel
theorem d_Mo_memberRow_18 : decode b_Mo_memberRow 18 = .ok (.istore_n 3, 1) := by decide +kernel
theorem d_Mo_memberRow_19 : decode b_Mo_memberRow 19 = .ok (.iload_n 3, 1) := by decide +kernel
theorem d_Mo_memberRow_20 : decode b_Mo_memberRow 20 = .ok (.istore 4, 2) := by decide +kernel
theorem d_Mo_memberRow_22 : decode b_Mo_memberRow 22 = .ok (.iload 4, 2) := by decide +kernel
theorem d_Mo_memberRow_24 : decode b_Mo_memberRow 24 = .ok (.iload_n 3, 1) := by decide +kernel
theorem d_Mo_memberRow_25 : decode b_Mo_memberRow 25 = .ok (.aload_n 0, 1) := by decide +kernel
theorem d_Mo_memberRow_26 : decode b_Mo_memberRow 26 = .ok (.iload_n 1, 1) := by decide +kernel
theorem d_Mo_memberRow_27 : decode b_Mo_memberRow 27 = .ok (.invokevirtual 192, 3) := by decide +kernel
theorem d_Mo_memberRow_30 : decode b_Mo_memberRow 30 = .ok (.iadd, 1) := by decide +kernel
theorem d_Mo_memberRow_31 : decode b_Mo_memberRow 31 = .ok (.if_icmp .ge 56, 3) := by decide +kernel
theorem d_Mo_memberRow_34 : decode b_Mo_memberRow 34 = .ok (.iconst 0, 1) := by decide +kernel
theorem d_Mo_memberRow_35 : decode b_Mo_memberRow 35 = .ok (.istore 5, 2) := by decide +kernel
theorem d_Mo_memberRow_37 : decode b_Mo_memberRow 37 = .ok (.iload_n 3, 1) := by decide +kernel
theorem d_Mo_memberRow_38 : decode b_Mo_memberRow 38 = .ok (.istore 6, 2) := by decide +kernel
theorem d_Mo_memberRow_40 : decode b_Mo_memberRow 40 = .ok (.iload 6, 2) := by decide +kernel
theorem d_Mo_memberRow_42 : decode b_Mo_memberRow 42 = .ok (.iload_n 3, 1) := by decide +kernel
theorem d_Mo_memberRow_43 : decode b_Mo_memberRow 43 = .ok (.aload_n 0, 1) := by decide +kernel
theorem d_Mo_memberRow_44 : decode b_Mo_memberRow 44 = .ok (.iload_n 1, 1) := by decide +kernel
theorem d_Mo_memberRow_45 : decode b_Mo_memberRow 45 = .ok (.invokevirtual 192, 3) := by decide +kernel
theorem d_Mo_memberRow_48 : decode b_Mo_memberRow 48 = .ok (.iadd, 1) := by decide +kernel
theorem d_Mo_memberRow_49 : decode b_Mo_memberRow 49 = .ok (.if_icmp .ge 23, 3) := by decide +kernel
theorem d_Mo_memberRow_52 : decode b_Mo_memberRow 52 = .ok (.aload_n 0, 1) := by decide +kernel
theorem d_Mo_memberRow_53 : decode b_Mo_memberRow 53 = .ok (.iload 6, 2) := by decide +kernel
theorem d_Mo_memberRow_55 : decode b_Mo_memberRow 55 = .ok (.iload 4, 2) := by decide +kernel
theorem d_Mo_memberRow_57 : decode b_Mo_memberRow 57 = .ok (.invokevirtual 164, 3) := by decide +kernel
theorem d_Mo_memberRow_60 : decode b_Mo_memberRow 60 = .ok (.ifCond .ge 6, 3) := by decide +kernel
theorem d_Mo_memberRow_63 : decode b_Mo_memberRow 63 = .ok (.iinc 5 1, 3) := by decide +kernel
theorem d_Mo_memberRow_66 : decode b_Mo_memberRow 66 = .ok (.iinc 6 1, 3) := by decide +kernel
theorem d_Mo_memberRow_69 : decode b_Mo_memberRow 69 = .ok (.goto (-29), 3) := by decide +kernel
theorem d_Mo_memberRow_72 : decode b_Mo_memberRow 72 = .ok (.iload 5, 2) := by decide +kernel
theorem d_Mo_memberRow_74 : decode b_Mo_memberRow 74 = .ok (.iload_n 2, 1) := by decide +kernel
theorem d_Mo_memberRow_75 : decode b_Mo_memberRow 75 = .ok (.if_icmp .ne 6, 3) := by decide +kernel
theorem d_Mo_memberRow_78 : decode b_Mo_memberRow 78 = .ok (.iload 4, 2) := by decide +kernel
theorem d_Mo_memberRow_80 : decode b_Mo_memberRow 80 = .ok (.ireturn, 1) := by decide +kernel
theorem d_Mo_memberRow_81 : decode b_Mo_memberRow 81 = .ok (.iinc 4 1, 3) := by decide +kernel
theorem d_Mo_memberRow_84 : decode b_Mo_memberRow 84 = .ok (.goto (-62), 3) := by decide +kernel
theorem d_Mo_memberRow_87 : decode b_Mo_memberRow 87 = .ok (.iconst (-1), 1) := by decide +kernel
theorem d_Mo_memberRow_88 : decode b_Mo_memberRow 88 = .ok (.ireturn, 1) := by decide +kernel
theorem d_Mo_rowLine_0 : decode b_Mo_rowLine 0 = .ok (.iload_n 1, 1) := by decide +kernel
theorem d_Mo_rowLine_1 : decode b_Mo_rowLine 1 = .ok (.bipush 108, 2) := by decide +kernel
theorem d_Mo_rowLine_3 : decode b_Mo_rowLine 3 = .ok (.irem, 1) := by decide +kernel
theorem d_Mo_rowLine_4 : decode b_Mo_rowLine 4 = .ok (.bipush 12, 2) := by decide +kernel
theorem d_Mo_rowLine_6 : decode b_Mo_rowLine 6 = .ok (.if_icmp .lt 7, 3) := by decide +kernel
theorem d_Mo_rowLine_9 : decode b_Mo_rowLine 9 = .ok (.iconst 1, 1) := by decide +kernel
theorem d_Mo_rowLine_10 : decode b_Mo_rowLine 10 = .ok (.goto 4, 3) := by decide +kernel
theorem d_Mo_rowLine_13 : decode b_Mo_rowLine 13 = .ok (.iconst 0, 1) := by decide +kernel
theorem d_Mo_rowLine_14 : decode b_Mo_rowLine 14 = .ok (.istore_n 3, 1) := by decide +kernel
theorem d_Mo_rowLine_15 : decode b_Mo_rowLine 15 = .ok (.iload_n 3, 1) := by decide +kernel
theorem d_Mo_rowLine_16 : decode b_Mo_rowLine 16 = .ok (.ifCond .eq 15, 3) := by decide +kernel
theorem d_Mo_rowLine_19 : decode b_Mo_rowLine 19 = .ok (.aload_n 0, 1) := by decide +kernel
theorem d_Mo_rowLine_20 : decode b_Mo_rowLine 20 = .ok (.bipush 32, 2) := by decide +kernel
theorem d_Mo_rowLine_22 : decode b_Mo_rowLine 22 = .ok (.invokevirtual 198, 3) := by decide +kernel
theorem d_Mo_rowLine_25 : decode b_Mo_rowLine 25 = .ok (.aload_n 0, 1) := by decide +kernel
theorem d_Mo_rowLine_26 : decode b_Mo_rowLine 26 = .ok (.bipush 32, 2) := by decide +kernel
theorem d_Mo_rowLine_28 : decode b_Mo_rowLine 28 = .ok (.invokevirtual 198, 3) := by decide +kernel
theorem d_Mo_rowLine_31 : decode b_Mo_rowLine 31 = .ok (.iconst 0, 1) := by decide +kernel
theorem d_Mo_rowLine_32 : decode b_Mo_rowLine 32 = .ok (.istore 4, 2) := by decide +kernel
theorem d_Mo_rowLine_34 : decode b_Mo_rowLine 34 = .ok (.iload 4, 2) := by decide +kernel
theorem d_Mo_rowLine_36 : decode b_Mo_rowLine 36 = .ok (.iconst 5, 1) := by decide +kernel
theorem d_Mo_rowLine_37 : decode b_Mo_rowLine 37 = .ok (.if_icmp .ge 33, 3) := by decide +kernel
theorem d_Mo_rowLine_40 : decode b_Mo_rowLine 40 = .ok (.aload_n 0, 1) := by decide +kernel
theorem d_Mo_rowLine_41 : decode b_Mo_rowLine 41 = .ok (.getfield 37, 3) := by decide +kernel
theorem d_Mo_rowLine_44 : decode b_Mo_rowLine 44 = .ok (.iload_n 1, 1) := by decide +kernel
theorem d_Mo_rowLine_45 : decode b_Mo_rowLine 45 = .ok (.iaload, 1) := by decide +kernel
theorem d_Mo_rowLine_46 : decode b_Mo_rowLine 46 = .ok (.iload 4, 2) := by decide +kernel
theorem d_Mo_rowLine_48 : decode b_Mo_rowLine 48 = .ok (.ishr, 1) := by decide +kernel
theorem d_Mo_rowLine_49 : decode b_Mo_rowLine 49 = .ok (.iconst 1, 1) := by decide +kernel
theorem d_Mo_rowLine_50 : decode b_Mo_rowLine 50 = .ok (.iand, 1) := by decide +kernel
theorem d_Mo_rowLine_51 : decode b_Mo_rowLine 51 = .ok (.ifCond .eq 13, 3) := by decide +kernel
theorem d_Mo_rowLine_54 : decode b_Mo_rowLine 54 = .ok (.aload_n 0, 1) := by decide +kernel
theorem d_Mo_rowLine_55 : decode b_Mo_rowLine 55 = .ok (.iload_n 3, 1) := by decide +kernel
theorem d_Mo_rowLine_56 : decode b_Mo_rowLine 56 = .ok (.iload 4, 2) := by decide +kernel
theorem d_Mo_rowLine_58 : decode b_Mo_rowLine 58 = .ok (.invokestatic 202, 3) := by decide +kernel
theorem d_Mo_rowLine_61 : decode b_Mo_rowLine 61 = .ok (.invokevirtual 206, 3) := by decide +kernel
theorem d_Mo_rowLine_64 : decode b_Mo_rowLine 64 = .ok (.iinc 4 1, 3) := by decide +kernel
theorem d_Mo_rowLine_67 : decode b_Mo_rowLine 67 = .ok (.goto (-33), 3) := by decide +kernel
theorem d_Mo_rowLine_70 : decode b_Mo_rowLine 70 = .ok (.aload_n 0, 1) := by decide +kernel
theorem d_Mo_rowLine_71 : decode b_Mo_rowLine 71 = .ok (.iload_n 3, 1) := by decide +kernel
theorem d_Mo_rowLine_72 : decode b_Mo_rowLine 72 = .ok (.aload_n 0, 1) := by decide +kernel
theorem d_Mo_rowLine_73 : decode b_Mo_rowLine 73 = .ok (.getfield 34, 3) := by decide +kernel
theorem d_Mo_rowLine_76 : decode b_Mo_rowLine 76 = .ok (.iload_n 1, 1) := by decide +kernel
theorem d_Mo_rowLine_77 : decode b_Mo_rowLine 77 = .ok (.iaload, 1) := by decide +kernel
theorem d_Mo_rowLine_78 : decode b_Mo_rowLine 78 = .ok (.invokestatic 210, 3) := by decide +kernel
theorem d_Mo_rowLine_81 : decode b_Mo_rowLine 81 = .ok (.invokevirtual 206, 3) := by decide +kernel
theorem d_Mo_rowLine_84 : decode b_Mo_rowLine 84 = .ok (.aload_n 0, 1) := by decide +kernel
theorem d_Mo_rowLine_85 : decode b_Mo_rowLine 85 = .ok (.iconst 1, 1) := by decide +kernel
theorem d_Mo_rowLine_86 : decode b_Mo_rowLine 86 = .ok (.iload_n 1, 1) := by decide +kernel
theorem d_Mo_rowLine_87 : decode b_Mo_rowLine 87 = .ok (.iload_n 2, 1) := by decide +kernel
theorem d_Mo_rowLine_88 : decode b_Mo_rowLine 88 = .ok (.invokevirtual 213, 3) := by decide +kernel
theorem d_Mo_rowLine_91 : decode b_Mo_rowLine 91 = .ok (.iload_n 3, 1) := by decide +kernel
theorem d_Mo_rowLine_92 : decode b_Mo_rowLine 92 = .ok (.ifCond .eq 16, 3) := by decide +kernel
theorem d_Mo_rowLine_95 : decode b_Mo_rowLine 95 = .ok (.aload_n 0, 1) := by decide +kernel
theorem d_Mo_rowLine_96 : decode b_Mo_rowLine 96 = .ok (.bipush 32, 2) := by decide +kernel
theorem d_Mo_rowLine_98 : decode b_Mo_rowLine 98 = .ok (.invokevirtual 198, 3) := by decide +kernel
theorem d_Mo_rowLine_101 : decode b_Mo_rowLine 101 = .ok (.aload_n 0, 1) := by decide +kernel
theorem d_Mo_rowLine_102 : decode b_Mo_rowLine 102 = .ok (.iconst 0, 1) := by decide +kernel
theorem d_Mo_rowLine_103 : decode b_Mo_rowLine 103 = .ok (.iload_n 1, 1) := by decide +kernel
theorem d_Mo_rowLine_104 : decode b_Mo_rowLine 104 = .ok (.iload_n 2, 1) := by decide +kernel
theorem d_Mo_rowLine_105 : decode b_Mo_rowLine 105 = .ok (.invokevirtual 213, 3) := by decide +kernel
theorem d_Mo_rowLine_108 : decode b_Mo_rowLine 108 = .ok (.return_, 1) := by decide +kernel
