theorem d_Mo_init_0 : decode b_Mo_init 0 = .ok (.aload_n 0, 1) := by decide +kernel
theorem d_Mo_init_1 : decode b_Mo_init 1 = .ok (.invokespecial 1, 3) := by decide +kernel
theorem d_Mo_init_4 : decode b_Mo_init 4 = .ok (.aload_n 0, 1) := by decide +kernel
theorem d_Mo_init_5 : decode b_Mo_init 5 = .ok (.sipush 480, 3) := by decide +kernel
theorem d_Mo_init_8 : decode b_Mo_init 8 = .ok (.newarray .int, 2) := by decide +kernel
theorem d_Mo_init_10 : decode b_Mo_init 10 = .ok (.putfield 7, 3) := by decide +kernel
theorem d_Mo_init_13 : decode b_Mo_init 13 = .ok (.aload_n 0, 1) := by decide +kernel
theorem d_Mo_init_14 : decode b_Mo_init 14 = .ok (.bipush 60, 2) := by decide +kernel
theorem d_Mo_init_16 : decode b_Mo_init 16 = .ok (.newarray .int, 2) := by decide +kernel
theorem d_Mo_init_18 : decode b_Mo_init 18 = .ok (.putfield 13, 3) := by decide +kernel
theorem d_Mo_init_21 : decode b_Mo_init 21 = .ok (.aload_n 0, 1) := by decide +kernel
theorem d_Mo_init_22 : decode b_Mo_init 22 = .ok (.iconst 2, 1) := by decide +kernel
theorem d_Mo_init_23 : decode b_Mo_init 23 = .ok (.newarray .int, 2) := by decide +kernel
theorem d_Mo_init_25 : decode b_Mo_init 25 = .ok (.putfield 16, 3) := by decide +kernel
theorem d_Mo_init_28 : decode b_Mo_init 28 = .ok (.aload_n 0, 1) := by decide +kernel
theorem d_Mo_init_29 : decode b_Mo_init 29 = .ok (.iconst 2, 1) := by decide +kernel
theorem d_Mo_init_30 : decode b_Mo_init 30 = .ok (.newarray .int, 2) := by decide +kernel
theorem d_Mo_init_32 : decode b_Mo_init 32 = .ok (.dup, 1) := by decide +kernel
theorem d_Mo_init_33 : decode b_Mo_init 33 = .ok (.iconst 0, 1) := by decide +kernel
theorem d_Mo_init_34 : decode b_Mo_init 34 = .ok (.iconst 2, 1) := by decide +kernel
theorem d_Mo_init_35 : decode b_Mo_init 35 = .ok (.iastore, 1) := by decide +kernel
theorem d_Mo_init_36 : decode b_Mo_init 36 = .ok (.dup, 1) := by decide +kernel
theorem d_Mo_init_37 : decode b_Mo_init 37 = .ok (.iconst 1, 1) := by decide +kernel
theorem d_Mo_init_38 : decode b_Mo_init 38 = .ok (.iconst 2, 1) := by decide +kernel
theorem d_Mo_init_39 : decode b_Mo_init 39 = .ok (.iastore, 1) := by decide +kernel
theorem d_Mo_init_40 : decode b_Mo_init 40 = .ok (.putfield 19, 3) := by decide +kernel
theorem d_Mo_init_43 : decode b_Mo_init 43 = .ok (.aload_n 0, 1) := by decide +kernel
theorem d_Mo_init_44 : decode b_Mo_init 44 = .ok (.sipush 4340, 3) := by decide +kernel
theorem d_Mo_init_47 : decode b_Mo_init 47 = .ok (.newarray .int, 2) := by decide +kernel
theorem d_Mo_init_49 : decode b_Mo_init 49 = .ok (.putfield 22, 3) := by decide +kernel
theorem d_Mo_init_52 : decode b_Mo_init 52 = .ok (.aload_n 0, 1) := by decide +kernel
theorem d_Mo_init_53 : decode b_Mo_init 53 = .ok (.sipush 4340, 3) := by decide +kernel
theorem d_Mo_init_56 : decode b_Mo_init 56 = .ok (.newarray .int, 2) := by decide +kernel
theorem d_Mo_init_58 : decode b_Mo_init 58 = .ok (.putfield 25, 3) := by decide +kernel
theorem d_Mo_init_61 : decode b_Mo_init 61 = .ok (.aload_n 0, 1) := by decide +kernel
theorem d_Mo_init_62 : decode b_Mo_init 62 = .ok (.sipush 217, 3) := by decide +kernel
theorem d_Mo_init_65 : decode b_Mo_init 65 = .ok (.newarray .int, 2) := by decide +kernel
theorem d_Mo_init_67 : decode b_Mo_init 67 = .ok (.putfield 28, 3) := by decide +kernel
theorem d_Mo_init_70 : decode b_Mo_init 70 = .ok (.aload_n 0, 1) := by decide +kernel
theorem d_Mo_init_71 : decode b_Mo_init 71 = .ok (.sipush 217, 3) := by decide +kernel
theorem d_Mo_init_74 : decode b_Mo_init 74 = .ok (.newarray .int, 2) := by decide +kernel
theorem d_Mo_init_76 : decode b_Mo_init 76 = .ok (.putfield 31, 3) := by decide +kernel
theorem d_Mo_init_79 : decode b_Mo_init 79 = .ok (.aload_n 0, 1) := by decide +kernel
theorem d_Mo_init_80 : decode b_Mo_init 80 = .ok (.sipush 217, 3) := by decide +kernel
theorem d_Mo_init_83 : decode b_Mo_init 83 = .ok (.newarray .int, 2) := by decide +kernel
theorem d_Mo_init_85 : decode b_Mo_init 85 = .ok (.putfield 34, 3) := by decide +kernel
theorem d_Mo_init_88 : decode b_Mo_init 88 = .ok (.aload_n 0, 1) := by decide +kernel
theorem d_Mo_init_89 : decode b_Mo_init 89 = .ok (.sipush 217, 3) := by decide +kernel
theorem d_Mo_init_92 : decode b_Mo_init 92 = .ok (.newarray .int, 2) := by decide +kernel
theorem d_Mo_init_94 : decode b_Mo_init 94 = .ok (.putfield 37, 3) := by decide +kernel
theorem d_Mo_init_97 : decode b_Mo_init 97 = .ok (.aload_n 0, 1) := by decide +kernel
theorem d_Mo_init_98 : decode b_Mo_init 98 = .ok (.bipush 24, 2) := by decide +kernel
theorem d_Mo_init_100 : decode b_Mo_init 100 = .ok (.newarray .int, 2) := by decide +kernel
theorem d_Mo_init_102 : decode b_Mo_init 102 = .ok (.putfield 40, 3) := by decide +kernel
theorem d_Mo_init_105 : decode b_Mo_init 105 = .ok (.aload_n 0, 1) := by decide +kernel
theorem d_Mo_init_106 : decode b_Mo_init 106 = .ok (.bipush 20, 2) := by decide +kernel
theorem d_Mo_init_108 : decode b_Mo_init 108 = .ok (.newarray .int, 2) := by decide +kernel
theorem d_Mo_init_110 : decode b_Mo_init 110 = .ok (.putfield 43, 3) := by decide +kernel
theorem d_Mo_init_113 : decode b_Mo_init 113 = .ok (.aload_n 0, 1) := by decide +kernel
theorem d_Mo_init_114 : decode b_Mo_init 114 = .ok (.sipush 300, 3) := by decide +kernel
theorem d_Mo_init_117 : decode b_Mo_init 117 = .ok (.newarray .int, 2) := by decide +kernel
theorem d_Mo_init_119 : decode b_Mo_init 119 = .ok (.putfield 46, 3) := by decide +kernel
theorem d_Mo_init_122 : decode b_Mo_init 122 = .ok (.aload_n 0, 1) := by decide +kernel
theorem d_Mo_init_123 : decode b_Mo_init 123 = .ok (.sipush 300, 3) := by decide +kernel
theorem d_Mo_init_126 : decode b_Mo_init 126 = .ok (.newarray .int, 2) := by decide +kernel
theorem d_Mo_init_128 : decode b_Mo_init 128 = .ok (.putfield 49, 3) := by decide +kernel
theorem d_Mo_init_131 : decode b_Mo_init 131 = .ok (.return_, 1) := by decide +kernel
theorem d_Mo_type_0 : decode b_Mo_type 0 = .ok (.iload_n 3, 1) := by decide +kernel
theorem d_Mo_type_1 : decode b_Mo_type 1 = .ok (.iconst 1, 1) := by decide +kernel
theorem d_Mo_type_2 : decode b_Mo_type 2 = .ok (.if_icmp .lt 21, 3) := by decide +kernel
theorem d_Mo_type_5 : decode b_Mo_type 5 = .ok (.iload_n 3, 1) := by decide +kernel
theorem d_Mo_type_6 : decode b_Mo_type 6 = .ok (.bipush 8, 2) := by decide +kernel
theorem d_Mo_type_8 : decode b_Mo_type 8 = .ok (.if_icmp .gt 15, 3) := by decide +kernel
theorem d_Mo_type_11 : decode b_Mo_type 11 = .ok (.aload_n 0, 1) := by decide +kernel
theorem d_Mo_type_12 : decode b_Mo_type 12 = .ok (.getfield 52, 3) := by decide +kernel
theorem d_Mo_type_15 : decode b_Mo_type 15 = .ok (.iload_n 3, 1) := by decide +kernel
theorem d_Mo_type_16 : decode b_Mo_type 16 = .ok (.iadd, 1) := by decide +kernel
theorem d_Mo_type_17 : decode b_Mo_type 17 = .ok (.sipush 480, 3) := by decide +kernel
theorem d_Mo_type_20 : decode b_Mo_type 20 = .ok (.if_icmp .le 5, 3) := by decide +kernel
theorem d_Mo_type_23 : decode b_Mo_type 23 = .ok (.iconst (-1), 1) := by decide +kernel
theorem d_Mo_type_24 : decode b_Mo_type 24 = .ok (.ireturn, 1) := by decide +kernel
theorem d_Mo_type_25 : decode b_Mo_type 25 = .ok (.iconst 0, 1) := by decide +kernel
theorem d_Mo_type_26 : decode b_Mo_type 26 = .ok (.istore 4, 2) := by decide +kernel
theorem d_Mo_type_28 : decode b_Mo_type 28 = .ok (.iload 4, 2) := by decide +kernel
theorem d_Mo_type_30 : decode b_Mo_type 30 = .ok (.iload_n 3, 1) := by decide +kernel
theorem d_Mo_type_31 : decode b_Mo_type 31 = .ok (.if_icmp .ge 46, 3) := by decide +kernel
theorem d_Mo_type_34 : decode b_Mo_type 34 = .ok (.lload_n 1, 1) := by decide +kernel
theorem d_Mo_type_35 : decode b_Mo_type 35 = .ok (.bipush 8, 2) := by decide +kernel
theorem d_Mo_type_37 : decode b_Mo_type 37 = .ok (.iload 4, 2) := by decide +kernel
theorem d_Mo_type_39 : decode b_Mo_type 39 = .ok (.imul, 1) := by decide +kernel
theorem d_Mo_type_40 : decode b_Mo_type 40 = .ok (.lshr, 1) := by decide +kernel
theorem d_Mo_type_41 : decode b_Mo_type 41 = .ok (.ldc2_w 56, 3) := by decide +kernel
theorem d_Mo_type_44 : decode b_Mo_type 44 = .ok (.land, 1) := by decide +kernel
theorem d_Mo_type_45 : decode b_Mo_type 45 = .ok (.l2i, 1) := by decide +kernel
theorem d_Mo_type_46 : decode b_Mo_type 46 = .ok (.istore 5, 2) := by decide +kernel
theorem d_Mo_type_48 : decode b_Mo_type 48 = .ok (.iload 5, 2) := by decide +kernel
theorem d_Mo_type_50 : decode b_Mo_type 50 = .ok (.bipush 10, 2) := by decide +kernel
theorem d_Mo_type_52 : decode b_Mo_type 52 = .ok (.if_icmp .eq 19, 3) := by decide +kernel
theorem d_Mo_type_55 : decode b_Mo_type 55 = .ok (.iload 5, 2) := by decide +kernel
theorem d_Mo_type_57 : decode b_Mo_type 57 = .ok (.bipush 32, 2) := by decide +kernel
theorem d_Mo_type_59 : decode b_Mo_type 59 = .ok (.if_icmp .lt 10, 3) := by decide +kernel
theorem d_Mo_type_62 : decode b_Mo_type 62 = .ok (.iload 5, 2) := by decide +kernel
theorem d_Mo_type_64 : decode b_Mo_type 64 = .ok (.bipush 126, 2) := by decide +kernel
theorem d_Mo_type_66 : decode b_Mo_type 66 = .ok (.if_icmp .le 5, 3) := by decide +kernel
theorem d_Mo_type_69 : decode b_Mo_type 69 = .ok (.iconst (-1), 1) := by decide +kernel
theorem d_Mo_type_70 : decode b_Mo_type 70 = .ok (.ireturn, 1) := by decide +kernel
theorem d_Mo_type_71 : decode b_Mo_type 71 = .ok (.iinc 4 1, 3) := by decide +kernel
theorem d_Mo_type_74 : decode b_Mo_type 74 = .ok (.goto (-46), 3) := by decide +kernel
theorem d_Mo_type_77 : decode b_Mo_type 77 = .ok (.iload_n 3, 1) := by decide +kernel
theorem d_Mo_type_78 : decode b_Mo_type 78 = .ok (.iconst 1, 1) := by decide +kernel
theorem d_Mo_type_79 : decode b_Mo_type 79 = .ok (.isub, 1) := by decide +kernel
theorem d_Mo_type_80 : decode b_Mo_type 80 = .ok (.istore 4, 2) := by decide +kernel
theorem d_Mo_type_82 : decode b_Mo_type 82 = .ok (.iload 4, 2) := by decide +kernel
theorem d_Mo_type_84 : decode b_Mo_type 84 = .ok (.ifCond .lt 40, 3) := by decide +kernel
theorem d_Mo_type_87 : decode b_Mo_type 87 = .ok (.aload_n 0, 1) := by decide +kernel
theorem d_Mo_type_88 : decode b_Mo_type 88 = .ok (.getfield 7, 3) := by decide +kernel
theorem d_Mo_type_91 : decode b_Mo_type 91 = .ok (.aload_n 0, 1) := by decide +kernel
theorem d_Mo_type_92 : decode b_Mo_type 92 = .ok (.getfield 52, 3) := by decide +kernel
theorem d_Mo_type_95 : decode b_Mo_type 95 = .ok (.lload_n 1, 1) := by decide +kernel
theorem d_Mo_type_96 : decode b_Mo_type 96 = .ok (.bipush 8, 2) := by decide +kernel
theorem d_Mo_type_98 : decode b_Mo_type 98 = .ok (.iload 4, 2) := by decide +kernel
theorem d_Mo_type_100 : decode b_Mo_type 100 = .ok (.imul, 1) := by decide +kernel
theorem d_Mo_type_101 : decode b_Mo_type 101 = .ok (.lshr, 1) := by decide +kernel
theorem d_Mo_type_102 : decode b_Mo_type 102 = .ok (.ldc2_w 56, 3) := by decide +kernel
theorem d_Mo_type_105 : decode b_Mo_type 105 = .ok (.land, 1) := by decide +kernel
theorem d_Mo_type_106 : decode b_Mo_type 106 = .ok (.l2i, 1) := by decide +kernel
theorem d_Mo_type_107 : decode b_Mo_type 107 = .ok (.iastore, 1) := by decide +kernel
theorem d_Mo_type_108 : decode b_Mo_type 108 = .ok (.aload_n 0, 1) := by decide +kernel
theorem d_Mo_type_109 : decode b_Mo_type 109 = .ok (.dup, 1) := by decide +kernel
theorem d_Mo_type_110 : decode b_Mo_type 110 = .ok (.getfield 52, 3) := by decide +kernel
theorem d_Mo_type_113 : decode b_Mo_type 113 = .ok (.iconst 1, 1) := by decide +kernel
theorem d_Mo_type_114 : decode b_Mo_type 114 = .ok (.iadd, 1) := by decide +kernel
theorem d_Mo_type_115 : decode b_Mo_type 115 = .ok (.putfield 52, 3) := by decide +kernel
theorem d_Mo_type_118 : decode b_Mo_type 118 = .ok (.iinc 4 (-1), 3) := by decide +kernel
theorem d_Mo_type_121 : decode b_Mo_type 121 = .ok (.goto (-39), 3) := by decide +kernel
theorem d_Mo_type_124 : decode b_Mo_type 124 = .ok (.aload_n 0, 1) := by decide +kernel
theorem d_Mo_type_125 : decode b_Mo_type 125 = .ok (.getfield 52, 3) := by decide +kernel
theorem d_Mo_type_128 : decode b_Mo_type 128 = .ok (.ireturn, 1) := by decide +kernel
theorem d_Mo_clear_0 : decode b_Mo_clear 0 = .ok (.aload_n 0, 1) := by decide +kernel
theorem d_Mo_clear_1 : decode b_Mo_clear 1 = .ok (.getfield 52, 3) := by decide +kernel
theorem d_Mo_clear_4 : decode b_Mo_clear 4 = .ok (.istore_n 1, 1) := by decide +kernel
theorem d_Mo_clear_5 : decode b_Mo_clear 5 = .ok (.aload_n 0, 1) := by decide +kernel
theorem d_Mo_clear_6 : decode b_Mo_clear 6 = .ok (.iconst 0, 1) := by decide +kernel
theorem d_Mo_clear_7 : decode b_Mo_clear 7 = .ok (.putfield 52, 3) := by decide +kernel
theorem d_Mo_clear_10 : decode b_Mo_clear 10 = .ok (.iload_n 1, 1) := by decide +kernel
theorem d_Mo_clear_11 : decode b_Mo_clear 11 = .ok (.ireturn, 1) := by decide +kernel
theorem d_Mo_read_0 : decode b_Mo_read 0 = .ok (.iload_n 1, 1) := by decide +kernel
theorem d_Mo_read_1 : decode b_Mo_read 1 = .ok (.invokestatic 173, 3) := by decide +kernel
theorem d_Mo_read_4 : decode b_Mo_read 4 = .ok (.ifCond .eq 5, 3) := by decide +kernel
theorem d_Mo_read_7 : decode b_Mo_read 7 = .ok (.iconst (-1), 1) := by decide +kernel
theorem d_Mo_read_8 : decode b_Mo_read 8 = .ok (.ireturn, 1) := by decide +kernel
theorem d_Mo_read_9 : decode b_Mo_read 9 = .ok (.aload_n 0, 1) := by decide +kernel
theorem d_Mo_read_10 : decode b_Mo_read 10 = .ok (.iload_n 1, 1) := by decide +kernel
theorem d_Mo_read_11 : decode b_Mo_read 11 = .ok (.invokevirtual 176, 3) := by decide +kernel
theorem d_Mo_read_14 : decode b_Mo_read 14 = .ok (.istore_n 2, 1) := by decide +kernel
theorem d_Mo_read_15 : decode b_Mo_read 15 = .ok (.aload_n 0, 1) := by decide +kernel
theorem d_Mo_read_16 : decode b_Mo_read 16 = .ok (.getfield 16, 3) := by decide +kernel
theorem d_Mo_read_19 : decode b_Mo_read 19 = .ok (.iload_n 2, 1) := by decide +kernel
theorem d_Mo_read_20 : decode b_Mo_read 20 = .ok (.iconst 0, 1) := by decide +kernel
theorem d_Mo_read_21 : decode b_Mo_read 21 = .ok (.iastore, 1) := by decide +kernel
theorem d_Mo_read_22 : decode b_Mo_read 22 = .ok (.aload_n 0, 1) := by decide +kernel
theorem d_Mo_read_23 : decode b_Mo_read 23 = .ok (.getfield 19, 3) := by decide +kernel
theorem d_Mo_read_26 : decode b_Mo_read 26 = .ok (.iload_n 2, 1) := by decide +kernel
theorem d_Mo_read_27 : decode b_Mo_read 27 = .ok (.iconst 2, 1) := by decide +kernel
theorem d_Mo_read_28 : decode b_Mo_read 28 = .ok (.iastore, 1) := by decide +kernel
theorem d_Mo_read_29 : decode b_Mo_read 29 = .ok (.aload_n 0, 1) := by decide +kernel
theorem d_Mo_read_30 : decode b_Mo_read 30 = .ok (.iconst 0, 1) := by decide +kernel
theorem d_Mo_read_31 : decode b_Mo_read 31 = .ok (.putfield 113, 3) := by decide +kernel
theorem d_Mo_read_34 : decode b_Mo_read 34 = .ok (.iconst 0, 1) := by decide +kernel
theorem d_Mo_read_35 : decode b_Mo_read 35 = .ok (.istore_n 3, 1) := by decide +kernel
theorem d_Mo_read_36 : decode b_Mo_read 36 = .ok (.bipush (-2), 2) := by decide +kernel
theorem d_Mo_read_38 : decode b_Mo_read 38 = .ok (.istore 4, 2) := by decide +kernel
theorem d_Mo_read_40 : decode b_Mo_read 40 = .ok (.iconst 0, 1) := by decide +kernel
theorem d_Mo_read_41 : decode b_Mo_read 41 = .ok (.istore 5, 2) := by decide +kernel
theorem d_Mo_read_43 : decode b_Mo_read 43 = .ok (.aload_n 0, 1) := by decide +kernel
theorem d_Mo_read_44 : decode b_Mo_read 44 = .ok (.iconst 0, 1) := by decide +kernel
theorem d_Mo_read_45 : decode b_Mo_read 45 = .ok (.putfield 119, 3) := by decide +kernel
theorem d_Mo_read_48 : decode b_Mo_read 48 = .ok (.aload_n 0, 1) := by decide +kernel
theorem d_Mo_read_49 : decode b_Mo_read 49 = .ok (.getfield 119, 3) := by decide +kernel
theorem d_Mo_read_52 : decode b_Mo_read 52 = .ok (.aload_n 0, 1) := by decide +kernel
theorem d_Mo_read_53 : decode b_Mo_read 53 = .ok (.getfield 52, 3) := by decide +kernel
theorem d_Mo_read_56 : decode b_Mo_read 56 = .ok (.if_icmp .ge 187, 3) := by decide +kernel
theorem d_Mo_read_59 : decode b_Mo_read 59 = .ok (.aload_n 0, 1) := by decide +kernel
theorem d_Mo_read_60 : decode b_Mo_read 60 = .ok (.getfield 119, 3) := by decide +kernel
theorem d_Mo_read_63 : decode b_Mo_read 63 = .ok (.istore 6, 2) := by decide +kernel
theorem d_Mo_read_65 : decode b_Mo_read 65 = .ok (.iload 6, 2) := by decide +kernel
theorem d_Mo_read_67 : decode b_Mo_read 67 = .ok (.aload_n 0, 1) := by decide +kernel
theorem d_Mo_read_68 : decode b_Mo_read 68 = .ok (.getfield 52, 3) := by decide +kernel
theorem d_Mo_read_71 : decode b_Mo_read 71 = .ok (.if_icmp .ge 21, 3) := by decide +kernel
theorem d_Mo_read_74 : decode b_Mo_read 74 = .ok (.aload_n 0, 1) := by decide +kernel
theorem d_Mo_read_75 : decode b_Mo_read 75 = .ok (.getfield 7, 3) := by decide +kernel
theorem d_Mo_read_78 : decode b_Mo_read 78 = .ok (.iload 6, 2) := by decide +kernel
theorem d_Mo_read_80 : decode b_Mo_read 80 = .ok (.iaload, 1) := by decide +kernel
theorem d_Mo_read_81 : decode b_Mo_read 81 = .ok (.bipush 10, 2) := by decide +kernel
theorem d_Mo_read_83 : decode b_Mo_read 83 = .ok (.if_icmp .eq 9, 3) := by decide +kernel
theorem d_Mo_read_86 : decode b_Mo_read 86 = .ok (.iinc 6 1, 3) := by decide +kernel
theorem d_Mo_read_89 : decode b_Mo_read 89 = .ok (.goto (-24), 3) := by decide +kernel
theorem d_Mo_read_92 : decode b_Mo_read 92 = .ok (.iinc 5 1, 3) := by decide +kernel
theorem d_Mo_read_95 : decode b_Mo_read 95 = .ok (.aload_n 0, 1) := by decide +kernel
theorem d_Mo_read_96 : decode b_Mo_read 96 = .ok (.iload 6, 2) := by decide +kernel
theorem d_Mo_read_98 : decode b_Mo_read 98 = .ok (.putfield 65, 3) := by decide +kernel
theorem d_Mo_read_101 : decode b_Mo_read 101 = .ok (.aload_n 0, 1) := by decide +kernel
theorem d_Mo_read_102 : decode b_Mo_read 102 = .ok (.getfield 65, 3) := by decide +kernel
theorem d_Mo_read_105 : decode b_Mo_read 105 = .ok (.aload_n 0, 1) := by decide +kernel
theorem d_Mo_read_106 : decode b_Mo_read 106 = .ok (.getfield 119, 3) := by decide +kernel
theorem d_Mo_read_109 : decode b_Mo_read 109 = .ok (.if_icmp .le 32, 3) := by decide +kernel
theorem d_Mo_read_112 : decode b_Mo_read 112 = .ok (.aload_n 0, 1) := by decide +kernel
theorem d_Mo_read_113 : decode b_Mo_read 113 = .ok (.getfield 7, 3) := by decide +kernel
theorem d_Mo_read_116 : decode b_Mo_read 116 = .ok (.aload_n 0, 1) := by decide +kernel
theorem d_Mo_read_117 : decode b_Mo_read 117 = .ok (.getfield 65, 3) := by decide +kernel
theorem d_Mo_read_120 : decode b_Mo_read 120 = .ok (.iconst 1, 1) := by decide +kernel
theorem d_Mo_read_121 : decode b_Mo_read 121 = .ok (.isub, 1) := by decide +kernel
theorem d_Mo_read_122 : decode b_Mo_read 122 = .ok (.iaload, 1) := by decide +kernel
theorem d_Mo_read_123 : decode b_Mo_read 123 = .ok (.bipush 32, 2) := by decide +kernel
theorem d_Mo_read_125 : decode b_Mo_read 125 = .ok (.if_icmp .ne 16, 3) := by decide +kernel
theorem d_Mo_read_128 : decode b_Mo_read 128 = .ok (.aload_n 0, 1) := by decide +kernel
theorem d_Mo_read_129 : decode b_Mo_read 129 = .ok (.dup, 1) := by decide +kernel
theorem d_Mo_read_130 : decode b_Mo_read 130 = .ok (.getfield 65, 3) := by decide +kernel
theorem d_Mo_read_133 : decode b_Mo_read 133 = .ok (.iconst 1, 1) := by decide +kernel
theorem d_Mo_read_134 : decode b_Mo_read 134 = .ok (.isub, 1) := by decide +kernel
theorem d_Mo_read_135 : decode b_Mo_read 135 = .ok (.putfield 65, 3) := by decide +kernel
theorem d_Mo_read_138 : decode b_Mo_read 138 = .ok (.goto (-37), 3) := by decide +kernel
theorem d_Mo_read_141 : decode b_Mo_read 141 = .ok (.aload_n 0, 1) := by decide +kernel
theorem d_Mo_read_142 : decode b_Mo_read 142 = .ok (.aload_n 0, 1) := by decide +kernel
theorem d_Mo_read_143 : decode b_Mo_read 143 = .ok (.getfield 119, 3) := by decide +kernel
theorem d_Mo_read_146 : decode b_Mo_read 146 = .ok (.putfield 62, 3) := by decide +kernel
theorem d_Mo_read_149 : decode b_Mo_read 149 = .ok (.aload_n 0, 1) := by decide +kernel
theorem d_Mo_read_150 : decode b_Mo_read 150 = .ok (.invokevirtual 125, 3) := by decide +kernel
theorem d_Mo_read_153 : decode b_Mo_read 153 = .ok (.ifCond .eq 21, 3) := by decide +kernel
theorem d_Mo_read_156 : decode b_Mo_read 156 = .ok (.aload_n 0, 1) := by decide +kernel
theorem d_Mo_read_157 : decode b_Mo_read 157 = .ok (.getfield 7, 3) := by decide +kernel
theorem d_Mo_read_160 : decode b_Mo_read 160 = .ok (.aload_n 0, 1) := by decide +kernel
theorem d_Mo_read_161 : decode b_Mo_read 161 = .ok (.getfield 68, 3) := by decide +kernel
theorem d_Mo_read_164 : decode b_Mo_read 164 = .ok (.iaload, 1) := by decide +kernel
theorem d_Mo_read_165 : decode b_Mo_read 165 = .ok (.bipush 33, 2) := by decide +kernel
theorem d_Mo_read_167 : decode b_Mo_read 167 = .ok (.if_icmp .eq 7, 3) := by decide +kernel
theorem d_Mo_read_170 : decode b_Mo_read 170 = .ok (.iconst 1, 1) := by decide +kernel
theorem d_Mo_read_171 : decode b_Mo_read 171 = .ok (.goto 4, 3) := by decide +kernel
theorem d_Mo_read_174 : decode b_Mo_read 174 = .ok (.iconst 0, 1) := by decide +kernel
theorem d_Mo_read_175 : decode b_Mo_read 175 = .ok (.istore 7, 2) := by decide +kernel
theorem d_Mo_read_177 : decode b_Mo_read 177 = .ok (.iload 7, 2) := by decide +kernel
theorem d_Mo_read_179 : decode b_Mo_read 179 = .ok (.ifCond .eq 22, 3) := by decide +kernel
theorem d_Mo_read_182 : decode b_Mo_read 182 = .ok (.iload_n 3, 1) := by decide +kernel
theorem d_Mo_read_183 : decode b_Mo_read 183 = .ok (.ifCond .ne 18, 3) := by decide +kernel
theorem d_Mo_read_186 : decode b_Mo_read 186 = .ok (.aload_n 0, 1) := by decide +kernel
theorem d_Mo_read_187 : decode b_Mo_read 187 = .ok (.iload_n 2, 1) := by decide +kernel
theorem d_Mo_read_188 : decode b_Mo_read 188 = .ok (.iload 5, 2) := by decide +kernel
theorem d_Mo_read_190 : decode b_Mo_read 190 = .ok (.invokevirtual 179, 3) := by decide +kernel
theorem d_Mo_read_193 : decode b_Mo_read 193 = .ok (.iconst 1, 1) := by decide +kernel
theorem d_Mo_read_194 : decode b_Mo_read 194 = .ok (.if_icmp .ne 7, 3) := by decide +kernel
theorem d_Mo_read_197 : decode b_Mo_read 197 = .ok (.iconst 1, 1) := by decide +kernel
theorem d_Mo_read_198 : decode b_Mo_read 198 = .ok (.goto 4, 3) := by decide +kernel
theorem d_Mo_read_201 : decode b_Mo_read 201 = .ok (.iconst 0, 1) := by decide +kernel
theorem d_Mo_read_202 : decode b_Mo_read 202 = .ok (.istore 8, 2) := by decide +kernel
theorem d_Mo_read_204 : decode b_Mo_read 204 = .ok (.iload 7, 2) := by decide +kernel
theorem d_Mo_read_206 : decode b_Mo_read 206 = .ok (.ifCond .eq 5, 3) := by decide +kernel
theorem d_Mo_read_209 : decode b_Mo_read 209 = .ok (.iconst 1, 1) := by decide +kernel
theorem d_Mo_read_210 : decode b_Mo_read 210 = .ok (.istore_n 3, 1) := by decide +kernel
theorem d_Mo_read_211 : decode b_Mo_read 211 = .ok (.iload 7, 2) := by decide +kernel
theorem d_Mo_read_213 : decode b_Mo_read 213 = .ok (.ifCond .eq 19, 3) := by decide +kernel
theorem d_Mo_read_216 : decode b_Mo_read 216 = .ok (.iload 8, 2) := by decide +kernel
theorem d_Mo_read_218 : decode b_Mo_read 218 = .ok (.ifCond .ne 14, 3) := by decide +kernel
theorem d_Mo_read_221 : decode b_Mo_read 221 = .ok (.aload_n 0, 1) := by decide +kernel
theorem d_Mo_read_222 : decode b_Mo_read 222 = .ok (.iload_n 2, 1) := by decide +kernel
theorem d_Mo_read_223 : decode b_Mo_read 223 = .ok (.iload 5, 2) := by decide +kernel
theorem d_Mo_read_225 : decode b_Mo_read 225 = .ok (.iload 4, 2) := by decide +kernel
theorem d_Mo_read_227 : decode b_Mo_read 227 = .ok (.invokevirtual 182, 3) := by decide +kernel
theorem d_Mo_read_230 : decode b_Mo_read 230 = .ok (.istore 4, 2) := by decide +kernel
theorem d_Mo_read_232 : decode b_Mo_read 232 = .ok (.aload_n 0, 1) := by decide +kernel
theorem d_Mo_read_233 : decode b_Mo_read 233 = .ok (.iload 6, 2) := by decide +kernel
theorem d_Mo_read_235 : decode b_Mo_read 235 = .ok (.iconst 1, 1) := by decide +kernel
theorem d_Mo_read_236 : decode b_Mo_read 236 = .ok (.iadd, 1) := by decide +kernel
theorem d_Mo_read_237 : decode b_Mo_read 237 = .ok (.putfield 119, 3) := by decide +kernel
theorem d_Mo_read_240 : decode b_Mo_read 240 = .ok (.goto (-192), 3) := by decide +kernel
theorem d_Mo_read_243 : decode b_Mo_read 243 = .ok (.aload_n 0, 1) := by decide +kernel
theorem d_Mo_read_244 : decode b_Mo_read 244 = .ok (.getfield 113, 3) := by decide +kernel
theorem d_Mo_read_247 : decode b_Mo_read 247 = .ok (.ireturn, 1) := by decide +kernel
theorem d_Mo_none_0 : decode b_Mo_none 0 = .ok (.iload_n 0, 1) := by decide +kernel
theorem d_Mo_none_1 : decode b_Mo_none 1 = .ok (.ifCond .eq 12, 3) := by decide +kernel
theorem d_Mo_none_4 : decode b_Mo_none 4 = .ok (.iload_n 0, 1) := by decide +kernel
theorem d_Mo_none_5 : decode b_Mo_none 5 = .ok (.iconst 1, 1) := by decide +kernel
theorem d_Mo_none_6 : decode b_Mo_none 6 = .ok (.if_icmp .eq 7, 3) := by decide +kernel
theorem d_Mo_none_9 : decode b_Mo_none 9 = .ok (.iconst 1, 1) := by decide +kernel
theorem d_Mo_none_10 : decode b_Mo_none 10 = .ok (.goto 4, 3) := by decide +kernel
theorem d_Mo_none_13 : decode b_Mo_none 13 = .ok (.iconst 0, 1) := by decide +kernel
theorem d_Mo_none_14 : decode b_Mo_none 14 = .ok (.ireturn, 1) := by decide +kernel
theorem d_Mo_side_0 : decode b_Mo_side 0 = .ok (.aload_n 0, 1) := by decide +kernel
theorem d_Mo_side_1 : decode b_Mo_side 1 = .ok (.getfield 58, 3) := by decide +kernel
theorem d_Mo_side_4 : decode b_Mo_side 4 = .ok (.ifCond .eq 9, 3) := by decide +kernel
theorem d_Mo_side_7 : decode b_Mo_side 7 = .ok (.iconst 1, 1) := by decide +kernel
theorem d_Mo_side_8 : decode b_Mo_side 8 = .ok (.iload_n 1, 1) := by decide +kernel
theorem d_Mo_side_9 : decode b_Mo_side 9 = .ok (.isub, 1) := by decide +kernel
theorem d_Mo_side_10 : decode b_Mo_side 10 = .ok (.goto 4, 3) := by decide +kernel
theorem d_Mo_side_13 : decode b_Mo_side 13 = .ok (.iload_n 1, 1) := by decide +kernel
theorem d_Mo_side_14 : decode b_Mo_side 14 = .ok (.ireturn, 1) := by decide +kernel
theorem d_Mo_next_0 : decode b_Mo_next 0 = .ok (.aload_n 0, 1) := by decide +kernel
theorem d_Mo_next_1 : decode b_Mo_next 1 = .ok (.getfield 62, 3) := by decide +kernel
theorem d_Mo_next_4 : decode b_Mo_next 4 = .ok (.istore_n 1, 1) := by decide +kernel
theorem d_Mo_next_5 : decode b_Mo_next 5 = .ok (.iload_n 1, 1) := by decide +kernel
theorem d_Mo_next_6 : decode b_Mo_next 6 = .ok (.aload_n 0, 1) := by decide +kernel
theorem d_Mo_next_7 : decode b_Mo_next 7 = .ok (.getfield 65, 3) := by decide +kernel
theorem d_Mo_next_10 : decode b_Mo_next 10 = .ok (.if_icmp .ge 20, 3) := by decide +kernel
theorem d_Mo_next_13 : decode b_Mo_next 13 = .ok (.aload_n 0, 1) := by decide +kernel
theorem d_Mo_next_14 : decode b_Mo_next 14 = .ok (.getfield 7, 3) := by decide +kernel
theorem d_Mo_next_17 : decode b_Mo_next 17 = .ok (.iload_n 1, 1) := by decide +kernel
theorem d_Mo_next_18 : decode b_Mo_next 18 = .ok (.iaload, 1) := by decide +kernel
theorem d_Mo_next_19 : decode b_Mo_next 19 = .ok (.bipush 32, 2) := by decide +kernel
theorem d_Mo_next_21 : decode b_Mo_next 21 = .ok (.if_icmp .ne 9, 3) := by decide +kernel
theorem d_Mo_next_24 : decode b_Mo_next 24 = .ok (.iinc 1 1, 3) := by decide +kernel
theorem d_Mo_next_27 : decode b_Mo_next 27 = .ok (.goto (-22), 3) := by decide +kernel
theorem d_Mo_next_30 : decode b_Mo_next 30 = .ok (.aload_n 0, 1) := by decide +kernel
theorem d_Mo_next_31 : decode b_Mo_next 31 = .ok (.iload_n 1, 1) := by decide +kernel
theorem d_Mo_next_32 : decode b_Mo_next 32 = .ok (.putfield 68, 3) := by decide +kernel
theorem d_Mo_next_35 : decode b_Mo_next 35 = .ok (.iload_n 1, 1) := by decide +kernel
theorem d_Mo_next_36 : decode b_Mo_next 36 = .ok (.aload_n 0, 1) := by decide +kernel
theorem d_Mo_next_37 : decode b_Mo_next 37 = .ok (.getfield 65, 3) := by decide +kernel
theorem d_Mo_next_40 : decode b_Mo_next 40 = .ok (.if_icmp .lt 5, 3) := by decide +kernel
theorem d_Mo_next_43 : decode b_Mo_next 43 = .ok (.iconst 0, 1) := by decide +kernel
theorem d_Mo_next_44 : decode b_Mo_next 44 = .ok (.ireturn, 1) := by decide +kernel
theorem d_Mo_next_45 : decode b_Mo_next 45 = .ok (.iload_n 1, 1) := by decide +kernel
theorem d_Mo_next_46 : decode b_Mo_next 46 = .ok (.aload_n 0, 1) := by decide +kernel
theorem d_Mo_next_47 : decode b_Mo_next 47 = .ok (.getfield 65, 3) := by decide +kernel
theorem d_Mo_next_50 : decode b_Mo_next 50 = .ok (.if_icmp .ge 20, 3) := by decide +kernel
theorem d_Mo_next_53 : decode b_Mo_next 53 = .ok (.aload_n 0, 1) := by decide +kernel
theorem d_Mo_next_54 : decode b_Mo_next 54 = .ok (.getfield 7, 3) := by decide +kernel
theorem d_Mo_next_57 : decode b_Mo_next 57 = .ok (.iload_n 1, 1) := by decide +kernel
theorem d_Mo_next_58 : decode b_Mo_next 58 = .ok (.iaload, 1) := by decide +kernel
theorem d_Mo_next_59 : decode b_Mo_next 59 = .ok (.bipush 32, 2) := by decide +kernel
theorem d_Mo_next_61 : decode b_Mo_next 61 = .ok (.if_icmp .eq 9, 3) := by decide +kernel
theorem d_Mo_next_64 : decode b_Mo_next 64 = .ok (.iinc 1 1, 3) := by decide +kernel
theorem d_Mo_next_67 : decode b_Mo_next 67 = .ok (.goto (-22), 3) := by decide +kernel
theorem d_Mo_next_70 : decode b_Mo_next 70 = .ok (.aload_n 0, 1) := by decide +kernel
theorem d_Mo_next_71 : decode b_Mo_next 71 = .ok (.iload_n 1, 1) := by decide +kernel
theorem d_Mo_next_72 : decode b_Mo_next 72 = .ok (.putfield 62, 3) := by decide +kernel
theorem d_Mo_next_75 : decode b_Mo_next 75 = .ok (.iconst 1, 1) := by decide +kernel
theorem d_Mo_next_76 : decode b_Mo_next 76 = .ok (.ireturn, 1) := by decide +kernel
theorem d_Mo_first_0 : decode b_Mo_first 0 = .ok (.aload_n 0, 1) := by decide +kernel
theorem d_Mo_first_1 : decode b_Mo_first 1 = .ok (.iconst 2, 1) := by decide +kernel
theorem d_Mo_first_2 : decode b_Mo_first 2 = .ok (.putfield 98, 3) := by decide +kernel
theorem d_Mo_first_5 : decode b_Mo_first 5 = .ok (.aload_n 0, 1) := by decide +kernel
theorem d_Mo_first_6 : decode b_Mo_first 6 = .ok (.aload_n 0, 1) := by decide +kernel
theorem d_Mo_first_7 : decode b_Mo_first 7 = .ok (.getfield 119, 3) := by decide +kernel
theorem d_Mo_first_10 : decode b_Mo_first 10 = .ok (.putfield 62, 3) := by decide +kernel
theorem d_Mo_first_13 : decode b_Mo_first 13 = .ok (.aload_n 0, 1) := by decide +kernel
theorem d_Mo_first_14 : decode b_Mo_first 14 = .ok (.invokevirtual 125, 3) := by decide +kernel
theorem d_Mo_first_17 : decode b_Mo_first 17 = .ok (.ifCond .eq 18, 3) := by decide +kernel
theorem d_Mo_first_20 : decode b_Mo_first 20 = .ok (.aload_n 0, 1) := by decide +kernel
theorem d_Mo_first_21 : decode b_Mo_first 21 = .ok (.invokevirtual 129, 3) := by decide +kernel
theorem d_Mo_first_24 : decode b_Mo_first 24 = .ok (.ldc2_w 167, 3) := by decide +kernel
theorem d_Mo_first_27 : decode b_Mo_first 27 = .ok (.lcmp, 1) := by decide +kernel
theorem d_Mo_first_28 : decode b_Mo_first 28 = .ok (.ifCond .ne 7, 3) := by decide +kernel
theorem d_Mo_first_31 : decode b_Mo_first 31 = .ok (.iconst 1, 1) := by decide +kernel
theorem d_Mo_first_32 : decode b_Mo_first 32 = .ok (.goto 4, 3) := by decide +kernel
theorem d_Mo_first_35 : decode b_Mo_first 35 = .ok (.iconst 0, 1) := by decide +kernel
theorem d_Mo_first_36 : decode b_Mo_first 36 = .ok (.istore_n 3, 1) := by decide +kernel
theorem d_Mo_first_37 : decode b_Mo_first 37 = .ok (.iload_n 3, 1) := by decide +kernel
theorem d_Mo_first_38 : decode b_Mo_first 38 = .ok (.ifCond .eq 38, 3) := by decide +kernel
theorem d_Mo_first_41 : decode b_Mo_first 41 = .ok (.aload_n 0, 1) := by decide +kernel
theorem d_Mo_first_42 : decode b_Mo_first 42 = .ok (.invokevirtual 125, 3) := by decide +kernel
theorem d_Mo_first_45 : decode b_Mo_first 45 = .ok (.ifCond .eq 31, 3) := by decide +kernel
theorem d_Mo_first_48 : decode b_Mo_first 48 = .ok (.aload_n 0, 1) := by decide +kernel
theorem d_Mo_first_49 : decode b_Mo_first 49 = .ok (.getfield 62, 3) := by decide +kernel
theorem d_Mo_first_52 : decode b_Mo_first 52 = .ok (.aload_n 0, 1) := by decide +kernel
theorem d_Mo_first_53 : decode b_Mo_first 53 = .ok (.getfield 68, 3) := by decide +kernel
theorem d_Mo_first_56 : decode b_Mo_first 56 = .ok (.isub, 1) := by decide +kernel
theorem d_Mo_first_57 : decode b_Mo_first 57 = .ok (.iconst 1, 1) := by decide +kernel
theorem d_Mo_first_58 : decode b_Mo_first 58 = .ok (.if_icmp .ne 18, 3) := by decide +kernel
theorem d_Mo_first_61 : decode b_Mo_first 61 = .ok (.aload_n 0, 1) := by decide +kernel
theorem d_Mo_first_62 : decode b_Mo_first 62 = .ok (.getfield 7, 3) := by decide +kernel
theorem d_Mo_first_65 : decode b_Mo_first 65 = .ok (.aload_n 0, 1) := by decide +kernel
theorem d_Mo_first_66 : decode b_Mo_first 66 = .ok (.getfield 68, 3) := by decide +kernel
theorem d_Mo_first_69 : decode b_Mo_first 69 = .ok (.iaload, 1) := by decide +kernel
theorem d_Mo_first_70 : decode b_Mo_first 70 = .ok (.bipush 48, 2) := by decide +kernel
theorem d_Mo_first_72 : decode b_Mo_first 72 = .ok (.isub, 1) := by decide +kernel
theorem d_Mo_first_73 : decode b_Mo_first 73 = .ok (.goto 4, 3) := by decide +kernel
theorem d_Mo_first_76 : decode b_Mo_first 76 = .ok (.iconst 0, 1) := by decide +kernel
theorem d_Mo_first_77 : decode b_Mo_first 77 = .ok (.istore 4, 2) := by decide +kernel
theorem d_Mo_first_79 : decode b_Mo_first 79 = .ok (.iload 4, 2) := by decide +kernel
theorem d_Mo_first_81 : decode b_Mo_first 81 = .ok (.iconst 1, 1) := by decide +kernel
theorem d_Mo_first_82 : decode b_Mo_first 82 = .ok (.if_icmp .eq 9, 3) := by decide +kernel
theorem d_Mo_first_85 : decode b_Mo_first 85 = .ok (.iload 4, 2) := by decide +kernel
theorem d_Mo_first_87 : decode b_Mo_first 87 = .ok (.iconst 2, 1) := by decide +kernel
theorem d_Mo_first_88 : decode b_Mo_first 88 = .ok (.if_icmp .ne 14, 3) := by decide +kernel
theorem d_Mo_first_91 : decode b_Mo_first 91 = .ok (.aload_n 0, 1) := by decide +kernel
theorem d_Mo_first_92 : decode b_Mo_first 92 = .ok (.invokevirtual 125, 3) := by decide +kernel
theorem d_Mo_first_95 : decode b_Mo_first 95 = .ok (.ifCond .ne 7, 3) := by decide +kernel
theorem d_Mo_first_98 : decode b_Mo_first 98 = .ok (.iconst 1, 1) := by decide +kernel
theorem d_Mo_first_99 : decode b_Mo_first 99 = .ok (.goto 4, 3) := by decide +kernel
theorem d_Mo_first_102 : decode b_Mo_first 102 = .ok (.iconst 0, 1) := by decide +kernel
theorem d_Mo_first_103 : decode b_Mo_first 103 = .ok (.istore 5, 2) := by decide +kernel
theorem d_Mo_first_105 : decode b_Mo_first 105 = .ok (.iload 5, 2) := by decide +kernel
theorem d_Mo_first_107 : decode b_Mo_first 107 = .ok (.ifCond .eq 12, 3) := by decide +kernel
theorem d_Mo_first_110 : decode b_Mo_first 110 = .ok (.aload_n 0, 1) := by decide +kernel
theorem d_Mo_first_111 : decode b_Mo_first 111 = .ok (.iload 4, 2) := by decide +kernel
theorem d_Mo_first_113 : decode b_Mo_first 113 = .ok (.putfield 98, 3) := by decide +kernel
theorem d_Mo_first_116 : decode b_Mo_first 116 = .ok (.goto 34, 3) := by decide +kernel
theorem d_Mo_first_119 : decode b_Mo_first 119 = .ok (.aload_n 0, 1) := by decide +kernel
theorem d_Mo_first_120 : decode b_Mo_first 120 = .ok (.aload_n 0, 1) := by decide +kernel
theorem d_Mo_first_121 : decode b_Mo_first 121 = .ok (.getfield 119, 3) := by decide +kernel
theorem d_Mo_first_124 : decode b_Mo_first 124 = .ok (.putfield 62, 3) := by decide +kernel
theorem d_Mo_first_127 : decode b_Mo_first 127 = .ok (.aload_n 0, 1) := by decide +kernel
theorem d_Mo_first_128 : decode b_Mo_first 128 = .ok (.invokevirtual 125, 3) := by decide +kernel
theorem d_Mo_first_131 : decode b_Mo_first 131 = .ok (.istore 6, 2) := by decide +kernel
theorem d_Mo_first_133 : decode b_Mo_first 133 = .ok (.aload_n 0, 1) := by decide +kernel
theorem d_Mo_first_134 : decode b_Mo_first 134 = .ok (.iconst 1, 1) := by decide +kernel
theorem d_Mo_first_135 : decode b_Mo_first 135 = .ok (.iload_n 2, 1) := by decide +kernel
theorem d_Mo_first_136 : decode b_Mo_first 136 = .ok (.aload_n 0, 1) := by decide +kernel
theorem d_Mo_first_137 : decode b_Mo_first 137 = .ok (.getfield 68, 3) := by decide +kernel
theorem d_Mo_first_140 : decode b_Mo_first 140 = .ok (.aload_n 0, 1) := by decide +kernel
theorem d_Mo_first_141 : decode b_Mo_first 141 = .ok (.getfield 119, 3) := by decide +kernel
theorem d_Mo_first_144 : decode b_Mo_first 144 = .ok (.isub, 1) := by decide +kernel
theorem d_Mo_first_145 : decode b_Mo_first 145 = .ok (.iconst 1, 1) := by decide +kernel
theorem d_Mo_first_146 : decode b_Mo_first 146 = .ok (.iadd, 1) := by decide +kernel
theorem d_Mo_first_147 : decode b_Mo_first 147 = .ok (.invokevirtual 169, 3) := by decide +kernel
theorem d_Mo_first_150 : decode b_Mo_first 150 = .ok (.aload_n 0, 1) := by decide +kernel
theorem d_Mo_first_151 : decode b_Mo_first 151 = .ok (.getfield 19, 3) := by decide +kernel
theorem d_Mo_first_154 : decode b_Mo_first 154 = .ok (.iload_n 1, 1) := by decide +kernel
theorem d_Mo_first_155 : decode b_Mo_first 155 = .ok (.aload_n 0, 1) := by decide +kernel
theorem d_Mo_first_156 : decode b_Mo_first 156 = .ok (.getfield 98, 3) := by decide +kernel
theorem d_Mo_first_159 : decode b_Mo_first 159 = .ok (.iastore, 1) := by decide +kernel
theorem d_Mo_first_160 : decode b_Mo_first 160 = .ok (.iload 5, 2) := by decide +kernel
theorem d_Mo_first_162 : decode b_Mo_first 162 = .ok (.ifCond .eq 7, 3) := by decide +kernel
theorem d_Mo_first_165 : decode b_Mo_first 165 = .ok (.iconst 1, 1) := by decide +kernel
theorem d_Mo_first_166 : decode b_Mo_first 166 = .ok (.goto 4, 3) := by decide +kernel
theorem d_Mo_first_169 : decode b_Mo_first 169 = .ok (.iconst 0, 1) := by decide +kernel
theorem d_Mo_first_170 : decode b_Mo_first 170 = .ok (.ireturn, 1) := by decide +kernel
theorem d_Mo_word_0 : decode b_Mo_word 0 = .ok (.aload_n 0, 1) := by decide +kernel
theorem d_Mo_word_1 : decode b_Mo_word 1 = .ok (.getfield 62, 3) := by decide +kernel
theorem d_Mo_word_4 : decode b_Mo_word 4 = .ok (.aload_n 0, 1) := by decide +kernel
theorem d_Mo_word_5 : decode b_Mo_word 5 = .ok (.getfield 68, 3) := by decide +kernel
theorem d_Mo_word_8 : decode b_Mo_word 8 = .ok (.isub, 1) := by decide +kernel
theorem d_Mo_word_9 : decode b_Mo_word 9 = .ok (.bipush 9, 2) := by decide +kernel
theorem d_Mo_word_11 : decode b_Mo_word 11 = .ok (.if_icmp .gt 14, 3) := by decide +kernel
theorem d_Mo_word_14 : decode b_Mo_word 14 = .ok (.aload_n 0, 1) := by decide +kernel
theorem d_Mo_word_15 : decode b_Mo_word 15 = .ok (.getfield 68, 3) := by decide +kernel
theorem d_Mo_word_18 : decode b_Mo_word 18 = .ok (.aload_n 0, 1) := by decide +kernel
theorem d_Mo_word_19 : decode b_Mo_word 19 = .ok (.getfield 65, 3) := by decide +kernel
theorem d_Mo_word_22 : decode b_Mo_word 22 = .ok (.if_icmp .lt 5, 3) := by decide +kernel
theorem d_Mo_word_25 : decode b_Mo_word 25 = .ok (.lconst 0, 1) := by decide +kernel
theorem d_Mo_word_26 : decode b_Mo_word 26 = .ok (.lreturn, 1) := by decide +kernel
theorem d_Mo_word_27 : decode b_Mo_word 27 = .ok (.lconst 0, 1) := by decide +kernel
theorem d_Mo_word_28 : decode b_Mo_word 28 = .ok (.lstore_n 1, 1) := by decide +kernel
theorem d_Mo_word_29 : decode b_Mo_word 29 = .ok (.aload_n 0, 1) := by decide +kernel
theorem d_Mo_word_30 : decode b_Mo_word 30 = .ok (.getfield 68, 3) := by decide +kernel
theorem d_Mo_word_33 : decode b_Mo_word 33 = .ok (.istore_n 3, 1) := by decide +kernel
theorem d_Mo_word_34 : decode b_Mo_word 34 = .ok (.iload_n 3, 1) := by decide +kernel
theorem d_Mo_word_35 : decode b_Mo_word 35 = .ok (.aload_n 0, 1) := by decide +kernel
theorem d_Mo_word_36 : decode b_Mo_word 36 = .ok (.getfield 62, 3) := by decide +kernel
theorem d_Mo_word_39 : decode b_Mo_word 39 = .ok (.if_icmp .ge 23, 3) := by decide +kernel
theorem d_Mo_word_42 : decode b_Mo_word 42 = .ok (.lload_n 1, 1) := by decide +kernel
theorem d_Mo_word_43 : decode b_Mo_word 43 = .ok (.ldc2_w 71, 3) := by decide +kernel
theorem d_Mo_word_46 : decode b_Mo_word 46 = .ok (.lmul, 1) := by decide +kernel
theorem d_Mo_word_47 : decode b_Mo_word 47 = .ok (.aload_n 0, 1) := by decide +kernel
theorem d_Mo_word_48 : decode b_Mo_word 48 = .ok (.getfield 7, 3) := by decide +kernel
theorem d_Mo_word_51 : decode b_Mo_word 51 = .ok (.iload_n 3, 1) := by decide +kernel
theorem d_Mo_word_52 : decode b_Mo_word 52 = .ok (.iaload, 1) := by decide +kernel
theorem d_Mo_word_53 : decode b_Mo_word 53 = .ok (.i2l, 1) := by decide +kernel
theorem d_Mo_word_54 : decode b_Mo_word 54 = .ok (.ladd, 1) := by decide +kernel
theorem d_Mo_word_55 : decode b_Mo_word 55 = .ok (.lstore_n 1, 1) := by decide +kernel
theorem d_Mo_word_56 : decode b_Mo_word 56 = .ok (.iinc 3 1, 3) := by decide +kernel
theorem d_Mo_word_59 : decode b_Mo_word 59 = .ok (.goto (-25), 3) := by decide +kernel
theorem d_Mo_word_62 : decode b_Mo_word 62 = .ok (.lload_n 1, 1) := by decide +kernel
theorem d_Mo_word_63 : decode b_Mo_word 63 = .ok (.lreturn, 1) := by decide +kernel
theorem d_Mo_tell_0 : decode b_Mo_tell 0 = .ok (.aload_n 0, 1) := by decide +kernel
theorem d_Mo_tell_1 : decode b_Mo_tell 1 = .ok (.getfield 113, 3) := by decide +kernel
theorem d_Mo_tell_4 : decode b_Mo_tell 4 = .ok (.bipush 20, 2) := by decide +kernel
theorem d_Mo_tell_6 : decode b_Mo_tell 6 = .ok (.if_icmp .ge 43, 3) := by decide +kernel
theorem d_Mo_tell_9 : decode b_Mo_tell 9 = .ok (.aload_n 0, 1) := by decide +kernel
theorem d_Mo_tell_10 : decode b_Mo_tell 10 = .ok (.getfield 13, 3) := by decide +kernel
theorem d_Mo_tell_13 : decode b_Mo_tell 13 = .ok (.iconst 3, 1) := by decide +kernel
theorem d_Mo_tell_14 : decode b_Mo_tell 14 = .ok (.aload_n 0, 1) := by decide +kernel
theorem d_Mo_tell_15 : decode b_Mo_tell 15 = .ok (.getfield 113, 3) := by decide +kernel
theorem d_Mo_tell_18 : decode b_Mo_tell 18 = .ok (.imul, 1) := by decide +kernel
theorem d_Mo_tell_19 : decode b_Mo_tell 19 = .ok (.iload_n 1, 1) := by decide +kernel
theorem d_Mo_tell_20 : decode b_Mo_tell 20 = .ok (.iastore, 1) := by decide +kernel
theorem d_Mo_tell_21 : decode b_Mo_tell 21 = .ok (.aload_n 0, 1) := by decide +kernel
theorem d_Mo_tell_22 : decode b_Mo_tell 22 = .ok (.getfield 13, 3) := by decide +kernel
theorem d_Mo_tell_25 : decode b_Mo_tell 25 = .ok (.iconst 3, 1) := by decide +kernel
theorem d_Mo_tell_26 : decode b_Mo_tell 26 = .ok (.aload_n 0, 1) := by decide +kernel
theorem d_Mo_tell_27 : decode b_Mo_tell 27 = .ok (.getfield 113, 3) := by decide +kernel
theorem d_Mo_tell_30 : decode b_Mo_tell 30 = .ok (.imul, 1) := by decide +kernel
theorem d_Mo_tell_31 : decode b_Mo_tell 31 = .ok (.iconst 1, 1) := by decide +kernel
theorem d_Mo_tell_32 : decode b_Mo_tell 32 = .ok (.iadd, 1) := by decide +kernel
theorem d_Mo_tell_33 : decode b_Mo_tell 33 = .ok (.iload_n 2, 1) := by decide +kernel
theorem d_Mo_tell_34 : decode b_Mo_tell 34 = .ok (.iastore, 1) := by decide +kernel
theorem d_Mo_tell_35 : decode b_Mo_tell 35 = .ok (.aload_n 0, 1) := by decide +kernel
theorem d_Mo_tell_36 : decode b_Mo_tell 36 = .ok (.getfield 13, 3) := by decide +kernel
theorem d_Mo_tell_39 : decode b_Mo_tell 39 = .ok (.iconst 3, 1) := by decide +kernel
theorem d_Mo_tell_40 : decode b_Mo_tell 40 = .ok (.aload_n 0, 1) := by decide +kernel
theorem d_Mo_tell_41 : decode b_Mo_tell 41 = .ok (.getfield 113, 3) := by decide +kernel
theorem d_Mo_tell_44 : decode b_Mo_tell 44 = .ok (.imul, 1) := by decide +kernel
theorem d_Mo_tell_45 : decode b_Mo_tell 45 = .ok (.iconst 2, 1) := by decide +kernel
theorem d_Mo_tell_46 : decode b_Mo_tell 46 = .ok (.iadd, 1) := by decide +kernel
theorem d_Mo_tell_47 : decode b_Mo_tell 47 = .ok (.iload_n 3, 1) := by decide +kernel
theorem d_Mo_tell_48 : decode b_Mo_tell 48 = .ok (.iastore, 1) := by decide +kernel
theorem d_Mo_tell_49 : decode b_Mo_tell 49 = .ok (.aload_n 0, 1) := by decide +kernel
theorem d_Mo_tell_50 : decode b_Mo_tell 50 = .ok (.dup, 1) := by decide +kernel
theorem d_Mo_tell_51 : decode b_Mo_tell 51 = .ok (.getfield 113, 3) := by decide +kernel
theorem d_Mo_tell_54 : decode b_Mo_tell 54 = .ok (.iconst 1, 1) := by decide +kernel
theorem d_Mo_tell_55 : decode b_Mo_tell 55 = .ok (.iadd, 1) := by decide +kernel
theorem d_Mo_tell_56 : decode b_Mo_tell 56 = .ok (.putfield 113, 3) := by decide +kernel
theorem d_Mo_tell_59 : decode b_Mo_tell 59 = .ok (.return_, 1) := by decide +kernel
theorem d_Mo_body_0 : decode b_Mo_body 0 = .ok (.aload_n 0, 1) := by decide +kernel
theorem d_Mo_body_1 : decode b_Mo_body 1 = .ok (.aload_n 0, 1) := by decide +kernel
theorem d_Mo_body_2 : decode b_Mo_body 2 = .ok (.getfield 119, 3) := by decide +kernel
theorem d_Mo_body_5 : decode b_Mo_body 5 = .ok (.putfield 62, 3) := by decide +kernel
theorem d_Mo_body_8 : decode b_Mo_body 8 = .ok (.aload_n 0, 1) := by decide +kernel
theorem d_Mo_body_9 : decode b_Mo_body 9 = .ok (.invokevirtual 125, 3) := by decide +kernel
theorem d_Mo_body_12 : decode b_Mo_body 12 = .ok (.istore 4, 2) := by decide +kernel
theorem d_Mo_body_14 : decode b_Mo_body 14 = .ok (.aload_n 0, 1) := by decide +kernel
theorem d_Mo_body_15 : decode b_Mo_body 15 = .ok (.getfield 68, 3) := by decide +kernel
theorem d_Mo_body_18 : decode b_Mo_body 18 = .ok (.aload_n 0, 1) := by decide +kernel
theorem d_Mo_body_19 : decode b_Mo_body 19 = .ok (.getfield 119, 3) := by decide +kernel
theorem d_Mo_body_22 : decode b_Mo_body 22 = .ok (.isub, 1) := by decide +kernel
theorem d_Mo_body_23 : decode b_Mo_body 23 = .ok (.iconst 1, 1) := by decide +kernel
theorem d_Mo_body_24 : decode b_Mo_body 24 = .ok (.iadd, 1) := by decide +kernel
theorem d_Mo_body_25 : decode b_Mo_body 25 = .ok (.istore 5, 2) := by decide +kernel
theorem d_Mo_body_27 : decode b_Mo_body 27 = .ok (.aload_n 0, 1) := by decide +kernel
theorem d_Mo_body_28 : decode b_Mo_body 28 = .ok (.aload_n 0, 1) := by decide +kernel
theorem d_Mo_body_29 : decode b_Mo_body 29 = .ok (.getfield 119, 3) := by decide +kernel
theorem d_Mo_body_32 : decode b_Mo_body 32 = .ok (.putfield 62, 3) := by decide +kernel
theorem d_Mo_body_35 : decode b_Mo_body 35 = .ok (.iload 4, 2) := by decide +kernel
theorem d_Mo_body_37 : decode b_Mo_body 37 = .ok (.ifCond .eq 13, 3) := by decide +kernel
theorem d_Mo_body_40 : decode b_Mo_body 40 = .ok (.iload 5, 2) := by decide +kernel
theorem d_Mo_body_42 : decode b_Mo_body 42 = .ok (.iconst 1, 1) := by decide +kernel
theorem d_Mo_body_43 : decode b_Mo_body 43 = .ok (.if_icmp .le 7, 3) := by decide +kernel
theorem d_Mo_body_46 : decode b_Mo_body 46 = .ok (.iconst 1, 1) := by decide +kernel
theorem d_Mo_body_47 : decode b_Mo_body 47 = .ok (.goto 4, 3) := by decide +kernel
theorem d_Mo_body_50 : decode b_Mo_body 50 = .ok (.iconst 0, 1) := by decide +kernel
theorem d_Mo_body_51 : decode b_Mo_body 51 = .ok (.istore 6, 2) := by decide +kernel
theorem d_Mo_body_53 : decode b_Mo_body 53 = .ok (.iload 6, 2) := by decide +kernel
theorem d_Mo_body_55 : decode b_Mo_body 55 = .ok (.ifCond .eq 10, 3) := by decide +kernel
theorem d_Mo_body_58 : decode b_Mo_body 58 = .ok (.iload_n 3, 1) := by decide +kernel
theorem d_Mo_body_59 : decode b_Mo_body 59 = .ok (.iconst (-1), 1) := by decide +kernel
theorem d_Mo_body_60 : decode b_Mo_body 60 = .ok (.if_icmp .ne 5, 3) := by decide +kernel
theorem d_Mo_body_63 : decode b_Mo_body 63 = .ok (.iload_n 3, 1) := by decide +kernel
theorem d_Mo_body_64 : decode b_Mo_body 64 = .ok (.ireturn, 1) := by decide +kernel
theorem d_Mo_body_65 : decode b_Mo_body 65 = .ok (.iload_n 3, 1) := by decide +kernel
theorem d_Mo_body_66 : decode b_Mo_body 66 = .ok (.istore 7, 2) := by decide +kernel
theorem d_Mo_body_68 : decode b_Mo_body 68 = .ok (.iload 6, 2) := by decide +kernel
theorem d_Mo_body_70 : decode b_Mo_body 70 = .ok (.ifCond .eq 12, 3) := by decide +kernel
theorem d_Mo_body_73 : decode b_Mo_body 73 = .ok (.aload_n 0, 1) := by decide +kernel
theorem d_Mo_body_74 : decode b_Mo_body 74 = .ok (.iload_n 1, 1) := by decide +kernel
theorem d_Mo_body_75 : decode b_Mo_body 75 = .ok (.iload_n 3, 1) := by decide +kernel
theorem d_Mo_body_76 : decode b_Mo_body 76 = .ok (.invokevirtual 186, 3) := by decide +kernel
theorem d_Mo_body_79 : decode b_Mo_body 79 = .ok (.goto 10, 3) := by decide +kernel
theorem d_Mo_body_82 : decode b_Mo_body 82 = .ok (.aload_n 0, 1) := by decide +kernel
theorem d_Mo_body_83 : decode b_Mo_body 83 = .ok (.iload_n 1, 1) := by decide +kernel
theorem d_Mo_body_84 : decode b_Mo_body 84 = .ok (.invokevirtual 189, 3) := by decide +kernel
theorem d_Mo_body_87 : decode b_Mo_body 87 = .ok (.istore 7, 2) := by decide +kernel
theorem d_Mo_body_89 : decode b_Mo_body 89 = .ok (.aload_n 0, 1) := by decide +kernel
theorem d_Mo_body_90 : decode b_Mo_body 90 = .ok (.getfield 116, 3) := by decide +kernel
theorem d_Mo_body_93 : decode b_Mo_body 93 = .ok (.ifCond .eq 30, 3) := by decide +kernel
theorem d_Mo_body_96 : decode b_Mo_body 96 = .ok (.aload_n 0, 1) := by decide +kernel
theorem d_Mo_body_97 : decode b_Mo_body 97 = .ok (.aload_n 0, 1) := by decide +kernel
theorem d_Mo_body_98 : decode b_Mo_body 98 = .ok (.getfield 116, 3) := by decide +kernel
theorem d_Mo_body_101 : decode b_Mo_body 101 = .ok (.iload_n 2, 1) := by decide +kernel
theorem d_Mo_body_102 : decode b_Mo_body 102 = .ok (.aload_n 0, 1) := by decide +kernel
theorem d_Mo_body_103 : decode b_Mo_body 103 = .ok (.getfield 116, 3) := by decide +kernel
theorem d_Mo_body_106 : decode b_Mo_body 106 = .ok (.bipush 7, 2) := by decide +kernel
theorem d_Mo_body_108 : decode b_Mo_body 108 = .ok (.if_icmp .ge 10, 3) := by decide +kernel
theorem d_Mo_body_111 : decode b_Mo_body 111 = .ok (.aload_n 0, 1) := by decide +kernel
theorem d_Mo_body_112 : decode b_Mo_body 112 = .ok (.getfield 122, 3) := by decide +kernel
theorem d_Mo_body_115 : decode b_Mo_body 115 = .ok (.goto 5, 3) := by decide +kernel
theorem d_Mo_body_118 : decode b_Mo_body 118 = .ok (.iload 5, 2) := by decide +kernel
theorem d_Mo_body_120 : decode b_Mo_body 120 = .ok (.invokevirtual 169, 3) := by decide +kernel
theorem d_Mo_body_123 : decode b_Mo_body 123 = .ok (.iload 7, 2) := by decide +kernel
theorem d_Mo_body_125 : decode b_Mo_body 125 = .ok (.ireturn, 1) := by decide +kernel
theorem d_Mo_memberLine_0 : decode b_Mo_memberLine 0 = .ok (.aload_n 0, 1) := by decide +kernel
theorem d_Mo_memberLine_1 : decode b_Mo_memberLine 1 = .ok (.iconst 0, 1) := by decide +kernel
theorem d_Mo_memberLine_2 : decode b_Mo_memberLine 2 = .ok (.putfield 116, 3) := by decide +kernel
theorem d_Mo_memberLine_5 : decode b_Mo_memberLine 5 = .ok (.aload_n 0, 1) := by decide +kernel
theorem d_Mo_memberLine_6 : decode b_Mo_memberLine 6 = .ok (.iconst 1, 1) := by decide +kernel
theorem d_Mo_memberLine_7 : decode b_Mo_memberLine 7 = .ok (.sipush 216, 3) := by decide +kernel
theorem d_Mo_memberLine_10 : decode b_Mo_memberLine 10 = .ok (.invokevirtual 156, 3) := by decide +kernel
theorem d_Mo_memberLine_13 : decode b_Mo_memberLine 13 = .ok (.ifCond .ne 4, 3) := by decide +kernel
theorem d_Mo_memberLine_16 : decode b_Mo_memberLine 16 = .ok (.return_, 1) := by decide +kernel
theorem d_Mo_memberLine_17 : decode b_Mo_memberLine 17 = .ok (.iload_n 2, 1) := by decide +kernel
theorem d_Mo_memberLine_18 : decode b_Mo_memberLine 18 = .ok (.bipush (-2), 2) := by decide +kernel
theorem d_Mo_memberLine_20 : decode b_Mo_memberLine 20 = .ok (.if_icmp .ne 9, 3) := by decide +kernel
theorem d_Mo_memberLine_23 : decode b_Mo_memberLine 23 = .ok (.aload_n 0, 1) := by decide +kernel
theorem d_Mo_memberLine_24 : decode b_Mo_memberLine 24 = .ok (.bipush 9, 2) := by decide +kernel
theorem d_Mo_memberLine_26 : decode b_Mo_memberLine 26 = .ok (.putfield 116, 3) := by decide +kernel
theorem d_Mo_memberLine_29 : decode b_Mo_memberLine 29 = .ok (.iload_n 2, 1) := by decide +kernel
theorem d_Mo_memberLine_30 : decode b_Mo_memberLine 30 = .ok (.ifCond .ge 7, 3) := by decide +kernel
theorem d_Mo_memberLine_33 : decode b_Mo_memberLine 33 = .ok (.iconst 0, 1) := by decide +kernel
theorem d_Mo_memberLine_34 : decode b_Mo_memberLine 34 = .ok (.goto 14, 3) := by decide +kernel
theorem d_Mo_memberLine_37 : decode b_Mo_memberLine 37 = .ok (.aload_n 0, 1) := by decide +kernel
theorem d_Mo_memberLine_38 : decode b_Mo_memberLine 38 = .ok (.getfield 40, 3) := by decide +kernel
theorem d_Mo_memberLine_41 : decode b_Mo_memberLine 41 = .ok (.bipush 12, 2) := by decide +kernel
theorem d_Mo_memberLine_43 : decode b_Mo_memberLine 43 = .ok (.iload_n 1, 1) := by decide +kernel
theorem d_Mo_memberLine_44 : decode b_Mo_memberLine 44 = .ok (.imul, 1) := by decide +kernel
theorem d_Mo_memberLine_45 : decode b_Mo_memberLine 45 = .ok (.iload_n 2, 1) := by decide +kernel
theorem d_Mo_memberLine_46 : decode b_Mo_memberLine 46 = .ok (.iadd, 1) := by decide +kernel
theorem d_Mo_memberLine_47 : decode b_Mo_memberLine 47 = .ok (.iaload, 1) := by decide +kernel
theorem d_Mo_memberLine_48 : decode b_Mo_memberLine 48 = .ok (.istore_n 3, 1) := by decide +kernel
theorem d_Mo_memberLine_49 : decode b_Mo_memberLine 49 = .ok (.iconst 0, 1) := by decide +kernel
theorem d_Mo_memberLine_50 : decode b_Mo_memberLine 50 = .ok (.istore 4, 2) := by decide +kernel
theorem d_Mo_memberLine_52 : decode b_Mo_memberLine 52 = .ok (.iload 4, 2) := by decide +kernel
theorem d_Mo_memberLine_54 : decode b_Mo_memberLine 54 = .ok (.iload_n 3, 1) := by decide +kernel
theorem d_Mo_memberLine_55 : decode b_Mo_memberLine 55 = .ok (.if_icmp .ge 40, 3) := by decide +kernel
theorem d_Mo_memberLine_58 : decode b_Mo_memberLine 58 = .ok (.aload_n 0, 1) := by decide +kernel
theorem d_Mo_memberLine_59 : decode b_Mo_memberLine 59 = .ok (.bipush 108, 2) := by decide +kernel
theorem d_Mo_memberLine_61 : decode b_Mo_memberLine 61 = .ok (.iload_n 1, 1) := by decide +kernel
theorem d_Mo_memberLine_62 : decode b_Mo_memberLine 62 = .ok (.imul, 1) := by decide +kernel
theorem d_Mo_memberLine_63 : decode b_Mo_memberLine 63 = .ok (.bipush 12, 2) := by decide +kernel
theorem d_Mo_memberLine_65 : decode b_Mo_memberLine 65 = .ok (.iadd, 1) := by decide +kernel
theorem d_Mo_memberLine_66 : decode b_Mo_memberLine 66 = .ok (.bipush 8, 2) := by decide +kernel
theorem d_Mo_memberLine_68 : decode b_Mo_memberLine 68 = .ok (.iload_n 2, 1) := by decide +kernel
theorem d_Mo_memberLine_69 : decode b_Mo_memberLine 69 = .ok (.imul, 1) := by decide +kernel
theorem d_Mo_memberLine_70 : decode b_Mo_memberLine 70 = .ok (.iadd, 1) := by decide +kernel
theorem d_Mo_memberLine_71 : decode b_Mo_memberLine 71 = .ok (.iload 4, 2) := by decide +kernel
theorem d_Mo_memberLine_73 : decode b_Mo_memberLine 73 = .ok (.iadd, 1) := by decide +kernel
theorem d_Mo_memberLine_74 : decode b_Mo_memberLine 74 = .ok (.sipush 216, 3) := by decide +kernel
theorem d_Mo_memberLine_77 : decode b_Mo_memberLine 77 = .ok (.invokevirtual 164, 3) := by decide +kernel
theorem d_Mo_memberLine_80 : decode b_Mo_memberLine 80 = .ok (.ifCond .ne 9, 3) := by decide +kernel
theorem d_Mo_memberLine_83 : decode b_Mo_memberLine 83 = .ok (.aload_n 0, 1) := by decide +kernel
theorem d_Mo_memberLine_84 : decode b_Mo_memberLine 84 = .ok (.bipush 7, 2) := by decide +kernel
theorem d_Mo_memberLine_86 : decode b_Mo_memberLine 86 = .ok (.putfield 116, 3) := by decide +kernel
theorem d_Mo_memberLine_89 : decode b_Mo_memberLine 89 = .ok (.iinc 4 1, 3) := by decide +kernel
theorem d_Mo_memberLine_92 : decode b_Mo_memberLine 92 = .ok (.goto (-40), 3) := by decide +kernel
theorem d_Mo_memberLine_95 : decode b_Mo_memberLine 95 = .ok (.aload_n 0, 1) := by decide +kernel
theorem d_Mo_memberLine_96 : decode b_Mo_memberLine 96 = .ok (.getfield 116, 3) := by decide +kernel
theorem d_Mo_memberLine_99 : decode b_Mo_memberLine 99 = .ok (.ifCond .ne 15, 3) := by decide +kernel
theorem d_Mo_memberLine_102 : decode b_Mo_memberLine 102 = .ok (.iload_n 3, 1) := by decide +kernel
theorem d_Mo_memberLine_103 : decode b_Mo_memberLine 103 = .ok (.bipush 8, 2) := by decide +kernel
theorem d_Mo_memberLine_105 : decode b_Mo_memberLine 105 = .ok (.if_icmp .ne 9, 3) := by decide +kernel
theorem d_Mo_memberLine_108 : decode b_Mo_memberLine 108 = .ok (.aload_n 0, 1) := by decide +kernel
theorem d_Mo_memberLine_109 : decode b_Mo_memberLine 109 = .ok (.bipush 8, 2) := by decide +kernel
theorem d_Mo_memberLine_111 : decode b_Mo_memberLine 111 = .ok (.putfield 116, 3) := by decide +kernel
theorem d_Mo_memberLine_114 : decode b_Mo_memberLine 114 = .ok (.aload_n 0, 1) := by decide +kernel
theorem d_Mo_memberLine_115 : decode b_Mo_memberLine 115 = .ok (.getfield 116, 3) := by decide +kernel
theorem d_Mo_memberLine_118 : decode b_Mo_memberLine 118 = .ok (.ifCond .eq 4, 3) := by decide +kernel
theorem d_Mo_memberLine_121 : decode b_Mo_memberLine 121 = .ok (.return_, 1) := by decide +kernel
theorem d_Mo_memberLine_122 : decode b_Mo_memberLine 122 = .ok (.aload_n 0, 1) := by decide +kernel
theorem d_Mo_memberLine_123 : decode b_Mo_memberLine 123 = .ok (.sipush 216, 3) := by decide +kernel
theorem d_Mo_memberLine_126 : decode b_Mo_memberLine 126 = .ok (.bipush 108, 2) := by decide +kernel
theorem d_Mo_memberLine_128 : decode b_Mo_memberLine 128 = .ok (.iload_n 1, 1) := by decide +kernel
theorem d_Mo_memberLine_129 : decode b_Mo_memberLine 129 = .ok (.imul, 1) := by decide +kernel
theorem d_Mo_memberLine_130 : decode b_Mo_memberLine 130 = .ok (.bipush 12, 2) := by decide +kernel
theorem d_Mo_memberLine_132 : decode b_Mo_memberLine 132 = .ok (.iadd, 1) := by decide +kernel
theorem d_Mo_memberLine_133 : decode b_Mo_memberLine 133 = .ok (.bipush 8, 2) := by decide +kernel
theorem d_Mo_memberLine_135 : decode b_Mo_memberLine 135 = .ok (.iload_n 2, 1) := by decide +kernel
theorem d_Mo_memberLine_136 : decode b_Mo_memberLine 136 = .ok (.imul, 1) := by decide +kernel
theorem d_Mo_memberLine_137 : decode b_Mo_memberLine 137 = .ok (.iadd, 1) := by decide +kernel
theorem d_Mo_memberLine_138 : decode b_Mo_memberLine 138 = .ok (.iload_n 3, 1) := by decide +kernel
theorem d_Mo_memberLine_139 : decode b_Mo_memberLine 139 = .ok (.iadd, 1) := by decide +kernel
theorem d_Mo_memberLine_140 : decode b_Mo_memberLine 140 = .ok (.invokevirtual 160, 3) := by decide +kernel
theorem d_Mo_memberLine_143 : decode b_Mo_memberLine 143 = .ok (.aload_n 0, 1) := by decide +kernel
theorem d_Mo_memberLine_144 : decode b_Mo_memberLine 144 = .ok (.getfield 40, 3) := by decide +kernel
theorem d_Mo_memberLine_147 : decode b_Mo_memberLine 147 = .ok (.bipush 12, 2) := by decide +kernel
theorem d_Mo_memberLine_149 : decode b_Mo_memberLine 149 = .ok (.iload_n 1, 1) := by decide +kernel
theorem d_Mo_memberLine_150 : decode b_Mo_memberLine 150 = .ok (.imul, 1) := by decide +kernel
theorem d_Mo_memberLine_151 : decode b_Mo_memberLine 151 = .ok (.iload_n 2, 1) := by decide +kernel
theorem d_Mo_memberLine_152 : decode b_Mo_memberLine 152 = .ok (.iadd, 1) := by decide +kernel
theorem d_Mo_memberLine_153 : decode b_Mo_memberLine 153 = .ok (.iload_n 3, 1) := by decide +kernel
theorem d_Mo_memberLine_154 : decode b_Mo_memberLine 154 = .ok (.iconst 1, 1) := by decide +kernel
theorem d_Mo_memberLine_155 : decode b_Mo_memberLine 155 = .ok (.iadd, 1) := by decide +kernel
theorem d_Mo_memberLine_156 : decode b_Mo_memberLine 156 = .ok (.iastore, 1) := by decide +kernel
theorem d_Mo_memberLine_157 : decode b_Mo_memberLine 157 = .ok (.return_, 1) := by decide +kernel
theorem d_Mo_words_0 : decode b_Mo_words 0 = .ok (.iconst 0, 1) := by decide +kernel
theorem d_Mo_words_1 : decode b_Mo_words 1 = .ok (.istore_n 3, 1) := by decide +kernel
theorem d_Mo_words_2 : decode b_Mo_words 2 = .ok (.aload_n 0, 1) := by decide +kernel
theorem d_Mo_words_3 : decode b_Mo_words 3 = .ok (.invokevirtual 125, 3) := by decide +kernel
theorem d_Mo_words_6 : decode b_Mo_words 6 = .ok (.istore 4, 2) := by decide +kernel
theorem d_Mo_words_8 : decode b_Mo_words 8 = .ok (.iload 4, 2) := by decide +kernel
theorem d_Mo_words_10 : decode b_Mo_words 10 = .ok (.ifCond .eq 51, 3) := by decide +kernel
theorem d_Mo_words_13 : decode b_Mo_words 13 = .ok (.iload_n 1, 1) := by decide +kernel
theorem d_Mo_words_14 : decode b_Mo_words 14 = .ok (.aload_n 0, 1) := by decide +kernel
theorem d_Mo_words_15 : decode b_Mo_words 15 = .ok (.invokevirtual 129, 3) := by decide +kernel
theorem d_Mo_words_18 : decode b_Mo_words 18 = .ok (.invokestatic 133, 3) := by decide +kernel
theorem d_Mo_words_21 : decode b_Mo_words 21 = .ok (.ifCond .le 40, 3) := by decide +kernel
theorem d_Mo_words_24 : decode b_Mo_words 24 = .ok (.iload_n 1, 1) := by decide +kernel
theorem d_Mo_words_25 : decode b_Mo_words 25 = .ok (.aload_n 0, 1) := by decide +kernel
theorem d_Mo_words_26 : decode b_Mo_words 26 = .ok (.invokevirtual 129, 3) := by decide +kernel
theorem d_Mo_words_29 : decode b_Mo_words 29 = .ok (.invokestatic 133, 3) := by decide +kernel
theorem d_Mo_words_32 : decode b_Mo_words 32 = .ok (.istore 5, 2) := by decide +kernel
theorem d_Mo_words_34 : decode b_Mo_words 34 = .ok (.iload_n 3, 1) := by decide +kernel
theorem d_Mo_words_35 : decode b_Mo_words 35 = .ok (.iload 5, 2) := by decide +kernel
theorem d_Mo_words_37 : decode b_Mo_words 37 = .ok (.iand, 1) := by decide +kernel
theorem d_Mo_words_38 : decode b_Mo_words 38 = .ok (.ifCond .eq 9, 3) := by decide +kernel
theorem d_Mo_words_41 : decode b_Mo_words 41 = .ok (.aload_n 0, 1) := by decide +kernel
theorem d_Mo_words_42 : decode b_Mo_words 42 = .ok (.iconst 2, 1) := by decide +kernel
theorem d_Mo_words_43 : decode b_Mo_words 43 = .ok (.invokevirtual 137, 3) := by decide +kernel
theorem d_Mo_words_46 : decode b_Mo_words 46 = .ok (.ireturn, 1) := by decide +kernel
theorem d_Mo_words_47 : decode b_Mo_words 47 = .ok (.iload_n 3, 1) := by decide +kernel
theorem d_Mo_words_48 : decode b_Mo_words 48 = .ok (.iload 5, 2) := by decide +kernel
theorem d_Mo_words_50 : decode b_Mo_words 50 = .ok (.iadd, 1) := by decide +kernel
theorem d_Mo_words_51 : decode b_Mo_words 51 = .ok (.istore_n 3, 1) := by decide +kernel
theorem d_Mo_words_52 : decode b_Mo_words 52 = .ok (.aload_n 0, 1) := by decide +kernel
theorem d_Mo_words_53 : decode b_Mo_words 53 = .ok (.invokevirtual 125, 3) := by decide +kernel
theorem d_Mo_words_56 : decode b_Mo_words 56 = .ok (.istore 4, 2) := by decide +kernel
theorem d_Mo_words_58 : decode b_Mo_words 58 = .ok (.goto (-50), 3) := by decide +kernel
theorem d_Mo_words_61 : decode b_Mo_words 61 = .ok (.iload 4, 2) := by decide +kernel
theorem d_Mo_words_63 : decode b_Mo_words 63 = .ok (.ifCond .eq 14, 3) := by decide +kernel
theorem d_Mo_words_66 : decode b_Mo_words 66 = .ok (.iload_n 1, 1) := by decide +kernel
theorem d_Mo_words_67 : decode b_Mo_words 67 = .ok (.aload_n 0, 1) := by decide +kernel
theorem d_Mo_words_68 : decode b_Mo_words 68 = .ok (.invokevirtual 129, 3) := by decide +kernel
theorem d_Mo_words_71 : decode b_Mo_words 71 = .ok (.invokestatic 140, 3) := by decide +kernel
theorem d_Mo_words_74 : decode b_Mo_words 74 = .ok (.goto 4, 3) := by decide +kernel
theorem d_Mo_words_77 : decode b_Mo_words 77 = .ok (.iconst (-1), 1) := by decide +kernel
theorem d_Mo_words_78 : decode b_Mo_words 78 = .ok (.istore 5, 2) := by decide +kernel
theorem d_Mo_words_80 : decode b_Mo_words 80 = .ok (.iload 5, 2) := by decide +kernel
theorem d_Mo_words_82 : decode b_Mo_words 82 = .ok (.ifCond .ge 9, 3) := by decide +kernel
theorem d_Mo_words_85 : decode b_Mo_words 85 = .ok (.aload_n 0, 1) := by decide +kernel
theorem d_Mo_words_86 : decode b_Mo_words 86 = .ok (.iconst 3, 1) := by decide +kernel
theorem d_Mo_words_87 : decode b_Mo_words 87 = .ok (.invokevirtual 137, 3) := by decide +kernel
theorem d_Mo_words_90 : decode b_Mo_words 90 = .ok (.ireturn, 1) := by decide +kernel
theorem d_Mo_words_91 : decode b_Mo_words 91 = .ok (.aload_n 0, 1) := by decide +kernel
theorem d_Mo_words_92 : decode b_Mo_words 92 = .ok (.getfield 34, 3) := by decide +kernel
theorem d_Mo_words_95 : decode b_Mo_words 95 = .ok (.iload_n 2, 1) := by decide +kernel
theorem d_Mo_words_96 : decode b_Mo_words 96 = .ok (.iload 5, 2) := by decide +kernel
theorem d_Mo_words_98 : decode b_Mo_words 98 = .ok (.iastore, 1) := by decide +kernel
theorem d_Mo_words_99 : decode b_Mo_words 99 = .ok (.aload_n 0, 1) := by decide +kernel
theorem d_Mo_words_100 : decode b_Mo_words 100 = .ok (.getfield 37, 3) := by decide +kernel
theorem d_Mo_words_103 : decode b_Mo_words 103 = .ok (.iload_n 2, 1) := by decide +kernel
theorem d_Mo_words_104 : decode b_Mo_words 104 = .ok (.iload_n 3, 1) := by decide +kernel
theorem d_Mo_words_105 : decode b_Mo_words 105 = .ok (.iastore, 1) := by decide +kernel
theorem d_Mo_words_106 : decode b_Mo_words 106 = .ok (.aload_n 0, 1) := by decide +kernel
theorem d_Mo_words_107 : decode b_Mo_words 107 = .ok (.invokevirtual 125, 3) := by decide +kernel
theorem d_Mo_words_110 : decode b_Mo_words 110 = .ok (.ifCond .eq 14, 3) := by decide +kernel
theorem d_Mo_words_113 : decode b_Mo_words 113 = .ok (.aload_n 0, 1) := by decide +kernel
theorem d_Mo_words_114 : decode b_Mo_words 114 = .ok (.invokevirtual 143, 3) := by decide +kernel
theorem d_Mo_words_117 : decode b_Mo_words 117 = .ok (.ifCond .eq 7, 3) := by decide +kernel
theorem d_Mo_words_120 : decode b_Mo_words 120 = .ok (.iconst 1, 1) := by decide +kernel
theorem d_Mo_words_121 : decode b_Mo_words 121 = .ok (.goto 4, 3) := by decide +kernel
theorem d_Mo_words_124 : decode b_Mo_words 124 = .ok (.iconst 0, 1) := by decide +kernel
theorem d_Mo_words_125 : decode b_Mo_words 125 = .ok (.istore 6, 2) := by decide +kernel
theorem d_Mo_words_127 : decode b_Mo_words 127 = .ok (.iload 6, 2) := by decide +kernel
theorem d_Mo_words_129 : decode b_Mo_words 129 = .ok (.ifCond .eq 42, 3) := by decide +kernel
theorem d_Mo_words_132 : decode b_Mo_words 132 = .ok (.aload_n 0, 1) := by decide +kernel
theorem d_Mo_words_133 : decode b_Mo_words 133 = .ok (.iconst 0, 1) := by decide +kernel
theorem d_Mo_words_134 : decode b_Mo_words 134 = .ok (.aload_n 0, 1) := by decide +kernel
theorem d_Mo_words_135 : decode b_Mo_words 135 = .ok (.getfield 95, 3) := by decide +kernel
theorem d_Mo_words_138 : decode b_Mo_words 138 = .ok (.iload_n 1, 1) := by decide +kernel
theorem d_Mo_words_139 : decode b_Mo_words 139 = .ok (.ifCond .eq 7, 3) := by decide +kernel
theorem d_Mo_words_142 : decode b_Mo_words 142 = .ok (.iconst 0, 1) := by decide +kernel
theorem d_Mo_words_143 : decode b_Mo_words 143 = .ok (.goto 5, 3) := by decide +kernel
theorem d_Mo_words_146 : decode b_Mo_words 146 = .ok (.bipush 46, 2) := by decide +kernel
theorem d_Mo_words_148 : decode b_Mo_words 148 = .ok (.invokevirtual 105, 3) := by decide +kernel
theorem d_Mo_words_151 : decode b_Mo_words 151 = .ok (.ifCond .ne 26, 3) := by decide +kernel
theorem d_Mo_words_154 : decode b_Mo_words 154 = .ok (.iload_n 1, 1) := by decide +kernel
theorem d_Mo_words_155 : decode b_Mo_words 155 = .ok (.ifCond .eq 16, 3) := by decide +kernel
theorem d_Mo_words_158 : decode b_Mo_words 158 = .ok (.iload 5, 2) := by decide +kernel
theorem d_Mo_words_160 : decode b_Mo_words 160 = .ok (.iconst 1, 1) := by decide +kernel
theorem d_Mo_words_161 : decode b_Mo_words 161 = .ok (.if_icmp .ne 10, 3) := by decide +kernel
theorem d_Mo_words_164 : decode b_Mo_words 164 = .ok (.aload_n 0, 1) := by decide +kernel
theorem d_Mo_words_165 : decode b_Mo_words 165 = .ok (.invokevirtual 146, 3) := by decide +kernel
theorem d_Mo_words_168 : decode b_Mo_words 168 = .ok (.ifCond .ne 9, 3) := by decide +kernel
theorem d_Mo_words_171 : decode b_Mo_words 171 = .ok (.aload_n 0, 1) := by decide +kernel
theorem d_Mo_words_172 : decode b_Mo_words 172 = .ok (.iconst 4, 1) := by decide +kernel
theorem d_Mo_words_173 : decode b_Mo_words 173 = .ok (.invokevirtual 137, 3) := by decide +kernel
theorem d_Mo_words_176 : decode b_Mo_words 176 = .ok (.ireturn, 1) := by decide +kernel
theorem d_Mo_words_177 : decode b_Mo_words 177 = .ok (.aload_n 0, 1) := by decide +kernel
theorem d_Mo_words_178 : decode b_Mo_words 178 = .ok (.getfield 28, 3) := by decide +kernel
theorem d_Mo_words_181 : decode b_Mo_words 181 = .ok (.iload_n 2, 1) := by decide +kernel
theorem d_Mo_words_182 : decode b_Mo_words 182 = .ok (.aload_n 0, 1) := by decide +kernel
theorem d_Mo_words_183 : decode b_Mo_words 183 = .ok (.getfield 95, 3) := by decide +kernel
theorem d_Mo_words_186 : decode b_Mo_words 186 = .ok (.iastore, 1) := by decide +kernel
theorem d_Mo_words_187 : decode b_Mo_words 187 = .ok (.iconst 0, 1) := by decide +kernel
theorem d_Mo_words_188 : decode b_Mo_words 188 = .ok (.istore 7, 2) := by decide +kernel
theorem d_Mo_words_190 : decode b_Mo_words 190 = .ok (.iload 7, 2) := by decide +kernel
theorem d_Mo_words_192 : decode b_Mo_words 192 = .ok (.aload_n 0, 1) := by decide +kernel
theorem d_Mo_words_193 : decode b_Mo_words 193 = .ok (.getfield 95, 3) := by decide +kernel
theorem d_Mo_words_196 : decode b_Mo_words 196 = .ok (.if_icmp .ge 28, 3) := by decide +kernel
theorem d_Mo_words_199 : decode b_Mo_words 199 = .ok (.aload_n 0, 1) := by decide +kernel
theorem d_Mo_words_200 : decode b_Mo_words 200 = .ok (.getfield 22, 3) := by decide +kernel
theorem d_Mo_words_203 : decode b_Mo_words 203 = .ok (.bipush 20, 2) := by decide +kernel
theorem d_Mo_words_205 : decode b_Mo_words 205 = .ok (.iload_n 2, 1) := by decide +kernel
theorem d_Mo_words_206 : decode b_Mo_words 206 = .ok (.imul, 1) := by decide +kernel
theorem d_Mo_words_207 : decode b_Mo_words 207 = .ok (.iload 7, 2) := by decide +kernel
theorem d_Mo_words_209 : decode b_Mo_words 209 = .ok (.iadd, 1) := by decide +kernel
theorem d_Mo_words_210 : decode b_Mo_words 210 = .ok (.aload_n 0, 1) := by decide +kernel
theorem d_Mo_words_211 : decode b_Mo_words 211 = .ok (.getfield 43, 3) := by decide +kernel
theorem d_Mo_words_214 : decode b_Mo_words 214 = .ok (.iload 7, 2) := by decide +kernel
theorem d_Mo_words_216 : decode b_Mo_words 216 = .ok (.iaload, 1) := by decide +kernel
theorem d_Mo_words_217 : decode b_Mo_words 217 = .ok (.iastore, 1) := by decide +kernel
theorem d_Mo_words_218 : decode b_Mo_words 218 = .ok (.iinc 7 1, 3) := by decide +kernel
theorem d_Mo_words_221 : decode b_Mo_words 221 = .ok (.goto (-31), 3) := by decide +kernel
theorem d_Mo_words_224 : decode b_Mo_words 224 = .ok (.aload_n 0, 1) := by decide +kernel
theorem d_Mo_words_225 : decode b_Mo_words 225 = .ok (.getfield 31, 3) := by decide +kernel
theorem d_Mo_words_228 : decode b_Mo_words 228 = .ok (.iload_n 2, 1) := by decide +kernel
theorem d_Mo_words_229 : decode b_Mo_words 229 = .ok (.iconst 0, 1) := by decide +kernel
theorem d_Mo_words_230 : decode b_Mo_words 230 = .ok (.iastore, 1) := by decide +kernel
theorem d_Mo_words_231 : decode b_Mo_words 231 = .ok (.iload_n 1, 1) := by decide +kernel
theorem d_Mo_words_232 : decode b_Mo_words 232 = .ok (.ifCond .eq 110, 3) := by decide +kernel
theorem d_Mo_words_235 : decode b_Mo_words 235 = .ok (.aload_n 0, 1) := by decide +kernel
theorem d_Mo_words_236 : decode b_Mo_words 236 = .ok (.invokevirtual 125, 3) := by decide +kernel
theorem d_Mo_words_239 : decode b_Mo_words 239 = .ok (.ifCond .eq 14, 3) := by decide +kernel
theorem d_Mo_words_242 : decode b_Mo_words 242 = .ok (.aload_n 0, 1) := by decide +kernel
theorem d_Mo_words_243 : decode b_Mo_words 243 = .ok (.invokevirtual 143, 3) := by decide +kernel
theorem d_Mo_words_246 : decode b_Mo_words 246 = .ok (.ifCond .eq 7, 3) := by decide +kernel
theorem d_Mo_words_249 : decode b_Mo_words 249 = .ok (.iconst 1, 1) := by decide +kernel
theorem d_Mo_words_250 : decode b_Mo_words 250 = .ok (.goto 4, 3) := by decide +kernel
theorem d_Mo_words_253 : decode b_Mo_words 253 = .ok (.iconst 0, 1) := by decide +kernel
theorem d_Mo_words_254 : decode b_Mo_words 254 = .ok (.istore 6, 2) := by decide +kernel
theorem d_Mo_words_256 : decode b_Mo_words 256 = .ok (.iload 6, 2) := by decide +kernel
theorem d_Mo_words_258 : decode b_Mo_words 258 = .ok (.ifCond .eq 31, 3) := by decide +kernel
theorem d_Mo_words_261 : decode b_Mo_words 261 = .ok (.iload 5, 2) := by decide +kernel
theorem d_Mo_words_263 : decode b_Mo_words 263 = .ok (.iconst 1, 1) := by decide +kernel
theorem d_Mo_words_264 : decode b_Mo_words 264 = .ok (.if_icmp .ne 13, 3) := by decide +kernel
theorem d_Mo_words_267 : decode b_Mo_words 267 = .ok (.aload_n 0, 1) := by decide +kernel
theorem d_Mo_words_268 : decode b_Mo_words 268 = .ok (.invokevirtual 149, 3) := by decide +kernel
theorem d_Mo_words_271 : decode b_Mo_words 271 = .ok (.ifCond .eq 18, 3) := by decide +kernel
theorem d_Mo_words_274 : decode b_Mo_words 274 = .ok (.goto 21, 3) := by decide +kernel
theorem d_Mo_words_277 : decode b_Mo_words 277 = .ok (.aload_n 0, 1) := by decide +kernel
theorem d_Mo_words_278 : decode b_Mo_words 278 = .ok (.iconst 0, 1) := by decide +kernel
theorem d_Mo_words_279 : decode b_Mo_words 279 = .ok (.invokevirtual 109, 3) := by decide +kernel
theorem d_Mo_words_282 : decode b_Mo_words 282 = .ok (.aload_n 0, 1) := by decide +kernel
theorem d_Mo_words_283 : decode b_Mo_words 283 = .ok (.getfield 95, 3) := by decide +kernel
theorem d_Mo_words_286 : decode b_Mo_words 286 = .ok (.if_icmp .eq 9, 3) := by decide +kernel
theorem d_Mo_words_289 : decode b_Mo_words 289 = .ok (.aload_n 0, 1) := by decide +kernel
theorem d_Mo_words_290 : decode b_Mo_words 290 = .ok (.iconst 5, 1) := by decide +kernel
theorem d_Mo_words_291 : decode b_Mo_words 291 = .ok (.invokevirtual 137, 3) := by decide +kernel
theorem d_Mo_words_294 : decode b_Mo_words 294 = .ok (.ireturn, 1) := by decide +kernel
theorem d_Mo_words_295 : decode b_Mo_words 295 = .ok (.aload_n 0, 1) := by decide +kernel
theorem d_Mo_words_296 : decode b_Mo_words 296 = .ok (.getfield 31, 3) := by decide +kernel
theorem d_Mo_words_299 : decode b_Mo_words 299 = .ok (.iload_n 2, 1) := by decide +kernel
theorem d_Mo_words_300 : decode b_Mo_words 300 = .ok (.aload_n 0, 1) := by decide +kernel
theorem d_Mo_words_301 : decode b_Mo_words 301 = .ok (.getfield 95, 3) := by decide +kernel
theorem d_Mo_words_304 : decode b_Mo_words 304 = .ok (.iastore, 1) := by decide +kernel
theorem d_Mo_words_305 : decode b_Mo_words 305 = .ok (.iconst 0, 1) := by decide +kernel
theorem d_Mo_words_306 : decode b_Mo_words 306 = .ok (.istore 7, 2) := by decide +kernel
theorem d_Mo_words_308 : decode b_Mo_words 308 = .ok (.iload 7, 2) := by decide +kernel
theorem d_Mo_words_310 : decode b_Mo_words 310 = .ok (.aload_n 0, 1) := by decide +kernel
theorem d_Mo_words_311 : decode b_Mo_words 311 = .ok (.getfield 95, 3) := by decide +kernel
theorem d_Mo_words_314 : decode b_Mo_words 314 = .ok (.if_icmp .ge 28, 3) := by decide +kernel
theorem d_Mo_words_317 : decode b_Mo_words 317 = .ok (.aload_n 0, 1) := by decide +kernel
theorem d_Mo_words_318 : decode b_Mo_words 318 = .ok (.getfield 25, 3) := by decide +kernel
theorem d_Mo_words_321 : decode b_Mo_words 321 = .ok (.bipush 20, 2) := by decide +kernel
theorem d_Mo_words_323 : decode b_Mo_words 323 = .ok (.iload_n 2, 1) := by decide +kernel
theorem d_Mo_words_324 : decode b_Mo_words 324 = .ok (.imul, 1) := by decide +kernel
theorem d_Mo_words_325 : decode b_Mo_words 325 = .ok (.iload 7, 2) := by decide +kernel
theorem d_Mo_words_327 : decode b_Mo_words 327 = .ok (.iadd, 1) := by decide +kernel
theorem d_Mo_words_328 : decode b_Mo_words 328 = .ok (.aload_n 0, 1) := by decide +kernel
theorem d_Mo_words_329 : decode b_Mo_words 329 = .ok (.getfield 43, 3) := by decide +kernel
theorem d_Mo_words_332 : decode b_Mo_words 332 = .ok (.iload 7, 2) := by decide +kernel
theorem d_Mo_words_334 : decode b_Mo_words 334 = .ok (.iaload, 1) := by decide +kernel
theorem d_Mo_words_335 : decode b_Mo_words 335 = .ok (.iastore, 1) := by decide +kernel
theorem d_Mo_words_336 : decode b_Mo_words 336 = .ok (.iinc 7 1, 3) := by decide +kernel
theorem d_Mo_words_339 : decode b_Mo_words 339 = .ok (.goto (-31), 3) := by decide +kernel
theorem d_Mo_words_342 : decode b_Mo_words 342 = .ok (.aload_n 0, 1) := by decide +kernel
theorem d_Mo_words_343 : decode b_Mo_words 343 = .ok (.invokevirtual 125, 3) := by decide +kernel
theorem d_Mo_words_346 : decode b_Mo_words 346 = .ok (.ifCond .eq 12, 3) := by decide +kernel
theorem d_Mo_words_349 : decode b_Mo_words 349 = .ok (.aload_n 0, 1) := by decide +kernel
theorem d_Mo_words_350 : decode b_Mo_words 350 = .ok (.bipush 6, 2) := by decide +kernel
theorem d_Mo_words_352 : decode b_Mo_words 352 = .ok (.invokevirtual 137, 3) := by decide +kernel
theorem d_Mo_words_355 : decode b_Mo_words 355 = .ok (.ifCond .eq 7, 3) := by decide +kernel
theorem d_Mo_words_358 : decode b_Mo_words 358 = .ok (.iconst 1, 1) := by decide +kernel
theorem d_Mo_words_359 : decode b_Mo_words 359 = .ok (.goto 4, 3) := by decide +kernel
theorem d_Mo_words_362 : decode b_Mo_words 362 = .ok (.iconst 0, 1) := by decide +kernel
theorem d_Mo_words_363 : decode b_Mo_words 363 = .ok (.ireturn, 1) := by decide +kernel
theorem d_Mo_mark_0 : decode b_Mo_mark 0 = .ok (.lload_n 1, 1) := by decide +kernel
theorem d_Mo_mark_1 : decode b_Mo_mark 1 = .ok (.ldc2_w 73, 3) := by decide +kernel
theorem d_Mo_mark_4 : decode b_Mo_mark 4 = .ok (.lcmp, 1) := by decide +kernel
theorem d_Mo_mark_5 : decode b_Mo_mark 5 = .ok (.ifCond .ne 5, 3) := by decide +kernel
theorem d_Mo_mark_8 : decode b_Mo_mark 8 = .ok (.iconst 1, 1) := by decide +kernel
theorem d_Mo_mark_9 : decode b_Mo_mark 9 = .ok (.ireturn, 1) := by decide +kernel
theorem d_Mo_mark_10 : decode b_Mo_mark 10 = .ok (.lload_n 1, 1) := by decide +kernel
theorem d_Mo_mark_11 : decode b_Mo_mark 11 = .ok (.ldc2_w 75, 3) := by decide +kernel
theorem d_Mo_mark_14 : decode b_Mo_mark 14 = .ok (.lcmp, 1) := by decide +kernel
theorem d_Mo_mark_15 : decode b_Mo_mark 15 = .ok (.ifCond .ne 14, 3) := by decide +kernel
theorem d_Mo_mark_18 : decode b_Mo_mark 18 = .ok (.iload_n 0, 1) := by decide +kernel
theorem d_Mo_mark_19 : decode b_Mo_mark 19 = .ok (.ifCond .eq 8, 3) := by decide +kernel
theorem d_Mo_mark_22 : decode b_Mo_mark 22 = .ok (.bipush 8, 2) := by decide +kernel
theorem d_Mo_mark_24 : decode b_Mo_mark 24 = .ok (.goto 4, 3) := by decide +kernel
theorem d_Mo_mark_27 : decode b_Mo_mark 27 = .ok (.iconst 4, 1) := by decide +kernel
theorem d_Mo_mark_28 : decode b_Mo_mark 28 = .ok (.ireturn, 1) := by decide +kernel
theorem d_Mo_mark_29 : decode b_Mo_mark 29 = .ok (.lload_n 1, 1) := by decide +kernel
theorem d_Mo_mark_30 : decode b_Mo_mark 30 = .ok (.ldc2_w 77, 3) := by decide +kernel
theorem d_Mo_mark_33 : decode b_Mo_mark 33 = .ok (.lcmp, 1) := by decide +kernel
theorem d_Mo_mark_34 : decode b_Mo_mark 34 = .ok (.ifCond .ne 14, 3) := by decide +kernel
theorem d_Mo_mark_37 : decode b_Mo_mark 37 = .ok (.iload_n 0, 1) := by decide +kernel
theorem d_Mo_mark_38 : decode b_Mo_mark 38 = .ok (.ifCond .eq 8, 3) := by decide +kernel
theorem d_Mo_mark_41 : decode b_Mo_mark 41 = .ok (.bipush 16, 2) := by decide +kernel
theorem d_Mo_mark_43 : decode b_Mo_mark 43 = .ok (.goto 4, 3) := by decide +kernel
theorem d_Mo_mark_46 : decode b_Mo_mark 46 = .ok (.iconst 2, 1) := by decide +kernel
theorem d_Mo_mark_47 : decode b_Mo_mark 47 = .ok (.ireturn, 1) := by decide +kernel
theorem d_Mo_mark_48 : decode b_Mo_mark 48 = .ok (.lload_n 1, 1) := by decide +kernel
theorem d_Mo_mark_49 : decode b_Mo_mark 49 = .ok (.ldc2_w 79, 3) := by decide +kernel
theorem d_Mo_mark_52 : decode b_Mo_mark 52 = .ok (.lcmp, 1) := by decide +kernel
theorem d_Mo_mark_53 : decode b_Mo_mark 53 = .ok (.ifCond .ne 9, 3) := by decide +kernel
theorem d_Mo_mark_56 : decode b_Mo_mark 56 = .ok (.iload_n 0, 1) := by decide +kernel
theorem d_Mo_mark_57 : decode b_Mo_mark 57 = .ok (.ifCond .eq 5, 3) := by decide +kernel
theorem d_Mo_mark_60 : decode b_Mo_mark 60 = .ok (.iconst 2, 1) := by decide +kernel
theorem d_Mo_mark_61 : decode b_Mo_mark 61 = .ok (.ireturn, 1) := by decide +kernel
theorem d_Mo_mark_62 : decode b_Mo_mark 62 = .ok (.lload_n 1, 1) := by decide +kernel
theorem d_Mo_mark_63 : decode b_Mo_mark 63 = .ok (.ldc2_w 81, 3) := by decide +kernel
theorem d_Mo_mark_66 : decode b_Mo_mark 66 = .ok (.lcmp, 1) := by decide +kernel
theorem d_Mo_mark_67 : decode b_Mo_mark 67 = .ok (.ifCond .ne 11, 3) := by decide +kernel
theorem d_Mo_mark_70 : decode b_Mo_mark 70 = .ok (.iload_n 0, 1) := by decide +kernel
theorem d_Mo_mark_71 : decode b_Mo_mark 71 = .ok (.ifCond .eq 7, 3) := by decide +kernel
theorem d_Mo_mark_74 : decode b_Mo_mark 74 = .ok (.iconst 4, 1) := by decide +kernel
theorem d_Mo_mark_75 : decode b_Mo_mark 75 = .ok (.goto 4, 3) := by decide +kernel
theorem d_Mo_mark_78 : decode b_Mo_mark 78 = .ok (.iconst 0, 1) := by decide +kernel
theorem d_Mo_mark_79 : decode b_Mo_mark 79 = .ok (.ireturn, 1) := by decide +kernel
theorem d_Mo_fail_0 : decode b_Mo_fail 0 = .ok (.aload_n 0, 1) := by decide +kernel
theorem d_Mo_fail_1 : decode b_Mo_fail 1 = .ok (.iload_n 1, 1) := by decide +kernel
theorem d_Mo_fail_2 : decode b_Mo_fail 2 = .ok (.putfield 116, 3) := by decide +kernel
theorem d_Mo_fail_5 : decode b_Mo_fail 5 = .ok (.aload_n 0, 1) := by decide +kernel
theorem d_Mo_fail_6 : decode b_Mo_fail 6 = .ok (.aload_n 0, 1) := by decide +kernel
theorem d_Mo_fail_7 : decode b_Mo_fail 7 = .ok (.getfield 68, 3) := by decide +kernel
theorem d_Mo_fail_10 : decode b_Mo_fail 10 = .ok (.aload_n 0, 1) := by decide +kernel
theorem d_Mo_fail_11 : decode b_Mo_fail 11 = .ok (.getfield 65, 3) := by decide +kernel
theorem d_Mo_fail_14 : decode b_Mo_fail 14 = .ok (.if_icmp .lt 10, 3) := by decide +kernel
theorem d_Mo_fail_17 : decode b_Mo_fail 17 = .ok (.aload_n 0, 1) := by decide +kernel
theorem d_Mo_fail_18 : decode b_Mo_fail 18 = .ok (.getfield 65, 3) := by decide +kernel
theorem d_Mo_fail_21 : decode b_Mo_fail 21 = .ok (.goto 7, 3) := by decide +kernel
theorem d_Mo_fail_24 : decode b_Mo_fail 24 = .ok (.aload_n 0, 1) := by decide +kernel
theorem d_Mo_fail_25 : decode b_Mo_fail 25 = .ok (.getfield 68, 3) := by decide +kernel
theorem d_Mo_fail_28 : decode b_Mo_fail 28 = .ok (.aload_n 0, 1) := by decide +kernel
theorem d_Mo_fail_29 : decode b_Mo_fail 29 = .ok (.getfield 119, 3) := by decide +kernel
theorem d_Mo_fail_32 : decode b_Mo_fail 32 = .ok (.isub, 1) := by decide +kernel
theorem d_Mo_fail_33 : decode b_Mo_fail 33 = .ok (.iconst 1, 1) := by decide +kernel
theorem d_Mo_fail_34 : decode b_Mo_fail 34 = .ok (.iadd, 1) := by decide +kernel
theorem d_Mo_fail_35 : decode b_Mo_fail 35 = .ok (.putfield 122, 3) := by decide +kernel
theorem d_Mo_fail_38 : decode b_Mo_fail 38 = .ok (.iconst 0, 1) := by decide +kernel
theorem d_Mo_fail_39 : decode b_Mo_fail 39 = .ok (.ireturn, 1) := by decide +kernel
theorem d_Mo_kindOf_0 : decode b_Mo_kindOf 0 = .ok (.iload_n 0, 1) := by decide +kernel
theorem d_Mo_kindOf_1 : decode b_Mo_kindOf 1 = .ok (.ifCond .eq 29, 3) := by decide +kernel
theorem d_Mo_kindOf_4 : decode b_Mo_kindOf 4 = .ok (.lload_n 1, 1) := by decide +kernel
theorem d_Mo_kindOf_5 : decode b_Mo_kindOf 5 = .ok (.ldc2_w 83, 3) := by decide +kernel
theorem d_Mo_kindOf_8 : decode b_Mo_kindOf 8 = .ok (.lcmp, 1) := by decide +kernel
theorem d_Mo_kindOf_9 : decode b_Mo_kindOf 9 = .ok (.ifCond .ne 7, 3) := by decide +kernel
theorem d_Mo_kindOf_12 : decode b_Mo_kindOf 12 = .ok (.iconst 0, 1) := by decide +kernel
theorem d_Mo_kindOf_13 : decode b_Mo_kindOf 13 = .ok (.goto 16, 3) := by decide +kernel
theorem d_Mo_kindOf_16 : decode b_Mo_kindOf 16 = .ok (.lload_n 1, 1) := by decide +kernel
theorem d_Mo_kindOf_17 : decode b_Mo_kindOf 17 = .ok (.ldc2_w 85, 3) := by decide +kernel
theorem d_Mo_kindOf_20 : decode b_Mo_kindOf 20 = .ok (.lcmp, 1) := by decide +kernel
theorem d_Mo_kindOf_21 : decode b_Mo_kindOf 21 = .ok (.ifCond .ne 7, 3) := by decide +kernel
theorem d_Mo_kindOf_24 : decode b_Mo_kindOf 24 = .ok (.iconst 1, 1) := by decide +kernel
theorem d_Mo_kindOf_25 : decode b_Mo_kindOf 25 = .ok (.goto 4, 3) := by decide +kernel
theorem d_Mo_kindOf_28 : decode b_Mo_kindOf 28 = .ok (.iconst (-1), 1) := by decide +kernel
theorem d_Mo_kindOf_29 : decode b_Mo_kindOf 29 = .ok (.ireturn, 1) := by decide +kernel
theorem d_Mo_kindOf_30 : decode b_Mo_kindOf 30 = .ok (.lload_n 1, 1) := by decide +kernel
theorem d_Mo_kindOf_31 : decode b_Mo_kindOf 31 = .ok (.ldc2_w 87, 3) := by decide +kernel
theorem d_Mo_kindOf_34 : decode b_Mo_kindOf 34 = .ok (.lcmp, 1) := by decide +kernel
theorem d_Mo_kindOf_35 : decode b_Mo_kindOf 35 = .ok (.ifCond .ne 5, 3) := by decide +kernel
theorem d_Mo_kindOf_38 : decode b_Mo_kindOf 38 = .ok (.iconst 0, 1) := by decide +kernel
theorem d_Mo_kindOf_39 : decode b_Mo_kindOf 39 = .ok (.ireturn, 1) := by decide +kernel
theorem d_Mo_kindOf_40 : decode b_Mo_kindOf 40 = .ok (.lload_n 1, 1) := by decide +kernel
theorem d_Mo_kindOf_41 : decode b_Mo_kindOf 41 = .ok (.ldc2_w 89, 3) := by decide +kernel
theorem d_Mo_kindOf_44 : decode b_Mo_kindOf 44 = .ok (.lcmp, 1) := by decide +kernel
theorem d_Mo_kindOf_45 : decode b_Mo_kindOf 45 = .ok (.ifCond .ne 5, 3) := by decide +kernel
theorem d_Mo_kindOf_48 : decode b_Mo_kindOf 48 = .ok (.iconst 1, 1) := by decide +kernel
theorem d_Mo_kindOf_49 : decode b_Mo_kindOf 49 = .ok (.ireturn, 1) := by decide +kernel
theorem d_Mo_kindOf_50 : decode b_Mo_kindOf 50 = .ok (.lload_n 1, 1) := by decide +kernel
theorem d_Mo_kindOf_51 : decode b_Mo_kindOf 51 = .ok (.ldc2_w 91, 3) := by decide +kernel
theorem d_Mo_kindOf_54 : decode b_Mo_kindOf 54 = .ok (.lcmp, 1) := by decide +kernel
theorem d_Mo_kindOf_55 : decode b_Mo_kindOf 55 = .ok (.ifCond .ne 7, 3) := by decide +kernel
theorem d_Mo_kindOf_58 : decode b_Mo_kindOf 58 = .ok (.iconst 2, 1) := by decide +kernel
theorem d_Mo_kindOf_59 : decode b_Mo_kindOf 59 = .ok (.goto 16, 3) := by decide +kernel
theorem d_Mo_kindOf_62 : decode b_Mo_kindOf 62 = .ok (.lload_n 1, 1) := by decide +kernel
theorem d_Mo_kindOf_63 : decode b_Mo_kindOf 63 = .ok (.ldc2_w 93, 3) := by decide +kernel
theorem d_Mo_kindOf_66 : decode b_Mo_kindOf 66 = .ok (.lcmp, 1) := by decide +kernel
theorem d_Mo_kindOf_67 : decode b_Mo_kindOf 67 = .ok (.ifCond .ne 7, 3) := by decide +kernel
theorem d_Mo_kindOf_70 : decode b_Mo_kindOf 70 = .ok (.iconst 3, 1) := by decide +kernel
theorem d_Mo_kindOf_71 : decode b_Mo_kindOf 71 = .ok (.goto 4, 3) := by decide +kernel
theorem d_Mo_kindOf_74 : decode b_Mo_kindOf 74 = .ok (.iconst (-1), 1) := by decide +kernel
theorem d_Mo_kindOf_75 : decode b_Mo_kindOf 75 = .ok (.ireturn, 1) := by decide +kernel
theorem d_Mo_take_0 : decode b_Mo_take 0 = .ok (.aload_n 0, 1) := by decide +kernel
theorem d_Mo_take_1 : decode b_Mo_take 1 = .ok (.iconst 0, 1) := by decide +kernel
theorem d_Mo_take_2 : decode b_Mo_take 2 = .ok (.putfield 95, 3) := by decide +kernel
theorem d_Mo_take_5 : decode b_Mo_take 5 = .ok (.aload_n 0, 1) := by decide +kernel
theorem d_Mo_take_6 : decode b_Mo_take 6 = .ok (.getfield 68, 3) := by decide +kernel
theorem d_Mo_take_9 : decode b_Mo_take 9 = .ok (.istore_n 1, 1) := by decide +kernel
theorem d_Mo_take_10 : decode b_Mo_take 10 = .ok (.iload_n 1, 1) := by decide +kernel
theorem d_Mo_take_11 : decode b_Mo_take 11 = .ok (.aload_n 0, 1) := by decide +kernel
theorem d_Mo_take_12 : decode b_Mo_take 12 = .ok (.getfield 62, 3) := by decide +kernel
theorem d_Mo_take_15 : decode b_Mo_take 15 = .ok (.if_icmp .ge 104, 3) := by decide +kernel
theorem d_Mo_take_18 : decode b_Mo_take 18 = .ok (.aload_n 0, 1) := by decide +kernel
theorem d_Mo_take_19 : decode b_Mo_take 19 = .ok (.getfield 7, 3) := by decide +kernel
theorem d_Mo_take_22 : decode b_Mo_take 22 = .ok (.iload_n 1, 1) := by decide +kernel
theorem d_Mo_take_23 : decode b_Mo_take 23 = .ok (.iaload, 1) := by decide +kernel
theorem d_Mo_take_24 : decode b_Mo_take 24 = .ok (.istore_n 2, 1) := by decide +kernel
theorem d_Mo_take_25 : decode b_Mo_take 25 = .ok (.aload_n 0, 1) := by decide +kernel
theorem d_Mo_take_26 : decode b_Mo_take 26 = .ok (.getfield 98, 3) := by decide +kernel
theorem d_Mo_take_29 : decode b_Mo_take 29 = .ok (.iconst 1, 1) := by decide +kernel
theorem d_Mo_take_30 : decode b_Mo_take 30 = .ok (.if_icmp .ne 11, 3) := by decide +kernel
theorem d_Mo_take_33 : decode b_Mo_take 33 = .ok (.iload_n 2, 1) := by decide +kernel
theorem d_Mo_take_34 : decode b_Mo_take 34 = .ok (.bipush 36, 2) := by decide +kernel
theorem d_Mo_take_36 : decode b_Mo_take 36 = .ok (.if_icmp .ne 5, 3) := by decide +kernel
theorem d_Mo_take_39 : decode b_Mo_take 39 = .ok (.iconst 0, 1) := by decide +kernel
theorem d_Mo_take_40 : decode b_Mo_take 40 = .ok (.ireturn, 1) := by decide +kernel
theorem d_Mo_take_41 : decode b_Mo_take 41 = .ok (.aload_n 0, 1) := by decide +kernel
theorem d_Mo_take_42 : decode b_Mo_take 42 = .ok (.getfield 98, 3) := by decide +kernel
theorem d_Mo_take_45 : decode b_Mo_take 45 = .ok (.iconst 1, 1) := by decide +kernel
theorem d_Mo_take_46 : decode b_Mo_take 46 = .ok (.if_icmp .ne 36, 3) := by decide +kernel
theorem d_Mo_take_49 : decode b_Mo_take 49 = .ok (.iload_n 2, 1) := by decide +kernel
theorem d_Mo_take_50 : decode b_Mo_take 50 = .ok (.bipush 37, 2) := by decide +kernel
theorem d_Mo_take_52 : decode b_Mo_take 52 = .ok (.if_icmp .ne 30, 3) := by decide +kernel
theorem d_Mo_take_55 : decode b_Mo_take 55 = .ok (.iinc 1 1, 3) := by decide +kernel
theorem d_Mo_take_58 : decode b_Mo_take 58 = .ok (.iload_n 1, 1) := by decide +kernel
theorem d_Mo_take_59 : decode b_Mo_take 59 = .ok (.aload_n 0, 1) := by decide +kernel
theorem d_Mo_take_60 : decode b_Mo_take 60 = .ok (.getfield 62, 3) := by decide +kernel
theorem d_Mo_take_63 : decode b_Mo_take 63 = .ok (.if_icmp .ge 14, 3) := by decide +kernel
theorem d_Mo_take_66 : decode b_Mo_take 66 = .ok (.aload_n 0, 1) := by decide +kernel
theorem d_Mo_take_67 : decode b_Mo_take 67 = .ok (.getfield 7, 3) := by decide +kernel
theorem d_Mo_take_70 : decode b_Mo_take 70 = .ok (.iload_n 1, 1) := by decide +kernel
theorem d_Mo_take_71 : decode b_Mo_take 71 = .ok (.iaload, 1) := by decide +kernel
theorem d_Mo_take_72 : decode b_Mo_take 72 = .ok (.bipush 36, 2) := by decide +kernel
theorem d_Mo_take_74 : decode b_Mo_take 74 = .ok (.if_icmp .eq 5, 3) := by decide +kernel
theorem d_Mo_take_77 : decode b_Mo_take 77 = .ok (.iconst 0, 1) := by decide +kernel
theorem d_Mo_take_78 : decode b_Mo_take 78 = .ok (.ireturn, 1) := by decide +kernel
theorem d_Mo_take_79 : decode b_Mo_take 79 = .ok (.bipush 36, 2) := by decide +kernel
theorem d_Mo_take_81 : decode b_Mo_take 81 = .ok (.istore_n 2, 1) := by decide +kernel
theorem d_Mo_take_82 : decode b_Mo_take 82 = .ok (.aload_n 0, 1) := by decide +kernel
theorem d_Mo_take_83 : decode b_Mo_take 83 = .ok (.getfield 95, 3) := by decide +kernel
theorem d_Mo_take_86 : decode b_Mo_take 86 = .ok (.bipush 20, 2) := by decide +kernel
theorem d_Mo_take_88 : decode b_Mo_take 88 = .ok (.if_icmp .ne 5, 3) := by decide +kernel
theorem d_Mo_take_91 : decode b_Mo_take 91 = .ok (.iconst 0, 1) := by decide +kernel
theorem d_Mo_take_92 : decode b_Mo_take 92 = .ok (.ireturn, 1) := by decide +kernel
theorem d_Mo_take_93 : decode b_Mo_take 93 = .ok (.aload_n 0, 1) := by decide +kernel
theorem d_Mo_take_94 : decode b_Mo_take 94 = .ok (.getfield 43, 3) := by decide +kernel
theorem d_Mo_take_97 : decode b_Mo_take 97 = .ok (.aload_n 0, 1) := by decide +kernel
theorem d_Mo_take_98 : decode b_Mo_take 98 = .ok (.getfield 95, 3) := by decide +kernel
theorem d_Mo_take_101 : decode b_Mo_take 101 = .ok (.iload_n 2, 1) := by decide +kernel
theorem d_Mo_take_102 : decode b_Mo_take 102 = .ok (.iastore, 1) := by decide +kernel
theorem d_Mo_take_103 : decode b_Mo_take 103 = .ok (.aload_n 0, 1) := by decide +kernel
theorem d_Mo_take_104 : decode b_Mo_take 104 = .ok (.dup, 1) := by decide +kernel
theorem d_Mo_take_105 : decode b_Mo_take 105 = .ok (.getfield 95, 3) := by decide +kernel
theorem d_Mo_take_108 : decode b_Mo_take 108 = .ok (.iconst 1, 1) := by decide +kernel
theorem d_Mo_take_109 : decode b_Mo_take 109 = .ok (.iadd, 1) := by decide +kernel
theorem d_Mo_take_110 : decode b_Mo_take 110 = .ok (.putfield 95, 3) := by decide +kernel
theorem d_Mo_take_113 : decode b_Mo_take 113 = .ok (.iinc 1 1, 3) := by decide +kernel
theorem d_Mo_take_116 : decode b_Mo_take 116 = .ok (.goto (-106), 3) := by decide +kernel
theorem d_Mo_take_119 : decode b_Mo_take 119 = .ok (.iconst 1, 1) := by decide +kernel
theorem d_Mo_take_120 : decode b_Mo_take 120 = .ok (.ireturn, 1) := by decide +kernel
theorem d_Mo_dotted_0 : decode b_Mo_dotted 0 = .ok (.iconst 1, 1) := by decide +kernel
theorem d_Mo_dotted_1 : decode b_Mo_dotted 1 = .ok (.istore 4, 2) := by decide +kernel
theorem d_Mo_dotted_3 : decode b_Mo_dotted 3 = .ok (.iload_n 1, 1) := by decide +kernel
theorem d_Mo_dotted_4 : decode b_Mo_dotted 4 = .ok (.istore 5, 2) := by decide +kernel
theorem d_Mo_dotted_6 : decode b_Mo_dotted 6 = .ok (.iload 5, 2) := by decide +kernel
theorem d_Mo_dotted_8 : decode b_Mo_dotted 8 = .ok (.iload_n 2, 1) := by decide +kernel
theorem d_Mo_dotted_9 : decode b_Mo_dotted 9 = .ok (.if_icmp .ge 70, 3) := by decide +kernel
theorem d_Mo_dotted_12 : decode b_Mo_dotted 12 = .ok (.aload_n 0, 1) := by decide +kernel
theorem d_Mo_dotted_13 : decode b_Mo_dotted 13 = .ok (.getfield 43, 3) := by decide +kernel
theorem d_Mo_dotted_16 : decode b_Mo_dotted 16 = .ok (.iload 5, 2) := by decide +kernel
theorem d_Mo_dotted_18 : decode b_Mo_dotted 18 = .ok (.iaload, 1) := by decide +kernel
theorem d_Mo_dotted_19 : decode b_Mo_dotted 19 = .ok (.istore 6, 2) := by decide +kernel
theorem d_Mo_dotted_21 : decode b_Mo_dotted 21 = .ok (.iload 6, 2) := by decide +kernel
theorem d_Mo_dotted_23 : decode b_Mo_dotted 23 = .ok (.iload_n 3, 1) := by decide +kernel
theorem d_Mo_dotted_24 : decode b_Mo_dotted 24 = .ok (.if_icmp .ne 14, 3) := by decide +kernel
theorem d_Mo_dotted_27 : decode b_Mo_dotted 27 = .ok (.iload 4, 2) := by decide +kernel
theorem d_Mo_dotted_29 : decode b_Mo_dotted 29 = .ok (.ifCond .ne 9, 3) := by decide +kernel
theorem d_Mo_dotted_32 : decode b_Mo_dotted 32 = .ok (.iconst 1, 1) := by decide +kernel
theorem d_Mo_dotted_33 : decode b_Mo_dotted 33 = .ok (.istore 4, 2) := by decide +kernel
theorem d_Mo_dotted_35 : decode b_Mo_dotted 35 = .ok (.goto 38, 3) := by decide +kernel
theorem d_Mo_dotted_38 : decode b_Mo_dotted 38 = .ok (.iload 6, 2) := by decide +kernel
theorem d_Mo_dotted_40 : decode b_Mo_dotted 40 = .ok (.invokestatic 101, 3) := by decide +kernel
theorem d_Mo_dotted_43 : decode b_Mo_dotted 43 = .ok (.ifCond .ne 22, 3) := by decide +kernel
theorem d_Mo_dotted_46 : decode b_Mo_dotted 46 = .ok (.iload 4, 2) := by decide +kernel
theorem d_Mo_dotted_48 : decode b_Mo_dotted 48 = .ok (.ifCond .ne 23, 3) := by decide +kernel
theorem d_Mo_dotted_51 : decode b_Mo_dotted 51 = .ok (.iload 6, 2) := by decide +kernel
theorem d_Mo_dotted_53 : decode b_Mo_dotted 53 = .ok (.bipush 48, 2) := by decide +kernel
theorem d_Mo_dotted_55 : decode b_Mo_dotted 55 = .ok (.if_icmp .lt 16, 3) := by decide +kernel
theorem d_Mo_dotted_58 : decode b_Mo_dotted 58 = .ok (.iload 6, 2) := by decide +kernel
theorem d_Mo_dotted_60 : decode b_Mo_dotted 60 = .ok (.bipush 57, 2) := by decide +kernel
theorem d_Mo_dotted_62 : decode b_Mo_dotted 62 = .ok (.if_icmp .gt 9, 3) := by decide +kernel
theorem d_Mo_dotted_65 : decode b_Mo_dotted 65 = .ok (.iconst 0, 1) := by decide +kernel
theorem d_Mo_dotted_66 : decode b_Mo_dotted 66 = .ok (.istore 4, 2) := by decide +kernel
theorem d_Mo_dotted_68 : decode b_Mo_dotted 68 = .ok (.goto 5, 3) := by decide +kernel
theorem d_Mo_dotted_71 : decode b_Mo_dotted 71 = .ok (.iconst 0, 1) := by decide +kernel
theorem d_Mo_dotted_72 : decode b_Mo_dotted 72 = .ok (.ireturn, 1) := by decide +kernel
theorem d_Mo_dotted_73 : decode b_Mo_dotted 73 = .ok (.iinc 5 1, 3) := by decide +kernel
theorem d_Mo_dotted_76 : decode b_Mo_dotted 76 = .ok (.goto (-70), 3) := by decide +kernel
theorem d_Mo_dotted_79 : decode b_Mo_dotted 79 = .ok (.iload 4, 2) := by decide +kernel
theorem d_Mo_dotted_81 : decode b_Mo_dotted 81 = .ok (.ifCond .ne 7, 3) := by decide +kernel
theorem d_Mo_dotted_84 : decode b_Mo_dotted 84 = .ok (.iconst 1, 1) := by decide +kernel
theorem d_Mo_dotted_85 : decode b_Mo_dotted 85 = .ok (.goto 4, 3) := by decide +kernel
theorem d_Mo_dotted_88 : decode b_Mo_dotted 88 = .ok (.iconst 0, 1) := by decide +kernel
theorem d_Mo_dotted_89 : decode b_Mo_dotted 89 = .ok (.ireturn, 1) := by decide +kernel
