theorem d_Mo_markWord_0 : decode b_Mo_markWord 0 = .ok (.iload_n 1, 1) := by decide +kernel
theorem d_Mo_markWord_1 : decode b_Mo_markWord 1 = .ok (.ifCond .ne 7, 3) := by decide +kernel
theorem d_Mo_markWord_4 : decode b_Mo_markWord 4 = .ok (.ldc2_w 73, 3) := by decide +kernel
theorem d_Mo_markWord_7 : decode b_Mo_markWord 7 = .ok (.lreturn, 1) := by decide +kernel
theorem d_Mo_markWord_8 : decode b_Mo_markWord 8 = .ok (.iload_n 0, 1) := by decide +kernel
theorem d_Mo_markWord_9 : decode b_Mo_markWord 9 = .ok (.ifCond .eq 40, 3) := by decide +kernel
theorem d_Mo_markWord_12 : decode b_Mo_markWord 12 = .ok (.iload_n 1, 1) := by decide +kernel
theorem d_Mo_markWord_13 : decode b_Mo_markWord 13 = .ok (.iconst 1, 1) := by decide +kernel
theorem d_Mo_markWord_14 : decode b_Mo_markWord 14 = .ok (.if_icmp .ne 9, 3) := by decide +kernel
theorem d_Mo_markWord_17 : decode b_Mo_markWord 17 = .ok (.ldc2_w 79, 3) := by decide +kernel
theorem d_Mo_markWord_20 : decode b_Mo_markWord 20 = .ok (.goto 28, 3) := by decide +kernel
theorem d_Mo_markWord_23 : decode b_Mo_markWord 23 = .ok (.iload_n 1, 1) := by decide +kernel
theorem d_Mo_markWord_24 : decode b_Mo_markWord 24 = .ok (.iconst 2, 1) := by decide +kernel
theorem d_Mo_markWord_25 : decode b_Mo_markWord 25 = .ok (.if_icmp .ne 9, 3) := by decide +kernel
theorem d_Mo_markWord_28 : decode b_Mo_markWord 28 = .ok (.ldc2_w 81, 3) := by decide +kernel
theorem d_Mo_markWord_31 : decode b_Mo_markWord 31 = .ok (.goto 17, 3) := by decide +kernel
theorem d_Mo_markWord_34 : decode b_Mo_markWord 34 = .ok (.iload_n 1, 1) := by decide +kernel
theorem d_Mo_markWord_35 : decode b_Mo_markWord 35 = .ok (.iconst 3, 1) := by decide +kernel
theorem d_Mo_markWord_36 : decode b_Mo_markWord 36 = .ok (.if_icmp .ne 9, 3) := by decide +kernel
theorem d_Mo_markWord_39 : decode b_Mo_markWord 39 = .ok (.ldc2_w 75, 3) := by decide +kernel
theorem d_Mo_markWord_42 : decode b_Mo_markWord 42 = .ok (.goto 6, 3) := by decide +kernel
theorem d_Mo_markWord_45 : decode b_Mo_markWord 45 = .ok (.ldc2_w 77, 3) := by decide +kernel
theorem d_Mo_markWord_48 : decode b_Mo_markWord 48 = .ok (.lreturn, 1) := by decide +kernel
theorem d_Mo_markWord_49 : decode b_Mo_markWord 49 = .ok (.iload_n 1, 1) := by decide +kernel
theorem d_Mo_markWord_50 : decode b_Mo_markWord 50 = .ok (.iconst 1, 1) := by decide +kernel
theorem d_Mo_markWord_51 : decode b_Mo_markWord 51 = .ok (.if_icmp .ne 9, 3) := by decide +kernel
theorem d_Mo_markWord_54 : decode b_Mo_markWord 54 = .ok (.ldc2_w 77, 3) := by decide +kernel
theorem d_Mo_markWord_57 : decode b_Mo_markWord 57 = .ok (.goto 6, 3) := by decide +kernel
theorem d_Mo_markWord_60 : decode b_Mo_markWord 60 = .ok (.ldc2_w 75, 3) := by decide +kernel
theorem d_Mo_markWord_63 : decode b_Mo_markWord 63 = .ok (.lreturn, 1) := by decide +kernel
theorem d_Mo_kindWord_0 : decode b_Mo_kindWord 0 = .ok (.iload_n 0, 1) := by decide +kernel
theorem d_Mo_kindWord_1 : decode b_Mo_kindWord 1 = .ok (.ifCond .eq 17, 3) := by decide +kernel
theorem d_Mo_kindWord_4 : decode b_Mo_kindWord 4 = .ok (.iload_n 1, 1) := by decide +kernel
theorem d_Mo_kindWord_5 : decode b_Mo_kindWord 5 = .ok (.ifCond .ne 9, 3) := by decide +kernel
theorem d_Mo_kindWord_8 : decode b_Mo_kindWord 8 = .ok (.ldc2_w 83, 3) := by decide +kernel
theorem d_Mo_kindWord_11 : decode b_Mo_kindWord 11 = .ok (.goto 6, 3) := by decide +kernel
theorem d_Mo_kindWord_14 : decode b_Mo_kindWord 14 = .ok (.ldc2_w 85, 3) := by decide +kernel
theorem d_Mo_kindWord_17 : decode b_Mo_kindWord 17 = .ok (.lreturn, 1) := by decide +kernel
theorem d_Mo_kindWord_18 : decode b_Mo_kindWord 18 = .ok (.iload_n 1, 1) := by decide +kernel
theorem d_Mo_kindWord_19 : decode b_Mo_kindWord 19 = .ok (.ifCond .ne 9, 3) := by decide +kernel
theorem d_Mo_kindWord_22 : decode b_Mo_kindWord 22 = .ok (.ldc2_w 87, 3) := by decide +kernel
theorem d_Mo_kindWord_25 : decode b_Mo_kindWord 25 = .ok (.goto 28, 3) := by decide +kernel
theorem d_Mo_kindWord_28 : decode b_Mo_kindWord 28 = .ok (.iload_n 1, 1) := by decide +kernel
theorem d_Mo_kindWord_29 : decode b_Mo_kindWord 29 = .ok (.iconst 1, 1) := by decide +kernel
theorem d_Mo_kindWord_30 : decode b_Mo_kindWord 30 = .ok (.if_icmp .ne 9, 3) := by decide +kernel
theorem d_Mo_kindWord_33 : decode b_Mo_kindWord 33 = .ok (.ldc2_w 89, 3) := by decide +kernel
theorem d_Mo_kindWord_36 : decode b_Mo_kindWord 36 = .ok (.goto 17, 3) := by decide +kernel
theorem d_Mo_kindWord_39 : decode b_Mo_kindWord 39 = .ok (.iload_n 1, 1) := by decide +kernel
theorem d_Mo_kindWord_40 : decode b_Mo_kindWord 40 = .ok (.iconst 2, 1) := by decide +kernel
theorem d_Mo_kindWord_41 : decode b_Mo_kindWord 41 = .ok (.if_icmp .ne 9, 3) := by decide +kernel
theorem d_Mo_kindWord_44 : decode b_Mo_kindWord 44 = .ok (.ldc2_w 91, 3) := by decide +kernel
theorem d_Mo_kindWord_47 : decode b_Mo_kindWord 47 = .ok (.goto 6, 3) := by decide +kernel
theorem d_Mo_kindWord_50 : decode b_Mo_kindWord 50 = .ok (.ldc2_w 93, 3) := by decide +kernel
theorem d_Mo_kindWord_53 : decode b_Mo_kindWord 53 = .ok (.lreturn, 1) := by decide +kernel
theorem d_Mo_copyText_0 : decode b_Mo_copyText 0 = .ok (.iload_n 1, 1) := by decide +kernel
theorem d_Mo_copyText_1 : decode b_Mo_copyText 1 = .ok (.ifCond .eq 12, 3) := by decide +kernel
theorem d_Mo_copyText_4 : decode b_Mo_copyText 4 = .ok (.aload_n 0, 1) := by decide +kernel
theorem d_Mo_copyText_5 : decode b_Mo_copyText 5 = .ok (.getfield 28, 3) := by decide +kernel
theorem d_Mo_copyText_8 : decode b_Mo_copyText 8 = .ok (.iload_n 2, 1) := by decide +kernel
theorem d_Mo_copyText_9 : decode b_Mo_copyText 9 = .ok (.iaload, 1) := by decide +kernel
theorem d_Mo_copyText_10 : decode b_Mo_copyText 10 = .ok (.goto 9, 3) := by decide +kernel
theorem d_Mo_copyText_13 : decode b_Mo_copyText 13 = .ok (.aload_n 0, 1) := by decide +kernel
theorem d_Mo_copyText_14 : decode b_Mo_copyText 14 = .ok (.getfield 31, 3) := by decide +kernel
theorem d_Mo_copyText_17 : decode b_Mo_copyText 17 = .ok (.iload_n 2, 1) := by decide +kernel
theorem d_Mo_copyText_18 : decode b_Mo_copyText 18 = .ok (.iaload, 1) := by decide +kernel
theorem d_Mo_copyText_19 : decode b_Mo_copyText 19 = .ok (.istore 4, 2) := by decide +kernel
theorem d_Mo_copyText_21 : decode b_Mo_copyText 21 = .ok (.iconst 0, 1) := by decide +kernel
theorem d_Mo_copyText_22 : decode b_Mo_copyText 22 = .ok (.istore 5, 2) := by decide +kernel
theorem d_Mo_copyText_24 : decode b_Mo_copyText 24 = .ok (.iload 5, 2) := by decide +kernel
theorem d_Mo_copyText_26 : decode b_Mo_copyText 26 = .ok (.iload 4, 2) := by decide +kernel
theorem d_Mo_copyText_28 : decode b_Mo_copyText 28 = .ok (.if_icmp .ge 66, 3) := by decide +kernel
theorem d_Mo_copyText_31 : decode b_Mo_copyText 31 = .ok (.iload_n 1, 1) := by decide +kernel
theorem d_Mo_copyText_32 : decode b_Mo_copyText 32 = .ok (.ifCond .eq 18, 3) := by decide +kernel
theorem d_Mo_copyText_35 : decode b_Mo_copyText 35 = .ok (.aload_n 0, 1) := by decide +kernel
theorem d_Mo_copyText_36 : decode b_Mo_copyText 36 = .ok (.getfield 22, 3) := by decide +kernel
theorem d_Mo_copyText_39 : decode b_Mo_copyText 39 = .ok (.bipush 20, 2) := by decide +kernel
theorem d_Mo_copyText_41 : decode b_Mo_copyText 41 = .ok (.iload_n 2, 1) := by decide +kernel
theorem d_Mo_copyText_42 : decode b_Mo_copyText 42 = .ok (.imul, 1) := by decide +kernel
theorem d_Mo_copyText_43 : decode b_Mo_copyText 43 = .ok (.iload 5, 2) := by decide +kernel
theorem d_Mo_copyText_45 : decode b_Mo_copyText 45 = .ok (.iadd, 1) := by decide +kernel
theorem d_Mo_copyText_46 : decode b_Mo_copyText 46 = .ok (.iaload, 1) := by decide +kernel
theorem d_Mo_copyText_47 : decode b_Mo_copyText 47 = .ok (.goto 15, 3) := by decide +kernel
theorem d_Mo_copyText_50 : decode b_Mo_copyText 50 = .ok (.aload_n 0, 1) := by decide +kernel
theorem d_Mo_copyText_51 : decode b_Mo_copyText 51 = .ok (.getfield 25, 3) := by decide +kernel
theorem d_Mo_copyText_54 : decode b_Mo_copyText 54 = .ok (.bipush 20, 2) := by decide +kernel
theorem d_Mo_copyText_56 : decode b_Mo_copyText 56 = .ok (.iload_n 2, 1) := by decide +kernel
theorem d_Mo_copyText_57 : decode b_Mo_copyText 57 = .ok (.imul, 1) := by decide +kernel
theorem d_Mo_copyText_58 : decode b_Mo_copyText 58 = .ok (.iload 5, 2) := by decide +kernel
theorem d_Mo_copyText_60 : decode b_Mo_copyText 60 = .ok (.iadd, 1) := by decide +kernel
theorem d_Mo_copyText_61 : decode b_Mo_copyText 61 = .ok (.iaload, 1) := by decide +kernel
theorem d_Mo_copyText_62 : decode b_Mo_copyText 62 = .ok (.istore 6, 2) := by decide +kernel
theorem d_Mo_copyText_64 : decode b_Mo_copyText 64 = .ok (.iload 6, 2) := by decide +kernel
theorem d_Mo_copyText_66 : decode b_Mo_copyText 66 = .ok (.bipush 36, 2) := by decide +kernel
theorem d_Mo_copyText_68 : decode b_Mo_copyText 68 = .ok (.if_icmp .ne 14, 3) := by decide +kernel
theorem d_Mo_copyText_71 : decode b_Mo_copyText 71 = .ok (.iload_n 3, 1) := by decide +kernel
theorem d_Mo_copyText_72 : decode b_Mo_copyText 72 = .ok (.iconst 1, 1) := by decide +kernel
theorem d_Mo_copyText_73 : decode b_Mo_copyText 73 = .ok (.if_icmp .ne 9, 3) := by decide +kernel
theorem d_Mo_copyText_76 : decode b_Mo_copyText 76 = .ok (.aload_n 0, 1) := by decide +kernel
theorem d_Mo_copyText_77 : decode b_Mo_copyText 77 = .ok (.bipush 37, 2) := by decide +kernel
theorem d_Mo_copyText_79 : decode b_Mo_copyText 79 = .ok (.invokevirtual 198, 3) := by decide +kernel
theorem d_Mo_copyText_82 : decode b_Mo_copyText 82 = .ok (.aload_n 0, 1) := by decide +kernel
theorem d_Mo_copyText_83 : decode b_Mo_copyText 83 = .ok (.iload 6, 2) := by decide +kernel
theorem d_Mo_copyText_85 : decode b_Mo_copyText 85 = .ok (.invokevirtual 198, 3) := by decide +kernel
theorem d_Mo_copyText_88 : decode b_Mo_copyText 88 = .ok (.iinc 5 1, 3) := by decide +kernel
theorem d_Mo_copyText_91 : decode b_Mo_copyText 91 = .ok (.goto (-67), 3) := by decide +kernel
theorem d_Mo_copyText_94 : decode b_Mo_copyText 94 = .ok (.return_, 1) := by decide +kernel
theorem d_Mo_format_0 : decode b_Mo_format 0 = .ok (.iload_n 1, 1) := by decide +kernel
theorem d_Mo_format_1 : decode b_Mo_format 1 = .ok (.invokestatic 173, 3) := by decide +kernel
theorem d_Mo_format_4 : decode b_Mo_format 4 = .ok (.ifCond .ne 13, 3) := by decide +kernel
theorem d_Mo_format_7 : decode b_Mo_format 7 = .ok (.iload_n 2, 1) := by decide +kernel
theorem d_Mo_format_8 : decode b_Mo_format 8 = .ok (.iconst 1, 1) := by decide +kernel
theorem d_Mo_format_9 : decode b_Mo_format 9 = .ok (.if_icmp .lt 8, 3) := by decide +kernel
theorem d_Mo_format_12 : decode b_Mo_format 12 = .ok (.iload_n 2, 1) := by decide +kernel
theorem d_Mo_format_13 : decode b_Mo_format 13 = .ok (.iconst 2, 1) := by decide +kernel
theorem d_Mo_format_14 : decode b_Mo_format 14 = .ok (.if_icmp .le 5, 3) := by decide +kernel
theorem d_Mo_format_17 : decode b_Mo_format 17 = .ok (.iconst (-1), 1) := by decide +kernel
theorem d_Mo_format_18 : decode b_Mo_format 18 = .ok (.ireturn, 1) := by decide +kernel
theorem d_Mo_format_19 : decode b_Mo_format 19 = .ok (.aload_n 0, 1) := by decide +kernel
theorem d_Mo_format_20 : decode b_Mo_format 20 = .ok (.getfield 19, 3) := by decide +kernel
theorem d_Mo_format_23 : decode b_Mo_format 23 = .ok (.aload_n 0, 1) := by decide +kernel
theorem d_Mo_format_24 : decode b_Mo_format 24 = .ok (.iload_n 1, 1) := by decide +kernel
theorem d_Mo_format_25 : decode b_Mo_format 25 = .ok (.invokevirtual 176, 3) := by decide +kernel
theorem d_Mo_format_28 : decode b_Mo_format 28 = .ok (.iaload, 1) := by decide +kernel
theorem d_Mo_format_29 : decode b_Mo_format 29 = .ok (.istore_n 3, 1) := by decide +kernel
theorem d_Mo_format_30 : decode b_Mo_format 30 = .ok (.aload_n 0, 1) := by decide +kernel
theorem d_Mo_format_31 : decode b_Mo_format 31 = .ok (.getfield 19, 3) := by decide +kernel
theorem d_Mo_format_34 : decode b_Mo_format 34 = .ok (.aload_n 0, 1) := by decide +kernel
theorem d_Mo_format_35 : decode b_Mo_format 35 = .ok (.iload_n 1, 1) := by decide +kernel
theorem d_Mo_format_36 : decode b_Mo_format 36 = .ok (.invokevirtual 176, 3) := by decide +kernel
theorem d_Mo_format_39 : decode b_Mo_format 39 = .ok (.iload_n 2, 1) := by decide +kernel
theorem d_Mo_format_40 : decode b_Mo_format 40 = .ok (.iastore, 1) := by decide +kernel
theorem d_Mo_format_41 : decode b_Mo_format 41 = .ok (.iload_n 3, 1) := by decide +kernel
theorem d_Mo_format_42 : decode b_Mo_format 42 = .ok (.ireturn, 1) := by decide +kernel
theorem d_Mo_text_0 : decode b_Mo_text 0 = .ok (.iload_n 1, 1) := by decide +kernel
theorem d_Mo_text_1 : decode b_Mo_text 1 = .ok (.ifCond .lt 11, 3) := by decide +kernel
theorem d_Mo_text_4 : decode b_Mo_text 4 = .ok (.iload_n 1, 1) := by decide +kernel
theorem d_Mo_text_5 : decode b_Mo_text 5 = .ok (.aload_n 0, 1) := by decide +kernel
theorem d_Mo_text_6 : decode b_Mo_text 6 = .ok (.getfield 52, 3) := by decide +kernel
theorem d_Mo_text_9 : decode b_Mo_text 9 = .ok (.if_icmp .lt 7, 3) := by decide +kernel
theorem d_Mo_text_12 : decode b_Mo_text 12 = .ok (.iconst (-1), 1) := by decide +kernel
theorem d_Mo_text_13 : decode b_Mo_text 13 = .ok (.goto 9, 3) := by decide +kernel
theorem d_Mo_text_16 : decode b_Mo_text 16 = .ok (.aload_n 0, 1) := by decide +kernel
theorem d_Mo_text_17 : decode b_Mo_text 17 = .ok (.getfield 7, 3) := by decide +kernel
theorem d_Mo_text_20 : decode b_Mo_text 20 = .ok (.iload_n 1, 1) := by decide +kernel
theorem d_Mo_text_21 : decode b_Mo_text 21 = .ok (.iaload, 1) := by decide +kernel
theorem d_Mo_text_22 : decode b_Mo_text 22 = .ok (.ireturn, 1) := by decide +kernel
theorem d_Mo_types_0 : decode b_Mo_types 0 = .ok (.iload_n 1, 1) := by decide +kernel
theorem d_Mo_types_1 : decode b_Mo_types 1 = .ok (.invokestatic 173, 3) := by decide +kernel
theorem d_Mo_types_4 : decode b_Mo_types 4 = .ok (.ifCond .eq 7, 3) := by decide +kernel
theorem d_Mo_types_7 : decode b_Mo_types 7 = .ok (.iconst (-1), 1) := by decide +kernel
theorem d_Mo_types_8 : decode b_Mo_types 8 = .ok (.goto 13, 3) := by decide +kernel
theorem d_Mo_types_11 : decode b_Mo_types 11 = .ok (.aload_n 0, 1) := by decide +kernel
theorem d_Mo_types_12 : decode b_Mo_types 12 = .ok (.getfield 16, 3) := by decide +kernel
theorem d_Mo_types_15 : decode b_Mo_types 15 = .ok (.aload_n 0, 1) := by decide +kernel
theorem d_Mo_types_16 : decode b_Mo_types 16 = .ok (.iload_n 1, 1) := by decide +kernel
theorem d_Mo_types_17 : decode b_Mo_types 17 = .ok (.invokevirtual 176, 3) := by decide +kernel
theorem d_Mo_types_20 : decode b_Mo_types 20 = .ok (.iaload, 1) := by decide +kernel
theorem d_Mo_types_21 : decode b_Mo_types 21 = .ok (.ireturn, 1) := by decide +kernel
theorem d_Mo_about_0 : decode b_Mo_about 0 = .ok (.iload_n 1, 1) := by decide +kernel
theorem d_Mo_about_1 : decode b_Mo_about 1 = .ok (.invokestatic 173, 3) := by decide +kernel
theorem d_Mo_about_4 : decode b_Mo_about 4 = .ok (.ifCond .eq 7, 3) := by decide +kernel
theorem d_Mo_about_7 : decode b_Mo_about 7 = .ok (.iconst (-1), 1) := by decide +kernel
theorem d_Mo_about_8 : decode b_Mo_about 8 = .ok (.goto 13, 3) := by decide +kernel
theorem d_Mo_about_11 : decode b_Mo_about 11 = .ok (.aload_n 0, 1) := by decide +kernel
theorem d_Mo_about_12 : decode b_Mo_about 12 = .ok (.aload_n 0, 1) := by decide +kernel
theorem d_Mo_about_13 : decode b_Mo_about 13 = .ok (.iload_n 1, 1) := by decide +kernel
theorem d_Mo_about_14 : decode b_Mo_about 14 = .ok (.invokevirtual 176, 3) := by decide +kernel
theorem d_Mo_about_17 : decode b_Mo_about 17 = .ok (.iload_n 2, 1) := by decide +kernel
theorem d_Mo_about_18 : decode b_Mo_about 18 = .ok (.invokevirtual 217, 3) := by decide +kernel
theorem d_Mo_about_21 : decode b_Mo_about 21 = .ok (.istore 4, 2) := by decide +kernel
theorem d_Mo_about_23 : decode b_Mo_about 23 = .ok (.iload 4, 2) := by decide +kernel
theorem d_Mo_about_25 : decode b_Mo_about 25 = .ok (.ifCond .lt 12, 3) := by decide +kernel
theorem d_Mo_about_28 : decode b_Mo_about 28 = .ok (.iload_n 3, 1) := by decide +kernel
theorem d_Mo_about_29 : decode b_Mo_about 29 = .ok (.ifCond .lt 8, 3) := by decide +kernel
theorem d_Mo_about_32 : decode b_Mo_about 32 = .ok (.iload_n 3, 1) := by decide +kernel
theorem d_Mo_about_33 : decode b_Mo_about 33 = .ok (.iconst 3, 1) := by decide +kernel
theorem d_Mo_about_34 : decode b_Mo_about 34 = .ok (.if_icmp .le 5, 3) := by decide +kernel
theorem d_Mo_about_37 : decode b_Mo_about 37 = .ok (.iconst (-1), 1) := by decide +kernel
theorem d_Mo_about_38 : decode b_Mo_about 38 = .ok (.ireturn, 1) := by decide +kernel
theorem d_Mo_about_39 : decode b_Mo_about 39 = .ok (.iload_n 3, 1) := by decide +kernel
theorem d_Mo_about_40 : decode b_Mo_about 40 = .ok (.ifCond .ne 13, 3) := by decide +kernel
theorem d_Mo_about_43 : decode b_Mo_about 43 = .ok (.aload_n 0, 1) := by decide +kernel
theorem d_Mo_about_44 : decode b_Mo_about 44 = .ok (.getfield 34, 3) := by decide +kernel
theorem d_Mo_about_47 : decode b_Mo_about 47 = .ok (.iload 4, 2) := by decide +kernel
theorem d_Mo_about_49 : decode b_Mo_about 49 = .ok (.iaload, 1) := by decide +kernel
theorem d_Mo_about_50 : decode b_Mo_about 50 = .ok (.goto 39, 3) := by decide +kernel
theorem d_Mo_about_53 : decode b_Mo_about 53 = .ok (.iload_n 3, 1) := by decide +kernel
theorem d_Mo_about_54 : decode b_Mo_about 54 = .ok (.iconst 1, 1) := by decide +kernel
theorem d_Mo_about_55 : decode b_Mo_about 55 = .ok (.if_icmp .ne 13, 3) := by decide +kernel
theorem d_Mo_about_58 : decode b_Mo_about 58 = .ok (.aload_n 0, 1) := by decide +kernel
theorem d_Mo_about_59 : decode b_Mo_about 59 = .ok (.getfield 37, 3) := by decide +kernel
theorem d_Mo_about_62 : decode b_Mo_about 62 = .ok (.iload 4, 2) := by decide +kernel
theorem d_Mo_about_64 : decode b_Mo_about 64 = .ok (.iaload, 1) := by decide +kernel
theorem d_Mo_about_65 : decode b_Mo_about 65 = .ok (.goto 24, 3) := by decide +kernel
theorem d_Mo_about_68 : decode b_Mo_about 68 = .ok (.iload_n 3, 1) := by decide +kernel
theorem d_Mo_about_69 : decode b_Mo_about 69 = .ok (.iconst 2, 1) := by decide +kernel
theorem d_Mo_about_70 : decode b_Mo_about 70 = .ok (.if_icmp .ne 12, 3) := by decide +kernel
theorem d_Mo_about_73 : decode b_Mo_about 73 = .ok (.aload_n 0, 1) := by decide +kernel
theorem d_Mo_about_74 : decode b_Mo_about 74 = .ok (.iload 4, 2) := by decide +kernel
theorem d_Mo_about_76 : decode b_Mo_about 76 = .ok (.invokevirtual 192, 3) := by decide +kernel
theorem d_Mo_about_79 : decode b_Mo_about 79 = .ok (.goto 10, 3) := by decide +kernel
theorem d_Mo_about_82 : decode b_Mo_about 82 = .ok (.aload_n 0, 1) := by decide +kernel
theorem d_Mo_about_83 : decode b_Mo_about 83 = .ok (.getfield 28, 3) := by decide +kernel
theorem d_Mo_about_86 : decode b_Mo_about 86 = .ok (.iload 4, 2) := by decide +kernel
theorem d_Mo_about_88 : decode b_Mo_about 88 = .ok (.iaload, 1) := by decide +kernel
theorem d_Mo_about_89 : decode b_Mo_about 89 = .ok (.ireturn, 1) := by decide +kernel
theorem d_Mo_member_0 : decode b_Mo_member 0 = .ok (.aload_n 0, 1) := by decide +kernel
theorem d_Mo_member_1 : decode b_Mo_member 1 = .ok (.iload_n 1, 1) := by decide +kernel
theorem d_Mo_member_2 : decode b_Mo_member 2 = .ok (.iload_n 2, 1) := by decide +kernel
theorem d_Mo_member_3 : decode b_Mo_member 3 = .ok (.iload_n 3, 1) := by decide +kernel
theorem d_Mo_member_4 : decode b_Mo_member 4 = .ok (.invokevirtual 230, 3) := by decide +kernel
theorem d_Mo_member_7 : decode b_Mo_member 7 = .ok (.istore 5, 2) := by decide +kernel
theorem d_Mo_member_9 : decode b_Mo_member 9 = .ok (.iload 5, 2) := by decide +kernel
theorem d_Mo_member_11 : decode b_Mo_member 11 = .ok (.ifCond .lt 14, 3) := by decide +kernel
theorem d_Mo_member_14 : decode b_Mo_member 14 = .ok (.iload 4, 2) := by decide +kernel
theorem d_Mo_member_16 : decode b_Mo_member 16 = .ok (.ifCond .lt 9, 3) := by decide +kernel
theorem d_Mo_member_19 : decode b_Mo_member 19 = .ok (.iload 4, 2) := by decide +kernel
theorem d_Mo_member_21 : decode b_Mo_member 21 = .ok (.iconst 3, 1) := by decide +kernel
theorem d_Mo_member_22 : decode b_Mo_member 22 = .ok (.if_icmp .le 5, 3) := by decide +kernel
theorem d_Mo_member_25 : decode b_Mo_member 25 = .ok (.iconst (-1), 1) := by decide +kernel
theorem d_Mo_member_26 : decode b_Mo_member 26 = .ok (.ireturn, 1) := by decide +kernel
theorem d_Mo_member_27 : decode b_Mo_member 27 = .ok (.iload 4, 2) := by decide +kernel
theorem d_Mo_member_29 : decode b_Mo_member 29 = .ok (.ifCond .ne 13, 3) := by decide +kernel
theorem d_Mo_member_32 : decode b_Mo_member 32 = .ok (.aload_n 0, 1) := by decide +kernel
theorem d_Mo_member_33 : decode b_Mo_member 33 = .ok (.getfield 34, 3) := by decide +kernel
theorem d_Mo_member_36 : decode b_Mo_member 36 = .ok (.iload 5, 2) := by decide +kernel
theorem d_Mo_member_38 : decode b_Mo_member 38 = .ok (.iaload, 1) := by decide +kernel
theorem d_Mo_member_39 : decode b_Mo_member 39 = .ok (.goto 42, 3) := by decide +kernel
theorem d_Mo_member_42 : decode b_Mo_member 42 = .ok (.iload 4, 2) := by decide +kernel
theorem d_Mo_member_44 : decode b_Mo_member 44 = .ok (.iconst 1, 1) := by decide +kernel
theorem d_Mo_member_45 : decode b_Mo_member 45 = .ok (.if_icmp .ne 13, 3) := by decide +kernel
theorem d_Mo_member_48 : decode b_Mo_member 48 = .ok (.aload_n 0, 1) := by decide +kernel
theorem d_Mo_member_49 : decode b_Mo_member 49 = .ok (.getfield 37, 3) := by decide +kernel
theorem d_Mo_member_52 : decode b_Mo_member 52 = .ok (.iload 5, 2) := by decide +kernel
theorem d_Mo_member_54 : decode b_Mo_member 54 = .ok (.iaload, 1) := by decide +kernel
theorem d_Mo_member_55 : decode b_Mo_member 55 = .ok (.goto 26, 3) := by decide +kernel
theorem d_Mo_member_58 : decode b_Mo_member 58 = .ok (.iload 4, 2) := by decide +kernel
theorem d_Mo_member_60 : decode b_Mo_member 60 = .ok (.iconst 2, 1) := by decide +kernel
theorem d_Mo_member_61 : decode b_Mo_member 61 = .ok (.if_icmp .ne 13, 3) := by decide +kernel
theorem d_Mo_member_64 : decode b_Mo_member 64 = .ok (.aload_n 0, 1) := by decide +kernel
theorem d_Mo_member_65 : decode b_Mo_member 65 = .ok (.getfield 28, 3) := by decide +kernel
theorem d_Mo_member_68 : decode b_Mo_member 68 = .ok (.iload 5, 2) := by decide +kernel
theorem d_Mo_member_70 : decode b_Mo_member 70 = .ok (.iaload, 1) := by decide +kernel
theorem d_Mo_member_71 : decode b_Mo_member 71 = .ok (.goto 10, 3) := by decide +kernel
theorem d_Mo_member_74 : decode b_Mo_member 74 = .ok (.aload_n 0, 1) := by decide +kernel
theorem d_Mo_member_75 : decode b_Mo_member 75 = .ok (.getfield 31, 3) := by decide +kernel
theorem d_Mo_member_78 : decode b_Mo_member 78 = .ok (.iload 5, 2) := by decide +kernel
theorem d_Mo_member_80 : decode b_Mo_member 80 = .ok (.iaload, 1) := by decide +kernel
theorem d_Mo_member_81 : decode b_Mo_member 81 = .ok (.ireturn, 1) := by decide +kernel
theorem d_Mo_memberAt_0 : decode b_Mo_memberAt 0 = .ok (.iload_n 1, 1) := by decide +kernel
theorem d_Mo_memberAt_1 : decode b_Mo_memberAt 1 = .ok (.invokestatic 173, 3) := by decide +kernel
theorem d_Mo_memberAt_4 : decode b_Mo_memberAt 4 = .ok (.ifCond .eq 7, 3) := by decide +kernel
theorem d_Mo_memberAt_7 : decode b_Mo_memberAt 7 = .ok (.iconst (-1), 1) := by decide +kernel
theorem d_Mo_memberAt_8 : decode b_Mo_memberAt 8 = .ok (.goto 13, 3) := by decide +kernel
theorem d_Mo_memberAt_11 : decode b_Mo_memberAt 11 = .ok (.aload_n 0, 1) := by decide +kernel
theorem d_Mo_memberAt_12 : decode b_Mo_memberAt 12 = .ok (.aload_n 0, 1) := by decide +kernel
theorem d_Mo_memberAt_13 : decode b_Mo_memberAt 13 = .ok (.iload_n 1, 1) := by decide +kernel
theorem d_Mo_memberAt_14 : decode b_Mo_memberAt 14 = .ok (.invokevirtual 176, 3) := by decide +kernel
theorem d_Mo_memberAt_17 : decode b_Mo_memberAt 17 = .ok (.iload_n 2, 1) := by decide +kernel
theorem d_Mo_memberAt_18 : decode b_Mo_memberAt 18 = .ok (.invokevirtual 217, 3) := by decide +kernel
theorem d_Mo_memberAt_21 : decode b_Mo_memberAt 21 = .ok (.istore 4, 2) := by decide +kernel
theorem d_Mo_memberAt_23 : decode b_Mo_memberAt 23 = .ok (.iload 4, 2) := by decide +kernel
theorem d_Mo_memberAt_25 : decode b_Mo_memberAt 25 = .ok (.ifCond .ge 7, 3) := by decide +kernel
theorem d_Mo_memberAt_28 : decode b_Mo_memberAt 28 = .ok (.iconst (-1), 1) := by decide +kernel
theorem d_Mo_memberAt_29 : decode b_Mo_memberAt 29 = .ok (.goto 10, 3) := by decide +kernel
theorem d_Mo_memberAt_32 : decode b_Mo_memberAt 32 = .ok (.aload_n 0, 1) := by decide +kernel
theorem d_Mo_memberAt_33 : decode b_Mo_memberAt 33 = .ok (.iload 4, 2) := by decide +kernel
theorem d_Mo_memberAt_35 : decode b_Mo_memberAt 35 = .ok (.iload_n 3, 1) := by decide +kernel
theorem d_Mo_memberAt_36 : decode b_Mo_memberAt 36 = .ok (.invokevirtual 220, 3) := by decide +kernel
theorem d_Mo_memberAt_39 : decode b_Mo_memberAt 39 = .ok (.ireturn, 1) := by decide +kernel
theorem d_Mo_character_0 : decode b_Mo_character 0 = .ok (.iload_n 1, 1) := by decide +kernel
theorem d_Mo_character_1 : decode b_Mo_character 1 = .ok (.invokestatic 173, 3) := by decide +kernel
theorem d_Mo_character_4 : decode b_Mo_character 4 = .ok (.ifCond .ne 15, 3) := by decide +kernel
theorem d_Mo_character_7 : decode b_Mo_character 7 = .ok (.iload 4, 2) := by decide +kernel
theorem d_Mo_character_9 : decode b_Mo_character 9 = .ok (.iconst (-1), 1) := by decide +kernel
theorem d_Mo_character_10 : decode b_Mo_character 10 = .ok (.if_icmp .lt 9, 3) := by decide +kernel
theorem d_Mo_character_13 : decode b_Mo_character 13 = .ok (.iload 4, 2) := by decide +kernel
theorem d_Mo_character_15 : decode b_Mo_character 15 = .ok (.iconst 1, 1) := by decide +kernel
theorem d_Mo_character_16 : decode b_Mo_character 16 = .ok (.if_icmp .le 5, 3) := by decide +kernel
theorem d_Mo_character_19 : decode b_Mo_character 19 = .ok (.iconst (-1), 1) := by decide +kernel
theorem d_Mo_character_20 : decode b_Mo_character 20 = .ok (.ireturn, 1) := by decide +kernel
theorem d_Mo_character_21 : decode b_Mo_character 21 = .ok (.iload 4, 2) := by decide +kernel
theorem d_Mo_character_23 : decode b_Mo_character 23 = .ok (.ifCond .ge 16, 3) := by decide +kernel
theorem d_Mo_character_26 : decode b_Mo_character 26 = .ok (.aload_n 0, 1) := by decide +kernel
theorem d_Mo_character_27 : decode b_Mo_character 27 = .ok (.aload_n 0, 1) := by decide +kernel
theorem d_Mo_character_28 : decode b_Mo_character 28 = .ok (.iload_n 1, 1) := by decide +kernel
theorem d_Mo_character_29 : decode b_Mo_character 29 = .ok (.invokevirtual 176, 3) := by decide +kernel
theorem d_Mo_character_32 : decode b_Mo_character 32 = .ok (.iload_n 2, 1) := by decide +kernel
theorem d_Mo_character_33 : decode b_Mo_character 33 = .ok (.invokevirtual 217, 3) := by decide +kernel
theorem d_Mo_character_36 : decode b_Mo_character 36 = .ok (.goto 10, 3) := by decide +kernel
theorem d_Mo_character_39 : decode b_Mo_character 39 = .ok (.aload_n 0, 1) := by decide +kernel
theorem d_Mo_character_40 : decode b_Mo_character 40 = .ok (.iload_n 1, 1) := by decide +kernel
theorem d_Mo_character_41 : decode b_Mo_character 41 = .ok (.iload_n 2, 1) := by decide +kernel
theorem d_Mo_character_42 : decode b_Mo_character 42 = .ok (.iload_n 3, 1) := by decide +kernel
theorem d_Mo_character_43 : decode b_Mo_character 43 = .ok (.invokevirtual 230, 3) := by decide +kernel
theorem d_Mo_character_46 : decode b_Mo_character 46 = .ok (.istore 6, 2) := by decide +kernel
theorem d_Mo_character_48 : decode b_Mo_character 48 = .ok (.iload 6, 2) := by decide +kernel
theorem d_Mo_character_50 : decode b_Mo_character 50 = .ok (.ifCond .lt 36, 3) := by decide +kernel
theorem d_Mo_character_53 : decode b_Mo_character 53 = .ok (.iload 5, 2) := by decide +kernel
theorem d_Mo_character_55 : decode b_Mo_character 55 = .ok (.ifCond .lt 31, 3) := by decide +kernel
theorem d_Mo_character_58 : decode b_Mo_character 58 = .ok (.iload 5, 2) := by decide +kernel
theorem d_Mo_character_60 : decode b_Mo_character 60 = .ok (.iload 4, 2) := by decide +kernel
theorem d_Mo_character_62 : decode b_Mo_character 62 = .ok (.iconst 1, 1) := by decide +kernel
theorem d_Mo_character_63 : decode b_Mo_character 63 = .ok (.if_icmp .ne 13, 3) := by decide +kernel
theorem d_Mo_character_66 : decode b_Mo_character 66 = .ok (.aload_n 0, 1) := by decide +kernel
theorem d_Mo_character_67 : decode b_Mo_character 67 = .ok (.getfield 31, 3) := by decide +kernel
theorem d_Mo_character_70 : decode b_Mo_character 70 = .ok (.iload 6, 2) := by decide +kernel
theorem d_Mo_character_72 : decode b_Mo_character 72 = .ok (.iaload, 1) := by decide +kernel
theorem d_Mo_character_73 : decode b_Mo_character 73 = .ok (.goto 10, 3) := by decide +kernel
theorem d_Mo_character_76 : decode b_Mo_character 76 = .ok (.aload_n 0, 1) := by decide +kernel
theorem d_Mo_character_77 : decode b_Mo_character 77 = .ok (.getfield 28, 3) := by decide +kernel
theorem d_Mo_character_80 : decode b_Mo_character 80 = .ok (.iload 6, 2) := by decide +kernel
theorem d_Mo_character_82 : decode b_Mo_character 82 = .ok (.iaload, 1) := by decide +kernel
theorem d_Mo_character_83 : decode b_Mo_character 83 = .ok (.if_icmp .lt 5, 3) := by decide +kernel
theorem d_Mo_character_86 : decode b_Mo_character 86 = .ok (.iconst (-1), 1) := by decide +kernel
theorem d_Mo_character_87 : decode b_Mo_character 87 = .ok (.ireturn, 1) := by decide +kernel
theorem d_Mo_character_88 : decode b_Mo_character 88 = .ok (.iload 4, 2) := by decide +kernel
theorem d_Mo_character_90 : decode b_Mo_character 90 = .ok (.iconst 1, 1) := by decide +kernel
theorem d_Mo_character_91 : decode b_Mo_character 91 = .ok (.if_icmp .ne 19, 3) := by decide +kernel
theorem d_Mo_character_94 : decode b_Mo_character 94 = .ok (.aload_n 0, 1) := by decide +kernel
theorem d_Mo_character_95 : decode b_Mo_character 95 = .ok (.getfield 25, 3) := by decide +kernel
theorem d_Mo_character_98 : decode b_Mo_character 98 = .ok (.bipush 20, 2) := by decide +kernel
theorem d_Mo_character_100 : decode b_Mo_character 100 = .ok (.iload 6, 2) := by decide +kernel
theorem d_Mo_character_102 : decode b_Mo_character 102 = .ok (.imul, 1) := by decide +kernel
theorem d_Mo_character_103 : decode b_Mo_character 103 = .ok (.iload 5, 2) := by decide +kernel
theorem d_Mo_character_105 : decode b_Mo_character 105 = .ok (.iadd, 1) := by decide +kernel
theorem d_Mo_character_106 : decode b_Mo_character 106 = .ok (.iaload, 1) := by decide +kernel
theorem d_Mo_character_107 : decode b_Mo_character 107 = .ok (.goto 16, 3) := by decide +kernel
theorem d_Mo_character_110 : decode b_Mo_character 110 = .ok (.aload_n 0, 1) := by decide +kernel
theorem d_Mo_character_111 : decode b_Mo_character 111 = .ok (.getfield 22, 3) := by decide +kernel
theorem d_Mo_character_114 : decode b_Mo_character 114 = .ok (.bipush 20, 2) := by decide +kernel
theorem d_Mo_character_116 : decode b_Mo_character 116 = .ok (.iload 6, 2) := by decide +kernel
theorem d_Mo_character_118 : decode b_Mo_character 118 = .ok (.imul, 1) := by decide +kernel
theorem d_Mo_character_119 : decode b_Mo_character 119 = .ok (.iload 5, 2) := by decide +kernel
theorem d_Mo_character_121 : decode b_Mo_character 121 = .ok (.iadd, 1) := by decide +kernel
theorem d_Mo_character_122 : decode b_Mo_character 122 = .ok (.iaload, 1) := by decide +kernel
theorem d_Mo_character_123 : decode b_Mo_character 123 = .ok (.ireturn, 1) := by decide +kernel
theorem d_Mo_differ_0 : decode b_Mo_differ 0 = .ok (.iconst 0, 1) := by decide +kernel
theorem d_Mo_differ_1 : decode b_Mo_differ 1 = .ok (.istore_n 1, 1) := by decide +kernel
theorem d_Mo_differ_2 : decode b_Mo_differ 2 = .ok (.iload_n 1, 1) := by decide +kernel
theorem d_Mo_differ_3 : decode b_Mo_differ 3 = .ok (.bipush 110, 2) := by decide +kernel
theorem d_Mo_differ_5 : decode b_Mo_differ 5 = .ok (.if_icmp .ge 94, 3) := by decide +kernel
theorem d_Mo_differ_8 : decode b_Mo_differ 8 = .ok (.aload_n 0, 1) := by decide +kernel
theorem d_Mo_differ_9 : decode b_Mo_differ 9 = .ok (.iconst 0, 1) := by decide +kernel
theorem d_Mo_differ_10 : decode b_Mo_differ 10 = .ok (.iload_n 1, 1) := by decide +kernel
theorem d_Mo_differ_11 : decode b_Mo_differ 11 = .ok (.invokevirtual 233, 3) := by decide +kernel
theorem d_Mo_differ_14 : decode b_Mo_differ 14 = .ok (.istore_n 2, 1) := by decide +kernel
theorem d_Mo_differ_15 : decode b_Mo_differ 15 = .ok (.aload_n 0, 1) := by decide +kernel
theorem d_Mo_differ_16 : decode b_Mo_differ 16 = .ok (.getfield 195, 3) := by decide +kernel
theorem d_Mo_differ_19 : decode b_Mo_differ 19 = .ok (.istore_n 3, 1) := by decide +kernel
theorem d_Mo_differ_20 : decode b_Mo_differ 20 = .ok (.aload_n 0, 1) := by decide +kernel
theorem d_Mo_differ_21 : decode b_Mo_differ 21 = .ok (.iconst 1, 1) := by decide +kernel
theorem d_Mo_differ_22 : decode b_Mo_differ 22 = .ok (.iload_n 1, 1) := by decide +kernel
theorem d_Mo_differ_23 : decode b_Mo_differ 23 = .ok (.invokevirtual 226, 3) := by decide +kernel
theorem d_Mo_differ_26 : decode b_Mo_differ 26 = .ok (.istore 4, 2) := by decide +kernel
theorem d_Mo_differ_28 : decode b_Mo_differ 28 = .ok (.iload_n 2, 1) := by decide +kernel
theorem d_Mo_differ_29 : decode b_Mo_differ 29 = .ok (.ifCond .ne 10, 3) := by decide +kernel
theorem d_Mo_differ_32 : decode b_Mo_differ 32 = .ok (.iload 4, 2) := by decide +kernel
theorem d_Mo_differ_34 : decode b_Mo_differ 34 = .ok (.ifCond .ne 5, 3) := by decide +kernel
theorem d_Mo_differ_37 : decode b_Mo_differ 37 = .ok (.iconst 0, 1) := by decide +kernel
theorem d_Mo_differ_38 : decode b_Mo_differ 38 = .ok (.ireturn, 1) := by decide +kernel
theorem d_Mo_differ_39 : decode b_Mo_differ 39 = .ok (.iload_n 2, 1) := by decide +kernel
theorem d_Mo_differ_40 : decode b_Mo_differ 40 = .ok (.iload 4, 2) := by decide +kernel
theorem d_Mo_differ_42 : decode b_Mo_differ 42 = .ok (.if_icmp .ne 11, 3) := by decide +kernel
theorem d_Mo_differ_45 : decode b_Mo_differ 45 = .ok (.aload_n 0, 1) := by decide +kernel
theorem d_Mo_differ_46 : decode b_Mo_differ 46 = .ok (.getfield 195, 3) := by decide +kernel
theorem d_Mo_differ_49 : decode b_Mo_differ 49 = .ok (.iload_n 3, 1) := by decide +kernel
theorem d_Mo_differ_50 : decode b_Mo_differ 50 = .ok (.if_icmp .eq 7, 3) := by decide +kernel
theorem d_Mo_differ_53 : decode b_Mo_differ 53 = .ok (.iload_n 1, 1) := by decide +kernel
theorem d_Mo_differ_54 : decode b_Mo_differ 54 = .ok (.iconst 1, 1) := by decide +kernel
theorem d_Mo_differ_55 : decode b_Mo_differ 55 = .ok (.iadd, 1) := by decide +kernel
theorem d_Mo_differ_56 : decode b_Mo_differ 56 = .ok (.ireturn, 1) := by decide +kernel
theorem d_Mo_differ_57 : decode b_Mo_differ 57 = .ok (.iconst 0, 1) := by decide +kernel
theorem d_Mo_differ_58 : decode b_Mo_differ 58 = .ok (.istore 5, 2) := by decide +kernel
theorem d_Mo_differ_60 : decode b_Mo_differ 60 = .ok (.iload 5, 2) := by decide +kernel
theorem d_Mo_differ_62 : decode b_Mo_differ 62 = .ok (.iload_n 3, 1) := by decide +kernel
theorem d_Mo_differ_63 : decode b_Mo_differ 63 = .ok (.if_icmp .ge 30, 3) := by decide +kernel
theorem d_Mo_differ_66 : decode b_Mo_differ 66 = .ok (.aload_n 0, 1) := by decide +kernel
theorem d_Mo_differ_67 : decode b_Mo_differ 67 = .ok (.getfield 49, 3) := by decide +kernel
theorem d_Mo_differ_70 : decode b_Mo_differ 70 = .ok (.iload 5, 2) := by decide +kernel
theorem d_Mo_differ_72 : decode b_Mo_differ 72 = .ok (.iaload, 1) := by decide +kernel
theorem d_Mo_differ_73 : decode b_Mo_differ 73 = .ok (.aload_n 0, 1) := by decide +kernel
theorem d_Mo_differ_74 : decode b_Mo_differ 74 = .ok (.getfield 46, 3) := by decide +kernel
theorem d_Mo_differ_77 : decode b_Mo_differ 77 = .ok (.iload 5, 2) := by decide +kernel
theorem d_Mo_differ_79 : decode b_Mo_differ 79 = .ok (.iaload, 1) := by decide +kernel
theorem d_Mo_differ_80 : decode b_Mo_differ 80 = .ok (.if_icmp .eq 7, 3) := by decide +kernel
theorem d_Mo_differ_83 : decode b_Mo_differ 83 = .ok (.iload_n 1, 1) := by decide +kernel
theorem d_Mo_differ_84 : decode b_Mo_differ 84 = .ok (.iconst 1, 1) := by decide +kernel
theorem d_Mo_differ_85 : decode b_Mo_differ 85 = .ok (.iadd, 1) := by decide +kernel
theorem d_Mo_differ_86 : decode b_Mo_differ 86 = .ok (.ireturn, 1) := by decide +kernel
theorem d_Mo_differ_87 : decode b_Mo_differ 87 = .ok (.iinc 5 1, 3) := by decide +kernel
theorem d_Mo_differ_90 : decode b_Mo_differ 90 = .ok (.goto (-30), 3) := by decide +kernel
theorem d_Mo_differ_93 : decode b_Mo_differ 93 = .ok (.iinc 1 1, 3) := by decide +kernel
theorem d_Mo_differ_96 : decode b_Mo_differ 96 = .ok (.goto (-94), 3) := by decide +kernel
theorem d_Mo_differ_99 : decode b_Mo_differ 99 = .ok (.iconst 0, 1) := by decide +kernel
theorem d_Mo_differ_100 : decode b_Mo_differ 100 = .ok (.ireturn, 1) := by decide +kernel
theorem d_Mo_keep_0 : decode b_Mo_keep 0 = .ok (.aload_n 0, 1) := by decide +kernel
theorem d_Mo_keep_1 : decode b_Mo_keep 1 = .ok (.iload_n 1, 1) := by decide +kernel
theorem d_Mo_keep_2 : decode b_Mo_keep 2 = .ok (.iload_n 2, 1) := by decide +kernel
theorem d_Mo_keep_3 : decode b_Mo_keep 3 = .ok (.invokevirtual 226, 3) := by decide +kernel
theorem d_Mo_keep_6 : decode b_Mo_keep 6 = .ok (.istore_n 3, 1) := by decide +kernel
theorem d_Mo_keep_7 : decode b_Mo_keep 7 = .ok (.iconst 0, 1) := by decide +kernel
theorem d_Mo_keep_8 : decode b_Mo_keep 8 = .ok (.istore 4, 2) := by decide +kernel
theorem d_Mo_keep_10 : decode b_Mo_keep 10 = .ok (.iload 4, 2) := by decide +kernel
theorem d_Mo_keep_12 : decode b_Mo_keep 12 = .ok (.aload_n 0, 1) := by decide +kernel
theorem d_Mo_keep_13 : decode b_Mo_keep 13 = .ok (.getfield 195, 3) := by decide +kernel
theorem d_Mo_keep_16 : decode b_Mo_keep 16 = .ok (.if_icmp .ge 23, 3) := by decide +kernel
theorem d_Mo_keep_19 : decode b_Mo_keep 19 = .ok (.aload_n 0, 1) := by decide +kernel
theorem d_Mo_keep_20 : decode b_Mo_keep 20 = .ok (.getfield 49, 3) := by decide +kernel
theorem d_Mo_keep_23 : decode b_Mo_keep 23 = .ok (.iload 4, 2) := by decide +kernel
theorem d_Mo_keep_25 : decode b_Mo_keep 25 = .ok (.aload_n 0, 1) := by decide +kernel
theorem d_Mo_keep_26 : decode b_Mo_keep 26 = .ok (.getfield 46, 3) := by decide +kernel
theorem d_Mo_keep_29 : decode b_Mo_keep 29 = .ok (.iload 4, 2) := by decide +kernel
theorem d_Mo_keep_31 : decode b_Mo_keep 31 = .ok (.iaload, 1) := by decide +kernel
theorem d_Mo_keep_32 : decode b_Mo_keep 32 = .ok (.iastore, 1) := by decide +kernel
theorem d_Mo_keep_33 : decode b_Mo_keep 33 = .ok (.iinc 4 1, 3) := by decide +kernel
theorem d_Mo_keep_36 : decode b_Mo_keep 36 = .ok (.goto (-26), 3) := by decide +kernel
theorem d_Mo_keep_39 : decode b_Mo_keep 39 = .ok (.iload_n 3, 1) := by decide +kernel
theorem d_Mo_keep_40 : decode b_Mo_keep 40 = .ok (.ireturn, 1) := by decide +kernel
theorem d_Mo_lost_0 : decode b_Mo_lost 0 = .ok (.iload_n 1, 1) := by decide +kernel
theorem d_Mo_lost_1 : decode b_Mo_lost 1 = .ok (.invokestatic 173, 3) := by decide +kernel
theorem d_Mo_lost_4 : decode b_Mo_lost 4 = .ok (.ifCond .eq 5, 3) := by decide +kernel
theorem d_Mo_lost_7 : decode b_Mo_lost 7 = .ok (.iconst (-1), 1) := by decide +kernel
theorem d_Mo_lost_8 : decode b_Mo_lost 8 = .ok (.ireturn, 1) := by decide +kernel
theorem d_Mo_lost_9 : decode b_Mo_lost 9 = .ok (.aload_n 0, 1) := by decide +kernel
theorem d_Mo_lost_10 : decode b_Mo_lost 10 = .ok (.iload_n 1, 1) := by decide +kernel
theorem d_Mo_lost_11 : decode b_Mo_lost 11 = .ok (.invokevirtual 176, 3) := by decide +kernel
theorem d_Mo_lost_14 : decode b_Mo_lost 14 = .ok (.istore_n 2, 1) := by decide +kernel
theorem d_Mo_lost_15 : decode b_Mo_lost 15 = .ok (.iconst 0, 1) := by decide +kernel
theorem d_Mo_lost_16 : decode b_Mo_lost 16 = .ok (.istore_n 3, 1) := by decide +kernel
theorem d_Mo_lost_17 : decode b_Mo_lost 17 = .ok (.iconst 0, 1) := by decide +kernel
theorem d_Mo_lost_18 : decode b_Mo_lost 18 = .ok (.istore 4, 2) := by decide +kernel
theorem d_Mo_lost_20 : decode b_Mo_lost 20 = .ok (.iload 4, 2) := by decide +kernel
theorem d_Mo_lost_22 : decode b_Mo_lost 22 = .ok (.aload_n 0, 1) := by decide +kernel
theorem d_Mo_lost_23 : decode b_Mo_lost 23 = .ok (.getfield 16, 3) := by decide +kernel
theorem d_Mo_lost_26 : decode b_Mo_lost 26 = .ok (.iload_n 2, 1) := by decide +kernel
theorem d_Mo_lost_27 : decode b_Mo_lost 27 = .ok (.iaload, 1) := by decide +kernel
theorem d_Mo_lost_28 : decode b_Mo_lost 28 = .ok (.if_icmp .ge 102, 3) := by decide +kernel
theorem d_Mo_lost_31 : decode b_Mo_lost 31 = .ok (.bipush 108, 2) := by decide +kernel
theorem d_Mo_lost_33 : decode b_Mo_lost 33 = .ok (.iload_n 2, 1) := by decide +kernel
theorem d_Mo_lost_34 : decode b_Mo_lost 34 = .ok (.imul, 1) := by decide +kernel
theorem d_Mo_lost_35 : decode b_Mo_lost 35 = .ok (.iload 4, 2) := by decide +kernel
theorem d_Mo_lost_37 : decode b_Mo_lost 37 = .ok (.iadd, 1) := by decide +kernel
theorem d_Mo_lost_38 : decode b_Mo_lost 38 = .ok (.istore 5, 2) := by decide +kernel
theorem d_Mo_lost_40 : decode b_Mo_lost 40 = .ok (.iconst (-1), 1) := by decide +kernel
theorem d_Mo_lost_41 : decode b_Mo_lost 41 = .ok (.istore 6, 2) := by decide +kernel
theorem d_Mo_lost_43 : decode b_Mo_lost 43 = .ok (.bipush 108, 2) := by decide +kernel
theorem d_Mo_lost_45 : decode b_Mo_lost 45 = .ok (.bipush 108, 2) := by decide +kernel
theorem d_Mo_lost_47 : decode b_Mo_lost 47 = .ok (.iload_n 2, 1) := by decide +kernel
theorem d_Mo_lost_48 : decode b_Mo_lost 48 = .ok (.imul, 1) := by decide +kernel
theorem d_Mo_lost_49 : decode b_Mo_lost 49 = .ok (.isub, 1) := by decide +kernel
theorem d_Mo_lost_50 : decode b_Mo_lost 50 = .ok (.istore 7, 2) := by decide +kernel
theorem d_Mo_lost_52 : decode b_Mo_lost 52 = .ok (.iload 7, 2) := by decide +kernel
theorem d_Mo_lost_54 : decode b_Mo_lost 54 = .ok (.bipush 108, 2) := by decide +kernel
theorem d_Mo_lost_56 : decode b_Mo_lost 56 = .ok (.bipush 108, 2) := by decide +kernel
theorem d_Mo_lost_58 : decode b_Mo_lost 58 = .ok (.iload_n 2, 1) := by decide +kernel
theorem d_Mo_lost_59 : decode b_Mo_lost 59 = .ok (.imul, 1) := by decide +kernel
theorem d_Mo_lost_60 : decode b_Mo_lost 60 = .ok (.isub, 1) := by decide +kernel
theorem d_Mo_lost_61 : decode b_Mo_lost 61 = .ok (.aload_n 0, 1) := by decide +kernel
theorem d_Mo_lost_62 : decode b_Mo_lost 62 = .ok (.getfield 16, 3) := by decide +kernel
theorem d_Mo_lost_65 : decode b_Mo_lost 65 = .ok (.iconst 1, 1) := by decide +kernel
theorem d_Mo_lost_66 : decode b_Mo_lost 66 = .ok (.iload_n 2, 1) := by decide +kernel
theorem d_Mo_lost_67 : decode b_Mo_lost 67 = .ok (.isub, 1) := by decide +kernel
theorem d_Mo_lost_68 : decode b_Mo_lost 68 = .ok (.iaload, 1) := by decide +kernel
theorem d_Mo_lost_69 : decode b_Mo_lost 69 = .ok (.iadd, 1) := by decide +kernel
theorem d_Mo_lost_70 : decode b_Mo_lost 70 = .ok (.if_icmp .ge 24, 3) := by decide +kernel
theorem d_Mo_lost_73 : decode b_Mo_lost 73 = .ok (.aload_n 0, 1) := by decide +kernel
theorem d_Mo_lost_74 : decode b_Mo_lost 74 = .ok (.iload 5, 2) := by decide +kernel
theorem d_Mo_lost_76 : decode b_Mo_lost 76 = .ok (.iload 7, 2) := by decide +kernel
theorem d_Mo_lost_78 : decode b_Mo_lost 78 = .ok (.invokevirtual 152, 3) := by decide +kernel
theorem d_Mo_lost_81 : decode b_Mo_lost 81 = .ok (.ifCond .ne 7, 3) := by decide +kernel
theorem d_Mo_lost_84 : decode b_Mo_lost 84 = .ok (.iload 7, 2) := by decide +kernel
theorem d_Mo_lost_86 : decode b_Mo_lost 86 = .ok (.istore 6, 2) := by decide +kernel
theorem d_Mo_lost_88 : decode b_Mo_lost 88 = .ok (.iinc 7 1, 3) := by decide +kernel
theorem d_Mo_lost_91 : decode b_Mo_lost 91 = .ok (.goto (-39), 3) := by decide +kernel
theorem d_Mo_lost_94 : decode b_Mo_lost 94 = .ok (.iload 6, 2) := by decide +kernel
theorem d_Mo_lost_96 : decode b_Mo_lost 96 = .ok (.ifCond .lt 14, 3) := by decide +kernel
theorem d_Mo_lost_99 : decode b_Mo_lost 99 = .ok (.aload_n 0, 1) := by decide +kernel
theorem d_Mo_lost_100 : decode b_Mo_lost 100 = .ok (.iload 5, 2) := by decide +kernel
theorem d_Mo_lost_102 : decode b_Mo_lost 102 = .ok (.iload 6, 2) := by decide +kernel
theorem d_Mo_lost_104 : decode b_Mo_lost 104 = .ok (.invokevirtual 239, 3) := by decide +kernel
theorem d_Mo_lost_107 : decode b_Mo_lost 107 = .ok (.ifCond .ne 6, 3) := by decide +kernel
theorem d_Mo_lost_110 : decode b_Mo_lost 110 = .ok (.iinc 3 1, 3) := by decide +kernel
theorem d_Mo_lost_113 : decode b_Mo_lost 113 = .ok (.iload_n 3, 1) := by decide +kernel
theorem d_Mo_lost_114 : decode b_Mo_lost 114 = .ok (.aload_n 0, 1) := by decide +kernel
theorem d_Mo_lost_115 : decode b_Mo_lost 115 = .ok (.iload 5, 2) := by decide +kernel
theorem d_Mo_lost_117 : decode b_Mo_lost 117 = .ok (.iload 6, 2) := by decide +kernel
theorem d_Mo_lost_119 : decode b_Mo_lost 119 = .ok (.invokevirtual 242, 3) := by decide +kernel
theorem d_Mo_lost_122 : decode b_Mo_lost 122 = .ok (.iadd, 1) := by decide +kernel
theorem d_Mo_lost_123 : decode b_Mo_lost 123 = .ok (.istore_n 3, 1) := by decide +kernel
theorem d_Mo_lost_124 : decode b_Mo_lost 124 = .ok (.iinc 4 1, 3) := by decide +kernel
theorem d_Mo_lost_127 : decode b_Mo_lost 127 = .ok (.goto (-107), 3) := by decide +kernel
theorem d_Mo_lost_130 : decode b_Mo_lost 130 = .ok (.iload_n 3, 1) := by decide +kernel
theorem d_Mo_lost_131 : decode b_Mo_lost 131 = .ok (.ireturn, 1) := by decide +kernel
theorem d_Mo_alike_0 : decode b_Mo_alike 0 = .ok (.aload_n 0, 1) := by decide +kernel
theorem d_Mo_alike_1 : decode b_Mo_alike 1 = .ok (.getfield 34, 3) := by decide +kernel
theorem d_Mo_alike_4 : decode b_Mo_alike 4 = .ok (.iload_n 1, 1) := by decide +kernel
theorem d_Mo_alike_5 : decode b_Mo_alike 5 = .ok (.iaload, 1) := by decide +kernel
theorem d_Mo_alike_6 : decode b_Mo_alike 6 = .ok (.aload_n 0, 1) := by decide +kernel
theorem d_Mo_alike_7 : decode b_Mo_alike 7 = .ok (.getfield 34, 3) := by decide +kernel
theorem d_Mo_alike_10 : decode b_Mo_alike 10 = .ok (.iload_n 2, 1) := by decide +kernel
theorem d_Mo_alike_11 : decode b_Mo_alike 11 = .ok (.iaload, 1) := by decide +kernel
theorem d_Mo_alike_12 : decode b_Mo_alike 12 = .ok (.if_icmp .ne 27, 3) := by decide +kernel
theorem d_Mo_alike_15 : decode b_Mo_alike 15 = .ok (.aload_n 0, 1) := by decide +kernel
theorem d_Mo_alike_16 : decode b_Mo_alike 16 = .ok (.getfield 37, 3) := by decide +kernel
theorem d_Mo_alike_19 : decode b_Mo_alike 19 = .ok (.iload_n 1, 1) := by decide +kernel
theorem d_Mo_alike_20 : decode b_Mo_alike 20 = .ok (.iaload, 1) := by decide +kernel
theorem d_Mo_alike_21 : decode b_Mo_alike 21 = .ok (.aload_n 0, 1) := by decide +kernel
theorem d_Mo_alike_22 : decode b_Mo_alike 22 = .ok (.getfield 37, 3) := by decide +kernel
theorem d_Mo_alike_25 : decode b_Mo_alike 25 = .ok (.iload_n 2, 1) := by decide +kernel
theorem d_Mo_alike_26 : decode b_Mo_alike 26 = .ok (.iaload, 1) := by decide +kernel
theorem d_Mo_alike_27 : decode b_Mo_alike 27 = .ok (.if_icmp .ne 12, 3) := by decide +kernel
theorem d_Mo_alike_30 : decode b_Mo_alike 30 = .ok (.aload_n 0, 1) := by decide +kernel
theorem d_Mo_alike_31 : decode b_Mo_alike 31 = .ok (.iload_n 1, 1) := by decide +kernel
theorem d_Mo_alike_32 : decode b_Mo_alike 32 = .ok (.iload_n 2, 1) := by decide +kernel
theorem d_Mo_alike_33 : decode b_Mo_alike 33 = .ok (.invokevirtual 164, 3) := by decide +kernel
theorem d_Mo_alike_36 : decode b_Mo_alike 36 = .ok (.ifCond .eq 5, 3) := by decide +kernel
theorem d_Mo_alike_39 : decode b_Mo_alike 39 = .ok (.iconst 0, 1) := by decide +kernel
theorem d_Mo_alike_40 : decode b_Mo_alike 40 = .ok (.ireturn, 1) := by decide +kernel
theorem d_Mo_alike_41 : decode b_Mo_alike 41 = .ok (.aload_n 0, 1) := by decide +kernel
theorem d_Mo_alike_42 : decode b_Mo_alike 42 = .ok (.getfield 19, 3) := by decide +kernel
theorem d_Mo_alike_45 : decode b_Mo_alike 45 = .ok (.iconst 0, 1) := by decide +kernel
theorem d_Mo_alike_46 : decode b_Mo_alike 46 = .ok (.iaload, 1) := by decide +kernel
theorem d_Mo_alike_47 : decode b_Mo_alike 47 = .ok (.aload_n 0, 1) := by decide +kernel
theorem d_Mo_alike_48 : decode b_Mo_alike 48 = .ok (.getfield 19, 3) := by decide +kernel
theorem d_Mo_alike_51 : decode b_Mo_alike 51 = .ok (.iconst 1, 1) := by decide +kernel
theorem d_Mo_alike_52 : decode b_Mo_alike 52 = .ok (.iaload, 1) := by decide +kernel
theorem d_Mo_alike_53 : decode b_Mo_alike 53 = .ok (.if_icmp .eq 11, 3) := by decide +kernel
theorem d_Mo_alike_56 : decode b_Mo_alike 56 = .ok (.aload_n 0, 1) := by decide +kernel
theorem d_Mo_alike_57 : decode b_Mo_alike 57 = .ok (.iload_n 1, 1) := by decide +kernel
theorem d_Mo_alike_58 : decode b_Mo_alike 58 = .ok (.invokevirtual 236, 3) := by decide +kernel
theorem d_Mo_alike_61 : decode b_Mo_alike 61 = .ok (.ifCond .ne 7, 3) := by decide +kernel
theorem d_Mo_alike_64 : decode b_Mo_alike 64 = .ok (.iconst 1, 1) := by decide +kernel
theorem d_Mo_alike_65 : decode b_Mo_alike 65 = .ok (.goto 4, 3) := by decide +kernel
theorem d_Mo_alike_68 : decode b_Mo_alike 68 = .ok (.iconst 0, 1) := by decide +kernel
theorem d_Mo_alike_69 : decode b_Mo_alike 69 = .ok (.ireturn, 1) := by decide +kernel
theorem d_Mo_dollar_0 : decode b_Mo_dollar 0 = .ok (.iconst 0, 1) := by decide +kernel
theorem d_Mo_dollar_1 : decode b_Mo_dollar 1 = .ok (.istore_n 2, 1) := by decide +kernel
theorem d_Mo_dollar_2 : decode b_Mo_dollar 2 = .ok (.iload_n 2, 1) := by decide +kernel
theorem d_Mo_dollar_3 : decode b_Mo_dollar 3 = .ok (.aload_n 0, 1) := by decide +kernel
theorem d_Mo_dollar_4 : decode b_Mo_dollar 4 = .ok (.getfield 28, 3) := by decide +kernel
theorem d_Mo_dollar_7 : decode b_Mo_dollar 7 = .ok (.iload_n 1, 1) := by decide +kernel
theorem d_Mo_dollar_8 : decode b_Mo_dollar 8 = .ok (.iaload, 1) := by decide +kernel
theorem d_Mo_dollar_9 : decode b_Mo_dollar 9 = .ok (.if_icmp .ge 27, 3) := by decide +kernel
theorem d_Mo_dollar_12 : decode b_Mo_dollar 12 = .ok (.aload_n 0, 1) := by decide +kernel
theorem d_Mo_dollar_13 : decode b_Mo_dollar 13 = .ok (.getfield 22, 3) := by decide +kernel
theorem d_Mo_dollar_16 : decode b_Mo_dollar 16 = .ok (.bipush 20, 2) := by decide +kernel
theorem d_Mo_dollar_18 : decode b_Mo_dollar 18 = .ok (.iload_n 1, 1) := by decide +kernel
theorem d_Mo_dollar_19 : decode b_Mo_dollar 19 = .ok (.imul, 1) := by decide +kernel
theorem d_Mo_dollar_20 : decode b_Mo_dollar 20 = .ok (.iload_n 2, 1) := by decide +kernel
theorem d_Mo_dollar_21 : decode b_Mo_dollar 21 = .ok (.iadd, 1) := by decide +kernel
theorem d_Mo_dollar_22 : decode b_Mo_dollar 22 = .ok (.iaload, 1) := by decide +kernel
theorem d_Mo_dollar_23 : decode b_Mo_dollar 23 = .ok (.bipush 36, 2) := by decide +kernel
theorem d_Mo_dollar_25 : decode b_Mo_dollar 25 = .ok (.if_icmp .ne 5, 3) := by decide +kernel
theorem d_Mo_dollar_28 : decode b_Mo_dollar 28 = .ok (.iconst 1, 1) := by decide +kernel
theorem d_Mo_dollar_29 : decode b_Mo_dollar 29 = .ok (.ireturn, 1) := by decide +kernel
theorem d_Mo_dollar_30 : decode b_Mo_dollar 30 = .ok (.iinc 2 1, 3) := by decide +kernel
theorem d_Mo_dollar_33 : decode b_Mo_dollar 33 = .ok (.goto (-31), 3) := by decide +kernel
theorem d_Mo_dollar_36 : decode b_Mo_dollar 36 = .ok (.iconst 0, 1) := by decide +kernel
theorem d_Mo_dollar_37 : decode b_Mo_dollar 37 = .ok (.istore_n 2, 1) := by decide +kernel
theorem d_Mo_dollar_38 : decode b_Mo_dollar 38 = .ok (.iload_n 2, 1) := by decide +kernel
theorem d_Mo_dollar_39 : decode b_Mo_dollar 39 = .ok (.aload_n 0, 1) := by decide +kernel
theorem d_Mo_dollar_40 : decode b_Mo_dollar 40 = .ok (.getfield 31, 3) := by decide +kernel
theorem d_Mo_dollar_43 : decode b_Mo_dollar 43 = .ok (.iload_n 1, 1) := by decide +kernel
theorem d_Mo_dollar_44 : decode b_Mo_dollar 44 = .ok (.iaload, 1) := by decide +kernel
theorem d_Mo_dollar_45 : decode b_Mo_dollar 45 = .ok (.if_icmp .ge 27, 3) := by decide +kernel
theorem d_Mo_dollar_48 : decode b_Mo_dollar 48 = .ok (.aload_n 0, 1) := by decide +kernel
theorem d_Mo_dollar_49 : decode b_Mo_dollar 49 = .ok (.getfield 25, 3) := by decide +kernel
theorem d_Mo_dollar_52 : decode b_Mo_dollar 52 = .ok (.bipush 20, 2) := by decide +kernel
theorem d_Mo_dollar_54 : decode b_Mo_dollar 54 = .ok (.iload_n 1, 1) := by decide +kernel
theorem d_Mo_dollar_55 : decode b_Mo_dollar 55 = .ok (.imul, 1) := by decide +kernel
theorem d_Mo_dollar_56 : decode b_Mo_dollar 56 = .ok (.iload_n 2, 1) := by decide +kernel
theorem d_Mo_dollar_57 : decode b_Mo_dollar 57 = .ok (.iadd, 1) := by decide +kernel
theorem d_Mo_dollar_58 : decode b_Mo_dollar 58 = .ok (.iaload, 1) := by decide +kernel
theorem d_Mo_dollar_59 : decode b_Mo_dollar 59 = .ok (.bipush 36, 2) := by decide +kernel
theorem d_Mo_dollar_61 : decode b_Mo_dollar 61 = .ok (.if_icmp .ne 5, 3) := by decide +kernel
theorem d_Mo_dollar_64 : decode b_Mo_dollar 64 = .ok (.iconst 1, 1) := by decide +kernel
theorem d_Mo_dollar_65 : decode b_Mo_dollar 65 = .ok (.ireturn, 1) := by decide +kernel
theorem d_Mo_dollar_66 : decode b_Mo_dollar 66 = .ok (.iinc 2 1, 3) := by decide +kernel
theorem d_Mo_dollar_69 : decode b_Mo_dollar 69 = .ok (.goto (-31), 3) := by decide +kernel
theorem d_Mo_dollar_72 : decode b_Mo_dollar 72 = .ok (.iconst 0, 1) := by decide +kernel
theorem d_Mo_dollar_73 : decode b_Mo_dollar 73 = .ok (.ireturn, 1) := by decide +kernel
theorem d_Mo_lostOf_0 : decode b_Mo_lostOf 0 = .ok (.iconst 0, 1) := by decide +kernel
theorem d_Mo_lostOf_1 : decode b_Mo_lostOf 1 = .ok (.istore_n 3, 1) := by decide +kernel
theorem d_Mo_lostOf_2 : decode b_Mo_lostOf 2 = .ok (.iconst 0, 1) := by decide +kernel
theorem d_Mo_lostOf_3 : decode b_Mo_lostOf 3 = .ok (.istore 4, 2) := by decide +kernel
theorem d_Mo_lostOf_5 : decode b_Mo_lostOf 5 = .ok (.iload 4, 2) := by decide +kernel
theorem d_Mo_lostOf_7 : decode b_Mo_lostOf 7 = .ok (.aload_n 0, 1) := by decide +kernel
theorem d_Mo_lostOf_8 : decode b_Mo_lostOf 8 = .ok (.iload_n 1, 1) := by decide +kernel
theorem d_Mo_lostOf_9 : decode b_Mo_lostOf 9 = .ok (.invokevirtual 192, 3) := by decide +kernel
theorem d_Mo_lostOf_12 : decode b_Mo_lostOf 12 = .ok (.if_icmp .ge 63, 3) := by decide +kernel
theorem d_Mo_lostOf_15 : decode b_Mo_lostOf 15 = .ok (.iconst 0, 1) := by decide +kernel
theorem d_Mo_lostOf_16 : decode b_Mo_lostOf 16 = .ok (.istore 5, 2) := by decide +kernel
theorem d_Mo_lostOf_18 : decode b_Mo_lostOf 18 = .ok (.iconst 0, 1) := by decide +kernel
theorem d_Mo_lostOf_19 : decode b_Mo_lostOf 19 = .ok (.istore 6, 2) := by decide +kernel
theorem d_Mo_lostOf_21 : decode b_Mo_lostOf 21 = .ok (.iload 6, 2) := by decide +kernel
theorem d_Mo_lostOf_23 : decode b_Mo_lostOf 23 = .ok (.aload_n 0, 1) := by decide +kernel
theorem d_Mo_lostOf_24 : decode b_Mo_lostOf 24 = .ok (.iload_n 2, 1) := by decide +kernel
theorem d_Mo_lostOf_25 : decode b_Mo_lostOf 25 = .ok (.invokevirtual 192, 3) := by decide +kernel
theorem d_Mo_lostOf_28 : decode b_Mo_lostOf 28 = .ok (.if_icmp .ge 33, 3) := by decide +kernel
theorem d_Mo_lostOf_31 : decode b_Mo_lostOf 31 = .ok (.aload_n 0, 1) := by decide +kernel
theorem d_Mo_lostOf_32 : decode b_Mo_lostOf 32 = .ok (.aload_n 0, 1) := by decide +kernel
theorem d_Mo_lostOf_33 : decode b_Mo_lostOf 33 = .ok (.iload_n 1, 1) := by decide +kernel
theorem d_Mo_lostOf_34 : decode b_Mo_lostOf 34 = .ok (.iload 4, 2) := by decide +kernel
theorem d_Mo_lostOf_36 : decode b_Mo_lostOf 36 = .ok (.invokevirtual 220, 3) := by decide +kernel
theorem d_Mo_lostOf_39 : decode b_Mo_lostOf 39 = .ok (.aload_n 0, 1) := by decide +kernel
theorem d_Mo_lostOf_40 : decode b_Mo_lostOf 40 = .ok (.iload_n 2, 1) := by decide +kernel
theorem d_Mo_lostOf_41 : decode b_Mo_lostOf 41 = .ok (.iload 6, 2) := by decide +kernel
theorem d_Mo_lostOf_43 : decode b_Mo_lostOf 43 = .ok (.invokevirtual 220, 3) := by decide +kernel
theorem d_Mo_lostOf_46 : decode b_Mo_lostOf 46 = .ok (.invokevirtual 239, 3) := by decide +kernel
theorem d_Mo_lostOf_49 : decode b_Mo_lostOf 49 = .ok (.ifCond .eq 6, 3) := by decide +kernel
theorem d_Mo_lostOf_52 : decode b_Mo_lostOf 52 = .ok (.iconst 1, 1) := by decide +kernel
theorem d_Mo_lostOf_53 : decode b_Mo_lostOf 53 = .ok (.istore 5, 2) := by decide +kernel
theorem d_Mo_lostOf_55 : decode b_Mo_lostOf 55 = .ok (.iinc 6 1, 3) := by decide +kernel
theorem d_Mo_lostOf_58 : decode b_Mo_lostOf 58 = .ok (.goto (-37), 3) := by decide +kernel
theorem d_Mo_lostOf_61 : decode b_Mo_lostOf 61 = .ok (.iload 5, 2) := by decide +kernel
theorem d_Mo_lostOf_63 : decode b_Mo_lostOf 63 = .ok (.ifCond .ne 6, 3) := by decide +kernel
theorem d_Mo_lostOf_66 : decode b_Mo_lostOf 66 = .ok (.iinc 3 1, 3) := by decide +kernel
theorem d_Mo_lostOf_69 : decode b_Mo_lostOf 69 = .ok (.iinc 4 1, 3) := by decide +kernel
theorem d_Mo_lostOf_72 : decode b_Mo_lostOf 72 = .ok (.goto (-67), 3) := by decide +kernel
theorem d_Mo_lostOf_75 : decode b_Mo_lostOf 75 = .ok (.iload_n 3, 1) := by decide +kernel
theorem d_Mo_lostOf_76 : decode b_Mo_lostOf 76 = .ok (.ireturn, 1) := by decide +kernel
theorem d_Mo_swap_0 : decode b_Mo_swap 0 = .ok (.aload_n 0, 1) := by decide +kernel
theorem d_Mo_swap_1 : decode b_Mo_swap 1 = .ok (.aload_n 0, 1) := by decide +kernel
theorem d_Mo_swap_2 : decode b_Mo_swap 2 = .ok (.getfield 58, 3) := by decide +kernel
theorem d_Mo_swap_5 : decode b_Mo_swap 5 = .ok (.ifCond .ne 7, 3) := by decide +kernel
theorem d_Mo_swap_8 : decode b_Mo_swap 8 = .ok (.iconst 1, 1) := by decide +kernel
theorem d_Mo_swap_9 : decode b_Mo_swap 9 = .ok (.goto 4, 3) := by decide +kernel
theorem d_Mo_swap_12 : decode b_Mo_swap 12 = .ok (.iconst 0, 1) := by decide +kernel
theorem d_Mo_swap_13 : decode b_Mo_swap 13 = .ok (.putfield 58, 3) := by decide +kernel
theorem d_Mo_swap_16 : decode b_Mo_swap 16 = .ok (.return_, 1) := by decide +kernel
theorem d_Lw_law_0 : decode code 0 = .ok (.new 7, 3) := by decide +kernel
theorem d_Lw_law_3 : decode code 3 = .ok (.dup, 1) := by decide +kernel
theorem d_Lw_law_4 : decode code 4 = .ok (.invokespecial 9, 3) := by decide +kernel
theorem d_Lw_law_7 : decode code 7 = .ok (.astore_n 1, 1) := by decide +kernel
theorem d_Lw_law_8 : decode code 8 = .ok (.new 10, 3) := by decide +kernel
theorem d_Lw_law_11 : decode code 11 = .ok (.dup, 1) := by decide +kernel
theorem d_Lw_law_12 : decode code 12 = .ok (.invokespecial 12, 3) := by decide +kernel
theorem d_Lw_law_15 : decode code 15 = .ok (.astore_n 2, 1) := by decide +kernel
theorem d_Lw_law_16 : decode code 16 = .ok (.iconst 0, 1) := by decide +kernel
theorem d_Lw_law_17 : decode code 17 = .ok (.istore_n 3, 1) := by decide +kernel
theorem d_Lw_law_18 : decode code 18 = .ok (.iload_n 3, 1) := by decide +kernel
theorem d_Lw_law_19 : decode code 19 = .ok (.aload_n 0, 1) := by decide +kernel
theorem d_Lw_law_20 : decode code 20 = .ok (.arraylength, 1) := by decide +kernel
theorem d_Lw_law_21 : decode code 21 = .ok (.bipush 6, 2) := by decide +kernel
theorem d_Lw_law_23 : decode code 23 = .ok (.isub, 1) := by decide +kernel
theorem d_Lw_law_24 : decode code 24 = .ok (.if_icmp .gt 526, 3) := by decide +kernel
theorem d_Lw_law_27 : decode code 27 = .ok (.aload_n 0, 1) := by decide +kernel
theorem d_Lw_law_28 : decode code 28 = .ok (.iload_n 3, 1) := by decide +kernel
theorem d_Lw_law_29 : decode code 29 = .ok (.iaload, 1) := by decide +kernel
theorem d_Lw_law_30 : decode code 30 = .ok (.bipush 15, 2) := by decide +kernel
theorem d_Lw_law_32 : decode code 32 = .ok (.iand, 1) := by decide +kernel
theorem d_Lw_law_33 : decode code 33 = .ok (.tableswitch 511 0 13 #[71, 134, 147, 170, 193, 226, 249, 282, 305, 348, 401, 464, 477, 500], 71) := by decide +kernel
theorem d_Lw_law_104 : decode code 104 = .ok (.aload_n 1, 1) := by decide +kernel
theorem d_Lw_law_105 : decode code 105 = .ok (.aload_n 0, 1) := by decide +kernel
theorem d_Lw_law_106 : decode code 106 = .ok (.iload_n 3, 1) := by decide +kernel
theorem d_Lw_law_107 : decode code 107 = .ok (.iconst 1, 1) := by decide +kernel
theorem d_Lw_law_108 : decode code 108 = .ok (.iadd, 1) := by decide +kernel
theorem d_Lw_law_109 : decode code 109 = .ok (.iaload, 1) := by decide +kernel
theorem d_Lw_law_110 : decode code 110 = .ok (.i2l, 1) := by decide +kernel
theorem d_Lw_law_111 : decode code 111 = .ok (.bipush 32, 2) := by decide +kernel
theorem d_Lw_law_113 : decode code 113 = .ok (.lshl, 1) := by decide +kernel
theorem d_Lw_law_114 : decode code 114 = .ok (.aload_n 0, 1) := by decide +kernel
theorem d_Lw_law_115 : decode code 115 = .ok (.iload_n 3, 1) := by decide +kernel
theorem d_Lw_law_116 : decode code 116 = .ok (.iconst 2, 1) := by decide +kernel
theorem d_Lw_law_117 : decode code 117 = .ok (.iadd, 1) := by decide +kernel
theorem d_Lw_law_118 : decode code 118 = .ok (.iaload, 1) := by decide +kernel
theorem d_Lw_law_119 : decode code 119 = .ok (.i2l, 1) := by decide +kernel
theorem d_Lw_law_120 : decode code 120 = .ok (.ldc2_w 13, 3) := by decide +kernel
theorem d_Lw_law_123 : decode code 123 = .ok (.land, 1) := by decide +kernel
theorem d_Lw_law_124 : decode code 124 = .ok (.lor, 1) := by decide +kernel
theorem d_Lw_law_125 : decode code 125 = .ok (.aload_n 0, 1) := by decide +kernel
theorem d_Lw_law_126 : decode code 126 = .ok (.iload_n 3, 1) := by decide +kernel
theorem d_Lw_law_127 : decode code 127 = .ok (.iconst 3, 1) := by decide +kernel
theorem d_Lw_law_128 : decode code 128 = .ok (.iadd, 1) := by decide +kernel
theorem d_Lw_law_129 : decode code 129 = .ok (.iaload, 1) := by decide +kernel
theorem d_Lw_law_130 : decode code 130 = .ok (.invokevirtual 15, 3) := by decide +kernel
theorem d_Lw_law_133 : decode code 133 = .ok (.aload_n 2, 1) := by decide +kernel
theorem d_Lw_law_134 : decode code 134 = .ok (.aload_n 0, 1) := by decide +kernel
theorem d_Lw_law_135 : decode code 135 = .ok (.iload_n 3, 1) := by decide +kernel
theorem d_Lw_law_136 : decode code 136 = .ok (.iconst 1, 1) := by decide +kernel
theorem d_Lw_law_137 : decode code 137 = .ok (.iadd, 1) := by decide +kernel
theorem d_Lw_law_138 : decode code 138 = .ok (.iaload, 1) := by decide +kernel
theorem d_Lw_law_139 : decode code 139 = .ok (.i2l, 1) := by decide +kernel
theorem d_Lw_law_140 : decode code 140 = .ok (.bipush 32, 2) := by decide +kernel
theorem d_Lw_law_142 : decode code 142 = .ok (.lshl, 1) := by decide +kernel
theorem d_Lw_law_143 : decode code 143 = .ok (.aload_n 0, 1) := by decide +kernel
theorem d_Lw_law_144 : decode code 144 = .ok (.iload_n 3, 1) := by decide +kernel
theorem d_Lw_law_145 : decode code 145 = .ok (.iconst 2, 1) := by decide +kernel
theorem d_Lw_law_146 : decode code 146 = .ok (.iadd, 1) := by decide +kernel
theorem d_Lw_law_147 : decode code 147 = .ok (.iaload, 1) := by decide +kernel
theorem d_Lw_law_148 : decode code 148 = .ok (.i2l, 1) := by decide +kernel
theorem d_Lw_law_149 : decode code 149 = .ok (.ldc2_w 13, 3) := by decide +kernel
theorem d_Lw_law_152 : decode code 152 = .ok (.land, 1) := by decide +kernel
theorem d_Lw_law_153 : decode code 153 = .ok (.lor, 1) := by decide +kernel
theorem d_Lw_law_154 : decode code 154 = .ok (.aload_n 0, 1) := by decide +kernel
theorem d_Lw_law_155 : decode code 155 = .ok (.iload_n 3, 1) := by decide +kernel
theorem d_Lw_law_156 : decode code 156 = .ok (.iconst 3, 1) := by decide +kernel
theorem d_Lw_law_157 : decode code 157 = .ok (.iadd, 1) := by decide +kernel
theorem d_Lw_law_158 : decode code 158 = .ok (.iaload, 1) := by decide +kernel
theorem d_Lw_law_159 : decode code 159 = .ok (.invokevirtual 19, 3) := by decide +kernel
theorem d_Lw_law_162 : decode code 162 = .ok (.if_icmp .eq 382, 3) := by decide +kernel
theorem d_Lw_law_165 : decode code 165 = .ok (.iconst 0, 1) := by decide +kernel
theorem d_Lw_law_166 : decode code 166 = .ok (.ireturn, 1) := by decide +kernel
theorem d_Lw_law_167 : decode code 167 = .ok (.aload_n 1, 1) := by decide +kernel
theorem d_Lw_law_168 : decode code 168 = .ok (.invokevirtual 20, 3) := by decide +kernel
theorem d_Lw_law_171 : decode code 171 = .ok (.aload_n 2, 1) := by decide +kernel
theorem d_Lw_law_172 : decode code 172 = .ok (.invokevirtual 24, 3) := by decide +kernel
theorem d_Lw_law_175 : decode code 175 = .ok (.if_icmp .eq 369, 3) := by decide +kernel
theorem d_Lw_law_178 : decode code 178 = .ok (.iconst 0, 1) := by decide +kernel
theorem d_Lw_law_179 : decode code 179 = .ok (.ireturn, 1) := by decide +kernel
theorem d_Lw_law_180 : decode code 180 = .ok (.aload_n 1, 1) := by decide +kernel
theorem d_Lw_law_181 : decode code 181 = .ok (.aload_n 0, 1) := by decide +kernel
theorem d_Lw_law_182 : decode code 182 = .ok (.iload_n 3, 1) := by decide +kernel
theorem d_Lw_law_183 : decode code 183 = .ok (.iconst 1, 1) := by decide +kernel
theorem d_Lw_law_184 : decode code 184 = .ok (.iadd, 1) := by decide +kernel
theorem d_Lw_law_185 : decode code 185 = .ok (.iaload, 1) := by decide +kernel
theorem d_Lw_law_186 : decode code 186 = .ok (.invokevirtual 25, 3) := by decide +kernel
theorem d_Lw_law_189 : decode code 189 = .ok (.aload_n 2, 1) := by decide +kernel
theorem d_Lw_law_190 : decode code 190 = .ok (.aload_n 0, 1) := by decide +kernel
theorem d_Lw_law_191 : decode code 191 = .ok (.iload_n 3, 1) := by decide +kernel
theorem d_Lw_law_192 : decode code 192 = .ok (.iconst 1, 1) := by decide +kernel
theorem d_Lw_law_193 : decode code 193 = .ok (.iadd, 1) := by decide +kernel
theorem d_Lw_law_194 : decode code 194 = .ok (.iaload, 1) := by decide +kernel
theorem d_Lw_law_195 : decode code 195 = .ok (.invokevirtual 29, 3) := by decide +kernel
theorem d_Lw_law_198 : decode code 198 = .ok (.if_icmp .eq 346, 3) := by decide +kernel
theorem d_Lw_law_201 : decode code 201 = .ok (.iconst 0, 1) := by decide +kernel
theorem d_Lw_law_202 : decode code 202 = .ok (.ireturn, 1) := by decide +kernel
theorem d_Lw_law_203 : decode code 203 = .ok (.aload_n 1, 1) := by decide +kernel
theorem d_Lw_law_204 : decode code 204 = .ok (.aload_n 0, 1) := by decide +kernel
theorem d_Lw_law_205 : decode code 205 = .ok (.iload_n 3, 1) := by decide +kernel
theorem d_Lw_law_206 : decode code 206 = .ok (.iconst 1, 1) := by decide +kernel
theorem d_Lw_law_207 : decode code 207 = .ok (.iadd, 1) := by decide +kernel
theorem d_Lw_law_208 : decode code 208 = .ok (.iaload, 1) := by decide +kernel
theorem d_Lw_law_209 : decode code 209 = .ok (.invokevirtual 30, 3) := by decide +kernel
theorem d_Lw_law_212 : decode code 212 = .ok (.aload_n 2, 1) := by decide +kernel
theorem d_Lw_law_213 : decode code 213 = .ok (.aload_n 0, 1) := by decide +kernel
theorem d_Lw_law_214 : decode code 214 = .ok (.iload_n 3, 1) := by decide +kernel
theorem d_Lw_law_215 : decode code 215 = .ok (.iconst 1, 1) := by decide +kernel
theorem d_Lw_law_216 : decode code 216 = .ok (.iadd, 1) := by decide +kernel
theorem d_Lw_law_217 : decode code 217 = .ok (.iaload, 1) := by decide +kernel
theorem d_Lw_law_218 : decode code 218 = .ok (.invokevirtual 33, 3) := by decide +kernel
theorem d_Lw_law_221 : decode code 221 = .ok (.if_icmp .eq 323, 3) := by decide +kernel
theorem d_Lw_law_224 : decode code 224 = .ok (.iconst 0, 1) := by decide +kernel
theorem d_Lw_law_225 : decode code 225 = .ok (.ireturn, 1) := by decide +kernel
theorem d_Lw_law_226 : decode code 226 = .ok (.aload_n 1, 1) := by decide +kernel
theorem d_Lw_law_227 : decode code 227 = .ok (.aload_n 0, 1) := by decide +kernel
theorem d_Lw_law_228 : decode code 228 = .ok (.iload_n 3, 1) := by decide +kernel
theorem d_Lw_law_229 : decode code 229 = .ok (.iconst 1, 1) := by decide +kernel
theorem d_Lw_law_230 : decode code 230 = .ok (.iadd, 1) := by decide +kernel
theorem d_Lw_law_231 : decode code 231 = .ok (.iaload, 1) := by decide +kernel
theorem d_Lw_law_232 : decode code 232 = .ok (.aload_n 0, 1) := by decide +kernel
theorem d_Lw_law_233 : decode code 233 = .ok (.iload_n 3, 1) := by decide +kernel
theorem d_Lw_law_234 : decode code 234 = .ok (.iconst 2, 1) := by decide +kernel
theorem d_Lw_law_235 : decode code 235 = .ok (.iadd, 1) := by decide +kernel
theorem d_Lw_law_236 : decode code 236 = .ok (.iaload, 1) := by decide +kernel
theorem d_Lw_law_237 : decode code 237 = .ok (.invokevirtual 34, 3) := by decide +kernel
theorem d_Lw_law_240 : decode code 240 = .ok (.aload_n 2, 1) := by decide +kernel
theorem d_Lw_law_241 : decode code 241 = .ok (.aload_n 0, 1) := by decide +kernel
theorem d_Lw_law_242 : decode code 242 = .ok (.iload_n 3, 1) := by decide +kernel
theorem d_Lw_law_243 : decode code 243 = .ok (.iconst 1, 1) := by decide +kernel
theorem d_Lw_law_244 : decode code 244 = .ok (.iadd, 1) := by decide +kernel
theorem d_Lw_law_245 : decode code 245 = .ok (.iaload, 1) := by decide +kernel
theorem d_Lw_law_246 : decode code 246 = .ok (.aload_n 0, 1) := by decide +kernel
theorem d_Lw_law_247 : decode code 247 = .ok (.iload_n 3, 1) := by decide +kernel
theorem d_Lw_law_248 : decode code 248 = .ok (.iconst 2, 1) := by decide +kernel
theorem d_Lw_law_249 : decode code 249 = .ok (.iadd, 1) := by decide +kernel
theorem d_Lw_law_250 : decode code 250 = .ok (.iaload, 1) := by decide +kernel
theorem d_Lw_law_251 : decode code 251 = .ok (.invokevirtual 38, 3) := by decide +kernel
theorem d_Lw_law_254 : decode code 254 = .ok (.if_icmp .eq 290, 3) := by decide +kernel
theorem d_Lw_law_257 : decode code 257 = .ok (.iconst 0, 1) := by decide +kernel
theorem d_Lw_law_258 : decode code 258 = .ok (.ireturn, 1) := by decide +kernel
theorem d_Lw_law_259 : decode code 259 = .ok (.aload_n 1, 1) := by decide +kernel
theorem d_Lw_law_260 : decode code 260 = .ok (.aload_n 0, 1) := by decide +kernel
theorem d_Lw_law_261 : decode code 261 = .ok (.iload_n 3, 1) := by decide +kernel
theorem d_Lw_law_262 : decode code 262 = .ok (.iconst 1, 1) := by decide +kernel
theorem d_Lw_law_263 : decode code 263 = .ok (.iadd, 1) := by decide +kernel
theorem d_Lw_law_264 : decode code 264 = .ok (.iaload, 1) := by decide +kernel
theorem d_Lw_law_265 : decode code 265 = .ok (.invokevirtual 39, 3) := by decide +kernel
theorem d_Lw_law_268 : decode code 268 = .ok (.aload_n 2, 1) := by decide +kernel
theorem d_Lw_law_269 : decode code 269 = .ok (.aload_n 0, 1) := by decide +kernel
theorem d_Lw_law_270 : decode code 270 = .ok (.iload_n 3, 1) := by decide +kernel
theorem d_Lw_law_271 : decode code 271 = .ok (.iconst 1, 1) := by decide +kernel
theorem d_Lw_law_272 : decode code 272 = .ok (.iadd, 1) := by decide +kernel
theorem d_Lw_law_273 : decode code 273 = .ok (.iaload, 1) := by decide +kernel
theorem d_Lw_law_274 : decode code 274 = .ok (.invokevirtual 42, 3) := by decide +kernel
theorem d_Lw_law_277 : decode code 277 = .ok (.if_icmp .eq 267, 3) := by decide +kernel
theorem d_Lw_law_280 : decode code 280 = .ok (.iconst 0, 1) := by decide +kernel
theorem d_Lw_law_281 : decode code 281 = .ok (.ireturn, 1) := by decide +kernel
theorem d_Lw_law_282 : decode code 282 = .ok (.aload_n 1, 1) := by decide +kernel
theorem d_Lw_law_283 : decode code 283 = .ok (.aload_n 0, 1) := by decide +kernel
theorem d_Lw_law_284 : decode code 284 = .ok (.iload_n 3, 1) := by decide +kernel
theorem d_Lw_law_285 : decode code 285 = .ok (.iconst 1, 1) := by decide +kernel
theorem d_Lw_law_286 : decode code 286 = .ok (.iadd, 1) := by decide +kernel
theorem d_Lw_law_287 : decode code 287 = .ok (.iaload, 1) := by decide +kernel
theorem d_Lw_law_288 : decode code 288 = .ok (.aload_n 0, 1) := by decide +kernel
theorem d_Lw_law_289 : decode code 289 = .ok (.iload_n 3, 1) := by decide +kernel
theorem d_Lw_law_290 : decode code 290 = .ok (.iconst 2, 1) := by decide +kernel
theorem d_Lw_law_291 : decode code 291 = .ok (.iadd, 1) := by decide +kernel
theorem d_Lw_law_292 : decode code 292 = .ok (.iaload, 1) := by decide +kernel
theorem d_Lw_law_293 : decode code 293 = .ok (.invokevirtual 43, 3) := by decide +kernel
theorem d_Lw_law_296 : decode code 296 = .ok (.aload_n 2, 1) := by decide +kernel
theorem d_Lw_law_297 : decode code 297 = .ok (.aload_n 0, 1) := by decide +kernel
theorem d_Lw_law_298 : decode code 298 = .ok (.iload_n 3, 1) := by decide +kernel
theorem d_Lw_law_299 : decode code 299 = .ok (.iconst 1, 1) := by decide +kernel
theorem d_Lw_law_300 : decode code 300 = .ok (.iadd, 1) := by decide +kernel
theorem d_Lw_law_301 : decode code 301 = .ok (.iaload, 1) := by decide +kernel
theorem d_Lw_law_302 : decode code 302 = .ok (.aload_n 0, 1) := by decide +kernel
theorem d_Lw_law_303 : decode code 303 = .ok (.iload_n 3, 1) := by decide +kernel
theorem d_Lw_law_304 : decode code 304 = .ok (.iconst 2, 1) := by decide +kernel
theorem d_Lw_law_305 : decode code 305 = .ok (.iadd, 1) := by decide +kernel
theorem d_Lw_law_306 : decode code 306 = .ok (.iaload, 1) := by decide +kernel
theorem d_Lw_law_307 : decode code 307 = .ok (.invokevirtual 46, 3) := by decide +kernel
theorem d_Lw_law_310 : decode code 310 = .ok (.if_icmp .eq 234, 3) := by decide +kernel
theorem d_Lw_law_313 : decode code 313 = .ok (.iconst 0, 1) := by decide +kernel
theorem d_Lw_law_314 : decode code 314 = .ok (.ireturn, 1) := by decide +kernel
theorem d_Lw_law_315 : decode code 315 = .ok (.aload_n 1, 1) := by decide +kernel
theorem d_Lw_law_316 : decode code 316 = .ok (.aload_n 0, 1) := by decide +kernel
theorem d_Lw_law_317 : decode code 317 = .ok (.iload_n 3, 1) := by decide +kernel
theorem d_Lw_law_318 : decode code 318 = .ok (.iconst 1, 1) := by decide +kernel
theorem d_Lw_law_319 : decode code 319 = .ok (.iadd, 1) := by decide +kernel
theorem d_Lw_law_320 : decode code 320 = .ok (.iaload, 1) := by decide +kernel
theorem d_Lw_law_321 : decode code 321 = .ok (.invokevirtual 47, 3) := by decide +kernel
theorem d_Lw_law_324 : decode code 324 = .ok (.aload_n 2, 1) := by decide +kernel
theorem d_Lw_law_325 : decode code 325 = .ok (.aload_n 0, 1) := by decide +kernel
theorem d_Lw_law_326 : decode code 326 = .ok (.iload_n 3, 1) := by decide +kernel
theorem d_Lw_law_327 : decode code 327 = .ok (.iconst 1, 1) := by decide +kernel
theorem d_Lw_law_328 : decode code 328 = .ok (.iadd, 1) := by decide +kernel
theorem d_Lw_law_329 : decode code 329 = .ok (.iaload, 1) := by decide +kernel
theorem d_Lw_law_330 : decode code 330 = .ok (.invokevirtual 50, 3) := by decide +kernel
theorem d_Lw_law_333 : decode code 333 = .ok (.if_icmp .eq 211, 3) := by decide +kernel
theorem d_Lw_law_336 : decode code 336 = .ok (.iconst 0, 1) := by decide +kernel
theorem d_Lw_law_337 : decode code 337 = .ok (.ireturn, 1) := by decide +kernel
theorem d_Lw_law_338 : decode code 338 = .ok (.aload_n 1, 1) := by decide +kernel
theorem d_Lw_law_339 : decode code 339 = .ok (.aload_n 0, 1) := by decide +kernel
theorem d_Lw_law_340 : decode code 340 = .ok (.iload_n 3, 1) := by decide +kernel
theorem d_Lw_law_341 : decode code 341 = .ok (.iconst 1, 1) := by decide +kernel
theorem d_Lw_law_342 : decode code 342 = .ok (.iadd, 1) := by decide +kernel
theorem d_Lw_law_343 : decode code 343 = .ok (.iaload, 1) := by decide +kernel
theorem d_Lw_law_344 : decode code 344 = .ok (.aload_n 0, 1) := by decide +kernel
theorem d_Lw_law_345 : decode code 345 = .ok (.iload_n 3, 1) := by decide +kernel
theorem d_Lw_law_346 : decode code 346 = .ok (.iconst 2, 1) := by decide +kernel
theorem d_Lw_law_347 : decode code 347 = .ok (.iadd, 1) := by decide +kernel
theorem d_Lw_law_348 : decode code 348 = .ok (.iaload, 1) := by decide +kernel
theorem d_Lw_law_349 : decode code 349 = .ok (.aload_n 0, 1) := by decide +kernel
theorem d_Lw_law_350 : decode code 350 = .ok (.iload_n 3, 1) := by decide +kernel
theorem d_Lw_law_351 : decode code 351 = .ok (.iconst 3, 1) := by decide +kernel
theorem d_Lw_law_352 : decode code 352 = .ok (.iadd, 1) := by decide +kernel
theorem d_Lw_law_353 : decode code 353 = .ok (.iaload, 1) := by decide +kernel
theorem d_Lw_law_354 : decode code 354 = .ok (.invokevirtual 51, 3) := by decide +kernel
theorem d_Lw_law_357 : decode code 357 = .ok (.aload_n 2, 1) := by decide +kernel
theorem d_Lw_law_358 : decode code 358 = .ok (.aload_n 0, 1) := by decide +kernel
theorem d_Lw_law_359 : decode code 359 = .ok (.iload_n 3, 1) := by decide +kernel
theorem d_Lw_law_360 : decode code 360 = .ok (.iconst 1, 1) := by decide +kernel
theorem d_Lw_law_361 : decode code 361 = .ok (.iadd, 1) := by decide +kernel
theorem d_Lw_law_362 : decode code 362 = .ok (.iaload, 1) := by decide +kernel
theorem d_Lw_law_363 : decode code 363 = .ok (.aload_n 0, 1) := by decide +kernel
theorem d_Lw_law_364 : decode code 364 = .ok (.iload_n 3, 1) := by decide +kernel
theorem d_Lw_law_365 : decode code 365 = .ok (.iconst 2, 1) := by decide +kernel
theorem d_Lw_law_366 : decode code 366 = .ok (.iadd, 1) := by decide +kernel
theorem d_Lw_law_367 : decode code 367 = .ok (.iaload, 1) := by decide +kernel
theorem d_Lw_law_368 : decode code 368 = .ok (.aload_n 0, 1) := by decide +kernel
theorem d_Lw_law_369 : decode code 369 = .ok (.iload_n 3, 1) := by decide +kernel
theorem d_Lw_law_370 : decode code 370 = .ok (.iconst 3, 1) := by decide +kernel
theorem d_Lw_law_371 : decode code 371 = .ok (.iadd, 1) := by decide +kernel
theorem d_Lw_law_372 : decode code 372 = .ok (.iaload, 1) := by decide +kernel
theorem d_Lw_law_373 : decode code 373 = .ok (.invokevirtual 55, 3) := by decide +kernel
theorem d_Lw_law_376 : decode code 376 = .ok (.if_icmp .eq 168, 3) := by decide +kernel
theorem d_Lw_law_379 : decode code 379 = .ok (.iconst 0, 1) := by decide +kernel
theorem d_Lw_law_380 : decode code 380 = .ok (.ireturn, 1) := by decide +kernel
theorem d_Lw_law_381 : decode code 381 = .ok (.aload_n 1, 1) := by decide +kernel
theorem d_Lw_law_382 : decode code 382 = .ok (.aload_n 0, 1) := by decide +kernel
theorem d_Lw_law_383 : decode code 383 = .ok (.iload_n 3, 1) := by decide +kernel
theorem d_Lw_law_384 : decode code 384 = .ok (.iconst 1, 1) := by decide +kernel
theorem d_Lw_law_385 : decode code 385 = .ok (.iadd, 1) := by decide +kernel
theorem d_Lw_law_386 : decode code 386 = .ok (.iaload, 1) := by decide +kernel
theorem d_Lw_law_387 : decode code 387 = .ok (.aload_n 0, 1) := by decide +kernel
theorem d_Lw_law_388 : decode code 388 = .ok (.iload_n 3, 1) := by decide +kernel
theorem d_Lw_law_389 : decode code 389 = .ok (.iconst 2, 1) := by decide +kernel
theorem d_Lw_law_390 : decode code 390 = .ok (.iadd, 1) := by decide +kernel
theorem d_Lw_law_391 : decode code 391 = .ok (.iaload, 1) := by decide +kernel
theorem d_Lw_law_392 : decode code 392 = .ok (.aload_n 0, 1) := by decide +kernel
theorem d_Lw_law_393 : decode code 393 = .ok (.iload_n 3, 1) := by decide +kernel
theorem d_Lw_law_394 : decode code 394 = .ok (.iconst 3, 1) := by decide +kernel
theorem d_Lw_law_395 : decode code 395 = .ok (.iadd, 1) := by decide +kernel
theorem d_Lw_law_396 : decode code 396 = .ok (.iaload, 1) := by decide +kernel
theorem d_Lw_law_397 : decode code 397 = .ok (.aload_n 0, 1) := by decide +kernel
theorem d_Lw_law_398 : decode code 398 = .ok (.iload_n 3, 1) := by decide +kernel
theorem d_Lw_law_399 : decode code 399 = .ok (.iconst 4, 1) := by decide +kernel
theorem d_Lw_law_400 : decode code 400 = .ok (.iadd, 1) := by decide +kernel
theorem d_Lw_law_401 : decode code 401 = .ok (.iaload, 1) := by decide +kernel
theorem d_Lw_law_402 : decode code 402 = .ok (.invokevirtual 56, 3) := by decide +kernel
theorem d_Lw_law_405 : decode code 405 = .ok (.aload_n 2, 1) := by decide +kernel
theorem d_Lw_law_406 : decode code 406 = .ok (.aload_n 0, 1) := by decide +kernel
theorem d_Lw_law_407 : decode code 407 = .ok (.iload_n 3, 1) := by decide +kernel
theorem d_Lw_law_408 : decode code 408 = .ok (.iconst 1, 1) := by decide +kernel
theorem d_Lw_law_409 : decode code 409 = .ok (.iadd, 1) := by decide +kernel
theorem d_Lw_law_410 : decode code 410 = .ok (.iaload, 1) := by decide +kernel
theorem d_Lw_law_411 : decode code 411 = .ok (.aload_n 0, 1) := by decide +kernel
theorem d_Lw_law_412 : decode code 412 = .ok (.iload_n 3, 1) := by decide +kernel
theorem d_Lw_law_413 : decode code 413 = .ok (.iconst 2, 1) := by decide +kernel
theorem d_Lw_law_414 : decode code 414 = .ok (.iadd, 1) := by decide +kernel
theorem d_Lw_law_415 : decode code 415 = .ok (.iaload, 1) := by decide +kernel
theorem d_Lw_law_416 : decode code 416 = .ok (.aload_n 0, 1) := by decide +kernel
theorem d_Lw_law_417 : decode code 417 = .ok (.iload_n 3, 1) := by decide +kernel
theorem d_Lw_law_418 : decode code 418 = .ok (.iconst 3, 1) := by decide +kernel
theorem d_Lw_law_419 : decode code 419 = .ok (.iadd, 1) := by decide +kernel
theorem d_Lw_law_420 : decode code 420 = .ok (.iaload, 1) := by decide +kernel
theorem d_Lw_law_421 : decode code 421 = .ok (.aload_n 0, 1) := by decide +kernel
theorem d_Lw_law_422 : decode code 422 = .ok (.iload_n 3, 1) := by decide +kernel
theorem d_Lw_law_423 : decode code 423 = .ok (.iconst 4, 1) := by decide +kernel
theorem d_Lw_law_424 : decode code 424 = .ok (.iadd, 1) := by decide +kernel
theorem d_Lw_law_425 : decode code 425 = .ok (.iaload, 1) := by decide +kernel
theorem d_Lw_law_426 : decode code 426 = .ok (.invokevirtual 60, 3) := by decide +kernel
theorem d_Lw_law_429 : decode code 429 = .ok (.if_icmp .eq 115, 3) := by decide +kernel
theorem d_Lw_law_432 : decode code 432 = .ok (.iconst 0, 1) := by decide +kernel
theorem d_Lw_law_433 : decode code 433 = .ok (.ireturn, 1) := by decide +kernel
theorem d_Lw_law_434 : decode code 434 = .ok (.aload_n 1, 1) := by decide +kernel
theorem d_Lw_law_435 : decode code 435 = .ok (.aload_n 0, 1) := by decide +kernel
theorem d_Lw_law_436 : decode code 436 = .ok (.iload_n 3, 1) := by decide +kernel
theorem d_Lw_law_437 : decode code 437 = .ok (.iconst 1, 1) := by decide +kernel
theorem d_Lw_law_438 : decode code 438 = .ok (.iadd, 1) := by decide +kernel
theorem d_Lw_law_439 : decode code 439 = .ok (.iaload, 1) := by decide +kernel
theorem d_Lw_law_440 : decode code 440 = .ok (.aload_n 0, 1) := by decide +kernel
theorem d_Lw_law_441 : decode code 441 = .ok (.iload_n 3, 1) := by decide +kernel
theorem d_Lw_law_442 : decode code 442 = .ok (.iconst 2, 1) := by decide +kernel
theorem d_Lw_law_443 : decode code 443 = .ok (.iadd, 1) := by decide +kernel
theorem d_Lw_law_444 : decode code 444 = .ok (.iaload, 1) := by decide +kernel
theorem d_Lw_law_445 : decode code 445 = .ok (.aload_n 0, 1) := by decide +kernel
theorem d_Lw_law_446 : decode code 446 = .ok (.iload_n 3, 1) := by decide +kernel
theorem d_Lw_law_447 : decode code 447 = .ok (.iconst 3, 1) := by decide +kernel
theorem d_Lw_law_448 : decode code 448 = .ok (.iadd, 1) := by decide +kernel
theorem d_Lw_law_449 : decode code 449 = .ok (.iaload, 1) := by decide +kernel
theorem d_Lw_law_450 : decode code 450 = .ok (.aload_n 0, 1) := by decide +kernel
theorem d_Lw_law_451 : decode code 451 = .ok (.iload_n 3, 1) := by decide +kernel
theorem d_Lw_law_452 : decode code 452 = .ok (.iconst 4, 1) := by decide +kernel
theorem d_Lw_law_453 : decode code 453 = .ok (.iadd, 1) := by decide +kernel
theorem d_Lw_law_454 : decode code 454 = .ok (.iaload, 1) := by decide +kernel
theorem d_Lw_law_455 : decode code 455 = .ok (.aload_n 0, 1) := by decide +kernel
theorem d_Lw_law_456 : decode code 456 = .ok (.iload_n 3, 1) := by decide +kernel
theorem d_Lw_law_457 : decode code 457 = .ok (.iconst 5, 1) := by decide +kernel
theorem d_Lw_law_458 : decode code 458 = .ok (.iadd, 1) := by decide +kernel
theorem d_Lw_law_459 : decode code 459 = .ok (.iaload, 1) := by decide +kernel
theorem d_Lw_law_460 : decode code 460 = .ok (.invokevirtual 61, 3) := by decide +kernel
theorem d_Lw_law_463 : decode code 463 = .ok (.aload_n 2, 1) := by decide +kernel
theorem d_Lw_law_464 : decode code 464 = .ok (.aload_n 0, 1) := by decide +kernel
theorem d_Lw_law_465 : decode code 465 = .ok (.iload_n 3, 1) := by decide +kernel
theorem d_Lw_law_466 : decode code 466 = .ok (.iconst 1, 1) := by decide +kernel
theorem d_Lw_law_467 : decode code 467 = .ok (.iadd, 1) := by decide +kernel
theorem d_Lw_law_468 : decode code 468 = .ok (.iaload, 1) := by decide +kernel
theorem d_Lw_law_469 : decode code 469 = .ok (.aload_n 0, 1) := by decide +kernel
theorem d_Lw_law_470 : decode code 470 = .ok (.iload_n 3, 1) := by decide +kernel
theorem d_Lw_law_471 : decode code 471 = .ok (.iconst 2, 1) := by decide +kernel
theorem d_Lw_law_472 : decode code 472 = .ok (.iadd, 1) := by decide +kernel
theorem d_Lw_law_473 : decode code 473 = .ok (.iaload, 1) := by decide +kernel
theorem d_Lw_law_474 : decode code 474 = .ok (.aload_n 0, 1) := by decide +kernel
theorem d_Lw_law_475 : decode code 475 = .ok (.iload_n 3, 1) := by decide +kernel
theorem d_Lw_law_476 : decode code 476 = .ok (.iconst 3, 1) := by decide +kernel
theorem d_Lw_law_477 : decode code 477 = .ok (.iadd, 1) := by decide +kernel
theorem d_Lw_law_478 : decode code 478 = .ok (.iaload, 1) := by decide +kernel
theorem d_Lw_law_479 : decode code 479 = .ok (.aload_n 0, 1) := by decide +kernel
theorem d_Lw_law_480 : decode code 480 = .ok (.iload_n 3, 1) := by decide +kernel
theorem d_Lw_law_481 : decode code 481 = .ok (.iconst 4, 1) := by decide +kernel
theorem d_Lw_law_482 : decode code 482 = .ok (.iadd, 1) := by decide +kernel
theorem d_Lw_law_483 : decode code 483 = .ok (.iaload, 1) := by decide +kernel
theorem d_Lw_law_484 : decode code 484 = .ok (.aload_n 0, 1) := by decide +kernel
theorem d_Lw_law_485 : decode code 485 = .ok (.iload_n 3, 1) := by decide +kernel
theorem d_Lw_law_486 : decode code 486 = .ok (.iconst 5, 1) := by decide +kernel
theorem d_Lw_law_487 : decode code 487 = .ok (.iadd, 1) := by decide +kernel
theorem d_Lw_law_488 : decode code 488 = .ok (.iaload, 1) := by decide +kernel
theorem d_Lw_law_489 : decode code 489 = .ok (.invokevirtual 65, 3) := by decide +kernel
theorem d_Lw_law_492 : decode code 492 = .ok (.if_icmp .eq 52, 3) := by decide +kernel
theorem d_Lw_law_495 : decode code 495 = .ok (.iconst 0, 1) := by decide +kernel
theorem d_Lw_law_496 : decode code 496 = .ok (.ireturn, 1) := by decide +kernel
theorem d_Lw_law_497 : decode code 497 = .ok (.aload_n 1, 1) := by decide +kernel
theorem d_Lw_law_498 : decode code 498 = .ok (.invokevirtual 66, 3) := by decide +kernel
theorem d_Lw_law_501 : decode code 501 = .ok (.aload_n 2, 1) := by decide +kernel
theorem d_Lw_law_502 : decode code 502 = .ok (.invokevirtual 69, 3) := by decide +kernel
theorem d_Lw_law_505 : decode code 505 = .ok (.if_icmp .eq 39, 3) := by decide +kernel
theorem d_Lw_law_508 : decode code 508 = .ok (.iconst 0, 1) := by decide +kernel
theorem d_Lw_law_509 : decode code 509 = .ok (.ireturn, 1) := by decide +kernel
theorem d_Lw_law_510 : decode code 510 = .ok (.aload_n 1, 1) := by decide +kernel
theorem d_Lw_law_511 : decode code 511 = .ok (.aload_n 0, 1) := by decide +kernel
theorem d_Lw_law_512 : decode code 512 = .ok (.iload_n 3, 1) := by decide +kernel
theorem d_Lw_law_513 : decode code 513 = .ok (.iconst 1, 1) := by decide +kernel
theorem d_Lw_law_514 : decode code 514 = .ok (.iadd, 1) := by decide +kernel
theorem d_Lw_law_515 : decode code 515 = .ok (.iaload, 1) := by decide +kernel
theorem d_Lw_law_516 : decode code 516 = .ok (.invokevirtual 70, 3) := by decide +kernel
theorem d_Lw_law_519 : decode code 519 = .ok (.aload_n 2, 1) := by decide +kernel
theorem d_Lw_law_520 : decode code 520 = .ok (.aload_n 0, 1) := by decide +kernel
theorem d_Lw_law_521 : decode code 521 = .ok (.iload_n 3, 1) := by decide +kernel
theorem d_Lw_law_522 : decode code 522 = .ok (.iconst 1, 1) := by decide +kernel
theorem d_Lw_law_523 : decode code 523 = .ok (.iadd, 1) := by decide +kernel
theorem d_Lw_law_524 : decode code 524 = .ok (.iaload, 1) := by decide +kernel
theorem d_Lw_law_525 : decode code 525 = .ok (.invokevirtual 73, 3) := by decide +kernel
theorem d_Lw_law_528 : decode code 528 = .ok (.if_icmp .eq 16, 3) := by decide +kernel
theorem d_Lw_law_531 : decode code 531 = .ok (.iconst 0, 1) := by decide +kernel
theorem d_Lw_law_532 : decode code 532 = .ok (.ireturn, 1) := by decide +kernel
theorem d_Lw_law_533 : decode code 533 = .ok (.aload_n 1, 1) := by decide +kernel
theorem d_Lw_law_534 : decode code 534 = .ok (.invokevirtual 74, 3) := by decide +kernel
theorem d_Lw_law_537 : decode code 537 = .ok (.aload_n 2, 1) := by decide +kernel
theorem d_Lw_law_538 : decode code 538 = .ok (.invokevirtual 77, 3) := by decide +kernel
theorem d_Lw_law_541 : decode code 541 = .ok (.goto 3, 3) := by decide +kernel
theorem d_Lw_law_544 : decode code 544 = .ok (.iinc 3 6, 3) := by decide +kernel
theorem d_Lw_law_547 : decode code 547 = .ok (.goto (-529), 3) := by decide +kernel
theorem d_Lw_law_550 : decode code 550 = .ok (.iconst 1, 1) := by decide +kernel
theorem d_Lw_law_551 : decode code 551 = .ok (.ireturn, 1) := by decide +kernel
