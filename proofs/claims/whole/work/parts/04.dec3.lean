theorem d_B_init_0 : decode b_B_init 0 = .ok (.aload_n 0, 1) := by decide +kernel
theorem d_B_init_1 : decode b_B_init 1 = .ok (.invokespecial 1, 3) := by decide +kernel
theorem d_B_init_4 : decode b_B_init 4 = .ok (.aload_n 0, 1) := by decide +kernel
theorem d_B_init_5 : decode b_B_init 5 = .ok (.new 7, 3) := by decide +kernel
theorem d_B_init_8 : decode b_B_init 8 = .ok (.dup, 1) := by decide +kernel
theorem d_B_init_9 : decode b_B_init 9 = .ok (.sipush 480, 3) := by decide +kernel
theorem d_B_init_12 : decode b_B_init 12 = .ok (.invokespecial 11, 3) := by decide +kernel
theorem d_B_init_15 : decode b_B_init 15 = .ok (.putfield 14, 3) := by decide +kernel
theorem d_B_init_18 : decode b_B_init 18 = .ok (.aload_n 0, 1) := by decide +kernel
theorem d_B_init_19 : decode b_B_init 19 = .ok (.new 7, 3) := by decide +kernel
theorem d_B_init_22 : decode b_B_init 22 = .ok (.dup, 1) := by decide +kernel
theorem d_B_init_23 : decode b_B_init 23 = .ok (.sipush 480, 3) := by decide +kernel
theorem d_B_init_26 : decode b_B_init 26 = .ok (.invokespecial 11, 3) := by decide +kernel
theorem d_B_init_29 : decode b_B_init 29 = .ok (.putfield 18, 3) := by decide +kernel
theorem d_B_init_32 : decode b_B_init 32 = .ok (.aload_n 0, 1) := by decide +kernel
theorem d_B_init_33 : decode b_B_init 33 = .ok (.new 21, 3) := by decide +kernel
theorem d_B_init_36 : decode b_B_init 36 = .ok (.dup, 1) := by decide +kernel
theorem d_B_init_37 : decode b_B_init 37 = .ok (.invokespecial 23, 3) := by decide +kernel
theorem d_B_init_40 : decode b_B_init 40 = .ok (.putfield 24, 3) := by decide +kernel
theorem d_B_init_43 : decode b_B_init 43 = .ok (.aload_n 0, 1) := by decide +kernel
theorem d_B_init_44 : decode b_B_init 44 = .ok (.new 28, 3) := by decide +kernel
theorem d_B_init_47 : decode b_B_init 47 = .ok (.dup, 1) := by decide +kernel
theorem d_B_init_48 : decode b_B_init 48 = .ok (.invokespecial 30, 3) := by decide +kernel
theorem d_B_init_51 : decode b_B_init 51 = .ok (.putfield 31, 3) := by decide +kernel
theorem d_B_init_54 : decode b_B_init 54 = .ok (.aload_n 0, 1) := by decide +kernel
theorem d_B_init_55 : decode b_B_init 55 = .ok (.new 28, 3) := by decide +kernel
theorem d_B_init_58 : decode b_B_init 58 = .ok (.dup, 1) := by decide +kernel
theorem d_B_init_59 : decode b_B_init 59 = .ok (.invokespecial 30, 3) := by decide +kernel
theorem d_B_init_62 : decode b_B_init 62 = .ok (.putfield 35, 3) := by decide +kernel
theorem d_B_init_65 : decode b_B_init 65 = .ok (.return_, 1) := by decide +kernel
theorem d_AL_init_0 : decode b_AL_init 0 = .ok (.aload_n 0, 1) := by decide +kernel
theorem d_AL_init_1 : decode b_AL_init 1 = .ok (.invokespecial 1, 3) := by decide +kernel
theorem d_AL_init_4 : decode b_AL_init 4 = .ok (.aload_n 0, 1) := by decide +kernel
theorem d_AL_init_5 : decode b_AL_init 5 = .ok (.getstatic 39, 3) := by decide +kernel
theorem d_AL_init_8 : decode b_AL_init 8 = .ok (.putfield 9, 3) := by decide +kernel
theorem d_AL_init_11 : decode b_AL_init 11 = .ok (.return_, 1) := by decide +kernel
theorem d_AbL_init_0 : decode b_AbL_init 0 = .ok (.aload_n 0, 1) := by decide +kernel
theorem d_AbL_init_1 : decode b_AbL_init 1 = .ok (.invokespecial 1, 3) := by decide +kernel
theorem d_AbL_init_4 : decode b_AbL_init 4 = .ok (.aload_n 0, 1) := by decide +kernel
theorem d_AbL_init_5 : decode b_AbL_init 5 = .ok (.iconst 0, 1) := by decide +kernel
theorem d_AbL_init_6 : decode b_AbL_init 6 = .ok (.putfield 7, 3) := by decide +kernel
theorem d_AbL_init_9 : decode b_AbL_init 9 = .ok (.return_, 1) := by decide +kernel
theorem d_AbC_init_0 : decode b_AbC_init 0 = .ok (.aload_n 0, 1) := by decide +kernel
theorem d_AbC_init_1 : decode b_AbC_init 1 = .ok (.invokespecial 1, 3) := by decide +kernel
theorem d_AbC_init_4 : decode b_AbC_init 4 = .ok (.return_, 1) := by decide +kernel
theorem d_B_type_0 : decode b_B_type 0 = .ok (.iload_n 3, 1) := by decide +kernel
theorem d_B_type_1 : decode b_B_type 1 = .ok (.iconst 1, 1) := by decide +kernel
theorem d_B_type_2 : decode b_B_type 2 = .ok (.if_icmp .lt 24, 3) := by decide +kernel
theorem d_B_type_5 : decode b_B_type 5 = .ok (.iload_n 3, 1) := by decide +kernel
theorem d_B_type_6 : decode b_B_type 6 = .ok (.bipush 8, 2) := by decide +kernel
theorem d_B_type_8 : decode b_B_type 8 = .ok (.if_icmp .gt 18, 3) := by decide +kernel
theorem d_B_type_11 : decode b_B_type 11 = .ok (.aload_n 0, 1) := by decide +kernel
theorem d_B_type_12 : decode b_B_type 12 = .ok (.getfield 14, 3) := by decide +kernel
theorem d_B_type_15 : decode b_B_type 15 = .ok (.invokevirtual 38, 3) := by decide +kernel
theorem d_B_type_18 : decode b_B_type 18 = .ok (.iload_n 3, 1) := by decide +kernel
theorem d_B_type_19 : decode b_B_type 19 = .ok (.iadd, 1) := by decide +kernel
theorem d_B_type_20 : decode b_B_type 20 = .ok (.sipush 480, 3) := by decide +kernel
theorem d_B_type_23 : decode b_B_type 23 = .ok (.if_icmp .le 5, 3) := by decide +kernel
theorem d_B_type_26 : decode b_B_type 26 = .ok (.iconst (-1), 1) := by decide +kernel
theorem d_B_type_27 : decode b_B_type 27 = .ok (.ireturn, 1) := by decide +kernel
theorem d_B_type_28 : decode b_B_type 28 = .ok (.iconst 0, 1) := by decide +kernel
theorem d_B_type_29 : decode b_B_type 29 = .ok (.istore 4, 2) := by decide +kernel
theorem d_B_type_31 : decode b_B_type 31 = .ok (.iload 4, 2) := by decide +kernel
theorem d_B_type_33 : decode b_B_type 33 = .ok (.iload_n 3, 1) := by decide +kernel
theorem d_B_type_34 : decode b_B_type 34 = .ok (.if_icmp .ge 23, 3) := by decide +kernel
theorem d_B_type_37 : decode b_B_type 37 = .ok (.lload_n 1, 1) := by decide +kernel
theorem d_B_type_38 : decode b_B_type 38 = .ok (.iload 4, 2) := by decide +kernel
theorem d_B_type_40 : decode b_B_type 40 = .ok (.invokestatic 42, 3) := by decide +kernel
theorem d_B_type_43 : decode b_B_type 43 = .ok (.invokestatic 46, 3) := by decide +kernel
theorem d_B_type_46 : decode b_B_type 46 = .ok (.ifCond .ne 5, 3) := by decide +kernel
theorem d_B_type_49 : decode b_B_type 49 = .ok (.iconst (-1), 1) := by decide +kernel
theorem d_B_type_50 : decode b_B_type 50 = .ok (.ireturn, 1) := by decide +kernel
theorem d_B_type_51 : decode b_B_type 51 = .ok (.iinc 4 1, 3) := by decide +kernel
theorem d_B_type_54 : decode b_B_type 54 = .ok (.goto (-23), 3) := by decide +kernel
theorem d_B_type_57 : decode b_B_type 57 = .ok (.iload_n 3, 1) := by decide +kernel
theorem d_B_type_58 : decode b_B_type 58 = .ok (.iconst 1, 1) := by decide +kernel
theorem d_B_type_59 : decode b_B_type 59 = .ok (.isub, 1) := by decide +kernel
theorem d_B_type_60 : decode b_B_type 60 = .ok (.istore 4, 2) := by decide +kernel
theorem d_B_type_62 : decode b_B_type 62 = .ok (.iload 4, 2) := by decide +kernel
theorem d_B_type_64 : decode b_B_type 64 = .ok (.ifCond .lt 22, 3) := by decide +kernel
theorem d_B_type_67 : decode b_B_type 67 = .ok (.aload_n 0, 1) := by decide +kernel
theorem d_B_type_68 : decode b_B_type 68 = .ok (.getfield 14, 3) := by decide +kernel
theorem d_B_type_71 : decode b_B_type 71 = .ok (.lload_n 1, 1) := by decide +kernel
theorem d_B_type_72 : decode b_B_type 72 = .ok (.iload 4, 2) := by decide +kernel
theorem d_B_type_74 : decode b_B_type 74 = .ok (.invokestatic 42, 3) := by decide +kernel
theorem d_B_type_77 : decode b_B_type 77 = .ok (.invokevirtual 50, 3) := by decide +kernel
theorem d_B_type_80 : decode b_B_type 80 = .ok (.iinc 4 (-1), 3) := by decide +kernel
theorem d_B_type_83 : decode b_B_type 83 = .ok (.goto (-21), 3) := by decide +kernel
theorem d_B_type_86 : decode b_B_type 86 = .ok (.aload_n 0, 1) := by decide +kernel
theorem d_B_type_87 : decode b_B_type 87 = .ok (.getfield 14, 3) := by decide +kernel
theorem d_B_type_90 : decode b_B_type 90 = .ok (.invokevirtual 38, 3) := by decide +kernel
theorem d_B_type_93 : decode b_B_type 93 = .ok (.ireturn, 1) := by decide +kernel
theorem d_B_byteOf_0 : decode b_B_byteOf 0 = .ok (.lload_n 0, 1) := by decide +kernel
theorem d_B_byteOf_1 : decode b_B_byteOf 1 = .ok (.bipush 8, 2) := by decide +kernel
theorem d_B_byteOf_3 : decode b_B_byteOf 3 = .ok (.iload_n 2, 1) := by decide +kernel
theorem d_B_byteOf_4 : decode b_B_byteOf 4 = .ok (.imul, 1) := by decide +kernel
theorem d_B_byteOf_5 : decode b_B_byteOf 5 = .ok (.lushr, 1) := by decide +kernel
theorem d_B_byteOf_6 : decode b_B_byteOf 6 = .ok (.l2i, 1) := by decide +kernel
theorem d_B_byteOf_7 : decode b_B_byteOf 7 = .ok (.sipush 255, 3) := by decide +kernel
theorem d_B_byteOf_10 : decode b_B_byteOf 10 = .ok (.iand, 1) := by decide +kernel
theorem d_B_byteOf_11 : decode b_B_byteOf 11 = .ok (.ireturn, 1) := by decide +kernel
theorem d_B_isTextCode_0 : decode b_B_isTextCode 0 = .ok (.iload_n 0, 1) := by decide +kernel
theorem d_B_isTextCode_1 : decode b_B_isTextCode 1 = .ok (.bipush 10, 2) := by decide +kernel
theorem d_B_isTextCode_3 : decode b_B_isTextCode 3 = .ok (.if_icmp .eq 15, 3) := by decide +kernel
theorem d_B_isTextCode_6 : decode b_B_isTextCode 6 = .ok (.iload_n 0, 1) := by decide +kernel
theorem d_B_isTextCode_7 : decode b_B_isTextCode 7 = .ok (.bipush 32, 2) := by decide +kernel
theorem d_B_isTextCode_9 : decode b_B_isTextCode 9 = .ok (.if_icmp .lt 13, 3) := by decide +kernel
theorem d_B_isTextCode_12 : decode b_B_isTextCode 12 = .ok (.iload_n 0, 1) := by decide +kernel
theorem d_B_isTextCode_13 : decode b_B_isTextCode 13 = .ok (.bipush 126, 2) := by decide +kernel
theorem d_B_isTextCode_15 : decode b_B_isTextCode 15 = .ok (.if_icmp .gt 7, 3) := by decide +kernel
theorem d_B_isTextCode_18 : decode b_B_isTextCode 18 = .ok (.iconst 1, 1) := by decide +kernel
theorem d_B_isTextCode_19 : decode b_B_isTextCode 19 = .ok (.goto 4, 3) := by decide +kernel
theorem d_B_isTextCode_22 : decode b_B_isTextCode 22 = .ok (.iconst 0, 1) := by decide +kernel
theorem d_B_isTextCode_23 : decode b_B_isTextCode 23 = .ok (.ireturn, 1) := by decide +kernel
theorem d_B_clear_0 : decode b_B_clear 0 = .ok (.aload_n 0, 1) := by decide +kernel
theorem d_B_clear_1 : decode b_B_clear 1 = .ok (.getfield 14, 3) := by decide +kernel
theorem d_B_clear_4 : decode b_B_clear 4 = .ok (.invokevirtual 38, 3) := by decide +kernel
theorem d_B_clear_7 : decode b_B_clear 7 = .ok (.istore_n 1, 1) := by decide +kernel
theorem d_B_clear_8 : decode b_B_clear 8 = .ok (.aload_n 0, 1) := by decide +kernel
theorem d_B_clear_9 : decode b_B_clear 9 = .ok (.getfield 14, 3) := by decide +kernel
theorem d_B_clear_12 : decode b_B_clear 12 = .ok (.invokevirtual 53, 3) := by decide +kernel
theorem d_B_clear_15 : decode b_B_clear 15 = .ok (.iload_n 1, 1) := by decide +kernel
theorem d_B_clear_16 : decode b_B_clear 16 = .ok (.ireturn, 1) := by decide +kernel
theorem d_B_read_0 : decode b_B_read 0 = .ok (.aload_n 0, 1) := by decide +kernel
theorem d_B_read_1 : decode b_B_read 1 = .ok (.iload_n 1, 1) := by decide +kernel
theorem d_B_read_2 : decode b_B_read 2 = .ok (.invokevirtual 56, 3) := by decide +kernel
theorem d_B_read_5 : decode b_B_read 5 = .ok (.astore_n 2, 1) := by decide +kernel
theorem d_B_read_6 : decode b_B_read 6 = .ok (.aload_n 2, 1) := by decide +kernel
theorem d_B_read_7 : decode b_B_read 7 = .ok (.ifnonnull 5, 3) := by decide +kernel
theorem d_B_read_10 : decode b_B_read 10 = .ok (.iconst (-1), 1) := by decide +kernel
theorem d_B_read_11 : decode b_B_read 11 = .ok (.ireturn, 1) := by decide +kernel
theorem d_B_read_12 : decode b_B_read 12 = .ok (.aload_n 2, 1) := by decide +kernel
theorem d_B_read_13 : decode b_B_read 13 = .ok (.invokevirtual 60, 3) := by decide +kernel
theorem d_B_read_16 : decode b_B_read 16 = .ok (.aload_n 0, 1) := by decide +kernel
theorem d_B_read_17 : decode b_B_read 17 = .ok (.getfield 24, 3) := by decide +kernel
theorem d_B_read_20 : decode b_B_read 20 = .ok (.invokevirtual 61, 3) := by decide +kernel
theorem d_B_read_23 : decode b_B_read 23 = .ok (.new 62, 3) := by decide +kernel
theorem d_B_read_26 : decode b_B_read 26 = .ok (.dup, 1) := by decide +kernel
theorem d_B_read_27 : decode b_B_read 27 = .ok (.aload_n 0, 1) := by decide +kernel
theorem d_B_read_28 : decode b_B_read 28 = .ok (.getfield 14, 3) := by decide +kernel
theorem d_B_read_31 : decode b_B_read 31 = .ok (.aload_n 2, 1) := by decide +kernel
theorem d_B_read_32 : decode b_B_read 32 = .ok (.aload_n 0, 1) := by decide +kernel
theorem d_B_read_33 : decode b_B_read 33 = .ok (.getfield 24, 3) := by decide +kernel
theorem d_B_read_36 : decode b_B_read 36 = .ok (.invokespecial 64, 3) := by decide +kernel
theorem d_B_read_39 : decode b_B_read 39 = .ok (.astore_n 3, 1) := by decide +kernel
theorem d_B_read_40 : decode b_B_read 40 = .ok (.iconst 0, 1) := by decide +kernel
theorem d_B_read_41 : decode b_B_read 41 = .ok (.istore 4, 2) := by decide +kernel
theorem d_B_read_43 : decode b_B_read 43 = .ok (.iconst 0, 1) := by decide +kernel
theorem d_B_read_44 : decode b_B_read 44 = .ok (.istore 5, 2) := by decide +kernel
theorem d_B_read_46 : decode b_B_read 46 = .ok (.iload 5, 2) := by decide +kernel
theorem d_B_read_48 : decode b_B_read 48 = .ok (.aload_n 0, 1) := by decide +kernel
theorem d_B_read_49 : decode b_B_read 49 = .ok (.getfield 14, 3) := by decide +kernel
theorem d_B_read_52 : decode b_B_read 52 = .ok (.invokevirtual 38, 3) := by decide +kernel
theorem d_B_read_55 : decode b_B_read 55 = .ok (.if_icmp .gt 49, 3) := by decide +kernel
theorem d_B_read_58 : decode b_B_read 58 = .ok (.iload 5, 2) := by decide +kernel
theorem d_B_read_60 : decode b_B_read 60 = .ok (.aload_n 0, 1) := by decide +kernel
theorem d_B_read_61 : decode b_B_read 61 = .ok (.getfield 14, 3) := by decide +kernel
theorem d_B_read_64 : decode b_B_read 64 = .ok (.invokevirtual 38, 3) := by decide +kernel
theorem d_B_read_67 : decode b_B_read 67 = .ok (.if_icmp .eq 17, 3) := by decide +kernel
theorem d_B_read_70 : decode b_B_read 70 = .ok (.aload_n 0, 1) := by decide +kernel
theorem d_B_read_71 : decode b_B_read 71 = .ok (.getfield 14, 3) := by decide +kernel
theorem d_B_read_74 : decode b_B_read 74 = .ok (.iload 5, 2) := by decide +kernel
theorem d_B_read_76 : decode b_B_read 76 = .ok (.invokevirtual 67, 3) := by decide +kernel
theorem d_B_read_79 : decode b_B_read 79 = .ok (.bipush 10, 2) := by decide +kernel
theorem d_B_read_81 : decode b_B_read 81 = .ok (.if_icmp .ne 17, 3) := by decide +kernel
theorem d_B_read_84 : decode b_B_read 84 = .ok (.aload_n 3, 1) := by decide +kernel
theorem d_B_read_85 : decode b_B_read 85 = .ok (.iload 4, 2) := by decide +kernel
theorem d_B_read_87 : decode b_B_read 87 = .ok (.iload 5, 2) := by decide +kernel
theorem d_B_read_89 : decode b_B_read 89 = .ok (.invokevirtual 71, 3) := by decide +kernel
theorem d_B_read_92 : decode b_B_read 92 = .ok (.iload 5, 2) := by decide +kernel
theorem d_B_read_94 : decode b_B_read 94 = .ok (.iconst 1, 1) := by decide +kernel
theorem d_B_read_95 : decode b_B_read 95 = .ok (.iadd, 1) := by decide +kernel
theorem d_B_read_96 : decode b_B_read 96 = .ok (.istore 4, 2) := by decide +kernel
theorem d_B_read_98 : decode b_B_read 98 = .ok (.iinc 5 1, 3) := by decide +kernel
theorem d_B_read_101 : decode b_B_read 101 = .ok (.goto (-55), 3) := by decide +kernel
theorem d_B_read_104 : decode b_B_read 104 = .ok (.aload_n 0, 1) := by decide +kernel
theorem d_B_read_105 : decode b_B_read 105 = .ok (.getfield 24, 3) := by decide +kernel
theorem d_B_read_108 : decode b_B_read 108 = .ok (.invokevirtual 75, 3) := by decide +kernel
theorem d_B_read_111 : decode b_B_read 111 = .ok (.ireturn, 1) := by decide +kernel
theorem d_B_chosen_0 : decode b_B_chosen 0 = .ok (.iload_n 1, 1) := by decide +kernel
theorem d_B_chosen_1 : decode b_B_chosen 1 = .ok (.lookupswitch 37 #[(0, 27), (1, 32)], 27) := by decide +kernel
theorem d_B_chosen_28 : decode b_B_chosen 28 = .ok (.aload_n 0, 1) := by decide +kernel
theorem d_B_chosen_29 : decode b_B_chosen 29 = .ok (.getfield 31, 3) := by decide +kernel
theorem d_B_chosen_32 : decode b_B_chosen 32 = .ok (.areturn, 1) := by decide +kernel
theorem d_B_chosen_33 : decode b_B_chosen 33 = .ok (.aload_n 0, 1) := by decide +kernel
theorem d_B_chosen_34 : decode b_B_chosen 34 = .ok (.getfield 35, 3) := by decide +kernel
theorem d_B_chosen_37 : decode b_B_chosen 37 = .ok (.areturn, 1) := by decide +kernel
theorem d_B_chosen_38 : decode b_B_chosen 38 = .ok (.aconst_null, 1) := by decide +kernel
theorem d_B_chosen_39 : decode b_B_chosen 39 = .ok (.areturn, 1) := by decide +kernel
theorem d_Rd_init_0 : decode b_Rd_init 0 = .ok (.aload_n 0, 1) := by decide +kernel
theorem d_Rd_init_1 : decode b_Rd_init 1 = .ok (.invokespecial 3, 3) := by decide +kernel
theorem d_Rd_init_4 : decode b_Rd_init 4 = .ok (.aload_n 0, 1) := by decide +kernel
theorem d_Rd_init_5 : decode b_Rd_init 5 = .ok (.new 9, 3) := by decide +kernel
theorem d_Rd_init_8 : decode b_Rd_init 8 = .ok (.dup, 1) := by decide +kernel
theorem d_Rd_init_9 : decode b_Rd_init 9 = .ok (.invokespecial 11, 3) := by decide +kernel
theorem d_Rd_init_12 : decode b_Rd_init 12 = .ok (.putfield 12, 3) := by decide +kernel
theorem d_Rd_init_15 : decode b_Rd_init 15 = .ok (.aload_n 0, 1) := by decide +kernel
theorem d_Rd_init_16 : decode b_Rd_init 16 = .ok (.new 18, 3) := by decide +kernel
theorem d_Rd_init_19 : decode b_Rd_init 19 = .ok (.dup, 1) := by decide +kernel
theorem d_Rd_init_20 : decode b_Rd_init 20 = .ok (.aload_n 1, 1) := by decide +kernel
theorem d_Rd_init_21 : decode b_Rd_init 21 = .ok (.invokespecial 20, 3) := by decide +kernel
theorem d_Rd_init_24 : decode b_Rd_init 24 = .ok (.putfield 23, 3) := by decide +kernel
theorem d_Rd_init_27 : decode b_Rd_init 27 = .ok (.aload_n 0, 1) := by decide +kernel
theorem d_Rd_init_28 : decode b_Rd_init 28 = .ok (.aload_n 2, 1) := by decide +kernel
theorem d_Rd_init_29 : decode b_Rd_init 29 = .ok (.putfield 27, 3) := by decide +kernel
theorem d_Rd_init_32 : decode b_Rd_init 32 = .ok (.aload_n 0, 1) := by decide +kernel
theorem d_Rd_init_33 : decode b_Rd_init 33 = .ok (.aload_n 3, 1) := by decide +kernel
theorem d_Rd_init_34 : decode b_Rd_init 34 = .ok (.putfield 31, 3) := by decide +kernel
theorem d_Rd_init_37 : decode b_Rd_init 37 = .ok (.return_, 1) := by decide +kernel
theorem d_Rd_readLine_0 : decode b_Rd_readLine 0 = .ok (.aload_n 0, 1) := by decide +kernel
theorem d_Rd_readLine_1 : decode b_Rd_readLine 1 = .ok (.dup, 1) := by decide +kernel
theorem d_Rd_readLine_2 : decode b_Rd_readLine 2 = .ok (.getfield 35, 3) := by decide +kernel
theorem d_Rd_readLine_5 : decode b_Rd_readLine 5 = .ok (.iconst 1, 1) := by decide +kernel
theorem d_Rd_readLine_6 : decode b_Rd_readLine 6 = .ok (.iadd, 1) := by decide +kernel
theorem d_Rd_readLine_7 : decode b_Rd_readLine 7 = .ok (.putfield 35, 3) := by decide +kernel
theorem d_Rd_readLine_10 : decode b_Rd_readLine 10 = .ok (.aload_n 0, 1) := by decide +kernel
theorem d_Rd_readLine_11 : decode b_Rd_readLine 11 = .ok (.getfield 23, 3) := by decide +kernel
theorem d_Rd_readLine_14 : decode b_Rd_readLine 14 = .ok (.iload_n 1, 1) := by decide +kernel
theorem d_Rd_readLine_15 : decode b_Rd_readLine 15 = .ok (.iload_n 2, 1) := by decide +kernel
theorem d_Rd_readLine_16 : decode b_Rd_readLine 16 = .ok (.invokevirtual 39, 3) := by decide +kernel
theorem d_Rd_readLine_19 : decode b_Rd_readLine 19 = .ok (.aload_n 0, 1) := by decide +kernel
theorem d_Rd_readLine_20 : decode b_Rd_readLine 20 = .ok (.getfield 23, 3) := by decide +kernel
theorem d_Rd_readLine_23 : decode b_Rd_readLine 23 = .ok (.invokevirtual 43, 3) := by decide +kernel
theorem d_Rd_readLine_26 : decode b_Rd_readLine 26 = .ok (.ifCond .ne 10, 3) := by decide +kernel
theorem d_Rd_readLine_29 : decode b_Rd_readLine 29 = .ok (.aload_n 0, 1) := by decide +kernel
theorem d_Rd_readLine_30 : decode b_Rd_readLine 30 = .ok (.invokevirtual 47, 3) := by decide +kernel
theorem d_Rd_readLine_33 : decode b_Rd_readLine 33 = .ok (.ifCond .eq 4, 3) := by decide +kernel
theorem d_Rd_readLine_36 : decode b_Rd_readLine 36 = .ok (.return_, 1) := by decide +kernel
theorem d_Rd_readLine_37 : decode b_Rd_readLine 37 = .ok (.aload_n 0, 1) := by decide +kernel
theorem d_Rd_readLine_38 : decode b_Rd_readLine 38 = .ok (.getfield 23, 3) := by decide +kernel
theorem d_Rd_readLine_41 : decode b_Rd_readLine 41 = .ok (.invokevirtual 50, 3) := by decide +kernel
theorem d_Rd_readLine_44 : decode b_Rd_readLine 44 = .ok (.iconst 1, 1) := by decide +kernel
theorem d_Rd_readLine_45 : decode b_Rd_readLine 45 = .ok (.if_icmp .le 7, 3) := by decide +kernel
theorem d_Rd_readLine_48 : decode b_Rd_readLine 48 = .ok (.iconst 1, 1) := by decide +kernel
theorem d_Rd_readLine_49 : decode b_Rd_readLine 49 = .ok (.goto 4, 3) := by decide +kernel
theorem d_Rd_readLine_52 : decode b_Rd_readLine 52 = .ok (.iconst 0, 1) := by decide +kernel
theorem d_Rd_readLine_53 : decode b_Rd_readLine 53 = .ok (.istore_n 3, 1) := by decide +kernel
theorem d_Rd_readLine_54 : decode b_Rd_readLine 54 = .ok (.iload_n 3, 1) := by decide +kernel
theorem d_Rd_readLine_55 : decode b_Rd_readLine 55 = .ok (.ifCond .eq 11, 3) := by decide +kernel
theorem d_Rd_readLine_58 : decode b_Rd_readLine 58 = .ok (.aload_n 0, 1) := by decide +kernel
theorem d_Rd_readLine_59 : decode b_Rd_readLine 59 = .ok (.getfield 54, 3) := by decide +kernel
theorem d_Rd_readLine_62 : decode b_Rd_readLine 62 = .ok (.ifCond .eq 4, 3) := by decide +kernel
theorem d_Rd_readLine_65 : decode b_Rd_readLine 65 = .ok (.return_, 1) := by decide +kernel
theorem d_Rd_readLine_66 : decode b_Rd_readLine 66 = .ok (.aload_n 0, 1) := by decide +kernel
theorem d_Rd_readLine_67 : decode b_Rd_readLine 67 = .ok (.iload_n 3, 1) := by decide +kernel
theorem d_Rd_readLine_68 : decode b_Rd_readLine 68 = .ok (.invokevirtual 58, 3) := by decide +kernel
theorem d_Rd_readLine_71 : decode b_Rd_readLine 71 = .ok (.istore 4, 2) := by decide +kernel
theorem d_Rd_readLine_73 : decode b_Rd_readLine 73 = .ok (.iload 4, 2) := by decide +kernel
theorem d_Rd_readLine_75 : decode b_Rd_readLine 75 = .ok (.ifCond .ne 27, 3) := by decide +kernel
theorem d_Rd_readLine_78 : decode b_Rd_readLine 78 = .ok (.aload_n 0, 1) := by decide +kernel
theorem d_Rd_readLine_79 : decode b_Rd_readLine 79 = .ok (.getfield 23, 3) := by decide +kernel
theorem d_Rd_readLine_82 : decode b_Rd_readLine 82 = .ok (.invokevirtual 62, 3) := by decide +kernel
theorem d_Rd_readLine_85 : decode b_Rd_readLine 85 = .ok (.iload_n 3, 1) := by decide +kernel
theorem d_Rd_readLine_86 : decode b_Rd_readLine 86 = .ok (.ifCond .eq 10, 3) := by decide +kernel
theorem d_Rd_readLine_89 : decode b_Rd_readLine 89 = .ok (.aload_n 0, 1) := by decide +kernel
theorem d_Rd_readLine_90 : decode b_Rd_readLine 90 = .ok (.invokevirtual 65, 3) := by decide +kernel
theorem d_Rd_readLine_93 : decode b_Rd_readLine 93 = .ok (.goto 7, 3) := by decide +kernel
theorem d_Rd_readLine_96 : decode b_Rd_readLine 96 = .ok (.aload_n 0, 1) := by decide +kernel
theorem d_Rd_readLine_97 : decode b_Rd_readLine 97 = .ok (.invokevirtual 68, 3) := by decide +kernel
theorem d_Rd_readLine_100 : decode b_Rd_readLine 100 = .ok (.istore 4, 2) := by decide +kernel
theorem d_Rd_readLine_102 : decode b_Rd_readLine 102 = .ok (.iload 4, 2) := by decide +kernel
theorem d_Rd_readLine_104 : decode b_Rd_readLine 104 = .ok (.ifCond .eq 23, 3) := by decide +kernel
theorem d_Rd_readLine_107 : decode b_Rd_readLine 107 = .ok (.aload_n 0, 1) := by decide +kernel
theorem d_Rd_readLine_108 : decode b_Rd_readLine 108 = .ok (.getfield 31, 3) := by decide +kernel
theorem d_Rd_readLine_111 : decode b_Rd_readLine 111 = .ok (.iload 4, 2) := by decide +kernel
theorem d_Rd_readLine_113 : decode b_Rd_readLine 113 = .ok (.aload_n 0, 1) := by decide +kernel
theorem d_Rd_readLine_114 : decode b_Rd_readLine 114 = .ok (.getfield 35, 3) := by decide +kernel
theorem d_Rd_readLine_117 : decode b_Rd_readLine 117 = .ok (.aload_n 0, 1) := by decide +kernel
theorem d_Rd_readLine_118 : decode b_Rd_readLine 118 = .ok (.getfield 23, 3) := by decide +kernel
theorem d_Rd_readLine_121 : decode b_Rd_readLine 121 = .ok (.invokevirtual 50, 3) := by decide +kernel
theorem d_Rd_readLine_124 : decode b_Rd_readLine 124 = .ok (.invokevirtual 71, 3) := by decide +kernel
theorem d_Rd_readLine_127 : decode b_Rd_readLine 127 = .ok (.iload_n 3, 1) := by decide +kernel
theorem d_Rd_readLine_128 : decode b_Rd_readLine 128 = .ok (.ifCond .ne 17, 3) := by decide +kernel
theorem d_Rd_readLine_131 : decode b_Rd_readLine 131 = .ok (.aload_n 0, 1) := by decide +kernel
theorem d_Rd_readLine_132 : decode b_Rd_readLine 132 = .ok (.iload 4, 2) := by decide +kernel
theorem d_Rd_readLine_134 : decode b_Rd_readLine 134 = .ok (.ifCond .eq 7, 3) := by decide +kernel
theorem d_Rd_readLine_137 : decode b_Rd_readLine 137 = .ok (.iconst 1, 1) := by decide +kernel
theorem d_Rd_readLine_138 : decode b_Rd_readLine 138 = .ok (.goto 4, 3) := by decide +kernel
theorem d_Rd_readLine_141 : decode b_Rd_readLine 141 = .ok (.iconst 0, 1) := by decide +kernel
theorem d_Rd_readLine_142 : decode b_Rd_readLine 142 = .ok (.putfield 54, 3) := by decide +kernel
theorem d_Rd_readLine_145 : decode b_Rd_readLine 145 = .ok (.return_, 1) := by decide +kernel
theorem d_Rd_readFirst_0 : decode b_Rd_readFirst 0 = .ok (.aload_n 0, 1) := by decide +kernel
theorem d_Rd_readFirst_1 : decode b_Rd_readFirst 1 = .ok (.getfield 77, 3) := by decide +kernel
theorem d_Rd_readFirst_4 : decode b_Rd_readFirst 4 = .ok (.ifCond .eq 5, 3) := by decide +kernel
theorem d_Rd_readFirst_7 : decode b_Rd_readFirst 7 = .ok (.iconst 0, 1) := by decide +kernel
theorem d_Rd_readFirst_8 : decode b_Rd_readFirst 8 = .ok (.ireturn, 1) := by decide +kernel
theorem d_Rd_readFirst_9 : decode b_Rd_readFirst 9 = .ok (.aload_n 0, 1) := by decide +kernel
theorem d_Rd_readFirst_10 : decode b_Rd_readFirst 10 = .ok (.iconst 1, 1) := by decide +kernel
theorem d_Rd_readFirst_11 : decode b_Rd_readFirst 11 = .ok (.putfield 77, 3) := by decide +kernel
theorem d_Rd_readFirst_14 : decode b_Rd_readFirst 14 = .ok (.aload_n 0, 1) := by decide +kernel
theorem d_Rd_readFirst_15 : decode b_Rd_readFirst 15 = .ok (.invokevirtual 80, 3) := by decide +kernel
theorem d_Rd_readFirst_18 : decode b_Rd_readFirst 18 = .ok (.ifCond .eq 5, 3) := by decide +kernel
theorem d_Rd_readFirst_21 : decode b_Rd_readFirst 21 = .ok (.iconst 1, 1) := by decide +kernel
theorem d_Rd_readFirst_22 : decode b_Rd_readFirst 22 = .ok (.ireturn, 1) := by decide +kernel
theorem d_Rd_readFirst_23 : decode b_Rd_readFirst 23 = .ok (.aload_n 0, 1) := by decide +kernel
theorem d_Rd_readFirst_24 : decode b_Rd_readFirst 24 = .ok (.getfield 23, 3) := by decide +kernel
theorem d_Rd_readFirst_27 : decode b_Rd_readFirst 27 = .ok (.invokevirtual 62, 3) := by decide +kernel
theorem d_Rd_readFirst_30 : decode b_Rd_readFirst 30 = .ok (.aload_n 0, 1) := by decide +kernel
theorem d_Rd_readFirst_31 : decode b_Rd_readFirst 31 = .ok (.getfield 31, 3) := by decide +kernel
theorem d_Rd_readFirst_34 : decode b_Rd_readFirst 34 = .ok (.iconst 1, 1) := by decide +kernel
theorem d_Rd_readFirst_35 : decode b_Rd_readFirst 35 = .ok (.aload_n 0, 1) := by decide +kernel
theorem d_Rd_readFirst_36 : decode b_Rd_readFirst 36 = .ok (.getfield 35, 3) := by decide +kernel
theorem d_Rd_readFirst_39 : decode b_Rd_readFirst 39 = .ok (.aload_n 0, 1) := by decide +kernel
theorem d_Rd_readFirst_40 : decode b_Rd_readFirst 40 = .ok (.getfield 23, 3) := by decide +kernel
theorem d_Rd_readFirst_43 : decode b_Rd_readFirst 43 = .ok (.invokevirtual 50, 3) := by decide +kernel
theorem d_Rd_readFirst_46 : decode b_Rd_readFirst 46 = .ok (.invokevirtual 71, 3) := by decide +kernel
theorem d_Rd_readFirst_49 : decode b_Rd_readFirst 49 = .ok (.iconst 0, 1) := by decide +kernel
theorem d_Rd_readFirst_50 : decode b_Rd_readFirst 50 = .ok (.ireturn, 1) := by decide +kernel
theorem d_Rd_readFormat_0 : decode b_Rd_readFormat 0 = .ok (.aload_n 0, 1) := by decide +kernel
theorem d_Rd_readFormat_1 : decode b_Rd_readFormat 1 = .ok (.getfield 23, 3) := by decide +kernel
theorem d_Rd_readFormat_4 : decode b_Rd_readFormat 4 = .ok (.ldc 83, 2) := by decide +kernel
theorem d_Rd_readFormat_6 : decode b_Rd_readFormat 6 = .ok (.invokevirtual 85, 3) := by decide +kernel
theorem d_Rd_readFormat_9 : decode b_Rd_readFormat 9 = .ok (.ifCond .ne 5, 3) := by decide +kernel
theorem d_Rd_readFormat_12 : decode b_Rd_readFormat 12 = .ok (.iconst 0, 1) := by decide +kernel
theorem d_Rd_readFormat_13 : decode b_Rd_readFormat 13 = .ok (.ireturn, 1) := by decide +kernel
theorem d_Rd_readFormat_14 : decode b_Rd_readFormat 14 = .ok (.aload_n 0, 1) := by decide +kernel
theorem d_Rd_readFormat_15 : decode b_Rd_readFormat 15 = .ok (.getfield 23, 3) := by decide +kernel
theorem d_Rd_readFormat_18 : decode b_Rd_readFormat 18 = .ok (.invokevirtual 89, 3) := by decide +kernel
theorem d_Rd_readFormat_21 : decode b_Rd_readFormat 21 = .ok (.aload_n 0, 1) := by decide +kernel
theorem d_Rd_readFormat_22 : decode b_Rd_readFormat 22 = .ok (.getfield 23, 3) := by decide +kernel
theorem d_Rd_readFormat_25 : decode b_Rd_readFormat 25 = .ok (.ldc 92, 2) := by decide +kernel
theorem d_Rd_readFormat_27 : decode b_Rd_readFormat 27 = .ok (.invokevirtual 85, 3) := by decide +kernel
theorem d_Rd_readFormat_30 : decode b_Rd_readFormat 30 = .ok (.ifCond .eq 7, 3) := by decide +kernel
theorem d_Rd_readFormat_33 : decode b_Rd_readFormat 33 = .ok (.iconst 1, 1) := by decide +kernel
theorem d_Rd_readFormat_34 : decode b_Rd_readFormat 34 = .ok (.goto 20, 3) := by decide +kernel
theorem d_Rd_readFormat_37 : decode b_Rd_readFormat 37 = .ok (.aload_n 0, 1) := by decide +kernel
theorem d_Rd_readFormat_38 : decode b_Rd_readFormat 38 = .ok (.getfield 23, 3) := by decide +kernel
theorem d_Rd_readFormat_41 : decode b_Rd_readFormat 41 = .ok (.ldc 94, 2) := by decide +kernel
theorem d_Rd_readFormat_43 : decode b_Rd_readFormat 43 = .ok (.invokevirtual 85, 3) := by decide +kernel
theorem d_Rd_readFormat_46 : decode b_Rd_readFormat 46 = .ok (.ifCond .eq 7, 3) := by decide +kernel
theorem d_Rd_readFormat_49 : decode b_Rd_readFormat 49 = .ok (.iconst 2, 1) := by decide +kernel
theorem d_Rd_readFormat_50 : decode b_Rd_readFormat 50 = .ok (.goto 4, 3) := by decide +kernel
theorem d_Rd_readFormat_53 : decode b_Rd_readFormat 53 = .ok (.iconst (-1), 1) := by decide +kernel
theorem d_Rd_readFormat_54 : decode b_Rd_readFormat 54 = .ok (.istore_n 1, 1) := by decide +kernel
theorem d_Rd_readFormat_55 : decode b_Rd_readFormat 55 = .ok (.aload_n 0, 1) := by decide +kernel
theorem d_Rd_readFormat_56 : decode b_Rd_readFormat 56 = .ok (.getfield 23, 3) := by decide +kernel
theorem d_Rd_readFormat_59 : decode b_Rd_readFormat 59 = .ok (.invokevirtual 89, 3) := by decide +kernel
theorem d_Rd_readFormat_62 : decode b_Rd_readFormat 62 = .ok (.iload_n 1, 1) := by decide +kernel
theorem d_Rd_readFormat_63 : decode b_Rd_readFormat 63 = .ok (.iconst (-1), 1) := by decide +kernel
theorem d_Rd_readFormat_64 : decode b_Rd_readFormat 64 = .ok (.if_icmp .eq 13, 3) := by decide +kernel
theorem d_Rd_readFormat_67 : decode b_Rd_readFormat 67 = .ok (.aload_n 0, 1) := by decide +kernel
theorem d_Rd_readFormat_68 : decode b_Rd_readFormat 68 = .ok (.getfield 23, 3) := by decide +kernel
theorem d_Rd_readFormat_71 : decode b_Rd_readFormat 71 = .ok (.invokevirtual 96, 3) := by decide +kernel
theorem d_Rd_readFormat_74 : decode b_Rd_readFormat 74 = .ok (.ifCond .eq 5, 3) := by decide +kernel
theorem d_Rd_readFormat_77 : decode b_Rd_readFormat 77 = .ok (.iconst 0, 1) := by decide +kernel
theorem d_Rd_readFormat_78 : decode b_Rd_readFormat 78 = .ok (.ireturn, 1) := by decide +kernel
theorem d_Rd_readFormat_79 : decode b_Rd_readFormat 79 = .ok (.aload_n 0, 1) := by decide +kernel
theorem d_Rd_readFormat_80 : decode b_Rd_readFormat 80 = .ok (.getfield 27, 3) := by decide +kernel
theorem d_Rd_readFormat_83 : decode b_Rd_readFormat 83 = .ok (.iload_n 1, 1) := by decide +kernel
theorem d_Rd_readFormat_84 : decode b_Rd_readFormat 84 = .ok (.putfield 99, 3) := by decide +kernel
theorem d_Rd_readFormat_87 : decode b_Rd_readFormat 87 = .ok (.iconst 1, 1) := by decide +kernel
theorem d_Rd_readFormat_88 : decode b_Rd_readFormat 88 = .ok (.ireturn, 1) := by decide +kernel
theorem d_St_length_0 : decode b_St_length 0 = .ok (.aload_n 0, 1) := by decide +kernel
theorem d_St_length_1 : decode b_St_length 1 = .ok (.getfield 9, 3) := by decide +kernel
theorem d_St_length_4 : decode b_St_length 4 = .ok (.arraylength, 1) := by decide +kernel
theorem d_St_length_5 : decode b_St_length 5 = .ok (.aload_n 0, 1) := by decide +kernel
theorem d_St_length_6 : decode b_St_length 6 = .ok (.invokevirtual 335, 3) := by decide +kernel
theorem d_St_length_9 : decode b_St_length 9 = .ok (.ishr, 1) := by decide +kernel
theorem d_St_length_10 : decode b_St_length 10 = .ok (.ireturn, 1) := by decide +kernel
theorem d_St_coder_0 : decode b_St_coder 0 = .ok (.getstatic 38, 3) := by decide +kernel
theorem d_St_coder_3 : decode b_St_coder 3 = .ok (.ifCond .eq 10, 3) := by decide +kernel
theorem d_St_coder_6 : decode b_St_coder 6 = .ok (.aload_n 0, 1) := by decide +kernel
theorem d_St_coder_7 : decode b_St_coder 7 = .ok (.getfield 15, 3) := by decide +kernel
theorem d_St_coder_10 : decode b_St_coder 10 = .ok (.goto 4, 3) := by decide +kernel
theorem d_St_coder_13 : decode b_St_coder 13 = .ok (.iconst 1, 1) := by decide +kernel
theorem d_St_coder_14 : decode b_St_coder 14 = .ok (.ireturn, 1) := by decide +kernel
theorem d_St_charAt_0 : decode b_St_charAt 0 = .ok (.aload_n 0, 1) := by decide +kernel
theorem d_St_charAt_1 : decode b_St_charAt 1 = .ok (.invokevirtual 492, 3) := by decide +kernel
theorem d_St_charAt_4 : decode b_St_charAt 4 = .ok (.ifCond .eq 12, 3) := by decide +kernel
theorem d_St_charAt_7 : decode b_St_charAt 7 = .ok (.aload_n 0, 1) := by decide +kernel
theorem d_St_charAt_8 : decode b_St_charAt 8 = .ok (.getfield 9, 3) := by decide +kernel
theorem d_St_charAt_11 : decode b_St_charAt 11 = .ok (.iload_n 1, 1) := by decide +kernel
theorem d_St_charAt_12 : decode b_St_charAt 12 = .ok (.invokestatic 495, 3) := by decide +kernel
theorem d_St_charAt_15 : decode b_St_charAt 15 = .ok (.ireturn, 1) := by decide +kernel
theorem d_St_charAt_16 : decode b_St_charAt 16 = .ok (.aload_n 0, 1) := by decide +kernel
theorem d_St_charAt_17 : decode b_St_charAt 17 = .ok (.getfield 9, 3) := by decide +kernel
theorem d_St_charAt_20 : decode b_St_charAt 20 = .ok (.iload_n 1, 1) := by decide +kernel
theorem d_St_charAt_21 : decode b_St_charAt 21 = .ok (.invokestatic 498, 3) := by decide +kernel
theorem d_St_charAt_24 : decode b_St_charAt 24 = .ok (.ireturn, 1) := by decide +kernel
theorem d_St_isLatin1_0 : decode b_St_isLatin1 0 = .ok (.getstatic 38, 3) := by decide +kernel
theorem d_St_isLatin1_3 : decode b_St_isLatin1 3 = .ok (.ifCond .eq 14, 3) := by decide +kernel
theorem d_St_isLatin1_6 : decode b_St_isLatin1 6 = .ok (.aload_n 0, 1) := by decide +kernel
theorem d_St_isLatin1_7 : decode b_St_isLatin1 7 = .ok (.getfield 15, 3) := by decide +kernel
theorem d_St_isLatin1_10 : decode b_St_isLatin1 10 = .ok (.ifCond .ne 7, 3) := by decide +kernel
theorem d_St_isLatin1_13 : decode b_St_isLatin1 13 = .ok (.iconst 1, 1) := by decide +kernel
theorem d_St_isLatin1_14 : decode b_St_isLatin1 14 = .ok (.goto 4, 3) := by decide +kernel
theorem d_St_isLatin1_17 : decode b_St_isLatin1 17 = .ok (.iconst 0, 1) := by decide +kernel
theorem d_St_isLatin1_18 : decode b_St_isLatin1 18 = .ok (.ireturn, 1) := by decide +kernel
theorem d_SL_charAt_0 : decode b_SL_charAt 0 = .ok (.iload_n 1, 1) := by decide +kernel
theorem d_SL_charAt_1 : decode b_SL_charAt 1 = .ok (.aload_n 0, 1) := by decide +kernel
theorem d_SL_charAt_2 : decode b_SL_charAt 2 = .ok (.arraylength, 1) := by decide +kernel
theorem d_SL_charAt_3 : decode b_SL_charAt 3 = .ok (.invokestatic 9, 3) := by decide +kernel
theorem d_SL_charAt_6 : decode b_SL_charAt 6 = .ok (.aload_n 0, 1) := by decide +kernel
theorem d_SL_charAt_7 : decode b_SL_charAt 7 = .ok (.iload_n 1, 1) := by decide +kernel
theorem d_SL_charAt_8 : decode b_SL_charAt 8 = .ok (.baload, 1) := by decide +kernel
theorem d_SL_charAt_9 : decode b_SL_charAt 9 = .ok (.sipush 255, 3) := by decide +kernel
theorem d_SL_charAt_12 : decode b_SL_charAt 12 = .ok (.iand, 1) := by decide +kernel
theorem d_SL_charAt_13 : decode b_SL_charAt 13 = .ok (.i2c, 1) := by decide +kernel
theorem d_SL_charAt_14 : decode b_SL_charAt 14 = .ok (.ireturn, 1) := by decide +kernel
theorem d_St_checkIndex_0 : decode b_St_checkIndex 0 = .ok (.iload_n 0, 1) := by decide +kernel
theorem d_St_checkIndex_1 : decode b_St_checkIndex 1 = .ok (.iload_n 1, 1) := by decide +kernel
theorem d_St_checkIndex_2 : decode b_St_checkIndex 2 = .ok (.getstatic 1053, 3) := by decide +kernel
theorem d_St_checkIndex_5 : decode b_St_checkIndex 5 = .ok (.invokestatic 1059, 3) := by decide +kernel
theorem d_St_checkIndex_8 : decode b_St_checkIndex 8 = .ok (.pop, 1) := by decide +kernel
theorem d_St_checkIndex_9 : decode b_St_checkIndex 9 = .ok (.return_, 1) := by decide +kernel
theorem d_Pre_checkIndex_0 : decode b_Pre_checkIndex 0 = .ok (.iload_n 0, 1) := by decide +kernel
theorem d_Pre_checkIndex_1 : decode b_Pre_checkIndex 1 = .ok (.ifCond .lt 8, 3) := by decide +kernel
theorem d_Pre_checkIndex_4 : decode b_Pre_checkIndex 4 = .ok (.iload_n 0, 1) := by decide +kernel
theorem d_Pre_checkIndex_5 : decode b_Pre_checkIndex 5 = .ok (.iload_n 1, 1) := by decide +kernel
theorem d_Pre_checkIndex_6 : decode b_Pre_checkIndex 6 = .ok (.if_icmp .lt 10, 3) := by decide +kernel
theorem d_Pre_checkIndex_9 : decode b_Pre_checkIndex 9 = .ok (.aload_n 2, 1) := by decide +kernel
theorem d_Pre_checkIndex_10 : decode b_Pre_checkIndex 10 = .ok (.iload_n 0, 1) := by decide +kernel
theorem d_Pre_checkIndex_11 : decode b_Pre_checkIndex 11 = .ok (.iload_n 1, 1) := by decide +kernel
theorem d_Pre_checkIndex_12 : decode b_Pre_checkIndex 12 = .ok (.invokestatic 95, 3) := by decide +kernel
theorem d_Pre_checkIndex_15 : decode b_Pre_checkIndex 15 = .ok (.athrow, 1) := by decide +kernel
theorem d_Pre_checkIndex_16 : decode b_Pre_checkIndex 16 = .ok (.iload_n 0, 1) := by decide +kernel
theorem d_Pre_checkIndex_17 : decode b_Pre_checkIndex 17 = .ok (.ireturn, 1) := by decide +kernel
theorem d_Rd_readWords_0 : decode b_Rd_readWords 0 = .ok (.aload_n 0, 1) := by decide +kernel
theorem d_Rd_readWords_1 : decode b_Rd_readWords 1 = .ok (.iload_n 1, 1) := by decide +kernel
theorem d_Rd_readWords_2 : decode b_Rd_readWords 2 = .ok (.invokevirtual 104, 3) := by decide +kernel
theorem d_Rd_readWords_5 : decode b_Rd_readWords 5 = .ok (.ifCond .ne 5, 3) := by decide +kernel
theorem d_Rd_readWords_8 : decode b_Rd_readWords 8 = .ok (.iconst 2, 1) := by decide +kernel
theorem d_Rd_readWords_9 : decode b_Rd_readWords 9 = .ok (.ireturn, 1) := by decide +kernel
theorem d_Rd_readWords_10 : decode b_Rd_readWords 10 = .ok (.aload_n 0, 1) := by decide +kernel
theorem d_Rd_readWords_11 : decode b_Rd_readWords 11 = .ok (.getfield 12, 3) := by decide +kernel
theorem d_Rd_readWords_14 : decode b_Rd_readWords 14 = .ok (.aload_n 0, 1) := by decide +kernel
theorem d_Rd_readWords_15 : decode b_Rd_readWords 15 = .ok (.iload_n 1, 1) := by decide +kernel
theorem d_Rd_readWords_16 : decode b_Rd_readWords 16 = .ok (.invokevirtual 108, 3) := by decide +kernel
theorem d_Rd_readWords_19 : decode b_Rd_readWords 19 = .ok (.putfield 111, 3) := by decide +kernel
theorem d_Rd_readWords_22 : decode b_Rd_readWords 22 = .ok (.aload_n 0, 1) := by decide +kernel
theorem d_Rd_readWords_23 : decode b_Rd_readWords 23 = .ok (.getfield 12, 3) := by decide +kernel
theorem d_Rd_readWords_26 : decode b_Rd_readWords 26 = .ok (.getfield 111, 3) := by decide +kernel
theorem d_Rd_readWords_29 : decode b_Rd_readWords 29 = .ok (.iconst (-1), 1) := by decide +kernel
theorem d_Rd_readWords_30 : decode b_Rd_readWords 30 = .ok (.if_icmp .ne 5, 3) := by decide +kernel
theorem d_Rd_readWords_33 : decode b_Rd_readWords 33 = .ok (.iconst 3, 1) := by decide +kernel
theorem d_Rd_readWords_34 : decode b_Rd_readWords 34 = .ok (.ireturn, 1) := by decide +kernel
theorem d_Rd_readWords_35 : decode b_Rd_readWords 35 = .ok (.aload_n 0, 1) := by decide +kernel
theorem d_Rd_readWords_36 : decode b_Rd_readWords 36 = .ok (.getfield 23, 3) := by decide +kernel
theorem d_Rd_readWords_39 : decode b_Rd_readWords 39 = .ok (.invokevirtual 89, 3) := by decide +kernel
theorem d_Rd_readWords_42 : decode b_Rd_readWords 42 = .ok (.aload_n 0, 1) := by decide +kernel
theorem d_Rd_readWords_43 : decode b_Rd_readWords 43 = .ok (.getfield 23, 3) := by decide +kernel
theorem d_Rd_readWords_46 : decode b_Rd_readWords 46 = .ok (.aload_n 0, 1) := by decide +kernel
theorem d_Rd_readWords_47 : decode b_Rd_readWords 47 = .ok (.getfield 12, 3) := by decide +kernel
theorem d_Rd_readWords_50 : decode b_Rd_readWords 50 = .ok (.getfield 114, 3) := by decide +kernel
theorem d_Rd_readWords_53 : decode b_Rd_readWords 53 = .ok (.aload_n 0, 1) := by decide +kernel
theorem d_Rd_readWords_54 : decode b_Rd_readWords 54 = .ok (.getfield 27, 3) := by decide +kernel
theorem d_Rd_readWords_57 : decode b_Rd_readWords 57 = .ok (.getfield 99, 3) := by decide +kernel
theorem d_Rd_readWords_60 : decode b_Rd_readWords 60 = .ok (.invokevirtual 118, 3) := by decide +kernel
theorem d_Rd_readWords_63 : decode b_Rd_readWords 63 = .ok (.aload_n 0, 1) := by decide +kernel
theorem d_Rd_readWords_64 : decode b_Rd_readWords 64 = .ok (.getfield 12, 3) := by decide +kernel
theorem d_Rd_readWords_67 : decode b_Rd_readWords 67 = .ok (.getfield 114, 3) := by decide +kernel
theorem d_Rd_readWords_70 : decode b_Rd_readWords 70 = .ok (.iload_n 1, 1) := by decide +kernel
theorem d_Rd_readWords_71 : decode b_Rd_readWords 71 = .ok (.aload_n 0, 1) := by decide +kernel
theorem d_Rd_readWords_72 : decode b_Rd_readWords 72 = .ok (.getfield 12, 3) := by decide +kernel
theorem d_Rd_readWords_75 : decode b_Rd_readWords 75 = .ok (.getfield 111, 3) := by decide +kernel
theorem d_Rd_readWords_78 : decode b_Rd_readWords 78 = .ok (.invokestatic 122, 3) := by decide +kernel
theorem d_Rd_readWords_81 : decode b_Rd_readWords 81 = .ok (.ifCond .ne 5, 3) := by decide +kernel
theorem d_Rd_readWords_84 : decode b_Rd_readWords 84 = .ok (.iconst 4, 1) := by decide +kernel
theorem d_Rd_readWords_85 : decode b_Rd_readWords 85 = .ok (.ireturn, 1) := by decide +kernel
theorem d_Rd_readWords_86 : decode b_Rd_readWords 86 = .ok (.aload_n 0, 1) := by decide +kernel
theorem d_Rd_readWords_87 : decode b_Rd_readWords 87 = .ok (.getfield 23, 3) := by decide +kernel
theorem d_Rd_readWords_90 : decode b_Rd_readWords 90 = .ok (.invokevirtual 89, 3) := by decide +kernel
theorem d_Rd_readWords_93 : decode b_Rd_readWords 93 = .ok (.aload_n 0, 1) := by decide +kernel
theorem d_Rd_readWords_94 : decode b_Rd_readWords 94 = .ok (.getfield 12, 3) := by decide +kernel
theorem d_Rd_readWords_97 : decode b_Rd_readWords 97 = .ok (.getfield 128, 3) := by decide +kernel
theorem d_Rd_readWords_100 : decode b_Rd_readWords 100 = .ok (.invokevirtual 131, 3) := by decide +kernel
theorem d_Rd_readWords_103 : decode b_Rd_readWords 103 = .ok (.iload_n 1, 1) := by decide +kernel
theorem d_Rd_readWords_104 : decode b_Rd_readWords 104 = .ok (.ifCond .eq 72, 3) := by decide +kernel
theorem d_Rd_readWords_107 : decode b_Rd_readWords 107 = .ok (.aload_n 0, 1) := by decide +kernel
theorem d_Rd_readWords_108 : decode b_Rd_readWords 108 = .ok (.getfield 23, 3) := by decide +kernel
theorem d_Rd_readWords_111 : decode b_Rd_readWords 111 = .ok (.aload_n 0, 1) := by decide +kernel
theorem d_Rd_readWords_112 : decode b_Rd_readWords 112 = .ok (.getfield 12, 3) := by decide +kernel
theorem d_Rd_readWords_115 : decode b_Rd_readWords 115 = .ok (.getfield 128, 3) := by decide +kernel
theorem d_Rd_readWords_118 : decode b_Rd_readWords 118 = .ok (.aload_n 0, 1) := by decide +kernel
theorem d_Rd_readWords_119 : decode b_Rd_readWords 119 = .ok (.getfield 27, 3) := by decide +kernel
theorem d_Rd_readWords_122 : decode b_Rd_readWords 122 = .ok (.getfield 99, 3) := by decide +kernel
theorem d_Rd_readWords_125 : decode b_Rd_readWords 125 = .ok (.invokevirtual 118, 3) := by decide +kernel
theorem d_Rd_readWords_128 : decode b_Rd_readWords 128 = .ok (.aload_n 0, 1) := by decide +kernel
theorem d_Rd_readWords_129 : decode b_Rd_readWords 129 = .ok (.getfield 12, 3) := by decide +kernel
theorem d_Rd_readWords_132 : decode b_Rd_readWords 132 = .ok (.getfield 111, 3) := by decide +kernel
theorem d_Rd_readWords_135 : decode b_Rd_readWords 135 = .ok (.iconst 1, 1) := by decide +kernel
theorem d_Rd_readWords_136 : decode b_Rd_readWords 136 = .ok (.if_icmp .ne 16, 3) := by decide +kernel
theorem d_Rd_readWords_139 : decode b_Rd_readWords 139 = .ok (.aload_n 0, 1) := by decide +kernel
theorem d_Rd_readWords_140 : decode b_Rd_readWords 140 = .ok (.getfield 12, 3) := by decide +kernel
theorem d_Rd_readWords_143 : decode b_Rd_readWords 143 = .ok (.getfield 128, 3) := by decide +kernel
theorem d_Rd_readWords_146 : decode b_Rd_readWords 146 = .ok (.invokestatic 136, 3) := by decide +kernel
theorem d_Rd_readWords_149 : decode b_Rd_readWords 149 = .ok (.goto 13, 3) := by decide +kernel
theorem d_Rd_readWords_152 : decode b_Rd_readWords 152 = .ok (.aload_n 0, 1) := by decide +kernel
theorem d_Rd_readWords_153 : decode b_Rd_readWords 153 = .ok (.getfield 12, 3) := by decide +kernel
theorem d_Rd_readWords_156 : decode b_Rd_readWords 156 = .ok (.getfield 128, 3) := by decide +kernel
theorem d_Rd_readWords_159 : decode b_Rd_readWords 159 = .ok (.invokestatic 140, 3) := by decide +kernel
theorem d_Rd_readWords_162 : decode b_Rd_readWords 162 = .ok (.istore_n 2, 1) := by decide +kernel
theorem d_Rd_readWords_163 : decode b_Rd_readWords 163 = .ok (.iload_n 2, 1) := by decide +kernel
theorem d_Rd_readWords_164 : decode b_Rd_readWords 164 = .ok (.ifCond .ne 5, 3) := by decide +kernel
theorem d_Rd_readWords_167 : decode b_Rd_readWords 167 = .ok (.iconst 5, 1) := by decide +kernel
theorem d_Rd_readWords_168 : decode b_Rd_readWords 168 = .ok (.ireturn, 1) := by decide +kernel
theorem d_Rd_readWords_169 : decode b_Rd_readWords 169 = .ok (.aload_n 0, 1) := by decide +kernel
theorem d_Rd_readWords_170 : decode b_Rd_readWords 170 = .ok (.getfield 23, 3) := by decide +kernel
theorem d_Rd_readWords_173 : decode b_Rd_readWords 173 = .ok (.invokevirtual 89, 3) := by decide +kernel
theorem d_Rd_readWords_176 : decode b_Rd_readWords 176 = .ok (.aload_n 0, 1) := by decide +kernel
theorem d_Rd_readWords_177 : decode b_Rd_readWords 177 = .ok (.getfield 23, 3) := by decide +kernel
theorem d_Rd_readWords_180 : decode b_Rd_readWords 180 = .ok (.invokevirtual 96, 3) := by decide +kernel
theorem d_Rd_readWords_183 : decode b_Rd_readWords 183 = .ok (.ifCond .eq 8, 3) := by decide +kernel
theorem d_Rd_readWords_186 : decode b_Rd_readWords 186 = .ok (.bipush 6, 2) := by decide +kernel
theorem d_Rd_readWords_188 : decode b_Rd_readWords 188 = .ok (.goto 4, 3) := by decide +kernel
theorem d_Rd_readWords_191 : decode b_Rd_readWords 191 = .ok (.iconst 0, 1) := by decide +kernel
theorem d_Rd_readWords_192 : decode b_Rd_readWords 192 = .ok (.ireturn, 1) := by decide +kernel
theorem d_Rd_readMarks_0 : decode b_Rd_readMarks 0 = .ok (.aload_n 0, 1) := by decide +kernel
theorem d_Rd_readMarks_1 : decode b_Rd_readMarks 1 = .ok (.getfield 12, 3) := by decide +kernel
theorem d_Rd_readMarks_4 : decode b_Rd_readMarks 4 = .ok (.iconst 0, 1) := by decide +kernel
theorem d_Rd_readMarks_5 : decode b_Rd_readMarks 5 = .ok (.putfield 143, 3) := by decide +kernel
theorem d_Rd_readMarks_8 : decode b_Rd_readMarks 8 = .ok (.iconst 0, 1) := by decide +kernel
theorem d_Rd_readMarks_9 : decode b_Rd_readMarks 9 = .ok (.istore_n 2, 1) := by decide +kernel
theorem d_Rd_readMarks_10 : decode b_Rd_readMarks 10 = .ok (.iload_n 2, 1) := by decide +kernel
theorem d_Rd_readMarks_11 : decode b_Rd_readMarks 11 = .ok (.iload_n 1, 1) := by decide +kernel
theorem d_Rd_readMarks_12 : decode b_Rd_readMarks 12 = .ok (.invokestatic 146, 3) := by decide +kernel
theorem d_Rd_readMarks_15 : decode b_Rd_readMarks 15 = .ok (.if_icmp .gt 55, 3) := by decide +kernel
theorem d_Rd_readMarks_18 : decode b_Rd_readMarks 18 = .ok (.aload_n 0, 1) := by decide +kernel
theorem d_Rd_readMarks_19 : decode b_Rd_readMarks 19 = .ok (.iload_n 1, 1) := by decide +kernel
theorem d_Rd_readMarks_20 : decode b_Rd_readMarks 20 = .ok (.invokevirtual 150, 3) := by decide +kernel
theorem d_Rd_readMarks_23 : decode b_Rd_readMarks 23 = .ok (.istore_n 3, 1) := by decide +kernel
theorem d_Rd_readMarks_24 : decode b_Rd_readMarks 24 = .ok (.iload_n 3, 1) := by decide +kernel
theorem d_Rd_readMarks_25 : decode b_Rd_readMarks 25 = .ok (.ifCond .ne 5, 3) := by decide +kernel
theorem d_Rd_readMarks_28 : decode b_Rd_readMarks 28 = .ok (.iconst 1, 1) := by decide +kernel
theorem d_Rd_readMarks_29 : decode b_Rd_readMarks 29 = .ok (.ireturn, 1) := by decide +kernel
theorem d_Rd_readMarks_30 : decode b_Rd_readMarks 30 = .ok (.aload_n 0, 1) := by decide +kernel
theorem d_Rd_readMarks_31 : decode b_Rd_readMarks 31 = .ok (.getfield 12, 3) := by decide +kernel
theorem d_Rd_readMarks_34 : decode b_Rd_readMarks 34 = .ok (.getfield 143, 3) := by decide +kernel
theorem d_Rd_readMarks_37 : decode b_Rd_readMarks 37 = .ok (.iload_n 3, 1) := by decide +kernel
theorem d_Rd_readMarks_38 : decode b_Rd_readMarks 38 = .ok (.iand, 1) := by decide +kernel
theorem d_Rd_readMarks_39 : decode b_Rd_readMarks 39 = .ok (.ifCond .eq 5, 3) := by decide +kernel
theorem d_Rd_readMarks_42 : decode b_Rd_readMarks 42 = .ok (.iconst 0, 1) := by decide +kernel
theorem d_Rd_readMarks_43 : decode b_Rd_readMarks 43 = .ok (.ireturn, 1) := by decide +kernel
theorem d_Rd_readMarks_44 : decode b_Rd_readMarks 44 = .ok (.aload_n 0, 1) := by decide +kernel
theorem d_Rd_readMarks_45 : decode b_Rd_readMarks 45 = .ok (.getfield 12, 3) := by decide +kernel
theorem d_Rd_readMarks_48 : decode b_Rd_readMarks 48 = .ok (.dup, 1) := by decide +kernel
theorem d_Rd_readMarks_49 : decode b_Rd_readMarks 49 = .ok (.getfield 143, 3) := by decide +kernel
theorem d_Rd_readMarks_52 : decode b_Rd_readMarks 52 = .ok (.iload_n 3, 1) := by decide +kernel
theorem d_Rd_readMarks_53 : decode b_Rd_readMarks 53 = .ok (.ior, 1) := by decide +kernel
theorem d_Rd_readMarks_54 : decode b_Rd_readMarks 54 = .ok (.putfield 143, 3) := by decide +kernel
theorem d_Rd_readMarks_57 : decode b_Rd_readMarks 57 = .ok (.aload_n 0, 1) := by decide +kernel
theorem d_Rd_readMarks_58 : decode b_Rd_readMarks 58 = .ok (.getfield 23, 3) := by decide +kernel
theorem d_Rd_readMarks_61 : decode b_Rd_readMarks 61 = .ok (.invokevirtual 89, 3) := by decide +kernel
theorem d_Rd_readMarks_64 : decode b_Rd_readMarks 64 = .ok (.iinc 2 1, 3) := by decide +kernel
theorem d_Rd_readMarks_67 : decode b_Rd_readMarks 67 = .ok (.goto (-57), 3) := by decide +kernel
theorem d_Rd_readMarks_70 : decode b_Rd_readMarks 70 = .ok (.iconst 1, 1) := by decide +kernel
theorem d_Rd_readMarks_71 : decode b_Rd_readMarks 71 = .ok (.ireturn, 1) := by decide +kernel
theorem d_Rd_markHere_0 : decode b_Rd_markHere 0 = .ok (.iconst 0, 1) := by decide +kernel
theorem d_Rd_markHere_1 : decode b_Rd_markHere 1 = .ok (.istore_n 2, 1) := by decide +kernel
theorem d_Rd_markHere_2 : decode b_Rd_markHere 2 = .ok (.iload_n 2, 1) := by decide +kernel
theorem d_Rd_markHere_3 : decode b_Rd_markHere 3 = .ok (.iload_n 1, 1) := by decide +kernel
theorem d_Rd_markHere_4 : decode b_Rd_markHere 4 = .ok (.invokestatic 146, 3) := by decide +kernel
theorem d_Rd_markHere_7 : decode b_Rd_markHere 7 = .ok (.if_icmp .ge 28, 3) := by decide +kernel
theorem d_Rd_markHere_10 : decode b_Rd_markHere 10 = .ok (.aload_n 0, 1) := by decide +kernel
theorem d_Rd_markHere_11 : decode b_Rd_markHere 11 = .ok (.getfield 23, 3) := by decide +kernel
theorem d_Rd_markHere_14 : decode b_Rd_markHere 14 = .ok (.iload_n 1, 1) := by decide +kernel
theorem d_Rd_markHere_15 : decode b_Rd_markHere 15 = .ok (.iload_n 2, 1) := by decide +kernel
theorem d_Rd_markHere_16 : decode b_Rd_markHere 16 = .ok (.invokestatic 153, 3) := by decide +kernel
theorem d_Rd_markHere_19 : decode b_Rd_markHere 19 = .ok (.invokevirtual 85, 3) := by decide +kernel
theorem d_Rd_markHere_22 : decode b_Rd_markHere 22 = .ok (.ifCond .eq 7, 3) := by decide +kernel
theorem d_Rd_markHere_25 : decode b_Rd_markHere 25 = .ok (.iconst 1, 1) := by decide +kernel
theorem d_Rd_markHere_26 : decode b_Rd_markHere 26 = .ok (.iload_n 2, 1) := by decide +kernel
theorem d_Rd_markHere_27 : decode b_Rd_markHere 27 = .ok (.ishl, 1) := by decide +kernel
theorem d_Rd_markHere_28 : decode b_Rd_markHere 28 = .ok (.ireturn, 1) := by decide +kernel
theorem d_Rd_markHere_29 : decode b_Rd_markHere 29 = .ok (.iinc 2 1, 3) := by decide +kernel
theorem d_Rd_markHere_32 : decode b_Rd_markHere 32 = .ok (.goto (-30), 3) := by decide +kernel
theorem d_Rd_markHere_35 : decode b_Rd_markHere 35 = .ok (.iconst 0, 1) := by decide +kernel
theorem d_Rd_markHere_36 : decode b_Rd_markHere 36 = .ok (.ireturn, 1) := by decide +kernel
theorem d_Rd_kindHere_0 : decode b_Rd_kindHere 0 = .ok (.iconst 0, 1) := by decide +kernel
theorem d_Rd_kindHere_1 : decode b_Rd_kindHere 1 = .ok (.istore_n 2, 1) := by decide +kernel
theorem d_Rd_kindHere_2 : decode b_Rd_kindHere 2 = .ok (.iload_n 2, 1) := by decide +kernel
theorem d_Rd_kindHere_3 : decode b_Rd_kindHere 3 = .ok (.iload_n 1, 1) := by decide +kernel
theorem d_Rd_kindHere_4 : decode b_Rd_kindHere 4 = .ok (.invokestatic 157, 3) := by decide +kernel
theorem d_Rd_kindHere_7 : decode b_Rd_kindHere 7 = .ok (.if_icmp .ge 26, 3) := by decide +kernel
theorem d_Rd_kindHere_10 : decode b_Rd_kindHere 10 = .ok (.aload_n 0, 1) := by decide +kernel
theorem d_Rd_kindHere_11 : decode b_Rd_kindHere 11 = .ok (.getfield 23, 3) := by decide +kernel
theorem d_Rd_kindHere_14 : decode b_Rd_kindHere 14 = .ok (.iload_n 1, 1) := by decide +kernel
theorem d_Rd_kindHere_15 : decode b_Rd_kindHere 15 = .ok (.iload_n 2, 1) := by decide +kernel
theorem d_Rd_kindHere_16 : decode b_Rd_kindHere 16 = .ok (.invokestatic 160, 3) := by decide +kernel
theorem d_Rd_kindHere_19 : decode b_Rd_kindHere 19 = .ok (.invokevirtual 85, 3) := by decide +kernel
theorem d_Rd_kindHere_22 : decode b_Rd_kindHere 22 = .ok (.ifCond .eq 5, 3) := by decide +kernel
theorem d_Rd_kindHere_25 : decode b_Rd_kindHere 25 = .ok (.iload_n 2, 1) := by decide +kernel
theorem d_Rd_kindHere_26 : decode b_Rd_kindHere 26 = .ok (.ireturn, 1) := by decide +kernel
theorem d_Rd_kindHere_27 : decode b_Rd_kindHere 27 = .ok (.iinc 2 1, 3) := by decide +kernel
theorem d_Rd_kindHere_30 : decode b_Rd_kindHere 30 = .ok (.goto (-28), 3) := by decide +kernel
theorem d_Rd_kindHere_33 : decode b_Rd_kindHere 33 = .ok (.iconst (-1), 1) := by decide +kernel
theorem d_Rd_kindHere_34 : decode b_Rd_kindHere 34 = .ok (.ireturn, 1) := by decide +kernel
theorem d_Rd_takeMember_0 : decode b_Rd_takeMember 0 = .ok (.aload_n 0, 1) := by decide +kernel
theorem d_Rd_takeMember_1 : decode b_Rd_takeMember 1 = .ok (.getfield 179, 3) := by decide +kernel
theorem d_Rd_takeMember_4 : decode b_Rd_takeMember 4 = .ok (.ifnonnull 6, 3) := by decide +kernel
theorem d_Rd_takeMember_7 : decode b_Rd_takeMember 7 = .ok (.bipush 9, 2) := by decide +kernel
theorem d_Rd_takeMember_9 : decode b_Rd_takeMember 9 = .ok (.ireturn, 1) := by decide +kernel
theorem d_Rd_takeMember_10 : decode b_Rd_takeMember 10 = .ok (.aload_n 0, 1) := by decide +kernel
theorem d_Rd_takeMember_11 : decode b_Rd_takeMember 11 = .ok (.getfield 179, 3) := by decide +kernel
theorem d_Rd_takeMember_14 : decode b_Rd_takeMember 14 = .ok (.getfield 183, 3) := by decide +kernel
theorem d_Rd_takeMember_17 : decode b_Rd_takeMember 17 = .ok (.aload_n 0, 1) := by decide +kernel
theorem d_Rd_takeMember_18 : decode b_Rd_takeMember 18 = .ok (.getfield 12, 3) := by decide +kernel
theorem d_Rd_takeMember_21 : decode b_Rd_takeMember 21 = .ok (.invokevirtual 188, 3) := by decide +kernel
theorem d_Rd_takeMember_24 : decode b_Rd_takeMember 24 = .ok (.ifnull 6, 3) := by decide +kernel
theorem d_Rd_takeMember_27 : decode b_Rd_takeMember 27 = .ok (.bipush 7, 2) := by decide +kernel
theorem d_Rd_takeMember_29 : decode b_Rd_takeMember 29 = .ok (.ireturn, 1) := by decide +kernel
theorem d_Rd_takeMember_30 : decode b_Rd_takeMember 30 = .ok (.aload_n 0, 1) := by decide +kernel
theorem d_Rd_takeMember_31 : decode b_Rd_takeMember 31 = .ok (.getfield 179, 3) := by decide +kernel
theorem d_Rd_takeMember_34 : decode b_Rd_takeMember 34 = .ok (.getfield 183, 3) := by decide +kernel
theorem d_Rd_takeMember_37 : decode b_Rd_takeMember 37 = .ok (.invokevirtual 170, 3) := by decide +kernel
theorem d_Rd_takeMember_40 : decode b_Rd_takeMember 40 = .ok (.ifCond .eq 6, 3) := by decide +kernel
theorem d_Rd_takeMember_43 : decode b_Rd_takeMember 43 = .ok (.bipush 8, 2) := by decide +kernel
theorem d_Rd_takeMember_45 : decode b_Rd_takeMember 45 = .ok (.ireturn, 1) := by decide +kernel
theorem d_Rd_takeMember_46 : decode b_Rd_takeMember 46 = .ok (.aload_n 0, 1) := by decide +kernel
theorem d_Rd_takeMember_47 : decode b_Rd_takeMember 47 = .ok (.getfield 179, 3) := by decide +kernel
theorem d_Rd_takeMember_50 : decode b_Rd_takeMember 50 = .ok (.aload_n 0, 1) := by decide +kernel
theorem d_Rd_takeMember_51 : decode b_Rd_takeMember 51 = .ok (.getfield 12, 3) := by decide +kernel
theorem d_Rd_takeMember_54 : decode b_Rd_takeMember 54 = .ok (.invokevirtual 192, 3) := by decide +kernel
theorem d_Rd_takeMember_57 : decode b_Rd_takeMember 57 = .ok (.iconst 0, 1) := by decide +kernel
theorem d_Rd_takeMember_58 : decode b_Rd_takeMember 58 = .ok (.ireturn, 1) := by decide +kernel
theorem d_AL_size_0 : decode b_AL_size 0 = .ok (.aload_n 0, 1) := by decide +kernel
theorem d_AL_size_1 : decode b_AL_size 1 = .ok (.getfield 48, 3) := by decide +kernel
theorem d_AL_size_4 : decode b_AL_size 4 = .ok (.ireturn, 1) := by decide +kernel
theorem d_AL_get_0 : decode b_AL_get 0 = .ok (.iload_n 1, 1) := by decide +kernel
theorem d_AL_get_1 : decode b_AL_get 1 = .ok (.aload_n 0, 1) := by decide +kernel
theorem d_AL_get_2 : decode b_AL_get 2 = .ok (.getfield 48, 3) := by decide +kernel
theorem d_AL_get_5 : decode b_AL_get 5 = .ok (.invokestatic 118, 3) := by decide +kernel
theorem d_AL_get_8 : decode b_AL_get 8 = .ok (.pop, 1) := by decide +kernel
theorem d_AL_get_9 : decode b_AL_get 9 = .ok (.aload_n 0, 1) := by decide +kernel
theorem d_AL_get_10 : decode b_AL_get 10 = .ok (.iload_n 1, 1) := by decide +kernel
theorem d_AL_get_11 : decode b_AL_get 11 = .ok (.invokevirtual 123, 3) := by decide +kernel
theorem d_AL_get_14 : decode b_AL_get 14 = .ok (.areturn, 1) := by decide +kernel
theorem d_Obs_checkIndex_0 : decode b_Obs_checkIndex 0 = .ok (.iload_n 0, 1) := by decide +kernel
theorem d_Obs_checkIndex_1 : decode b_Obs_checkIndex 1 = .ok (.iload_n 1, 1) := by decide +kernel
theorem d_Obs_checkIndex_2 : decode b_Obs_checkIndex 2 = .ok (.aconst_null, 1) := by decide +kernel
theorem d_Obs_checkIndex_3 : decode b_Obs_checkIndex 3 = .ok (.invokestatic 105, 3) := by decide +kernel
theorem d_Obs_checkIndex_6 : decode b_Obs_checkIndex 6 = .ok (.ireturn, 1) := by decide +kernel
theorem d_AL_elementData_0 : decode b_AL_elementData 0 = .ok (.aload_n 0, 1) := by decide +kernel
theorem d_AL_elementData_1 : decode b_AL_elementData 1 = .ok (.getfield 9, 3) := by decide +kernel
theorem d_AL_elementData_4 : decode b_AL_elementData 4 = .ok (.iload_n 1, 1) := by decide +kernel
theorem d_AL_elementData_5 : decode b_AL_elementData 5 = .ok (.aaload, 1) := by decide +kernel
theorem d_AL_elementData_6 : decode b_AL_elementData 6 = .ok (.areturn, 1) := by decide +kernel
theorem d_AL_remove_0 : decode b_AL_remove 0 = .ok (.iload_n 1, 1) := by decide +kernel
theorem d_AL_remove_1 : decode b_AL_remove 1 = .ok (.aload_n 0, 1) := by decide +kernel
theorem d_AL_remove_2 : decode b_AL_remove 2 = .ok (.getfield 48, 3) := by decide +kernel
theorem d_AL_remove_5 : decode b_AL_remove 5 = .ok (.invokestatic 118, 3) := by decide +kernel
theorem d_AL_remove_8 : decode b_AL_remove 8 = .ok (.pop, 1) := by decide +kernel
theorem d_AL_remove_9 : decode b_AL_remove 9 = .ok (.aload_n 0, 1) := by decide +kernel
theorem d_AL_remove_10 : decode b_AL_remove 10 = .ok (.getfield 9, 3) := by decide +kernel
theorem d_AL_remove_13 : decode b_AL_remove 13 = .ok (.astore_n 2, 1) := by decide +kernel
theorem d_AL_remove_14 : decode b_AL_remove 14 = .ok (.aload_n 2, 1) := by decide +kernel
theorem d_AL_remove_15 : decode b_AL_remove 15 = .ok (.iload_n 1, 1) := by decide +kernel
theorem d_AL_remove_16 : decode b_AL_remove 16 = .ok (.aaload, 1) := by decide +kernel
theorem d_AL_remove_17 : decode b_AL_remove 17 = .ok (.astore_n 3, 1) := by decide +kernel
theorem d_AL_remove_18 : decode b_AL_remove 18 = .ok (.aload_n 0, 1) := by decide +kernel
theorem d_AL_remove_19 : decode b_AL_remove 19 = .ok (.aload_n 2, 1) := by decide +kernel
theorem d_AL_remove_20 : decode b_AL_remove 20 = .ok (.iload_n 1, 1) := by decide +kernel
theorem d_AL_remove_21 : decode b_AL_remove 21 = .ok (.invokevirtual 144, 3) := by decide +kernel
theorem d_AL_remove_24 : decode b_AL_remove 24 = .ok (.aload_n 3, 1) := by decide +kernel
theorem d_AL_remove_25 : decode b_AL_remove 25 = .ok (.areturn, 1) := by decide +kernel
theorem d_AL_fastRemove_0 : decode b_AL_fastRemove 0 = .ok (.aload_n 0, 1) := by decide +kernel
theorem d_AL_fastRemove_1 : decode b_AL_fastRemove 1 = .ok (.dup, 1) := by decide +kernel
theorem d_AL_fastRemove_2 : decode b_AL_fastRemove 2 = .ok (.getfield 63, 3) := by decide +kernel
theorem d_AL_fastRemove_5 : decode b_AL_fastRemove 5 = .ok (.iconst 1, 1) := by decide +kernel
theorem d_AL_fastRemove_6 : decode b_AL_fastRemove 6 = .ok (.iadd, 1) := by decide +kernel
theorem d_AL_fastRemove_7 : decode b_AL_fastRemove 7 = .ok (.putfield 63, 3) := by decide +kernel
theorem d_AL_fastRemove_10 : decode b_AL_fastRemove 10 = .ok (.aload_n 0, 1) := by decide +kernel
theorem d_AL_fastRemove_11 : decode b_AL_fastRemove 11 = .ok (.getfield 48, 3) := by decide +kernel
theorem d_AL_fastRemove_14 : decode b_AL_fastRemove 14 = .ok (.iconst 1, 1) := by decide +kernel
theorem d_AL_fastRemove_15 : decode b_AL_fastRemove 15 = .ok (.isub, 1) := by decide +kernel
theorem d_AL_fastRemove_16 : decode b_AL_fastRemove 16 = .ok (.dup, 1) := by decide +kernel
theorem d_AL_fastRemove_17 : decode b_AL_fastRemove 17 = .ok (.istore_n 3, 1) := by decide +kernel
theorem d_AL_fastRemove_18 : decode b_AL_fastRemove 18 = .ok (.iload_n 2, 1) := by decide +kernel
theorem d_AL_fastRemove_19 : decode b_AL_fastRemove 19 = .ok (.if_icmp .le 15, 3) := by decide +kernel
theorem d_AL_fastRemove_22 : decode b_AL_fastRemove 22 = .ok (.aload_n 1, 1) := by decide +kernel
theorem d_AL_fastRemove_23 : decode b_AL_fastRemove 23 = .ok (.iload_n 2, 1) := by decide +kernel
theorem d_AL_fastRemove_24 : decode b_AL_fastRemove 24 = .ok (.iconst 1, 1) := by decide +kernel
theorem d_AL_fastRemove_25 : decode b_AL_fastRemove 25 = .ok (.iadd, 1) := by decide +kernel
theorem d_AL_fastRemove_26 : decode b_AL_fastRemove 26 = .ok (.aload_n 1, 1) := by decide +kernel
theorem d_AL_fastRemove_27 : decode b_AL_fastRemove 27 = .ok (.iload_n 2, 1) := by decide +kernel
theorem d_AL_fastRemove_28 : decode b_AL_fastRemove 28 = .ok (.iload_n 3, 1) := by decide +kernel
theorem d_AL_fastRemove_29 : decode b_AL_fastRemove 29 = .ok (.iload_n 2, 1) := by decide +kernel
theorem d_AL_fastRemove_30 : decode b_AL_fastRemove 30 = .ok (.isub, 1) := by decide +kernel
theorem d_AL_fastRemove_31 : decode b_AL_fastRemove 31 = .ok (.invokestatic 112, 3) := by decide +kernel
theorem d_AL_fastRemove_34 : decode b_AL_fastRemove 34 = .ok (.aload_n 1, 1) := by decide +kernel
theorem d_AL_fastRemove_35 : decode b_AL_fastRemove 35 = .ok (.aload_n 0, 1) := by decide +kernel
theorem d_AL_fastRemove_36 : decode b_AL_fastRemove 36 = .ok (.iload_n 3, 1) := by decide +kernel
theorem d_AL_fastRemove_37 : decode b_AL_fastRemove 37 = .ok (.dup_x1, 1) := by decide +kernel
theorem d_AL_fastRemove_38 : decode b_AL_fastRemove 38 = .ok (.putfield 48, 3) := by decide +kernel
theorem d_AL_fastRemove_41 : decode b_AL_fastRemove 41 = .ok (.aconst_null, 1) := by decide +kernel
theorem d_AL_fastRemove_42 : decode b_AL_fastRemove 42 = .ok (.aastore, 1) := by decide +kernel
theorem d_AL_fastRemove_43 : decode b_AL_fastRemove 43 = .ok (.return_, 1) := by decide +kernel
theorem d_AL_add_0 : decode b_AL_add 0 = .ok (.aload_n 0, 1) := by decide +kernel
theorem d_AL_add_1 : decode b_AL_add 1 = .ok (.iload_n 1, 1) := by decide +kernel
theorem d_AL_add_2 : decode b_AL_add 2 = .ok (.invokevirtual 135, 3) := by decide +kernel
theorem d_AL_add_5 : decode b_AL_add 5 = .ok (.aload_n 0, 1) := by decide +kernel
theorem d_AL_add_6 : decode b_AL_add 6 = .ok (.dup, 1) := by decide +kernel
theorem d_AL_add_7 : decode b_AL_add 7 = .ok (.getfield 63, 3) := by decide +kernel
theorem d_AL_add_10 : decode b_AL_add 10 = .ok (.iconst 1, 1) := by decide +kernel
theorem d_AL_add_11 : decode b_AL_add 11 = .ok (.iadd, 1) := by decide +kernel
theorem d_AL_add_12 : decode b_AL_add 12 = .ok (.putfield 63, 3) := by decide +kernel
theorem d_AL_add_15 : decode b_AL_add 15 = .ok (.aload_n 0, 1) := by decide +kernel
theorem d_AL_add_16 : decode b_AL_add 16 = .ok (.getfield 48, 3) := by decide +kernel
theorem d_AL_add_19 : decode b_AL_add 19 = .ok (.dup, 1) := by decide +kernel
theorem d_AL_add_20 : decode b_AL_add 20 = .ok (.istore_n 3, 1) := by decide +kernel
theorem d_AL_add_21 : decode b_AL_add 21 = .ok (.aload_n 0, 1) := by decide +kernel
theorem d_AL_add_22 : decode b_AL_add 22 = .ok (.getfield 9, 3) := by decide +kernel
theorem d_AL_add_25 : decode b_AL_add 25 = .ok (.dup, 1) := by decide +kernel
theorem d_AL_add_26 : decode b_AL_add 26 = .ok (.astore 4, 2) := by decide +kernel
theorem d_AL_add_28 : decode b_AL_add 28 = .ok (.arraylength, 1) := by decide +kernel
theorem d_AL_add_29 : decode b_AL_add 29 = .ok (.if_icmp .ne 9, 3) := by decide +kernel
theorem d_AL_add_32 : decode b_AL_add 32 = .ok (.aload_n 0, 1) := by decide +kernel
theorem d_AL_add_33 : decode b_AL_add 33 = .ok (.invokevirtual 129, 3) := by decide +kernel
theorem d_AL_add_36 : decode b_AL_add 36 = .ok (.astore 4, 2) := by decide +kernel
theorem d_AL_add_38 : decode b_AL_add 38 = .ok (.aload 4, 2) := by decide +kernel
theorem d_AL_add_40 : decode b_AL_add 40 = .ok (.iload_n 1, 1) := by decide +kernel
theorem d_AL_add_41 : decode b_AL_add 41 = .ok (.aload 4, 2) := by decide +kernel
theorem d_AL_add_43 : decode b_AL_add 43 = .ok (.iload_n 1, 1) := by decide +kernel
theorem d_AL_add_44 : decode b_AL_add 44 = .ok (.iconst 1, 1) := by decide +kernel
theorem d_AL_add_45 : decode b_AL_add 45 = .ok (.iadd, 1) := by decide +kernel
theorem d_AL_add_46 : decode b_AL_add 46 = .ok (.iload_n 3, 1) := by decide +kernel
theorem d_AL_add_47 : decode b_AL_add 47 = .ok (.iload_n 1, 1) := by decide +kernel
theorem d_AL_add_48 : decode b_AL_add 48 = .ok (.isub, 1) := by decide +kernel
theorem d_AL_add_49 : decode b_AL_add 49 = .ok (.invokestatic 112, 3) := by decide +kernel
theorem d_AL_add_52 : decode b_AL_add 52 = .ok (.aload 4, 2) := by decide +kernel
theorem d_AL_add_54 : decode b_AL_add 54 = .ok (.iload_n 1, 1) := by decide +kernel
theorem d_AL_add_55 : decode b_AL_add 55 = .ok (.aload_n 2, 1) := by decide +kernel
theorem d_AL_add_56 : decode b_AL_add 56 = .ok (.aastore, 1) := by decide +kernel
theorem d_AL_add_57 : decode b_AL_add 57 = .ok (.aload_n 0, 1) := by decide +kernel
theorem d_AL_add_58 : decode b_AL_add 58 = .ok (.iload_n 3, 1) := by decide +kernel
theorem d_AL_add_59 : decode b_AL_add 59 = .ok (.iconst 1, 1) := by decide +kernel
theorem d_AL_add_60 : decode b_AL_add 60 = .ok (.iadd, 1) := by decide +kernel
theorem d_AL_add_61 : decode b_AL_add 61 = .ok (.putfield 48, 3) := by decide +kernel
theorem d_AL_add_64 : decode b_AL_add 64 = .ok (.return_, 1) := by decide +kernel
theorem d_AL_rangeCheckForAdd_0 : decode b_AL_rangeCheckForAdd 0 = .ok (.iload_n 1, 1) := by decide +kernel
theorem d_AL_rangeCheckForAdd_1 : decode b_AL_rangeCheckForAdd 1 = .ok (.aload_n 0, 1) := by decide +kernel
theorem d_AL_rangeCheckForAdd_2 : decode b_AL_rangeCheckForAdd 2 = .ok (.getfield 48, 3) := by decide +kernel
theorem d_AL_rangeCheckForAdd_5 : decode b_AL_rangeCheckForAdd 5 = .ok (.if_icmp .gt 7, 3) := by decide +kernel
theorem d_AL_rangeCheckForAdd_8 : decode b_AL_rangeCheckForAdd 8 = .ok (.iload_n 1, 1) := by decide +kernel
theorem d_AL_rangeCheckForAdd_9 : decode b_AL_rangeCheckForAdd 9 = .ok (.ifCond .ge 16, 3) := by decide +kernel
theorem d_AL_rangeCheckForAdd_12 : decode b_AL_rangeCheckForAdd 12 = .ok (.new 187, 3) := by decide +kernel
theorem d_AL_rangeCheckForAdd_15 : decode b_AL_rangeCheckForAdd 15 = .ok (.dup, 1) := by decide +kernel
theorem d_AL_rangeCheckForAdd_16 : decode b_AL_rangeCheckForAdd 16 = .ok (.aload_n 0, 1) := by decide +kernel
theorem d_AL_rangeCheckForAdd_17 : decode b_AL_rangeCheckForAdd 17 = .ok (.iload_n 1, 1) := by decide +kernel
theorem d_AL_rangeCheckForAdd_18 : decode b_AL_rangeCheckForAdd 18 = .ok (.invokevirtual 198, 3) := by decide +kernel
theorem d_AL_rangeCheckForAdd_21 : decode b_AL_rangeCheckForAdd 21 = .ok (.invokespecial 193, 3) := by decide +kernel
theorem d_AL_rangeCheckForAdd_24 : decode b_AL_rangeCheckForAdd 24 = .ok (.athrow, 1) := by decide +kernel
theorem d_AL_rangeCheckForAdd_25 : decode b_AL_rangeCheckForAdd 25 = .ok (.return_, 1) := by decide +kernel
theorem d_AL_grow_0 : decode b_AL_grow 0 = .ok (.aload_n 0, 1) := by decide +kernel
theorem d_AL_grow_1 : decode b_AL_grow 1 = .ok (.aload_n 0, 1) := by decide +kernel
theorem d_AL_grow_2 : decode b_AL_grow 2 = .ok (.getfield 48, 3) := by decide +kernel
theorem d_AL_grow_5 : decode b_AL_grow 5 = .ok (.iconst 1, 1) := by decide +kernel
theorem d_AL_grow_6 : decode b_AL_grow 6 = .ok (.iadd, 1) := by decide +kernel
theorem d_AL_grow_7 : decode b_AL_grow 7 = .ok (.invokevirtual 69, 3) := by decide +kernel
theorem d_AL_grow_10 : decode b_AL_grow 10 = .ok (.areturn, 1) := by decide +kernel
theorem d_AL_grow2_0 : decode b_AL_grow2 0 = .ok (.aload_n 0, 1) := by decide +kernel
theorem d_AL_grow2_1 : decode b_AL_grow2 1 = .ok (.getfield 9, 3) := by decide +kernel
theorem d_AL_grow2_4 : decode b_AL_grow2 4 = .ok (.arraylength, 1) := by decide +kernel
theorem d_AL_grow2_5 : decode b_AL_grow2 5 = .ok (.istore_n 2, 1) := by decide +kernel
theorem d_AL_grow2_6 : decode b_AL_grow2 6 = .ok (.iload_n 2, 1) := by decide +kernel
theorem d_AL_grow2_7 : decode b_AL_grow2 7 = .ok (.ifCond .gt 13, 3) := by decide +kernel
theorem d_AL_grow2_10 : decode b_AL_grow2 10 = .ok (.aload_n 0, 1) := by decide +kernel
theorem d_AL_grow2_11 : decode b_AL_grow2 11 = .ok (.getfield 9, 3) := by decide +kernel
theorem d_AL_grow2_14 : decode b_AL_grow2 14 = .ok (.getstatic 39, 3) := by decide +kernel
theorem d_AL_grow2_17 : decode b_AL_grow2 17 = .ok (.if_acmp .eq 28, 3) := by decide +kernel
theorem d_AL_grow2_20 : decode b_AL_grow2 20 = .ok (.iload_n 2, 1) := by decide +kernel
theorem d_AL_grow2_21 : decode b_AL_grow2 21 = .ok (.iload_n 1, 1) := by decide +kernel
theorem d_AL_grow2_22 : decode b_AL_grow2 22 = .ok (.iload_n 2, 1) := by decide +kernel
theorem d_AL_grow2_23 : decode b_AL_grow2 23 = .ok (.isub, 1) := by decide +kernel
theorem d_AL_grow2_24 : decode b_AL_grow2 24 = .ok (.iload_n 2, 1) := by decide +kernel
theorem d_AL_grow2_25 : decode b_AL_grow2 25 = .ok (.iconst 1, 1) := by decide +kernel
theorem d_AL_grow2_26 : decode b_AL_grow2 26 = .ok (.ishr, 1) := by decide +kernel
theorem d_AL_grow2_27 : decode b_AL_grow2 27 = .ok (.invokestatic 73, 3) := by decide +kernel
theorem d_AL_grow2_30 : decode b_AL_grow2 30 = .ok (.istore_n 3, 1) := by decide +kernel
theorem d_AL_grow2_31 : decode b_AL_grow2 31 = .ok (.aload_n 0, 1) := by decide +kernel
theorem d_AL_grow2_32 : decode b_AL_grow2 32 = .ok (.aload_n 0, 1) := by decide +kernel
theorem d_AL_grow2_33 : decode b_AL_grow2 33 = .ok (.getfield 9, 3) := by decide +kernel
theorem d_AL_grow2_36 : decode b_AL_grow2 36 = .ok (.iload_n 3, 1) := by decide +kernel
theorem d_AL_grow2_37 : decode b_AL_grow2 37 = .ok (.invokestatic 66, 3) := by decide +kernel
theorem d_AL_grow2_40 : decode b_AL_grow2 40 = .ok (.dup_x1, 1) := by decide +kernel
theorem d_AL_grow2_41 : decode b_AL_grow2 41 = .ok (.putfield 9, 3) := by decide +kernel
theorem d_AL_grow2_44 : decode b_AL_grow2 44 = .ok (.areturn, 1) := by decide +kernel
theorem d_AL_grow2_45 : decode b_AL_grow2 45 = .ok (.aload_n 0, 1) := by decide +kernel
theorem d_AL_grow2_46 : decode b_AL_grow2 46 = .ok (.bipush 10, 2) := by decide +kernel
theorem d_AL_grow2_48 : decode b_AL_grow2 48 = .ok (.iload_n 1, 1) := by decide +kernel
theorem d_AL_grow2_49 : decode b_AL_grow2 49 = .ok (.invokestatic 79, 3) := by decide +kernel
theorem d_AL_grow2_52 : decode b_AL_grow2 52 = .ok (.anewarray 7, 3) := by decide +kernel
theorem d_AL_grow2_55 : decode b_AL_grow2 55 = .ok (.dup_x1, 1) := by decide +kernel
theorem d_AL_grow2_56 : decode b_AL_grow2 56 = .ok (.putfield 9, 3) := by decide +kernel
theorem d_AL_grow2_59 : decode b_AL_grow2 59 = .ok (.areturn, 1) := by decide +kernel
theorem d_ASu_newLength_0 : decode b_ASu_newLength 0 = .ok (.iload_n 0, 1) := by decide +kernel
theorem d_ASu_newLength_1 : decode b_ASu_newLength 1 = .ok (.iload_n 1, 1) := by decide +kernel
theorem d_ASu_newLength_2 : decode b_ASu_newLength 2 = .ok (.iload_n 2, 1) := by decide +kernel
theorem d_ASu_newLength_3 : decode b_ASu_newLength 3 = .ok (.invokestatic 194, 3) := by decide +kernel
theorem d_ASu_newLength_6 : decode b_ASu_newLength 6 = .ok (.iadd, 1) := by decide +kernel
theorem d_ASu_newLength_7 : decode b_ASu_newLength 7 = .ok (.istore_n 3, 1) := by decide +kernel
theorem d_ASu_newLength_8 : decode b_ASu_newLength 8 = .ok (.iconst 0, 1) := by decide +kernel
theorem d_ASu_newLength_9 : decode b_ASu_newLength 9 = .ok (.iload_n 3, 1) := by decide +kernel
theorem d_ASu_newLength_10 : decode b_ASu_newLength 10 = .ok (.if_icmp .ge 11, 3) := by decide +kernel
theorem d_ASu_newLength_13 : decode b_ASu_newLength 13 = .ok (.iload_n 3, 1) := by decide +kernel
theorem d_ASu_newLength_14 : decode b_ASu_newLength 14 = .ok (.ldc 200, 2) := by decide +kernel
theorem d_ASu_newLength_16 : decode b_ASu_newLength 16 = .ok (.if_icmp .gt 5, 3) := by decide +kernel
theorem d_ASu_newLength_19 : decode b_ASu_newLength 19 = .ok (.iload_n 3, 1) := by decide +kernel
theorem d_ASu_newLength_20 : decode b_ASu_newLength 20 = .ok (.ireturn, 1) := by decide +kernel
theorem d_ASu_newLength_21 : decode b_ASu_newLength 21 = .ok (.iload_n 0, 1) := by decide +kernel
theorem d_ASu_newLength_22 : decode b_ASu_newLength 22 = .ok (.iload_n 1, 1) := by decide +kernel
theorem d_ASu_newLength_23 : decode b_ASu_newLength 23 = .ok (.invokestatic 201, 3) := by decide +kernel
theorem d_ASu_newLength_26 : decode b_ASu_newLength 26 = .ok (.ireturn, 1) := by decide +kernel
theorem d_Ma_max_0 : decode b_Ma_max 0 = .ok (.iload_n 0, 1) := by decide +kernel
theorem d_Ma_max_1 : decode b_Ma_max 1 = .ok (.iload_n 1, 1) := by decide +kernel
theorem d_Ma_max_2 : decode b_Ma_max 2 = .ok (.if_icmp .lt 7, 3) := by decide +kernel
theorem d_Ma_max_5 : decode b_Ma_max 5 = .ok (.iload_n 0, 1) := by decide +kernel
theorem d_Ma_max_6 : decode b_Ma_max 6 = .ok (.goto 4, 3) := by decide +kernel
theorem d_Ma_max_9 : decode b_Ma_max 9 = .ok (.iload_n 1, 1) := by decide +kernel
theorem d_Ma_max_10 : decode b_Ma_max 10 = .ok (.ireturn, 1) := by decide +kernel
theorem d_ASu_hugeLength_0 : decode b_ASu_hugeLength 0 = .ok (.iload_n 0, 1) := by decide +kernel
theorem d_ASu_hugeLength_1 : decode b_ASu_hugeLength 1 = .ok (.iload_n 1, 1) := by decide +kernel
theorem d_ASu_hugeLength_2 : decode b_ASu_hugeLength 2 = .ok (.iadd, 1) := by decide +kernel
theorem d_ASu_hugeLength_3 : decode b_ASu_hugeLength 3 = .ok (.istore_n 2, 1) := by decide +kernel
theorem d_ASu_hugeLength_4 : decode b_ASu_hugeLength 4 = .ok (.iload_n 2, 1) := by decide +kernel
theorem d_ASu_hugeLength_5 : decode b_ASu_hugeLength 5 = .ok (.ifCond .ge 44, 3) := by decide +kernel
theorem d_ASu_hugeLength_8 : decode b_ASu_hugeLength 8 = .ok (.new 204, 3) := by decide +kernel
theorem d_ASu_hugeLength_11 : decode b_ASu_hugeLength 11 = .ok (.dup, 1) := by decide +kernel
theorem d_ASu_hugeLength_12 : decode b_ASu_hugeLength 12 = .ok (.new 89, 3) := by decide +kernel
theorem d_ASu_hugeLength_15 : decode b_ASu_hugeLength 15 = .ok (.dup, 1) := by decide +kernel
theorem d_ASu_hugeLength_16 : decode b_ASu_hugeLength 16 = .ok (.invokespecial 91, 3) := by decide +kernel
theorem d_ASu_hugeLength_19 : decode b_ASu_hugeLength 19 = .ok (.ldc 206, 2) := by decide +kernel
theorem d_ASu_hugeLength_21 : decode b_ASu_hugeLength 21 = .ok (.invokevirtual 94, 3) := by decide +kernel
theorem d_ASu_hugeLength_24 : decode b_ASu_hugeLength 24 = .ok (.iload_n 0, 1) := by decide +kernel
theorem d_ASu_hugeLength_25 : decode b_ASu_hugeLength 25 = .ok (.invokevirtual 98, 3) := by decide +kernel
theorem d_ASu_hugeLength_28 : decode b_ASu_hugeLength 28 = .ok (.ldc 208, 2) := by decide +kernel
theorem d_ASu_hugeLength_30 : decode b_ASu_hugeLength 30 = .ok (.invokevirtual 94, 3) := by decide +kernel
theorem d_ASu_hugeLength_33 : decode b_ASu_hugeLength 33 = .ok (.iload_n 1, 1) := by decide +kernel
theorem d_ASu_hugeLength_34 : decode b_ASu_hugeLength 34 = .ok (.invokevirtual 98, 3) := by decide +kernel
theorem d_ASu_hugeLength_37 : decode b_ASu_hugeLength 37 = .ok (.ldc 210, 2) := by decide +kernel
theorem d_ASu_hugeLength_39 : decode b_ASu_hugeLength 39 = .ok (.invokevirtual 94, 3) := by decide +kernel
theorem d_ASu_hugeLength_42 : decode b_ASu_hugeLength 42 = .ok (.invokevirtual 101, 3) := by decide +kernel
theorem d_ASu_hugeLength_45 : decode b_ASu_hugeLength 45 = .ok (.invokespecial 212, 3) := by decide +kernel
theorem d_ASu_hugeLength_48 : decode b_ASu_hugeLength 48 = .ok (.athrow, 1) := by decide +kernel
theorem d_ASu_hugeLength_49 : decode b_ASu_hugeLength 49 = .ok (.iload_n 2, 1) := by decide +kernel
theorem d_ASu_hugeLength_50 : decode b_ASu_hugeLength 50 = .ok (.ldc 200, 2) := by decide +kernel
theorem d_ASu_hugeLength_52 : decode b_ASu_hugeLength 52 = .ok (.if_icmp .gt 6, 3) := by decide +kernel
theorem d_ASu_hugeLength_55 : decode b_ASu_hugeLength 55 = .ok (.ldc 200, 2) := by decide +kernel
theorem d_ASu_hugeLength_57 : decode b_ASu_hugeLength 57 = .ok (.ireturn, 1) := by decide +kernel
theorem d_ASu_hugeLength_58 : decode b_ASu_hugeLength 58 = .ok (.iload_n 2, 1) := by decide +kernel
theorem d_ASu_hugeLength_59 : decode b_ASu_hugeLength 59 = .ok (.ireturn, 1) := by decide +kernel
theorem d_Ars_copyOf_0 : decode b_Ars_copyOf 0 = .ok (.aload_n 0, 1) := by decide +kernel
theorem d_Ars_copyOf_1 : decode b_Ars_copyOf 1 = .ok (.iload_n 1, 1) := by decide +kernel
theorem d_Ars_copyOf_2 : decode b_Ars_copyOf 2 = .ok (.aload_n 0, 1) := by decide +kernel
theorem d_Ars_copyOf_3 : decode b_Ars_copyOf 3 = .ok (.invokevirtual 86, 3) := by decide +kernel
theorem d_Ars_copyOf_6 : decode b_Ars_copyOf 6 = .ok (.invokestatic 300, 3) := by decide +kernel
theorem d_Ars_copyOf_9 : decode b_Ars_copyOf 9 = .ok (.areturn, 1) := by decide +kernel
theorem d_Ars_copyOf2_0 : decode b_Ars_copyOf2 0 = .ok (.aload_n 2, 1) := by decide +kernel
theorem d_Ars_copyOf2_1 : decode b_Ars_copyOf2 1 = .ok (.ldc 110, 2) := by decide +kernel
theorem d_Ars_copyOf2_3 : decode b_Ars_copyOf2 3 = .ok (.if_acmp .ne 10, 3) := by decide +kernel
theorem d_Ars_copyOf2_6 : decode b_Ars_copyOf2 6 = .ok (.iload_n 1, 1) := by decide +kernel
theorem d_Ars_copyOf2_7 : decode b_Ars_copyOf2 7 = .ok (.anewarray 2, 3) := by decide +kernel
theorem d_Ars_copyOf2_10 : decode b_Ars_copyOf2 10 = .ok (.goto 14, 3) := by decide +kernel
theorem d_Ars_copyOf2_13 : decode b_Ars_copyOf2 13 = .ok (.aload_n 2, 1) := by decide +kernel
theorem d_Ars_copyOf2_14 : decode b_Ars_copyOf2 14 = .ok (.invokevirtual 90, 3) := by decide +kernel
theorem d_Ars_copyOf2_17 : decode b_Ars_copyOf2 17 = .ok (.iload_n 1, 1) := by decide +kernel
theorem d_Ars_copyOf2_18 : decode b_Ars_copyOf2 18 = .ok (.invokestatic 95, 3) := by decide +kernel
theorem d_Ars_copyOf2_21 : decode b_Ars_copyOf2 21 = .ok (.checkcast 110, 3) := by decide +kernel
theorem d_Ars_copyOf2_24 : decode b_Ars_copyOf2 24 = .ok (.astore_n 3, 1) := by decide +kernel
theorem d_Ars_copyOf2_25 : decode b_Ars_copyOf2 25 = .ok (.aload_n 0, 1) := by decide +kernel
theorem d_Ars_copyOf2_26 : decode b_Ars_copyOf2 26 = .ok (.iconst 0, 1) := by decide +kernel
theorem d_Ars_copyOf2_27 : decode b_Ars_copyOf2 27 = .ok (.aload_n 3, 1) := by decide +kernel
theorem d_Ars_copyOf2_28 : decode b_Ars_copyOf2 28 = .ok (.iconst 0, 1) := by decide +kernel
theorem d_Ars_copyOf2_29 : decode b_Ars_copyOf2 29 = .ok (.aload_n 0, 1) := by decide +kernel
theorem d_Ars_copyOf2_30 : decode b_Ars_copyOf2 30 = .ok (.arraylength, 1) := by decide +kernel
theorem d_Ars_copyOf2_31 : decode b_Ars_copyOf2 31 = .ok (.iload_n 1, 1) := by decide +kernel
theorem d_Ars_copyOf2_32 : decode b_Ars_copyOf2 32 = .ok (.invokestatic 304, 3) := by decide +kernel
theorem d_Ars_copyOf2_35 : decode b_Ars_copyOf2 35 = .ok (.invokestatic 150, 3) := by decide +kernel
theorem d_Ars_copyOf2_38 : decode b_Ars_copyOf2 38 = .ok (.aload_n 3, 1) := by decide +kernel
theorem d_Ars_copyOf2_39 : decode b_Ars_copyOf2 39 = .ok (.areturn, 1) := by decide +kernel
theorem d_Ma_min_0 : decode b_Ma_min 0 = .ok (.iload_n 0, 1) := by decide +kernel
theorem d_Ma_min_1 : decode b_Ma_min 1 = .ok (.iload_n 1, 1) := by decide +kernel
theorem d_Ma_min_2 : decode b_Ma_min 2 = .ok (.if_icmp .gt 7, 3) := by decide +kernel
theorem d_Ma_min_5 : decode b_Ma_min 5 = .ok (.iload_n 0, 1) := by decide +kernel
theorem d_Ma_min_6 : decode b_Ma_min 6 = .ok (.goto 4, 3) := by decide +kernel
theorem d_Ma_min_9 : decode b_Ma_min 9 = .ok (.iload_n 1, 1) := by decide +kernel
theorem d_Ma_min_10 : decode b_Ma_min 10 = .ok (.ireturn, 1) := by decide +kernel
theorem d_Rd_takeType_0 : decode b_Rd_takeType 0 = .ok (.aload_n 0, 1) := by decide +kernel
theorem d_Rd_takeType_1 : decode b_Rd_takeType 1 = .ok (.getfield 27, 3) := by decide +kernel
theorem d_Rd_takeType_4 : decode b_Rd_takeType 4 = .ok (.aload_n 0, 1) := by decide +kernel
theorem d_Rd_takeType_5 : decode b_Rd_takeType 5 = .ok (.getfield 12, 3) := by decide +kernel
theorem d_Rd_takeType_8 : decode b_Rd_takeType 8 = .ok (.getfield 114, 3) := by decide +kernel
theorem d_Rd_takeType_11 : decode b_Rd_takeType 11 = .ok (.invokevirtual 162, 3) := by decide +kernel
theorem d_Rd_takeType_14 : decode b_Rd_takeType 14 = .ok (.ifnull 6, 3) := by decide +kernel
theorem d_Rd_takeType_17 : decode b_Rd_takeType 17 = .ok (.bipush 7, 2) := by decide +kernel
theorem d_Rd_takeType_19 : decode b_Rd_takeType 19 = .ok (.ireturn, 1) := by decide +kernel
theorem d_Rd_takeType_20 : decode b_Rd_takeType 20 = .ok (.aload_n 0, 1) := by decide +kernel
theorem d_Rd_takeType_21 : decode b_Rd_takeType 21 = .ok (.getfield 27, 3) := by decide +kernel
theorem d_Rd_takeType_24 : decode b_Rd_takeType 24 = .ok (.getfield 166, 3) := by decide +kernel
theorem d_Rd_takeType_27 : decode b_Rd_takeType 27 = .ok (.invokevirtual 170, 3) := by decide +kernel
theorem d_Rd_takeType_30 : decode b_Rd_takeType 30 = .ok (.ifCond .eq 6, 3) := by decide +kernel
theorem d_Rd_takeType_33 : decode b_Rd_takeType 33 = .ok (.bipush 8, 2) := by decide +kernel
theorem d_Rd_takeType_35 : decode b_Rd_takeType 35 = .ok (.ireturn, 1) := by decide +kernel
theorem d_Rd_takeType_36 : decode b_Rd_takeType 36 = .ok (.aload_n 0, 1) := by decide +kernel
theorem d_Rd_takeType_37 : decode b_Rd_takeType 37 = .ok (.aload_n 0, 1) := by decide +kernel
theorem d_Rd_takeType_38 : decode b_Rd_takeType 38 = .ok (.getfield 27, 3) := by decide +kernel
theorem d_Rd_takeType_41 : decode b_Rd_takeType 41 = .ok (.aload_n 0, 1) := by decide +kernel
theorem d_Rd_takeType_42 : decode b_Rd_takeType 42 = .ok (.getfield 12, 3) := by decide +kernel
theorem d_Rd_takeType_45 : decode b_Rd_takeType 45 = .ok (.invokevirtual 175, 3) := by decide +kernel
theorem d_Rd_takeType_48 : decode b_Rd_takeType 48 = .ok (.putfield 179, 3) := by decide +kernel
theorem d_Rd_takeType_51 : decode b_Rd_takeType 51 = .ok (.iconst 0, 1) := by decide +kernel
theorem d_Rd_takeType_52 : decode b_Rd_takeType 52 = .ok (.ireturn, 1) := by decide +kernel
theorem d_B_write_0 : decode b_B_write 0 = .ok (.aload_n 0, 1) := by decide +kernel
theorem d_B_write_1 : decode b_B_write 1 = .ok (.iload_n 1, 1) := by decide +kernel
theorem d_B_write_2 : decode b_B_write 2 = .ok (.invokevirtual 56, 3) := by decide +kernel
theorem d_B_write_5 : decode b_B_write 5 = .ok (.astore_n 2, 1) := by decide +kernel
theorem d_B_write_6 : decode b_B_write 6 = .ok (.aload_n 2, 1) := by decide +kernel
theorem d_B_write_7 : decode b_B_write 7 = .ok (.ifnonnull 5, 3) := by decide +kernel
theorem d_B_write_10 : decode b_B_write 10 = .ok (.iconst (-1), 1) := by decide +kernel
theorem d_B_write_11 : decode b_B_write 11 = .ok (.ireturn, 1) := by decide +kernel
theorem d_B_write_12 : decode b_B_write 12 = .ok (.aload_n 0, 1) := by decide +kernel
theorem d_B_write_13 : decode b_B_write 13 = .ok (.getfield 18, 3) := by decide +kernel
theorem d_B_write_16 : decode b_B_write 16 = .ok (.invokevirtual 53, 3) := by decide +kernel
theorem d_B_write_19 : decode b_B_write 19 = .ok (.aload_n 2, 1) := by decide +kernel
theorem d_B_write_20 : decode b_B_write 20 = .ok (.aload_n 0, 1) := by decide +kernel
theorem d_B_write_21 : decode b_B_write 21 = .ok (.getfield 18, 3) := by decide +kernel
theorem d_B_write_24 : decode b_B_write 24 = .ok (.invokevirtual 78, 3) := by decide +kernel
theorem d_B_write_27 : decode b_B_write 27 = .ok (.aload_n 0, 1) := by decide +kernel
theorem d_B_write_28 : decode b_B_write 28 = .ok (.getfield 18, 3) := by decide +kernel
theorem d_B_write_31 : decode b_B_write 31 = .ok (.invokevirtual 82, 3) := by decide +kernel
theorem d_B_write_34 : decode b_B_write 34 = .ok (.ifCond .ne 5, 3) := by decide +kernel
theorem d_B_write_37 : decode b_B_write 37 = .ok (.iconst (-1), 1) := by decide +kernel
theorem d_B_write_38 : decode b_B_write 38 = .ok (.ireturn, 1) := by decide +kernel
theorem d_B_write_39 : decode b_B_write 39 = .ok (.aload_n 0, 1) := by decide +kernel
theorem d_B_write_40 : decode b_B_write 40 = .ok (.getfield 14, 3) := by decide +kernel
theorem d_B_write_43 : decode b_B_write 43 = .ok (.aload_n 0, 1) := by decide +kernel
theorem d_B_write_44 : decode b_B_write 44 = .ok (.getfield 18, 3) := by decide +kernel
theorem d_B_write_47 : decode b_B_write 47 = .ok (.invokevirtual 86, 3) := by decide +kernel
theorem d_B_write_50 : decode b_B_write 50 = .ok (.aload_n 0, 1) := by decide +kernel
theorem d_B_write_51 : decode b_B_write 51 = .ok (.getfield 14, 3) := by decide +kernel
theorem d_B_write_54 : decode b_B_write 54 = .ok (.invokevirtual 38, 3) := by decide +kernel
theorem d_B_write_57 : decode b_B_write 57 = .ok (.ireturn, 1) := by decide +kernel
theorem d_B_format_0 : decode b_B_format 0 = .ok (.aload_n 0, 1) := by decide +kernel
theorem d_B_format_1 : decode b_B_format 1 = .ok (.iload_n 1, 1) := by decide +kernel
theorem d_B_format_2 : decode b_B_format 2 = .ok (.invokevirtual 56, 3) := by decide +kernel
theorem d_B_format_5 : decode b_B_format 5 = .ok (.astore_n 3, 1) := by decide +kernel
theorem d_B_format_6 : decode b_B_format 6 = .ok (.aload_n 3, 1) := by decide +kernel
theorem d_B_format_7 : decode b_B_format 7 = .ok (.ifnull 13, 3) := by decide +kernel
theorem d_B_format_10 : decode b_B_format 10 = .ok (.iload_n 2, 1) := by decide +kernel
theorem d_B_format_11 : decode b_B_format 11 = .ok (.iconst 1, 1) := by decide +kernel
theorem d_B_format_12 : decode b_B_format 12 = .ok (.if_icmp .eq 10, 3) := by decide +kernel
theorem d_B_format_15 : decode b_B_format 15 = .ok (.iload_n 2, 1) := by decide +kernel
theorem d_B_format_16 : decode b_B_format 16 = .ok (.iconst 2, 1) := by decide +kernel
theorem d_B_format_17 : decode b_B_format 17 = .ok (.if_icmp .eq 5, 3) := by decide +kernel
theorem d_B_format_20 : decode b_B_format 20 = .ok (.iconst (-1), 1) := by decide +kernel
theorem d_B_format_21 : decode b_B_format 21 = .ok (.ireturn, 1) := by decide +kernel
theorem d_B_format_22 : decode b_B_format 22 = .ok (.aload_n 3, 1) := by decide +kernel
theorem d_B_format_23 : decode b_B_format 23 = .ok (.getfield 89, 3) := by decide +kernel
theorem d_B_format_26 : decode b_B_format 26 = .ok (.istore 4, 2) := by decide +kernel
theorem d_B_format_28 : decode b_B_format 28 = .ok (.aload_n 3, 1) := by decide +kernel
theorem d_B_format_29 : decode b_B_format 29 = .ok (.iload_n 2, 1) := by decide +kernel
theorem d_B_format_30 : decode b_B_format 30 = .ok (.putfield 89, 3) := by decide +kernel
theorem d_B_format_33 : decode b_B_format 33 = .ok (.iload 4, 2) := by decide +kernel
theorem d_B_format_35 : decode b_B_format 35 = .ok (.ireturn, 1) := by decide +kernel
theorem d_B_text_0 : decode b_B_text 0 = .ok (.aload_n 0, 1) := by decide +kernel
theorem d_B_text_1 : decode b_B_text 1 = .ok (.getfield 14, 3) := by decide +kernel
theorem d_B_text_4 : decode b_B_text 4 = .ok (.iload_n 1, 1) := by decide +kernel
theorem d_B_text_5 : decode b_B_text 5 = .ok (.invokevirtual 67, 3) := by decide +kernel
theorem d_B_text_8 : decode b_B_text 8 = .ok (.ireturn, 1) := by decide +kernel
theorem d_B_diagnostic_0 : decode b_B_diagnostic 0 = .ok (.iload_n 1, 1) := by decide +kernel
theorem d_B_diagnostic_1 : decode b_B_diagnostic 1 = .ok (.ifCond .lt 14, 3) := by decide +kernel
theorem d_B_diagnostic_4 : decode b_B_diagnostic 4 = .ok (.iload_n 1, 1) := by decide +kernel
theorem d_B_diagnostic_5 : decode b_B_diagnostic 5 = .ok (.aload_n 0, 1) := by decide +kernel
theorem d_B_diagnostic_6 : decode b_B_diagnostic 6 = .ok (.getfield 24, 3) := by decide +kernel
theorem d_B_diagnostic_9 : decode b_B_diagnostic 9 = .ok (.invokevirtual 93, 3) := by decide +kernel
theorem d_B_diagnostic_12 : decode b_B_diagnostic 12 = .ok (.if_icmp .lt 5, 3) := by decide +kernel
theorem d_B_diagnostic_15 : decode b_B_diagnostic 15 = .ok (.iconst (-1), 1) := by decide +kernel
theorem d_B_diagnostic_16 : decode b_B_diagnostic 16 = .ok (.ireturn, 1) := by decide +kernel
theorem d_B_diagnostic_17 : decode b_B_diagnostic 17 = .ok (.iload_n 2, 1) := by decide +kernel
theorem d_B_diagnostic_18 : decode b_B_diagnostic 18 = .ok (.tableswitch 56 0 2 #[26, 36, 46], 26) := by decide +kernel
theorem d_B_diagnostic_44 : decode b_B_diagnostic 44 = .ok (.aload_n 0, 1) := by decide +kernel
theorem d_B_diagnostic_45 : decode b_B_diagnostic 45 = .ok (.getfield 24, 3) := by decide +kernel
theorem d_B_diagnostic_48 : decode b_B_diagnostic 48 = .ok (.getfield 96, 3) := by decide +kernel
theorem d_B_diagnostic_51 : decode b_B_diagnostic 51 = .ok (.iload_n 1, 1) := by decide +kernel
theorem d_B_diagnostic_52 : decode b_B_diagnostic 52 = .ok (.iaload, 1) := by decide +kernel
theorem d_B_diagnostic_53 : decode b_B_diagnostic 53 = .ok (.ireturn, 1) := by decide +kernel
theorem d_B_diagnostic_54 : decode b_B_diagnostic 54 = .ok (.aload_n 0, 1) := by decide +kernel
theorem d_B_diagnostic_55 : decode b_B_diagnostic 55 = .ok (.getfield 24, 3) := by decide +kernel
theorem d_B_diagnostic_58 : decode b_B_diagnostic 58 = .ok (.getfield 100, 3) := by decide +kernel
theorem d_B_diagnostic_61 : decode b_B_diagnostic 61 = .ok (.iload_n 1, 1) := by decide +kernel
theorem d_B_diagnostic_62 : decode b_B_diagnostic 62 = .ok (.iaload, 1) := by decide +kernel
theorem d_B_diagnostic_63 : decode b_B_diagnostic 63 = .ok (.ireturn, 1) := by decide +kernel
theorem d_B_diagnostic_64 : decode b_B_diagnostic 64 = .ok (.aload_n 0, 1) := by decide +kernel
theorem d_B_diagnostic_65 : decode b_B_diagnostic 65 = .ok (.getfield 24, 3) := by decide +kernel
theorem d_B_diagnostic_68 : decode b_B_diagnostic 68 = .ok (.getfield 103, 3) := by decide +kernel
theorem d_B_diagnostic_71 : decode b_B_diagnostic 71 = .ok (.iload_n 1, 1) := by decide +kernel
theorem d_B_diagnostic_72 : decode b_B_diagnostic 72 = .ok (.iaload, 1) := by decide +kernel
theorem d_B_diagnostic_73 : decode b_B_diagnostic 73 = .ok (.ireturn, 1) := by decide +kernel
theorem d_B_diagnostic_74 : decode b_B_diagnostic 74 = .ok (.iconst (-1), 1) := by decide +kernel
theorem d_B_diagnostic_75 : decode b_B_diagnostic 75 = .ok (.ireturn, 1) := by decide +kernel
theorem d_B_types_0 : decode b_B_types 0 = .ok (.aload_n 0, 1) := by decide +kernel
theorem d_B_types_1 : decode b_B_types 1 = .ok (.iload_n 1, 1) := by decide +kernel
theorem d_B_types_2 : decode b_B_types 2 = .ok (.invokevirtual 56, 3) := by decide +kernel
theorem d_B_types_5 : decode b_B_types 5 = .ok (.astore_n 2, 1) := by decide +kernel
theorem d_B_types_6 : decode b_B_types 6 = .ok (.aload_n 2, 1) := by decide +kernel
theorem d_B_types_7 : decode b_B_types 7 = .ok (.ifnonnull 7, 3) := by decide +kernel
theorem d_B_types_10 : decode b_B_types 10 = .ok (.iconst (-1), 1) := by decide +kernel
theorem d_B_types_11 : decode b_B_types 11 = .ok (.goto 10, 3) := by decide +kernel
theorem d_B_types_14 : decode b_B_types 14 = .ok (.aload_n 2, 1) := by decide +kernel
theorem d_B_types_15 : decode b_B_types 15 = .ok (.getfield 106, 3) := by decide +kernel
theorem d_B_types_18 : decode b_B_types 18 = .ok (.invokevirtual 110, 3) := by decide +kernel
theorem d_B_types_21 : decode b_B_types 21 = .ok (.ireturn, 1) := by decide +kernel
theorem d_B_about_0 : decode b_B_about 0 = .ok (.aload_n 0, 1) := by decide +kernel
theorem d_B_about_1 : decode b_B_about 1 = .ok (.iload_n 1, 1) := by decide +kernel
theorem d_B_about_2 : decode b_B_about 2 = .ok (.iload_n 2, 1) := by decide +kernel
theorem d_B_about_3 : decode b_B_about 3 = .ok (.invokevirtual 113, 3) := by decide +kernel
theorem d_B_about_6 : decode b_B_about 6 = .ok (.astore 4, 2) := by decide +kernel
theorem d_B_about_8 : decode b_B_about 8 = .ok (.aload 4, 2) := by decide +kernel
theorem d_B_about_10 : decode b_B_about 10 = .ok (.ifnonnull 5, 3) := by decide +kernel
theorem d_B_about_13 : decode b_B_about 13 = .ok (.iconst (-1), 1) := by decide +kernel
theorem d_B_about_14 : decode b_B_about 14 = .ok (.ireturn, 1) := by decide +kernel
theorem d_B_about_15 : decode b_B_about 15 = .ok (.iload_n 3, 1) := by decide +kernel
theorem d_B_about_16 : decode b_B_about 16 = .ok (.tableswitch 62 0 3 #[32, 38, 44, 53], 32) := by decide +kernel
theorem d_B_about_48 : decode b_B_about 48 = .ok (.aload 4, 2) := by decide +kernel
theorem d_B_about_50 : decode b_B_about 50 = .ok (.getfield 117, 3) := by decide +kernel
theorem d_B_about_53 : decode b_B_about 53 = .ok (.ireturn, 1) := by decide +kernel
theorem d_B_about_54 : decode b_B_about 54 = .ok (.aload 4, 2) := by decide +kernel
theorem d_B_about_56 : decode b_B_about 56 = .ok (.getfield 122, 3) := by decide +kernel
theorem d_B_about_59 : decode b_B_about 59 = .ok (.ireturn, 1) := by decide +kernel
theorem d_B_about_60 : decode b_B_about 60 = .ok (.aload 4, 2) := by decide +kernel
theorem d_B_about_62 : decode b_B_about 62 = .ok (.getfield 125, 3) := by decide +kernel
theorem d_B_about_65 : decode b_B_about 65 = .ok (.invokevirtual 110, 3) := by decide +kernel
theorem d_B_about_68 : decode b_B_about 68 = .ok (.ireturn, 1) := by decide +kernel
theorem d_B_about_69 : decode b_B_about 69 = .ok (.aload 4, 2) := by decide +kernel
theorem d_B_about_71 : decode b_B_about 71 = .ok (.getfield 128, 3) := by decide +kernel
theorem d_B_about_74 : decode b_B_about 74 = .ok (.invokevirtual 38, 3) := by decide +kernel
theorem d_B_about_77 : decode b_B_about 77 = .ok (.ireturn, 1) := by decide +kernel
theorem d_B_about_78 : decode b_B_about 78 = .ok (.iconst (-1), 1) := by decide +kernel
theorem d_B_about_79 : decode b_B_about 79 = .ok (.ireturn, 1) := by decide +kernel
theorem d_B_typeAt_0 : decode b_B_typeAt 0 = .ok (.aload_n 0, 1) := by decide +kernel
theorem d_B_typeAt_1 : decode b_B_typeAt 1 = .ok (.iload_n 1, 1) := by decide +kernel
theorem d_B_typeAt_2 : decode b_B_typeAt 2 = .ok (.invokevirtual 56, 3) := by decide +kernel
theorem d_B_typeAt_5 : decode b_B_typeAt 5 = .ok (.astore_n 3, 1) := by decide +kernel
theorem d_B_typeAt_6 : decode b_B_typeAt 6 = .ok (.aload_n 3, 1) := by decide +kernel
theorem d_B_typeAt_7 : decode b_B_typeAt 7 = .ok (.ifnonnull 7, 3) := by decide +kernel
theorem d_B_typeAt_10 : decode b_B_typeAt 10 = .ok (.aconst_null, 1) := by decide +kernel
theorem d_B_typeAt_11 : decode b_B_typeAt 11 = .ok (.goto 14, 3) := by decide +kernel
theorem d_B_typeAt_14 : decode b_B_typeAt 14 = .ok (.aload_n 3, 1) := by decide +kernel
theorem d_B_typeAt_15 : decode b_B_typeAt 15 = .ok (.getfield 106, 3) := by decide +kernel
theorem d_B_typeAt_18 : decode b_B_typeAt 18 = .ok (.iload_n 2, 1) := by decide +kernel
theorem d_B_typeAt_19 : decode b_B_typeAt 19 = .ok (.invokevirtual 150, 3) := by decide +kernel
theorem d_B_typeAt_22 : decode b_B_typeAt 22 = .ok (.checkcast 118, 3) := by decide +kernel
theorem d_B_typeAt_25 : decode b_B_typeAt 25 = .ok (.areturn, 1) := by decide +kernel
theorem d_B_member_0 : decode b_B_member 0 = .ok (.aload_n 0, 1) := by decide +kernel
theorem d_B_member_1 : decode b_B_member 1 = .ok (.iload_n 1, 1) := by decide +kernel
theorem d_B_member_2 : decode b_B_member 2 = .ok (.iload_n 2, 1) := by decide +kernel
theorem d_B_member_3 : decode b_B_member 3 = .ok (.iload_n 3, 1) := by decide +kernel
theorem d_B_member_4 : decode b_B_member 4 = .ok (.invokevirtual 131, 3) := by decide +kernel
theorem d_B_member_7 : decode b_B_member 7 = .ok (.astore 5, 2) := by decide +kernel
theorem d_B_member_9 : decode b_B_member 9 = .ok (.aload 5, 2) := by decide +kernel
theorem d_B_member_11 : decode b_B_member 11 = .ok (.ifnonnull 5, 3) := by decide +kernel
theorem d_B_member_14 : decode b_B_member 14 = .ok (.iconst (-1), 1) := by decide +kernel
theorem d_B_member_15 : decode b_B_member 15 = .ok (.ireturn, 1) := by decide +kernel
theorem d_B_member_16 : decode b_B_member 16 = .ok (.iload 4, 2) := by decide +kernel
theorem d_B_member_18 : decode b_B_member 18 = .ok (.tableswitch 60 0 3 #[30, 36, 42, 51], 30) := by decide +kernel
theorem d_B_member_48 : decode b_B_member 48 = .ok (.aload 5, 2) := by decide +kernel
theorem d_B_member_50 : decode b_B_member 50 = .ok (.getfield 135, 3) := by decide +kernel
theorem d_B_member_53 : decode b_B_member 53 = .ok (.ireturn, 1) := by decide +kernel
theorem d_B_member_54 : decode b_B_member 54 = .ok (.aload 5, 2) := by decide +kernel
theorem d_B_member_56 : decode b_B_member 56 = .ok (.getfield 138, 3) := by decide +kernel
theorem d_B_member_59 : decode b_B_member 59 = .ok (.ireturn, 1) := by decide +kernel
theorem d_B_member_60 : decode b_B_member 60 = .ok (.aload 5, 2) := by decide +kernel
theorem d_B_member_62 : decode b_B_member 62 = .ok (.getfield 139, 3) := by decide +kernel
theorem d_B_member_65 : decode b_B_member 65 = .ok (.invokevirtual 38, 3) := by decide +kernel
theorem d_B_member_68 : decode b_B_member 68 = .ok (.ireturn, 1) := by decide +kernel
theorem d_B_member_69 : decode b_B_member 69 = .ok (.aload 5, 2) := by decide +kernel
theorem d_B_member_71 : decode b_B_member 71 = .ok (.getfield 140, 3) := by decide +kernel
theorem d_B_member_74 : decode b_B_member 74 = .ok (.invokevirtual 38, 3) := by decide +kernel
theorem d_B_member_77 : decode b_B_member 77 = .ok (.ireturn, 1) := by decide +kernel
theorem d_B_member_78 : decode b_B_member 78 = .ok (.iconst (-1), 1) := by decide +kernel
theorem d_B_member_79 : decode b_B_member 79 = .ok (.ireturn, 1) := by decide +kernel
theorem d_B_memberAt_0 : decode b_B_memberAt 0 = .ok (.aload_n 0, 1) := by decide +kernel
theorem d_B_memberAt_1 : decode b_B_memberAt 1 = .ok (.iload_n 1, 1) := by decide +kernel
theorem d_B_memberAt_2 : decode b_B_memberAt 2 = .ok (.iload_n 2, 1) := by decide +kernel
theorem d_B_memberAt_3 : decode b_B_memberAt 3 = .ok (.invokevirtual 113, 3) := by decide +kernel
theorem d_B_memberAt_6 : decode b_B_memberAt 6 = .ok (.astore 4, 2) := by decide +kernel
theorem d_B_memberAt_8 : decode b_B_memberAt 8 = .ok (.aload 4, 2) := by decide +kernel
theorem d_B_memberAt_10 : decode b_B_memberAt 10 = .ok (.ifnonnull 7, 3) := by decide +kernel
theorem d_B_memberAt_13 : decode b_B_memberAt 13 = .ok (.aconst_null, 1) := by decide +kernel
theorem d_B_memberAt_14 : decode b_B_memberAt 14 = .ok (.goto 12, 3) := by decide +kernel
theorem d_B_memberAt_17 : decode b_B_memberAt 17 = .ok (.aload 4, 2) := by decide +kernel
theorem d_B_memberAt_19 : decode b_B_memberAt 19 = .ok (.getfield 125, 3) := by decide +kernel
theorem d_B_memberAt_22 : decode b_B_memberAt 22 = .ok (.iload_n 3, 1) := by decide +kernel
theorem d_B_memberAt_23 : decode b_B_memberAt 23 = .ok (.invokevirtual 150, 3) := by decide +kernel
theorem d_B_memberAt_26 : decode b_B_memberAt 26 = .ok (.areturn, 1) := by decide +kernel
theorem d_B_character_0 : decode b_B_character 0 = .ok (.iload 4, 2) := by decide +kernel
theorem d_B_character_2 : decode b_B_character 2 = .ok (.iconst (-1), 1) := by decide +kernel
theorem d_B_character_3 : decode b_B_character 3 = .ok (.if_icmp .ne 12, 3) := by decide +kernel
theorem d_B_character_6 : decode b_B_character 6 = .ok (.aload_n 0, 1) := by decide +kernel
theorem d_B_character_7 : decode b_B_character 7 = .ok (.iload_n 1, 1) := by decide +kernel
theorem d_B_character_8 : decode b_B_character 8 = .ok (.iload_n 2, 1) := by decide +kernel
theorem d_B_character_9 : decode b_B_character 9 = .ok (.invokevirtual 113, 3) := by decide +kernel
theorem d_B_character_12 : decode b_B_character 12 = .ok (.goto 10, 3) := by decide +kernel
theorem d_B_character_15 : decode b_B_character 15 = .ok (.aload_n 0, 1) := by decide +kernel
theorem d_B_character_16 : decode b_B_character 16 = .ok (.iload_n 1, 1) := by decide +kernel
theorem d_B_character_17 : decode b_B_character 17 = .ok (.iload_n 2, 1) := by decide +kernel
theorem d_B_character_18 : decode b_B_character 18 = .ok (.iload_n 3, 1) := by decide +kernel
theorem d_B_character_19 : decode b_B_character 19 = .ok (.invokevirtual 131, 3) := by decide +kernel
theorem d_B_character_22 : decode b_B_character 22 = .ok (.astore 6, 2) := by decide +kernel
theorem d_B_character_24 : decode b_B_character 24 = .ok (.aload 6, 2) := by decide +kernel
theorem d_B_character_26 : decode b_B_character 26 = .ok (.ifnonnull 5, 3) := by decide +kernel
theorem d_B_character_29 : decode b_B_character 29 = .ok (.iconst (-1), 1) := by decide +kernel
theorem d_B_character_30 : decode b_B_character 30 = .ok (.ireturn, 1) := by decide +kernel
theorem d_B_character_31 : decode b_B_character 31 = .ok (.iload 4, 2) := by decide +kernel
theorem d_B_character_33 : decode b_B_character 33 = .ok (.tableswitch 49 (-1) 1 #[27, 27, 38], 27) := by decide +kernel
theorem d_B_character_60 : decode b_B_character 60 = .ok (.aload 6, 2) := by decide +kernel
theorem d_B_character_62 : decode b_B_character 62 = .ok (.getfield 139, 3) := by decide +kernel
theorem d_B_character_65 : decode b_B_character 65 = .ok (.iload 5, 2) := by decide +kernel
theorem d_B_character_67 : decode b_B_character 67 = .ok (.invokevirtual 67, 3) := by decide +kernel
theorem d_B_character_70 : decode b_B_character 70 = .ok (.ireturn, 1) := by decide +kernel
theorem d_B_character_71 : decode b_B_character 71 = .ok (.aload 6, 2) := by decide +kernel
theorem d_B_character_73 : decode b_B_character 73 = .ok (.getfield 140, 3) := by decide +kernel
theorem d_B_character_76 : decode b_B_character 76 = .ok (.iload 5, 2) := by decide +kernel
theorem d_B_character_78 : decode b_B_character 78 = .ok (.invokevirtual 67, 3) := by decide +kernel
theorem d_B_character_81 : decode b_B_character 81 = .ok (.ireturn, 1) := by decide +kernel
theorem d_B_character_82 : decode b_B_character 82 = .ok (.iconst (-1), 1) := by decide +kernel
theorem d_B_character_83 : decode b_B_character 83 = .ok (.ireturn, 1) := by decide +kernel
theorem d_B_differ_0 : decode b_B_differ 0 = .ok (.aload_n 0, 1) := by decide +kernel
theorem d_B_differ_1 : decode b_B_differ 1 = .ok (.getfield 31, 3) := by decide +kernel
theorem d_B_differ_4 : decode b_B_differ 4 = .ok (.aload_n 0, 1) := by decide +kernel
theorem d_B_differ_5 : decode b_B_differ 5 = .ok (.getfield 35, 3) := by decide +kernel
theorem d_B_differ_8 : decode b_B_differ 8 = .ok (.invokevirtual 143, 3) := by decide +kernel
theorem d_B_differ_11 : decode b_B_differ 11 = .ok (.ireturn, 1) := by decide +kernel
theorem d_B_lost_0 : decode b_B_lost 0 = .ok (.iload_n 1, 1) := by decide +kernel
theorem d_B_lost_1 : decode b_B_lost 1 = .ok (.lookupswitch 51 #[(0, 27), (1, 39)], 27) := by decide +kernel
theorem d_B_lost_28 : decode b_B_lost 28 = .ok (.aload_n 0, 1) := by decide +kernel
theorem d_B_lost_29 : decode b_B_lost 29 = .ok (.getfield 31, 3) := by decide +kernel
theorem d_B_lost_32 : decode b_B_lost 32 = .ok (.aload_n 0, 1) := by decide +kernel
theorem d_B_lost_33 : decode b_B_lost 33 = .ok (.getfield 35, 3) := by decide +kernel
theorem d_B_lost_36 : decode b_B_lost 36 = .ok (.invokevirtual 147, 3) := by decide +kernel
theorem d_B_lost_39 : decode b_B_lost 39 = .ok (.ireturn, 1) := by decide +kernel
theorem d_B_lost_40 : decode b_B_lost 40 = .ok (.aload_n 0, 1) := by decide +kernel
theorem d_B_lost_41 : decode b_B_lost 41 = .ok (.getfield 35, 3) := by decide +kernel
theorem d_B_lost_44 : decode b_B_lost 44 = .ok (.aload_n 0, 1) := by decide +kernel
theorem d_B_lost_45 : decode b_B_lost 45 = .ok (.getfield 31, 3) := by decide +kernel
theorem d_B_lost_48 : decode b_B_lost 48 = .ok (.invokevirtual 147, 3) := by decide +kernel
theorem d_B_lost_51 : decode b_B_lost 51 = .ok (.ireturn, 1) := by decide +kernel
theorem d_B_lost_52 : decode b_B_lost 52 = .ok (.iconst (-1), 1) := by decide +kernel
theorem d_B_lost_53 : decode b_B_lost 53 = .ok (.ireturn, 1) := by decide +kernel
theorem d_B_swap_0 : decode b_B_swap 0 = .ok (.aload_n 0, 1) := by decide +kernel
theorem d_B_swap_1 : decode b_B_swap 1 = .ok (.getfield 31, 3) := by decide +kernel
theorem d_B_swap_4 : decode b_B_swap 4 = .ok (.astore_n 1, 1) := by decide +kernel
theorem d_B_swap_5 : decode b_B_swap 5 = .ok (.aload_n 0, 1) := by decide +kernel
theorem d_B_swap_6 : decode b_B_swap 6 = .ok (.aload_n 0, 1) := by decide +kernel
theorem d_B_swap_7 : decode b_B_swap 7 = .ok (.getfield 35, 3) := by decide +kernel
theorem d_B_swap_10 : decode b_B_swap 10 = .ok (.putfield 31, 3) := by decide +kernel
theorem d_B_swap_13 : decode b_B_swap 13 = .ok (.aload_n 0, 1) := by decide +kernel
theorem d_B_swap_14 : decode b_B_swap 14 = .ok (.aload_n 1, 1) := by decide +kernel
theorem d_B_swap_15 : decode b_B_swap 15 = .ok (.putfield 35, 3) := by decide +kernel
theorem d_B_swap_18 : decode b_B_swap 18 = .ok (.return_, 1) := by decide +kernel
