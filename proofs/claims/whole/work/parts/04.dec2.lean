theorem d_Bl_init_0 : decode b_Bl_init 0 = .ok (.aload_n 0, 1) := by decide +kernel
theorem d_Bl_init_1 : decode b_Bl_init 1 = .ok (.invokespecial 3, 3) := by decide +kernel
theorem d_Bl_init_4 : decode b_Bl_init 4 = .ok (.aload_n 0, 1) := by decide +kernel
theorem d_Bl_init_5 : decode b_Bl_init 5 = .ok (.new 9, 3) := by decide +kernel
theorem d_Bl_init_8 : decode b_Bl_init 8 = .ok (.dup, 1) := by decide +kernel
theorem d_Bl_init_9 : decode b_Bl_init 9 = .ok (.bipush 12, 2) := by decide +kernel
theorem d_Bl_init_11 : decode b_Bl_init 11 = .ok (.invokespecial 11, 3) := by decide +kernel
theorem d_Bl_init_14 : decode b_Bl_init 14 = .ok (.putfield 14, 3) := by decide +kernel
theorem d_Bl_init_17 : decode b_Bl_init 17 = .ok (.aload_n 0, 1) := by decide +kernel
theorem d_Bl_init_18 : decode b_Bl_init 18 = .ok (.iconst 2, 1) := by decide +kernel
theorem d_Bl_init_19 : decode b_Bl_init 19 = .ok (.putfield 20, 3) := by decide +kernel
theorem d_Bl_init_22 : decode b_Bl_init 22 = .ok (.return_, 1) := by decide +kernel
theorem d_Sf_init_0 : decode b_Sf_init 0 = .ok (.aload_n 0, 1) := by decide +kernel
theorem d_Sf_init_1 : decode b_Sf_init 1 = .ok (.invokespecial 1, 3) := by decide +kernel
theorem d_Sf_init_4 : decode b_Sf_init 4 = .ok (.aload_n 0, 1) := by decide +kernel
theorem d_Sf_init_5 : decode b_Sf_init 5 = .ok (.new 7, 3) := by decide +kernel
theorem d_Sf_init_8 : decode b_Sf_init 8 = .ok (.dup, 1) := by decide +kernel
theorem d_Sf_init_9 : decode b_Sf_init 9 = .ok (.invokespecial 9, 3) := by decide +kernel
theorem d_Sf_init_12 : decode b_Sf_init 12 = .ok (.putfield 10, 3) := by decide +kernel
theorem d_Sf_init_15 : decode b_Sf_init 15 = .ok (.aload_n 0, 1) := by decide +kernel
theorem d_Sf_init_16 : decode b_Sf_init 16 = .ok (.iload_n 1, 1) := by decide +kernel
theorem d_Sf_init_17 : decode b_Sf_init 17 = .ok (.putfield 16, 3) := by decide +kernel
theorem d_Sf_init_20 : decode b_Sf_init 20 = .ok (.return_, 1) := by decide +kernel
theorem d_Bl_empty_0 : decode b_Bl_empty 0 = .ok (.aload_n 0, 1) := by decide +kernel
theorem d_Bl_empty_1 : decode b_Bl_empty 1 = .ok (.getfield 14, 3) := by decide +kernel
theorem d_Bl_empty_4 : decode b_Bl_empty 4 = .ok (.invokevirtual 24, 3) := by decide +kernel
theorem d_Bl_empty_7 : decode b_Bl_empty 7 = .ok (.aload_n 0, 1) := by decide +kernel
theorem d_Bl_empty_8 : decode b_Bl_empty 8 = .ok (.iconst 2, 1) := by decide +kernel
theorem d_Bl_empty_9 : decode b_Bl_empty 9 = .ok (.putfield 20, 3) := by decide +kernel
theorem d_Bl_empty_12 : decode b_Bl_empty 12 = .ok (.return_, 1) := by decide +kernel
theorem d_Sf_empty_0 : decode b_Sf_empty 0 = .ok (.aload_n 0, 1) := by decide +kernel
theorem d_Sf_empty_1 : decode b_Sf_empty 1 = .ok (.iconst 0, 1) := by decide +kernel
theorem d_Sf_empty_2 : decode b_Sf_empty 2 = .ok (.putfield 20, 3) := by decide +kernel
theorem d_Sf_empty_5 : decode b_Sf_empty 5 = .ok (.return_, 1) := by decide +kernel
theorem d_Ln_init_0 : decode b_Ln_init 0 = .ok (.aload_n 0, 1) := by decide +kernel
theorem d_Ln_init_1 : decode b_Ln_init 1 = .ok (.invokespecial 3, 3) := by decide +kernel
theorem d_Ln_init_4 : decode b_Ln_init 4 = .ok (.aload_n 0, 1) := by decide +kernel
theorem d_Ln_init_5 : decode b_Ln_init 5 = .ok (.aload_n 1, 1) := by decide +kernel
theorem d_Ln_init_6 : decode b_Ln_init 6 = .ok (.putfield 9, 3) := by decide +kernel
theorem d_Ln_init_9 : decode b_Ln_init 9 = .ok (.return_, 1) := by decide +kernel
theorem d_Ln_frame_0 : decode b_Ln_frame 0 = .ok (.aload_n 0, 1) := by decide +kernel
theorem d_Ln_frame_1 : decode b_Ln_frame 1 = .ok (.iload_n 1, 1) := by decide +kernel
theorem d_Ln_frame_2 : decode b_Ln_frame 2 = .ok (.putfield 15, 3) := by decide +kernel
theorem d_Ln_frame_5 : decode b_Ln_frame 5 = .ok (.aload_n 0, 1) := by decide +kernel
theorem d_Ln_frame_6 : decode b_Ln_frame 6 = .ok (.iload_n 2, 1) := by decide +kernel
theorem d_Ln_frame_7 : decode b_Ln_frame 7 = .ok (.putfield 19, 3) := by decide +kernel
theorem d_Ln_frame_10 : decode b_Ln_frame 10 = .ok (.aload_n 0, 1) := by decide +kernel
theorem d_Ln_frame_11 : decode b_Ln_frame 11 = .ok (.getfield 19, 3) := by decide +kernel
theorem d_Ln_frame_14 : decode b_Ln_frame 14 = .ok (.aload_n 0, 1) := by decide +kernel
theorem d_Ln_frame_15 : decode b_Ln_frame 15 = .ok (.getfield 15, 3) := by decide +kernel
theorem d_Ln_frame_18 : decode b_Ln_frame 18 = .ok (.if_icmp .le 34, 3) := by decide +kernel
theorem d_Ln_frame_21 : decode b_Ln_frame 21 = .ok (.aload_n 0, 1) := by decide +kernel
theorem d_Ln_frame_22 : decode b_Ln_frame 22 = .ok (.getfield 9, 3) := by decide +kernel
theorem d_Ln_frame_25 : decode b_Ln_frame 25 = .ok (.aload_n 0, 1) := by decide +kernel
theorem d_Ln_frame_26 : decode b_Ln_frame 26 = .ok (.getfield 19, 3) := by decide +kernel
theorem d_Ln_frame_29 : decode b_Ln_frame 29 = .ok (.iconst 1, 1) := by decide +kernel
theorem d_Ln_frame_30 : decode b_Ln_frame 30 = .ok (.isub, 1) := by decide +kernel
theorem d_Ln_frame_31 : decode b_Ln_frame 31 = .ok (.invokevirtual 22, 3) := by decide +kernel
theorem d_Ln_frame_34 : decode b_Ln_frame 34 = .ok (.bipush 32, 2) := by decide +kernel
theorem d_Ln_frame_36 : decode b_Ln_frame 36 = .ok (.if_icmp .ne 16, 3) := by decide +kernel
theorem d_Ln_frame_39 : decode b_Ln_frame 39 = .ok (.aload_n 0, 1) := by decide +kernel
theorem d_Ln_frame_40 : decode b_Ln_frame 40 = .ok (.dup, 1) := by decide +kernel
theorem d_Ln_frame_41 : decode b_Ln_frame 41 = .ok (.getfield 19, 3) := by decide +kernel
theorem d_Ln_frame_44 : decode b_Ln_frame 44 = .ok (.iconst 1, 1) := by decide +kernel
theorem d_Ln_frame_45 : decode b_Ln_frame 45 = .ok (.isub, 1) := by decide +kernel
theorem d_Ln_frame_46 : decode b_Ln_frame 46 = .ok (.putfield 19, 3) := by decide +kernel
theorem d_Ln_frame_49 : decode b_Ln_frame 49 = .ok (.goto (-39), 3) := by decide +kernel
theorem d_Ln_frame_52 : decode b_Ln_frame 52 = .ok (.aload_n 0, 1) := by decide +kernel
theorem d_Ln_frame_53 : decode b_Ln_frame 53 = .ok (.invokevirtual 28, 3) := by decide +kernel
theorem d_Ln_frame_56 : decode b_Ln_frame 56 = .ok (.return_, 1) := by decide +kernel
theorem d_Ln_toFirstWord_0 : decode b_Ln_toFirstWord 0 = .ok (.aload_n 0, 1) := by decide +kernel
theorem d_Ln_toFirstWord_1 : decode b_Ln_toFirstWord 1 = .ok (.aload_n 0, 1) := by decide +kernel
theorem d_Ln_toFirstWord_2 : decode b_Ln_toFirstWord 2 = .ok (.getfield 15, 3) := by decide +kernel
theorem d_Ln_toFirstWord_5 : decode b_Ln_toFirstWord 5 = .ok (.putfield 31, 3) := by decide +kernel
theorem d_Ln_toFirstWord_8 : decode b_Ln_toFirstWord 8 = .ok (.aload_n 0, 1) := by decide +kernel
theorem d_Ln_toFirstWord_9 : decode b_Ln_toFirstWord 9 = .ok (.invokevirtual 34, 3) := by decide +kernel
theorem d_Ln_toFirstWord_12 : decode b_Ln_toFirstWord 12 = .ok (.return_, 1) := by decide +kernel
theorem d_Ln_toNextWord_0 : decode b_Ln_toNextWord 0 = .ok (.aload_n 0, 1) := by decide +kernel
theorem d_Ln_toNextWord_1 : decode b_Ln_toNextWord 1 = .ok (.aload_n 0, 1) := by decide +kernel
theorem d_Ln_toNextWord_2 : decode b_Ln_toNextWord 2 = .ok (.getfield 31, 3) := by decide +kernel
theorem d_Ln_toNextWord_5 : decode b_Ln_toNextWord 5 = .ok (.putfield 37, 3) := by decide +kernel
theorem d_Ln_toNextWord_8 : decode b_Ln_toNextWord 8 = .ok (.aload_n 0, 1) := by decide +kernel
theorem d_Ln_toNextWord_9 : decode b_Ln_toNextWord 9 = .ok (.getfield 37, 3) := by decide +kernel
theorem d_Ln_toNextWord_12 : decode b_Ln_toNextWord 12 = .ok (.aload_n 0, 1) := by decide +kernel
theorem d_Ln_toNextWord_13 : decode b_Ln_toNextWord 13 = .ok (.getfield 19, 3) := by decide +kernel
theorem d_Ln_toNextWord_16 : decode b_Ln_toNextWord 16 = .ok (.if_icmp .ge 32, 3) := by decide +kernel
theorem d_Ln_toNextWord_19 : decode b_Ln_toNextWord 19 = .ok (.aload_n 0, 1) := by decide +kernel
theorem d_Ln_toNextWord_20 : decode b_Ln_toNextWord 20 = .ok (.getfield 9, 3) := by decide +kernel
theorem d_Ln_toNextWord_23 : decode b_Ln_toNextWord 23 = .ok (.aload_n 0, 1) := by decide +kernel
theorem d_Ln_toNextWord_24 : decode b_Ln_toNextWord 24 = .ok (.getfield 37, 3) := by decide +kernel
theorem d_Ln_toNextWord_27 : decode b_Ln_toNextWord 27 = .ok (.invokevirtual 22, 3) := by decide +kernel
theorem d_Ln_toNextWord_30 : decode b_Ln_toNextWord 30 = .ok (.bipush 32, 2) := by decide +kernel
theorem d_Ln_toNextWord_32 : decode b_Ln_toNextWord 32 = .ok (.if_icmp .ne 16, 3) := by decide +kernel
theorem d_Ln_toNextWord_35 : decode b_Ln_toNextWord 35 = .ok (.aload_n 0, 1) := by decide +kernel
theorem d_Ln_toNextWord_36 : decode b_Ln_toNextWord 36 = .ok (.dup, 1) := by decide +kernel
theorem d_Ln_toNextWord_37 : decode b_Ln_toNextWord 37 = .ok (.getfield 37, 3) := by decide +kernel
theorem d_Ln_toNextWord_40 : decode b_Ln_toNextWord 40 = .ok (.iconst 1, 1) := by decide +kernel
theorem d_Ln_toNextWord_41 : decode b_Ln_toNextWord 41 = .ok (.iadd, 1) := by decide +kernel
theorem d_Ln_toNextWord_42 : decode b_Ln_toNextWord 42 = .ok (.putfield 37, 3) := by decide +kernel
theorem d_Ln_toNextWord_45 : decode b_Ln_toNextWord 45 = .ok (.goto (-37), 3) := by decide +kernel
theorem d_Ln_toNextWord_48 : decode b_Ln_toNextWord 48 = .ok (.aload_n 0, 1) := by decide +kernel
theorem d_Ln_toNextWord_49 : decode b_Ln_toNextWord 49 = .ok (.aload_n 0, 1) := by decide +kernel
theorem d_Ln_toNextWord_50 : decode b_Ln_toNextWord 50 = .ok (.getfield 37, 3) := by decide +kernel
theorem d_Ln_toNextWord_53 : decode b_Ln_toNextWord 53 = .ok (.putfield 31, 3) := by decide +kernel
theorem d_Ln_toNextWord_56 : decode b_Ln_toNextWord 56 = .ok (.aload_n 0, 1) := by decide +kernel
theorem d_Ln_toNextWord_57 : decode b_Ln_toNextWord 57 = .ok (.getfield 31, 3) := by decide +kernel
theorem d_Ln_toNextWord_60 : decode b_Ln_toNextWord 60 = .ok (.aload_n 0, 1) := by decide +kernel
theorem d_Ln_toNextWord_61 : decode b_Ln_toNextWord 61 = .ok (.getfield 19, 3) := by decide +kernel
theorem d_Ln_toNextWord_64 : decode b_Ln_toNextWord 64 = .ok (.if_icmp .ge 32, 3) := by decide +kernel
theorem d_Ln_toNextWord_67 : decode b_Ln_toNextWord 67 = .ok (.aload_n 0, 1) := by decide +kernel
theorem d_Ln_toNextWord_68 : decode b_Ln_toNextWord 68 = .ok (.getfield 9, 3) := by decide +kernel
theorem d_Ln_toNextWord_71 : decode b_Ln_toNextWord 71 = .ok (.aload_n 0, 1) := by decide +kernel
theorem d_Ln_toNextWord_72 : decode b_Ln_toNextWord 72 = .ok (.getfield 31, 3) := by decide +kernel
theorem d_Ln_toNextWord_75 : decode b_Ln_toNextWord 75 = .ok (.invokevirtual 22, 3) := by decide +kernel
theorem d_Ln_toNextWord_78 : decode b_Ln_toNextWord 78 = .ok (.bipush 32, 2) := by decide +kernel
theorem d_Ln_toNextWord_80 : decode b_Ln_toNextWord 80 = .ok (.if_icmp .eq 16, 3) := by decide +kernel
theorem d_Ln_toNextWord_83 : decode b_Ln_toNextWord 83 = .ok (.aload_n 0, 1) := by decide +kernel
theorem d_Ln_toNextWord_84 : decode b_Ln_toNextWord 84 = .ok (.dup, 1) := by decide +kernel
theorem d_Ln_toNextWord_85 : decode b_Ln_toNextWord 85 = .ok (.getfield 31, 3) := by decide +kernel
theorem d_Ln_toNextWord_88 : decode b_Ln_toNextWord 88 = .ok (.iconst 1, 1) := by decide +kernel
theorem d_Ln_toNextWord_89 : decode b_Ln_toNextWord 89 = .ok (.iadd, 1) := by decide +kernel
theorem d_Ln_toNextWord_90 : decode b_Ln_toNextWord 90 = .ok (.putfield 31, 3) := by decide +kernel
theorem d_Ln_toNextWord_93 : decode b_Ln_toNextWord 93 = .ok (.goto (-37), 3) := by decide +kernel
theorem d_Ln_toNextWord_96 : decode b_Ln_toNextWord 96 = .ok (.return_, 1) := by decide +kernel
theorem d_Ln_isSkipped_0 : decode b_Ln_isSkipped 0 = .ok (.aload_n 0, 1) := by decide +kernel
theorem d_Ln_isSkipped_1 : decode b_Ln_isSkipped 1 = .ok (.invokevirtual 40, 3) := by decide +kernel
theorem d_Ln_isSkipped_4 : decode b_Ln_isSkipped 4 = .ok (.ifCond .eq 19, 3) := by decide +kernel
theorem d_Ln_isSkipped_7 : decode b_Ln_isSkipped 7 = .ok (.aload_n 0, 1) := by decide +kernel
theorem d_Ln_isSkipped_8 : decode b_Ln_isSkipped 8 = .ok (.getfield 9, 3) := by decide +kernel
theorem d_Ln_isSkipped_11 : decode b_Ln_isSkipped 11 = .ok (.aload_n 0, 1) := by decide +kernel
theorem d_Ln_isSkipped_12 : decode b_Ln_isSkipped 12 = .ok (.getfield 37, 3) := by decide +kernel
theorem d_Ln_isSkipped_15 : decode b_Ln_isSkipped 15 = .ok (.invokevirtual 22, 3) := by decide +kernel
theorem d_Ln_isSkipped_18 : decode b_Ln_isSkipped 18 = .ok (.bipush 33, 2) := by decide +kernel
theorem d_Ln_isSkipped_20 : decode b_Ln_isSkipped 20 = .ok (.if_icmp .ne 7, 3) := by decide +kernel
theorem d_Ln_isSkipped_23 : decode b_Ln_isSkipped 23 = .ok (.iconst 1, 1) := by decide +kernel
theorem d_Ln_isSkipped_24 : decode b_Ln_isSkipped 24 = .ok (.goto 4, 3) := by decide +kernel
theorem d_Ln_isSkipped_27 : decode b_Ln_isSkipped 27 = .ok (.iconst 0, 1) := by decide +kernel
theorem d_Ln_isSkipped_28 : decode b_Ln_isSkipped 28 = .ok (.ireturn, 1) := by decide +kernel
theorem d_Ln_hasWord_0 : decode b_Ln_hasWord 0 = .ok (.aload_n 0, 1) := by decide +kernel
theorem d_Ln_hasWord_1 : decode b_Ln_hasWord 1 = .ok (.getfield 37, 3) := by decide +kernel
theorem d_Ln_hasWord_4 : decode b_Ln_hasWord 4 = .ok (.aload_n 0, 1) := by decide +kernel
theorem d_Ln_hasWord_5 : decode b_Ln_hasWord 5 = .ok (.getfield 31, 3) := by decide +kernel
theorem d_Ln_hasWord_8 : decode b_Ln_hasWord 8 = .ok (.if_icmp .ge 7, 3) := by decide +kernel
theorem d_Ln_hasWord_11 : decode b_Ln_hasWord 11 = .ok (.iconst 1, 1) := by decide +kernel
theorem d_Ln_hasWord_12 : decode b_Ln_hasWord 12 = .ok (.goto 4, 3) := by decide +kernel
theorem d_Ln_hasWord_15 : decode b_Ln_hasWord 15 = .ok (.iconst 0, 1) := by decide +kernel
theorem d_Ln_hasWord_16 : decode b_Ln_hasWord 16 = .ok (.ireturn, 1) := by decide +kernel
theorem d_Ln_isAt_0 : decode b_Ln_isAt 0 = .ok (.aload_n 0, 1) := by decide +kernel
theorem d_Ln_isAt_1 : decode b_Ln_isAt 1 = .ok (.getfield 31, 3) := by decide +kernel
theorem d_Ln_isAt_4 : decode b_Ln_isAt 4 = .ok (.aload_n 0, 1) := by decide +kernel
theorem d_Ln_isAt_5 : decode b_Ln_isAt 5 = .ok (.getfield 37, 3) := by decide +kernel
theorem d_Ln_isAt_8 : decode b_Ln_isAt 8 = .ok (.isub, 1) := by decide +kernel
theorem d_Ln_isAt_9 : decode b_Ln_isAt 9 = .ok (.aload_n 1, 1) := by decide +kernel
theorem d_Ln_isAt_10 : decode b_Ln_isAt 10 = .ok (.invokevirtual 44, 3) := by decide +kernel
theorem d_Ln_isAt_13 : decode b_Ln_isAt 13 = .ok (.if_icmp .eq 5, 3) := by decide +kernel
theorem d_Ln_isAt_16 : decode b_Ln_isAt 16 = .ok (.iconst 0, 1) := by decide +kernel
theorem d_Ln_isAt_17 : decode b_Ln_isAt 17 = .ok (.ireturn, 1) := by decide +kernel
theorem d_Ln_isAt_18 : decode b_Ln_isAt 18 = .ok (.iconst 0, 1) := by decide +kernel
theorem d_Ln_isAt_19 : decode b_Ln_isAt 19 = .ok (.istore_n 2, 1) := by decide +kernel
theorem d_Ln_isAt_20 : decode b_Ln_isAt 20 = .ok (.iload_n 2, 1) := by decide +kernel
theorem d_Ln_isAt_21 : decode b_Ln_isAt 21 = .ok (.aload_n 1, 1) := by decide +kernel
theorem d_Ln_isAt_22 : decode b_Ln_isAt 22 = .ok (.invokevirtual 44, 3) := by decide +kernel
theorem d_Ln_isAt_25 : decode b_Ln_isAt 25 = .ok (.if_icmp .ge 32, 3) := by decide +kernel
theorem d_Ln_isAt_28 : decode b_Ln_isAt 28 = .ok (.aload_n 0, 1) := by decide +kernel
theorem d_Ln_isAt_29 : decode b_Ln_isAt 29 = .ok (.getfield 9, 3) := by decide +kernel
theorem d_Ln_isAt_32 : decode b_Ln_isAt 32 = .ok (.aload_n 0, 1) := by decide +kernel
theorem d_Ln_isAt_33 : decode b_Ln_isAt 33 = .ok (.getfield 37, 3) := by decide +kernel
theorem d_Ln_isAt_36 : decode b_Ln_isAt 36 = .ok (.iload_n 2, 1) := by decide +kernel
theorem d_Ln_isAt_37 : decode b_Ln_isAt 37 = .ok (.iadd, 1) := by decide +kernel
theorem d_Ln_isAt_38 : decode b_Ln_isAt 38 = .ok (.invokevirtual 22, 3) := by decide +kernel
theorem d_Ln_isAt_41 : decode b_Ln_isAt 41 = .ok (.aload_n 1, 1) := by decide +kernel
theorem d_Ln_isAt_42 : decode b_Ln_isAt 42 = .ok (.iload_n 2, 1) := by decide +kernel
theorem d_Ln_isAt_43 : decode b_Ln_isAt 43 = .ok (.invokevirtual 50, 3) := by decide +kernel
theorem d_Ln_isAt_46 : decode b_Ln_isAt 46 = .ok (.if_icmp .eq 5, 3) := by decide +kernel
theorem d_Ln_isAt_49 : decode b_Ln_isAt 49 = .ok (.iconst 0, 1) := by decide +kernel
theorem d_Ln_isAt_50 : decode b_Ln_isAt 50 = .ok (.ireturn, 1) := by decide +kernel
theorem d_Ln_isAt_51 : decode b_Ln_isAt 51 = .ok (.iinc 2 1, 3) := by decide +kernel
theorem d_Ln_isAt_54 : decode b_Ln_isAt 54 = .ok (.goto (-34), 3) := by decide +kernel
theorem d_Ln_isAt_57 : decode b_Ln_isAt 57 = .ok (.iconst 1, 1) := by decide +kernel
theorem d_Ln_isAt_58 : decode b_Ln_isAt 58 = .ok (.ireturn, 1) := by decide +kernel
theorem d_Ln_place_0 : decode b_Ln_place 0 = .ok (.aload_n 0, 1) := by decide +kernel
theorem d_Ln_place_1 : decode b_Ln_place 1 = .ok (.getfield 37, 3) := by decide +kernel
theorem d_Ln_place_4 : decode b_Ln_place 4 = .ok (.aload_n 0, 1) := by decide +kernel
theorem d_Ln_place_5 : decode b_Ln_place 5 = .ok (.getfield 15, 3) := by decide +kernel
theorem d_Ln_place_8 : decode b_Ln_place 8 = .ok (.isub, 1) := by decide +kernel
theorem d_Ln_place_9 : decode b_Ln_place 9 = .ok (.iconst 1, 1) := by decide +kernel
theorem d_Ln_place_10 : decode b_Ln_place 10 = .ok (.iadd, 1) := by decide +kernel
theorem d_Ln_place_11 : decode b_Ln_place 11 = .ok (.ireturn, 1) := by decide +kernel
theorem d_Ln_copyName_0 : decode b_Ln_copyName 0 = .ok (.iload_n 2, 1) := by decide +kernel
theorem d_Ln_copyName_1 : decode b_Ln_copyName 1 = .ok (.iconst 1, 1) := by decide +kernel
theorem d_Ln_copyName_2 : decode b_Ln_copyName 2 = .ok (.if_icmp .ne 7, 3) := by decide +kernel
theorem d_Ln_copyName_5 : decode b_Ln_copyName 5 = .ok (.iconst 1, 1) := by decide +kernel
theorem d_Ln_copyName_6 : decode b_Ln_copyName 6 = .ok (.goto 4, 3) := by decide +kernel
theorem d_Ln_copyName_9 : decode b_Ln_copyName 9 = .ok (.iconst 0, 1) := by decide +kernel
theorem d_Ln_copyName_10 : decode b_Ln_copyName 10 = .ok (.istore_n 3, 1) := by decide +kernel
theorem d_Ln_copyName_11 : decode b_Ln_copyName 11 = .ok (.aload_n 1, 1) := by decide +kernel
theorem d_Ln_copyName_12 : decode b_Ln_copyName 12 = .ok (.invokevirtual 54, 3) := by decide +kernel
theorem d_Ln_copyName_15 : decode b_Ln_copyName 15 = .ok (.aload_n 0, 1) := by decide +kernel
theorem d_Ln_copyName_16 : decode b_Ln_copyName 16 = .ok (.getfield 37, 3) := by decide +kernel
theorem d_Ln_copyName_19 : decode b_Ln_copyName 19 = .ok (.istore 4, 2) := by decide +kernel
theorem d_Ln_copyName_21 : decode b_Ln_copyName 21 = .ok (.iload 4, 2) := by decide +kernel
theorem d_Ln_copyName_23 : decode b_Ln_copyName 23 = .ok (.aload_n 0, 1) := by decide +kernel
theorem d_Ln_copyName_24 : decode b_Ln_copyName 24 = .ok (.getfield 31, 3) := by decide +kernel
theorem d_Ln_copyName_27 : decode b_Ln_copyName 27 = .ok (.if_icmp .ge 109, 3) := by decide +kernel
theorem d_Ln_copyName_30 : decode b_Ln_copyName 30 = .ok (.aload_n 0, 1) := by decide +kernel
theorem d_Ln_copyName_31 : decode b_Ln_copyName 31 = .ok (.getfield 9, 3) := by decide +kernel
theorem d_Ln_copyName_34 : decode b_Ln_copyName 34 = .ok (.iload 4, 2) := by decide +kernel
theorem d_Ln_copyName_36 : decode b_Ln_copyName 36 = .ok (.invokevirtual 22, 3) := by decide +kernel
theorem d_Ln_copyName_39 : decode b_Ln_copyName 39 = .ok (.istore 5, 2) := by decide +kernel
theorem d_Ln_copyName_41 : decode b_Ln_copyName 41 = .ok (.iload_n 3, 1) := by decide +kernel
theorem d_Ln_copyName_42 : decode b_Ln_copyName 42 = .ok (.ifCond .eq 30, 3) := by decide +kernel
theorem d_Ln_copyName_45 : decode b_Ln_copyName 45 = .ok (.iload 5, 2) := by decide +kernel
theorem d_Ln_copyName_47 : decode b_Ln_copyName 47 = .ok (.bipush 37, 2) := by decide +kernel
theorem d_Ln_copyName_49 : decode b_Ln_copyName 49 = .ok (.if_icmp .ne 23, 3) := by decide +kernel
theorem d_Ln_copyName_52 : decode b_Ln_copyName 52 = .ok (.aload_n 0, 1) := by decide +kernel
theorem d_Ln_copyName_53 : decode b_Ln_copyName 53 = .ok (.getfield 9, 3) := by decide +kernel
theorem d_Ln_copyName_56 : decode b_Ln_copyName 56 = .ok (.iload 4, 2) := by decide +kernel
theorem d_Ln_copyName_58 : decode b_Ln_copyName 58 = .ok (.iconst 1, 1) := by decide +kernel
theorem d_Ln_copyName_59 : decode b_Ln_copyName 59 = .ok (.iadd, 1) := by decide +kernel
theorem d_Ln_copyName_60 : decode b_Ln_copyName 60 = .ok (.invokevirtual 22, 3) := by decide +kernel
theorem d_Ln_copyName_63 : decode b_Ln_copyName 63 = .ok (.bipush 36, 2) := by decide +kernel
theorem d_Ln_copyName_65 : decode b_Ln_copyName 65 = .ok (.if_icmp .ne 7, 3) := by decide +kernel
theorem d_Ln_copyName_68 : decode b_Ln_copyName 68 = .ok (.iconst 1, 1) := by decide +kernel
theorem d_Ln_copyName_69 : decode b_Ln_copyName 69 = .ok (.goto 4, 3) := by decide +kernel
theorem d_Ln_copyName_72 : decode b_Ln_copyName 72 = .ok (.iconst 0, 1) := by decide +kernel
theorem d_Ln_copyName_73 : decode b_Ln_copyName 73 = .ok (.istore 6, 2) := by decide +kernel
theorem d_Ln_copyName_75 : decode b_Ln_copyName 75 = .ok (.iload_n 3, 1) := by decide +kernel
theorem d_Ln_copyName_76 : decode b_Ln_copyName 76 = .ok (.ifCond .eq 30, 3) := by decide +kernel
theorem d_Ln_copyName_79 : decode b_Ln_copyName 79 = .ok (.iload 5, 2) := by decide +kernel
theorem d_Ln_copyName_81 : decode b_Ln_copyName 81 = .ok (.bipush 36, 2) := by decide +kernel
theorem d_Ln_copyName_83 : decode b_Ln_copyName 83 = .ok (.if_icmp .ne 23, 3) := by decide +kernel
theorem d_Ln_copyName_86 : decode b_Ln_copyName 86 = .ok (.aload_n 0, 1) := by decide +kernel
theorem d_Ln_copyName_87 : decode b_Ln_copyName 87 = .ok (.getfield 9, 3) := by decide +kernel
theorem d_Ln_copyName_90 : decode b_Ln_copyName 90 = .ok (.iload 4, 2) := by decide +kernel
theorem d_Ln_copyName_92 : decode b_Ln_copyName 92 = .ok (.iconst 1, 1) := by decide +kernel
theorem d_Ln_copyName_93 : decode b_Ln_copyName 93 = .ok (.isub, 1) := by decide +kernel
theorem d_Ln_copyName_94 : decode b_Ln_copyName 94 = .ok (.invokevirtual 22, 3) := by decide +kernel
theorem d_Ln_copyName_97 : decode b_Ln_copyName 97 = .ok (.bipush 37, 2) := by decide +kernel
theorem d_Ln_copyName_99 : decode b_Ln_copyName 99 = .ok (.if_icmp .eq 7, 3) := by decide +kernel
theorem d_Ln_copyName_102 : decode b_Ln_copyName 102 = .ok (.iconst 1, 1) := by decide +kernel
theorem d_Ln_copyName_103 : decode b_Ln_copyName 103 = .ok (.goto 4, 3) := by decide +kernel
theorem d_Ln_copyName_106 : decode b_Ln_copyName 106 = .ok (.iconst 0, 1) := by decide +kernel
theorem d_Ln_copyName_107 : decode b_Ln_copyName 107 = .ok (.istore 7, 2) := by decide +kernel
theorem d_Ln_copyName_109 : decode b_Ln_copyName 109 = .ok (.iload 6, 2) := by decide +kernel
theorem d_Ln_copyName_111 : decode b_Ln_copyName 111 = .ok (.ifCond .ne 19, 3) := by decide +kernel
theorem d_Ln_copyName_114 : decode b_Ln_copyName 114 = .ok (.aload_n 1, 1) := by decide +kernel
theorem d_Ln_copyName_115 : decode b_Ln_copyName 115 = .ok (.iload 7, 2) := by decide +kernel
theorem d_Ln_copyName_117 : decode b_Ln_copyName 117 = .ok (.ifCond .eq 8, 3) := by decide +kernel
theorem d_Ln_copyName_120 : decode b_Ln_copyName 120 = .ok (.bipush 37, 2) := by decide +kernel
theorem d_Ln_copyName_122 : decode b_Ln_copyName 122 = .ok (.goto 5, 3) := by decide +kernel
theorem d_Ln_copyName_125 : decode b_Ln_copyName 125 = .ok (.iload 5, 2) := by decide +kernel
theorem d_Ln_copyName_127 : decode b_Ln_copyName 127 = .ok (.invokevirtual 57, 3) := by decide +kernel
theorem d_Ln_copyName_130 : decode b_Ln_copyName 130 = .ok (.iinc 4 1, 3) := by decide +kernel
theorem d_Ln_copyName_133 : decode b_Ln_copyName 133 = .ok (.goto (-112), 3) := by decide +kernel
theorem d_Ln_copyName_136 : decode b_Ln_copyName 136 = .ok (.return_, 1) := by decide +kernel
theorem d_Sf_alike_0 : decode b_Sf_alike 0 = .ok (.iconst 0, 1) := by decide +kernel
theorem d_Sf_alike_1 : decode b_Sf_alike 1 = .ok (.istore_n 2, 1) := by decide +kernel
theorem d_Sf_alike_2 : decode b_Sf_alike 2 = .ok (.iload_n 2, 1) := by decide +kernel
theorem d_Sf_alike_3 : decode b_Sf_alike 3 = .ok (.aload_n 0, 1) := by decide +kernel
theorem d_Sf_alike_4 : decode b_Sf_alike 4 = .ok (.getfield 20, 3) := by decide +kernel
theorem d_Sf_alike_7 : decode b_Sf_alike 7 = .ok (.if_icmp .ge 29, 3) := by decide +kernel
theorem d_Sf_alike_10 : decode b_Sf_alike 10 = .ok (.aload_n 0, 1) := by decide +kernel
theorem d_Sf_alike_11 : decode b_Sf_alike 11 = .ok (.iload_n 2, 1) := by decide +kernel
theorem d_Sf_alike_12 : decode b_Sf_alike 12 = .ok (.invokevirtual 36, 3) := by decide +kernel
theorem d_Sf_alike_15 : decode b_Sf_alike 15 = .ok (.astore_n 3, 1) := by decide +kernel
theorem d_Sf_alike_16 : decode b_Sf_alike 16 = .ok (.aload_n 3, 1) := by decide +kernel
theorem d_Sf_alike_17 : decode b_Sf_alike 17 = .ok (.ifnull 13, 3) := by decide +kernel
theorem d_Sf_alike_20 : decode b_Sf_alike 20 = .ok (.aload_n 3, 1) := by decide +kernel
theorem d_Sf_alike_21 : decode b_Sf_alike 21 = .ok (.aload_n 1, 1) := by decide +kernel
theorem d_Sf_alike_22 : decode b_Sf_alike 22 = .ok (.invokevirtual 39, 3) := by decide +kernel
theorem d_Sf_alike_25 : decode b_Sf_alike 25 = .ok (.ifCond .ne 5, 3) := by decide +kernel
theorem d_Sf_alike_28 : decode b_Sf_alike 28 = .ok (.aload_n 3, 1) := by decide +kernel
theorem d_Sf_alike_29 : decode b_Sf_alike 29 = .ok (.areturn, 1) := by decide +kernel
theorem d_Sf_alike_30 : decode b_Sf_alike 30 = .ok (.iinc 2 1, 3) := by decide +kernel
theorem d_Sf_alike_33 : decode b_Sf_alike 33 = .ok (.goto (-31), 3) := by decide +kernel
theorem d_Sf_alike_36 : decode b_Sf_alike 36 = .ok (.aconst_null, 1) := by decide +kernel
theorem d_Sf_alike_37 : decode b_Sf_alike 37 = .ok (.areturn, 1) := by decide +kernel
theorem d_Sf_get_0 : decode b_Sf_get 0 = .ok (.iload_n 1, 1) := by decide +kernel
theorem d_Sf_get_1 : decode b_Sf_get 1 = .ok (.ifCond .lt 36, 3) := by decide +kernel
theorem d_Sf_get_4 : decode b_Sf_get 4 = .ok (.iload_n 1, 1) := by decide +kernel
theorem d_Sf_get_5 : decode b_Sf_get 5 = .ok (.aload_n 0, 1) := by decide +kernel
theorem d_Sf_get_6 : decode b_Sf_get 6 = .ok (.getfield 20, 3) := by decide +kernel
theorem d_Sf_get_9 : decode b_Sf_get 9 = .ok (.if_icmp .ge 28, 3) := by decide +kernel
theorem d_Sf_get_12 : decode b_Sf_get 12 = .ok (.iload_n 1, 1) := by decide +kernel
theorem d_Sf_get_13 : decode b_Sf_get 13 = .ok (.aload_n 0, 1) := by decide +kernel
theorem d_Sf_get_14 : decode b_Sf_get 14 = .ok (.getfield 10, 3) := by decide +kernel
theorem d_Sf_get_17 : decode b_Sf_get 17 = .ok (.invokevirtual 23, 3) := by decide +kernel
theorem d_Sf_get_20 : decode b_Sf_get 20 = .ok (.if_icmp .ge 17, 3) := by decide +kernel
theorem d_Sf_get_23 : decode b_Sf_get 23 = .ok (.aload_n 0, 1) := by decide +kernel
theorem d_Sf_get_24 : decode b_Sf_get 24 = .ok (.getfield 10, 3) := by decide +kernel
theorem d_Sf_get_27 : decode b_Sf_get 27 = .ok (.iload_n 1, 1) := by decide +kernel
theorem d_Sf_get_28 : decode b_Sf_get 28 = .ok (.invokevirtual 27, 3) := by decide +kernel
theorem d_Sf_get_31 : decode b_Sf_get 31 = .ok (.checkcast 31, 3) := by decide +kernel
theorem d_Sf_get_34 : decode b_Sf_get 34 = .ok (.goto 4, 3) := by decide +kernel
theorem d_Sf_get_37 : decode b_Sf_get 37 = .ok (.aconst_null, 1) := by decide +kernel
theorem d_Sf_get_38 : decode b_Sf_get 38 = .ok (.areturn, 1) := by decide +kernel
theorem d_Sf_isFull_0 : decode b_Sf_isFull 0 = .ok (.aload_n 0, 1) := by decide +kernel
theorem d_Sf_isFull_1 : decode b_Sf_isFull 1 = .ok (.getfield 20, 3) := by decide +kernel
theorem d_Sf_isFull_4 : decode b_Sf_isFull 4 = .ok (.aload_n 0, 1) := by decide +kernel
theorem d_Sf_isFull_5 : decode b_Sf_isFull 5 = .ok (.getfield 16, 3) := by decide +kernel
theorem d_Sf_isFull_8 : decode b_Sf_isFull 8 = .ok (.if_icmp .lt 7, 3) := by decide +kernel
theorem d_Sf_isFull_11 : decode b_Sf_isFull 11 = .ok (.iconst 1, 1) := by decide +kernel
theorem d_Sf_isFull_12 : decode b_Sf_isFull 12 = .ok (.goto 4, 3) := by decide +kernel
theorem d_Sf_isFull_15 : decode b_Sf_isFull 15 = .ok (.iconst 0, 1) := by decide +kernel
theorem d_Sf_isFull_16 : decode b_Sf_isFull 16 = .ok (.ireturn, 1) := by decide +kernel
theorem d_Tp_addMember_0 : decode b_Tp_addMember 0 = .ok (.aload_n 0, 1) := by decide +kernel
theorem d_Tp_addMember_1 : decode b_Tp_addMember 1 = .ok (.getfield 14, 3) := by decide +kernel
theorem d_Tp_addMember_4 : decode b_Tp_addMember 4 = .ok (.invokevirtual 20, 3) := by decide +kernel
theorem d_Tp_addMember_7 : decode b_Tp_addMember 7 = .ok (.astore_n 2, 1) := by decide +kernel
theorem d_Tp_addMember_8 : decode b_Tp_addMember 8 = .ok (.aload_n 2, 1) := by decide +kernel
theorem d_Tp_addMember_9 : decode b_Tp_addMember 9 = .ok (.ifnonnull 13, 3) := by decide +kernel
theorem d_Tp_addMember_12 : decode b_Tp_addMember 12 = .ok (.new 4, 3) := by decide +kernel
theorem d_Tp_addMember_15 : decode b_Tp_addMember 15 = .ok (.dup, 1) := by decide +kernel
theorem d_Tp_addMember_16 : decode b_Tp_addMember 16 = .ok (.invokespecial 3, 3) := by decide +kernel
theorem d_Tp_addMember_19 : decode b_Tp_addMember 19 = .ok (.goto 4, 3) := by decide +kernel
theorem d_Tp_addMember_22 : decode b_Tp_addMember 22 = .ok (.aload_n 2, 1) := by decide +kernel
theorem d_Tp_addMember_23 : decode b_Tp_addMember 23 = .ok (.astore_n 3, 1) := by decide +kernel
theorem d_Tp_addMember_24 : decode b_Tp_addMember 24 = .ok (.aload_n 3, 1) := by decide +kernel
theorem d_Tp_addMember_25 : decode b_Tp_addMember 25 = .ok (.aload_n 1, 1) := by decide +kernel
theorem d_Tp_addMember_26 : decode b_Tp_addMember 26 = .ok (.invokevirtual 24, 3) := by decide +kernel
theorem d_Tp_addMember_29 : decode b_Tp_addMember 29 = .ok (.aload_n 0, 1) := by decide +kernel
theorem d_Tp_addMember_30 : decode b_Tp_addMember 30 = .ok (.getfield 14, 3) := by decide +kernel
theorem d_Tp_addMember_33 : decode b_Tp_addMember 33 = .ok (.aload_n 3, 1) := by decide +kernel
theorem d_Tp_addMember_34 : decode b_Tp_addMember 34 = .ok (.invokevirtual 28, 3) := by decide +kernel
theorem d_Tp_addMember_37 : decode b_Tp_addMember 37 = .ok (.return_, 1) := by decide +kernel
theorem d_Sf_takeSpare_0 : decode b_Sf_takeSpare 0 = .ok (.aload_n 0, 1) := by decide +kernel
theorem d_Sf_takeSpare_1 : decode b_Sf_takeSpare 1 = .ok (.getfield 20, 3) := by decide +kernel
theorem d_Sf_takeSpare_4 : decode b_Sf_takeSpare 4 = .ok (.aload_n 0, 1) := by decide +kernel
theorem d_Sf_takeSpare_5 : decode b_Sf_takeSpare 5 = .ok (.getfield 10, 3) := by decide +kernel
theorem d_Sf_takeSpare_8 : decode b_Sf_takeSpare 8 = .ok (.invokevirtual 23, 3) := by decide +kernel
theorem d_Sf_takeSpare_11 : decode b_Sf_takeSpare 11 = .ok (.if_icmp .ge 20, 3) := by decide +kernel
theorem d_Sf_takeSpare_14 : decode b_Sf_takeSpare 14 = .ok (.aload_n 0, 1) := by decide +kernel
theorem d_Sf_takeSpare_15 : decode b_Sf_takeSpare 15 = .ok (.getfield 10, 3) := by decide +kernel
theorem d_Sf_takeSpare_18 : decode b_Sf_takeSpare 18 = .ok (.aload_n 0, 1) := by decide +kernel
theorem d_Sf_takeSpare_19 : decode b_Sf_takeSpare 19 = .ok (.getfield 20, 3) := by decide +kernel
theorem d_Sf_takeSpare_22 : decode b_Sf_takeSpare 22 = .ok (.invokevirtual 33, 3) := by decide +kernel
theorem d_Sf_takeSpare_25 : decode b_Sf_takeSpare 25 = .ok (.checkcast 31, 3) := by decide +kernel
theorem d_Sf_takeSpare_28 : decode b_Sf_takeSpare 28 = .ok (.goto 4, 3) := by decide +kernel
theorem d_Sf_takeSpare_31 : decode b_Sf_takeSpare 31 = .ok (.aconst_null, 1) := by decide +kernel
theorem d_Sf_takeSpare_32 : decode b_Sf_takeSpare 32 = .ok (.areturn, 1) := by decide +kernel
theorem d_Sf_put_0 : decode b_Sf_put 0 = .ok (.iconst 0, 1) := by decide +kernel
theorem d_Sf_put_1 : decode b_Sf_put 1 = .ok (.istore_n 2, 1) := by decide +kernel
theorem d_Sf_put_2 : decode b_Sf_put 2 = .ok (.iconst 0, 1) := by decide +kernel
theorem d_Sf_put_3 : decode b_Sf_put 3 = .ok (.istore_n 3, 1) := by decide +kernel
theorem d_Sf_put_4 : decode b_Sf_put 4 = .ok (.iload_n 3, 1) := by decide +kernel
theorem d_Sf_put_5 : decode b_Sf_put 5 = .ok (.aload_n 0, 1) := by decide +kernel
theorem d_Sf_put_6 : decode b_Sf_put 6 = .ok (.getfield 20, 3) := by decide +kernel
theorem d_Sf_put_9 : decode b_Sf_put 9 = .ok (.if_icmp .ge 34, 3) := by decide +kernel
theorem d_Sf_put_12 : decode b_Sf_put 12 = .ok (.aload_n 0, 1) := by decide +kernel
theorem d_Sf_put_13 : decode b_Sf_put 13 = .ok (.iload_n 3, 1) := by decide +kernel
theorem d_Sf_put_14 : decode b_Sf_put 14 = .ok (.invokevirtual 36, 3) := by decide +kernel
theorem d_Sf_put_17 : decode b_Sf_put 17 = .ok (.astore 4, 2) := by decide +kernel
theorem d_Sf_put_19 : decode b_Sf_put 19 = .ok (.aload 4, 2) := by decide +kernel
theorem d_Sf_put_21 : decode b_Sf_put 21 = .ok (.ifnull 16, 3) := by decide +kernel
theorem d_Sf_put_24 : decode b_Sf_put 24 = .ok (.aload 4, 2) := by decide +kernel
theorem d_Sf_put_26 : decode b_Sf_put 26 = .ok (.aload_n 1, 1) := by decide +kernel
theorem d_Sf_put_27 : decode b_Sf_put 27 = .ok (.invokevirtual 39, 3) := by decide +kernel
theorem d_Sf_put_30 : decode b_Sf_put 30 = .ok (.ifCond .ge 7, 3) := by decide +kernel
theorem d_Sf_put_33 : decode b_Sf_put 33 = .ok (.iload_n 3, 1) := by decide +kernel
theorem d_Sf_put_34 : decode b_Sf_put 34 = .ok (.iconst 1, 1) := by decide +kernel
theorem d_Sf_put_35 : decode b_Sf_put 35 = .ok (.iadd, 1) := by decide +kernel
theorem d_Sf_put_36 : decode b_Sf_put 36 = .ok (.istore_n 2, 1) := by decide +kernel
theorem d_Sf_put_37 : decode b_Sf_put 37 = .ok (.iinc 3 1, 3) := by decide +kernel
theorem d_Sf_put_40 : decode b_Sf_put 40 = .ok (.goto (-36), 3) := by decide +kernel
theorem d_Sf_put_43 : decode b_Sf_put 43 = .ok (.aload_n 0, 1) := by decide +kernel
theorem d_Sf_put_44 : decode b_Sf_put 44 = .ok (.getfield 10, 3) := by decide +kernel
theorem d_Sf_put_47 : decode b_Sf_put 47 = .ok (.iload_n 2, 1) := by decide +kernel
theorem d_Sf_put_48 : decode b_Sf_put 48 = .ok (.aload_n 1, 1) := by decide +kernel
theorem d_Sf_put_49 : decode b_Sf_put 49 = .ok (.invokevirtual 43, 3) := by decide +kernel
theorem d_Sf_put_52 : decode b_Sf_put 52 = .ok (.aload_n 0, 1) := by decide +kernel
theorem d_Sf_put_53 : decode b_Sf_put 53 = .ok (.dup, 1) := by decide +kernel
theorem d_Sf_put_54 : decode b_Sf_put 54 = .ok (.getfield 20, 3) := by decide +kernel
theorem d_Sf_put_57 : decode b_Sf_put 57 = .ok (.iconst 1, 1) := by decide +kernel
theorem d_Sf_put_58 : decode b_Sf_put 58 = .ok (.iadd, 1) := by decide +kernel
theorem d_Sf_put_59 : decode b_Sf_put 59 = .ok (.putfield 20, 3) := by decide +kernel
theorem d_Sf_put_62 : decode b_Sf_put 62 = .ok (.return_, 1) := by decide +kernel
theorem d_Bl_named_0 : decode b_Bl_named 0 = .ok (.iconst 0, 1) := by decide +kernel
theorem d_Bl_named_1 : decode b_Bl_named 1 = .ok (.istore_n 2, 1) := by decide +kernel
theorem d_Bl_named_2 : decode b_Bl_named 2 = .ok (.iload_n 2, 1) := by decide +kernel
theorem d_Bl_named_3 : decode b_Bl_named 3 = .ok (.aload_n 0, 1) := by decide +kernel
theorem d_Bl_named_4 : decode b_Bl_named 4 = .ok (.getfield 14, 3) := by decide +kernel
theorem d_Bl_named_7 : decode b_Bl_named 7 = .ok (.invokevirtual 27, 3) := by decide +kernel
theorem d_Bl_named_10 : decode b_Bl_named 10 = .ok (.if_icmp .ge 38, 3) := by decide +kernel
theorem d_Bl_named_13 : decode b_Bl_named 13 = .ok (.aload_n 0, 1) := by decide +kernel
theorem d_Bl_named_14 : decode b_Bl_named 14 = .ok (.getfield 14, 3) := by decide +kernel
theorem d_Bl_named_17 : decode b_Bl_named 17 = .ok (.iload_n 2, 1) := by decide +kernel
theorem d_Bl_named_18 : decode b_Bl_named 18 = .ok (.invokevirtual 31, 3) := by decide +kernel
theorem d_Bl_named_21 : decode b_Bl_named 21 = .ok (.checkcast 35, 3) := by decide +kernel
theorem d_Bl_named_24 : decode b_Bl_named 24 = .ok (.astore_n 3, 1) := by decide +kernel
theorem d_Bl_named_25 : decode b_Bl_named 25 = .ok (.aload_n 3, 1) := by decide +kernel
theorem d_Bl_named_26 : decode b_Bl_named 26 = .ok (.ifnull 16, 3) := by decide +kernel
theorem d_Bl_named_29 : decode b_Bl_named 29 = .ok (.aload_n 3, 1) := by decide +kernel
theorem d_Bl_named_30 : decode b_Bl_named 30 = .ok (.getfield 37, 3) := by decide +kernel
theorem d_Bl_named_33 : decode b_Bl_named 33 = .ok (.aload_n 1, 1) := by decide +kernel
theorem d_Bl_named_34 : decode b_Bl_named 34 = .ok (.invokevirtual 41, 3) := by decide +kernel
theorem d_Bl_named_37 : decode b_Bl_named 37 = .ok (.ifCond .ne 5, 3) := by decide +kernel
theorem d_Bl_named_40 : decode b_Bl_named 40 = .ok (.aload_n 3, 1) := by decide +kernel
theorem d_Bl_named_41 : decode b_Bl_named 41 = .ok (.areturn, 1) := by decide +kernel
theorem d_Bl_named_42 : decode b_Bl_named 42 = .ok (.iinc 2 1, 3) := by decide +kernel
theorem d_Bl_named_45 : decode b_Bl_named 45 = .ok (.goto (-43), 3) := by decide +kernel
theorem d_Bl_named_48 : decode b_Bl_named 48 = .ok (.aconst_null, 1) := by decide +kernel
theorem d_Bl_named_49 : decode b_Bl_named 49 = .ok (.areturn, 1) := by decide +kernel
theorem d_Sf_count_0 : decode b_Sf_count 0 = .ok (.aload_n 0, 1) := by decide +kernel
theorem d_Sf_count_1 : decode b_Sf_count 1 = .ok (.getfield 20, 3) := by decide +kernel
theorem d_Sf_count_4 : decode b_Sf_count 4 = .ok (.ireturn, 1) := by decide +kernel
theorem d_Bl_addType_0 : decode b_Bl_addType 0 = .ok (.aload_n 0, 1) := by decide +kernel
theorem d_Bl_addType_1 : decode b_Bl_addType 1 = .ok (.getfield 14, 3) := by decide +kernel
theorem d_Bl_addType_4 : decode b_Bl_addType 4 = .ok (.invokevirtual 47, 3) := by decide +kernel
theorem d_Bl_addType_7 : decode b_Bl_addType 7 = .ok (.checkcast 35, 3) := by decide +kernel
theorem d_Bl_addType_10 : decode b_Bl_addType 10 = .ok (.astore_n 2, 1) := by decide +kernel
theorem d_Bl_addType_11 : decode b_Bl_addType 11 = .ok (.aload_n 2, 1) := by decide +kernel
theorem d_Bl_addType_12 : decode b_Bl_addType 12 = .ok (.ifnonnull 13, 3) := by decide +kernel
theorem d_Bl_addType_15 : decode b_Bl_addType 15 = .ok (.new 35, 3) := by decide +kernel
theorem d_Bl_addType_18 : decode b_Bl_addType 18 = .ok (.dup, 1) := by decide +kernel
theorem d_Bl_addType_19 : decode b_Bl_addType 19 = .ok (.invokespecial 51, 3) := by decide +kernel
theorem d_Bl_addType_22 : decode b_Bl_addType 22 = .ok (.goto 4, 3) := by decide +kernel
theorem d_Bl_addType_25 : decode b_Bl_addType 25 = .ok (.aload_n 2, 1) := by decide +kernel
theorem d_Bl_addType_26 : decode b_Bl_addType 26 = .ok (.astore_n 3, 1) := by decide +kernel
theorem d_Bl_addType_27 : decode b_Bl_addType 27 = .ok (.aload_n 3, 1) := by decide +kernel
theorem d_Bl_addType_28 : decode b_Bl_addType 28 = .ok (.aload_n 1, 1) := by decide +kernel
theorem d_Bl_addType_29 : decode b_Bl_addType 29 = .ok (.invokevirtual 52, 3) := by decide +kernel
theorem d_Bl_addType_32 : decode b_Bl_addType 32 = .ok (.aload_n 3, 1) := by decide +kernel
theorem d_Bl_addType_33 : decode b_Bl_addType 33 = .ok (.getfield 56, 3) := by decide +kernel
theorem d_Bl_addType_36 : decode b_Bl_addType 36 = .ok (.invokevirtual 24, 3) := by decide +kernel
theorem d_Bl_addType_39 : decode b_Bl_addType 39 = .ok (.aload_n 0, 1) := by decide +kernel
theorem d_Bl_addType_40 : decode b_Bl_addType 40 = .ok (.getfield 14, 3) := by decide +kernel
theorem d_Bl_addType_43 : decode b_Bl_addType 43 = .ok (.aload_n 3, 1) := by decide +kernel
theorem d_Bl_addType_44 : decode b_Bl_addType 44 = .ok (.invokevirtual 59, 3) := by decide +kernel
theorem d_Bl_addType_47 : decode b_Bl_addType 47 = .ok (.aload_n 3, 1) := by decide +kernel
theorem d_Bl_addType_48 : decode b_Bl_addType 48 = .ok (.areturn, 1) := by decide +kernel
theorem d_Tp_init_0 : decode b_Tp_init 0 = .ok (.aload_n 0, 1) := by decide +kernel
theorem d_Tp_init_1 : decode b_Tp_init 1 = .ok (.invokespecial 3, 3) := by decide +kernel
theorem d_Tp_init_4 : decode b_Tp_init 4 = .ok (.aload_n 0, 1) := by decide +kernel
theorem d_Tp_init_5 : decode b_Tp_init 5 = .ok (.new 9, 3) := by decide +kernel
theorem d_Tp_init_8 : decode b_Tp_init 8 = .ok (.dup, 1) := by decide +kernel
theorem d_Tp_init_9 : decode b_Tp_init 9 = .ok (.bipush 8, 2) := by decide +kernel
theorem d_Tp_init_11 : decode b_Tp_init 11 = .ok (.invokespecial 11, 3) := by decide +kernel
theorem d_Tp_init_14 : decode b_Tp_init 14 = .ok (.putfield 14, 3) := by decide +kernel
theorem d_Tp_init_17 : decode b_Tp_init 17 = .ok (.return_, 1) := by decide +kernel
theorem d_Bl_addForm_0 : decode b_Bl_addForm 0 = .ok (.aload_n 1, 1) := by decide +kernel
theorem d_Bl_addForm_1 : decode b_Bl_addForm 1 = .ok (.ldc 62, 2) := by decide +kernel
theorem d_Bl_addForm_3 : decode b_Bl_addForm 3 = .ok (.invokevirtual 64, 3) := by decide +kernel
theorem d_Bl_addForm_6 : decode b_Bl_addForm 6 = .ok (.aload_n 1, 1) := by decide +kernel
theorem d_Bl_addForm_7 : decode b_Bl_addForm 7 = .ok (.bipush 48, 2) := by decide +kernel
theorem d_Bl_addForm_9 : decode b_Bl_addForm 9 = .ok (.aload_n 0, 1) := by decide +kernel
theorem d_Bl_addForm_10 : decode b_Bl_addForm 10 = .ok (.getfield 20, 3) := by decide +kernel
theorem d_Bl_addForm_13 : decode b_Bl_addForm 13 = .ok (.iadd, 1) := by decide +kernel
theorem d_Bl_addForm_14 : decode b_Bl_addForm 14 = .ok (.invokevirtual 68, 3) := by decide +kernel
theorem d_Bl_addForm_17 : decode b_Bl_addForm 17 = .ok (.aload_n 1, 1) := by decide +kernel
theorem d_Bl_addForm_18 : decode b_Bl_addForm 18 = .ok (.bipush 10, 2) := by decide +kernel
theorem d_Bl_addForm_20 : decode b_Bl_addForm 20 = .ok (.invokevirtual 68, 3) := by decide +kernel
theorem d_Bl_addForm_23 : decode b_Bl_addForm 23 = .ok (.iconst 0, 1) := by decide +kernel
theorem d_Bl_addForm_24 : decode b_Bl_addForm 24 = .ok (.istore_n 2, 1) := by decide +kernel
theorem d_Bl_addForm_25 : decode b_Bl_addForm 25 = .ok (.iload_n 2, 1) := by decide +kernel
theorem d_Bl_addForm_26 : decode b_Bl_addForm 26 = .ok (.aload_n 0, 1) := by decide +kernel
theorem d_Bl_addForm_27 : decode b_Bl_addForm 27 = .ok (.getfield 14, 3) := by decide +kernel
theorem d_Bl_addForm_30 : decode b_Bl_addForm 30 = .ok (.invokevirtual 27, 3) := by decide +kernel
theorem d_Bl_addForm_33 : decode b_Bl_addForm 33 = .ok (.if_icmp .ge 44, 3) := by decide +kernel
theorem d_Bl_addForm_36 : decode b_Bl_addForm 36 = .ok (.aload_n 0, 1) := by decide +kernel
theorem d_Bl_addForm_37 : decode b_Bl_addForm 37 = .ok (.getfield 14, 3) := by decide +kernel
theorem d_Bl_addForm_40 : decode b_Bl_addForm 40 = .ok (.iload_n 2, 1) := by decide +kernel
theorem d_Bl_addForm_41 : decode b_Bl_addForm 41 = .ok (.invokevirtual 31, 3) := by decide +kernel
theorem d_Bl_addForm_44 : decode b_Bl_addForm 44 = .ok (.checkcast 35, 3) := by decide +kernel
theorem d_Bl_addForm_47 : decode b_Bl_addForm 47 = .ok (.astore_n 3, 1) := by decide +kernel
theorem d_Bl_addForm_48 : decode b_Bl_addForm 48 = .ok (.aload_n 3, 1) := by decide +kernel
theorem d_Bl_addForm_49 : decode b_Bl_addForm 49 = .ok (.ifnull 22, 3) := by decide +kernel
theorem d_Bl_addForm_52 : decode b_Bl_addForm 52 = .ok (.aload_n 3, 1) := by decide +kernel
theorem d_Bl_addForm_53 : decode b_Bl_addForm 53 = .ok (.aload_n 1, 1) := by decide +kernel
theorem d_Bl_addForm_54 : decode b_Bl_addForm 54 = .ok (.iconst 0, 1) := by decide +kernel
theorem d_Bl_addForm_55 : decode b_Bl_addForm 55 = .ok (.aload_n 0, 1) := by decide +kernel
theorem d_Bl_addForm_56 : decode b_Bl_addForm 56 = .ok (.getfield 20, 3) := by decide +kernel
theorem d_Bl_addForm_59 : decode b_Bl_addForm 59 = .ok (.invokevirtual 71, 3) := by decide +kernel
theorem d_Bl_addForm_62 : decode b_Bl_addForm 62 = .ok (.aload_n 0, 1) := by decide +kernel
theorem d_Bl_addForm_63 : decode b_Bl_addForm 63 = .ok (.aload_n 1, 1) := by decide +kernel
theorem d_Bl_addForm_64 : decode b_Bl_addForm 64 = .ok (.aload_n 3, 1) := by decide +kernel
theorem d_Bl_addForm_65 : decode b_Bl_addForm 65 = .ok (.getfield 56, 3) := by decide +kernel
theorem d_Bl_addForm_68 : decode b_Bl_addForm 68 = .ok (.invokevirtual 75, 3) := by decide +kernel
theorem d_Bl_addForm_71 : decode b_Bl_addForm 71 = .ok (.iinc 2 1, 3) := by decide +kernel
theorem d_Bl_addForm_74 : decode b_Bl_addForm 74 = .ok (.goto (-49), 3) := by decide +kernel
theorem d_Bl_addForm_77 : decode b_Bl_addForm 77 = .ok (.return_, 1) := by decide +kernel
theorem d_Bl_addMemberLines_0 : decode b_Bl_addMemberLines 0 = .ok (.iconst 0, 1) := by decide +kernel
theorem d_Bl_addMemberLines_1 : decode b_Bl_addMemberLines 1 = .ok (.istore_n 3, 1) := by decide +kernel
theorem d_Bl_addMemberLines_2 : decode b_Bl_addMemberLines 2 = .ok (.iload_n 3, 1) := by decide +kernel
theorem d_Bl_addMemberLines_3 : decode b_Bl_addMemberLines 3 = .ok (.aload_n 2, 1) := by decide +kernel
theorem d_Bl_addMemberLines_4 : decode b_Bl_addMemberLines 4 = .ok (.invokevirtual 27, 3) := by decide +kernel
theorem d_Bl_addMemberLines_7 : decode b_Bl_addMemberLines 7 = .ok (.if_icmp .ge 32, 3) := by decide +kernel
theorem d_Bl_addMemberLines_10 : decode b_Bl_addMemberLines 10 = .ok (.aload_n 2, 1) := by decide +kernel
theorem d_Bl_addMemberLines_11 : decode b_Bl_addMemberLines 11 = .ok (.iload_n 3, 1) := by decide +kernel
theorem d_Bl_addMemberLines_12 : decode b_Bl_addMemberLines 12 = .ok (.invokevirtual 31, 3) := by decide +kernel
theorem d_Bl_addMemberLines_15 : decode b_Bl_addMemberLines 15 = .ok (.astore 4, 2) := by decide +kernel
theorem d_Bl_addMemberLines_17 : decode b_Bl_addMemberLines 17 = .ok (.aload 4, 2) := by decide +kernel
theorem d_Bl_addMemberLines_19 : decode b_Bl_addMemberLines 19 = .ok (.ifnull 14, 3) := by decide +kernel
theorem d_Bl_addMemberLines_22 : decode b_Bl_addMemberLines 22 = .ok (.aload 4, 2) := by decide +kernel
theorem d_Bl_addMemberLines_24 : decode b_Bl_addMemberLines 24 = .ok (.aload_n 1, 1) := by decide +kernel
theorem d_Bl_addMemberLines_25 : decode b_Bl_addMemberLines 25 = .ok (.iconst 1, 1) := by decide +kernel
theorem d_Bl_addMemberLines_26 : decode b_Bl_addMemberLines 26 = .ok (.aload_n 0, 1) := by decide +kernel
theorem d_Bl_addMemberLines_27 : decode b_Bl_addMemberLines 27 = .ok (.getfield 20, 3) := by decide +kernel
theorem d_Bl_addMemberLines_30 : decode b_Bl_addMemberLines 30 = .ok (.invokevirtual 79, 3) := by decide +kernel
theorem d_Bl_addMemberLines_33 : decode b_Bl_addMemberLines 33 = .ok (.iinc 3 1, 3) := by decide +kernel
theorem d_Bl_addMemberLines_36 : decode b_Bl_addMemberLines 36 = .ok (.goto (-34), 3) := by decide +kernel
theorem d_Bl_addMemberLines_39 : decode b_Bl_addMemberLines 39 = .ok (.return_, 1) := by decide +kernel
theorem d_Bl_firstDifference_0 : decode b_Bl_firstDifference 0 = .ok (.aload_n 0, 1) := by decide +kernel
theorem d_Bl_firstDifference_1 : decode b_Bl_firstDifference 1 = .ok (.getfield 20, 3) := by decide +kernel
theorem d_Bl_firstDifference_4 : decode b_Bl_firstDifference 4 = .ok (.aload_n 1, 1) := by decide +kernel
theorem d_Bl_firstDifference_5 : decode b_Bl_firstDifference 5 = .ok (.getfield 20, 3) := by decide +kernel
theorem d_Bl_firstDifference_8 : decode b_Bl_firstDifference 8 = .ok (.if_icmp .eq 5, 3) := by decide +kernel
theorem d_Bl_firstDifference_11 : decode b_Bl_firstDifference 11 = .ok (.iconst 1, 1) := by decide +kernel
theorem d_Bl_firstDifference_12 : decode b_Bl_firstDifference 12 = .ok (.ireturn, 1) := by decide +kernel
theorem d_Bl_firstDifference_13 : decode b_Bl_firstDifference 13 = .ok (.iconst 2, 1) := by decide +kernel
theorem d_Bl_firstDifference_14 : decode b_Bl_firstDifference 14 = .ok (.istore_n 2, 1) := by decide +kernel
theorem d_Bl_firstDifference_15 : decode b_Bl_firstDifference 15 = .ok (.iconst 0, 1) := by decide +kernel
theorem d_Bl_firstDifference_16 : decode b_Bl_firstDifference 16 = .ok (.istore_n 3, 1) := by decide +kernel
theorem d_Bl_firstDifference_17 : decode b_Bl_firstDifference 17 = .ok (.iload_n 3, 1) := by decide +kernel
theorem d_Bl_firstDifference_18 : decode b_Bl_firstDifference 18 = .ok (.bipush 12, 2) := by decide +kernel
theorem d_Bl_firstDifference_20 : decode b_Bl_firstDifference 20 = .ok (.if_icmp .ge 117, 3) := by decide +kernel
theorem d_Bl_firstDifference_23 : decode b_Bl_firstDifference 23 = .ok (.aload_n 0, 1) := by decide +kernel
theorem d_Bl_firstDifference_24 : decode b_Bl_firstDifference 24 = .ok (.getfield 14, 3) := by decide +kernel
theorem d_Bl_firstDifference_27 : decode b_Bl_firstDifference 27 = .ok (.iload_n 3, 1) := by decide +kernel
theorem d_Bl_firstDifference_28 : decode b_Bl_firstDifference 28 = .ok (.invokevirtual 31, 3) := by decide +kernel
theorem d_Bl_firstDifference_31 : decode b_Bl_firstDifference 31 = .ok (.checkcast 35, 3) := by decide +kernel
theorem d_Bl_firstDifference_34 : decode b_Bl_firstDifference 34 = .ok (.astore 4, 2) := by decide +kernel
theorem d_Bl_firstDifference_36 : decode b_Bl_firstDifference 36 = .ok (.aload_n 1, 1) := by decide +kernel
theorem d_Bl_firstDifference_37 : decode b_Bl_firstDifference 37 = .ok (.getfield 14, 3) := by decide +kernel
theorem d_Bl_firstDifference_40 : decode b_Bl_firstDifference 40 = .ok (.iload_n 3, 1) := by decide +kernel
theorem d_Bl_firstDifference_41 : decode b_Bl_firstDifference 41 = .ok (.invokevirtual 31, 3) := by decide +kernel
theorem d_Bl_firstDifference_44 : decode b_Bl_firstDifference 44 = .ok (.checkcast 35, 3) := by decide +kernel
theorem d_Bl_firstDifference_47 : decode b_Bl_firstDifference 47 = .ok (.astore 5, 2) := by decide +kernel
theorem d_Bl_firstDifference_49 : decode b_Bl_firstDifference 49 = .ok (.aload 4, 2) := by decide +kernel
theorem d_Bl_firstDifference_51 : decode b_Bl_firstDifference 51 = .ok (.ifnonnull 10, 3) := by decide +kernel
theorem d_Bl_firstDifference_54 : decode b_Bl_firstDifference 54 = .ok (.aload 5, 2) := by decide +kernel
theorem d_Bl_firstDifference_56 : decode b_Bl_firstDifference 56 = .ok (.ifnonnull 5, 3) := by decide +kernel
theorem d_Bl_firstDifference_59 : decode b_Bl_firstDifference 59 = .ok (.iconst 0, 1) := by decide +kernel
theorem d_Bl_firstDifference_60 : decode b_Bl_firstDifference 60 = .ok (.ireturn, 1) := by decide +kernel
theorem d_Bl_firstDifference_61 : decode b_Bl_firstDifference 61 = .ok (.aload 4, 2) := by decide +kernel
theorem d_Bl_firstDifference_63 : decode b_Bl_firstDifference 63 = .ok (.ifnull 18, 3) := by decide +kernel
theorem d_Bl_firstDifference_66 : decode b_Bl_firstDifference 66 = .ok (.aload 5, 2) := by decide +kernel
theorem d_Bl_firstDifference_68 : decode b_Bl_firstDifference 68 = .ok (.ifnull 13, 3) := by decide +kernel
theorem d_Bl_firstDifference_71 : decode b_Bl_firstDifference 71 = .ok (.aload 4, 2) := by decide +kernel
theorem d_Bl_firstDifference_73 : decode b_Bl_firstDifference 73 = .ok (.aload 5, 2) := by decide +kernel
theorem d_Bl_firstDifference_75 : decode b_Bl_firstDifference 75 = .ok (.invokevirtual 82, 3) := by decide +kernel
theorem d_Bl_firstDifference_78 : decode b_Bl_firstDifference 78 = .ok (.ifCond .ne 5, 3) := by decide +kernel
theorem d_Bl_firstDifference_81 : decode b_Bl_firstDifference 81 = .ok (.iload_n 2, 1) := by decide +kernel
theorem d_Bl_firstDifference_82 : decode b_Bl_firstDifference 82 = .ok (.ireturn, 1) := by decide +kernel
theorem d_Bl_firstDifference_83 : decode b_Bl_firstDifference 83 = .ok (.aload 4, 2) := by decide +kernel
theorem d_Bl_firstDifference_85 : decode b_Bl_firstDifference 85 = .ok (.getfield 56, 3) := by decide +kernel
theorem d_Bl_firstDifference_88 : decode b_Bl_firstDifference 88 = .ok (.aload 5, 2) := by decide +kernel
theorem d_Bl_firstDifference_90 : decode b_Bl_firstDifference 90 = .ok (.getfield 56, 3) := by decide +kernel
theorem d_Bl_firstDifference_93 : decode b_Bl_firstDifference 93 = .ok (.invokestatic 86, 3) := by decide +kernel
theorem d_Bl_firstDifference_96 : decode b_Bl_firstDifference 96 = .ok (.istore 6, 2) := by decide +kernel
theorem d_Bl_firstDifference_98 : decode b_Bl_firstDifference 98 = .ok (.iload_n 2, 1) := by decide +kernel
theorem d_Bl_firstDifference_99 : decode b_Bl_firstDifference 99 = .ok (.iconst 1, 1) := by decide +kernel
theorem d_Bl_firstDifference_100 : decode b_Bl_firstDifference 100 = .ok (.iload 6, 2) := by decide +kernel
theorem d_Bl_firstDifference_102 : decode b_Bl_firstDifference 102 = .ok (.iadd, 1) := by decide +kernel
theorem d_Bl_firstDifference_103 : decode b_Bl_firstDifference 103 = .ok (.iadd, 1) := by decide +kernel
theorem d_Bl_firstDifference_104 : decode b_Bl_firstDifference 104 = .ok (.istore_n 2, 1) := by decide +kernel
theorem d_Bl_firstDifference_105 : decode b_Bl_firstDifference 105 = .ok (.iload 6, 2) := by decide +kernel
theorem d_Bl_firstDifference_107 : decode b_Bl_firstDifference 107 = .ok (.aload 4, 2) := by decide +kernel
theorem d_Bl_firstDifference_109 : decode b_Bl_firstDifference 109 = .ok (.getfield 56, 3) := by decide +kernel
theorem d_Bl_firstDifference_112 : decode b_Bl_firstDifference 112 = .ok (.invokevirtual 27, 3) := by decide +kernel
theorem d_Bl_firstDifference_115 : decode b_Bl_firstDifference 115 = .ok (.aload 5, 2) := by decide +kernel
theorem d_Bl_firstDifference_117 : decode b_Bl_firstDifference 117 = .ok (.getfield 56, 3) := by decide +kernel
theorem d_Bl_firstDifference_120 : decode b_Bl_firstDifference 120 = .ok (.invokevirtual 27, 3) := by decide +kernel
theorem d_Bl_firstDifference_123 : decode b_Bl_firstDifference 123 = .ok (.invokestatic 90, 3) := by decide +kernel
theorem d_Bl_firstDifference_126 : decode b_Bl_firstDifference 126 = .ok (.if_icmp .ge 5, 3) := by decide +kernel
theorem d_Bl_firstDifference_129 : decode b_Bl_firstDifference 129 = .ok (.iload_n 2, 1) := by decide +kernel
theorem d_Bl_firstDifference_130 : decode b_Bl_firstDifference 130 = .ok (.ireturn, 1) := by decide +kernel
theorem d_Bl_firstDifference_131 : decode b_Bl_firstDifference 131 = .ok (.iinc 3 1, 3) := by decide +kernel
theorem d_Bl_firstDifference_134 : decode b_Bl_firstDifference 134 = .ok (.goto (-117), 3) := by decide +kernel
theorem d_Bl_firstDifference_137 : decode b_Bl_firstDifference 137 = .ok (.iconst 0, 1) := by decide +kernel
theorem d_Bl_firstDifference_138 : decode b_Bl_firstDifference 138 = .ok (.ireturn, 1) := by decide +kernel
theorem d_Bl_sameMembers_0 : decode b_Bl_sameMembers 0 = .ok (.aload_n 0, 1) := by decide +kernel
theorem d_Bl_sameMembers_1 : decode b_Bl_sameMembers 1 = .ok (.invokevirtual 27, 3) := by decide +kernel
theorem d_Bl_sameMembers_4 : decode b_Bl_sameMembers 4 = .ok (.aload_n 1, 1) := by decide +kernel
theorem d_Bl_sameMembers_5 : decode b_Bl_sameMembers 5 = .ok (.invokevirtual 27, 3) := by decide +kernel
theorem d_Bl_sameMembers_8 : decode b_Bl_sameMembers 8 = .ok (.invokestatic 96, 3) := by decide +kernel
theorem d_Bl_sameMembers_11 : decode b_Bl_sameMembers 11 = .ok (.istore_n 2, 1) := by decide +kernel
theorem d_Bl_sameMembers_12 : decode b_Bl_sameMembers 12 = .ok (.iconst 0, 1) := by decide +kernel
theorem d_Bl_sameMembers_13 : decode b_Bl_sameMembers 13 = .ok (.istore_n 3, 1) := by decide +kernel
theorem d_Bl_sameMembers_14 : decode b_Bl_sameMembers 14 = .ok (.iload_n 3, 1) := by decide +kernel
theorem d_Bl_sameMembers_15 : decode b_Bl_sameMembers 15 = .ok (.iload_n 2, 1) := by decide +kernel
theorem d_Bl_sameMembers_16 : decode b_Bl_sameMembers 16 = .ok (.if_icmp .ge 45, 3) := by decide +kernel
theorem d_Bl_sameMembers_19 : decode b_Bl_sameMembers 19 = .ok (.aload_n 0, 1) := by decide +kernel
theorem d_Bl_sameMembers_20 : decode b_Bl_sameMembers 20 = .ok (.iload_n 3, 1) := by decide +kernel
theorem d_Bl_sameMembers_21 : decode b_Bl_sameMembers 21 = .ok (.invokevirtual 31, 3) := by decide +kernel
theorem d_Bl_sameMembers_24 : decode b_Bl_sameMembers 24 = .ok (.astore 4, 2) := by decide +kernel
theorem d_Bl_sameMembers_26 : decode b_Bl_sameMembers 26 = .ok (.aload_n 1, 1) := by decide +kernel
theorem d_Bl_sameMembers_27 : decode b_Bl_sameMembers 27 = .ok (.iload_n 3, 1) := by decide +kernel
theorem d_Bl_sameMembers_28 : decode b_Bl_sameMembers 28 = .ok (.invokevirtual 31, 3) := by decide +kernel
theorem d_Bl_sameMembers_31 : decode b_Bl_sameMembers 31 = .ok (.astore 5, 2) := by decide +kernel
theorem d_Bl_sameMembers_33 : decode b_Bl_sameMembers 33 = .ok (.aload 4, 2) := by decide +kernel
theorem d_Bl_sameMembers_35 : decode b_Bl_sameMembers 35 = .ok (.ifnull 18, 3) := by decide +kernel
theorem d_Bl_sameMembers_38 : decode b_Bl_sameMembers 38 = .ok (.aload 5, 2) := by decide +kernel
theorem d_Bl_sameMembers_40 : decode b_Bl_sameMembers 40 = .ok (.ifnull 13, 3) := by decide +kernel
theorem d_Bl_sameMembers_43 : decode b_Bl_sameMembers 43 = .ok (.aload 4, 2) := by decide +kernel
theorem d_Bl_sameMembers_45 : decode b_Bl_sameMembers 45 = .ok (.aload 5, 2) := by decide +kernel
theorem d_Bl_sameMembers_47 : decode b_Bl_sameMembers 47 = .ok (.invokevirtual 99, 3) := by decide +kernel
theorem d_Bl_sameMembers_50 : decode b_Bl_sameMembers 50 = .ok (.ifCond .ne 5, 3) := by decide +kernel
theorem d_Bl_sameMembers_53 : decode b_Bl_sameMembers 53 = .ok (.iload_n 3, 1) := by decide +kernel
theorem d_Bl_sameMembers_54 : decode b_Bl_sameMembers 54 = .ok (.ireturn, 1) := by decide +kernel
theorem d_Bl_sameMembers_55 : decode b_Bl_sameMembers 55 = .ok (.iinc 3 1, 3) := by decide +kernel
theorem d_Bl_sameMembers_58 : decode b_Bl_sameMembers 58 = .ok (.goto (-44), 3) := by decide +kernel
theorem d_Bl_sameMembers_61 : decode b_Bl_sameMembers 61 = .ok (.iload_n 2, 1) := by decide +kernel
theorem d_Bl_sameMembers_62 : decode b_Bl_sameMembers 62 = .ok (.ireturn, 1) := by decide +kernel
theorem d_Bl_linesMissingIn_0 : decode b_Bl_linesMissingIn 0 = .ok (.aload_n 0, 1) := by decide +kernel
theorem d_Bl_linesMissingIn_1 : decode b_Bl_linesMissingIn 1 = .ok (.getfield 20, 3) := by decide +kernel
theorem d_Bl_linesMissingIn_4 : decode b_Bl_linesMissingIn 4 = .ok (.aload_n 1, 1) := by decide +kernel
theorem d_Bl_linesMissingIn_5 : decode b_Bl_linesMissingIn 5 = .ok (.getfield 20, 3) := by decide +kernel
theorem d_Bl_linesMissingIn_8 : decode b_Bl_linesMissingIn 8 = .ok (.if_icmp .ne 7, 3) := by decide +kernel
theorem d_Bl_linesMissingIn_11 : decode b_Bl_linesMissingIn 11 = .ok (.iconst 1, 1) := by decide +kernel
theorem d_Bl_linesMissingIn_12 : decode b_Bl_linesMissingIn 12 = .ok (.goto 4, 3) := by decide +kernel
theorem d_Bl_linesMissingIn_15 : decode b_Bl_linesMissingIn 15 = .ok (.iconst 0, 1) := by decide +kernel
theorem d_Bl_linesMissingIn_16 : decode b_Bl_linesMissingIn 16 = .ok (.istore_n 2, 1) := by decide +kernel
theorem d_Bl_linesMissingIn_17 : decode b_Bl_linesMissingIn 17 = .ok (.iconst 0, 1) := by decide +kernel
theorem d_Bl_linesMissingIn_18 : decode b_Bl_linesMissingIn 18 = .ok (.istore_n 3, 1) := by decide +kernel
theorem d_Bl_linesMissingIn_19 : decode b_Bl_linesMissingIn 19 = .ok (.iconst 0, 1) := by decide +kernel
theorem d_Bl_linesMissingIn_20 : decode b_Bl_linesMissingIn 20 = .ok (.istore 4, 2) := by decide +kernel
theorem d_Bl_linesMissingIn_22 : decode b_Bl_linesMissingIn 22 = .ok (.iload 4, 2) := by decide +kernel
theorem d_Bl_linesMissingIn_24 : decode b_Bl_linesMissingIn 24 = .ok (.aload_n 0, 1) := by decide +kernel
theorem d_Bl_linesMissingIn_25 : decode b_Bl_linesMissingIn 25 = .ok (.getfield 14, 3) := by decide +kernel
theorem d_Bl_linesMissingIn_28 : decode b_Bl_linesMissingIn 28 = .ok (.invokevirtual 27, 3) := by decide +kernel
theorem d_Bl_linesMissingIn_31 : decode b_Bl_linesMissingIn 31 = .ok (.if_icmp .ge 72, 3) := by decide +kernel
theorem d_Bl_linesMissingIn_34 : decode b_Bl_linesMissingIn 34 = .ok (.aload_n 0, 1) := by decide +kernel
theorem d_Bl_linesMissingIn_35 : decode b_Bl_linesMissingIn 35 = .ok (.getfield 14, 3) := by decide +kernel
theorem d_Bl_linesMissingIn_38 : decode b_Bl_linesMissingIn 38 = .ok (.iload 4, 2) := by decide +kernel
theorem d_Bl_linesMissingIn_40 : decode b_Bl_linesMissingIn 40 = .ok (.invokevirtual 31, 3) := by decide +kernel
theorem d_Bl_linesMissingIn_43 : decode b_Bl_linesMissingIn 43 = .ok (.checkcast 35, 3) := by decide +kernel
theorem d_Bl_linesMissingIn_46 : decode b_Bl_linesMissingIn 46 = .ok (.astore 5, 2) := by decide +kernel
theorem d_Bl_linesMissingIn_48 : decode b_Bl_linesMissingIn 48 = .ok (.aload 5, 2) := by decide +kernel
theorem d_Bl_linesMissingIn_50 : decode b_Bl_linesMissingIn 50 = .ok (.ifnull 47, 3) := by decide +kernel
theorem d_Bl_linesMissingIn_53 : decode b_Bl_linesMissingIn 53 = .ok (.aload_n 1, 1) := by decide +kernel
theorem d_Bl_linesMissingIn_54 : decode b_Bl_linesMissingIn 54 = .ok (.aload 5, 2) := by decide +kernel
theorem d_Bl_linesMissingIn_56 : decode b_Bl_linesMissingIn 56 = .ok (.getfield 37, 3) := by decide +kernel
theorem d_Bl_linesMissingIn_59 : decode b_Bl_linesMissingIn 59 = .ok (.invokevirtual 100, 3) := by decide +kernel
theorem d_Bl_linesMissingIn_62 : decode b_Bl_linesMissingIn 62 = .ok (.astore 6, 2) := by decide +kernel
theorem d_Bl_linesMissingIn_64 : decode b_Bl_linesMissingIn 64 = .ok (.iload_n 3, 1) := by decide +kernel
theorem d_Bl_linesMissingIn_65 : decode b_Bl_linesMissingIn 65 = .ok (.aload 5, 2) := by decide +kernel
theorem d_Bl_linesMissingIn_67 : decode b_Bl_linesMissingIn 67 = .ok (.aload 6, 2) := by decide +kernel
theorem d_Bl_linesMissingIn_69 : decode b_Bl_linesMissingIn 69 = .ok (.iload_n 2, 1) := by decide +kernel
theorem d_Bl_linesMissingIn_70 : decode b_Bl_linesMissingIn 70 = .ok (.invokestatic 104, 3) := by decide +kernel
theorem d_Bl_linesMissingIn_73 : decode b_Bl_linesMissingIn 73 = .ok (.ifCond .eq 7, 3) := by decide +kernel
theorem d_Bl_linesMissingIn_76 : decode b_Bl_linesMissingIn 76 = .ok (.iconst 0, 1) := by decide +kernel
theorem d_Bl_linesMissingIn_77 : decode b_Bl_linesMissingIn 77 = .ok (.goto 4, 3) := by decide +kernel
theorem d_Bl_linesMissingIn_80 : decode b_Bl_linesMissingIn 80 = .ok (.iconst 1, 1) := by decide +kernel
theorem d_Bl_linesMissingIn_81 : decode b_Bl_linesMissingIn 81 = .ok (.iadd, 1) := by decide +kernel
theorem d_Bl_linesMissingIn_82 : decode b_Bl_linesMissingIn 82 = .ok (.istore_n 3, 1) := by decide +kernel
theorem d_Bl_linesMissingIn_83 : decode b_Bl_linesMissingIn 83 = .ok (.iload_n 3, 1) := by decide +kernel
theorem d_Bl_linesMissingIn_84 : decode b_Bl_linesMissingIn 84 = .ok (.aload 6, 2) := by decide +kernel
theorem d_Bl_linesMissingIn_86 : decode b_Bl_linesMissingIn 86 = .ok (.aload 5, 2) := by decide +kernel
theorem d_Bl_linesMissingIn_88 : decode b_Bl_linesMissingIn 88 = .ok (.getfield 56, 3) := by decide +kernel
theorem d_Bl_linesMissingIn_91 : decode b_Bl_linesMissingIn 91 = .ok (.iload_n 2, 1) := by decide +kernel
theorem d_Bl_linesMissingIn_92 : decode b_Bl_linesMissingIn 92 = .ok (.invokestatic 108, 3) := by decide +kernel
theorem d_Bl_linesMissingIn_95 : decode b_Bl_linesMissingIn 95 = .ok (.iadd, 1) := by decide +kernel
theorem d_Bl_linesMissingIn_96 : decode b_Bl_linesMissingIn 96 = .ok (.istore_n 3, 1) := by decide +kernel
theorem d_Bl_linesMissingIn_97 : decode b_Bl_linesMissingIn 97 = .ok (.iinc 4 1, 3) := by decide +kernel
theorem d_Bl_linesMissingIn_100 : decode b_Bl_linesMissingIn 100 = .ok (.goto (-78), 3) := by decide +kernel
theorem d_Bl_linesMissingIn_103 : decode b_Bl_linesMissingIn 103 = .ok (.iload_n 3, 1) := by decide +kernel
theorem d_Bl_linesMissingIn_104 : decode b_Bl_linesMissingIn 104 = .ok (.ireturn, 1) := by decide +kernel
theorem d_Bl_isSameLine_0 : decode b_Bl_isSameLine 0 = .ok (.aload_n 1, 1) := by decide +kernel
theorem d_Bl_isSameLine_1 : decode b_Bl_isSameLine 1 = .ok (.ifnull 26, 3) := by decide +kernel
theorem d_Bl_isSameLine_4 : decode b_Bl_isSameLine 4 = .ok (.aload_n 0, 1) := by decide +kernel
theorem d_Bl_isSameLine_5 : decode b_Bl_isSameLine 5 = .ok (.aload_n 1, 1) := by decide +kernel
theorem d_Bl_isSameLine_6 : decode b_Bl_isSameLine 6 = .ok (.invokevirtual 99, 3) := by decide +kernel
theorem d_Bl_isSameLine_9 : decode b_Bl_isSameLine 9 = .ok (.ifCond .eq 18, 3) := by decide +kernel
theorem d_Bl_isSameLine_12 : decode b_Bl_isSameLine 12 = .ok (.iload_n 2, 1) := by decide +kernel
theorem d_Bl_isSameLine_13 : decode b_Bl_isSameLine 13 = .ok (.ifCond .ne 10, 3) := by decide +kernel
theorem d_Bl_isSameLine_16 : decode b_Bl_isSameLine 16 = .ok (.aload_n 0, 1) := by decide +kernel
theorem d_Bl_isSameLine_17 : decode b_Bl_isSameLine 17 = .ok (.invokevirtual 116, 3) := by decide +kernel
theorem d_Bl_isSameLine_20 : decode b_Bl_isSameLine 20 = .ok (.ifCond .eq 7, 3) := by decide +kernel
theorem d_Bl_isSameLine_23 : decode b_Bl_isSameLine 23 = .ok (.iconst 1, 1) := by decide +kernel
theorem d_Bl_isSameLine_24 : decode b_Bl_isSameLine 24 = .ok (.goto 4, 3) := by decide +kernel
theorem d_Bl_isSameLine_27 : decode b_Bl_isSameLine 27 = .ok (.iconst 0, 1) := by decide +kernel
theorem d_Bl_isSameLine_28 : decode b_Bl_isSameLine 28 = .ok (.ireturn, 1) := by decide +kernel
theorem d_Bl_membersMissingIn_0 : decode b_Bl_membersMissingIn 0 = .ok (.aload_n 0, 1) := by decide +kernel
theorem d_Bl_membersMissingIn_1 : decode b_Bl_membersMissingIn 1 = .ok (.ifnonnull 8, 3) := by decide +kernel
theorem d_Bl_membersMissingIn_4 : decode b_Bl_membersMissingIn 4 = .ok (.aload_n 1, 1) := by decide +kernel
theorem d_Bl_membersMissingIn_5 : decode b_Bl_membersMissingIn 5 = .ok (.invokevirtual 27, 3) := by decide +kernel
theorem d_Bl_membersMissingIn_8 : decode b_Bl_membersMissingIn 8 = .ok (.ireturn, 1) := by decide +kernel
theorem d_Bl_membersMissingIn_9 : decode b_Bl_membersMissingIn 9 = .ok (.iconst 0, 1) := by decide +kernel
theorem d_Bl_membersMissingIn_10 : decode b_Bl_membersMissingIn 10 = .ok (.istore_n 3, 1) := by decide +kernel
theorem d_Bl_membersMissingIn_11 : decode b_Bl_membersMissingIn 11 = .ok (.iconst 0, 1) := by decide +kernel
theorem d_Bl_membersMissingIn_12 : decode b_Bl_membersMissingIn 12 = .ok (.istore 4, 2) := by decide +kernel
theorem d_Bl_membersMissingIn_14 : decode b_Bl_membersMissingIn 14 = .ok (.iload 4, 2) := by decide +kernel
theorem d_Bl_membersMissingIn_16 : decode b_Bl_membersMissingIn 16 = .ok (.aload_n 1, 1) := by decide +kernel
theorem d_Bl_membersMissingIn_17 : decode b_Bl_membersMissingIn 17 = .ok (.invokevirtual 27, 3) := by decide +kernel
theorem d_Bl_membersMissingIn_20 : decode b_Bl_membersMissingIn 20 = .ok (.if_icmp .ge 43, 3) := by decide +kernel
theorem d_Bl_membersMissingIn_23 : decode b_Bl_membersMissingIn 23 = .ok (.aload_n 1, 1) := by decide +kernel
theorem d_Bl_membersMissingIn_24 : decode b_Bl_membersMissingIn 24 = .ok (.iload 4, 2) := by decide +kernel
theorem d_Bl_membersMissingIn_26 : decode b_Bl_membersMissingIn 26 = .ok (.invokevirtual 31, 3) := by decide +kernel
theorem d_Bl_membersMissingIn_29 : decode b_Bl_membersMissingIn 29 = .ok (.astore 5, 2) := by decide +kernel
theorem d_Bl_membersMissingIn_31 : decode b_Bl_membersMissingIn 31 = .ok (.aload 5, 2) := by decide +kernel
theorem d_Bl_membersMissingIn_33 : decode b_Bl_membersMissingIn 33 = .ok (.ifnull 24, 3) := by decide +kernel
theorem d_Bl_membersMissingIn_36 : decode b_Bl_membersMissingIn 36 = .ok (.aload 5, 2) := by decide +kernel
theorem d_Bl_membersMissingIn_38 : decode b_Bl_membersMissingIn 38 = .ok (.aload_n 0, 1) := by decide +kernel
theorem d_Bl_membersMissingIn_39 : decode b_Bl_membersMissingIn 39 = .ok (.getfield 56, 3) := by decide +kernel
theorem d_Bl_membersMissingIn_42 : decode b_Bl_membersMissingIn 42 = .ok (.aload 5, 2) := by decide +kernel
theorem d_Bl_membersMissingIn_44 : decode b_Bl_membersMissingIn 44 = .ok (.invokevirtual 112, 3) := by decide +kernel
theorem d_Bl_membersMissingIn_47 : decode b_Bl_membersMissingIn 47 = .ok (.iload_n 2, 1) := by decide +kernel
theorem d_Bl_membersMissingIn_48 : decode b_Bl_membersMissingIn 48 = .ok (.invokestatic 104, 3) := by decide +kernel
theorem d_Bl_membersMissingIn_51 : decode b_Bl_membersMissingIn 51 = .ok (.ifCond .ne 6, 3) := by decide +kernel
theorem d_Bl_membersMissingIn_54 : decode b_Bl_membersMissingIn 54 = .ok (.iinc 3 1, 3) := by decide +kernel
theorem d_Bl_membersMissingIn_57 : decode b_Bl_membersMissingIn 57 = .ok (.iinc 4 1, 3) := by decide +kernel
theorem d_Bl_membersMissingIn_60 : decode b_Bl_membersMissingIn 60 = .ok (.goto (-46), 3) := by decide +kernel
theorem d_Bl_membersMissingIn_63 : decode b_Bl_membersMissingIn 63 = .ok (.iload_n 3, 1) := by decide +kernel
theorem d_Bl_membersMissingIn_64 : decode b_Bl_membersMissingIn 64 = .ok (.ireturn, 1) := by decide +kernel
