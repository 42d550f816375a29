theorem d_Rw_init_0 : decode b_Rw_init 0 = .ok (.aload_n 0, 1) := by decide +kernel
theorem d_Rw_init_1 : decode b_Rw_init 1 = .ok (.invokespecial 3, 3) := by decide +kernel
theorem d_Rw_init_4 : decode b_Rw_init 4 = .ok (.aload_n 0, 1) := by decide +kernel
theorem d_Rw_init_5 : decode b_Rw_init 5 = .ok (.iload_n 1, 1) := by decide +kernel
theorem d_Rw_init_6 : decode b_Rw_init 6 = .ok (.newarray .char, 2) := by decide +kernel
theorem d_Rw_init_8 : decode b_Rw_init 8 = .ok (.putfield 9, 3) := by decide +kernel
theorem d_Rw_init_11 : decode b_Rw_init 11 = .ok (.return_, 1) := by decide +kernel
theorem d_Dg_init_0 : decode b_Dg_init 0 = .ok (.aload_n 0, 1) := by decide +kernel
theorem d_Dg_init_1 : decode b_Dg_init 1 = .ok (.invokespecial 3, 3) := by decide +kernel
theorem d_Dg_init_4 : decode b_Dg_init 4 = .ok (.aload_n 0, 1) := by decide +kernel
theorem d_Dg_init_5 : decode b_Dg_init 5 = .ok (.bipush 20, 2) := by decide +kernel
theorem d_Dg_init_7 : decode b_Dg_init 7 = .ok (.newarray .int, 2) := by decide +kernel
theorem d_Dg_init_9 : decode b_Dg_init 9 = .ok (.putfield 9, 3) := by decide +kernel
theorem d_Dg_init_12 : decode b_Dg_init 12 = .ok (.aload_n 0, 1) := by decide +kernel
theorem d_Dg_init_13 : decode b_Dg_init 13 = .ok (.bipush 20, 2) := by decide +kernel
theorem d_Dg_init_15 : decode b_Dg_init 15 = .ok (.newarray .int, 2) := by decide +kernel
theorem d_Dg_init_17 : decode b_Dg_init 17 = .ok (.putfield 15, 3) := by decide +kernel
theorem d_Dg_init_20 : decode b_Dg_init 20 = .ok (.aload_n 0, 1) := by decide +kernel
theorem d_Dg_init_21 : decode b_Dg_init 21 = .ok (.bipush 20, 2) := by decide +kernel
theorem d_Dg_init_23 : decode b_Dg_init 23 = .ok (.newarray .int, 2) := by decide +kernel
theorem d_Dg_init_25 : decode b_Dg_init 25 = .ok (.putfield 18, 3) := by decide +kernel
theorem d_Dg_init_28 : decode b_Dg_init 28 = .ok (.return_, 1) := by decide +kernel
theorem d_Rw_length_0 : decode b_Rw_length 0 = .ok (.aload_n 0, 1) := by decide +kernel
theorem d_Rw_length_1 : decode b_Rw_length 1 = .ok (.getfield 15, 3) := by decide +kernel
theorem d_Rw_length_4 : decode b_Rw_length 4 = .ok (.ireturn, 1) := by decide +kernel
theorem d_Rw_add_0 : decode b_Rw_add 0 = .ok (.aload_n 0, 1) := by decide +kernel
theorem d_Rw_add_1 : decode b_Rw_add 1 = .ok (.getfield 15, 3) := by decide +kernel
theorem d_Rw_add_4 : decode b_Rw_add 4 = .ok (.aload_n 0, 1) := by decide +kernel
theorem d_Rw_add_5 : decode b_Rw_add 5 = .ok (.getfield 9, 3) := by decide +kernel
theorem d_Rw_add_8 : decode b_Rw_add 8 = .ok (.arraylength, 1) := by decide +kernel
theorem d_Rw_add_9 : decode b_Rw_add 9 = .ok (.if_icmp .ge 27, 3) := by decide +kernel
theorem d_Rw_add_12 : decode b_Rw_add 12 = .ok (.aload_n 0, 1) := by decide +kernel
theorem d_Rw_add_13 : decode b_Rw_add 13 = .ok (.getfield 9, 3) := by decide +kernel
theorem d_Rw_add_16 : decode b_Rw_add 16 = .ok (.aload_n 0, 1) := by decide +kernel
theorem d_Rw_add_17 : decode b_Rw_add 17 = .ok (.getfield 15, 3) := by decide +kernel
theorem d_Rw_add_20 : decode b_Rw_add 20 = .ok (.iload_n 1, 1) := by decide +kernel
theorem d_Rw_add_21 : decode b_Rw_add 21 = .ok (.i2c, 1) := by decide +kernel
theorem d_Rw_add_22 : decode b_Rw_add 22 = .ok (.castore, 1) := by decide +kernel
theorem d_Rw_add_23 : decode b_Rw_add 23 = .ok (.aload_n 0, 1) := by decide +kernel
theorem d_Rw_add_24 : decode b_Rw_add 24 = .ok (.dup, 1) := by decide +kernel
theorem d_Rw_add_25 : decode b_Rw_add 25 = .ok (.getfield 15, 3) := by decide +kernel
theorem d_Rw_add_28 : decode b_Rw_add 28 = .ok (.iconst 1, 1) := by decide +kernel
theorem d_Rw_add_29 : decode b_Rw_add 29 = .ok (.iadd, 1) := by decide +kernel
theorem d_Rw_add_30 : decode b_Rw_add 30 = .ok (.putfield 15, 3) := by decide +kernel
theorem d_Rw_add_33 : decode b_Rw_add 33 = .ok (.goto 8, 3) := by decide +kernel
theorem d_Rw_add_36 : decode b_Rw_add 36 = .ok (.aload_n 0, 1) := by decide +kernel
theorem d_Rw_add_37 : decode b_Rw_add 37 = .ok (.iconst 1, 1) := by decide +kernel
theorem d_Rw_add_38 : decode b_Rw_add 38 = .ok (.putfield 19, 3) := by decide +kernel
theorem d_Rw_add_41 : decode b_Rw_add 41 = .ok (.return_, 1) := by decide +kernel
theorem d_Rw_empty_0 : decode b_Rw_empty 0 = .ok (.aload_n 0, 1) := by decide +kernel
theorem d_Rw_empty_1 : decode b_Rw_empty 1 = .ok (.iconst 0, 1) := by decide +kernel
theorem d_Rw_empty_2 : decode b_Rw_empty 2 = .ok (.putfield 15, 3) := by decide +kernel
theorem d_Rw_empty_5 : decode b_Rw_empty 5 = .ok (.aload_n 0, 1) := by decide +kernel
theorem d_Rw_empty_6 : decode b_Rw_empty 6 = .ok (.iconst 0, 1) := by decide +kernel
theorem d_Rw_empty_7 : decode b_Rw_empty 7 = .ok (.putfield 19, 3) := by decide +kernel
theorem d_Rw_empty_10 : decode b_Rw_empty 10 = .ok (.return_, 1) := by decide +kernel
theorem d_Dg_empty_0 : decode b_Dg_empty 0 = .ok (.aload_n 0, 1) := by decide +kernel
theorem d_Dg_empty_1 : decode b_Dg_empty 1 = .ok (.iconst 0, 1) := by decide +kernel
theorem d_Dg_empty_2 : decode b_Dg_empty 2 = .ok (.putfield 21, 3) := by decide +kernel
theorem d_Dg_empty_5 : decode b_Dg_empty 5 = .ok (.return_, 1) := by decide +kernel
theorem d_Dc_init_0 : decode b_Dc_init 0 = .ok (.aload_n 0, 1) := by decide +kernel
theorem d_Dc_init_1 : decode b_Dc_init 1 = .ok (.invokespecial 3, 3) := by decide +kernel
theorem d_Dc_init_4 : decode b_Dc_init 4 = .ok (.aload_n 0, 1) := by decide +kernel
theorem d_Dc_init_5 : decode b_Dc_init 5 = .ok (.new 9, 3) := by decide +kernel
theorem d_Dc_init_8 : decode b_Dc_init 8 = .ok (.dup, 1) := by decide +kernel
theorem d_Dc_init_9 : decode b_Dc_init 9 = .ok (.bipush 20, 2) := by decide +kernel
theorem d_Dc_init_11 : decode b_Dc_init 11 = .ok (.invokespecial 11, 3) := by decide +kernel
theorem d_Dc_init_14 : decode b_Dc_init 14 = .ok (.putfield 14, 3) := by decide +kernel
theorem d_Dc_init_17 : decode b_Dc_init 17 = .ok (.aload_n 0, 1) := by decide +kernel
theorem d_Dc_init_18 : decode b_Dc_init 18 = .ok (.new 9, 3) := by decide +kernel
theorem d_Dc_init_21 : decode b_Dc_init 21 = .ok (.dup, 1) := by decide +kernel
theorem d_Dc_init_22 : decode b_Dc_init 22 = .ok (.bipush 20, 2) := by decide +kernel
theorem d_Dc_init_24 : decode b_Dc_init 24 = .ok (.invokespecial 11, 3) := by decide +kernel
theorem d_Dc_init_27 : decode b_Dc_init 27 = .ok (.putfield 20, 3) := by decide +kernel
theorem d_Dc_init_30 : decode b_Dc_init 30 = .ok (.return_, 1) := by decide +kernel
theorem d_Rw_at_0 : decode b_Rw_at 0 = .ok (.iload_n 1, 1) := by decide +kernel
theorem d_Rw_at_1 : decode b_Rw_at 1 = .ok (.ifCond .lt 20, 3) := by decide +kernel
theorem d_Rw_at_4 : decode b_Rw_at 4 = .ok (.iload_n 1, 1) := by decide +kernel
theorem d_Rw_at_5 : decode b_Rw_at 5 = .ok (.aload_n 0, 1) := by decide +kernel
theorem d_Rw_at_6 : decode b_Rw_at 6 = .ok (.getfield 15, 3) := by decide +kernel
theorem d_Rw_at_9 : decode b_Rw_at 9 = .ok (.if_icmp .ge 12, 3) := by decide +kernel
theorem d_Rw_at_12 : decode b_Rw_at 12 = .ok (.aload_n 0, 1) := by decide +kernel
theorem d_Rw_at_13 : decode b_Rw_at 13 = .ok (.getfield 9, 3) := by decide +kernel
theorem d_Rw_at_16 : decode b_Rw_at 16 = .ok (.iload_n 1, 1) := by decide +kernel
theorem d_Rw_at_17 : decode b_Rw_at 17 = .ok (.caload, 1) := by decide +kernel
theorem d_Rw_at_18 : decode b_Rw_at 18 = .ok (.goto 4, 3) := by decide +kernel
theorem d_Rw_at_21 : decode b_Rw_at 21 = .ok (.iconst (-1), 1) := by decide +kernel
theorem d_Rw_at_22 : decode b_Rw_at 22 = .ok (.ireturn, 1) := by decide +kernel
theorem d_Dg_add_0 : decode b_Dg_add 0 = .ok (.aload_n 0, 1) := by decide +kernel
theorem d_Dg_add_1 : decode b_Dg_add 1 = .ok (.getfield 21, 3) := by decide +kernel
theorem d_Dg_add_4 : decode b_Dg_add 4 = .ok (.bipush 20, 2) := by decide +kernel
theorem d_Dg_add_6 : decode b_Dg_add 6 = .ok (.if_icmp .ge 33, 3) := by decide +kernel
theorem d_Dg_add_9 : decode b_Dg_add 9 = .ok (.aload_n 0, 1) := by decide +kernel
theorem d_Dg_add_10 : decode b_Dg_add 10 = .ok (.getfield 9, 3) := by decide +kernel
theorem d_Dg_add_13 : decode b_Dg_add 13 = .ok (.aload_n 0, 1) := by decide +kernel
theorem d_Dg_add_14 : decode b_Dg_add 14 = .ok (.getfield 21, 3) := by decide +kernel
theorem d_Dg_add_17 : decode b_Dg_add 17 = .ok (.iload_n 1, 1) := by decide +kernel
theorem d_Dg_add_18 : decode b_Dg_add 18 = .ok (.iastore, 1) := by decide +kernel
theorem d_Dg_add_19 : decode b_Dg_add 19 = .ok (.aload_n 0, 1) := by decide +kernel
theorem d_Dg_add_20 : decode b_Dg_add 20 = .ok (.getfield 15, 3) := by decide +kernel
theorem d_Dg_add_23 : decode b_Dg_add 23 = .ok (.aload_n 0, 1) := by decide +kernel
theorem d_Dg_add_24 : decode b_Dg_add 24 = .ok (.getfield 21, 3) := by decide +kernel
theorem d_Dg_add_27 : decode b_Dg_add 27 = .ok (.iload_n 2, 1) := by decide +kernel
theorem d_Dg_add_28 : decode b_Dg_add 28 = .ok (.iastore, 1) := by decide +kernel
theorem d_Dg_add_29 : decode b_Dg_add 29 = .ok (.aload_n 0, 1) := by decide +kernel
theorem d_Dg_add_30 : decode b_Dg_add 30 = .ok (.getfield 18, 3) := by decide +kernel
theorem d_Dg_add_33 : decode b_Dg_add 33 = .ok (.aload_n 0, 1) := by decide +kernel
theorem d_Dg_add_34 : decode b_Dg_add 34 = .ok (.getfield 21, 3) := by decide +kernel
theorem d_Dg_add_37 : decode b_Dg_add 37 = .ok (.iload_n 3, 1) := by decide +kernel
theorem d_Dg_add_38 : decode b_Dg_add 38 = .ok (.iastore, 1) := by decide +kernel
theorem d_Dg_add_39 : decode b_Dg_add 39 = .ok (.aload_n 0, 1) := by decide +kernel
theorem d_Dg_add_40 : decode b_Dg_add 40 = .ok (.dup, 1) := by decide +kernel
theorem d_Dg_add_41 : decode b_Dg_add 41 = .ok (.getfield 21, 3) := by decide +kernel
theorem d_Dg_add_44 : decode b_Dg_add 44 = .ok (.iconst 1, 1) := by decide +kernel
theorem d_Dg_add_45 : decode b_Dg_add 45 = .ok (.iadd, 1) := by decide +kernel
theorem d_Dg_add_46 : decode b_Dg_add 46 = .ok (.putfield 21, 3) := by decide +kernel
theorem d_Dg_add_49 : decode b_Dg_add 49 = .ok (.return_, 1) := by decide +kernel
theorem d_Vo_marks_0 : decode b_Vo_marks 0 = .ok (.iload_n 0, 1) := by decide +kernel
theorem d_Vo_marks_1 : decode b_Vo_marks 1 = .ok (.ifCond .eq 7, 3) := by decide +kernel
theorem d_Vo_marks_4 : decode b_Vo_marks 4 = .ok (.iconst 5, 1) := by decide +kernel
theorem d_Vo_marks_5 : decode b_Vo_marks 5 = .ok (.goto 4, 3) := by decide +kernel
theorem d_Vo_marks_8 : decode b_Vo_marks 8 = .ok (.iconst 3, 1) := by decide +kernel
theorem d_Vo_marks_9 : decode b_Vo_marks 9 = .ok (.ireturn, 1) := by decide +kernel
theorem d_Vo_mark_0 : decode b_Vo_mark 0 = .ok (.iload_n 0, 1) := by decide +kernel
theorem d_Vo_mark_1 : decode b_Vo_mark 1 = .ok (.ifCond .eq 10, 3) := by decide +kernel
theorem d_Vo_mark_4 : decode b_Vo_mark 4 = .ok (.iload_n 1, 1) := by decide +kernel
theorem d_Vo_mark_5 : decode b_Vo_mark 5 = .ok (.invokestatic 9, 3) := by decide +kernel
theorem d_Vo_mark_8 : decode b_Vo_mark 8 = .ok (.goto 7, 3) := by decide +kernel
theorem d_Vo_mark_11 : decode b_Vo_mark 11 = .ok (.iload_n 1, 1) := by decide +kernel
theorem d_Vo_mark_12 : decode b_Vo_mark 12 = .ok (.invokestatic 15, 3) := by decide +kernel
theorem d_Vo_mark_15 : decode b_Vo_mark 15 = .ok (.areturn, 1) := by decide +kernel
theorem d_Vo_memberMark_0 : decode b_Vo_memberMark 0 = .ok (.iload_n 0, 1) := by decide +kernel
theorem d_Vo_memberMark_1 : decode b_Vo_memberMark 1 = .ok (.tableswitch 43 0 3 #[31, 34, 37, 40], 31) := by decide +kernel
theorem d_Vo_memberMark_32 : decode b_Vo_memberMark 32 = .ok (.ldc 24, 2) := by decide +kernel
theorem d_Vo_memberMark_34 : decode b_Vo_memberMark 34 = .ok (.areturn, 1) := by decide +kernel
theorem d_Vo_memberMark_35 : decode b_Vo_memberMark 35 = .ok (.ldc 30, 2) := by decide +kernel
theorem d_Vo_memberMark_37 : decode b_Vo_memberMark 37 = .ok (.areturn, 1) := by decide +kernel
theorem d_Vo_memberMark_38 : decode b_Vo_memberMark 38 = .ok (.ldc 32, 2) := by decide +kernel
theorem d_Vo_memberMark_40 : decode b_Vo_memberMark 40 = .ok (.areturn, 1) := by decide +kernel
theorem d_Vo_memberMark_41 : decode b_Vo_memberMark 41 = .ok (.ldc 28, 2) := by decide +kernel
theorem d_Vo_memberMark_43 : decode b_Vo_memberMark 43 = .ok (.areturn, 1) := by decide +kernel
theorem d_Vo_memberMark_44 : decode b_Vo_memberMark 44 = .ok (.ldc 26, 2) := by decide +kernel
theorem d_Vo_memberMark_46 : decode b_Vo_memberMark 46 = .ok (.areturn, 1) := by decide +kernel
theorem d_Vo_typeMark_0 : decode b_Vo_typeMark 0 = .ok (.iload_n 0, 1) := by decide +kernel
theorem d_Vo_typeMark_1 : decode b_Vo_typeMark 1 = .ok (.lookupswitch 33 #[(0, 27), (1, 30)], 27) := by decide +kernel
theorem d_Vo_typeMark_28 : decode b_Vo_typeMark 28 = .ok (.ldc 24, 2) := by decide +kernel
theorem d_Vo_typeMark_30 : decode b_Vo_typeMark 30 = .ok (.areturn, 1) := by decide +kernel
theorem d_Vo_typeMark_31 : decode b_Vo_typeMark 31 = .ok (.ldc 26, 2) := by decide +kernel
theorem d_Vo_typeMark_33 : decode b_Vo_typeMark 33 = .ok (.areturn, 1) := by decide +kernel
theorem d_Vo_typeMark_34 : decode b_Vo_typeMark 34 = .ok (.ldc 28, 2) := by decide +kernel
theorem d_Vo_typeMark_36 : decode b_Vo_typeMark 36 = .ok (.areturn, 1) := by decide +kernel
theorem d_Vo_kinds_0 : decode b_Vo_kinds 0 = .ok (.iload_n 0, 1) := by decide +kernel
theorem d_Vo_kinds_1 : decode b_Vo_kinds 1 = .ok (.ifCond .eq 7, 3) := by decide +kernel
theorem d_Vo_kinds_4 : decode b_Vo_kinds 4 = .ok (.iconst 2, 1) := by decide +kernel
theorem d_Vo_kinds_5 : decode b_Vo_kinds 5 = .ok (.goto 4, 3) := by decide +kernel
theorem d_Vo_kinds_8 : decode b_Vo_kinds 8 = .ok (.iconst 4, 1) := by decide +kernel
theorem d_Vo_kinds_9 : decode b_Vo_kinds 9 = .ok (.ireturn, 1) := by decide +kernel
theorem d_Vo_kind_0 : decode b_Vo_kind 0 = .ok (.iload_n 0, 1) := by decide +kernel
theorem d_Vo_kind_1 : decode b_Vo_kind 1 = .ok (.ifCond .eq 10, 3) := by decide +kernel
theorem d_Vo_kind_4 : decode b_Vo_kind 4 = .ok (.iload_n 1, 1) := by decide +kernel
theorem d_Vo_kind_5 : decode b_Vo_kind 5 = .ok (.invokestatic 18, 3) := by decide +kernel
theorem d_Vo_kind_8 : decode b_Vo_kind 8 = .ok (.goto 7, 3) := by decide +kernel
theorem d_Vo_kind_11 : decode b_Vo_kind 11 = .ok (.iload_n 1, 1) := by decide +kernel
theorem d_Vo_kind_12 : decode b_Vo_kind 12 = .ok (.invokestatic 21, 3) := by decide +kernel
theorem d_Vo_kind_15 : decode b_Vo_kind 15 = .ok (.areturn, 1) := by decide +kernel
theorem d_Vo_memberKind_0 : decode b_Vo_memberKind 0 = .ok (.iload_n 0, 1) := by decide +kernel
theorem d_Vo_memberKind_1 : decode b_Vo_memberKind 1 = .ok (.iconst 1, 1) := by decide +kernel
theorem d_Vo_memberKind_2 : decode b_Vo_memberKind 2 = .ok (.if_icmp .ne 8, 3) := by decide +kernel
theorem d_Vo_memberKind_5 : decode b_Vo_memberKind 5 = .ok (.ldc 42, 2) := by decide +kernel
theorem d_Vo_memberKind_7 : decode b_Vo_memberKind 7 = .ok (.goto 5, 3) := by decide +kernel
theorem d_Vo_memberKind_10 : decode b_Vo_memberKind 10 = .ok (.ldc 44, 2) := by decide +kernel
theorem d_Vo_memberKind_12 : decode b_Vo_memberKind 12 = .ok (.areturn, 1) := by decide +kernel
theorem d_Vo_typeKind_0 : decode b_Vo_typeKind 0 = .ok (.iload_n 0, 1) := by decide +kernel
theorem d_Vo_typeKind_1 : decode b_Vo_typeKind 1 = .ok (.tableswitch 36 0 2 #[27, 30, 33], 27) := by decide +kernel
theorem d_Vo_typeKind_28 : decode b_Vo_typeKind 28 = .ok (.ldc 34, 2) := by decide +kernel
theorem d_Vo_typeKind_30 : decode b_Vo_typeKind 30 = .ok (.areturn, 1) := by decide +kernel
theorem d_Vo_typeKind_31 : decode b_Vo_typeKind 31 = .ok (.ldc 36, 2) := by decide +kernel
theorem d_Vo_typeKind_33 : decode b_Vo_typeKind 33 = .ok (.areturn, 1) := by decide +kernel
theorem d_Vo_typeKind_34 : decode b_Vo_typeKind 34 = .ok (.ldc 38, 2) := by decide +kernel
theorem d_Vo_typeKind_36 : decode b_Vo_typeKind 36 = .ok (.areturn, 1) := by decide +kernel
theorem d_Vo_typeKind_37 : decode b_Vo_typeKind 37 = .ok (.ldc 40, 2) := by decide +kernel
theorem d_Vo_typeKind_39 : decode b_Vo_typeKind 39 = .ok (.areturn, 1) := by decide +kernel
theorem d_Gr_isName_0 : decode b_Gr_isName 0 = .ok (.iload_n 1, 1) := by decide +kernel
theorem d_Gr_isName_1 : decode b_Gr_isName 1 = .ok (.ifCond .eq 19, 3) := by decide +kernel
theorem d_Gr_isName_4 : decode b_Gr_isName 4 = .ok (.iload_n 2, 1) := by decide +kernel
theorem d_Gr_isName_5 : decode b_Gr_isName 5 = .ok (.iconst 1, 1) := by decide +kernel
theorem d_Gr_isName_6 : decode b_Gr_isName 6 = .ok (.if_icmp .ne 14, 3) := by decide +kernel
theorem d_Gr_isName_9 : decode b_Gr_isName 9 = .ok (.aload_n 0, 1) := by decide +kernel
theorem d_Gr_isName_10 : decode b_Gr_isName 10 = .ok (.ldc 9, 2) := by decide +kernel
theorem d_Gr_isName_12 : decode b_Gr_isName 12 = .ok (.invokevirtual 10, 3) := by decide +kernel
theorem d_Gr_isName_15 : decode b_Gr_isName 15 = .ok (.ifCond .eq 5, 3) := by decide +kernel
theorem d_Gr_isName_18 : decode b_Gr_isName 18 = .ok (.iconst 1, 1) := by decide +kernel
theorem d_Gr_isName_19 : decode b_Gr_isName 19 = .ok (.ireturn, 1) := by decide +kernel
theorem d_Gr_isName_20 : decode b_Gr_isName 20 = .ok (.iload_n 1, 1) := by decide +kernel
theorem d_Gr_isName_21 : decode b_Gr_isName 21 = .ok (.ifCond .eq 7, 3) := by decide +kernel
theorem d_Gr_isName_24 : decode b_Gr_isName 24 = .ok (.iconst 0, 1) := by decide +kernel
theorem d_Gr_isName_25 : decode b_Gr_isName 25 = .ok (.goto 5, 3) := by decide +kernel
theorem d_Gr_isName_28 : decode b_Gr_isName 28 = .ok (.bipush 46, 2) := by decide +kernel
theorem d_Gr_isName_30 : decode b_Gr_isName 30 = .ok (.istore_n 3, 1) := by decide +kernel
theorem d_Gr_isName_31 : decode b_Gr_isName 31 = .ok (.aload_n 0, 1) := by decide +kernel
theorem d_Gr_isName_32 : decode b_Gr_isName 32 = .ok (.invokevirtual 18, 3) := by decide +kernel
theorem d_Gr_isName_35 : decode b_Gr_isName 35 = .ok (.ifCond .eq 20, 3) := by decide +kernel
theorem d_Gr_isName_38 : decode b_Gr_isName 38 = .ok (.aload_n 0, 1) := by decide +kernel
theorem d_Gr_isName_39 : decode b_Gr_isName 39 = .ok (.iconst 0, 1) := by decide +kernel
theorem d_Gr_isName_40 : decode b_Gr_isName 40 = .ok (.iload_n 3, 1) := by decide +kernel
theorem d_Gr_isName_41 : decode b_Gr_isName 41 = .ok (.invokestatic 22, 3) := by decide +kernel
theorem d_Gr_isName_44 : decode b_Gr_isName 44 = .ok (.aload_n 0, 1) := by decide +kernel
theorem d_Gr_isName_45 : decode b_Gr_isName 45 = .ok (.invokevirtual 26, 3) := by decide +kernel
theorem d_Gr_isName_48 : decode b_Gr_isName 48 = .ok (.if_icmp .ne 7, 3) := by decide +kernel
theorem d_Gr_isName_51 : decode b_Gr_isName 51 = .ok (.iconst 1, 1) := by decide +kernel
theorem d_Gr_isName_52 : decode b_Gr_isName 52 = .ok (.goto 4, 3) := by decide +kernel
theorem d_Gr_isName_55 : decode b_Gr_isName 55 = .ok (.iconst 0, 1) := by decide +kernel
theorem d_Gr_isName_56 : decode b_Gr_isName 56 = .ok (.ireturn, 1) := by decide +kernel
theorem d_Rw_isWord_0 : decode b_Rw_isWord 0 = .ok (.aload_n 0, 1) := by decide +kernel
theorem d_Rw_isWord_1 : decode b_Rw_isWord 1 = .ok (.getfield 15, 3) := by decide +kernel
theorem d_Rw_isWord_4 : decode b_Rw_isWord 4 = .ok (.aload_n 1, 1) := by decide +kernel
theorem d_Rw_isWord_5 : decode b_Rw_isWord 5 = .ok (.invokevirtual 23, 3) := by decide +kernel
theorem d_Rw_isWord_8 : decode b_Rw_isWord 8 = .ok (.if_icmp .eq 5, 3) := by decide +kernel
theorem d_Rw_isWord_11 : decode b_Rw_isWord 11 = .ok (.iconst 0, 1) := by decide +kernel
theorem d_Rw_isWord_12 : decode b_Rw_isWord 12 = .ok (.ireturn, 1) := by decide +kernel
theorem d_Rw_isWord_13 : decode b_Rw_isWord 13 = .ok (.iconst 0, 1) := by decide +kernel
theorem d_Rw_isWord_14 : decode b_Rw_isWord 14 = .ok (.istore_n 2, 1) := by decide +kernel
theorem d_Rw_isWord_15 : decode b_Rw_isWord 15 = .ok (.iload_n 2, 1) := by decide +kernel
theorem d_Rw_isWord_16 : decode b_Rw_isWord 16 = .ok (.aload_n 0, 1) := by decide +kernel
theorem d_Rw_isWord_17 : decode b_Rw_isWord 17 = .ok (.getfield 15, 3) := by decide +kernel
theorem d_Rw_isWord_20 : decode b_Rw_isWord 20 = .ok (.if_icmp .ge 25, 3) := by decide +kernel
theorem d_Rw_isWord_23 : decode b_Rw_isWord 23 = .ok (.aload_n 0, 1) := by decide +kernel
theorem d_Rw_isWord_24 : decode b_Rw_isWord 24 = .ok (.getfield 9, 3) := by decide +kernel
theorem d_Rw_isWord_27 : decode b_Rw_isWord 27 = .ok (.iload_n 2, 1) := by decide +kernel
theorem d_Rw_isWord_28 : decode b_Rw_isWord 28 = .ok (.caload, 1) := by decide +kernel
theorem d_Rw_isWord_29 : decode b_Rw_isWord 29 = .ok (.aload_n 1, 1) := by decide +kernel
theorem d_Rw_isWord_30 : decode b_Rw_isWord 30 = .ok (.iload_n 2, 1) := by decide +kernel
theorem d_Rw_isWord_31 : decode b_Rw_isWord 31 = .ok (.invokevirtual 28, 3) := by decide +kernel
theorem d_Rw_isWord_34 : decode b_Rw_isWord 34 = .ok (.if_icmp .eq 5, 3) := by decide +kernel
theorem d_Rw_isWord_37 : decode b_Rw_isWord 37 = .ok (.iconst 0, 1) := by decide +kernel
theorem d_Rw_isWord_38 : decode b_Rw_isWord 38 = .ok (.ireturn, 1) := by decide +kernel
theorem d_Rw_isWord_39 : decode b_Rw_isWord 39 = .ok (.iinc 2 1, 3) := by decide +kernel
theorem d_Rw_isWord_42 : decode b_Rw_isWord 42 = .ok (.goto (-27), 3) := by decide +kernel
theorem d_Rw_isWord_45 : decode b_Rw_isWord 45 = .ok (.iconst 1, 1) := by decide +kernel
theorem d_Rw_isWord_46 : decode b_Rw_isWord 46 = .ok (.ireturn, 1) := by decide +kernel
theorem d_Rw_fits_0 : decode b_Rw_fits 0 = .ok (.aload_n 0, 1) := by decide +kernel
theorem d_Rw_fits_1 : decode b_Rw_fits 1 = .ok (.getfield 19, 3) := by decide +kernel
theorem d_Rw_fits_4 : decode b_Rw_fits 4 = .ok (.ifCond .ne 7, 3) := by decide +kernel
theorem d_Rw_fits_7 : decode b_Rw_fits 7 = .ok (.iconst 1, 1) := by decide +kernel
theorem d_Rw_fits_8 : decode b_Rw_fits 8 = .ok (.goto 4, 3) := by decide +kernel
theorem d_Rw_fits_11 : decode b_Rw_fits 11 = .ok (.iconst 0, 1) := by decide +kernel
theorem d_Rw_fits_12 : decode b_Rw_fits 12 = .ok (.ireturn, 1) := by decide +kernel
theorem d_Gr_nameEnd_0 : decode b_Gr_nameEnd 0 = .ok (.iconst 1, 1) := by decide +kernel
theorem d_Gr_nameEnd_1 : decode b_Gr_nameEnd 1 = .ok (.istore_n 3, 1) := by decide +kernel
theorem d_Gr_nameEnd_2 : decode b_Gr_nameEnd 2 = .ok (.iload_n 1, 1) := by decide +kernel
theorem d_Gr_nameEnd_3 : decode b_Gr_nameEnd 3 = .ok (.istore 4, 2) := by decide +kernel
theorem d_Gr_nameEnd_5 : decode b_Gr_nameEnd 5 = .ok (.iload 4, 2) := by decide +kernel
theorem d_Gr_nameEnd_7 : decode b_Gr_nameEnd 7 = .ok (.aload_n 0, 1) := by decide +kernel
theorem d_Gr_nameEnd_8 : decode b_Gr_nameEnd 8 = .ok (.invokevirtual 26, 3) := by decide +kernel
theorem d_Gr_nameEnd_11 : decode b_Gr_nameEnd 11 = .ok (.if_icmp .ge 54, 3) := by decide +kernel
theorem d_Gr_nameEnd_14 : decode b_Gr_nameEnd 14 = .ok (.aload_n 0, 1) := by decide +kernel
theorem d_Gr_nameEnd_15 : decode b_Gr_nameEnd 15 = .ok (.iload 4, 2) := by decide +kernel
theorem d_Gr_nameEnd_17 : decode b_Gr_nameEnd 17 = .ok (.invokevirtual 34, 3) := by decide +kernel
theorem d_Gr_nameEnd_20 : decode b_Gr_nameEnd 20 = .ok (.istore 5, 2) := by decide +kernel
theorem d_Gr_nameEnd_22 : decode b_Gr_nameEnd 22 = .ok (.iload 5, 2) := by decide +kernel
theorem d_Gr_nameEnd_24 : decode b_Gr_nameEnd 24 = .ok (.invokestatic 42, 3) := by decide +kernel
theorem d_Gr_nameEnd_27 : decode b_Gr_nameEnd 27 = .ok (.ifCond .ne 15, 3) := by decide +kernel
theorem d_Gr_nameEnd_30 : decode b_Gr_nameEnd 30 = .ok (.iload_n 3, 1) := by decide +kernel
theorem d_Gr_nameEnd_31 : decode b_Gr_nameEnd 31 = .ok (.ifCond .ne 16, 3) := by decide +kernel
theorem d_Gr_nameEnd_34 : decode b_Gr_nameEnd 34 = .ok (.iload 5, 2) := by decide +kernel
theorem d_Gr_nameEnd_36 : decode b_Gr_nameEnd 36 = .ok (.invokestatic 45, 3) := by decide +kernel
theorem d_Gr_nameEnd_39 : decode b_Gr_nameEnd 39 = .ok (.ifCond .eq 8, 3) := by decide +kernel
theorem d_Gr_nameEnd_42 : decode b_Gr_nameEnd 42 = .ok (.iconst 0, 1) := by decide +kernel
theorem d_Gr_nameEnd_43 : decode b_Gr_nameEnd 43 = .ok (.istore_n 3, 1) := by decide +kernel
theorem d_Gr_nameEnd_44 : decode b_Gr_nameEnd 44 = .ok (.goto 15, 3) := by decide +kernel
theorem d_Gr_nameEnd_47 : decode b_Gr_nameEnd 47 = .ok (.iload_n 3, 1) := by decide +kernel
theorem d_Gr_nameEnd_48 : decode b_Gr_nameEnd 48 = .ok (.ifCond .ne 17, 3) := by decide +kernel
theorem d_Gr_nameEnd_51 : decode b_Gr_nameEnd 51 = .ok (.iload 5, 2) := by decide +kernel
theorem d_Gr_nameEnd_53 : decode b_Gr_nameEnd 53 = .ok (.iload_n 2, 1) := by decide +kernel
theorem d_Gr_nameEnd_54 : decode b_Gr_nameEnd 54 = .ok (.if_icmp .ne 11, 3) := by decide +kernel
theorem d_Gr_nameEnd_57 : decode b_Gr_nameEnd 57 = .ok (.iconst 1, 1) := by decide +kernel
theorem d_Gr_nameEnd_58 : decode b_Gr_nameEnd 58 = .ok (.istore_n 3, 1) := by decide +kernel
theorem d_Gr_nameEnd_59 : decode b_Gr_nameEnd 59 = .ok (.iinc 4 1, 3) := by decide +kernel
theorem d_Gr_nameEnd_62 : decode b_Gr_nameEnd 62 = .ok (.goto (-57), 3) := by decide +kernel
theorem d_Gr_nameEnd_65 : decode b_Gr_nameEnd 65 = .ok (.iload_n 3, 1) := by decide +kernel
theorem d_Gr_nameEnd_66 : decode b_Gr_nameEnd 66 = .ok (.ifCond .eq 7, 3) := by decide +kernel
theorem d_Gr_nameEnd_69 : decode b_Gr_nameEnd 69 = .ok (.iconst (-1), 1) := by decide +kernel
theorem d_Gr_nameEnd_70 : decode b_Gr_nameEnd 70 = .ok (.goto 5, 3) := by decide +kernel
theorem d_Gr_nameEnd_73 : decode b_Gr_nameEnd 73 = .ok (.iload 4, 2) := by decide +kernel
theorem d_Gr_nameEnd_75 : decode b_Gr_nameEnd 75 = .ok (.ireturn, 1) := by decide +kernel
theorem d_Gr_isLetter_0 : decode b_Gr_isLetter 0 = .ok (.iload_n 0, 1) := by decide +kernel
theorem d_Gr_isLetter_1 : decode b_Gr_isLetter 1 = .ok (.bipush 97, 2) := by decide +kernel
theorem d_Gr_isLetter_3 : decode b_Gr_isLetter 3 = .ok (.if_icmp .lt 9, 3) := by decide +kernel
theorem d_Gr_isLetter_6 : decode b_Gr_isLetter 6 = .ok (.iload_n 0, 1) := by decide +kernel
theorem d_Gr_isLetter_7 : decode b_Gr_isLetter 7 = .ok (.bipush 122, 2) := by decide +kernel
theorem d_Gr_isLetter_9 : decode b_Gr_isLetter 9 = .ok (.if_icmp .le 27, 3) := by decide +kernel
theorem d_Gr_isLetter_12 : decode b_Gr_isLetter 12 = .ok (.iload_n 0, 1) := by decide +kernel
theorem d_Gr_isLetter_13 : decode b_Gr_isLetter 13 = .ok (.bipush 65, 2) := by decide +kernel
theorem d_Gr_isLetter_15 : decode b_Gr_isLetter 15 = .ok (.if_icmp .lt 9, 3) := by decide +kernel
theorem d_Gr_isLetter_18 : decode b_Gr_isLetter 18 = .ok (.iload_n 0, 1) := by decide +kernel
theorem d_Gr_isLetter_19 : decode b_Gr_isLetter 19 = .ok (.bipush 90, 2) := by decide +kernel
theorem d_Gr_isLetter_21 : decode b_Gr_isLetter 21 = .ok (.if_icmp .le 15, 3) := by decide +kernel
theorem d_Gr_isLetter_24 : decode b_Gr_isLetter 24 = .ok (.iload_n 0, 1) := by decide +kernel
theorem d_Gr_isLetter_25 : decode b_Gr_isLetter 25 = .ok (.bipush 36, 2) := by decide +kernel
theorem d_Gr_isLetter_27 : decode b_Gr_isLetter 27 = .ok (.if_icmp .eq 9, 3) := by decide +kernel
theorem d_Gr_isLetter_30 : decode b_Gr_isLetter 30 = .ok (.iload_n 0, 1) := by decide +kernel
theorem d_Gr_isLetter_31 : decode b_Gr_isLetter 31 = .ok (.bipush 95, 2) := by decide +kernel
theorem d_Gr_isLetter_33 : decode b_Gr_isLetter 33 = .ok (.if_icmp .ne 7, 3) := by decide +kernel
theorem d_Gr_isLetter_36 : decode b_Gr_isLetter 36 = .ok (.iconst 1, 1) := by decide +kernel
theorem d_Gr_isLetter_37 : decode b_Gr_isLetter 37 = .ok (.goto 4, 3) := by decide +kernel
theorem d_Gr_isLetter_40 : decode b_Gr_isLetter 40 = .ok (.iconst 0, 1) := by decide +kernel
theorem d_Gr_isLetter_41 : decode b_Gr_isLetter 41 = .ok (.ireturn, 1) := by decide +kernel
theorem d_Gr_isDigit_0 : decode b_Gr_isDigit 0 = .ok (.iload_n 0, 1) := by decide +kernel
theorem d_Gr_isDigit_1 : decode b_Gr_isDigit 1 = .ok (.bipush 48, 2) := by decide +kernel
theorem d_Gr_isDigit_3 : decode b_Gr_isDigit 3 = .ok (.if_icmp .lt 13, 3) := by decide +kernel
theorem d_Gr_isDigit_6 : decode b_Gr_isDigit 6 = .ok (.iload_n 0, 1) := by decide +kernel
theorem d_Gr_isDigit_7 : decode b_Gr_isDigit 7 = .ok (.bipush 57, 2) := by decide +kernel
theorem d_Gr_isDigit_9 : decode b_Gr_isDigit 9 = .ok (.if_icmp .gt 7, 3) := by decide +kernel
theorem d_Gr_isDigit_12 : decode b_Gr_isDigit 12 = .ok (.iconst 1, 1) := by decide +kernel
theorem d_Gr_isDigit_13 : decode b_Gr_isDigit 13 = .ok (.goto 4, 3) := by decide +kernel
theorem d_Gr_isDigit_16 : decode b_Gr_isDigit 16 = .ok (.iconst 0, 1) := by decide +kernel
theorem d_Gr_isDigit_17 : decode b_Gr_isDigit 17 = .ok (.ireturn, 1) := by decide +kernel
theorem d_Gr_isMethodDescriptor_0 : decode b_Gr_isMethodDescriptor 0 = .ok (.aload_n 0, 1) := by decide +kernel
theorem d_Gr_isMethodDescriptor_1 : decode b_Gr_isMethodDescriptor 1 = .ok (.invokevirtual 18, 3) := by decide +kernel
theorem d_Gr_isMethodDescriptor_4 : decode b_Gr_isMethodDescriptor 4 = .ok (.ifCond .eq 13, 3) := by decide +kernel
theorem d_Gr_isMethodDescriptor_7 : decode b_Gr_isMethodDescriptor 7 = .ok (.aload_n 0, 1) := by decide +kernel
theorem d_Gr_isMethodDescriptor_8 : decode b_Gr_isMethodDescriptor 8 = .ok (.iconst 0, 1) := by decide +kernel
theorem d_Gr_isMethodDescriptor_9 : decode b_Gr_isMethodDescriptor 9 = .ok (.invokevirtual 34, 3) := by decide +kernel
theorem d_Gr_isMethodDescriptor_12 : decode b_Gr_isMethodDescriptor 12 = .ok (.bipush 40, 2) := by decide +kernel
theorem d_Gr_isMethodDescriptor_14 : decode b_Gr_isMethodDescriptor 14 = .ok (.if_icmp .eq 5, 3) := by decide +kernel
theorem d_Gr_isMethodDescriptor_17 : decode b_Gr_isMethodDescriptor 17 = .ok (.iconst 0, 1) := by decide +kernel
theorem d_Gr_isMethodDescriptor_18 : decode b_Gr_isMethodDescriptor 18 = .ok (.ireturn, 1) := by decide +kernel
theorem d_Gr_isMethodDescriptor_19 : decode b_Gr_isMethodDescriptor 19 = .ok (.iconst 1, 1) := by decide +kernel
theorem d_Gr_isMethodDescriptor_20 : decode b_Gr_isMethodDescriptor 20 = .ok (.istore_n 1, 1) := by decide +kernel
theorem d_Gr_isMethodDescriptor_21 : decode b_Gr_isMethodDescriptor 21 = .ok (.iconst 0, 1) := by decide +kernel
theorem d_Gr_isMethodDescriptor_22 : decode b_Gr_isMethodDescriptor 22 = .ok (.istore_n 2, 1) := by decide +kernel
theorem d_Gr_isMethodDescriptor_23 : decode b_Gr_isMethodDescriptor 23 = .ok (.iload_n 2, 1) := by decide +kernel
theorem d_Gr_isMethodDescriptor_24 : decode b_Gr_isMethodDescriptor 24 = .ok (.bipush 20, 2) := by decide +kernel
theorem d_Gr_isMethodDescriptor_26 : decode b_Gr_isMethodDescriptor 26 = .ok (.if_icmp .ge 30, 3) := by decide +kernel
theorem d_Gr_isMethodDescriptor_29 : decode b_Gr_isMethodDescriptor 29 = .ok (.iload_n 1, 1) := by decide +kernel
theorem d_Gr_isMethodDescriptor_30 : decode b_Gr_isMethodDescriptor 30 = .ok (.iconst (-1), 1) := by decide +kernel
theorem d_Gr_isMethodDescriptor_31 : decode b_Gr_isMethodDescriptor 31 = .ok (.if_icmp .eq 25, 3) := by decide +kernel
theorem d_Gr_isMethodDescriptor_34 : decode b_Gr_isMethodDescriptor 34 = .ok (.aload_n 0, 1) := by decide +kernel
theorem d_Gr_isMethodDescriptor_35 : decode b_Gr_isMethodDescriptor 35 = .ok (.iload_n 1, 1) := by decide +kernel
theorem d_Gr_isMethodDescriptor_36 : decode b_Gr_isMethodDescriptor 36 = .ok (.invokevirtual 34, 3) := by decide +kernel
theorem d_Gr_isMethodDescriptor_39 : decode b_Gr_isMethodDescriptor 39 = .ok (.bipush 41, 2) := by decide +kernel
theorem d_Gr_isMethodDescriptor_41 : decode b_Gr_isMethodDescriptor 41 = .ok (.if_icmp .eq 15, 3) := by decide +kernel
theorem d_Gr_isMethodDescriptor_44 : decode b_Gr_isMethodDescriptor 44 = .ok (.aload_n 0, 1) := by decide +kernel
theorem d_Gr_isMethodDescriptor_45 : decode b_Gr_isMethodDescriptor 45 = .ok (.iload_n 1, 1) := by decide +kernel
theorem d_Gr_isMethodDescriptor_46 : decode b_Gr_isMethodDescriptor 46 = .ok (.invokestatic 30, 3) := by decide +kernel
theorem d_Gr_isMethodDescriptor_49 : decode b_Gr_isMethodDescriptor 49 = .ok (.istore_n 1, 1) := by decide +kernel
theorem d_Gr_isMethodDescriptor_50 : decode b_Gr_isMethodDescriptor 50 = .ok (.iinc 2 1, 3) := by decide +kernel
theorem d_Gr_isMethodDescriptor_53 : decode b_Gr_isMethodDescriptor 53 = .ok (.goto (-30), 3) := by decide +kernel
theorem d_Gr_isMethodDescriptor_56 : decode b_Gr_isMethodDescriptor 56 = .ok (.aload_n 0, 1) := by decide +kernel
theorem d_Gr_isMethodDescriptor_57 : decode b_Gr_isMethodDescriptor 57 = .ok (.iload_n 1, 1) := by decide +kernel
theorem d_Gr_isMethodDescriptor_58 : decode b_Gr_isMethodDescriptor 58 = .ok (.invokevirtual 34, 3) := by decide +kernel
theorem d_Gr_isMethodDescriptor_61 : decode b_Gr_isMethodDescriptor 61 = .ok (.bipush 41, 2) := by decide +kernel
theorem d_Gr_isMethodDescriptor_63 : decode b_Gr_isMethodDescriptor 63 = .ok (.if_icmp .eq 5, 3) := by decide +kernel
theorem d_Gr_isMethodDescriptor_66 : decode b_Gr_isMethodDescriptor 66 = .ok (.iconst 0, 1) := by decide +kernel
theorem d_Gr_isMethodDescriptor_67 : decode b_Gr_isMethodDescriptor 67 = .ok (.ireturn, 1) := by decide +kernel
theorem d_Gr_isMethodDescriptor_68 : decode b_Gr_isMethodDescriptor 68 = .ok (.aload_n 0, 1) := by decide +kernel
theorem d_Gr_isMethodDescriptor_69 : decode b_Gr_isMethodDescriptor 69 = .ok (.iload_n 1, 1) := by decide +kernel
theorem d_Gr_isMethodDescriptor_70 : decode b_Gr_isMethodDescriptor 70 = .ok (.iconst 1, 1) := by decide +kernel
theorem d_Gr_isMethodDescriptor_71 : decode b_Gr_isMethodDescriptor 71 = .ok (.iadd, 1) := by decide +kernel
theorem d_Gr_isMethodDescriptor_72 : decode b_Gr_isMethodDescriptor 72 = .ok (.invokevirtual 34, 3) := by decide +kernel
theorem d_Gr_isMethodDescriptor_75 : decode b_Gr_isMethodDescriptor 75 = .ok (.bipush 86, 2) := by decide +kernel
theorem d_Gr_isMethodDescriptor_77 : decode b_Gr_isMethodDescriptor 77 = .ok (.if_icmp .ne 9, 3) := by decide +kernel
theorem d_Gr_isMethodDescriptor_80 : decode b_Gr_isMethodDescriptor 80 = .ok (.iload_n 1, 1) := by decide +kernel
theorem d_Gr_isMethodDescriptor_81 : decode b_Gr_isMethodDescriptor 81 = .ok (.iconst 2, 1) := by decide +kernel
theorem d_Gr_isMethodDescriptor_82 : decode b_Gr_isMethodDescriptor 82 = .ok (.iadd, 1) := by decide +kernel
theorem d_Gr_isMethodDescriptor_83 : decode b_Gr_isMethodDescriptor 83 = .ok (.goto 10, 3) := by decide +kernel
theorem d_Gr_isMethodDescriptor_86 : decode b_Gr_isMethodDescriptor 86 = .ok (.aload_n 0, 1) := by decide +kernel
theorem d_Gr_isMethodDescriptor_87 : decode b_Gr_isMethodDescriptor 87 = .ok (.iload_n 1, 1) := by decide +kernel
theorem d_Gr_isMethodDescriptor_88 : decode b_Gr_isMethodDescriptor 88 = .ok (.iconst 1, 1) := by decide +kernel
theorem d_Gr_isMethodDescriptor_89 : decode b_Gr_isMethodDescriptor 89 = .ok (.iadd, 1) := by decide +kernel
theorem d_Gr_isMethodDescriptor_90 : decode b_Gr_isMethodDescriptor 90 = .ok (.invokestatic 30, 3) := by decide +kernel
theorem d_Gr_isMethodDescriptor_93 : decode b_Gr_isMethodDescriptor 93 = .ok (.istore_n 2, 1) := by decide +kernel
theorem d_Gr_isMethodDescriptor_94 : decode b_Gr_isMethodDescriptor 94 = .ok (.iload_n 2, 1) := by decide +kernel
theorem d_Gr_isMethodDescriptor_95 : decode b_Gr_isMethodDescriptor 95 = .ok (.aload_n 0, 1) := by decide +kernel
theorem d_Gr_isMethodDescriptor_96 : decode b_Gr_isMethodDescriptor 96 = .ok (.invokevirtual 26, 3) := by decide +kernel
theorem d_Gr_isMethodDescriptor_99 : decode b_Gr_isMethodDescriptor 99 = .ok (.if_icmp .ne 7, 3) := by decide +kernel
theorem d_Gr_isMethodDescriptor_102 : decode b_Gr_isMethodDescriptor 102 = .ok (.iconst 1, 1) := by decide +kernel
theorem d_Gr_isMethodDescriptor_103 : decode b_Gr_isMethodDescriptor 103 = .ok (.goto 4, 3) := by decide +kernel
theorem d_Gr_isMethodDescriptor_106 : decode b_Gr_isMethodDescriptor 106 = .ok (.iconst 0, 1) := by decide +kernel
theorem d_Gr_isMethodDescriptor_107 : decode b_Gr_isMethodDescriptor 107 = .ok (.ireturn, 1) := by decide +kernel
theorem d_Gr_fieldEnd_0 : decode b_Gr_fieldEnd 0 = .ok (.iload_n 1, 1) := by decide +kernel
theorem d_Gr_fieldEnd_1 : decode b_Gr_fieldEnd 1 = .ok (.istore_n 2, 1) := by decide +kernel
theorem d_Gr_fieldEnd_2 : decode b_Gr_fieldEnd 2 = .ok (.iload_n 2, 1) := by decide +kernel
theorem d_Gr_fieldEnd_3 : decode b_Gr_fieldEnd 3 = .ok (.aload_n 0, 1) := by decide +kernel
theorem d_Gr_fieldEnd_4 : decode b_Gr_fieldEnd 4 = .ok (.invokevirtual 26, 3) := by decide +kernel
theorem d_Gr_fieldEnd_7 : decode b_Gr_fieldEnd 7 = .ok (.if_icmp .ge 19, 3) := by decide +kernel
theorem d_Gr_fieldEnd_10 : decode b_Gr_fieldEnd 10 = .ok (.aload_n 0, 1) := by decide +kernel
theorem d_Gr_fieldEnd_11 : decode b_Gr_fieldEnd 11 = .ok (.iload_n 2, 1) := by decide +kernel
theorem d_Gr_fieldEnd_12 : decode b_Gr_fieldEnd 12 = .ok (.invokevirtual 34, 3) := by decide +kernel
theorem d_Gr_fieldEnd_15 : decode b_Gr_fieldEnd 15 = .ok (.bipush 91, 2) := by decide +kernel
theorem d_Gr_fieldEnd_17 : decode b_Gr_fieldEnd 17 = .ok (.if_icmp .ne 9, 3) := by decide +kernel
theorem d_Gr_fieldEnd_20 : decode b_Gr_fieldEnd 20 = .ok (.iinc 2 1, 3) := by decide +kernel
theorem d_Gr_fieldEnd_23 : decode b_Gr_fieldEnd 23 = .ok (.goto (-21), 3) := by decide +kernel
theorem d_Gr_fieldEnd_26 : decode b_Gr_fieldEnd 26 = .ok (.aload_n 0, 1) := by decide +kernel
theorem d_Gr_fieldEnd_27 : decode b_Gr_fieldEnd 27 = .ok (.iload_n 2, 1) := by decide +kernel
theorem d_Gr_fieldEnd_28 : decode b_Gr_fieldEnd 28 = .ok (.invokevirtual 34, 3) := by decide +kernel
theorem d_Gr_fieldEnd_31 : decode b_Gr_fieldEnd 31 = .ok (.invokestatic 38, 3) := by decide +kernel
theorem d_Gr_fieldEnd_34 : decode b_Gr_fieldEnd 34 = .ok (.ifCond .eq 7, 3) := by decide +kernel
theorem d_Gr_fieldEnd_37 : decode b_Gr_fieldEnd 37 = .ok (.iload_n 2, 1) := by decide +kernel
theorem d_Gr_fieldEnd_38 : decode b_Gr_fieldEnd 38 = .ok (.iconst 1, 1) := by decide +kernel
theorem d_Gr_fieldEnd_39 : decode b_Gr_fieldEnd 39 = .ok (.iadd, 1) := by decide +kernel
theorem d_Gr_fieldEnd_40 : decode b_Gr_fieldEnd 40 = .ok (.ireturn, 1) := by decide +kernel
theorem d_Gr_fieldEnd_41 : decode b_Gr_fieldEnd 41 = .ok (.aload_n 0, 1) := by decide +kernel
theorem d_Gr_fieldEnd_42 : decode b_Gr_fieldEnd 42 = .ok (.iload_n 2, 1) := by decide +kernel
theorem d_Gr_fieldEnd_43 : decode b_Gr_fieldEnd 43 = .ok (.invokevirtual 34, 3) := by decide +kernel
theorem d_Gr_fieldEnd_46 : decode b_Gr_fieldEnd 46 = .ok (.bipush 76, 2) := by decide +kernel
theorem d_Gr_fieldEnd_48 : decode b_Gr_fieldEnd 48 = .ok (.if_icmp .eq 5, 3) := by decide +kernel
theorem d_Gr_fieldEnd_51 : decode b_Gr_fieldEnd 51 = .ok (.iconst (-1), 1) := by decide +kernel
theorem d_Gr_fieldEnd_52 : decode b_Gr_fieldEnd 52 = .ok (.ireturn, 1) := by decide +kernel
theorem d_Gr_fieldEnd_53 : decode b_Gr_fieldEnd 53 = .ok (.aload_n 0, 1) := by decide +kernel
theorem d_Gr_fieldEnd_54 : decode b_Gr_fieldEnd 54 = .ok (.iload_n 2, 1) := by decide +kernel
theorem d_Gr_fieldEnd_55 : decode b_Gr_fieldEnd 55 = .ok (.iconst 1, 1) := by decide +kernel
theorem d_Gr_fieldEnd_56 : decode b_Gr_fieldEnd 56 = .ok (.iadd, 1) := by decide +kernel
theorem d_Gr_fieldEnd_57 : decode b_Gr_fieldEnd 57 = .ok (.bipush 47, 2) := by decide +kernel
theorem d_Gr_fieldEnd_59 : decode b_Gr_fieldEnd 59 = .ok (.invokestatic 22, 3) := by decide +kernel
theorem d_Gr_fieldEnd_62 : decode b_Gr_fieldEnd 62 = .ok (.istore_n 3, 1) := by decide +kernel
theorem d_Gr_fieldEnd_63 : decode b_Gr_fieldEnd 63 = .ok (.aload_n 0, 1) := by decide +kernel
theorem d_Gr_fieldEnd_64 : decode b_Gr_fieldEnd 64 = .ok (.iload_n 3, 1) := by decide +kernel
theorem d_Gr_fieldEnd_65 : decode b_Gr_fieldEnd 65 = .ok (.invokevirtual 34, 3) := by decide +kernel
theorem d_Gr_fieldEnd_68 : decode b_Gr_fieldEnd 68 = .ok (.bipush 59, 2) := by decide +kernel
theorem d_Gr_fieldEnd_70 : decode b_Gr_fieldEnd 70 = .ok (.if_icmp .ne 9, 3) := by decide +kernel
theorem d_Gr_fieldEnd_73 : decode b_Gr_fieldEnd 73 = .ok (.iload_n 3, 1) := by decide +kernel
theorem d_Gr_fieldEnd_74 : decode b_Gr_fieldEnd 74 = .ok (.iconst 1, 1) := by decide +kernel
theorem d_Gr_fieldEnd_75 : decode b_Gr_fieldEnd 75 = .ok (.iadd, 1) := by decide +kernel
theorem d_Gr_fieldEnd_76 : decode b_Gr_fieldEnd 76 = .ok (.goto 4, 3) := by decide +kernel
theorem d_Gr_fieldEnd_79 : decode b_Gr_fieldEnd 79 = .ok (.iconst (-1), 1) := by decide +kernel
theorem d_Gr_fieldEnd_80 : decode b_Gr_fieldEnd 80 = .ok (.ireturn, 1) := by decide +kernel
theorem d_Gr_isBase_0 : decode b_Gr_isBase 0 = .ok (.iload_n 0, 1) := by decide +kernel
theorem d_Gr_isBase_1 : decode b_Gr_isBase 1 = .ok (.tableswitch 117 66 90 #[115, 115, 115, 117, 115, 117, 117, 115, 115, 117, 117, 117, 117, 117, 117, 117, 117, 115, 117, 117, 117, 117, 117, 117, 115], 115) := by decide +kernel
theorem d_Gr_isBase_116 : decode b_Gr_isBase 116 = .ok (.iconst 1, 1) := by decide +kernel
theorem d_Gr_isBase_117 : decode b_Gr_isBase 117 = .ok (.ireturn, 1) := by decide +kernel
theorem d_Gr_isBase_118 : decode b_Gr_isBase 118 = .ok (.iconst 0, 1) := by decide +kernel
theorem d_Gr_isBase_119 : decode b_Gr_isBase 119 = .ok (.ireturn, 1) := by decide +kernel
theorem d_Gr_isFieldDescriptor_0 : decode b_Gr_isFieldDescriptor 0 = .ok (.aload_n 0, 1) := by decide +kernel
theorem d_Gr_isFieldDescriptor_1 : decode b_Gr_isFieldDescriptor 1 = .ok (.invokevirtual 18, 3) := by decide +kernel
theorem d_Gr_isFieldDescriptor_4 : decode b_Gr_isFieldDescriptor 4 = .ok (.ifCond .eq 19, 3) := by decide +kernel
theorem d_Gr_isFieldDescriptor_7 : decode b_Gr_isFieldDescriptor 7 = .ok (.aload_n 0, 1) := by decide +kernel
theorem d_Gr_isFieldDescriptor_8 : decode b_Gr_isFieldDescriptor 8 = .ok (.iconst 0, 1) := by decide +kernel
theorem d_Gr_isFieldDescriptor_9 : decode b_Gr_isFieldDescriptor 9 = .ok (.invokestatic 30, 3) := by decide +kernel
theorem d_Gr_isFieldDescriptor_12 : decode b_Gr_isFieldDescriptor 12 = .ok (.aload_n 0, 1) := by decide +kernel
theorem d_Gr_isFieldDescriptor_13 : decode b_Gr_isFieldDescriptor 13 = .ok (.invokevirtual 26, 3) := by decide +kernel
theorem d_Gr_isFieldDescriptor_16 : decode b_Gr_isFieldDescriptor 16 = .ok (.if_icmp .ne 7, 3) := by decide +kernel
theorem d_Gr_isFieldDescriptor_19 : decode b_Gr_isFieldDescriptor 19 = .ok (.iconst 1, 1) := by decide +kernel
theorem d_Gr_isFieldDescriptor_20 : decode b_Gr_isFieldDescriptor 20 = .ok (.goto 4, 3) := by decide +kernel
theorem d_Gr_isFieldDescriptor_23 : decode b_Gr_isFieldDescriptor 23 = .ok (.iconst 0, 1) := by decide +kernel
theorem d_Gr_isFieldDescriptor_24 : decode b_Gr_isFieldDescriptor 24 = .ok (.ireturn, 1) := by decide +kernel
theorem d_Dc_compare_0 : decode b_Dc_compare 0 = .ok (.aload_n 0, 1) := by decide +kernel
theorem d_Dc_compare_1 : decode b_Dc_compare 1 = .ok (.getfield 14, 3) := by decide +kernel
theorem d_Dc_compare_4 : decode b_Dc_compare 4 = .ok (.aload_n 1, 1) := by decide +kernel
theorem d_Dc_compare_5 : decode b_Dc_compare 5 = .ok (.getfield 14, 3) := by decide +kernel
theorem d_Dc_compare_8 : decode b_Dc_compare 8 = .ok (.invokevirtual 34, 3) := by decide +kernel
theorem d_Dc_compare_11 : decode b_Dc_compare 11 = .ok (.istore_n 2, 1) := by decide +kernel
theorem d_Dc_compare_12 : decode b_Dc_compare 12 = .ok (.iload_n 2, 1) := by decide +kernel
theorem d_Dc_compare_13 : decode b_Dc_compare 13 = .ok (.ifCond .ne 13, 3) := by decide +kernel
theorem d_Dc_compare_16 : decode b_Dc_compare 16 = .ok (.aload_n 0, 1) := by decide +kernel
theorem d_Dc_compare_17 : decode b_Dc_compare 17 = .ok (.getfield 27, 3) := by decide +kernel
theorem d_Dc_compare_20 : decode b_Dc_compare 20 = .ok (.aload_n 1, 1) := by decide +kernel
theorem d_Dc_compare_21 : decode b_Dc_compare 21 = .ok (.getfield 27, 3) := by decide +kernel
theorem d_Dc_compare_24 : decode b_Dc_compare 24 = .ok (.isub, 1) := by decide +kernel
theorem d_Dc_compare_25 : decode b_Dc_compare 25 = .ok (.istore_n 2, 1) := by decide +kernel
theorem d_Dc_compare_26 : decode b_Dc_compare 26 = .ok (.iload_n 2, 1) := by decide +kernel
theorem d_Dc_compare_27 : decode b_Dc_compare 27 = .ok (.ifCond .ne 17, 3) := by decide +kernel
theorem d_Dc_compare_30 : decode b_Dc_compare 30 = .ok (.aload_n 0, 1) := by decide +kernel
theorem d_Dc_compare_31 : decode b_Dc_compare 31 = .ok (.getfield 20, 3) := by decide +kernel
theorem d_Dc_compare_34 : decode b_Dc_compare 34 = .ok (.aload_n 1, 1) := by decide +kernel
theorem d_Dc_compare_35 : decode b_Dc_compare 35 = .ok (.getfield 20, 3) := by decide +kernel
theorem d_Dc_compare_38 : decode b_Dc_compare 38 = .ok (.invokevirtual 34, 3) := by decide +kernel
theorem d_Dc_compare_41 : decode b_Dc_compare 41 = .ok (.goto 4, 3) := by decide +kernel
theorem d_Dc_compare_44 : decode b_Dc_compare 44 = .ok (.iload_n 2, 1) := by decide +kernel
theorem d_Dc_compare_45 : decode b_Dc_compare 45 = .ok (.ireturn, 1) := by decide +kernel
theorem d_Rw_compare_0 : decode b_Rw_compare 0 = .ok (.iconst 0, 1) := by decide +kernel
theorem d_Rw_compare_1 : decode b_Rw_compare 1 = .ok (.istore_n 2, 1) := by decide +kernel
theorem d_Rw_compare_2 : decode b_Rw_compare 2 = .ok (.iload_n 2, 1) := by decide +kernel
theorem d_Rw_compare_3 : decode b_Rw_compare 3 = .ok (.aload_n 0, 1) := by decide +kernel
theorem d_Rw_compare_4 : decode b_Rw_compare 4 = .ok (.getfield 15, 3) := by decide +kernel
theorem d_Rw_compare_7 : decode b_Rw_compare 7 = .ok (.if_icmp .ge 46, 3) := by decide +kernel
theorem d_Rw_compare_10 : decode b_Rw_compare 10 = .ok (.iload_n 2, 1) := by decide +kernel
theorem d_Rw_compare_11 : decode b_Rw_compare 11 = .ok (.aload_n 1, 1) := by decide +kernel
theorem d_Rw_compare_12 : decode b_Rw_compare 12 = .ok (.getfield 15, 3) := by decide +kernel
theorem d_Rw_compare_15 : decode b_Rw_compare 15 = .ok (.if_icmp .ge 38, 3) := by decide +kernel
theorem d_Rw_compare_18 : decode b_Rw_compare 18 = .ok (.aload_n 0, 1) := by decide +kernel
theorem d_Rw_compare_19 : decode b_Rw_compare 19 = .ok (.getfield 9, 3) := by decide +kernel
theorem d_Rw_compare_22 : decode b_Rw_compare 22 = .ok (.iload_n 2, 1) := by decide +kernel
theorem d_Rw_compare_23 : decode b_Rw_compare 23 = .ok (.caload, 1) := by decide +kernel
theorem d_Rw_compare_24 : decode b_Rw_compare 24 = .ok (.aload_n 1, 1) := by decide +kernel
theorem d_Rw_compare_25 : decode b_Rw_compare 25 = .ok (.getfield 9, 3) := by decide +kernel
theorem d_Rw_compare_28 : decode b_Rw_compare 28 = .ok (.iload_n 2, 1) := by decide +kernel
theorem d_Rw_compare_29 : decode b_Rw_compare 29 = .ok (.caload, 1) := by decide +kernel
theorem d_Rw_compare_30 : decode b_Rw_compare 30 = .ok (.if_icmp .eq 17, 3) := by decide +kernel
theorem d_Rw_compare_33 : decode b_Rw_compare 33 = .ok (.aload_n 0, 1) := by decide +kernel
theorem d_Rw_compare_34 : decode b_Rw_compare 34 = .ok (.getfield 9, 3) := by decide +kernel
theorem d_Rw_compare_37 : decode b_Rw_compare 37 = .ok (.iload_n 2, 1) := by decide +kernel
theorem d_Rw_compare_38 : decode b_Rw_compare 38 = .ok (.caload, 1) := by decide +kernel
theorem d_Rw_compare_39 : decode b_Rw_compare 39 = .ok (.aload_n 1, 1) := by decide +kernel
theorem d_Rw_compare_40 : decode b_Rw_compare 40 = .ok (.getfield 9, 3) := by decide +kernel
theorem d_Rw_compare_43 : decode b_Rw_compare 43 = .ok (.iload_n 2, 1) := by decide +kernel
theorem d_Rw_compare_44 : decode b_Rw_compare 44 = .ok (.caload, 1) := by decide +kernel
theorem d_Rw_compare_45 : decode b_Rw_compare 45 = .ok (.isub, 1) := by decide +kernel
theorem d_Rw_compare_46 : decode b_Rw_compare 46 = .ok (.ireturn, 1) := by decide +kernel
theorem d_Rw_compare_47 : decode b_Rw_compare 47 = .ok (.iinc 2 1, 3) := by decide +kernel
theorem d_Rw_compare_50 : decode b_Rw_compare 50 = .ok (.goto (-48), 3) := by decide +kernel
theorem d_Rw_compare_53 : decode b_Rw_compare 53 = .ok (.aload_n 0, 1) := by decide +kernel
theorem d_Rw_compare_54 : decode b_Rw_compare 54 = .ok (.getfield 15, 3) := by decide +kernel
theorem d_Rw_compare_57 : decode b_Rw_compare 57 = .ok (.aload_n 1, 1) := by decide +kernel
theorem d_Rw_compare_58 : decode b_Rw_compare 58 = .ok (.getfield 15, 3) := by decide +kernel
theorem d_Rw_compare_61 : decode b_Rw_compare 61 = .ok (.isub, 1) := by decide +kernel
theorem d_Rw_compare_62 : decode b_Rw_compare 62 = .ok (.ireturn, 1) := by decide +kernel
theorem d_Dc_copy_0 : decode b_Dc_copy 0 = .ok (.aload_n 0, 1) := by decide +kernel
theorem d_Dc_copy_1 : decode b_Dc_copy 1 = .ok (.getfield 14, 3) := by decide +kernel
theorem d_Dc_copy_4 : decode b_Dc_copy 4 = .ok (.aload_n 1, 1) := by decide +kernel
theorem d_Dc_copy_5 : decode b_Dc_copy 5 = .ok (.getfield 14, 3) := by decide +kernel
theorem d_Dc_copy_8 : decode b_Dc_copy 8 = .ok (.invokevirtual 23, 3) := by decide +kernel
theorem d_Dc_copy_11 : decode b_Dc_copy 11 = .ok (.aload_n 0, 1) := by decide +kernel
theorem d_Dc_copy_12 : decode b_Dc_copy 12 = .ok (.getfield 20, 3) := by decide +kernel
theorem d_Dc_copy_15 : decode b_Dc_copy 15 = .ok (.aload_n 1, 1) := by decide +kernel
theorem d_Dc_copy_16 : decode b_Dc_copy 16 = .ok (.getfield 20, 3) := by decide +kernel
theorem d_Dc_copy_19 : decode b_Dc_copy 19 = .ok (.invokevirtual 23, 3) := by decide +kernel
theorem d_Dc_copy_22 : decode b_Dc_copy 22 = .ok (.aload_n 0, 1) := by decide +kernel
theorem d_Dc_copy_23 : decode b_Dc_copy 23 = .ok (.aload_n 1, 1) := by decide +kernel
theorem d_Dc_copy_24 : decode b_Dc_copy 24 = .ok (.getfield 27, 3) := by decide +kernel
theorem d_Dc_copy_27 : decode b_Dc_copy 27 = .ok (.putfield 27, 3) := by decide +kernel
theorem d_Dc_copy_30 : decode b_Dc_copy 30 = .ok (.aload_n 0, 1) := by decide +kernel
theorem d_Dc_copy_31 : decode b_Dc_copy 31 = .ok (.aload_n 1, 1) := by decide +kernel
theorem d_Dc_copy_32 : decode b_Dc_copy 32 = .ok (.getfield 31, 3) := by decide +kernel
theorem d_Dc_copy_35 : decode b_Dc_copy 35 = .ok (.putfield 31, 3) := by decide +kernel
theorem d_Dc_copy_38 : decode b_Dc_copy 38 = .ok (.return_, 1) := by decide +kernel
theorem d_Rw_copy_0 : decode b_Rw_copy 0 = .ok (.aload_n 0, 1) := by decide +kernel
theorem d_Rw_copy_1 : decode b_Rw_copy 1 = .ok (.invokevirtual 36, 3) := by decide +kernel
theorem d_Rw_copy_4 : decode b_Rw_copy 4 = .ok (.iconst 0, 1) := by decide +kernel
theorem d_Rw_copy_5 : decode b_Rw_copy 5 = .ok (.istore_n 2, 1) := by decide +kernel
theorem d_Rw_copy_6 : decode b_Rw_copy 6 = .ok (.iload_n 2, 1) := by decide +kernel
theorem d_Rw_copy_7 : decode b_Rw_copy 7 = .ok (.aload_n 1, 1) := by decide +kernel
theorem d_Rw_copy_8 : decode b_Rw_copy 8 = .ok (.getfield 15, 3) := by decide +kernel
theorem d_Rw_copy_11 : decode b_Rw_copy 11 = .ok (.if_icmp .ge 19, 3) := by decide +kernel
theorem d_Rw_copy_14 : decode b_Rw_copy 14 = .ok (.aload_n 0, 1) := by decide +kernel
theorem d_Rw_copy_15 : decode b_Rw_copy 15 = .ok (.aload_n 1, 1) := by decide +kernel
theorem d_Rw_copy_16 : decode b_Rw_copy 16 = .ok (.getfield 9, 3) := by decide +kernel
theorem d_Rw_copy_19 : decode b_Rw_copy 19 = .ok (.iload_n 2, 1) := by decide +kernel
theorem d_Rw_copy_20 : decode b_Rw_copy 20 = .ok (.caload, 1) := by decide +kernel
theorem d_Rw_copy_21 : decode b_Rw_copy 21 = .ok (.invokevirtual 32, 3) := by decide +kernel
theorem d_Rw_copy_24 : decode b_Rw_copy 24 = .ok (.iinc 2 1, 3) := by decide +kernel
theorem d_Rw_copy_27 : decode b_Rw_copy 27 = .ok (.goto (-21), 3) := by decide +kernel
theorem d_Rw_copy_30 : decode b_Rw_copy 30 = .ok (.return_, 1) := by decide +kernel
theorem d_Dg_count_0 : decode b_Dg_count 0 = .ok (.aload_n 0, 1) := by decide +kernel
theorem d_Dg_count_1 : decode b_Dg_count 1 = .ok (.getfield 21, 3) := by decide +kernel
theorem d_Dg_count_4 : decode b_Dg_count 4 = .ok (.ireturn, 1) := by decide +kernel
theorem d_Rw_addWord_0 : decode b_Rw_addWord 0 = .ok (.iconst 0, 1) := by decide +kernel
theorem d_Rw_addWord_1 : decode b_Rw_addWord 1 = .ok (.istore_n 2, 1) := by decide +kernel
theorem d_Rw_addWord_2 : decode b_Rw_addWord 2 = .ok (.iload_n 2, 1) := by decide +kernel
theorem d_Rw_addWord_3 : decode b_Rw_addWord 3 = .ok (.aload_n 1, 1) := by decide +kernel
theorem d_Rw_addWord_4 : decode b_Rw_addWord 4 = .ok (.invokevirtual 23, 3) := by decide +kernel
theorem d_Rw_addWord_7 : decode b_Rw_addWord 7 = .ok (.if_icmp .ge 18, 3) := by decide +kernel
theorem d_Rw_addWord_10 : decode b_Rw_addWord 10 = .ok (.aload_n 0, 1) := by decide +kernel
theorem d_Rw_addWord_11 : decode b_Rw_addWord 11 = .ok (.aload_n 1, 1) := by decide +kernel
theorem d_Rw_addWord_12 : decode b_Rw_addWord 12 = .ok (.iload_n 2, 1) := by decide +kernel
theorem d_Rw_addWord_13 : decode b_Rw_addWord 13 = .ok (.invokevirtual 28, 3) := by decide +kernel
theorem d_Rw_addWord_16 : decode b_Rw_addWord 16 = .ok (.invokevirtual 32, 3) := by decide +kernel
theorem d_Rw_addWord_19 : decode b_Rw_addWord 19 = .ok (.iinc 2 1, 3) := by decide +kernel
theorem d_Rw_addWord_22 : decode b_Rw_addWord 22 = .ok (.goto (-20), 3) := by decide +kernel
theorem d_Rw_addWord_25 : decode b_Rw_addWord 25 = .ok (.return_, 1) := by decide +kernel
theorem d_Dc_addLine_0 : decode b_Dc_addLine 0 = .ok (.iload_n 2, 1) := by decide +kernel
theorem d_Dc_addLine_1 : decode b_Dc_addLine 1 = .ok (.ifCond .eq 9, 3) := by decide +kernel
theorem d_Dc_addLine_4 : decode b_Dc_addLine 4 = .ok (.aload_n 1, 1) := by decide +kernel
theorem d_Dc_addLine_5 : decode b_Dc_addLine 5 = .ok (.ldc 45, 2) := by decide +kernel
theorem d_Dc_addLine_7 : decode b_Dc_addLine 7 = .ok (.invokevirtual 47, 3) := by decide +kernel
theorem d_Dc_addLine_10 : decode b_Dc_addLine 10 = .ok (.iconst 0, 1) := by decide +kernel
theorem d_Dc_addLine_11 : decode b_Dc_addLine 11 = .ok (.istore 4, 2) := by decide +kernel
theorem d_Dc_addLine_13 : decode b_Dc_addLine 13 = .ok (.iload 4, 2) := by decide +kernel
theorem d_Dc_addLine_15 : decode b_Dc_addLine 15 = .ok (.iload_n 2, 1) := by decide +kernel
theorem d_Dc_addLine_16 : decode b_Dc_addLine 16 = .ok (.invokestatic 51, 3) := by decide +kernel
theorem d_Dc_addLine_19 : decode b_Dc_addLine 19 = .ok (.if_icmp .ge 38, 3) := by decide +kernel
theorem d_Dc_addLine_22 : decode b_Dc_addLine 22 = .ok (.aload_n 0, 1) := by decide +kernel
theorem d_Dc_addLine_23 : decode b_Dc_addLine 23 = .ok (.getfield 31, 3) := by decide +kernel
theorem d_Dc_addLine_26 : decode b_Dc_addLine 26 = .ok (.iload 4, 2) := by decide +kernel
theorem d_Dc_addLine_28 : decode b_Dc_addLine 28 = .ok (.ishr, 1) := by decide +kernel
theorem d_Dc_addLine_29 : decode b_Dc_addLine 29 = .ok (.iconst 1, 1) := by decide +kernel
theorem d_Dc_addLine_30 : decode b_Dc_addLine 30 = .ok (.iand, 1) := by decide +kernel
theorem d_Dc_addLine_31 : decode b_Dc_addLine 31 = .ok (.iconst 1, 1) := by decide +kernel
theorem d_Dc_addLine_32 : decode b_Dc_addLine 32 = .ok (.if_icmp .ne 19, 3) := by decide +kernel
theorem d_Dc_addLine_35 : decode b_Dc_addLine 35 = .ok (.aload_n 1, 1) := by decide +kernel
theorem d_Dc_addLine_36 : decode b_Dc_addLine 36 = .ok (.iload_n 2, 1) := by decide +kernel
theorem d_Dc_addLine_37 : decode b_Dc_addLine 37 = .ok (.iload 4, 2) := by decide +kernel
theorem d_Dc_addLine_39 : decode b_Dc_addLine 39 = .ok (.invokestatic 56, 3) := by decide +kernel
theorem d_Dc_addLine_42 : decode b_Dc_addLine 42 = .ok (.invokevirtual 47, 3) := by decide +kernel
theorem d_Dc_addLine_45 : decode b_Dc_addLine 45 = .ok (.aload_n 1, 1) := by decide +kernel
theorem d_Dc_addLine_46 : decode b_Dc_addLine 46 = .ok (.bipush 32, 2) := by decide +kernel
theorem d_Dc_addLine_48 : decode b_Dc_addLine 48 = .ok (.invokevirtual 60, 3) := by decide +kernel
theorem d_Dc_addLine_51 : decode b_Dc_addLine 51 = .ok (.iinc 4 1, 3) := by decide +kernel
theorem d_Dc_addLine_54 : decode b_Dc_addLine 54 = .ok (.goto (-41), 3) := by decide +kernel
theorem d_Dc_addLine_57 : decode b_Dc_addLine 57 = .ok (.aload_n 1, 1) := by decide +kernel
theorem d_Dc_addLine_58 : decode b_Dc_addLine 58 = .ok (.iload_n 2, 1) := by decide +kernel
theorem d_Dc_addLine_59 : decode b_Dc_addLine 59 = .ok (.aload_n 0, 1) := by decide +kernel
theorem d_Dc_addLine_60 : decode b_Dc_addLine 60 = .ok (.getfield 27, 3) := by decide +kernel
theorem d_Dc_addLine_63 : decode b_Dc_addLine 63 = .ok (.invokestatic 63, 3) := by decide +kernel
theorem d_Dc_addLine_66 : decode b_Dc_addLine 66 = .ok (.invokevirtual 47, 3) := by decide +kernel
theorem d_Dc_addLine_69 : decode b_Dc_addLine 69 = .ok (.aload_n 1, 1) := by decide +kernel
theorem d_Dc_addLine_70 : decode b_Dc_addLine 70 = .ok (.bipush 32, 2) := by decide +kernel
theorem d_Dc_addLine_72 : decode b_Dc_addLine 72 = .ok (.invokevirtual 60, 3) := by decide +kernel
theorem d_Dc_addLine_75 : decode b_Dc_addLine 75 = .ok (.aload_n 1, 1) := by decide +kernel
theorem d_Dc_addLine_76 : decode b_Dc_addLine 76 = .ok (.aload_n 0, 1) := by decide +kernel
theorem d_Dc_addLine_77 : decode b_Dc_addLine 77 = .ok (.getfield 14, 3) := by decide +kernel
theorem d_Dc_addLine_80 : decode b_Dc_addLine 80 = .ok (.iload_n 3, 1) := by decide +kernel
theorem d_Dc_addLine_81 : decode b_Dc_addLine 81 = .ok (.invokevirtual 65, 3) := by decide +kernel
theorem d_Dc_addLine_84 : decode b_Dc_addLine 84 = .ok (.iload_n 2, 1) := by decide +kernel
theorem d_Dc_addLine_85 : decode b_Dc_addLine 85 = .ok (.ifCond .eq 18, 3) := by decide +kernel
theorem d_Dc_addLine_88 : decode b_Dc_addLine 88 = .ok (.aload_n 1, 1) := by decide +kernel
theorem d_Dc_addLine_89 : decode b_Dc_addLine 89 = .ok (.bipush 32, 2) := by decide +kernel
theorem d_Dc_addLine_91 : decode b_Dc_addLine 91 = .ok (.invokevirtual 60, 3) := by decide +kernel
theorem d_Dc_addLine_94 : decode b_Dc_addLine 94 = .ok (.aload_n 1, 1) := by decide +kernel
theorem d_Dc_addLine_95 : decode b_Dc_addLine 95 = .ok (.aload_n 0, 1) := by decide +kernel
theorem d_Dc_addLine_96 : decode b_Dc_addLine 96 = .ok (.getfield 20, 3) := by decide +kernel
theorem d_Dc_addLine_99 : decode b_Dc_addLine 99 = .ok (.iload_n 3, 1) := by decide +kernel
theorem d_Dc_addLine_100 : decode b_Dc_addLine 100 = .ok (.invokevirtual 65, 3) := by decide +kernel
theorem d_Dc_addLine_103 : decode b_Dc_addLine 103 = .ok (.aload_n 1, 1) := by decide +kernel
theorem d_Dc_addLine_104 : decode b_Dc_addLine 104 = .ok (.bipush 10, 2) := by decide +kernel
theorem d_Dc_addLine_106 : decode b_Dc_addLine 106 = .ok (.invokevirtual 60, 3) := by decide +kernel
theorem d_Dc_addLine_109 : decode b_Dc_addLine 109 = .ok (.return_, 1) := by decide +kernel
theorem d_Rw_addName_0 : decode b_Rw_addName 0 = .ok (.iconst 0, 1) := by decide +kernel
theorem d_Rw_addName_1 : decode b_Rw_addName 1 = .ok (.istore_n 3, 1) := by decide +kernel
theorem d_Rw_addName_2 : decode b_Rw_addName 2 = .ok (.iload_n 3, 1) := by decide +kernel
theorem d_Rw_addName_3 : decode b_Rw_addName 3 = .ok (.aload_n 1, 1) := by decide +kernel
theorem d_Rw_addName_4 : decode b_Rw_addName 4 = .ok (.getfield 15, 3) := by decide +kernel
theorem d_Rw_addName_7 : decode b_Rw_addName 7 = .ok (.if_icmp .ge 41, 3) := by decide +kernel
theorem d_Rw_addName_10 : decode b_Rw_addName 10 = .ok (.iload_n 2, 1) := by decide +kernel
theorem d_Rw_addName_11 : decode b_Rw_addName 11 = .ok (.iconst 1, 1) := by decide +kernel
theorem d_Rw_addName_12 : decode b_Rw_addName 12 = .ok (.if_icmp .ne 20, 3) := by decide +kernel
theorem d_Rw_addName_15 : decode b_Rw_addName 15 = .ok (.aload_n 1, 1) := by decide +kernel
theorem d_Rw_addName_16 : decode b_Rw_addName 16 = .ok (.getfield 9, 3) := by decide +kernel
theorem d_Rw_addName_19 : decode b_Rw_addName 19 = .ok (.iload_n 3, 1) := by decide +kernel
theorem d_Rw_addName_20 : decode b_Rw_addName 20 = .ok (.caload, 1) := by decide +kernel
theorem d_Rw_addName_21 : decode b_Rw_addName 21 = .ok (.bipush 36, 2) := by decide +kernel
theorem d_Rw_addName_23 : decode b_Rw_addName 23 = .ok (.if_icmp .ne 9, 3) := by decide +kernel
theorem d_Rw_addName_26 : decode b_Rw_addName 26 = .ok (.aload_n 0, 1) := by decide +kernel
theorem d_Rw_addName_27 : decode b_Rw_addName 27 = .ok (.bipush 37, 2) := by decide +kernel
theorem d_Rw_addName_29 : decode b_Rw_addName 29 = .ok (.invokevirtual 32, 3) := by decide +kernel
theorem d_Rw_addName_32 : decode b_Rw_addName 32 = .ok (.aload_n 0, 1) := by decide +kernel
theorem d_Rw_addName_33 : decode b_Rw_addName 33 = .ok (.aload_n 1, 1) := by decide +kernel
theorem d_Rw_addName_34 : decode b_Rw_addName 34 = .ok (.getfield 9, 3) := by decide +kernel
theorem d_Rw_addName_37 : decode b_Rw_addName 37 = .ok (.iload_n 3, 1) := by decide +kernel
theorem d_Rw_addName_38 : decode b_Rw_addName 38 = .ok (.caload, 1) := by decide +kernel
theorem d_Rw_addName_39 : decode b_Rw_addName 39 = .ok (.invokevirtual 32, 3) := by decide +kernel
theorem d_Rw_addName_42 : decode b_Rw_addName 42 = .ok (.iinc 3 1, 3) := by decide +kernel
theorem d_Rw_addName_45 : decode b_Rw_addName 45 = .ok (.goto (-43), 3) := by decide +kernel
theorem d_Rw_addName_48 : decode b_Rw_addName 48 = .ok (.return_, 1) := by decide +kernel
theorem d_Dg_kept_0 : decode b_Dg_kept 0 = .ok (.aload_n 0, 1) := by decide +kernel
theorem d_Dg_kept_1 : decode b_Dg_kept 1 = .ok (.getfield 21, 3) := by decide +kernel
theorem d_Dg_kept_4 : decode b_Dg_kept 4 = .ok (.bipush 20, 2) := by decide +kernel
theorem d_Dg_kept_6 : decode b_Dg_kept 6 = .ok (.invokestatic 25, 3) := by decide +kernel
theorem d_Dg_kept_9 : decode b_Dg_kept 9 = .ok (.ireturn, 1) := by decide +kernel
theorem d_Dc_isSame_0 : decode b_Dc_isSame 0 = .ok (.aload_n 0, 1) := by decide +kernel
theorem d_Dc_isSame_1 : decode b_Dc_isSame 1 = .ok (.getfield 31, 3) := by decide +kernel
theorem d_Dc_isSame_4 : decode b_Dc_isSame 4 = .ok (.aload_n 1, 1) := by decide +kernel
theorem d_Dc_isSame_5 : decode b_Dc_isSame 5 = .ok (.getfield 31, 3) := by decide +kernel
theorem d_Dc_isSame_8 : decode b_Dc_isSame 8 = .ok (.if_icmp .ne 15, 3) := by decide +kernel
theorem d_Dc_isSame_11 : decode b_Dc_isSame 11 = .ok (.aload_n 0, 1) := by decide +kernel
theorem d_Dc_isSame_12 : decode b_Dc_isSame 12 = .ok (.aload_n 1, 1) := by decide +kernel
theorem d_Dc_isSame_13 : decode b_Dc_isSame 13 = .ok (.invokevirtual 38, 3) := by decide +kernel
theorem d_Dc_isSame_16 : decode b_Dc_isSame 16 = .ok (.ifCond .ne 7, 3) := by decide +kernel
theorem d_Dc_isSame_19 : decode b_Dc_isSame 19 = .ok (.iconst 1, 1) := by decide +kernel
theorem d_Dc_isSame_20 : decode b_Dc_isSame 20 = .ok (.goto 4, 3) := by decide +kernel
theorem d_Dc_isSame_23 : decode b_Dc_isSame 23 = .ok (.iconst 0, 1) := by decide +kernel
theorem d_Dc_isSame_24 : decode b_Dc_isSame 24 = .ok (.ireturn, 1) := by decide +kernel
theorem d_Dc_isFormatFree_0 : decode b_Dc_isFormatFree 0 = .ok (.aload_n 0, 1) := by decide +kernel
theorem d_Dc_isFormatFree_1 : decode b_Dc_isFormatFree 1 = .ok (.getfield 14, 3) := by decide +kernel
theorem d_Dc_isFormatFree_4 : decode b_Dc_isFormatFree 4 = .ok (.bipush 36, 2) := by decide +kernel
theorem d_Dc_isFormatFree_6 : decode b_Dc_isFormatFree 6 = .ok (.invokevirtual 41, 3) := by decide +kernel
theorem d_Dc_isFormatFree_9 : decode b_Dc_isFormatFree 9 = .ok (.ifCond .ne 19, 3) := by decide +kernel
theorem d_Dc_isFormatFree_12 : decode b_Dc_isFormatFree 12 = .ok (.aload_n 0, 1) := by decide +kernel
theorem d_Dc_isFormatFree_13 : decode b_Dc_isFormatFree 13 = .ok (.getfield 20, 3) := by decide +kernel
theorem d_Dc_isFormatFree_16 : decode b_Dc_isFormatFree 16 = .ok (.bipush 36, 2) := by decide +kernel
theorem d_Dc_isFormatFree_18 : decode b_Dc_isFormatFree 18 = .ok (.invokevirtual 41, 3) := by decide +kernel
theorem d_Dc_isFormatFree_21 : decode b_Dc_isFormatFree 21 = .ok (.ifCond .ne 7, 3) := by decide +kernel
theorem d_Dc_isFormatFree_24 : decode b_Dc_isFormatFree 24 = .ok (.iconst 1, 1) := by decide +kernel
theorem d_Dc_isFormatFree_25 : decode b_Dc_isFormatFree 25 = .ok (.goto 4, 3) := by decide +kernel
theorem d_Dc_isFormatFree_28 : decode b_Dc_isFormatFree 28 = .ok (.iconst 0, 1) := by decide +kernel
theorem d_Dc_isFormatFree_29 : decode b_Dc_isFormatFree 29 = .ok (.ireturn, 1) := by decide +kernel
theorem d_Rw_contains_0 : decode b_Rw_contains 0 = .ok (.iconst 0, 1) := by decide +kernel
theorem d_Rw_contains_1 : decode b_Rw_contains 1 = .ok (.istore_n 2, 1) := by decide +kernel
theorem d_Rw_contains_2 : decode b_Rw_contains 2 = .ok (.iload_n 2, 1) := by decide +kernel
theorem d_Rw_contains_3 : decode b_Rw_contains 3 = .ok (.aload_n 0, 1) := by decide +kernel
theorem d_Rw_contains_4 : decode b_Rw_contains 4 = .ok (.getfield 15, 3) := by decide +kernel
theorem d_Rw_contains_7 : decode b_Rw_contains 7 = .ok (.if_icmp .ge 21, 3) := by decide +kernel
theorem d_Rw_contains_10 : decode b_Rw_contains 10 = .ok (.aload_n 0, 1) := by decide +kernel
theorem d_Rw_contains_11 : decode b_Rw_contains 11 = .ok (.getfield 9, 3) := by decide +kernel
theorem d_Rw_contains_14 : decode b_Rw_contains 14 = .ok (.iload_n 2, 1) := by decide +kernel
theorem d_Rw_contains_15 : decode b_Rw_contains 15 = .ok (.caload, 1) := by decide +kernel
theorem d_Rw_contains_16 : decode b_Rw_contains 16 = .ok (.iload_n 1, 1) := by decide +kernel
theorem d_Rw_contains_17 : decode b_Rw_contains 17 = .ok (.if_icmp .ne 5, 3) := by decide +kernel
theorem d_Rw_contains_20 : decode b_Rw_contains 20 = .ok (.iconst 1, 1) := by decide +kernel
theorem d_Rw_contains_21 : decode b_Rw_contains 21 = .ok (.ireturn, 1) := by decide +kernel
theorem d_Rw_contains_22 : decode b_Rw_contains 22 = .ok (.iinc 2 1, 3) := by decide +kernel
theorem d_Rw_contains_25 : decode b_Rw_contains 25 = .ok (.goto (-23), 3) := by decide +kernel
theorem d_Rw_contains_28 : decode b_Rw_contains 28 = .ok (.iconst 0, 1) := by decide +kernel
theorem d_Rw_contains_29 : decode b_Rw_contains 29 = .ok (.ireturn, 1) := by decide +kernel
