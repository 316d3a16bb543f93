theorem xn_0 (pc : Nat) : xm_ins 0 pc = xm_find xt_0 pc := rfl
theorem xi_0_0 : xm_ins 0 0 = some (.aload_n 0, 1, 0, 0, 0) := rfl
theorem xi_0_1 : xm_ins 0 1 = some (.invokespecial 3, 4, 1000, 0, 0) := rfl
theorem xi_0_4 : xm_ins 0 4 = some (.aload_n 0, 5, 0, 0, 0) := rfl
theorem xi_0_5 : xm_ins 0 5 = some (.bipush 60, 7, 0, 0, 60) := rfl
theorem xi_0_7 : xm_ins 0 7 = some (.newarray .int, 9, 0, 0, 0) := rfl
theorem xi_0_9 : xm_ins 0 9 = some (.putfield 9, 12, 0, 0, 1) := rfl
theorem xi_0_12 : xm_ins 0 12 = some (.aload_n 0, 13, 0, 0, 0) := rfl
theorem xi_0_13 : xm_ins 0 13 = some (.iconst 3, 14, 0, 0, 3) := rfl
theorem xi_0_14 : xm_ins 0 14 = some (.newarray .int, 16, 0, 0, 0) := rfl
theorem xi_0_16 : xm_ins 0 16 = some (.putfield 15, 19, 0, 1, 1) := rfl
theorem xi_0_19 : xm_ins 0 19 = some (.aload_n 0, 20, 0, 0, 0) := rfl
theorem xi_0_20 : xm_ins 0 20 = some (.iconst 0, 21, 0, 0, 0) := rfl
theorem xi_0_21 : xm_ins 0 21 = some (.putfield 18, 24, 0, 2, 0) := rfl
theorem xi_0_24 : xm_ins 0 24 = some (.aload_n 0, 25, 0, 0, 0) := rfl
theorem xi_0_25 : xm_ins 0 25 = some (.iconst 0, 26, 0, 0, 0) := rfl
theorem xi_0_26 : xm_ins 0 26 = some (.putfield 22, 29, 0, 3, 0) := rfl
theorem xi_0_29 : xm_ins 0 29 = some (.aload_n 0, 30, 0, 0, 0) := rfl
theorem xi_0_30 : xm_ins 0 30 = some (.iconst 0, 31, 0, 0, 0) := rfl
theorem xi_0_31 : xm_ins 0 31 = some (.putfield 25, 34, 0, 4, 0) := rfl
theorem xi_0_34 : xm_ins 0 34 = some (.aload_n 0, 35, 0, 0, 0) := rfl
theorem xi_0_35 : xm_ins 0 35 = some (.iconst 0, 36, 0, 0, 0) := rfl
theorem xi_0_36 : xm_ins 0 36 = some (.putfield 28, 39, 0, 5, 0) := rfl
theorem xi_0_39 : xm_ins 0 39 = some (.return_, 40, 0, 0, 0) := rfl
theorem xn_1 (pc : Nat) : xm_ins 1 pc = xm_find xt_1 pc := rfl
theorem xi_1_0 : xm_ins 1 0 = some (.aload_n 0, 1, 0, 0, 0) := rfl
theorem xi_1_1 : xm_ins 1 1 = some (.getfield 18, 4, 0, 2, 0) := rfl
theorem xi_1_4 : xm_ins 1 4 = some (.bipush 60, 6, 0, 0, 60) := rfl
theorem xi_1_6 : xm_ins 1 6 = some (.if_icmp .lt 6, 9, 12, 0, 0) := rfl
theorem xi_1_9 : xm_ins 1 9 = some (.ldc 31, 11, 0, 0, (-1000003)) := rfl
theorem xi_1_11 : xm_ins 1 11 = some (.ireturn, 12, 0, 0, 0) := rfl
theorem xi_1_12 : xm_ins 1 12 = some (.aload_n 0, 13, 0, 0, 0) := rfl
theorem xi_1_13 : xm_ins 1 13 = some (.getfield 9, 16, 0, 0, 1) := rfl
theorem xi_1_16 : xm_ins 1 16 = some (.aload_n 0, 17, 0, 0, 0) := rfl
theorem xi_1_17 : xm_ins 1 17 = some (.getfield 18, 20, 0, 2, 0) := rfl
theorem xi_1_20 : xm_ins 1 20 = some (.iload_n 1, 21, 1, 0, 0) := rfl
theorem xi_1_21 : xm_ins 1 21 = some (.iastore, 22, 0, 0, 0) := rfl
theorem xi_1_22 : xm_ins 1 22 = some (.aload_n 0, 23, 0, 0, 0) := rfl
theorem xi_1_23 : xm_ins 1 23 = some (.dup, 24, 0, 0, 0) := rfl
theorem xi_1_24 : xm_ins 1 24 = some (.getfield 18, 27, 0, 2, 0) := rfl
theorem xi_1_27 : xm_ins 1 27 = some (.iconst 1, 28, 0, 0, 1) := rfl
theorem xi_1_28 : xm_ins 1 28 = some (.iadd, 29, 0, 0, 0) := rfl
theorem xi_1_29 : xm_ins 1 29 = some (.putfield 18, 32, 0, 2, 0) := rfl
theorem xi_1_32 : xm_ins 1 32 = some (.aload_n 0, 33, 0, 0, 0) := rfl
theorem xi_1_33 : xm_ins 1 33 = some (.getfield 18, 36, 0, 2, 0) := rfl
theorem xi_1_36 : xm_ins 1 36 = some (.ireturn, 37, 0, 0, 0) := rfl
theorem xn_2 (pc : Nat) : xm_ins 2 pc = xm_find xt_2 pc := rfl
theorem xi_2_0 : xm_ins 2 0 = some (.iconst 0, 1, 0, 0, 0) := rfl
theorem xi_2_1 : xm_ins 2 1 = some (.istore_n 2, 2, 2, 0, 0) := rfl
theorem xi_2_2 : xm_ins 2 2 = some (.aload_n 0, 3, 0, 0, 0) := rfl
theorem xi_2_3 : xm_ins 2 3 = some (.iconst 0, 4, 0, 0, 0) := rfl
theorem xi_2_4 : xm_ins 2 4 = some (.putfield 22, 7, 0, 3, 0) := rfl
theorem xi_2_7 : xm_ins 2 7 = some (.aload_n 0, 8, 0, 0, 0) := rfl
theorem xi_2_8 : xm_ins 2 8 = some (.iconst 0, 9, 0, 0, 0) := rfl
theorem xi_2_9 : xm_ins 2 9 = some (.putfield 28, 12, 0, 5, 0) := rfl
theorem xi_2_12 : xm_ins 2 12 = some (.iload_n 2, 13, 2, 0, 0) := rfl
theorem xi_2_13 : xm_ins 2 13 = some (.bipush 60, 15, 0, 0, 60) := rfl
theorem xi_2_15 : xm_ins 2 15 = some (.if_icmp .ge 65, 18, 80, 0, 0) := rfl
theorem xi_2_18 : xm_ins 2 18 = some (.aload_n 0, 19, 0, 0, 0) := rfl
theorem xi_2_19 : xm_ins 2 19 = some (.getfield 22, 22, 0, 3, 0) := rfl
theorem xi_2_22 : xm_ins 2 22 = some (.aload_n 0, 23, 0, 0, 0) := rfl
theorem xi_2_23 : xm_ins 2 23 = some (.getfield 18, 26, 0, 2, 0) := rfl
theorem xi_2_26 : xm_ins 2 26 = some (.if_icmp .ge 54, 29, 80, 0, 0) := rfl
theorem xi_2_29 : xm_ins 2 29 = some (.aload_n 0, 30, 0, 0, 0) := rfl
theorem xi_2_30 : xm_ins 2 30 = some (.getfield 28, 33, 0, 5, 0) := rfl
theorem xi_2_33 : xm_ins 2 33 = some (.ifCond .ne 47, 36, 80, 0, 0) := rfl
theorem xi_2_36 : xm_ins 2 36 = some (.iinc 2 1, 39, 2, 0, 1) := rfl
theorem xi_2_39 : xm_ins 2 39 = some (.aload_n 0, 40, 0, 0, 0) := rfl
theorem xi_2_40 : xm_ins 2 40 = some (.aload_n 0, 41, 0, 0, 0) := rfl
theorem xi_2_41 : xm_ins 2 41 = some (.getfield 22, 44, 0, 3, 0) := rfl
theorem xi_2_44 : xm_ins 2 44 = some (.putfield 25, 47, 0, 4, 0) := rfl
theorem xi_2_47 : xm_ins 2 47 = some (.aload_n 0, 48, 0, 0, 0) := rfl
theorem xi_2_48 : xm_ins 2 48 = some (.invokevirtual 32, 51, 6, 1, 0) := rfl
theorem xi_2_51 : xm_ins 2 51 = some (.istore_n 3, 52, 3, 0, 0) := rfl
theorem xi_2_52 : xm_ins 2 52 = some (.aload_n 0, 53, 0, 0, 0) := rfl
theorem xi_2_53 : xm_ins 2 53 = some (.aload_n 0, 54, 0, 0, 0) := rfl
theorem xi_2_54 : xm_ins 2 54 = some (.iload_n 3, 55, 3, 0, 0) := rfl
theorem xi_2_55 : xm_ins 2 55 = some (.invokevirtual 36, 58, 3, 2, 0) := rfl
theorem xi_2_58 : xm_ins 2 58 = some (.ifCond .eq 15, 61, 73, 0, 0) := rfl
theorem xi_2_61 : xm_ins 2 61 = some (.aload_n 0, 62, 0, 0, 0) := rfl
theorem xi_2_62 : xm_ins 2 62 = some (.aload_n 1, 63, 1, 0, 0) := rfl
theorem xi_2_63 : xm_ins 2 63 = some (.iload_n 3, 64, 3, 0, 0) := rfl
theorem xi_2_64 : xm_ins 2 64 = some (.invokevirtual 40, 67, 9, 3, 0) := rfl
theorem xi_2_67 : xm_ins 2 67 = some (.invokestatic 44, 70, 10, 1, 0) := rfl
theorem xi_2_70 : xm_ins 2 70 = some (.goto 4, 73, 74, 0, 0) := rfl
theorem xi_2_73 : xm_ins 2 73 = some (.iconst 1, 74, 0, 0, 1) := rfl
theorem xi_2_74 : xm_ins 2 74 = some (.putfield 28, 77, 0, 5, 0) := rfl
theorem xi_2_77 : xm_ins 2 77 = some (.goto (-65), 80, 12, 0, 0) := rfl
theorem xi_2_80 : xm_ins 2 80 = some (.iload_n 2, 81, 2, 0, 0) := rfl
theorem xi_2_81 : xm_ins 2 81 = some (.ireturn, 82, 0, 0, 0) := rfl
theorem xn_3 (pc : Nat) : xm_ins 3 pc = xm_find xt_3 pc := rfl
theorem xi_3_0 : xm_ins 3 0 = some (.iload_n 1, 1, 1, 0, 0) := rfl
theorem xi_3_1 : xm_ins 3 1 = some (.invokestatic 48, 4, 4, 1, 0) := rfl
theorem xi_3_4 : xm_ins 3 4 = some (.istore_n 2, 5, 2, 0, 0) := rfl
theorem xi_3_5 : xm_ins 3 5 = some (.iload_n 2, 6, 2, 0, 0) := rfl
theorem xi_3_6 : xm_ins 3 6 = some (.iconst (-1), 7, 0, 0, (-1)) := rfl
theorem xi_3_7 : xm_ins 3 7 = some (.if_icmp .ne 5, 10, 12, 0, 0) := rfl
theorem xi_3_10 : xm_ins 3 10 = some (.iconst 0, 11, 0, 0, 0) := rfl
theorem xi_3_11 : xm_ins 3 11 = some (.ireturn, 12, 0, 0, 0) := rfl
theorem xi_3_12 : xm_ins 3 12 = some (.aload_n 0, 13, 0, 0, 0) := rfl
theorem xi_3_13 : xm_ins 3 13 = some (.dup, 14, 0, 0, 0) := rfl
theorem xi_3_14 : xm_ins 3 14 = some (.getfield 22, 17, 0, 3, 0) := rfl
theorem xi_3_17 : xm_ins 3 17 = some (.iconst 1, 18, 0, 0, 1) := rfl
theorem xi_3_18 : xm_ins 3 18 = some (.iadd, 19, 0, 0, 0) := rfl
theorem xi_3_19 : xm_ins 3 19 = some (.putfield 22, 22, 0, 3, 0) := rfl
theorem xi_3_22 : xm_ins 3 22 = some (.iconst 0, 23, 0, 0, 0) := rfl
theorem xi_3_23 : xm_ins 3 23 = some (.istore_n 3, 24, 3, 0, 0) := rfl
theorem xi_3_24 : xm_ins 3 24 = some (.iload_n 3, 25, 3, 0, 0) := rfl
theorem xi_3_25 : xm_ins 3 25 = some (.iload_n 2, 26, 2, 0, 0) := rfl
theorem xi_3_26 : xm_ins 3 26 = some (.if_icmp .ge 51, 29, 77, 0, 0) := rfl
theorem xi_3_29 : xm_ins 3 29 = some (.iload_n 3, 30, 3, 0, 0) := rfl
theorem xi_3_30 : xm_ins 3 30 = some (.iconst 3, 31, 0, 0, 3) := rfl
theorem xi_3_31 : xm_ins 3 31 = some (.if_icmp .ge 46, 34, 77, 0, 0) := rfl
theorem xi_3_34 : xm_ins 3 34 = some (.iload_n 3, 35, 3, 0, 0) := rfl
theorem xi_3_35 : xm_ins 3 35 = some (.ifCond .le 14, 38, 49, 0, 0) := rfl
theorem xi_3_38 : xm_ins 3 38 = some (.aload_n 0, 39, 0, 0, 0) := rfl
theorem xi_3_39 : xm_ins 3 39 = some (.bipush 44, 41, 0, 0, 44) := rfl
theorem xi_3_41 : xm_ins 3 41 = some (.invokevirtual 51, 44, 7, 2, 0) := rfl
theorem xi_3_44 : xm_ins 3 44 = some (.ifCond .ne 5, 47, 49, 0, 0) := rfl
theorem xi_3_47 : xm_ins 3 47 = some (.iconst 0, 48, 0, 0, 0) := rfl
theorem xi_3_48 : xm_ins 3 48 = some (.ireturn, 49, 0, 0, 0) := rfl
theorem xi_3_49 : xm_ins 3 49 = some (.aload_n 0, 50, 0, 0, 0) := rfl
theorem xi_3_50 : xm_ins 3 50 = some (.invokevirtual 54, 53, 5, 1, 0) := rfl
theorem xi_3_53 : xm_ins 3 53 = some (.istore 4, 55, 4, 0, 0) := rfl
theorem xi_3_55 : xm_ins 3 55 = some (.iload 4, 57, 4, 0, 0) := rfl
theorem xi_3_57 : xm_ins 3 57 = some (.iconst (-1), 58, 0, 0, (-1)) := rfl
theorem xi_3_58 : xm_ins 3 58 = some (.if_icmp .ne 5, 61, 63, 0, 0) := rfl
theorem xi_3_61 : xm_ins 3 61 = some (.iconst 0, 62, 0, 0, 0) := rfl
theorem xi_3_62 : xm_ins 3 62 = some (.ireturn, 63, 0, 0, 0) := rfl
theorem xi_3_63 : xm_ins 3 63 = some (.aload_n 0, 64, 0, 0, 0) := rfl
theorem xi_3_64 : xm_ins 3 64 = some (.getfield 15, 67, 0, 1, 1) := rfl
theorem xi_3_67 : xm_ins 3 67 = some (.iload_n 3, 68, 3, 0, 0) := rfl
theorem xi_3_68 : xm_ins 3 68 = some (.iload 4, 70, 4, 0, 0) := rfl
theorem xi_3_70 : xm_ins 3 70 = some (.iastore, 71, 0, 0, 0) := rfl
theorem xi_3_71 : xm_ins 3 71 = some (.iinc 3 1, 74, 3, 0, 1) := rfl
theorem xi_3_74 : xm_ins 3 74 = some (.goto (-50), 77, 24, 0, 0) := rfl
theorem xi_3_77 : xm_ins 3 77 = some (.aload_n 0, 78, 0, 0, 0) := rfl
theorem xi_3_78 : xm_ins 3 78 = some (.bipush 59, 80, 0, 0, 59) := rfl
theorem xi_3_80 : xm_ins 3 80 = some (.invokevirtual 51, 83, 7, 2, 0) := rfl
theorem xi_3_83 : xm_ins 3 83 = some (.ireturn, 84, 0, 0, 0) := rfl
theorem xn_4 (pc : Nat) : xm_ins 4 pc = xm_find xt_4 pc := rfl
theorem xi_4_0 : xm_ins 4 0 = some (.iload_n 0, 1, 0, 0, 0) := rfl
theorem xi_4_1 : xm_ins 4 1 = some (.tableswitch 95 102 119 #[87, 95, 91, 95, 95, 95, 89, 95, 87, 95, 89, 95, 95, 93, 95, 91, 95, 89], 88, 0, 0, 0) := rfl
theorem xi_4_88 : xm_ins 4 88 = some (.iconst 0, 89, 0, 0, 0) := rfl
theorem xi_4_89 : xm_ins 4 89 = some (.ireturn, 90, 0, 0, 0) := rfl
theorem xi_4_90 : xm_ins 4 90 = some (.iconst 1, 91, 0, 0, 1) := rfl
theorem xi_4_91 : xm_ins 4 91 = some (.ireturn, 92, 0, 0, 0) := rfl
theorem xi_4_92 : xm_ins 4 92 = some (.iconst 2, 93, 0, 0, 2) := rfl
theorem xi_4_93 : xm_ins 4 93 = some (.ireturn, 94, 0, 0, 0) := rfl
theorem xi_4_94 : xm_ins 4 94 = some (.iconst 3, 95, 0, 0, 3) := rfl
theorem xi_4_95 : xm_ins 4 95 = some (.ireturn, 96, 0, 0, 0) := rfl
theorem xi_4_96 : xm_ins 4 96 = some (.iconst (-1), 97, 0, 0, (-1)) := rfl
theorem xi_4_97 : xm_ins 4 97 = some (.ireturn, 98, 0, 0, 0) := rfl
theorem xn_5 (pc : Nat) : xm_ins 5 pc = xm_find xt_5 pc := rfl
theorem xi_5_0 : xm_ins 5 0 = some (.aload_n 0, 1, 0, 0, 0) := rfl
theorem xi_5_1 : xm_ins 5 1 = some (.invokevirtual 32, 4, 6, 1, 0) := rfl
theorem xi_5_4 : xm_ins 5 4 = some (.invokestatic 57, 7, 8, 1, 0) := rfl
theorem xi_5_7 : xm_ins 5 7 = some (.ifCond .ne 5, 10, 12, 0, 0) := rfl
theorem xi_5_10 : xm_ins 5 10 = some (.iconst (-1), 11, 0, 0, (-1)) := rfl
theorem xi_5_11 : xm_ins 5 11 = some (.ireturn, 12, 0, 0, 0) := rfl
theorem xi_5_12 : xm_ins 5 12 = some (.aload_n 0, 13, 0, 0, 0) := rfl
theorem xi_5_13 : xm_ins 5 13 = some (.invokevirtual 32, 16, 6, 1, 0) := rfl
theorem xi_5_16 : xm_ins 5 16 = some (.bipush 48, 18, 0, 0, 48) := rfl
theorem xi_5_18 : xm_ins 5 18 = some (.isub, 19, 0, 0, 0) := rfl
theorem xi_5_19 : xm_ins 5 19 = some (.istore_n 1, 20, 1, 0, 0) := rfl
theorem xi_5_20 : xm_ins 5 20 = some (.aload_n 0, 21, 0, 0, 0) := rfl
theorem xi_5_21 : xm_ins 5 21 = some (.dup, 22, 0, 0, 0) := rfl
theorem xi_5_22 : xm_ins 5 22 = some (.getfield 22, 25, 0, 3, 0) := rfl
theorem xi_5_25 : xm_ins 5 25 = some (.iconst 1, 26, 0, 0, 1) := rfl
theorem xi_5_26 : xm_ins 5 26 = some (.iadd, 27, 0, 0, 0) := rfl
theorem xi_5_27 : xm_ins 5 27 = some (.putfield 22, 30, 0, 3, 0) := rfl
theorem xi_5_30 : xm_ins 5 30 = some (.aload_n 0, 31, 0, 0, 0) := rfl
theorem xi_5_31 : xm_ins 5 31 = some (.invokevirtual 32, 34, 6, 1, 0) := rfl
theorem xi_5_34 : xm_ins 5 34 = some (.invokestatic 57, 37, 8, 1, 0) := rfl
theorem xi_5_37 : xm_ins 5 37 = some (.ifCond .eq 26, 40, 63, 0, 0) := rfl
theorem xi_5_40 : xm_ins 5 40 = some (.bipush 10, 42, 0, 0, 10) := rfl
theorem xi_5_42 : xm_ins 5 42 = some (.iload_n 1, 43, 1, 0, 0) := rfl
theorem xi_5_43 : xm_ins 5 43 = some (.imul, 44, 0, 0, 0) := rfl
theorem xi_5_44 : xm_ins 5 44 = some (.aload_n 0, 45, 0, 0, 0) := rfl
theorem xi_5_45 : xm_ins 5 45 = some (.invokevirtual 32, 48, 6, 1, 0) := rfl
theorem xi_5_48 : xm_ins 5 48 = some (.iadd, 49, 0, 0, 0) := rfl
theorem xi_5_49 : xm_ins 5 49 = some (.bipush 48, 51, 0, 0, 48) := rfl
theorem xi_5_51 : xm_ins 5 51 = some (.isub, 52, 0, 0, 0) := rfl
theorem xi_5_52 : xm_ins 5 52 = some (.istore_n 1, 53, 1, 0, 0) := rfl
theorem xi_5_53 : xm_ins 5 53 = some (.aload_n 0, 54, 0, 0, 0) := rfl
theorem xi_5_54 : xm_ins 5 54 = some (.dup, 55, 0, 0, 0) := rfl
theorem xi_5_55 : xm_ins 5 55 = some (.getfield 22, 58, 0, 3, 0) := rfl
theorem xi_5_58 : xm_ins 5 58 = some (.iconst 1, 59, 0, 0, 1) := rfl
theorem xi_5_59 : xm_ins 5 59 = some (.iadd, 60, 0, 0, 0) := rfl
theorem xi_5_60 : xm_ins 5 60 = some (.putfield 22, 63, 0, 3, 0) := rfl
theorem xi_5_63 : xm_ins 5 63 = some (.iload_n 1, 64, 1, 0, 0) := rfl
theorem xi_5_64 : xm_ins 5 64 = some (.ireturn, 65, 0, 0, 0) := rfl
theorem xn_6 (pc : Nat) : xm_ins 6 pc = xm_find xt_6 pc := rfl
theorem xi_6_0 : xm_ins 6 0 = some (.aload_n 0, 1, 0, 0, 0) := rfl
theorem xi_6_1 : xm_ins 6 1 = some (.getfield 22, 4, 0, 3, 0) := rfl
theorem xi_6_4 : xm_ins 6 4 = some (.ifCond .lt 35, 7, 39, 0, 0) := rfl
theorem xi_6_7 : xm_ins 6 7 = some (.aload_n 0, 8, 0, 0, 0) := rfl
theorem xi_6_8 : xm_ins 6 8 = some (.getfield 22, 11, 0, 3, 0) := rfl
theorem xi_6_11 : xm_ins 6 11 = some (.aload_n 0, 12, 0, 0, 0) := rfl
theorem xi_6_12 : xm_ins 6 12 = some (.getfield 18, 15, 0, 2, 0) := rfl
theorem xi_6_15 : xm_ins 6 15 = some (.if_icmp .ge 24, 18, 39, 0, 0) := rfl
theorem xi_6_18 : xm_ins 6 18 = some (.aload_n 0, 19, 0, 0, 0) := rfl
theorem xi_6_19 : xm_ins 6 19 = some (.getfield 22, 22, 0, 3, 0) := rfl
theorem xi_6_22 : xm_ins 6 22 = some (.bipush 60, 24, 0, 0, 60) := rfl
theorem xi_6_24 : xm_ins 6 24 = some (.if_icmp .ge 15, 27, 39, 0, 0) := rfl
theorem xi_6_27 : xm_ins 6 27 = some (.aload_n 0, 28, 0, 0, 0) := rfl
theorem xi_6_28 : xm_ins 6 28 = some (.getfield 9, 31, 0, 0, 1) := rfl
theorem xi_6_31 : xm_ins 6 31 = some (.aload_n 0, 32, 0, 0, 0) := rfl
theorem xi_6_32 : xm_ins 6 32 = some (.getfield 22, 35, 0, 3, 0) := rfl
theorem xi_6_35 : xm_ins 6 35 = some (.iaload, 36, 0, 0, 0) := rfl
theorem xi_6_36 : xm_ins 6 36 = some (.goto 4, 39, 40, 0, 0) := rfl
theorem xi_6_39 : xm_ins 6 39 = some (.iconst (-1), 40, 0, 0, (-1)) := rfl
theorem xi_6_40 : xm_ins 6 40 = some (.ireturn, 41, 0, 0, 0) := rfl
theorem xn_7 (pc : Nat) : xm_ins 7 pc = xm_find xt_7 pc := rfl
theorem xi_7_0 : xm_ins 7 0 = some (.aload_n 0, 1, 0, 0, 0) := rfl
theorem xi_7_1 : xm_ins 7 1 = some (.invokevirtual 32, 4, 6, 1, 0) := rfl
theorem xi_7_4 : xm_ins 7 4 = some (.iload_n 1, 5, 1, 0, 0) := rfl
theorem xi_7_5 : xm_ins 7 5 = some (.if_icmp .eq 5, 8, 10, 0, 0) := rfl
theorem xi_7_8 : xm_ins 7 8 = some (.iconst 0, 9, 0, 0, 0) := rfl
theorem xi_7_9 : xm_ins 7 9 = some (.ireturn, 10, 0, 0, 0) := rfl
theorem xi_7_10 : xm_ins 7 10 = some (.aload_n 0, 11, 0, 0, 0) := rfl
theorem xi_7_11 : xm_ins 7 11 = some (.dup, 12, 0, 0, 0) := rfl
theorem xi_7_12 : xm_ins 7 12 = some (.getfield 22, 15, 0, 3, 0) := rfl
theorem xi_7_15 : xm_ins 7 15 = some (.iconst 1, 16, 0, 0, 1) := rfl
theorem xi_7_16 : xm_ins 7 16 = some (.iadd, 17, 0, 0, 0) := rfl
theorem xi_7_17 : xm_ins 7 17 = some (.putfield 22, 20, 0, 3, 0) := rfl
theorem xi_7_20 : xm_ins 7 20 = some (.iconst 1, 21, 0, 0, 1) := rfl
theorem xi_7_21 : xm_ins 7 21 = some (.ireturn, 22, 0, 0, 0) := rfl
theorem xn_8 (pc : Nat) : xm_ins 8 pc = xm_find xt_8 pc := rfl
theorem xi_8_0 : xm_ins 8 0 = some (.iload_n 0, 1, 0, 0, 0) := rfl
theorem xi_8_1 : xm_ins 8 1 = some (.bipush 48, 3, 0, 0, 48) := rfl
theorem xi_8_3 : xm_ins 8 3 = some (.if_icmp .lt 13, 6, 16, 0, 0) := rfl
theorem xi_8_6 : xm_ins 8 6 = some (.iload_n 0, 7, 0, 0, 0) := rfl
theorem xi_8_7 : xm_ins 8 7 = some (.bipush 57, 9, 0, 0, 57) := rfl
theorem xi_8_9 : xm_ins 8 9 = some (.if_icmp .gt 7, 12, 16, 0, 0) := rfl
theorem xi_8_12 : xm_ins 8 12 = some (.iconst 1, 13, 0, 0, 1) := rfl
theorem xi_8_13 : xm_ins 8 13 = some (.goto 4, 16, 17, 0, 0) := rfl
theorem xi_8_16 : xm_ins 8 16 = some (.iconst 0, 17, 0, 0, 0) := rfl
theorem xi_8_17 : xm_ins 8 17 = some (.ireturn, 18, 0, 0, 0) := rfl
theorem xn_9 (pc : Nat) : xm_ins 9 pc = xm_find xt_9 pc := rfl
theorem xi_9_0 : xm_ins 9 0 = some (.iload_n 2, 1, 2, 0, 0) := rfl
theorem xi_9_1 : xm_ins 9 1 = some (.tableswitch 174 104 119 #[84, 174, 174, 174, 101, 174, 79, 174, 152, 174, 174, 112, 174, 135, 174, 163], 80, 0, 0, 0) := rfl
theorem xi_9_80 : xm_ins 9 80 = some (.aload_n 1, 81, 1, 0, 0) := rfl
theorem xi_9_81 : xm_ins 9 81 = some (.invokevirtual 60, 84, 14, 1, 1) := rfl
theorem xi_9_84 : xm_ins 9 84 = some (.ireturn, 85, 0, 0, 0) := rfl
theorem xi_9_85 : xm_ins 9 85 = some (.aload_n 1, 86, 1, 0, 0) := rfl
theorem xi_9_86 : xm_ins 9 86 = some (.aload_n 0, 87, 0, 0, 0) := rfl
theorem xi_9_87 : xm_ins 9 87 = some (.getfield 15, 90, 0, 1, 1) := rfl
theorem xi_9_90 : xm_ins 9 90 = some (.iconst 0, 91, 0, 0, 0) := rfl
theorem xi_9_91 : xm_ins 9 91 = some (.iaload, 92, 0, 0, 0) := rfl
theorem xi_9_92 : xm_ins 9 92 = some (.aload_n 0, 93, 0, 0, 0) := rfl
theorem xi_9_93 : xm_ins 9 93 = some (.getfield 15, 96, 0, 1, 1) := rfl
theorem xi_9_96 : xm_ins 9 96 = some (.iconst 1, 97, 0, 0, 1) := rfl
theorem xi_9_97 : xm_ins 9 97 = some (.iaload, 98, 0, 0, 0) := rfl
theorem xi_9_98 : xm_ins 9 98 = some (.invokevirtual 65, 101, 15, 3, 1) := rfl
theorem xi_9_101 : xm_ins 9 101 = some (.ireturn, 102, 0, 0, 0) := rfl
theorem xi_9_102 : xm_ins 9 102 = some (.aload_n 1, 103, 1, 0, 0) := rfl
theorem xi_9_103 : xm_ins 9 103 = some (.aload_n 0, 104, 0, 0, 0) := rfl
theorem xi_9_104 : xm_ins 9 104 = some (.getfield 15, 107, 0, 1, 1) := rfl
theorem xi_9_107 : xm_ins 9 107 = some (.iconst 0, 108, 0, 0, 0) := rfl
theorem xi_9_108 : xm_ins 9 108 = some (.iaload, 109, 0, 0, 0) := rfl
theorem xi_9_109 : xm_ins 9 109 = some (.invokevirtual 69, 112, 16, 2, 1) := rfl
theorem xi_9_112 : xm_ins 9 112 = some (.ireturn, 113, 0, 0, 0) := rfl
theorem xi_9_113 : xm_ins 9 113 = some (.aload_n 1, 114, 1, 0, 0) := rfl
theorem xi_9_114 : xm_ins 9 114 = some (.aload_n 0, 115, 0, 0, 0) := rfl
theorem xi_9_115 : xm_ins 9 115 = some (.getfield 15, 118, 0, 1, 1) := rfl
theorem xi_9_118 : xm_ins 9 118 = some (.iconst 0, 119, 0, 0, 0) := rfl
theorem xi_9_119 : xm_ins 9 119 = some (.iaload, 120, 0, 0, 0) := rfl
theorem xi_9_120 : xm_ins 9 120 = some (.aload_n 0, 121, 0, 0, 0) := rfl
theorem xi_9_121 : xm_ins 9 121 = some (.getfield 15, 124, 0, 1, 1) := rfl
theorem xi_9_124 : xm_ins 9 124 = some (.iconst 1, 125, 0, 0, 1) := rfl
theorem xi_9_125 : xm_ins 9 125 = some (.iaload, 126, 0, 0, 0) := rfl
theorem xi_9_126 : xm_ins 9 126 = some (.aload_n 0, 127, 0, 0, 0) := rfl
theorem xi_9_127 : xm_ins 9 127 = some (.getfield 15, 130, 0, 1, 1) := rfl
theorem xi_9_130 : xm_ins 9 130 = some (.iconst 2, 131, 0, 0, 2) := rfl
theorem xi_9_131 : xm_ins 9 131 = some (.iaload, 132, 0, 0, 0) := rfl
theorem xi_9_132 : xm_ins 9 132 = some (.invokevirtual 72, 135, 17, 4, 1) := rfl
theorem xi_9_135 : xm_ins 9 135 = some (.ireturn, 136, 0, 0, 0) := rfl
theorem xi_9_136 : xm_ins 9 136 = some (.aload_n 1, 137, 1, 0, 0) := rfl
theorem xi_9_137 : xm_ins 9 137 = some (.aload_n 0, 138, 0, 0, 0) := rfl
theorem xi_9_138 : xm_ins 9 138 = some (.getfield 15, 141, 0, 1, 1) := rfl
theorem xi_9_141 : xm_ins 9 141 = some (.iconst 0, 142, 0, 0, 0) := rfl
theorem xi_9_142 : xm_ins 9 142 = some (.iaload, 143, 0, 0, 0) := rfl
theorem xi_9_143 : xm_ins 9 143 = some (.aload_n 0, 144, 0, 0, 0) := rfl
theorem xi_9_144 : xm_ins 9 144 = some (.getfield 15, 147, 0, 1, 1) := rfl
theorem xi_9_147 : xm_ins 9 147 = some (.iconst 1, 148, 0, 0, 1) := rfl
theorem xi_9_148 : xm_ins 9 148 = some (.iaload, 149, 0, 0, 0) := rfl
theorem xi_9_149 : xm_ins 9 149 = some (.invokevirtual 76, 152, 18, 3, 1) := rfl
theorem xi_9_152 : xm_ins 9 152 = some (.ireturn, 153, 0, 0, 0) := rfl
theorem xi_9_153 : xm_ins 9 153 = some (.aload_n 1, 154, 1, 0, 0) := rfl
theorem xi_9_154 : xm_ins 9 154 = some (.aload_n 0, 155, 0, 0, 0) := rfl
theorem xi_9_155 : xm_ins 9 155 = some (.getfield 15, 158, 0, 1, 1) := rfl
theorem xi_9_158 : xm_ins 9 158 = some (.iconst 0, 159, 0, 0, 0) := rfl
theorem xi_9_159 : xm_ins 9 159 = some (.iaload, 160, 0, 0, 0) := rfl
theorem xi_9_160 : xm_ins 9 160 = some (.invokevirtual 79, 163, 19, 2, 1) := rfl
theorem xi_9_163 : xm_ins 9 163 = some (.ireturn, 164, 0, 0, 0) := rfl
theorem xi_9_164 : xm_ins 9 164 = some (.aload_n 1, 165, 1, 0, 0) := rfl
theorem xi_9_165 : xm_ins 9 165 = some (.aload_n 0, 166, 0, 0, 0) := rfl
theorem xi_9_166 : xm_ins 9 166 = some (.getfield 15, 169, 0, 1, 1) := rfl
theorem xi_9_169 : xm_ins 9 169 = some (.iconst 0, 170, 0, 0, 0) := rfl
theorem xi_9_170 : xm_ins 9 170 = some (.iaload, 171, 0, 0, 0) := rfl
theorem xi_9_171 : xm_ins 9 171 = some (.invokevirtual 82, 174, 21, 2, 1) := rfl
theorem xi_9_174 : xm_ins 9 174 = some (.ireturn, 175, 0, 0, 0) := rfl
theorem xi_9_175 : xm_ins 9 175 = some (.aload_n 1, 176, 1, 0, 0) := rfl
theorem xi_9_176 : xm_ins 9 176 = some (.invokevirtual 85, 179, 22, 1, 1) := rfl
theorem xi_9_179 : xm_ins 9 179 = some (.ireturn, 180, 0, 0, 0) := rfl
theorem xn_10 (pc : Nat) : xm_ins 10 pc = xm_find xt_10 pc := rfl
theorem xi_10_0 : xm_ins 10 0 = some (.iload_n 0, 1, 0, 0, 0) := rfl
theorem xi_10_1 : xm_ins 10 1 = some (.ifCond .lt 5, 4, 6, 0, 0) := rfl
theorem xi_10_4 : xm_ins 10 4 = some (.iconst 0, 5, 0, 0, 0) := rfl
theorem xi_10_5 : xm_ins 10 5 = some (.ireturn, 6, 0, 0, 0) := rfl
theorem xi_10_6 : xm_ins 10 6 = some (.iload_n 0, 7, 0, 0, 0) := rfl
theorem xi_10_7 : xm_ins 10 7 = some (.ldc 88, 9, 0, 0, (-1000001)) := rfl
theorem xi_10_9 : xm_ins 10 9 = some (.if_icmp .ne 7, 12, 16, 0, 0) := rfl
theorem xi_10_12 : xm_ins 10 12 = some (.iconst 2, 13, 0, 0, 2) := rfl
theorem xi_10_13 : xm_ins 10 13 = some (.goto 4, 16, 17, 0, 0) := rfl
theorem xi_10_16 : xm_ins 10 16 = some (.iconst 3, 17, 0, 0, 3) := rfl
theorem xi_10_17 : xm_ins 10 17 = some (.ireturn, 18, 0, 0, 0) := rfl
theorem xn_11 (pc : Nat) : xm_ins 11 pc = xm_find xt_11 pc := rfl
theorem xi_11_0 : xm_ins 11 0 = some (.aload_n 0, 1, 0, 0, 0) := rfl
theorem xi_11_1 : xm_ins 11 1 = some (.invokespecial 3, 4, 1000, 0, 0) := rfl
theorem xi_11_4 : xm_ins 11 4 = some (.aload_n 0, 5, 0, 0, 0) := rfl
theorem xi_11_5 : xm_ins 11 5 = some (.bipush 8, 7, 0, 0, 8) := rfl
theorem xi_11_7 : xm_ins 11 7 = some (.newarray .int, 9, 0, 0, 0) := rfl
theorem xi_11_9 : xm_ins 11 9 = some (.putfield 9, 12, 1, 0, 1) := rfl
theorem xi_11_12 : xm_ins 11 12 = some (.aload_n 0, 13, 0, 0, 0) := rfl
theorem xi_11_13 : xm_ins 11 13 = some (.bipush 40, 15, 0, 0, 40) := rfl
theorem xi_11_15 : xm_ins 11 15 = some (.newarray .int, 17, 0, 0, 0) := rfl
theorem xi_11_17 : xm_ins 11 17 = some (.putfield 15, 20, 1, 1, 1) := rfl
theorem xi_11_20 : xm_ins 11 20 = some (.aload_n 0, 21, 0, 0, 0) := rfl
theorem xi_11_21 : xm_ins 11 21 = some (.bipush 30, 23, 0, 0, 30) := rfl
theorem xi_11_23 : xm_ins 11 23 = some (.newarray .int, 25, 0, 0, 0) := rfl
theorem xi_11_25 : xm_ins 11 25 = some (.putfield 18, 28, 1, 2, 1) := rfl
theorem xi_11_28 : xm_ins 11 28 = some (.aload_n 0, 29, 0, 0, 0) := rfl
theorem xi_11_29 : xm_ins 11 29 = some (.bipush 90, 31, 0, 0, 90) := rfl
theorem xi_11_31 : xm_ins 11 31 = some (.newarray .int, 33, 0, 0, 0) := rfl
theorem xi_11_33 : xm_ins 11 33 = some (.putfield 21, 36, 1, 3, 1) := rfl
theorem xi_11_36 : xm_ins 11 36 = some (.aload_n 0, 37, 0, 0, 0) := rfl
theorem xi_11_37 : xm_ins 11 37 = some (.bipush 30, 39, 0, 0, 30) := rfl
theorem xi_11_39 : xm_ins 11 39 = some (.newarray .int, 41, 0, 0, 0) := rfl
theorem xi_11_41 : xm_ins 11 41 = some (.putfield 24, 44, 1, 4, 1) := rfl
theorem xi_11_44 : xm_ins 11 44 = some (.aload_n 0, 45, 0, 0, 0) := rfl
theorem xi_11_45 : xm_ins 11 45 = some (.iconst 4, 46, 0, 0, 4) := rfl
theorem xi_11_46 : xm_ins 11 46 = some (.newarray .int, 48, 0, 0, 0) := rfl
theorem xi_11_48 : xm_ins 11 48 = some (.putfield 27, 51, 1, 5, 1) := rfl
theorem xi_11_51 : xm_ins 11 51 = some (.aload_n 0, 52, 0, 0, 0) := rfl
theorem xi_11_52 : xm_ins 11 52 = some (.iconst 0, 53, 0, 0, 0) := rfl
theorem xi_11_53 : xm_ins 11 53 = some (.putfield 30, 56, 1, 6, 0) := rfl
theorem xi_11_56 : xm_ins 11 56 = some (.aload_n 0, 57, 0, 0, 0) := rfl
theorem xi_11_57 : xm_ins 11 57 = some (.iconst 0, 58, 0, 0, 0) := rfl
theorem xi_11_58 : xm_ins 11 58 = some (.putfield 34, 61, 1, 7, 0) := rfl
theorem xi_11_61 : xm_ins 11 61 = some (.aload_n 0, 62, 0, 0, 0) := rfl
theorem xi_11_62 : xm_ins 11 62 = some (.iconst 0, 63, 0, 0, 0) := rfl
theorem xi_11_63 : xm_ins 11 63 = some (.putfield 37, 66, 1, 8, 0) := rfl
theorem xi_11_66 : xm_ins 11 66 = some (.aload_n 0, 67, 0, 0, 0) := rfl
theorem xi_11_67 : xm_ins 11 67 = some (.iconst 0, 68, 0, 0, 0) := rfl
theorem xi_11_68 : xm_ins 11 68 = some (.putfield 40, 71, 1, 9, 0) := rfl
theorem xi_11_71 : xm_ins 11 71 = some (.aload_n 0, 72, 0, 0, 0) := rfl
theorem xi_11_72 : xm_ins 11 72 = some (.iconst 0, 73, 0, 0, 0) := rfl
theorem xi_11_73 : xm_ins 11 73 = some (.putfield 43, 76, 1, 10, 0) := rfl
theorem xi_11_76 : xm_ins 11 76 = some (.aload_n 0, 77, 0, 0, 0) := rfl
theorem xi_11_77 : xm_ins 11 77 = some (.getfield 9, 80, 1, 0, 1) := rfl
theorem xi_11_80 : xm_ins 11 80 = some (.invokestatic 46, 83, 12, 1, 1) := rfl
theorem xi_11_83 : xm_ins 11 83 = some (.aload_n 0, 84, 0, 0, 0) := rfl
theorem xi_11_84 : xm_ins 11 84 = some (.getfield 15, 87, 1, 1, 1) := rfl
theorem xi_11_87 : xm_ins 11 87 = some (.invokestatic 46, 90, 12, 1, 1) := rfl
theorem xi_11_90 : xm_ins 11 90 = some (.aload_n 0, 91, 0, 0, 0) := rfl
theorem xi_11_91 : xm_ins 11 91 = some (.getfield 18, 94, 1, 2, 1) := rfl
theorem xi_11_94 : xm_ins 11 94 = some (.invokestatic 46, 97, 12, 1, 1) := rfl
theorem xi_11_97 : xm_ins 11 97 = some (.aload_n 0, 98, 0, 0, 0) := rfl
theorem xi_11_98 : xm_ins 11 98 = some (.getfield 21, 101, 1, 3, 1) := rfl
theorem xi_11_101 : xm_ins 11 101 = some (.invokestatic 46, 104, 12, 1, 1) := rfl
theorem xi_11_104 : xm_ins 11 104 = some (.aload_n 0, 105, 0, 0, 0) := rfl
theorem xi_11_105 : xm_ins 11 105 = some (.getfield 27, 108, 1, 5, 1) := rfl
theorem xi_11_108 : xm_ins 11 108 = some (.invokestatic 46, 111, 12, 1, 1) := rfl
theorem xi_11_111 : xm_ins 11 111 = some (.return_, 112, 0, 0, 0) := rfl
theorem xn_12 (pc : Nat) : xm_ins 12 pc = xm_find xt_12 pc := rfl
theorem xi_12_0 : xm_ins 12 0 = some (.iconst 0, 1, 0, 0, 0) := rfl
theorem xi_12_1 : xm_ins 12 1 = some (.istore_n 1, 2, 1, 0, 0) := rfl
theorem xi_12_2 : xm_ins 12 2 = some (.iload_n 1, 3, 1, 0, 0) := rfl
theorem xi_12_3 : xm_ins 12 3 = some (.aload_n 0, 4, 0, 0, 0) := rfl
theorem xi_12_4 : xm_ins 12 4 = some (.arraylength, 5, 0, 0, 0) := rfl
theorem xi_12_5 : xm_ins 12 5 = some (.if_icmp .ge 13, 8, 18, 0, 0) := rfl
theorem xi_12_8 : xm_ins 12 8 = some (.aload_n 0, 9, 0, 0, 0) := rfl
theorem xi_12_9 : xm_ins 12 9 = some (.iload_n 1, 10, 1, 0, 0) := rfl
theorem xi_12_10 : xm_ins 12 10 = some (.iconst (-1), 11, 0, 0, (-1)) := rfl
theorem xi_12_11 : xm_ins 12 11 = some (.iastore, 12, 0, 0, 0) := rfl
theorem xi_12_12 : xm_ins 12 12 = some (.iinc 1 1, 15, 1, 0, 1) := rfl
theorem xi_12_15 : xm_ins 12 15 = some (.goto (-13), 18, 2, 0, 0) := rfl
theorem xi_12_18 : xm_ins 12 18 = some (.return_, 19, 0, 0, 0) := rfl
theorem xn_13 (pc : Nat) : xm_ins 13 pc = xm_find xt_13 pc := rfl
theorem xi_13_0 : xm_ins 13 0 = some (.aload_n 1, 1, 1, 0, 0) := rfl
theorem xi_13_1 : xm_ins 13 1 = some (.getfield 9, 4, 1, 0, 1) := rfl
theorem xi_13_4 : xm_ins 13 4 = some (.iconst 0, 5, 0, 0, 0) := rfl
theorem xi_13_5 : xm_ins 13 5 = some (.aload_n 0, 6, 0, 0, 0) := rfl
theorem xi_13_6 : xm_ins 13 6 = some (.getfield 9, 9, 1, 0, 1) := rfl
theorem xi_13_9 : xm_ins 13 9 = some (.iconst 0, 10, 0, 0, 0) := rfl
theorem xi_13_10 : xm_ins 13 10 = some (.bipush 8, 12, 0, 0, 8) := rfl
theorem xi_13_12 : xm_ins 13 12 = some (.invokestatic 50, 15, 1001, 0, 0) := rfl
theorem xi_13_15 : xm_ins 13 15 = some (.aload_n 1, 16, 1, 0, 0) := rfl
theorem xi_13_16 : xm_ins 13 16 = some (.getfield 15, 19, 1, 1, 1) := rfl
theorem xi_13_19 : xm_ins 13 19 = some (.iconst 0, 20, 0, 0, 0) := rfl
theorem xi_13_20 : xm_ins 13 20 = some (.aload_n 0, 21, 0, 0, 0) := rfl
theorem xi_13_21 : xm_ins 13 21 = some (.getfield 15, 24, 1, 1, 1) := rfl
theorem xi_13_24 : xm_ins 13 24 = some (.iconst 0, 25, 0, 0, 0) := rfl
theorem xi_13_25 : xm_ins 13 25 = some (.bipush 40, 27, 0, 0, 40) := rfl
theorem xi_13_27 : xm_ins 13 27 = some (.invokestatic 50, 30, 1001, 0, 0) := rfl
theorem xi_13_30 : xm_ins 13 30 = some (.aload_n 1, 31, 1, 0, 0) := rfl
theorem xi_13_31 : xm_ins 13 31 = some (.getfield 18, 34, 1, 2, 1) := rfl
theorem xi_13_34 : xm_ins 13 34 = some (.iconst 0, 35, 0, 0, 0) := rfl
theorem xi_13_35 : xm_ins 13 35 = some (.aload_n 0, 36, 0, 0, 0) := rfl
theorem xi_13_36 : xm_ins 13 36 = some (.getfield 18, 39, 1, 2, 1) := rfl
theorem xi_13_39 : xm_ins 13 39 = some (.iconst 0, 40, 0, 0, 0) := rfl
theorem xi_13_40 : xm_ins 13 40 = some (.bipush 30, 42, 0, 0, 30) := rfl
theorem xi_13_42 : xm_ins 13 42 = some (.invokestatic 50, 45, 1001, 0, 0) := rfl
theorem xi_13_45 : xm_ins 13 45 = some (.aload_n 1, 46, 1, 0, 0) := rfl
theorem xi_13_46 : xm_ins 13 46 = some (.getfield 21, 49, 1, 3, 1) := rfl
theorem xi_13_49 : xm_ins 13 49 = some (.iconst 0, 50, 0, 0, 0) := rfl
theorem xi_13_50 : xm_ins 13 50 = some (.aload_n 0, 51, 0, 0, 0) := rfl
theorem xi_13_51 : xm_ins 13 51 = some (.getfield 21, 54, 1, 3, 1) := rfl
theorem xi_13_54 : xm_ins 13 54 = some (.iconst 0, 55, 0, 0, 0) := rfl
theorem xi_13_55 : xm_ins 13 55 = some (.bipush 90, 57, 0, 0, 90) := rfl
theorem xi_13_57 : xm_ins 13 57 = some (.invokestatic 50, 60, 1001, 0, 0) := rfl
theorem xi_13_60 : xm_ins 13 60 = some (.aload_n 1, 61, 1, 0, 0) := rfl
theorem xi_13_61 : xm_ins 13 61 = some (.getfield 24, 64, 1, 4, 1) := rfl
theorem xi_13_64 : xm_ins 13 64 = some (.iconst 0, 65, 0, 0, 0) := rfl
theorem xi_13_65 : xm_ins 13 65 = some (.aload_n 0, 66, 0, 0, 0) := rfl
theorem xi_13_66 : xm_ins 13 66 = some (.getfield 24, 69, 1, 4, 1) := rfl
theorem xi_13_69 : xm_ins 13 69 = some (.iconst 0, 70, 0, 0, 0) := rfl
theorem xi_13_70 : xm_ins 13 70 = some (.bipush 30, 72, 0, 0, 30) := rfl
theorem xi_13_72 : xm_ins 13 72 = some (.invokestatic 50, 75, 1001, 0, 0) := rfl
theorem xi_13_75 : xm_ins 13 75 = some (.aload_n 1, 76, 1, 0, 0) := rfl
theorem xi_13_76 : xm_ins 13 76 = some (.getfield 27, 79, 1, 5, 1) := rfl
theorem xi_13_79 : xm_ins 13 79 = some (.iconst 0, 80, 0, 0, 0) := rfl
theorem xi_13_80 : xm_ins 13 80 = some (.aload_n 0, 81, 0, 0, 0) := rfl
theorem xi_13_81 : xm_ins 13 81 = some (.getfield 27, 84, 1, 5, 1) := rfl
theorem xi_13_84 : xm_ins 13 84 = some (.iconst 0, 85, 0, 0, 0) := rfl
theorem xi_13_85 : xm_ins 13 85 = some (.iconst 4, 86, 0, 0, 4) := rfl
theorem xi_13_86 : xm_ins 13 86 = some (.invokestatic 50, 89, 1001, 0, 0) := rfl
theorem xi_13_89 : xm_ins 13 89 = some (.aload_n 0, 90, 0, 0, 0) := rfl
theorem xi_13_90 : xm_ins 13 90 = some (.aload_n 1, 91, 1, 0, 0) := rfl
theorem xi_13_91 : xm_ins 13 91 = some (.getfield 30, 94, 1, 6, 0) := rfl
theorem xi_13_94 : xm_ins 13 94 = some (.putfield 30, 97, 1, 6, 0) := rfl
theorem xi_13_97 : xm_ins 13 97 = some (.aload_n 0, 98, 0, 0, 0) := rfl
theorem xi_13_98 : xm_ins 13 98 = some (.aload_n 1, 99, 1, 0, 0) := rfl
theorem xi_13_99 : xm_ins 13 99 = some (.getfield 34, 102, 1, 7, 0) := rfl
theorem xi_13_102 : xm_ins 13 102 = some (.putfield 34, 105, 1, 7, 0) := rfl
theorem xi_13_105 : xm_ins 13 105 = some (.aload_n 0, 106, 0, 0, 0) := rfl
theorem xi_13_106 : xm_ins 13 106 = some (.aload_n 1, 107, 1, 0, 0) := rfl
theorem xi_13_107 : xm_ins 13 107 = some (.getfield 37, 110, 1, 8, 0) := rfl
theorem xi_13_110 : xm_ins 13 110 = some (.putfield 37, 113, 1, 8, 0) := rfl
theorem xi_13_113 : xm_ins 13 113 = some (.aload_n 0, 114, 0, 0, 0) := rfl
theorem xi_13_114 : xm_ins 13 114 = some (.aload_n 1, 115, 1, 0, 0) := rfl
theorem xi_13_115 : xm_ins 13 115 = some (.getfield 40, 118, 1, 9, 0) := rfl
theorem xi_13_118 : xm_ins 13 118 = some (.putfield 40, 121, 1, 9, 0) := rfl
theorem xi_13_121 : xm_ins 13 121 = some (.aload_n 0, 122, 0, 0, 0) := rfl
theorem xi_13_122 : xm_ins 13 122 = some (.aload_n 1, 123, 1, 0, 0) := rfl
theorem xi_13_123 : xm_ins 13 123 = some (.getfield 43, 126, 1, 10, 0) := rfl
theorem xi_13_126 : xm_ins 13 126 = some (.putfield 43, 129, 1, 10, 0) := rfl
theorem xi_13_129 : xm_ins 13 129 = some (.return_, 130, 0, 0, 0) := rfl
theorem xn_14 (pc : Nat) : xm_ins 14 pc = xm_find xt_14 pc := rfl
theorem xi_14_0 : xm_ins 14 0 = some (.aload_n 0, 1, 0, 0, 0) := rfl
theorem xi_14_1 : xm_ins 14 1 = some (.iconst 0, 2, 0, 0, 0) := rfl
theorem xi_14_2 : xm_ins 14 2 = some (.invokevirtual 56, 5, 29, 2, 1) := rfl
theorem xi_14_5 : xm_ins 14 5 = some (.istore_n 1, 6, 1, 0, 0) := rfl
theorem xi_14_6 : xm_ins 14 6 = some (.iload_n 1, 7, 1, 0, 0) := rfl
theorem xi_14_7 : xm_ins 14 7 = some (.iconst (-1), 8, 0, 0, (-1)) := rfl
theorem xi_14_8 : xm_ins 14 8 = some (.if_icmp .ne 6, 11, 14, 0, 0) := rfl
theorem xi_14_11 : xm_ins 14 11 = some (.ldc 60, 13, 0, 0, (-1000002)) := rfl
theorem xi_14_13 : xm_ins 14 13 = some (.ireturn, 14, 0, 0, 0) := rfl
theorem xi_14_14 : xm_ins 14 14 = some (.aload_n 0, 15, 0, 0, 0) := rfl
theorem xi_14_15 : xm_ins 14 15 = some (.getfield 34, 18, 1, 7, 0) := rfl
theorem xi_14_18 : xm_ins 14 18 = some (.bipush 30, 20, 0, 0, 30) := rfl
theorem xi_14_20 : xm_ins 14 20 = some (.if_icmp .lt 6, 23, 26, 0, 0) := rfl
theorem xi_14_23 : xm_ins 14 23 = some (.ldc 61, 25, 0, 0, (-1000003)) := rfl
theorem xi_14_25 : xm_ins 14 25 = some (.ireturn, 26, 0, 0, 0) := rfl
theorem xi_14_26 : xm_ins 14 26 = some (.aload_n 0, 27, 0, 0, 0) := rfl
theorem xi_14_27 : xm_ins 14 27 = some (.getfield 34, 30, 1, 7, 0) := rfl
theorem xi_14_30 : xm_ins 14 30 = some (.istore_n 2, 31, 2, 0, 0) := rfl
theorem xi_14_31 : xm_ins 14 31 = some (.aload_n 0, 32, 0, 0, 0) := rfl
theorem xi_14_32 : xm_ins 14 32 = some (.dup, 33, 0, 0, 0) := rfl
theorem xi_14_33 : xm_ins 14 33 = some (.getfield 34, 36, 1, 7, 0) := rfl
theorem xi_14_36 : xm_ins 14 36 = some (.iconst 1, 37, 0, 0, 1) := rfl
theorem xi_14_37 : xm_ins 14 37 = some (.iadd, 38, 0, 0, 0) := rfl
theorem xi_14_38 : xm_ins 14 38 = some (.putfield 34, 41, 1, 7, 0) := rfl
theorem xi_14_41 : xm_ins 14 41 = some (.aload_n 0, 42, 0, 0, 0) := rfl
theorem xi_14_42 : xm_ins 14 42 = some (.iload_n 2, 43, 2, 0, 0) := rfl
theorem xi_14_43 : xm_ins 14 43 = some (.iload_n 1, 44, 1, 0, 0) := rfl
theorem xi_14_44 : xm_ins 14 44 = some (.iconst 0, 45, 0, 0, 0) := rfl
theorem xi_14_45 : xm_ins 14 45 = some (.invokevirtual 62, 48, 25, 4, 1) := rfl
theorem xi_14_48 : xm_ins 14 48 = some (.iload_n 2, 49, 2, 0, 0) := rfl
theorem xi_14_49 : xm_ins 14 49 = some (.ireturn, 50, 0, 0, 0) := rfl
theorem xn_15 (pc : Nat) : xm_ins 15 pc = xm_find xt_15 pc := rfl
theorem xi_15_0 : xm_ins 15 0 = some (.iload_n 1, 1, 1, 0, 0) := rfl
theorem xi_15_1 : xm_ins 15 1 = some (.invokestatic 66, 4, 31, 1, 1) := rfl
theorem xi_15_4 : xm_ins 15 4 = some (.ifCond .eq 11, 7, 15, 0, 0) := rfl
theorem xi_15_7 : xm_ins 15 7 = some (.aload_n 0, 8, 0, 0, 0) := rfl
theorem xi_15_8 : xm_ins 15 8 = some (.iload_n 2, 9, 2, 0, 0) := rfl
theorem xi_15_9 : xm_ins 15 9 = some (.invokevirtual 70, 12, 34, 2, 1) := rfl
theorem xi_15_12 : xm_ins 15 12 = some (.ifCond .ne 6, 15, 18, 0, 0) := rfl
theorem xi_15_15 : xm_ins 15 15 = some (.ldc 73, 17, 0, 0, (-1000001)) := rfl
theorem xi_15_17 : xm_ins 15 17 = some (.ireturn, 18, 0, 0, 0) := rfl
theorem xi_15_18 : xm_ins 15 18 = some (.aload_n 0, 19, 0, 0, 0) := rfl
theorem xi_15_19 : xm_ins 15 19 = some (.getfield 27, 22, 1, 5, 1) := rfl
theorem xi_15_22 : xm_ins 15 22 = some (.iload_n 1, 23, 1, 0, 0) := rfl
theorem xi_15_23 : xm_ins 15 23 = some (.iload_n 2, 24, 2, 0, 0) := rfl
theorem xi_15_24 : xm_ins 15 24 = some (.iastore, 25, 0, 0, 0) := rfl
theorem xi_15_25 : xm_ins 15 25 = some (.aload_n 0, 26, 0, 0, 0) := rfl
theorem xi_15_26 : xm_ins 15 26 = some (.invokevirtual 74, 29, 43, 1, 1) := rfl
theorem xi_15_29 : xm_ins 15 29 = some (.ireturn, 30, 0, 0, 0) := rfl
theorem xn_16 (pc : Nat) : xm_ins 16 pc = xm_find xt_16 pc := rfl
theorem xi_16_0 : xm_ins 16 0 = some (.iload_n 1, 1, 1, 0, 0) := rfl
theorem xi_16_1 : xm_ins 16 1 = some (.invokestatic 66, 4, 31, 1, 1) := rfl
theorem xi_16_4 : xm_ins 16 4 = some (.ifCond .ne 6, 7, 10, 0, 0) := rfl
theorem xi_16_7 : xm_ins 16 7 = some (.ldc 73, 9, 0, 0, (-1000001)) := rfl
theorem xi_16_9 : xm_ins 16 9 = some (.ireturn, 10, 0, 0, 0) := rfl
theorem xi_16_10 : xm_ins 16 10 = some (.aload_n 0, 11, 0, 0, 0) := rfl
theorem xi_16_11 : xm_ins 16 11 = some (.getfield 27, 14, 1, 5, 1) := rfl
theorem xi_16_14 : xm_ins 16 14 = some (.iload_n 1, 15, 1, 0, 0) := rfl
theorem xi_16_15 : xm_ins 16 15 = some (.iaload, 16, 0, 0, 0) := rfl
theorem xi_16_16 : xm_ins 16 16 = some (.istore_n 2, 17, 2, 0, 0) := rfl
theorem xi_16_17 : xm_ins 16 17 = some (.iload_n 2, 18, 2, 0, 0) := rfl
theorem xi_16_18 : xm_ins 16 18 = some (.iconst (-1), 19, 0, 0, (-1)) := rfl
theorem xi_16_19 : xm_ins 16 19 = some (.if_icmp .ne 6, 22, 25, 0, 0) := rfl
theorem xi_16_22 : xm_ins 16 22 = some (.ldc 60, 24, 0, 0, (-1000002)) := rfl
theorem xi_16_24 : xm_ins 16 24 = some (.ireturn, 25, 0, 0, 0) := rfl
theorem xi_16_25 : xm_ins 16 25 = some (.aload_n 0, 26, 0, 0, 0) := rfl
theorem xi_16_26 : xm_ins 16 26 = some (.getfield 27, 29, 1, 5, 1) := rfl
theorem xi_16_29 : xm_ins 16 29 = some (.iload_n 1, 30, 1, 0, 0) := rfl
theorem xi_16_30 : xm_ins 16 30 = some (.iconst (-1), 31, 0, 0, (-1)) := rfl
theorem xi_16_31 : xm_ins 16 31 = some (.iastore, 32, 0, 0, 0) := rfl
theorem xi_16_32 : xm_ins 16 32 = some (.iload_n 2, 33, 2, 0, 0) := rfl
theorem xi_16_33 : xm_ins 16 33 = some (.ireturn, 34, 0, 0, 0) := rfl
theorem xn_17 (pc : Nat) : xm_ins 17 pc = xm_find xt_17 pc := rfl
theorem xi_17_0 : xm_ins 17 0 = some (.aload_n 0, 1, 0, 0, 0) := rfl
theorem xi_17_1 : xm_ins 17 1 = some (.iload_n 1, 2, 1, 0, 0) := rfl
theorem xi_17_2 : xm_ins 17 2 = some (.invokevirtual 70, 5, 34, 2, 1) := rfl
theorem xi_17_5 : xm_ins 17 5 = some (.ifCond .eq 18, 8, 23, 0, 0) := rfl
theorem xi_17_8 : xm_ins 17 8 = some (.iload_n 2, 9, 2, 0, 0) := rfl
theorem xi_17_9 : xm_ins 17 9 = some (.invokestatic 78, 12, 32, 1, 1) := rfl
theorem xi_17_12 : xm_ins 17 12 = some (.ifCond .eq 11, 15, 23, 0, 0) := rfl
theorem xi_17_15 : xm_ins 17 15 = some (.aload_n 0, 16, 0, 0, 0) := rfl
theorem xi_17_16 : xm_ins 17 16 = some (.iload_n 3, 17, 3, 0, 0) := rfl
theorem xi_17_17 : xm_ins 17 17 = some (.invokevirtual 70, 20, 34, 2, 1) := rfl
theorem xi_17_20 : xm_ins 17 20 = some (.ifCond .ne 6, 23, 26, 0, 0) := rfl
theorem xi_17_23 : xm_ins 17 23 = some (.ldc 73, 25, 0, 0, (-1000001)) := rfl
theorem xi_17_25 : xm_ins 17 25 = some (.ireturn, 26, 0, 0, 0) := rfl
theorem xi_17_26 : xm_ins 17 26 = some (.aload_n 0, 27, 0, 0, 0) := rfl
theorem xi_17_27 : xm_ins 17 27 = some (.getfield 21, 30, 1, 3, 1) := rfl
theorem xi_17_30 : xm_ins 17 30 = some (.iload_n 1, 31, 1, 0, 0) := rfl
theorem xi_17_31 : xm_ins 17 31 = some (.iconst 3, 32, 0, 0, 3) := rfl
theorem xi_17_32 : xm_ins 17 32 = some (.imul, 33, 0, 0, 0) := rfl
theorem xi_17_33 : xm_ins 17 33 = some (.iload_n 2, 34, 2, 0, 0) := rfl
theorem xi_17_34 : xm_ins 17 34 = some (.iadd, 35, 0, 0, 0) := rfl
theorem xi_17_35 : xm_ins 17 35 = some (.iload_n 3, 36, 3, 0, 0) := rfl
theorem xi_17_36 : xm_ins 17 36 = some (.iastore, 37, 0, 0, 0) := rfl
theorem xi_17_37 : xm_ins 17 37 = some (.aload_n 0, 38, 0, 0, 0) := rfl
theorem xi_17_38 : xm_ins 17 38 = some (.iload_n 1, 39, 1, 0, 0) := rfl
theorem xi_17_39 : xm_ins 17 39 = some (.iload_n 2, 40, 2, 0, 0) := rfl
theorem xi_17_40 : xm_ins 17 40 = some (.invokevirtual 81, 43, 39, 3, 1) := rfl
theorem xi_17_43 : xm_ins 17 43 = some (.ifCond .eq 7, 46, 50, 0, 0) := rfl
theorem xi_17_46 : xm_ins 17 46 = some (.iconst 1, 47, 0, 0, 1) := rfl
theorem xi_17_47 : xm_ins 17 47 = some (.goto 4, 50, 51, 0, 0) := rfl
theorem xi_17_50 : xm_ins 17 50 = some (.iconst 0, 51, 0, 0, 0) := rfl
theorem xi_17_51 : xm_ins 17 51 = some (.ireturn, 52, 0, 0, 0) := rfl
theorem xn_18 (pc : Nat) : xm_ins 18 pc = xm_find xt_18 pc := rfl
theorem xi_18_0 : xm_ins 18 0 = some (.aload_n 0, 1, 0, 0, 0) := rfl
theorem xi_18_1 : xm_ins 18 1 = some (.iload_n 1, 2, 1, 0, 0) := rfl
theorem xi_18_2 : xm_ins 18 2 = some (.invokevirtual 70, 5, 34, 2, 1) := rfl
theorem xi_18_5 : xm_ins 18 5 = some (.ifCond .eq 10, 8, 15, 0, 0) := rfl
theorem xi_18_8 : xm_ins 18 8 = some (.iload_n 2, 9, 2, 0, 0) := rfl
theorem xi_18_9 : xm_ins 18 9 = some (.invokestatic 78, 12, 32, 1, 1) := rfl
theorem xi_18_12 : xm_ins 18 12 = some (.ifCond .ne 6, 15, 18, 0, 0) := rfl
theorem xi_18_15 : xm_ins 18 15 = some (.ldc 73, 17, 0, 0, (-1000001)) := rfl
theorem xi_18_17 : xm_ins 18 17 = some (.ireturn, 18, 0, 0, 0) := rfl
theorem xi_18_18 : xm_ins 18 18 = some (.aload_n 0, 19, 0, 0, 0) := rfl
theorem xi_18_19 : xm_ins 18 19 = some (.iload_n 1, 20, 1, 0, 0) := rfl
theorem xi_18_20 : xm_ins 18 20 = some (.iload_n 2, 21, 2, 0, 0) := rfl
theorem xi_18_21 : xm_ins 18 21 = some (.invokevirtual 85, 24, 38, 3, 1) := rfl
theorem xi_18_24 : xm_ins 18 24 = some (.istore_n 3, 25, 3, 0, 0) := rfl
theorem xi_18_25 : xm_ins 18 25 = some (.iload_n 3, 26, 3, 0, 0) := rfl
theorem xi_18_26 : xm_ins 18 26 = some (.iconst (-1), 27, 0, 0, (-1)) := rfl
theorem xi_18_27 : xm_ins 18 27 = some (.if_icmp .ne 6, 30, 33, 0, 0) := rfl
theorem xi_18_30 : xm_ins 18 30 = some (.ldc 60, 32, 0, 0, (-1000002)) := rfl
theorem xi_18_32 : xm_ins 18 32 = some (.ireturn, 33, 0, 0, 0) := rfl
theorem xi_18_33 : xm_ins 18 33 = some (.aload_n 0, 34, 0, 0, 0) := rfl
theorem xi_18_34 : xm_ins 18 34 = some (.getfield 21, 37, 1, 3, 1) := rfl
theorem xi_18_37 : xm_ins 18 37 = some (.iload_n 1, 38, 1, 0, 0) := rfl
theorem xi_18_38 : xm_ins 18 38 = some (.iconst 3, 39, 0, 0, 3) := rfl
theorem xi_18_39 : xm_ins 18 39 = some (.imul, 40, 0, 0, 0) := rfl
theorem xi_18_40 : xm_ins 18 40 = some (.iload_n 2, 41, 2, 0, 0) := rfl
theorem xi_18_41 : xm_ins 18 41 = some (.iadd, 42, 0, 0, 0) := rfl
theorem xi_18_42 : xm_ins 18 42 = some (.iconst (-1), 43, 0, 0, (-1)) := rfl
theorem xi_18_43 : xm_ins 18 43 = some (.iastore, 44, 0, 0, 0) := rfl
theorem xi_18_44 : xm_ins 18 44 = some (.iload_n 3, 45, 3, 0, 0) := rfl
theorem xi_18_45 : xm_ins 18 45 = some (.ireturn, 46, 0, 0, 0) := rfl
theorem xn_19 (pc : Nat) : xm_ins 19 pc = xm_find xt_19 pc := rfl
theorem xi_19_0 : xm_ins 19 0 = some (.aload_n 0, 1, 0, 0, 0) := rfl
theorem xi_19_1 : xm_ins 19 1 = some (.iload_n 1, 2, 1, 0, 0) := rfl
theorem xi_19_2 : xm_ins 19 2 = some (.invokevirtual 70, 5, 34, 2, 1) := rfl
theorem xi_19_5 : xm_ins 19 5 = some (.ifCond .ne 6, 8, 11, 0, 0) := rfl
theorem xi_19_8 : xm_ins 19 8 = some (.ldc 73, 10, 0, 0, (-1000001)) := rfl
theorem xi_19_10 : xm_ins 19 10 = some (.ireturn, 11, 0, 0, 0) := rfl
theorem xi_19_11 : xm_ins 19 11 = some (.aload_n 0, 12, 0, 0, 0) := rfl
theorem xi_19_12 : xm_ins 19 12 = some (.getfield 30, 15, 1, 6, 0) := rfl
theorem xi_19_15 : xm_ins 19 15 = some (.iload_n 1, 16, 1, 0, 0) := rfl
theorem xi_19_16 : xm_ins 19 16 = some (.invokestatic 89, 19, 83, 2, 2) := rfl
theorem xi_19_19 : xm_ins 19 19 = some (.ifCond .eq 6, 22, 25, 0, 0) := rfl
theorem xi_19_22 : xm_ins 19 22 = some (.ldc 60, 24, 0, 0, (-1000002)) := rfl
theorem xi_19_24 : xm_ins 19 24 = some (.ireturn, 25, 0, 0, 0) := rfl
theorem xi_19_25 : xm_ins 19 25 = some (.aload_n 0, 26, 0, 0, 0) := rfl
theorem xi_19_26 : xm_ins 19 26 = some (.dup, 27, 0, 0, 0) := rfl
theorem xi_19_27 : xm_ins 19 27 = some (.getfield 30, 30, 1, 6, 0) := rfl
theorem xi_19_30 : xm_ins 19 30 = some (.iconst 1, 31, 0, 0, 1) := rfl
theorem xi_19_31 : xm_ins 19 31 = some (.iload_n 1, 32, 1, 0, 0) := rfl
theorem xi_19_32 : xm_ins 19 32 = some (.ishl, 33, 0, 0, 0) := rfl
theorem xi_19_33 : xm_ins 19 33 = some (.ior, 34, 0, 0, 0) := rfl
theorem xi_19_34 : xm_ins 19 34 = some (.putfield 30, 37, 1, 6, 0) := rfl
theorem xi_19_37 : xm_ins 19 37 = some (.aload_n 0, 38, 0, 0, 0) := rfl
theorem xi_19_38 : xm_ins 19 38 = some (.getfield 30, 41, 1, 6, 0) := rfl
theorem xi_19_41 : xm_ins 19 41 = some (.invokestatic 92, 44, 84, 1, 0) := rfl
theorem xi_19_44 : xm_ins 19 44 = some (.ireturn, 45, 0, 0, 0) := rfl
theorem xn_20 (pc : Nat) : xm_ins 20 pc = xm_find xt_20 pc := rfl
theorem xi_20_0 : xm_ins 20 0 = some (.aload_n 0, 1, 0, 0, 0) := rfl
theorem xi_20_1 : xm_ins 20 1 = some (.iload_n 1, 2, 1, 0, 0) := rfl
theorem xi_20_2 : xm_ins 20 2 = some (.invokevirtual 70, 5, 34, 2, 1) := rfl
theorem xi_20_5 : xm_ins 20 5 = some (.ifCond .ne 6, 8, 11, 0, 0) := rfl
theorem xi_20_8 : xm_ins 20 8 = some (.ldc 73, 10, 0, 0, (-1000001)) := rfl
theorem xi_20_10 : xm_ins 20 10 = some (.ireturn, 11, 0, 0, 0) := rfl
theorem xi_20_11 : xm_ins 20 11 = some (.aload_n 0, 12, 0, 0, 0) := rfl
theorem xi_20_12 : xm_ins 20 12 = some (.getfield 30, 15, 1, 6, 0) := rfl
theorem xi_20_15 : xm_ins 20 15 = some (.iload_n 1, 16, 1, 0, 0) := rfl
theorem xi_20_16 : xm_ins 20 16 = some (.invokestatic 89, 19, 83, 2, 2) := rfl
theorem xi_20_19 : xm_ins 20 19 = some (.ifCond .ne 6, 22, 25, 0, 0) := rfl
theorem xi_20_22 : xm_ins 20 22 = some (.ldc 60, 24, 0, 0, (-1000002)) := rfl
theorem xi_20_24 : xm_ins 20 24 = some (.ireturn, 25, 0, 0, 0) := rfl
theorem xi_20_25 : xm_ins 20 25 = some (.aload_n 0, 26, 0, 0, 0) := rfl
theorem xi_20_26 : xm_ins 20 26 = some (.dup, 27, 0, 0, 0) := rfl
theorem xi_20_27 : xm_ins 20 27 = some (.getfield 30, 30, 1, 6, 0) := rfl
theorem xi_20_30 : xm_ins 20 30 = some (.iconst 1, 31, 0, 0, 1) := rfl
theorem xi_20_31 : xm_ins 20 31 = some (.iload_n 1, 32, 1, 0, 0) := rfl
theorem xi_20_32 : xm_ins 20 32 = some (.ishl, 33, 0, 0, 0) := rfl
theorem xi_20_33 : xm_ins 20 33 = some (.iconst (-1), 34, 0, 0, (-1)) := rfl
theorem xi_20_34 : xm_ins 20 34 = some (.ixor, 35, 0, 0, 0) := rfl
theorem xi_20_35 : xm_ins 20 35 = some (.iand, 36, 0, 0, 0) := rfl
theorem xi_20_36 : xm_ins 20 36 = some (.putfield 30, 39, 1, 6, 0) := rfl
theorem xi_20_39 : xm_ins 20 39 = some (.aload_n 0, 40, 0, 0, 0) := rfl
theorem xi_20_40 : xm_ins 20 40 = some (.getfield 30, 43, 1, 6, 0) := rfl
theorem xi_20_43 : xm_ins 20 43 = some (.invokestatic 92, 46, 84, 1, 0) := rfl
theorem xi_20_46 : xm_ins 20 46 = some (.ireturn, 47, 0, 0, 0) := rfl
theorem xn_21 (pc : Nat) : xm_ins 21 pc = xm_find xt_21 pc := rfl
theorem xi_21_0 : xm_ins 21 0 = some (.iload_n 1, 1, 1, 0, 0) := rfl
theorem xi_21_1 : xm_ins 21 1 = some (.ifCond .lt 8, 4, 9, 0, 0) := rfl
theorem xi_21_4 : xm_ins 21 4 = some (.iload_n 1, 5, 1, 0, 0) := rfl
theorem xi_21_5 : xm_ins 21 5 = some (.iconst 2, 6, 0, 0, 2) := rfl
theorem xi_21_6 : xm_ins 21 6 = some (.if_icmp .lt 6, 9, 12, 0, 0) := rfl
theorem xi_21_9 : xm_ins 21 9 = some (.ldc 73, 11, 0, 0, (-1000001)) := rfl
theorem xi_21_11 : xm_ins 21 11 = some (.ireturn, 12, 0, 0, 0) := rfl
theorem xi_21_12 : xm_ins 21 12 = some (.aload_n 0, 13, 0, 0, 0) := rfl
theorem xi_21_13 : xm_ins 21 13 = some (.iload_n 1, 14, 1, 0, 0) := rfl
theorem xi_21_14 : xm_ins 21 14 = some (.invokevirtual 97, 17, 52, 2, 1) := rfl
theorem xi_21_17 : xm_ins 21 17 = some (.istore_n 2, 18, 2, 0, 0) := rfl
theorem xi_21_18 : xm_ins 21 18 = some (.aload_n 0, 19, 0, 0, 0) := rfl
theorem xi_21_19 : xm_ins 21 19 = some (.iload_n 1, 20, 1, 0, 0) := rfl
theorem xi_21_20 : xm_ins 21 20 = some (.invokevirtual 100, 23, 48, 2, 1) := rfl
theorem xi_21_23 : xm_ins 21 23 = some (.iload_n 2, 24, 2, 0, 0) := rfl
theorem xi_21_24 : xm_ins 21 24 = some (.iconst (-1), 25, 0, 0, (-1)) := rfl
theorem xi_21_25 : xm_ins 21 25 = some (.ixor, 26, 0, 0, 0) := rfl
theorem xi_21_26 : xm_ins 21 26 = some (.iand, 27, 0, 0, 0) := rfl
theorem xi_21_27 : xm_ins 21 27 = some (.istore_n 3, 28, 3, 0, 0) := rfl
theorem xi_21_28 : xm_ins 21 28 = some (.aload_n 0, 29, 0, 0, 0) := rfl
theorem xi_21_29 : xm_ins 21 29 = some (.iconst 0, 30, 0, 0, 0) := rfl
theorem xi_21_30 : xm_ins 21 30 = some (.invokevirtual 103, 33, 46, 2, 1) := rfl
theorem xi_21_33 : xm_ins 21 33 = some (.istore 4, 35, 4, 0, 0) := rfl
theorem xi_21_35 : xm_ins 21 35 = some (.aload_n 0, 36, 0, 0, 0) := rfl
theorem xi_21_36 : xm_ins 21 36 = some (.iload_n 2, 37, 2, 0, 0) := rfl
theorem xi_21_37 : xm_ins 21 37 = some (.aload_n 0, 38, 0, 0, 0) := rfl
theorem xi_21_38 : xm_ins 21 38 = some (.getfield 30, 41, 1, 6, 0) := rfl
theorem xi_21_41 : xm_ins 21 41 = some (.iand, 42, 0, 0, 0) := rfl
theorem xi_21_42 : xm_ins 21 42 = some (.invokevirtual 106, 45, 23, 2, 1) := rfl
theorem xi_21_45 : xm_ins 21 45 = some (.iconst 0, 46, 0, 0, 0) := rfl
theorem xi_21_46 : xm_ins 21 46 = some (.istore 5, 48, 5, 0, 0) := rfl
theorem xi_21_48 : xm_ins 21 48 = some (.iload 5, 50, 5, 0, 0) := rfl
theorem xi_21_50 : xm_ins 21 50 = some (.bipush 30, 52, 0, 0, 30) := rfl
theorem xi_21_52 : xm_ins 21 52 = some (.if_icmp .ge 52, 55, 104, 0, 0) := rfl
theorem xi_21_55 : xm_ins 21 55 = some (.iload_n 2, 56, 2, 0, 0) := rfl
theorem xi_21_56 : xm_ins 21 56 = some (.aload_n 0, 57, 0, 0, 0) := rfl
theorem xi_21_57 : xm_ins 21 57 = some (.getfield 30, 60, 1, 6, 0) := rfl
theorem xi_21_60 : xm_ins 21 60 = some (.iconst (-1), 61, 0, 0, (-1)) := rfl
theorem xi_21_61 : xm_ins 21 61 = some (.ixor, 62, 0, 0, 0) := rfl
theorem xi_21_62 : xm_ins 21 62 = some (.iand, 63, 0, 0, 0) := rfl
theorem xi_21_63 : xm_ins 21 63 = some (.iload 5, 65, 5, 0, 0) := rfl
theorem xi_21_65 : xm_ins 21 65 = some (.invokestatic 89, 68, 83, 2, 2) := rfl
theorem xi_21_68 : xm_ins 21 68 = some (.ifCond .eq 30, 71, 98, 0, 0) := rfl
theorem xi_21_71 : xm_ins 21 71 = some (.aload_n 0, 72, 0, 0, 0) := rfl
theorem xi_21_72 : xm_ins 21 72 = some (.iload 5, 74, 5, 0, 0) := rfl
theorem xi_21_74 : xm_ins 21 74 = some (.iload 4, 76, 4, 0, 0) := rfl
theorem xi_21_76 : xm_ins 21 76 = some (.iload 5, 78, 5, 0, 0) := rfl
theorem xi_21_78 : xm_ins 21 78 = some (.invokestatic 89, 81, 83, 2, 2) := rfl
theorem xi_21_81 : xm_ins 21 81 = some (.ifCond .eq 7, 84, 88, 0, 0) := rfl
theorem xi_21_84 : xm_ins 21 84 = some (.iconst 1, 85, 0, 0, 1) := rfl
theorem xi_21_85 : xm_ins 21 85 = some (.goto 4, 88, 89, 0, 0) := rfl
theorem xi_21_88 : xm_ins 21 88 = some (.iconst 2, 89, 0, 0, 2) := rfl
theorem xi_21_89 : xm_ins 21 89 = some (.invokevirtual 110, 92, 24, 3, 1) := rfl
theorem xi_21_92 : xm_ins 21 92 = some (.ifCond .ne 6, 95, 98, 0, 0) := rfl
theorem xi_21_95 : xm_ins 21 95 = some (.ldc 60, 97, 0, 0, (-1000002)) := rfl
theorem xi_21_97 : xm_ins 21 97 = some (.ireturn, 98, 0, 0, 0) := rfl
theorem xi_21_98 : xm_ins 21 98 = some (.iinc 5 1, 101, 5, 0, 1) := rfl
theorem xi_21_101 : xm_ins 21 101 = some (.goto (-53), 104, 48, 0, 0) := rfl
theorem xi_21_104 : xm_ins 21 104 = some (.aload_n 0, 105, 0, 0, 0) := rfl
theorem xi_21_105 : xm_ins 21 105 = some (.iload_n 3, 106, 3, 0, 0) := rfl
theorem xi_21_106 : xm_ins 21 106 = some (.invokevirtual 113, 109, 27, 2, 1) := rfl
theorem xi_21_109 : xm_ins 21 109 = some (.aload_n 0, 110, 0, 0, 0) := rfl
theorem xi_21_110 : xm_ins 21 110 = some (.dup, 111, 0, 0, 0) := rfl
theorem xi_21_111 : xm_ins 21 111 = some (.getfield 37, 114, 1, 8, 0) := rfl
theorem xi_21_114 : xm_ins 21 114 = some (.iconst 1, 115, 0, 0, 1) := rfl
theorem xi_21_115 : xm_ins 21 115 = some (.iadd, 116, 0, 0, 0) := rfl
theorem xi_21_116 : xm_ins 21 116 = some (.putfield 37, 119, 1, 8, 0) := rfl
theorem xi_21_119 : xm_ins 21 119 = some (.iload_n 3, 120, 3, 0, 0) := rfl
theorem xi_21_120 : xm_ins 21 120 = some (.invokestatic 92, 123, 84, 1, 0) := rfl
theorem xi_21_123 : xm_ins 21 123 = some (.ireturn, 124, 0, 0, 0) := rfl
theorem xn_22 (pc : Nat) : xm_ins 22 pc = xm_find xt_22 pc := rfl
theorem xi_22_0 : xm_ins 22 0 = some (.aload_n 0, 1, 0, 0, 0) := rfl
theorem xi_22_1 : xm_ins 22 1 = some (.invokevirtual 116, 4, 47, 1, 1) := rfl
theorem xi_22_4 : xm_ins 22 4 = some (.aload_n 0, 5, 0, 0, 0) := rfl
theorem xi_22_5 : xm_ins 22 5 = some (.invokevirtual 119, 8, 51, 1, 1) := rfl
theorem xi_22_8 : xm_ins 22 8 = some (.iconst (-1), 9, 0, 0, (-1)) := rfl
theorem xi_22_9 : xm_ins 22 9 = some (.ixor, 10, 0, 0, 0) := rfl
theorem xi_22_10 : xm_ins 22 10 = some (.iand, 11, 0, 0, 0) := rfl
theorem xi_22_11 : xm_ins 22 11 = some (.istore_n 1, 12, 1, 0, 0) := rfl
theorem xi_22_12 : xm_ins 22 12 = some (.aload_n 0, 13, 0, 0, 0) := rfl
theorem xi_22_13 : xm_ins 22 13 = some (.iload_n 1, 14, 1, 0, 0) := rfl
theorem xi_22_14 : xm_ins 22 14 = some (.invokevirtual 113, 17, 27, 2, 1) := rfl
theorem xi_22_17 : xm_ins 22 17 = some (.aload_n 0, 18, 0, 0, 0) := rfl
theorem xi_22_18 : xm_ins 22 18 = some (.dup, 19, 0, 0, 0) := rfl
theorem xi_22_19 : xm_ins 22 19 = some (.getfield 40, 22, 1, 9, 0) := rfl
theorem xi_22_22 : xm_ins 22 22 = some (.iconst 1, 23, 0, 0, 1) := rfl
theorem xi_22_23 : xm_ins 22 23 = some (.iadd, 24, 0, 0, 0) := rfl
theorem xi_22_24 : xm_ins 22 24 = some (.putfield 40, 27, 1, 9, 0) := rfl
theorem xi_22_27 : xm_ins 22 27 = some (.iload_n 1, 28, 1, 0, 0) := rfl
theorem xi_22_28 : xm_ins 22 28 = some (.invokestatic 92, 31, 84, 1, 0) := rfl
theorem xi_22_31 : xm_ins 22 31 = some (.ireturn, 32, 0, 0, 0) := rfl
theorem xn_23 (pc : Nat) : xm_ins 23 pc = xm_find xt_23 pc := rfl
theorem xi_23_0 : xm_ins 23 0 = some (.iconst 0, 1, 0, 0, 0) := rfl
theorem xi_23_1 : xm_ins 23 1 = some (.istore_n 2, 2, 2, 0, 0) := rfl
theorem xi_23_2 : xm_ins 23 2 = some (.iload_n 2, 3, 2, 0, 0) := rfl
theorem xi_23_3 : xm_ins 23 3 = some (.bipush 8, 5, 0, 0, 8) := rfl
theorem xi_23_5 : xm_ins 23 5 = some (.if_icmp .ge 29, 8, 34, 0, 0) := rfl
theorem xi_23_8 : xm_ins 23 8 = some (.aload_n 0, 9, 0, 0, 0) := rfl
theorem xi_23_9 : xm_ins 23 9 = some (.iload_n 2, 10, 2, 0, 0) := rfl
theorem xi_23_10 : xm_ins 23 10 = some (.invokevirtual 122, 13, 42, 2, 1) := rfl
theorem xi_23_13 : xm_ins 23 13 = some (.iload_n 1, 14, 1, 0, 0) := rfl
theorem xi_23_14 : xm_ins 23 14 = some (.iand, 15, 0, 0, 0) := rfl
theorem xi_23_15 : xm_ins 23 15 = some (.ifCond .eq 13, 18, 28, 0, 0) := rfl
theorem xi_23_18 : xm_ins 23 18 = some (.aload_n 0, 19, 0, 0, 0) := rfl
theorem xi_23_19 : xm_ins 23 19 = some (.getfield 9, 22, 1, 0, 1) := rfl
theorem xi_23_22 : xm_ins 23 22 = some (.iload_n 2, 23, 2, 0, 0) := rfl
theorem xi_23_23 : xm_ins 23 23 = some (.dup2, 24, 0, 0, 0) := rfl
theorem xi_23_24 : xm_ins 23 24 = some (.iaload, 25, 0, 0, 0) := rfl
theorem xi_23_25 : xm_ins 23 25 = some (.iconst 1, 26, 0, 0, 1) := rfl
theorem xi_23_26 : xm_ins 23 26 = some (.iadd, 27, 0, 0, 0) := rfl
theorem xi_23_27 : xm_ins 23 27 = some (.iastore, 28, 0, 0, 0) := rfl
theorem xi_23_28 : xm_ins 23 28 = some (.iinc 2 1, 31, 2, 0, 1) := rfl
theorem xi_23_31 : xm_ins 23 31 = some (.goto (-29), 34, 2, 0, 0) := rfl
theorem xi_23_34 : xm_ins 23 34 = some (.return_, 35, 0, 0, 0) := rfl
theorem xn_24 (pc : Nat) : xm_ins 24 pc = xm_find xt_24 pc := rfl
theorem xi_24_0 : xm_ins 24 0 = some (.aload_n 0, 1, 0, 0, 0) := rfl
theorem xi_24_1 : xm_ins 24 1 = some (.iload_n 2, 2, 2, 0, 0) := rfl
theorem xi_24_2 : xm_ins 24 2 = some (.invokevirtual 56, 5, 29, 2, 1) := rfl
theorem xi_24_5 : xm_ins 24 5 = some (.istore_n 3, 6, 3, 0, 0) := rfl
theorem xi_24_6 : xm_ins 24 6 = some (.iload_n 3, 7, 3, 0, 0) := rfl
theorem xi_24_7 : xm_ins 24 7 = some (.iconst (-1), 8, 0, 0, (-1)) := rfl
theorem xi_24_8 : xm_ins 24 8 = some (.if_icmp .ne 5, 11, 13, 0, 0) := rfl
theorem xi_24_11 : xm_ins 24 11 = some (.iconst 0, 12, 0, 0, 0) := rfl
theorem xi_24_12 : xm_ins 24 12 = some (.ireturn, 13, 0, 0, 0) := rfl
theorem xi_24_13 : xm_ins 24 13 = some (.aload_n 0, 14, 0, 0, 0) := rfl
theorem xi_24_14 : xm_ins 24 14 = some (.iload_n 1, 15, 1, 0, 0) := rfl
theorem xi_24_15 : xm_ins 24 15 = some (.invokevirtual 125, 18, 26, 2, 1) := rfl
theorem xi_24_18 : xm_ins 24 18 = some (.aload_n 0, 19, 0, 0, 0) := rfl
theorem xi_24_19 : xm_ins 24 19 = some (.iload_n 1, 20, 1, 0, 0) := rfl
theorem xi_24_20 : xm_ins 24 20 = some (.iload_n 3, 21, 3, 0, 0) := rfl
theorem xi_24_21 : xm_ins 24 21 = some (.iload_n 2, 22, 2, 0, 0) := rfl
theorem xi_24_22 : xm_ins 24 22 = some (.invokevirtual 62, 25, 25, 4, 1) := rfl
theorem xi_24_25 : xm_ins 24 25 = some (.aload_n 0, 26, 0, 0, 0) := rfl
theorem xi_24_26 : xm_ins 24 26 = some (.getfield 24, 29, 1, 4, 1) := rfl
theorem xi_24_29 : xm_ins 24 29 = some (.iload_n 1, 30, 1, 0, 0) := rfl
theorem xi_24_30 : xm_ins 24 30 = some (.dup2, 31, 0, 0, 0) := rfl
theorem xi_24_31 : xm_ins 24 31 = some (.iaload, 32, 0, 0, 0) := rfl
theorem xi_24_32 : xm_ins 24 32 = some (.iconst 1, 33, 0, 0, 1) := rfl
theorem xi_24_33 : xm_ins 24 33 = some (.iadd, 34, 0, 0, 0) := rfl
theorem xi_24_34 : xm_ins 24 34 = some (.iastore, 35, 0, 0, 0) := rfl
theorem xi_24_35 : xm_ins 24 35 = some (.aload_n 0, 36, 0, 0, 0) := rfl
theorem xi_24_36 : xm_ins 24 36 = some (.dup, 37, 0, 0, 0) := rfl
theorem xi_24_37 : xm_ins 24 37 = some (.getfield 43, 40, 1, 10, 0) := rfl
theorem xi_24_40 : xm_ins 24 40 = some (.iconst 1, 41, 0, 0, 1) := rfl
theorem xi_24_41 : xm_ins 24 41 = some (.iadd, 42, 0, 0, 0) := rfl
theorem xi_24_42 : xm_ins 24 42 = some (.putfield 43, 45, 1, 10, 0) := rfl
theorem xi_24_45 : xm_ins 24 45 = some (.iconst 1, 46, 0, 0, 1) := rfl
theorem xi_24_46 : xm_ins 24 46 = some (.ireturn, 47, 0, 0, 0) := rfl
theorem xn_25 (pc : Nat) : xm_ins 25 pc = xm_find xt_25 pc := rfl
theorem xi_25_0 : xm_ins 25 0 = some (.aload_n 0, 1, 0, 0, 0) := rfl
theorem xi_25_1 : xm_ins 25 1 = some (.getfield 9, 4, 1, 0, 1) := rfl
theorem xi_25_4 : xm_ins 25 4 = some (.iload_n 2, 5, 2, 0, 0) := rfl
theorem xi_25_5 : xm_ins 25 5 = some (.iconst 5, 6, 0, 0, 5) := rfl
theorem xi_25_6 : xm_ins 25 6 = some (.idiv, 7, 0, 0, 0) := rfl
theorem xi_25_7 : xm_ins 25 7 = some (.iload_n 3, 8, 3, 0, 0) := rfl
theorem xi_25_8 : xm_ins 25 8 = some (.iastore, 9, 0, 0, 0) := rfl
theorem xi_25_9 : xm_ins 25 9 = some (.aload_n 0, 10, 0, 0, 0) := rfl
theorem xi_25_10 : xm_ins 25 10 = some (.getfield 15, 13, 1, 1, 1) := rfl
theorem xi_25_13 : xm_ins 25 13 = some (.iload_n 2, 14, 2, 0, 0) := rfl
theorem xi_25_14 : xm_ins 25 14 = some (.iload_n 1, 15, 1, 0, 0) := rfl
theorem xi_25_15 : xm_ins 25 15 = some (.iastore, 16, 0, 0, 0) := rfl
theorem xi_25_16 : xm_ins 25 16 = some (.aload_n 0, 17, 0, 0, 0) := rfl
theorem xi_25_17 : xm_ins 25 17 = some (.getfield 18, 20, 1, 2, 1) := rfl
theorem xi_25_20 : xm_ins 25 20 = some (.iload_n 1, 21, 1, 0, 0) := rfl
theorem xi_25_21 : xm_ins 25 21 = some (.iload_n 2, 22, 2, 0, 0) := rfl
theorem xi_25_22 : xm_ins 25 22 = some (.iastore, 23, 0, 0, 0) := rfl
theorem xi_25_23 : xm_ins 25 23 = some (.return_, 24, 0, 0, 0) := rfl
theorem xn_26 (pc : Nat) : xm_ins 26 pc = xm_find xt_26 pc := rfl
theorem xi_26_0 : xm_ins 26 0 = some (.aload_n 0, 1, 0, 0, 0) := rfl
theorem xi_26_1 : xm_ins 26 1 = some (.getfield 18, 4, 1, 2, 1) := rfl
theorem xi_26_4 : xm_ins 26 4 = some (.iload_n 1, 5, 1, 0, 0) := rfl
theorem xi_26_5 : xm_ins 26 5 = some (.iaload, 6, 0, 0, 0) := rfl
theorem xi_26_6 : xm_ins 26 6 = some (.istore_n 2, 7, 2, 0, 0) := rfl
theorem xi_26_7 : xm_ins 26 7 = some (.iload_n 2, 8, 2, 0, 0) := rfl
theorem xi_26_8 : xm_ins 26 8 = some (.iconst (-1), 9, 0, 0, (-1)) := rfl
theorem xi_26_9 : xm_ins 26 9 = some (.if_icmp .eq 17, 12, 26, 0, 0) := rfl
theorem xi_26_12 : xm_ins 26 12 = some (.aload_n 0, 13, 0, 0, 0) := rfl
theorem xi_26_13 : xm_ins 26 13 = some (.getfield 15, 16, 1, 1, 1) := rfl
theorem xi_26_16 : xm_ins 26 16 = some (.iload_n 2, 17, 2, 0, 0) := rfl
theorem xi_26_17 : xm_ins 26 17 = some (.iconst (-1), 18, 0, 0, (-1)) := rfl
theorem xi_26_18 : xm_ins 26 18 = some (.iastore, 19, 0, 0, 0) := rfl
theorem xi_26_19 : xm_ins 26 19 = some (.aload_n 0, 20, 0, 0, 0) := rfl
theorem xi_26_20 : xm_ins 26 20 = some (.getfield 18, 23, 1, 2, 1) := rfl
theorem xi_26_23 : xm_ins 26 23 = some (.iload_n 1, 24, 1, 0, 0) := rfl
theorem xi_26_24 : xm_ins 26 24 = some (.iconst (-1), 25, 0, 0, (-1)) := rfl
theorem xi_26_25 : xm_ins 26 25 = some (.iastore, 26, 0, 0, 0) := rfl
theorem xi_26_26 : xm_ins 26 26 = some (.return_, 27, 0, 0, 0) := rfl
theorem xn_27 (pc : Nat) : xm_ins 27 pc = xm_find xt_27 pc := rfl
theorem xi_27_0 : xm_ins 27 0 = some (.iconst 0, 1, 0, 0, 0) := rfl
theorem xi_27_1 : xm_ins 27 1 = some (.istore_n 2, 2, 2, 0, 0) := rfl
theorem xi_27_2 : xm_ins 27 2 = some (.iload_n 2, 3, 2, 0, 0) := rfl
theorem xi_27_3 : xm_ins 27 3 = some (.bipush 30, 5, 0, 0, 30) := rfl
theorem xi_27_5 : xm_ins 27 5 = some (.if_icmp .ge 46, 8, 51, 0, 0) := rfl
theorem xi_27_8 : xm_ins 27 8 = some (.iload_n 1, 9, 1, 0, 0) := rfl
theorem xi_27_9 : xm_ins 27 9 = some (.iload_n 2, 10, 2, 0, 0) := rfl
theorem xi_27_10 : xm_ins 27 10 = some (.invokestatic 89, 13, 83, 2, 2) := rfl
theorem xi_27_13 : xm_ins 27 13 = some (.ifCond .eq 32, 16, 45, 0, 0) := rfl
theorem xi_27_16 : xm_ins 27 16 = some (.aload_n 0, 17, 0, 0, 0) := rfl
theorem xi_27_17 : xm_ins 27 17 = some (.iload_n 2, 18, 2, 0, 0) := rfl
theorem xi_27_18 : xm_ins 27 18 = some (.invokevirtual 125, 21, 26, 2, 1) := rfl
theorem xi_27_21 : xm_ins 27 21 = some (.iconst 0, 22, 0, 0, 0) := rfl
theorem xi_27_22 : xm_ins 27 22 = some (.istore_n 3, 23, 3, 0, 0) := rfl
theorem xi_27_23 : xm_ins 27 23 = some (.iload_n 3, 24, 3, 0, 0) := rfl
theorem xi_27_24 : xm_ins 27 24 = some (.iconst 3, 25, 0, 0, 3) := rfl
theorem xi_27_25 : xm_ins 27 25 = some (.if_icmp .ge 20, 28, 45, 0, 0) := rfl
theorem xi_27_28 : xm_ins 27 28 = some (.aload_n 0, 29, 0, 0, 0) := rfl
theorem xi_27_29 : xm_ins 27 29 = some (.getfield 21, 32, 1, 3, 1) := rfl
theorem xi_27_32 : xm_ins 27 32 = some (.iload_n 2, 33, 2, 0, 0) := rfl
theorem xi_27_33 : xm_ins 27 33 = some (.iconst 3, 34, 0, 0, 3) := rfl
theorem xi_27_34 : xm_ins 27 34 = some (.imul, 35, 0, 0, 0) := rfl
theorem xi_27_35 : xm_ins 27 35 = some (.iload_n 3, 36, 3, 0, 0) := rfl
theorem xi_27_36 : xm_ins 27 36 = some (.iadd, 37, 0, 0, 0) := rfl
theorem xi_27_37 : xm_ins 27 37 = some (.iconst (-1), 38, 0, 0, (-1)) := rfl
theorem xi_27_38 : xm_ins 27 38 = some (.iastore, 39, 0, 0, 0) := rfl
theorem xi_27_39 : xm_ins 27 39 = some (.iinc 3 1, 42, 3, 0, 1) := rfl
theorem xi_27_42 : xm_ins 27 42 = some (.goto (-19), 45, 23, 0, 0) := rfl
theorem xi_27_45 : xm_ins 27 45 = some (.iinc 2 1, 48, 2, 0, 1) := rfl
theorem xi_27_48 : xm_ins 27 48 = some (.goto (-46), 51, 2, 0, 0) := rfl
theorem xi_27_51 : xm_ins 27 51 = some (.aload_n 0, 52, 0, 0, 0) := rfl
theorem xi_27_52 : xm_ins 27 52 = some (.invokevirtual 128, 55, 28, 1, 1) := rfl
theorem xi_27_55 : xm_ins 27 55 = some (.return_, 56, 0, 0, 0) := rfl
theorem xn_28 (pc : Nat) : xm_ins 28 pc = xm_find xt_28 pc := rfl
theorem xi_28_0 : xm_ins 28 0 = some (.iconst 0, 1, 0, 0, 0) := rfl
theorem xi_28_1 : xm_ins 28 1 = some (.istore_n 1, 2, 1, 0, 0) := rfl
theorem xi_28_2 : xm_ins 28 2 = some (.iload_n 1, 3, 1, 0, 0) := rfl
theorem xi_28_3 : xm_ins 28 3 = some (.bipush 8, 5, 0, 0, 8) := rfl
theorem xi_28_5 : xm_ins 28 5 = some (.if_icmp .ge 24, 8, 29, 0, 0) := rfl
theorem xi_28_8 : xm_ins 28 8 = some (.aload_n 0, 9, 0, 0, 0) := rfl
theorem xi_28_9 : xm_ins 28 9 = some (.iload_n 1, 10, 1, 0, 0) := rfl
theorem xi_28_10 : xm_ins 28 10 = some (.invokevirtual 122, 13, 42, 2, 1) := rfl
theorem xi_28_13 : xm_ins 28 13 = some (.ifCond .ne 10, 16, 23, 0, 0) := rfl
theorem xi_28_16 : xm_ins 28 16 = some (.aload_n 0, 17, 0, 0, 0) := rfl
theorem xi_28_17 : xm_ins 28 17 = some (.getfield 9, 20, 1, 0, 1) := rfl
theorem xi_28_20 : xm_ins 28 20 = some (.iload_n 1, 21, 1, 0, 0) := rfl
theorem xi_28_21 : xm_ins 28 21 = some (.iconst (-1), 22, 0, 0, (-1)) := rfl
theorem xi_28_22 : xm_ins 28 22 = some (.iastore, 23, 0, 0, 0) := rfl
theorem xi_28_23 : xm_ins 28 23 = some (.iinc 1 1, 26, 1, 0, 1) := rfl
theorem xi_28_26 : xm_ins 28 26 = some (.goto (-24), 29, 2, 0, 0) := rfl
theorem xi_28_29 : xm_ins 28 29 = some (.return_, 30, 0, 0, 0) := rfl
theorem xn_29 (pc : Nat) : xm_ins 29 pc = xm_find xt_29 pc := rfl
theorem xi_29_0 : xm_ins 29 0 = some (.iconst 0, 1, 0, 0, 0) := rfl
theorem xi_29_1 : xm_ins 29 1 = some (.istore_n 2, 2, 2, 0, 0) := rfl
theorem xi_29_2 : xm_ins 29 2 = some (.iload_n 2, 3, 2, 0, 0) := rfl
theorem xi_29_3 : xm_ins 29 3 = some (.bipush 8, 5, 0, 0, 8) := rfl
theorem xi_29_5 : xm_ins 29 5 = some (.if_icmp .ge 32, 8, 37, 0, 0) := rfl
theorem xi_29_8 : xm_ins 29 8 = some (.aload_n 0, 9, 0, 0, 0) := rfl
theorem xi_29_9 : xm_ins 29 9 = some (.getfield 9, 12, 1, 0, 1) := rfl
theorem xi_29_12 : xm_ins 29 12 = some (.iload_n 2, 13, 2, 0, 0) := rfl
theorem xi_29_13 : xm_ins 29 13 = some (.iaload, 14, 0, 0, 0) := rfl
theorem xi_29_14 : xm_ins 29 14 = some (.iload_n 1, 15, 1, 0, 0) := rfl
theorem xi_29_15 : xm_ins 29 15 = some (.if_icmp .ne 16, 18, 31, 0, 0) := rfl
theorem xi_29_18 : xm_ins 29 18 = some (.aload_n 0, 19, 0, 0, 0) := rfl
theorem xi_29_19 : xm_ins 29 19 = some (.iload_n 2, 20, 2, 0, 0) := rfl
theorem xi_29_20 : xm_ins 29 20 = some (.invokevirtual 131, 23, 30, 2, 1) := rfl
theorem xi_29_23 : xm_ins 29 23 = some (.istore_n 3, 24, 3, 0, 0) := rfl
theorem xi_29_24 : xm_ins 29 24 = some (.iload_n 3, 25, 3, 0, 0) := rfl
theorem xi_29_25 : xm_ins 29 25 = some (.iconst (-1), 26, 0, 0, (-1)) := rfl
theorem xi_29_26 : xm_ins 29 26 = some (.if_icmp .eq 5, 29, 31, 0, 0) := rfl
theorem xi_29_29 : xm_ins 29 29 = some (.iload_n 3, 30, 3, 0, 0) := rfl
theorem xi_29_30 : xm_ins 29 30 = some (.ireturn, 31, 0, 0, 0) := rfl
theorem xi_29_31 : xm_ins 29 31 = some (.iinc 2 1, 34, 2, 0, 1) := rfl
theorem xi_29_34 : xm_ins 29 34 = some (.goto (-32), 37, 2, 0, 0) := rfl
theorem xi_29_37 : xm_ins 29 37 = some (.iconst 0, 38, 0, 0, 0) := rfl
theorem xi_29_38 : xm_ins 29 38 = some (.istore_n 2, 39, 2, 0, 0) := rfl
theorem xi_29_39 : xm_ins 29 39 = some (.iload_n 2, 40, 2, 0, 0) := rfl
theorem xi_29_40 : xm_ins 29 40 = some (.bipush 8, 42, 0, 0, 8) := rfl
theorem xi_29_42 : xm_ins 29 42 = some (.if_icmp .ge 23, 45, 65, 0, 0) := rfl
theorem xi_29_45 : xm_ins 29 45 = some (.aload_n 0, 46, 0, 0, 0) := rfl
theorem xi_29_46 : xm_ins 29 46 = some (.getfield 9, 49, 1, 0, 1) := rfl
theorem xi_29_49 : xm_ins 29 49 = some (.iload_n 2, 50, 2, 0, 0) := rfl
theorem xi_29_50 : xm_ins 29 50 = some (.iaload, 51, 0, 0, 0) := rfl
theorem xi_29_51 : xm_ins 29 51 = some (.iconst (-1), 52, 0, 0, (-1)) := rfl
theorem xi_29_52 : xm_ins 29 52 = some (.if_icmp .ne 7, 55, 59, 0, 0) := rfl
theorem xi_29_55 : xm_ins 29 55 = some (.iload_n 2, 56, 2, 0, 0) := rfl
theorem xi_29_56 : xm_ins 29 56 = some (.iconst 5, 57, 0, 0, 5) := rfl
theorem xi_29_57 : xm_ins 29 57 = some (.imul, 58, 0, 0, 0) := rfl
theorem xi_29_58 : xm_ins 29 58 = some (.ireturn, 59, 0, 0, 0) := rfl
theorem xi_29_59 : xm_ins 29 59 = some (.iinc 2 1, 62, 2, 0, 1) := rfl
theorem xi_29_62 : xm_ins 29 62 = some (.goto (-23), 65, 39, 0, 0) := rfl
theorem xi_29_65 : xm_ins 29 65 = some (.iconst (-1), 66, 0, 0, (-1)) := rfl
theorem xi_29_66 : xm_ins 29 66 = some (.ireturn, 67, 0, 0, 0) := rfl
theorem xn_30 (pc : Nat) : xm_ins 30 pc = xm_find xt_30 pc := rfl
theorem xi_30_0 : xm_ins 30 0 = some (.iconst 0, 1, 0, 0, 0) := rfl
theorem xi_30_1 : xm_ins 30 1 = some (.istore_n 2, 2, 2, 0, 0) := rfl
theorem xi_30_2 : xm_ins 30 2 = some (.iload_n 2, 3, 2, 0, 0) := rfl
theorem xi_30_3 : xm_ins 30 3 = some (.iconst 5, 4, 0, 0, 5) := rfl
theorem xi_30_4 : xm_ins 30 4 = some (.if_icmp .ge 27, 7, 31, 0, 0) := rfl
theorem xi_30_7 : xm_ins 30 7 = some (.iload_n 1, 8, 1, 0, 0) := rfl
theorem xi_30_8 : xm_ins 30 8 = some (.iconst 5, 9, 0, 0, 5) := rfl
theorem xi_30_9 : xm_ins 30 9 = some (.imul, 10, 0, 0, 0) := rfl
theorem xi_30_10 : xm_ins 30 10 = some (.iload_n 2, 11, 2, 0, 0) := rfl
theorem xi_30_11 : xm_ins 30 11 = some (.iadd, 12, 0, 0, 0) := rfl
theorem xi_30_12 : xm_ins 30 12 = some (.istore_n 3, 13, 3, 0, 0) := rfl
theorem xi_30_13 : xm_ins 30 13 = some (.aload_n 0, 14, 0, 0, 0) := rfl
theorem xi_30_14 : xm_ins 30 14 = some (.getfield 15, 17, 1, 1, 1) := rfl
theorem xi_30_17 : xm_ins 30 17 = some (.iload_n 3, 18, 3, 0, 0) := rfl
theorem xi_30_18 : xm_ins 30 18 = some (.iaload, 19, 0, 0, 0) := rfl
theorem xi_30_19 : xm_ins 30 19 = some (.iconst (-1), 20, 0, 0, (-1)) := rfl
theorem xi_30_20 : xm_ins 30 20 = some (.if_icmp .ne 5, 23, 25, 0, 0) := rfl
theorem xi_30_23 : xm_ins 30 23 = some (.iload_n 3, 24, 3, 0, 0) := rfl
theorem xi_30_24 : xm_ins 30 24 = some (.ireturn, 25, 0, 0, 0) := rfl
theorem xi_30_25 : xm_ins 30 25 = some (.iinc 2 1, 28, 2, 0, 1) := rfl
theorem xi_30_28 : xm_ins 30 28 = some (.goto (-26), 31, 2, 0, 0) := rfl
theorem xi_30_31 : xm_ins 30 31 = some (.iconst (-1), 32, 0, 0, (-1)) := rfl
theorem xi_30_32 : xm_ins 30 32 = some (.ireturn, 33, 0, 0, 0) := rfl
theorem xn_31 (pc : Nat) : xm_ins 31 pc = xm_find xt_31 pc := rfl
theorem xi_31_0 : xm_ins 31 0 = some (.iload_n 0, 1, 0, 0, 0) := rfl
theorem xi_31_1 : xm_ins 31 1 = some (.ifCond .lt 12, 4, 13, 0, 0) := rfl
theorem xi_31_4 : xm_ins 31 4 = some (.iload_n 0, 5, 0, 0, 0) := rfl
theorem xi_31_5 : xm_ins 31 5 = some (.iconst 4, 6, 0, 0, 4) := rfl
theorem xi_31_6 : xm_ins 31 6 = some (.if_icmp .ge 7, 9, 13, 0, 0) := rfl
theorem xi_31_9 : xm_ins 31 9 = some (.iconst 1, 10, 0, 0, 1) := rfl
theorem xi_31_10 : xm_ins 31 10 = some (.goto 4, 13, 14, 0, 0) := rfl
theorem xi_31_13 : xm_ins 31 13 = some (.iconst 0, 14, 0, 0, 0) := rfl
theorem xi_31_14 : xm_ins 31 14 = some (.ireturn, 15, 0, 0, 0) := rfl
theorem xn_32 (pc : Nat) : xm_ins 32 pc = xm_find xt_32 pc := rfl
theorem xi_32_0 : xm_ins 32 0 = some (.iload_n 0, 1, 0, 0, 0) := rfl
theorem xi_32_1 : xm_ins 32 1 = some (.ifCond .lt 12, 4, 13, 0, 0) := rfl
theorem xi_32_4 : xm_ins 32 4 = some (.iload_n 0, 5, 0, 0, 0) := rfl
theorem xi_32_5 : xm_ins 32 5 = some (.iconst 3, 6, 0, 0, 3) := rfl
theorem xi_32_6 : xm_ins 32 6 = some (.if_icmp .ge 7, 9, 13, 0, 0) := rfl
theorem xi_32_9 : xm_ins 32 9 = some (.iconst 1, 10, 0, 0, 1) := rfl
theorem xi_32_10 : xm_ins 32 10 = some (.goto 4, 13, 14, 0, 0) := rfl
theorem xi_32_13 : xm_ins 32 13 = some (.iconst 0, 14, 0, 0, 0) := rfl
theorem xi_32_14 : xm_ins 32 14 = some (.ireturn, 15, 0, 0, 0) := rfl
theorem xn_33 (pc : Nat) : xm_ins 33 pc = xm_find xt_33 pc := rfl
theorem xi_33_0 : xm_ins 33 0 = some (.iload_n 1, 1, 1, 0, 0) := rfl
theorem xi_33_1 : xm_ins 33 1 = some (.ifCond .lt 21, 4, 22, 0, 0) := rfl
theorem xi_33_4 : xm_ins 33 4 = some (.iload_n 1, 5, 1, 0, 0) := rfl
theorem xi_33_5 : xm_ins 33 5 = some (.bipush 30, 7, 0, 0, 30) := rfl
theorem xi_33_7 : xm_ins 33 7 = some (.if_icmp .ge 15, 10, 22, 0, 0) := rfl
theorem xi_33_10 : xm_ins 33 10 = some (.iload_n 1, 11, 1, 0, 0) := rfl
theorem xi_33_11 : xm_ins 33 11 = some (.aload_n 0, 12, 0, 0, 0) := rfl
theorem xi_33_12 : xm_ins 33 12 = some (.getfield 34, 15, 1, 7, 0) := rfl
theorem xi_33_15 : xm_ins 33 15 = some (.if_icmp .ge 7, 18, 22, 0, 0) := rfl
theorem xi_33_18 : xm_ins 33 18 = some (.iconst 1, 19, 0, 0, 1) := rfl
theorem xi_33_19 : xm_ins 33 19 = some (.goto 4, 22, 23, 0, 0) := rfl
theorem xi_33_22 : xm_ins 33 22 = some (.iconst 0, 23, 0, 0, 0) := rfl
theorem xi_33_23 : xm_ins 33 23 = some (.ireturn, 24, 0, 0, 0) := rfl
theorem xn_34 (pc : Nat) : xm_ins 34 pc = xm_find xt_34 pc := rfl
theorem xi_34_0 : xm_ins 34 0 = some (.iload_n 1, 1, 1, 0, 0) := rfl
theorem xi_34_1 : xm_ins 34 1 = some (.ifCond .lt 23, 4, 24, 0, 0) := rfl
theorem xi_34_4 : xm_ins 34 4 = some (.iload_n 1, 5, 1, 0, 0) := rfl
theorem xi_34_5 : xm_ins 34 5 = some (.bipush 30, 7, 0, 0, 30) := rfl
theorem xi_34_7 : xm_ins 34 7 = some (.if_icmp .ge 17, 10, 24, 0, 0) := rfl
theorem xi_34_10 : xm_ins 34 10 = some (.aload_n 0, 11, 0, 0, 0) := rfl
theorem xi_34_11 : xm_ins 34 11 = some (.getfield 18, 14, 1, 2, 1) := rfl
theorem xi_34_14 : xm_ins 34 14 = some (.iload_n 1, 15, 1, 0, 0) := rfl
theorem xi_34_15 : xm_ins 34 15 = some (.iaload, 16, 0, 0, 0) := rfl
theorem xi_34_16 : xm_ins 34 16 = some (.iconst (-1), 17, 0, 0, (-1)) := rfl
theorem xi_34_17 : xm_ins 34 17 = some (.if_icmp .eq 7, 20, 24, 0, 0) := rfl
theorem xi_34_20 : xm_ins 34 20 = some (.iconst 1, 21, 0, 0, 1) := rfl
theorem xi_34_21 : xm_ins 34 21 = some (.goto 4, 24, 25, 0, 0) := rfl
theorem xi_34_24 : xm_ins 34 24 = some (.iconst 0, 25, 0, 0, 0) := rfl
theorem xi_34_25 : xm_ins 34 25 = some (.ireturn, 26, 0, 0, 0) := rfl
theorem xn_35 (pc : Nat) : xm_ins 35 pc = xm_find xt_35 pc := rfl
theorem xi_35_0 : xm_ins 35 0 = some (.aload_n 0, 1, 0, 0, 0) := rfl
theorem xi_35_1 : xm_ins 35 1 = some (.iload_n 1, 2, 1, 0, 0) := rfl
theorem xi_35_2 : xm_ins 35 2 = some (.invokevirtual 70, 5, 34, 2, 1) := rfl
theorem xi_35_5 : xm_ins 35 5 = some (.ifCond .ne 5, 8, 10, 0, 0) := rfl
theorem xi_35_8 : xm_ins 35 8 = some (.iconst (-1), 9, 0, 0, (-1)) := rfl
theorem xi_35_9 : xm_ins 35 9 = some (.ireturn, 10, 0, 0, 0) := rfl
theorem xi_35_10 : xm_ins 35 10 = some (.aload_n 0, 11, 0, 0, 0) := rfl
theorem xi_35_11 : xm_ins 35 11 = some (.getfield 18, 14, 1, 2, 1) := rfl
theorem xi_35_14 : xm_ins 35 14 = some (.iload_n 1, 15, 1, 0, 0) := rfl
theorem xi_35_15 : xm_ins 35 15 = some (.iaload, 16, 0, 0, 0) := rfl
theorem xi_35_16 : xm_ins 35 16 = some (.iconst 5, 17, 0, 0, 5) := rfl
theorem xi_35_17 : xm_ins 35 17 = some (.idiv, 18, 0, 0, 0) := rfl
theorem xi_35_18 : xm_ins 35 18 = some (.bipush 10, 20, 0, 0, 10) := rfl
theorem xi_35_20 : xm_ins 35 20 = some (.imul, 21, 0, 0, 0) := rfl
theorem xi_35_21 : xm_ins 35 21 = some (.aload_n 0, 22, 0, 0, 0) := rfl
theorem xi_35_22 : xm_ins 35 22 = some (.getfield 18, 25, 1, 2, 1) := rfl
theorem xi_35_25 : xm_ins 35 25 = some (.iload_n 1, 26, 1, 0, 0) := rfl
theorem xi_35_26 : xm_ins 35 26 = some (.iaload, 27, 0, 0, 0) := rfl
theorem xi_35_27 : xm_ins 35 27 = some (.iconst 5, 28, 0, 0, 5) := rfl
theorem xi_35_28 : xm_ins 35 28 = some (.irem, 29, 0, 0, 0) := rfl
theorem xi_35_29 : xm_ins 35 29 = some (.iadd, 30, 0, 0, 0) := rfl
theorem xi_35_30 : xm_ins 35 30 = some (.ireturn, 31, 0, 0, 0) := rfl
theorem xn_36 (pc : Nat) : xm_ins 36 pc = xm_find xt_36 pc := rfl
theorem xi_36_0 : xm_ins 36 0 = some (.aload_n 0, 1, 0, 0, 0) := rfl
theorem xi_36_1 : xm_ins 36 1 = some (.iload_n 1, 2, 1, 0, 0) := rfl
theorem xi_36_2 : xm_ins 36 2 = some (.invokevirtual 70, 5, 34, 2, 1) := rfl
theorem xi_36_5 : xm_ins 36 5 = some (.ifCond .eq 19, 8, 24, 0, 0) := rfl
theorem xi_36_8 : xm_ins 36 8 = some (.aload_n 0, 9, 0, 0, 0) := rfl
theorem xi_36_9 : xm_ins 36 9 = some (.getfield 9, 12, 1, 0, 1) := rfl
theorem xi_36_12 : xm_ins 36 12 = some (.aload_n 0, 13, 0, 0, 0) := rfl
theorem xi_36_13 : xm_ins 36 13 = some (.getfield 18, 16, 1, 2, 1) := rfl
theorem xi_36_16 : xm_ins 36 16 = some (.iload_n 1, 17, 1, 0, 0) := rfl
theorem xi_36_17 : xm_ins 36 17 = some (.iaload, 18, 0, 0, 0) := rfl
theorem xi_36_18 : xm_ins 36 18 = some (.iconst 5, 19, 0, 0, 5) := rfl
theorem xi_36_19 : xm_ins 36 19 = some (.idiv, 20, 0, 0, 0) := rfl
theorem xi_36_20 : xm_ins 36 20 = some (.iaload, 21, 0, 0, 0) := rfl
theorem xi_36_21 : xm_ins 36 21 = some (.goto 4, 24, 25, 0, 0) := rfl
theorem xi_36_24 : xm_ins 36 24 = some (.iconst (-1), 25, 0, 0, (-1)) := rfl
theorem xi_36_25 : xm_ins 36 25 = some (.ireturn, 26, 0, 0, 0) := rfl
theorem xn_37 (pc : Nat) : xm_ins 37 pc = xm_find xt_37 pc := rfl
theorem xi_37_0 : xm_ins 37 0 = some (.aload_n 0, 1, 0, 0, 0) := rfl
theorem xi_37_1 : xm_ins 37 1 = some (.iload_n 1, 2, 1, 0, 0) := rfl
theorem xi_37_2 : xm_ins 37 2 = some (.invokevirtual 134, 5, 33, 2, 1) := rfl
theorem xi_37_5 : xm_ins 37 5 = some (.ifCond .eq 12, 8, 17, 0, 0) := rfl
theorem xi_37_8 : xm_ins 37 8 = some (.aload_n 0, 9, 0, 0, 0) := rfl
theorem xi_37_9 : xm_ins 37 9 = some (.getfield 24, 12, 1, 4, 1) := rfl
theorem xi_37_12 : xm_ins 37 12 = some (.iload_n 1, 13, 1, 0, 0) := rfl
theorem xi_37_13 : xm_ins 37 13 = some (.iaload, 14, 0, 0, 0) := rfl
theorem xi_37_14 : xm_ins 37 14 = some (.goto 4, 17, 18, 0, 0) := rfl
theorem xi_37_17 : xm_ins 37 17 = some (.iconst 0, 18, 0, 0, 0) := rfl
theorem xi_37_18 : xm_ins 37 18 = some (.ireturn, 19, 0, 0, 0) := rfl
theorem xn_38 (pc : Nat) : xm_ins 38 pc = xm_find xt_38 pc := rfl
theorem xi_38_0 : xm_ins 38 0 = some (.aload_n 0, 1, 0, 0, 0) := rfl
theorem xi_38_1 : xm_ins 38 1 = some (.iload_n 1, 2, 1, 0, 0) := rfl
theorem xi_38_2 : xm_ins 38 2 = some (.invokevirtual 134, 5, 33, 2, 1) := rfl
theorem xi_38_5 : xm_ins 38 5 = some (.ifCond .eq 10, 8, 15, 0, 0) := rfl
theorem xi_38_8 : xm_ins 38 8 = some (.iload_n 2, 9, 2, 0, 0) := rfl
theorem xi_38_9 : xm_ins 38 9 = some (.invokestatic 78, 12, 32, 1, 1) := rfl
theorem xi_38_12 : xm_ins 38 12 = some (.ifCond .ne 5, 15, 17, 0, 0) := rfl
theorem xi_38_15 : xm_ins 38 15 = some (.iconst (-1), 16, 0, 0, (-1)) := rfl
theorem xi_38_16 : xm_ins 38 16 = some (.ireturn, 17, 0, 0, 0) := rfl
theorem xi_38_17 : xm_ins 38 17 = some (.aload_n 0, 18, 0, 0, 0) := rfl
theorem xi_38_18 : xm_ins 38 18 = some (.getfield 21, 21, 1, 3, 1) := rfl
theorem xi_38_21 : xm_ins 38 21 = some (.iload_n 1, 22, 1, 0, 0) := rfl
theorem xi_38_22 : xm_ins 38 22 = some (.iconst 3, 23, 0, 0, 3) := rfl
theorem xi_38_23 : xm_ins 38 23 = some (.imul, 24, 0, 0, 0) := rfl
theorem xi_38_24 : xm_ins 38 24 = some (.iload_n 2, 25, 2, 0, 0) := rfl
theorem xi_38_25 : xm_ins 38 25 = some (.iadd, 26, 0, 0, 0) := rfl
theorem xi_38_26 : xm_ins 38 26 = some (.iaload, 27, 0, 0, 0) := rfl
theorem xi_38_27 : xm_ins 38 27 = some (.ireturn, 28, 0, 0, 0) := rfl
theorem xn_39 (pc : Nat) : xm_ins 39 pc = xm_find xt_39 pc := rfl
theorem xi_39_0 : xm_ins 39 0 = some (.aload_n 0, 1, 0, 0, 0) := rfl
theorem xi_39_1 : xm_ins 39 1 = some (.iload_n 1, 2, 1, 0, 0) := rfl
theorem xi_39_2 : xm_ins 39 2 = some (.iload_n 2, 3, 2, 0, 0) := rfl
theorem xi_39_3 : xm_ins 39 3 = some (.invokevirtual 85, 6, 38, 3, 1) := rfl
theorem xi_39_6 : xm_ins 39 6 = some (.istore_n 3, 7, 3, 0, 0) := rfl
theorem xi_39_7 : xm_ins 39 7 = some (.iload_n 3, 8, 3, 0, 0) := rfl
theorem xi_39_8 : xm_ins 39 8 = some (.iconst (-1), 9, 0, 0, (-1)) := rfl
theorem xi_39_9 : xm_ins 39 9 = some (.if_icmp .eq 20, 12, 29, 0, 0) := rfl
theorem xi_39_12 : xm_ins 39 12 = some (.aload_n 0, 13, 0, 0, 0) := rfl
theorem xi_39_13 : xm_ins 39 13 = some (.iload_n 3, 14, 3, 0, 0) := rfl
theorem xi_39_14 : xm_ins 39 14 = some (.invokevirtual 137, 17, 36, 2, 1) := rfl
theorem xi_39_17 : xm_ins 39 17 = some (.aload_n 0, 18, 0, 0, 0) := rfl
theorem xi_39_18 : xm_ins 39 18 = some (.iload_n 1, 19, 1, 0, 0) := rfl
theorem xi_39_19 : xm_ins 39 19 = some (.invokevirtual 137, 22, 36, 2, 1) := rfl
theorem xi_39_22 : xm_ins 39 22 = some (.if_icmp .ge 7, 25, 29, 0, 0) := rfl
theorem xi_39_25 : xm_ins 39 25 = some (.iconst 1, 26, 0, 0, 1) := rfl
theorem xi_39_26 : xm_ins 39 26 = some (.goto 4, 29, 30, 0, 0) := rfl
theorem xi_39_29 : xm_ins 39 29 = some (.iconst 0, 30, 0, 0, 0) := rfl
theorem xi_39_30 : xm_ins 39 30 = some (.ireturn, 31, 0, 0, 0) := rfl
theorem xn_40 (pc : Nat) : xm_ins 40 pc = xm_find xt_40 pc := rfl
theorem xi_40_0 : xm_ins 40 0 = some (.iconst 0, 1, 0, 0, 0) := rfl
theorem xi_40_1 : xm_ins 40 1 = some (.istore_n 2, 2, 2, 0, 0) := rfl
theorem xi_40_2 : xm_ins 40 2 = some (.iconst 0, 3, 0, 0, 0) := rfl
theorem xi_40_3 : xm_ins 40 3 = some (.istore_n 3, 4, 3, 0, 0) := rfl
theorem xi_40_4 : xm_ins 40 4 = some (.iload_n 3, 5, 3, 0, 0) := rfl
theorem xi_40_5 : xm_ins 40 5 = some (.iconst 4, 6, 0, 0, 4) := rfl
theorem xi_40_6 : xm_ins 40 6 = some (.if_icmp .ge 25, 9, 31, 0, 0) := rfl
theorem xi_40_9 : xm_ins 40 9 = some (.aload_n 0, 10, 0, 0, 0) := rfl
theorem xi_40_10 : xm_ins 40 10 = some (.getfield 27, 13, 1, 5, 1) := rfl
theorem xi_40_13 : xm_ins 40 13 = some (.iload_n 3, 14, 3, 0, 0) := rfl
theorem xi_40_14 : xm_ins 40 14 = some (.iaload, 15, 0, 0, 0) := rfl
theorem xi_40_15 : xm_ins 40 15 = some (.iload_n 1, 16, 1, 0, 0) := rfl
theorem xi_40_16 : xm_ins 40 16 = some (.if_icmp .ne 9, 19, 25, 0, 0) := rfl
theorem xi_40_19 : xm_ins 40 19 = some (.iload_n 2, 20, 2, 0, 0) := rfl
theorem xi_40_20 : xm_ins 40 20 = some (.iconst 1, 21, 0, 0, 1) := rfl
theorem xi_40_21 : xm_ins 40 21 = some (.iload_n 3, 22, 3, 0, 0) := rfl
theorem xi_40_22 : xm_ins 40 22 = some (.ishl, 23, 0, 0, 0) := rfl
theorem xi_40_23 : xm_ins 40 23 = some (.ior, 24, 0, 0, 0) := rfl
theorem xi_40_24 : xm_ins 40 24 = some (.istore_n 2, 25, 2, 0, 0) := rfl
theorem xi_40_25 : xm_ins 40 25 = some (.iinc 3 1, 28, 3, 0, 1) := rfl
theorem xi_40_28 : xm_ins 40 28 = some (.goto (-24), 31, 4, 0, 0) := rfl
theorem xi_40_31 : xm_ins 40 31 = some (.iload_n 2, 32, 2, 0, 0) := rfl
theorem xi_40_32 : xm_ins 40 32 = some (.ireturn, 33, 0, 0, 0) := rfl
theorem xn_41 (pc : Nat) : xm_ins 41 pc = xm_find xt_41 pc := rfl
theorem xi_41_0 : xm_ins 41 0 = some (.iconst 0, 1, 0, 0, 0) := rfl
theorem xi_41_1 : xm_ins 41 1 = some (.istore_n 2, 2, 2, 0, 0) := rfl
theorem xi_41_2 : xm_ins 41 2 = some (.iconst 0, 3, 0, 0, 0) := rfl
theorem xi_41_3 : xm_ins 41 3 = some (.istore_n 3, 4, 3, 0, 0) := rfl
theorem xi_41_4 : xm_ins 41 4 = some (.iload_n 3, 5, 3, 0, 0) := rfl
theorem xi_41_5 : xm_ins 41 5 = some (.bipush 30, 7, 0, 0, 30) := rfl
theorem xi_41_7 : xm_ins 41 7 = some (.if_icmp .ge 45, 10, 52, 0, 0) := rfl
theorem xi_41_10 : xm_ins 41 10 = some (.iconst 0, 11, 0, 0, 0) := rfl
theorem xi_41_11 : xm_ins 41 11 = some (.istore 4, 13, 4, 0, 0) := rfl
theorem xi_41_13 : xm_ins 41 13 = some (.iload 4, 15, 4, 0, 0) := rfl
theorem xi_41_15 : xm_ins 41 15 = some (.iconst 3, 16, 0, 0, 3) := rfl
theorem xi_41_16 : xm_ins 41 16 = some (.if_icmp .ge 30, 19, 46, 0, 0) := rfl
theorem xi_41_19 : xm_ins 41 19 = some (.aload_n 0, 20, 0, 0, 0) := rfl
theorem xi_41_20 : xm_ins 41 20 = some (.getfield 21, 23, 1, 3, 1) := rfl
theorem xi_41_23 : xm_ins 41 23 = some (.iload_n 3, 24, 3, 0, 0) := rfl
theorem xi_41_24 : xm_ins 41 24 = some (.iconst 3, 25, 0, 0, 3) := rfl
theorem xi_41_25 : xm_ins 41 25 = some (.imul, 26, 0, 0, 0) := rfl
theorem xi_41_26 : xm_ins 41 26 = some (.iload 4, 28, 4, 0, 0) := rfl
theorem xi_41_28 : xm_ins 41 28 = some (.iadd, 29, 0, 0, 0) := rfl
theorem xi_41_29 : xm_ins 41 29 = some (.iaload, 30, 0, 0, 0) := rfl
theorem xi_41_30 : xm_ins 41 30 = some (.iload_n 1, 31, 1, 0, 0) := rfl
theorem xi_41_31 : xm_ins 41 31 = some (.if_icmp .ne 9, 34, 40, 0, 0) := rfl
theorem xi_41_34 : xm_ins 41 34 = some (.iload_n 2, 35, 2, 0, 0) := rfl
theorem xi_41_35 : xm_ins 41 35 = some (.iconst 1, 36, 0, 0, 1) := rfl
theorem xi_41_36 : xm_ins 41 36 = some (.iload_n 3, 37, 3, 0, 0) := rfl
theorem xi_41_37 : xm_ins 41 37 = some (.ishl, 38, 0, 0, 0) := rfl
theorem xi_41_38 : xm_ins 41 38 = some (.ior, 39, 0, 0, 0) := rfl
theorem xi_41_39 : xm_ins 41 39 = some (.istore_n 2, 40, 2, 0, 0) := rfl
theorem xi_41_40 : xm_ins 41 40 = some (.iinc 4 1, 43, 4, 0, 1) := rfl
theorem xi_41_43 : xm_ins 41 43 = some (.goto (-30), 46, 13, 0, 0) := rfl
theorem xi_41_46 : xm_ins 41 46 = some (.iinc 3 1, 49, 3, 0, 1) := rfl
theorem xi_41_49 : xm_ins 41 49 = some (.goto (-45), 52, 4, 0, 0) := rfl
theorem xi_41_52 : xm_ins 41 52 = some (.iload_n 2, 53, 2, 0, 0) := rfl
theorem xi_41_53 : xm_ins 41 53 = some (.ireturn, 54, 0, 0, 0) := rfl
theorem xn_42 (pc : Nat) : xm_ins 42 pc = xm_find xt_42 pc := rfl
theorem xi_42_0 : xm_ins 42 0 = some (.iconst 0, 1, 0, 0, 0) := rfl
theorem xi_42_1 : xm_ins 42 1 = some (.istore_n 2, 2, 2, 0, 0) := rfl
theorem xi_42_2 : xm_ins 42 2 = some (.iload_n 1, 3, 1, 0, 0) := rfl
theorem xi_42_3 : xm_ins 42 3 = some (.ifCond .lt 47, 6, 50, 0, 0) := rfl
theorem xi_42_6 : xm_ins 42 6 = some (.iload_n 1, 7, 1, 0, 0) := rfl
theorem xi_42_7 : xm_ins 42 7 = some (.bipush 8, 9, 0, 0, 8) := rfl
theorem xi_42_9 : xm_ins 42 9 = some (.if_icmp .ge 41, 12, 50, 0, 0) := rfl
theorem xi_42_12 : xm_ins 42 12 = some (.iconst 0, 13, 0, 0, 0) := rfl
theorem xi_42_13 : xm_ins 42 13 = some (.istore_n 3, 14, 3, 0, 0) := rfl
theorem xi_42_14 : xm_ins 42 14 = some (.iload_n 3, 15, 3, 0, 0) := rfl
theorem xi_42_15 : xm_ins 42 15 = some (.iconst 5, 16, 0, 0, 5) := rfl
theorem xi_42_16 : xm_ins 42 16 = some (.if_icmp .ge 34, 19, 50, 0, 0) := rfl
theorem xi_42_19 : xm_ins 42 19 = some (.aload_n 0, 20, 0, 0, 0) := rfl
theorem xi_42_20 : xm_ins 42 20 = some (.getfield 15, 23, 1, 1, 1) := rfl
theorem xi_42_23 : xm_ins 42 23 = some (.iload_n 1, 24, 1, 0, 0) := rfl
theorem xi_42_24 : xm_ins 42 24 = some (.iconst 5, 25, 0, 0, 5) := rfl
theorem xi_42_25 : xm_ins 42 25 = some (.imul, 26, 0, 0, 0) := rfl
theorem xi_42_26 : xm_ins 42 26 = some (.iload_n 3, 27, 3, 0, 0) := rfl
theorem xi_42_27 : xm_ins 42 27 = some (.iadd, 28, 0, 0, 0) := rfl
theorem xi_42_28 : xm_ins 42 28 = some (.iaload, 29, 0, 0, 0) := rfl
theorem xi_42_29 : xm_ins 42 29 = some (.istore 4, 31, 4, 0, 0) := rfl
theorem xi_42_31 : xm_ins 42 31 = some (.iload 4, 33, 4, 0, 0) := rfl
theorem xi_42_33 : xm_ins 42 33 = some (.iconst (-1), 34, 0, 0, (-1)) := rfl
theorem xi_42_34 : xm_ins 42 34 = some (.if_icmp .eq 10, 37, 44, 0, 0) := rfl
theorem xi_42_37 : xm_ins 42 37 = some (.iload_n 2, 38, 2, 0, 0) := rfl
theorem xi_42_38 : xm_ins 42 38 = some (.iconst 1, 39, 0, 0, 1) := rfl
theorem xi_42_39 : xm_ins 42 39 = some (.iload 4, 41, 4, 0, 0) := rfl
theorem xi_42_41 : xm_ins 42 41 = some (.ishl, 42, 0, 0, 0) := rfl
theorem xi_42_42 : xm_ins 42 42 = some (.ior, 43, 0, 0, 0) := rfl
theorem xi_42_43 : xm_ins 42 43 = some (.istore_n 2, 44, 2, 0, 0) := rfl
theorem xi_42_44 : xm_ins 42 44 = some (.iinc 3 1, 47, 3, 0, 1) := rfl
theorem xi_42_47 : xm_ins 42 47 = some (.goto (-33), 50, 14, 0, 0) := rfl
theorem xi_42_50 : xm_ins 42 50 = some (.iload_n 2, 51, 2, 0, 0) := rfl
theorem xi_42_51 : xm_ins 42 51 = some (.ireturn, 52, 0, 0, 0) := rfl
theorem xn_43 (pc : Nat) : xm_ins 43 pc = xm_find xt_43 pc := rfl
theorem xi_43_0 : xm_ins 43 0 = some (.iconst 0, 1, 0, 0, 0) := rfl
theorem xi_43_1 : xm_ins 43 1 = some (.istore_n 1, 2, 1, 0, 0) := rfl
theorem xi_43_2 : xm_ins 43 2 = some (.iconst 0, 3, 0, 0, 0) := rfl
theorem xi_43_3 : xm_ins 43 3 = some (.istore_n 2, 4, 2, 0, 0) := rfl
theorem xi_43_4 : xm_ins 43 4 = some (.iload_n 2, 5, 2, 0, 0) := rfl
theorem xi_43_5 : xm_ins 43 5 = some (.iconst 4, 6, 0, 0, 4) := rfl
theorem xi_43_6 : xm_ins 43 6 = some (.if_icmp .ge 22, 9, 28, 0, 0) := rfl
theorem xi_43_9 : xm_ins 43 9 = some (.aload_n 0, 10, 0, 0, 0) := rfl
theorem xi_43_10 : xm_ins 43 10 = some (.getfield 27, 13, 1, 5, 1) := rfl
theorem xi_43_13 : xm_ins 43 13 = some (.iload_n 2, 14, 2, 0, 0) := rfl
theorem xi_43_14 : xm_ins 43 14 = some (.iaload, 15, 0, 0, 0) := rfl
theorem xi_43_15 : xm_ins 43 15 = some (.iconst (-1), 16, 0, 0, (-1)) := rfl
theorem xi_43_16 : xm_ins 43 16 = some (.if_icmp .eq 6, 19, 22, 0, 0) := rfl
theorem xi_43_19 : xm_ins 43 19 = some (.iinc 1 1, 22, 1, 0, 1) := rfl
theorem xi_43_22 : xm_ins 43 22 = some (.iinc 2 1, 25, 2, 0, 1) := rfl
theorem xi_43_25 : xm_ins 43 25 = some (.goto (-21), 28, 4, 0, 0) := rfl
theorem xi_43_28 : xm_ins 43 28 = some (.iload_n 1, 29, 1, 0, 0) := rfl
theorem xi_43_29 : xm_ins 43 29 = some (.ireturn, 30, 0, 0, 0) := rfl
theorem xn_44 (pc : Nat) : xm_ins 44 pc = xm_find xt_44 pc := rfl
theorem xi_44_0 : xm_ins 44 0 = some (.iconst 0, 1, 0, 0, 0) := rfl
theorem xi_44_1 : xm_ins 44 1 = some (.istore_n 1, 2, 1, 0, 0) := rfl
theorem xi_44_2 : xm_ins 44 2 = some (.iconst 0, 3, 0, 0, 0) := rfl
theorem xi_44_3 : xm_ins 44 3 = some (.istore_n 2, 4, 2, 0, 0) := rfl
theorem xi_44_4 : xm_ins 44 4 = some (.iload_n 2, 5, 2, 0, 0) := rfl
theorem xi_44_5 : xm_ins 44 5 = some (.bipush 8, 7, 0, 0, 8) := rfl
theorem xi_44_7 : xm_ins 44 7 = some (.if_icmp .ge 22, 10, 29, 0, 0) := rfl
theorem xi_44_10 : xm_ins 44 10 = some (.aload_n 0, 11, 0, 0, 0) := rfl
theorem xi_44_11 : xm_ins 44 11 = some (.getfield 9, 14, 1, 0, 1) := rfl
theorem xi_44_14 : xm_ins 44 14 = some (.iload_n 2, 15, 2, 0, 0) := rfl
theorem xi_44_15 : xm_ins 44 15 = some (.iaload, 16, 0, 0, 0) := rfl
theorem xi_44_16 : xm_ins 44 16 = some (.iconst (-1), 17, 0, 0, (-1)) := rfl
theorem xi_44_17 : xm_ins 44 17 = some (.if_icmp .ne 6, 20, 23, 0, 0) := rfl
theorem xi_44_20 : xm_ins 44 20 = some (.iinc 1 1, 23, 1, 0, 1) := rfl
theorem xi_44_23 : xm_ins 44 23 = some (.iinc 2 1, 26, 2, 0, 1) := rfl
theorem xi_44_26 : xm_ins 44 26 = some (.goto (-22), 29, 4, 0, 0) := rfl
theorem xi_44_29 : xm_ins 44 29 = some (.iload_n 1, 30, 1, 0, 0) := rfl
theorem xi_44_30 : xm_ins 44 30 = some (.ireturn, 31, 0, 0, 0) := rfl
theorem xn_45 (pc : Nat) : xm_ins 45 pc = xm_find xt_45 pc := rfl
theorem xi_45_0 : xm_ins 45 0 = some (.iconst 0, 1, 0, 0, 0) := rfl
theorem xi_45_1 : xm_ins 45 1 = some (.istore_n 1, 2, 1, 0, 0) := rfl
theorem xi_45_2 : xm_ins 45 2 = some (.iconst 0, 3, 0, 0, 0) := rfl
theorem xi_45_3 : xm_ins 45 3 = some (.istore_n 2, 4, 2, 0, 0) := rfl
theorem xi_45_4 : xm_ins 45 4 = some (.iload_n 2, 5, 2, 0, 0) := rfl
theorem xi_45_5 : xm_ins 45 5 = some (.bipush 30, 7, 0, 0, 30) := rfl
theorem xi_45_7 : xm_ins 45 7 = some (.if_icmp .ge 34, 10, 41, 0, 0) := rfl
theorem xi_45_10 : xm_ins 45 10 = some (.iconst 0, 11, 0, 0, 0) := rfl
theorem xi_45_11 : xm_ins 45 11 = some (.istore_n 3, 12, 3, 0, 0) := rfl
theorem xi_45_12 : xm_ins 45 12 = some (.iload_n 3, 13, 3, 0, 0) := rfl
theorem xi_45_13 : xm_ins 45 13 = some (.iconst 3, 14, 0, 0, 3) := rfl
theorem xi_45_14 : xm_ins 45 14 = some (.if_icmp .ge 21, 17, 35, 0, 0) := rfl
theorem xi_45_17 : xm_ins 45 17 = some (.aload_n 0, 18, 0, 0, 0) := rfl
theorem xi_45_18 : xm_ins 45 18 = some (.iload_n 2, 19, 2, 0, 0) := rfl
theorem xi_45_19 : xm_ins 45 19 = some (.iload_n 3, 20, 3, 0, 0) := rfl
theorem xi_45_20 : xm_ins 45 20 = some (.invokevirtual 81, 23, 39, 3, 1) := rfl
theorem xi_45_23 : xm_ins 45 23 = some (.ifCond .eq 6, 26, 29, 0, 0) := rfl
theorem xi_45_26 : xm_ins 45 26 = some (.iinc 1 1, 29, 1, 0, 1) := rfl
theorem xi_45_29 : xm_ins 45 29 = some (.iinc 3 1, 32, 3, 0, 1) := rfl
theorem xi_45_32 : xm_ins 45 32 = some (.goto (-20), 35, 12, 0, 0) := rfl
theorem xi_45_35 : xm_ins 45 35 = some (.iinc 2 1, 38, 2, 0, 1) := rfl
theorem xi_45_38 : xm_ins 45 38 = some (.goto (-34), 41, 4, 0, 0) := rfl
theorem xi_45_41 : xm_ins 45 41 = some (.iload_n 1, 42, 1, 0, 0) := rfl
theorem xi_45_42 : xm_ins 45 42 = some (.ireturn, 43, 0, 0, 0) := rfl
theorem xn_46 (pc : Nat) : xm_ins 46 pc = xm_find xt_46 pc := rfl
theorem xi_46_0 : xm_ins 46 0 = some (.aload_n 0, 1, 0, 0, 0) := rfl
theorem xi_46_1 : xm_ins 46 1 = some (.iload_n 1, 2, 1, 0, 0) := rfl
theorem xi_46_2 : xm_ins 46 2 = some (.iload_n 1, 3, 1, 0, 0) := rfl
theorem xi_46_3 : xm_ins 46 3 = some (.invokevirtual 140, 6, 49, 3, 1) := rfl
theorem xi_46_6 : xm_ins 46 6 = some (.ireturn, 7, 0, 0, 0) := rfl
theorem xn_47 (pc : Nat) : xm_ins 47 pc = xm_find xt_47 pc := rfl
theorem xi_47_0 : xm_ins 47 0 = some (.aload_n 0, 1, 0, 0, 0) := rfl
theorem xi_47_1 : xm_ins 47 1 = some (.iconst 0, 2, 0, 0, 0) := rfl
theorem xi_47_2 : xm_ins 47 2 = some (.iconst 2, 3, 0, 0, 2) := rfl
theorem xi_47_3 : xm_ins 47 3 = some (.invokevirtual 140, 6, 49, 3, 1) := rfl
theorem xi_47_6 : xm_ins 47 6 = some (.ireturn, 7, 0, 0, 0) := rfl
theorem xn_48 (pc : Nat) : xm_ins 48 pc = xm_find xt_48 pc := rfl
theorem xi_48_0 : xm_ins 48 0 = some (.aload_n 0, 1, 0, 0, 0) := rfl
theorem xi_48_1 : xm_ins 48 1 = some (.iconst 0, 2, 0, 0, 0) := rfl
theorem xi_48_2 : xm_ins 48 2 = some (.iload_n 1, 3, 1, 0, 0) := rfl
theorem xi_48_3 : xm_ins 48 3 = some (.invokevirtual 140, 6, 49, 3, 1) := rfl
theorem xi_48_6 : xm_ins 48 6 = some (.ireturn, 7, 0, 0, 0) := rfl
theorem xn_49 (pc : Nat) : xm_ins 49 pc = xm_find xt_49 pc := rfl
theorem xi_49_0 : xm_ins 49 0 = some (.iconst 0, 1, 0, 0, 0) := rfl
theorem xi_49_1 : xm_ins 49 1 = some (.istore_n 3, 2, 3, 0, 0) := rfl
theorem xi_49_2 : xm_ins 49 2 = some (.iconst 0, 3, 0, 0, 0) := rfl
theorem xi_49_3 : xm_ins 49 3 = some (.istore 4, 5, 4, 0, 0) := rfl
theorem xi_49_5 : xm_ins 49 5 = some (.iload 4, 7, 4, 0, 0) := rfl
theorem xi_49_7 : xm_ins 49 7 = some (.bipush 30, 9, 0, 0, 30) := rfl
theorem xi_49_9 : xm_ins 49 9 = some (.if_icmp .ge 54, 12, 63, 0, 0) := rfl
theorem xi_49_12 : xm_ins 49 12 = some (.aload_n 0, 13, 0, 0, 0) := rfl
theorem xi_49_13 : xm_ins 49 13 = some (.getfield 18, 16, 1, 2, 1) := rfl
theorem xi_49_16 : xm_ins 49 16 = some (.iload 4, 18, 4, 0, 0) := rfl
theorem xi_49_18 : xm_ins 49 18 = some (.iaload, 19, 0, 0, 0) := rfl
theorem xi_49_19 : xm_ins 49 19 = some (.istore 5, 21, 5, 0, 0) := rfl
theorem xi_49_21 : xm_ins 49 21 = some (.iload 5, 23, 5, 0, 0) := rfl
theorem xi_49_23 : xm_ins 49 23 = some (.iconst (-1), 24, 0, 0, (-1)) := rfl
theorem xi_49_24 : xm_ins 49 24 = some (.if_icmp .eq 33, 27, 57, 0, 0) := rfl
theorem xi_49_27 : xm_ins 49 27 = some (.aload_n 0, 28, 0, 0, 0) := rfl
theorem xi_49_28 : xm_ins 49 28 = some (.getfield 9, 31, 1, 0, 1) := rfl
theorem xi_49_31 : xm_ins 49 31 = some (.iload 5, 33, 5, 0, 0) := rfl
theorem xi_49_33 : xm_ins 49 33 = some (.iconst 5, 34, 0, 0, 5) := rfl
theorem xi_49_34 : xm_ins 49 34 = some (.idiv, 35, 0, 0, 0) := rfl
theorem xi_49_35 : xm_ins 49 35 = some (.iaload, 36, 0, 0, 0) := rfl
theorem xi_49_36 : xm_ins 49 36 = some (.istore 6, 38, 6, 0, 0) := rfl
theorem xi_49_38 : xm_ins 49 38 = some (.iload 6, 40, 6, 0, 0) := rfl
theorem xi_49_40 : xm_ins 49 40 = some (.iload_n 1, 41, 1, 0, 0) := rfl
theorem xi_49_41 : xm_ins 49 41 = some (.if_icmp .lt 16, 44, 57, 0, 0) := rfl
theorem xi_49_44 : xm_ins 49 44 = some (.iload 6, 46, 6, 0, 0) := rfl
theorem xi_49_46 : xm_ins 49 46 = some (.iload_n 2, 47, 2, 0, 0) := rfl
theorem xi_49_47 : xm_ins 49 47 = some (.if_icmp .gt 10, 50, 57, 0, 0) := rfl
theorem xi_49_50 : xm_ins 49 50 = some (.iload_n 3, 51, 3, 0, 0) := rfl
theorem xi_49_51 : xm_ins 49 51 = some (.iconst 1, 52, 0, 0, 1) := rfl
theorem xi_49_52 : xm_ins 49 52 = some (.iload 4, 54, 4, 0, 0) := rfl
theorem xi_49_54 : xm_ins 49 54 = some (.ishl, 55, 0, 0, 0) := rfl
theorem xi_49_55 : xm_ins 49 55 = some (.ior, 56, 0, 0, 0) := rfl
theorem xi_49_56 : xm_ins 49 56 = some (.istore_n 3, 57, 3, 0, 0) := rfl
theorem xi_49_57 : xm_ins 49 57 = some (.iinc 4 1, 60, 4, 0, 1) := rfl
theorem xi_49_60 : xm_ins 49 60 = some (.goto (-55), 63, 5, 0, 0) := rfl
theorem xi_49_63 : xm_ins 49 63 = some (.iload_n 3, 64, 3, 0, 0) := rfl
theorem xi_49_64 : xm_ins 49 64 = some (.ireturn, 65, 0, 0, 0) := rfl
theorem xn_50 (pc : Nat) : xm_ins 50 pc = xm_find xt_50 pc := rfl
theorem xi_50_0 : xm_ins 50 0 = some (.aload_n 0, 1, 0, 0, 0) := rfl
theorem xi_50_1 : xm_ins 50 1 = some (.getfield 30, 4, 1, 6, 0) := rfl
theorem xi_50_4 : xm_ins 50 4 = some (.istore_n 1, 5, 1, 0, 0) := rfl
theorem xi_50_5 : xm_ins 50 5 = some (.iconst 0, 6, 0, 0, 0) := rfl
theorem xi_50_6 : xm_ins 50 6 = some (.istore_n 2, 7, 2, 0, 0) := rfl
theorem xi_50_7 : xm_ins 50 7 = some (.iload_n 2, 8, 2, 0, 0) := rfl
theorem xi_50_8 : xm_ins 50 8 = some (.iconst 4, 9, 0, 0, 4) := rfl
theorem xi_50_9 : xm_ins 50 9 = some (.if_icmp .ge 30, 12, 39, 0, 0) := rfl
theorem xi_50_12 : xm_ins 50 12 = some (.aload_n 0, 13, 0, 0, 0) := rfl
theorem xi_50_13 : xm_ins 50 13 = some (.getfield 27, 16, 1, 5, 1) := rfl
theorem xi_50_16 : xm_ins 50 16 = some (.iload_n 2, 17, 2, 0, 0) := rfl
theorem xi_50_17 : xm_ins 50 17 = some (.iaload, 18, 0, 0, 0) := rfl
theorem xi_50_18 : xm_ins 50 18 = some (.iconst (-1), 19, 0, 0, (-1)) := rfl
theorem xi_50_19 : xm_ins 50 19 = some (.if_icmp .eq 14, 22, 33, 0, 0) := rfl
theorem xi_50_22 : xm_ins 50 22 = some (.iload_n 1, 23, 1, 0, 0) := rfl
theorem xi_50_23 : xm_ins 50 23 = some (.iconst 1, 24, 0, 0, 1) := rfl
theorem xi_50_24 : xm_ins 50 24 = some (.aload_n 0, 25, 0, 0, 0) := rfl
theorem xi_50_25 : xm_ins 50 25 = some (.getfield 27, 28, 1, 5, 1) := rfl
theorem xi_50_28 : xm_ins 50 28 = some (.iload_n 2, 29, 2, 0, 0) := rfl
theorem xi_50_29 : xm_ins 50 29 = some (.iaload, 30, 0, 0, 0) := rfl
theorem xi_50_30 : xm_ins 50 30 = some (.ishl, 31, 0, 0, 0) := rfl
theorem xi_50_31 : xm_ins 50 31 = some (.ior, 32, 0, 0, 0) := rfl
theorem xi_50_32 : xm_ins 50 32 = some (.istore_n 1, 33, 1, 0, 0) := rfl
theorem xi_50_33 : xm_ins 50 33 = some (.iinc 2 1, 36, 2, 0, 1) := rfl
theorem xi_50_36 : xm_ins 50 36 = some (.goto (-29), 39, 7, 0, 0) := rfl
theorem xi_50_39 : xm_ins 50 39 = some (.iload_n 1, 40, 1, 0, 0) := rfl
theorem xi_50_40 : xm_ins 50 40 = some (.ireturn, 41, 0, 0, 0) := rfl
theorem xn_51 (pc : Nat) : xm_ins 51 pc = xm_find xt_51 pc := rfl
theorem xi_51_0 : xm_ins 51 0 = some (.aload_n 0, 1, 0, 0, 0) := rfl
theorem xi_51_1 : xm_ins 51 1 = some (.aload_n 0, 2, 0, 0, 0) := rfl
theorem xi_51_2 : xm_ins 51 2 = some (.invokevirtual 143, 5, 50, 1, 1) := rfl
theorem xi_51_5 : xm_ins 51 5 = some (.aload_n 0, 6, 0, 0, 0) := rfl
theorem xi_51_6 : xm_ins 51 6 = some (.invokevirtual 116, 9, 47, 1, 1) := rfl
theorem xi_51_9 : xm_ins 51 9 = some (.invokevirtual 146, 12, 54, 3, 1) := rfl
theorem xi_51_12 : xm_ins 51 12 = some (.ireturn, 13, 0, 0, 0) := rfl
theorem xn_52 (pc : Nat) : xm_ins 52 pc = xm_find xt_52 pc := rfl
theorem xi_52_0 : xm_ins 52 0 = some (.aload_n 0, 1, 0, 0, 0) := rfl
theorem xi_52_1 : xm_ins 52 1 = some (.iload_n 1, 2, 1, 0, 0) := rfl
theorem xi_52_2 : xm_ins 52 2 = some (.invokevirtual 100, 5, 48, 2, 1) := rfl
theorem xi_52_5 : xm_ins 52 5 = some (.istore_n 2, 6, 2, 0, 0) := rfl
theorem xi_52_6 : xm_ins 52 6 = some (.aload_n 0, 7, 0, 0, 0) := rfl
theorem xi_52_7 : xm_ins 52 7 = some (.aload_n 0, 8, 0, 0, 0) := rfl
theorem xi_52_8 : xm_ins 52 8 = some (.invokevirtual 116, 11, 47, 1, 1) := rfl
theorem xi_52_11 : xm_ins 52 11 = some (.iload_n 2, 12, 2, 0, 0) := rfl
theorem xi_52_12 : xm_ins 52 12 = some (.iconst (-1), 13, 0, 0, (-1)) := rfl
theorem xi_52_13 : xm_ins 52 13 = some (.ixor, 14, 0, 0, 0) := rfl
theorem xi_52_14 : xm_ins 52 14 = some (.iand, 15, 0, 0, 0) := rfl
theorem xi_52_15 : xm_ins 52 15 = some (.invokevirtual 149, 18, 53, 2, 1) := rfl
theorem xi_52_18 : xm_ins 52 18 = some (.istore_n 3, 19, 3, 0, 0) := rfl
theorem xi_52_19 : xm_ins 52 19 = some (.aload_n 0, 20, 0, 0, 0) := rfl
theorem xi_52_20 : xm_ins 52 20 = some (.aload_n 0, 21, 0, 0, 0) := rfl
theorem xi_52_21 : xm_ins 52 21 = some (.invokevirtual 143, 24, 50, 1, 1) := rfl
theorem xi_52_24 : xm_ins 52 24 = some (.iload_n 3, 25, 3, 0, 0) := rfl
theorem xi_52_25 : xm_ins 52 25 = some (.ior, 26, 0, 0, 0) := rfl
theorem xi_52_26 : xm_ins 52 26 = some (.iload_n 2, 27, 2, 0, 0) := rfl
theorem xi_52_27 : xm_ins 52 27 = some (.invokevirtual 146, 30, 54, 3, 1) := rfl
theorem xi_52_30 : xm_ins 52 30 = some (.ireturn, 31, 0, 0, 0) := rfl
theorem xn_53 (pc : Nat) : xm_ins 53 pc = xm_find xt_53 pc := rfl
theorem xi_53_0 : xm_ins 53 0 = some (.iconst 0, 1, 0, 0, 0) := rfl
theorem xi_53_1 : xm_ins 53 1 = some (.istore_n 2, 2, 2, 0, 0) := rfl
theorem xi_53_2 : xm_ins 53 2 = some (.iconst 0, 3, 0, 0, 0) := rfl
theorem xi_53_3 : xm_ins 53 3 = some (.istore_n 3, 4, 3, 0, 0) := rfl
theorem xi_53_4 : xm_ins 53 4 = some (.iload_n 3, 5, 3, 0, 0) := rfl
theorem xi_53_5 : xm_ins 53 5 = some (.bipush 30, 7, 0, 0, 30) := rfl
theorem xi_53_7 : xm_ins 53 7 = some (.if_icmp .ge 58, 10, 65, 0, 0) := rfl
theorem xi_53_10 : xm_ins 53 10 = some (.iload_n 1, 11, 1, 0, 0) := rfl
theorem xi_53_11 : xm_ins 53 11 = some (.iload_n 3, 12, 3, 0, 0) := rfl
theorem xi_53_12 : xm_ins 53 12 = some (.ishr, 13, 0, 0, 0) := rfl
theorem xi_53_13 : xm_ins 53 13 = some (.iconst 1, 14, 0, 0, 1) := rfl
theorem xi_53_14 : xm_ins 53 14 = some (.iand, 15, 0, 0, 0) := rfl
theorem xi_53_15 : xm_ins 53 15 = some (.ifCond .eq 44, 18, 59, 0, 0) := rfl
theorem xi_53_18 : xm_ins 53 18 = some (.iconst 0, 19, 0, 0, 0) := rfl
theorem xi_53_19 : xm_ins 53 19 = some (.istore 4, 21, 4, 0, 0) := rfl
theorem xi_53_21 : xm_ins 53 21 = some (.iload 4, 23, 4, 0, 0) := rfl
theorem xi_53_23 : xm_ins 53 23 = some (.iconst 3, 24, 0, 0, 3) := rfl
theorem xi_53_24 : xm_ins 53 24 = some (.if_icmp .ge 35, 27, 59, 0, 0) := rfl
theorem xi_53_27 : xm_ins 53 27 = some (.aload_n 0, 28, 0, 0, 0) := rfl
theorem xi_53_28 : xm_ins 53 28 = some (.getfield 21, 31, 1, 3, 1) := rfl
theorem xi_53_31 : xm_ins 53 31 = some (.iload_n 3, 32, 3, 0, 0) := rfl
theorem xi_53_32 : xm_ins 53 32 = some (.iconst 3, 33, 0, 0, 3) := rfl
theorem xi_53_33 : xm_ins 53 33 = some (.imul, 34, 0, 0, 0) := rfl
theorem xi_53_34 : xm_ins 53 34 = some (.iload 4, 36, 4, 0, 0) := rfl
theorem xi_53_36 : xm_ins 53 36 = some (.iadd, 37, 0, 0, 0) := rfl
theorem xi_53_37 : xm_ins 53 37 = some (.iaload, 38, 0, 0, 0) := rfl
theorem xi_53_38 : xm_ins 53 38 = some (.istore 5, 40, 5, 0, 0) := rfl
theorem xi_53_40 : xm_ins 53 40 = some (.iload 5, 42, 5, 0, 0) := rfl
theorem xi_53_42 : xm_ins 53 42 = some (.iconst (-1), 43, 0, 0, (-1)) := rfl
theorem xi_53_43 : xm_ins 53 43 = some (.if_icmp .eq 10, 46, 53, 0, 0) := rfl
theorem xi_53_46 : xm_ins 53 46 = some (.iload_n 2, 47, 2, 0, 0) := rfl
theorem xi_53_47 : xm_ins 53 47 = some (.iconst 1, 48, 0, 0, 1) := rfl
theorem xi_53_48 : xm_ins 53 48 = some (.iload 5, 50, 5, 0, 0) := rfl
theorem xi_53_50 : xm_ins 53 50 = some (.ishl, 51, 0, 0, 0) := rfl
theorem xi_53_51 : xm_ins 53 51 = some (.ior, 52, 0, 0, 0) := rfl
theorem xi_53_52 : xm_ins 53 52 = some (.istore_n 2, 53, 2, 0, 0) := rfl
theorem xi_53_53 : xm_ins 53 53 = some (.iinc 4 1, 56, 4, 0, 1) := rfl
theorem xi_53_56 : xm_ins 53 56 = some (.goto (-35), 59, 21, 0, 0) := rfl
theorem xi_53_59 : xm_ins 53 59 = some (.iinc 3 1, 62, 3, 0, 1) := rfl
theorem xi_53_62 : xm_ins 53 62 = some (.goto (-58), 65, 4, 0, 0) := rfl
theorem xi_53_65 : xm_ins 53 65 = some (.iload_n 2, 66, 2, 0, 0) := rfl
theorem xi_53_66 : xm_ins 53 66 = some (.ireturn, 67, 0, 0, 0) := rfl
theorem xn_54 (pc : Nat) : xm_ins 54 pc = xm_find xt_54 pc := rfl
theorem xi_54_0 : xm_ins 54 0 = some (.iload_n 1, 1, 1, 0, 0) := rfl
theorem xi_54_1 : xm_ins 54 1 = some (.iload_n 2, 2, 2, 0, 0) := rfl
theorem xi_54_2 : xm_ins 54 2 = some (.iand, 3, 0, 0, 0) := rfl
theorem xi_54_3 : xm_ins 54 3 = some (.istore_n 3, 4, 3, 0, 0) := rfl
theorem xi_54_4 : xm_ins 54 4 = some (.iload_n 3, 5, 3, 0, 0) := rfl
theorem xi_54_5 : xm_ins 54 5 = some (.istore 4, 7, 4, 0, 0) := rfl
theorem xi_54_7 : xm_ins 54 7 = some (.iconst 0, 8, 0, 0, 0) := rfl
theorem xi_54_8 : xm_ins 54 8 = some (.istore 5, 10, 5, 0, 0) := rfl
theorem xi_54_10 : xm_ins 54 10 = some (.iload 5, 12, 5, 0, 0) := rfl
theorem xi_54_12 : xm_ins 54 12 = some (.bipush 30, 14, 0, 0, 30) := rfl
theorem xi_54_14 : xm_ins 54 14 = some (.if_icmp .ge 33, 17, 47, 0, 0) := rfl
theorem xi_54_17 : xm_ins 54 17 = some (.iload 4, 19, 4, 0, 0) := rfl
theorem xi_54_19 : xm_ins 54 19 = some (.ifCond .eq 28, 22, 47, 0, 0) := rfl
theorem xi_54_22 : xm_ins 54 22 = some (.aload_n 0, 23, 0, 0, 0) := rfl
theorem xi_54_23 : xm_ins 54 23 = some (.iload 4, 25, 4, 0, 0) := rfl
theorem xi_54_25 : xm_ins 54 25 = some (.invokevirtual 149, 28, 53, 2, 1) := rfl
theorem xi_54_28 : xm_ins 54 28 = some (.iload_n 2, 29, 2, 0, 0) := rfl
theorem xi_54_29 : xm_ins 54 29 = some (.iand, 30, 0, 0, 0) := rfl
theorem xi_54_30 : xm_ins 54 30 = some (.iload_n 3, 31, 3, 0, 0) := rfl
theorem xi_54_31 : xm_ins 54 31 = some (.iconst (-1), 32, 0, 0, (-1)) := rfl
theorem xi_54_32 : xm_ins 54 32 = some (.ixor, 33, 0, 0, 0) := rfl
theorem xi_54_33 : xm_ins 54 33 = some (.iand, 34, 0, 0, 0) := rfl
theorem xi_54_34 : xm_ins 54 34 = some (.istore 4, 36, 4, 0, 0) := rfl
theorem xi_54_36 : xm_ins 54 36 = some (.iload_n 3, 37, 3, 0, 0) := rfl
theorem xi_54_37 : xm_ins 54 37 = some (.iload 4, 39, 4, 0, 0) := rfl
theorem xi_54_39 : xm_ins 54 39 = some (.ior, 40, 0, 0, 0) := rfl
theorem xi_54_40 : xm_ins 54 40 = some (.istore_n 3, 41, 3, 0, 0) := rfl
theorem xi_54_41 : xm_ins 54 41 = some (.iinc 5 1, 44, 5, 0, 1) := rfl
theorem xi_54_44 : xm_ins 54 44 = some (.goto (-34), 47, 10, 0, 0) := rfl
theorem xi_54_47 : xm_ins 54 47 = some (.iload_n 3, 48, 3, 0, 0) := rfl
theorem xi_54_48 : xm_ins 54 48 = some (.ireturn, 49, 0, 0, 0) := rfl
theorem xn_55 (pc : Nat) : xm_ins 55 pc = xm_find xt_55 pc := rfl
theorem xi_55_0 : xm_ins 55 0 = some (.aload_n 0, 1, 0, 0, 0) := rfl
theorem xi_55_1 : xm_ins 55 1 = some (.invokespecial 3, 4, 1000, 0, 0) := rfl
theorem xi_55_4 : xm_ins 55 4 = some (.aload_n 0, 5, 0, 0, 0) := rfl
theorem xi_55_5 : xm_ins 55 5 = some (.bipush 6, 7, 0, 0, 6) := rfl
theorem xi_55_7 : xm_ins 55 7 = some (.anewarray 9, 10, 0, 0, 0) := rfl
theorem xi_55_10 : xm_ins 55 10 = some (.putfield 11, 13, 2, 0, 1) := rfl
theorem xi_55_13 : xm_ins 55 13 = some (.aload_n 0, 14, 0, 0, 0) := rfl
theorem xi_55_14 : xm_ins 55 14 = some (.new 15, 17, 0, 6, 0) := rfl
theorem xi_55_17 : xm_ins 55 17 = some (.dup, 18, 0, 0, 0) := rfl
theorem xi_55_18 : xm_ins 55 18 = some (.invokespecial 17, 21, 0, 1, 0) := rfl
theorem xi_55_21 : xm_ins 55 21 = some (.putfield 18, 24, 2, 1, 1) := rfl
theorem xi_55_24 : xm_ins 55 24 = some (.aload_n 0, 25, 0, 0, 0) := rfl
theorem xi_55_25 : xm_ins 55 25 = some (.iconst 0, 26, 0, 0, 0) := rfl
theorem xi_55_26 : xm_ins 55 26 = some (.putfield 22, 29, 2, 2, 0) := rfl
theorem xi_55_29 : xm_ins 55 29 = some (.aload_n 0, 30, 0, 0, 0) := rfl
theorem xi_55_30 : xm_ins 55 30 = some (.iconst 0, 31, 0, 0, 0) := rfl
theorem xi_55_31 : xm_ins 55 31 = some (.putfield 26, 34, 2, 3, 0) := rfl
theorem xi_55_34 : xm_ins 55 34 = some (.iconst 0, 35, 0, 0, 0) := rfl
theorem xi_55_35 : xm_ins 55 35 = some (.istore_n 1, 36, 1, 0, 0) := rfl
theorem xi_55_36 : xm_ins 55 36 = some (.iload_n 1, 37, 1, 0, 0) := rfl
theorem xi_55_37 : xm_ins 55 37 = some (.bipush 6, 39, 0, 0, 6) := rfl
theorem xi_55_39 : xm_ins 55 39 = some (.if_icmp .ge 22, 42, 61, 0, 0) := rfl
theorem xi_55_42 : xm_ins 55 42 = some (.aload_n 0, 43, 0, 0, 0) := rfl
theorem xi_55_43 : xm_ins 55 43 = some (.getfield 11, 46, 2, 0, 1) := rfl
theorem xi_55_46 : xm_ins 55 46 = some (.iload_n 1, 47, 1, 0, 0) := rfl
theorem xi_55_47 : xm_ins 55 47 = some (.new 9, 50, 1, 11, 0) := rfl
theorem xi_55_50 : xm_ins 55 50 = some (.dup, 51, 0, 0, 0) := rfl
theorem xi_55_51 : xm_ins 55 51 = some (.invokespecial 29, 54, 11, 1, 1) := rfl
theorem xi_55_54 : xm_ins 55 54 = some (.aastore, 55, 0, 0, 0) := rfl
theorem xi_55_55 : xm_ins 55 55 = some (.iinc 1 1, 58, 1, 0, 1) := rfl
theorem xi_55_58 : xm_ins 55 58 = some (.goto (-22), 61, 36, 0, 0) := rfl
theorem xi_55_61 : xm_ins 55 61 = some (.return_, 62, 0, 0, 0) := rfl
theorem xn_56 (pc : Nat) : xm_ins 56 pc = xm_find xt_56 pc := rfl
theorem xi_56_0 : xm_ins 56 0 = some (.aload_n 0, 1, 0, 0, 0) := rfl
theorem xi_56_1 : xm_ins 56 1 = some (.aload_n 0, 2, 0, 0, 0) := rfl
theorem xi_56_2 : xm_ins 56 2 = some (.invokevirtual 30, 5, 80, 1, 2) := rfl
theorem xi_56_5 : xm_ins 56 5 = some (.invokevirtual 34, 8, 14, 1, 1) := rfl
theorem xi_56_8 : xm_ins 56 8 = some (.invokevirtual 38, 11, 81, 2, 2) := rfl
theorem xi_56_11 : xm_ins 56 11 = some (.ireturn, 12, 0, 0, 0) := rfl
theorem xn_57 (pc : Nat) : xm_ins 57 pc = xm_find xt_57 pc := rfl
theorem xi_57_0 : xm_ins 57 0 = some (.aload_n 0, 1, 0, 0, 0) := rfl
theorem xi_57_1 : xm_ins 57 1 = some (.aload_n 0, 2, 0, 0, 0) := rfl
theorem xi_57_2 : xm_ins 57 2 = some (.invokevirtual 30, 5, 80, 1, 2) := rfl
theorem xi_57_5 : xm_ins 57 5 = some (.iload_n 1, 6, 1, 0, 0) := rfl
theorem xi_57_6 : xm_ins 57 6 = some (.iload_n 2, 7, 2, 0, 0) := rfl
theorem xi_57_7 : xm_ins 57 7 = some (.invokevirtual 42, 10, 15, 3, 1) := rfl
theorem xi_57_10 : xm_ins 57 10 = some (.invokevirtual 38, 13, 81, 2, 2) := rfl
theorem xi_57_13 : xm_ins 57 13 = some (.ireturn, 14, 0, 0, 0) := rfl
theorem xn_58 (pc : Nat) : xm_ins 58 pc = xm_find xt_58 pc := rfl
theorem xi_58_0 : xm_ins 58 0 = some (.aload_n 0, 1, 0, 0, 0) := rfl
theorem xi_58_1 : xm_ins 58 1 = some (.aload_n 0, 2, 0, 0, 0) := rfl
theorem xi_58_2 : xm_ins 58 2 = some (.invokevirtual 30, 5, 80, 1, 2) := rfl
theorem xi_58_5 : xm_ins 58 5 = some (.iload_n 1, 6, 1, 0, 0) := rfl
theorem xi_58_6 : xm_ins 58 6 = some (.invokevirtual 46, 9, 16, 2, 1) := rfl
theorem xi_58_9 : xm_ins 58 9 = some (.invokevirtual 38, 12, 81, 2, 2) := rfl
theorem xi_58_12 : xm_ins 58 12 = some (.ireturn, 13, 0, 0, 0) := rfl
theorem xn_59 (pc : Nat) : xm_ins 59 pc = xm_find xt_59 pc := rfl
theorem xi_59_0 : xm_ins 59 0 = some (.aload_n 0, 1, 0, 0, 0) := rfl
theorem xi_59_1 : xm_ins 59 1 = some (.aload_n 0, 2, 0, 0, 0) := rfl
theorem xi_59_2 : xm_ins 59 2 = some (.invokevirtual 30, 5, 80, 1, 2) := rfl
theorem xi_59_5 : xm_ins 59 5 = some (.iload_n 1, 6, 1, 0, 0) := rfl
theorem xi_59_6 : xm_ins 59 6 = some (.iload_n 2, 7, 2, 0, 0) := rfl
theorem xi_59_7 : xm_ins 59 7 = some (.iload_n 3, 8, 3, 0, 0) := rfl
theorem xi_59_8 : xm_ins 59 8 = some (.invokevirtual 49, 11, 17, 4, 1) := rfl
theorem xi_59_11 : xm_ins 59 11 = some (.invokevirtual 38, 14, 81, 2, 2) := rfl
theorem xi_59_14 : xm_ins 59 14 = some (.ireturn, 15, 0, 0, 0) := rfl
theorem xn_60 (pc : Nat) : xm_ins 60 pc = xm_find xt_60 pc := rfl
theorem xi_60_0 : xm_ins 60 0 = some (.aload_n 0, 1, 0, 0, 0) := rfl
theorem xi_60_1 : xm_ins 60 1 = some (.aload_n 0, 2, 0, 0, 0) := rfl
theorem xi_60_2 : xm_ins 60 2 = some (.invokevirtual 30, 5, 80, 1, 2) := rfl
theorem xi_60_5 : xm_ins 60 5 = some (.iload_n 1, 6, 1, 0, 0) := rfl
theorem xi_60_6 : xm_ins 60 6 = some (.iload_n 2, 7, 2, 0, 0) := rfl
theorem xi_60_7 : xm_ins 60 7 = some (.invokevirtual 53, 10, 18, 3, 1) := rfl
theorem xi_60_10 : xm_ins 60 10 = some (.invokevirtual 38, 13, 81, 2, 2) := rfl
theorem xi_60_13 : xm_ins 60 13 = some (.ireturn, 14, 0, 0, 0) := rfl
theorem xn_61 (pc : Nat) : xm_ins 61 pc = xm_find xt_61 pc := rfl
theorem xi_61_0 : xm_ins 61 0 = some (.aload_n 0, 1, 0, 0, 0) := rfl
theorem xi_61_1 : xm_ins 61 1 = some (.aload_n 0, 2, 0, 0, 0) := rfl
theorem xi_61_2 : xm_ins 61 2 = some (.invokevirtual 30, 5, 80, 1, 2) := rfl
theorem xi_61_5 : xm_ins 61 5 = some (.iload_n 1, 6, 1, 0, 0) := rfl
theorem xi_61_6 : xm_ins 61 6 = some (.invokevirtual 56, 9, 19, 2, 1) := rfl
theorem xi_61_9 : xm_ins 61 9 = some (.invokevirtual 38, 12, 81, 2, 2) := rfl
theorem xi_61_12 : xm_ins 61 12 = some (.ireturn, 13, 0, 0, 0) := rfl
theorem xn_62 (pc : Nat) : xm_ins 62 pc = xm_find xt_62 pc := rfl
theorem xi_62_0 : xm_ins 62 0 = some (.aload_n 0, 1, 0, 0, 0) := rfl
theorem xi_62_1 : xm_ins 62 1 = some (.aload_n 0, 2, 0, 0, 0) := rfl
theorem xi_62_2 : xm_ins 62 2 = some (.invokevirtual 30, 5, 80, 1, 2) := rfl
theorem xi_62_5 : xm_ins 62 5 = some (.iload_n 1, 6, 1, 0, 0) := rfl
theorem xi_62_6 : xm_ins 62 6 = some (.invokevirtual 59, 9, 20, 2, 1) := rfl
theorem xi_62_9 : xm_ins 62 9 = some (.invokevirtual 38, 12, 81, 2, 2) := rfl
theorem xi_62_12 : xm_ins 62 12 = some (.ireturn, 13, 0, 0, 0) := rfl
theorem xn_63 (pc : Nat) : xm_ins 63 pc = xm_find xt_63 pc := rfl
theorem xi_63_0 : xm_ins 63 0 = some (.aload_n 0, 1, 0, 0, 0) := rfl
theorem xi_63_1 : xm_ins 63 1 = some (.aload_n 0, 2, 0, 0, 0) := rfl
theorem xi_63_2 : xm_ins 63 2 = some (.invokevirtual 30, 5, 80, 1, 2) := rfl
theorem xi_63_5 : xm_ins 63 5 = some (.iload_n 1, 6, 1, 0, 0) := rfl
theorem xi_63_6 : xm_ins 63 6 = some (.invokevirtual 62, 9, 21, 2, 1) := rfl
theorem xi_63_9 : xm_ins 63 9 = some (.invokevirtual 38, 12, 81, 2, 2) := rfl
theorem xi_63_12 : xm_ins 63 12 = some (.ireturn, 13, 0, 0, 0) := rfl
theorem xn_64 (pc : Nat) : xm_ins 64 pc = xm_find xt_64 pc := rfl
theorem xi_64_0 : xm_ins 64 0 = some (.aload_n 0, 1, 0, 0, 0) := rfl
theorem xi_64_1 : xm_ins 64 1 = some (.aload_n 0, 2, 0, 0, 0) := rfl
theorem xi_64_2 : xm_ins 64 2 = some (.invokevirtual 30, 5, 80, 1, 2) := rfl
theorem xi_64_5 : xm_ins 64 5 = some (.invokevirtual 65, 8, 22, 1, 1) := rfl
theorem xi_64_8 : xm_ins 64 8 = some (.invokevirtual 38, 11, 81, 2, 2) := rfl
theorem xi_64_11 : xm_ins 64 11 = some (.ireturn, 12, 0, 0, 0) := rfl
theorem xn_65 (pc : Nat) : xm_ins 65 pc = xm_find xt_65 pc := rfl
theorem xi_65_0 : xm_ins 65 0 = some (.aload_n 0, 1, 0, 0, 0) := rfl
theorem xi_65_1 : xm_ins 65 1 = some (.invokevirtual 68, 4, 79, 1, 2) := rfl
theorem xi_65_4 : xm_ins 65 4 = some (.astore_n 3, 5, 3, 0, 0) := rfl
theorem xi_65_5 : xm_ins 65 5 = some (.aload_n 3, 6, 3, 0, 0) := rfl
theorem xi_65_6 : xm_ins 65 6 = some (.iload_n 1, 7, 1, 0, 0) := rfl
theorem xi_65_7 : xm_ins 65 7 = some (.invokevirtual 71, 10, 33, 2, 1) := rfl
theorem xi_65_10 : xm_ins 65 10 = some (.ifCond .ne 6, 13, 16, 0, 0) := rfl
theorem xi_65_13 : xm_ins 65 13 = some (.ldc 75, 15, 0, 0, (-1000001)) := rfl
theorem xi_65_15 : xm_ins 65 15 = some (.ireturn, 16, 0, 0, 0) := rfl
theorem xi_65_16 : xm_ins 65 16 = some (.iload_n 2, 17, 2, 0, 0) := rfl
theorem xi_65_17 : xm_ins 65 17 = some (.tableswitch 134 0 9 #[55, 69, 78, 87, 104, 104, 104, 116, 122, 128], 72, 0, 0, 0) := rfl
theorem xi_65_72 : xm_ins 65 72 = some (.aload_n 3, 73, 3, 0, 0) := rfl
theorem xi_65_73 : xm_ins 65 73 = some (.iload_n 1, 74, 1, 0, 0) := rfl
theorem xi_65_74 : xm_ins 65 74 = some (.invokevirtual 76, 77, 34, 2, 1) := rfl
theorem xi_65_77 : xm_ins 65 77 = some (.ifCond .eq 7, 80, 84, 0, 0) := rfl
theorem xi_65_80 : xm_ins 65 80 = some (.iconst 1, 81, 0, 0, 1) := rfl
theorem xi_65_81 : xm_ins 65 81 = some (.goto 4, 84, 85, 0, 0) := rfl
theorem xi_65_84 : xm_ins 65 84 = some (.iconst 0, 85, 0, 0, 0) := rfl
theorem xi_65_85 : xm_ins 65 85 = some (.ireturn, 86, 0, 0, 0) := rfl
theorem xi_65_86 : xm_ins 65 86 = some (.aload_n 3, 87, 3, 0, 0) := rfl
theorem xi_65_87 : xm_ins 65 87 = some (.iload_n 1, 88, 1, 0, 0) := rfl
theorem xi_65_88 : xm_ins 65 88 = some (.invokevirtual 79, 91, 35, 2, 1) := rfl
theorem xi_65_91 : xm_ins 65 91 = some (.invokestatic 82, 94, 82, 1, 2) := rfl
theorem xi_65_94 : xm_ins 65 94 = some (.ireturn, 95, 0, 0, 0) := rfl
theorem xi_65_95 : xm_ins 65 95 = some (.aload_n 3, 96, 3, 0, 0) := rfl
theorem xi_65_96 : xm_ins 65 96 = some (.iload_n 1, 97, 1, 0, 0) := rfl
theorem xi_65_97 : xm_ins 65 97 = some (.invokevirtual 85, 100, 36, 2, 1) := rfl
theorem xi_65_100 : xm_ins 65 100 = some (.invokestatic 82, 103, 82, 1, 2) := rfl
theorem xi_65_103 : xm_ins 65 103 = some (.ireturn, 104, 0, 0, 0) := rfl
theorem xi_65_104 : xm_ins 65 104 = some (.aload_n 3, 105, 3, 0, 0) := rfl
theorem xi_65_105 : xm_ins 65 105 = some (.getfield 88, 108, 1, 6, 0) := rfl
theorem xi_65_108 : xm_ins 65 108 = some (.iload_n 1, 109, 1, 0, 0) := rfl
theorem xi_65_109 : xm_ins 65 109 = some (.invokestatic 91, 112, 83, 2, 2) := rfl
theorem xi_65_112 : xm_ins 65 112 = some (.ifCond .eq 7, 115, 119, 0, 0) := rfl
theorem xi_65_115 : xm_ins 65 115 = some (.iconst 1, 116, 0, 0, 1) := rfl
theorem xi_65_116 : xm_ins 65 116 = some (.goto 4, 119, 120, 0, 0) := rfl
theorem xi_65_119 : xm_ins 65 119 = some (.iconst 0, 120, 0, 0, 0) := rfl
theorem xi_65_120 : xm_ins 65 120 = some (.ireturn, 121, 0, 0, 0) := rfl
theorem xi_65_121 : xm_ins 65 121 = some (.aload_n 3, 122, 3, 0, 0) := rfl
theorem xi_65_122 : xm_ins 65 122 = some (.iload_n 1, 123, 1, 0, 0) := rfl
theorem xi_65_123 : xm_ins 65 123 = some (.iload_n 2, 124, 2, 0, 0) := rfl
theorem xi_65_124 : xm_ins 65 124 = some (.iconst 4, 125, 0, 0, 4) := rfl
theorem xi_65_125 : xm_ins 65 125 = some (.isub, 126, 0, 0, 0) := rfl
theorem xi_65_126 : xm_ins 65 126 = some (.invokevirtual 95, 129, 38, 3, 1) := rfl
theorem xi_65_129 : xm_ins 65 129 = some (.invokestatic 82, 132, 82, 1, 2) := rfl
theorem xi_65_132 : xm_ins 65 132 = some (.ireturn, 133, 0, 0, 0) := rfl
theorem xi_65_133 : xm_ins 65 133 = some (.aload_n 3, 134, 3, 0, 0) := rfl
theorem xi_65_134 : xm_ins 65 134 = some (.iload_n 1, 135, 1, 0, 0) := rfl
theorem xi_65_135 : xm_ins 65 135 = some (.invokevirtual 98, 138, 40, 2, 1) := rfl
theorem xi_65_138 : xm_ins 65 138 = some (.ireturn, 139, 0, 0, 0) := rfl
theorem xi_65_139 : xm_ins 65 139 = some (.aload_n 3, 140, 3, 0, 0) := rfl
theorem xi_65_140 : xm_ins 65 140 = some (.iload_n 1, 141, 1, 0, 0) := rfl
theorem xi_65_141 : xm_ins 65 141 = some (.invokevirtual 101, 144, 41, 2, 1) := rfl
theorem xi_65_144 : xm_ins 65 144 = some (.ireturn, 145, 0, 0, 0) := rfl
theorem xi_65_145 : xm_ins 65 145 = some (.aload_n 3, 146, 3, 0, 0) := rfl
theorem xi_65_146 : xm_ins 65 146 = some (.iload_n 1, 147, 1, 0, 0) := rfl
theorem xi_65_147 : xm_ins 65 147 = some (.invokevirtual 104, 150, 37, 2, 1) := rfl
theorem xi_65_150 : xm_ins 65 150 = some (.ireturn, 151, 0, 0, 0) := rfl
theorem xi_65_151 : xm_ins 65 151 = some (.ldc 75, 153, 0, 0, (-1000001)) := rfl
theorem xi_65_153 : xm_ins 65 153 = some (.ireturn, 154, 0, 0, 0) := rfl
theorem xn_66 (pc : Nat) : xm_ins 66 pc = xm_find xt_66 pc := rfl
theorem xi_66_0 : xm_ins 66 0 = some (.iload_n 1, 1, 1, 0, 0) := rfl
theorem xi_66_1 : xm_ins 66 1 = some (.ifCond .lt 9, 4, 10, 0, 0) := rfl
theorem xi_66_4 : xm_ins 66 4 = some (.iload_n 1, 5, 1, 0, 0) := rfl
theorem xi_66_5 : xm_ins 66 5 = some (.bipush 8, 7, 0, 0, 8) := rfl
theorem xi_66_7 : xm_ins 66 7 = some (.if_icmp .lt 6, 10, 13, 0, 0) := rfl
theorem xi_66_10 : xm_ins 66 10 = some (.ldc 75, 12, 0, 0, (-1000001)) := rfl
theorem xi_66_12 : xm_ins 66 12 = some (.ireturn, 13, 0, 0, 0) := rfl
theorem xi_66_13 : xm_ins 66 13 = some (.aload_n 0, 14, 0, 0, 0) := rfl
theorem xi_66_14 : xm_ins 66 14 = some (.invokevirtual 68, 17, 79, 1, 2) := rfl
theorem xi_66_17 : xm_ins 66 17 = some (.astore_n 3, 18, 3, 0, 0) := rfl
theorem xi_66_18 : xm_ins 66 18 = some (.iload_n 2, 19, 2, 0, 0) := rfl
theorem xi_66_19 : xm_ins 66 19 = some (.tableswitch 86 0 7 #[45, 55, 64, 70, 70, 70, 70, 70], 64, 0, 0, 0) := rfl
theorem xi_66_64 : xm_ins 66 64 = some (.aload_n 3, 65, 3, 0, 0) := rfl
theorem xi_66_65 : xm_ins 66 65 = some (.getfield 107, 68, 1, 0, 1) := rfl
theorem xi_66_68 : xm_ins 66 68 = some (.iload_n 1, 69, 1, 0, 0) := rfl
theorem xi_66_69 : xm_ins 66 69 = some (.iaload, 70, 0, 0, 0) := rfl
theorem xi_66_70 : xm_ins 66 70 = some (.invokestatic 82, 73, 82, 1, 2) := rfl
theorem xi_66_73 : xm_ins 66 73 = some (.ireturn, 74, 0, 0, 0) := rfl
theorem xi_66_74 : xm_ins 66 74 = some (.aload_n 3, 75, 3, 0, 0) := rfl
theorem xi_66_75 : xm_ins 66 75 = some (.iload_n 1, 76, 1, 0, 0) := rfl
theorem xi_66_76 : xm_ins 66 76 = some (.invokevirtual 111, 79, 42, 2, 1) := rfl
theorem xi_66_79 : xm_ins 66 79 = some (.invokestatic 114, 82, 84, 1, 0) := rfl
theorem xi_66_82 : xm_ins 66 82 = some (.ireturn, 83, 0, 0, 0) := rfl
theorem xi_66_83 : xm_ins 66 83 = some (.aload_n 3, 84, 3, 0, 0) := rfl
theorem xi_66_84 : xm_ins 66 84 = some (.iload_n 1, 85, 1, 0, 0) := rfl
theorem xi_66_85 : xm_ins 66 85 = some (.invokevirtual 111, 88, 42, 2, 1) := rfl
theorem xi_66_88 : xm_ins 66 88 = some (.ireturn, 89, 0, 0, 0) := rfl
theorem xi_66_89 : xm_ins 66 89 = some (.aload_n 3, 90, 3, 0, 0) := rfl
theorem xi_66_90 : xm_ins 66 90 = some (.getfield 119, 93, 1, 1, 1) := rfl
theorem xi_66_93 : xm_ins 66 93 = some (.iload_n 1, 94, 1, 0, 0) := rfl
theorem xi_66_94 : xm_ins 66 94 = some (.iconst 5, 95, 0, 0, 5) := rfl
theorem xi_66_95 : xm_ins 66 95 = some (.imul, 96, 0, 0, 0) := rfl
theorem xi_66_96 : xm_ins 66 96 = some (.iload_n 2, 97, 2, 0, 0) := rfl
theorem xi_66_97 : xm_ins 66 97 = some (.iadd, 98, 0, 0, 0) := rfl
theorem xi_66_98 : xm_ins 66 98 = some (.iconst 3, 99, 0, 0, 3) := rfl
theorem xi_66_99 : xm_ins 66 99 = some (.isub, 100, 0, 0, 0) := rfl
theorem xi_66_100 : xm_ins 66 100 = some (.iaload, 101, 0, 0, 0) := rfl
theorem xi_66_101 : xm_ins 66 101 = some (.invokestatic 82, 104, 82, 1, 2) := rfl
theorem xi_66_104 : xm_ins 66 104 = some (.ireturn, 105, 0, 0, 0) := rfl
theorem xi_66_105 : xm_ins 66 105 = some (.ldc 75, 107, 0, 0, (-1000001)) := rfl
theorem xi_66_107 : xm_ins 66 107 = some (.ireturn, 108, 0, 0, 0) := rfl
theorem xn_67 (pc : Nat) : xm_ins 67 pc = xm_find xt_67 pc := rfl
theorem xi_67_0 : xm_ins 67 0 = some (.iload_n 1, 1, 1, 0, 0) := rfl
theorem xi_67_1 : xm_ins 67 1 = some (.ifCond .lt 8, 4, 9, 0, 0) := rfl
theorem xi_67_4 : xm_ins 67 4 = some (.iload_n 1, 5, 1, 0, 0) := rfl
theorem xi_67_5 : xm_ins 67 5 = some (.iconst 4, 6, 0, 0, 4) := rfl
theorem xi_67_6 : xm_ins 67 6 = some (.if_icmp .lt 6, 9, 12, 0, 0) := rfl
theorem xi_67_9 : xm_ins 67 9 = some (.ldc 75, 11, 0, 0, (-1000001)) := rfl
theorem xi_67_11 : xm_ins 67 11 = some (.ireturn, 12, 0, 0, 0) := rfl
theorem xi_67_12 : xm_ins 67 12 = some (.aload_n 0, 13, 0, 0, 0) := rfl
theorem xi_67_13 : xm_ins 67 13 = some (.invokevirtual 68, 16, 79, 1, 2) := rfl
theorem xi_67_16 : xm_ins 67 16 = some (.getfield 122, 19, 1, 5, 1) := rfl
theorem xi_67_19 : xm_ins 67 19 = some (.iload_n 1, 20, 1, 0, 0) := rfl
theorem xi_67_20 : xm_ins 67 20 = some (.iaload, 21, 0, 0, 0) := rfl
theorem xi_67_21 : xm_ins 67 21 = some (.invokestatic 82, 24, 82, 1, 2) := rfl
theorem xi_67_24 : xm_ins 67 24 = some (.ireturn, 25, 0, 0, 0) := rfl
theorem xn_68 (pc : Nat) : xm_ins 68 pc = xm_find xt_68 pc := rfl
theorem xi_68_0 : xm_ins 68 0 = some (.iload_n 1, 1, 1, 0, 0) := rfl
theorem xi_68_1 : xm_ins 68 1 = some (.ifCond .ge 6, 4, 7, 0, 0) := rfl
theorem xi_68_4 : xm_ins 68 4 = some (.ldc 75, 6, 0, 0, (-1000001)) := rfl
theorem xi_68_6 : xm_ins 68 6 = some (.ireturn, 7, 0, 0, 0) := rfl
theorem xi_68_7 : xm_ins 68 7 = some (.aload_n 0, 8, 0, 0, 0) := rfl
theorem xi_68_8 : xm_ins 68 8 = some (.invokevirtual 68, 11, 79, 1, 2) := rfl
theorem xi_68_11 : xm_ins 68 11 = some (.astore_n 2, 12, 2, 0, 0) := rfl
theorem xi_68_12 : xm_ins 68 12 = some (.iload_n 1, 13, 1, 0, 0) := rfl
theorem xi_68_13 : xm_ins 68 13 = some (.istore_n 3, 14, 3, 0, 0) := rfl
theorem xi_68_14 : xm_ins 68 14 = some (.iconst 0, 15, 0, 0, 0) := rfl
theorem xi_68_15 : xm_ins 68 15 = some (.istore 4, 17, 4, 0, 0) := rfl
theorem xi_68_17 : xm_ins 68 17 = some (.iload 4, 19, 4, 0, 0) := rfl
theorem xi_68_19 : xm_ins 68 19 = some (.bipush 30, 21, 0, 0, 30) := rfl
theorem xi_68_21 : xm_ins 68 21 = some (.if_icmp .ge 51, 24, 72, 0, 0) := rfl
theorem xi_68_24 : xm_ins 68 24 = some (.iconst 0, 25, 0, 0, 0) := rfl
theorem xi_68_25 : xm_ins 68 25 = some (.istore 5, 27, 5, 0, 0) := rfl
theorem xi_68_27 : xm_ins 68 27 = some (.iload 5, 29, 5, 0, 0) := rfl
theorem xi_68_29 : xm_ins 68 29 = some (.iconst 3, 30, 0, 0, 3) := rfl
theorem xi_68_30 : xm_ins 68 30 = some (.if_icmp .ge 36, 33, 66, 0, 0) := rfl
theorem xi_68_33 : xm_ins 68 33 = some (.aload_n 2, 34, 2, 0, 0) := rfl
theorem xi_68_34 : xm_ins 68 34 = some (.iload 4, 36, 4, 0, 0) := rfl
theorem xi_68_36 : xm_ins 68 36 = some (.iload 5, 38, 5, 0, 0) := rfl
theorem xi_68_38 : xm_ins 68 38 = some (.invokevirtual 125, 41, 39, 3, 1) := rfl
theorem xi_68_41 : xm_ins 68 41 = some (.ifCond .eq 19, 44, 60, 0, 0) := rfl
theorem xi_68_44 : xm_ins 68 44 = some (.iload_n 3, 45, 3, 0, 0) := rfl
theorem xi_68_45 : xm_ins 68 45 = some (.ifCond .ne 12, 48, 57, 0, 0) := rfl
theorem xi_68_48 : xm_ins 68 48 = some (.bipush 10, 50, 0, 0, 10) := rfl
theorem xi_68_50 : xm_ins 68 50 = some (.iload 4, 52, 4, 0, 0) := rfl
theorem xi_68_52 : xm_ins 68 52 = some (.imul, 53, 0, 0, 0) := rfl
theorem xi_68_53 : xm_ins 68 53 = some (.iload 5, 55, 5, 0, 0) := rfl
theorem xi_68_55 : xm_ins 68 55 = some (.iadd, 56, 0, 0, 0) := rfl
theorem xi_68_56 : xm_ins 68 56 = some (.ireturn, 57, 0, 0, 0) := rfl
theorem xi_68_57 : xm_ins 68 57 = some (.iinc 3 (-1), 60, 3, 0, (-1)) := rfl
theorem xi_68_60 : xm_ins 68 60 = some (.iinc 5 1, 63, 5, 0, 1) := rfl
theorem xi_68_63 : xm_ins 68 63 = some (.goto (-36), 66, 27, 0, 0) := rfl
theorem xi_68_66 : xm_ins 68 66 = some (.iinc 4 1, 69, 4, 0, 1) := rfl
theorem xi_68_69 : xm_ins 68 69 = some (.goto (-52), 72, 17, 0, 0) := rfl
theorem xi_68_72 : xm_ins 68 72 = some (.ldc 128, 74, 0, 0, (-1000004)) := rfl
theorem xi_68_74 : xm_ins 68 74 = some (.ireturn, 75, 0, 0, 0) := rfl
theorem xn_69 (pc : Nat) : xm_ins 69 pc = xm_find xt_69 pc := rfl
theorem xi_69_0 : xm_ins 69 0 = some (.aload_n 0, 1, 0, 0, 0) := rfl
theorem xi_69_1 : xm_ins 69 1 = some (.invokevirtual 68, 4, 79, 1, 2) := rfl
theorem xi_69_4 : xm_ins 69 4 = some (.astore_n 2, 5, 2, 0, 0) := rfl
theorem xi_69_5 : xm_ins 69 5 = some (.iload_n 1, 6, 1, 0, 0) := rfl
theorem xi_69_6 : xm_ins 69 6 = some (.lookupswitch 43 #[(0, 26), (1, 31)], 32, 0, 0, 0) := rfl
theorem xi_69_32 : xm_ins 69 32 = some (.aload_n 2, 33, 2, 0, 0) := rfl
theorem xi_69_33 : xm_ins 69 33 = some (.invokevirtual 129, 36, 51, 1, 1) := rfl
theorem xi_69_36 : xm_ins 69 36 = some (.ireturn, 37, 0, 0, 0) := rfl
theorem xi_69_37 : xm_ins 69 37 = some (.aload_n 2, 38, 2, 0, 0) := rfl
theorem xi_69_38 : xm_ins 69 38 = some (.invokevirtual 132, 41, 47, 1, 1) := rfl
theorem xi_69_41 : xm_ins 69 41 = some (.aload_n 2, 42, 2, 0, 0) := rfl
theorem xi_69_42 : xm_ins 69 42 = some (.invokevirtual 129, 45, 51, 1, 1) := rfl
theorem xi_69_45 : xm_ins 69 45 = some (.iconst (-1), 46, 0, 0, (-1)) := rfl
theorem xi_69_46 : xm_ins 69 46 = some (.ixor, 47, 0, 0, 0) := rfl
theorem xi_69_47 : xm_ins 69 47 = some (.iand, 48, 0, 0, 0) := rfl
theorem xi_69_48 : xm_ins 69 48 = some (.ireturn, 49, 0, 0, 0) := rfl
theorem xi_69_49 : xm_ins 69 49 = some (.ldc 75, 51, 0, 0, (-1000001)) := rfl
theorem xi_69_51 : xm_ins 69 51 = some (.ireturn, 52, 0, 0, 0) := rfl
theorem xn_70 (pc : Nat) : xm_ins 70 pc = xm_find xt_70 pc := rfl
theorem xi_70_0 : xm_ins 70 0 = some (.iload_n 1, 1, 1, 0, 0) := rfl
theorem xi_70_1 : xm_ins 70 1 = some (.ifCond .lt 8, 4, 9, 0, 0) := rfl
theorem xi_70_4 : xm_ins 70 4 = some (.iload_n 1, 5, 1, 0, 0) := rfl
theorem xi_70_5 : xm_ins 70 5 = some (.iconst 2, 6, 0, 0, 2) := rfl
theorem xi_70_6 : xm_ins 70 6 = some (.if_icmp .lt 6, 9, 12, 0, 0) := rfl
theorem xi_70_9 : xm_ins 70 9 = some (.ldc 75, 11, 0, 0, (-1000001)) := rfl
theorem xi_70_11 : xm_ins 70 11 = some (.ireturn, 12, 0, 0, 0) := rfl
theorem xi_70_12 : xm_ins 70 12 = some (.aload_n 0, 13, 0, 0, 0) := rfl
theorem xi_70_13 : xm_ins 70 13 = some (.invokevirtual 68, 16, 79, 1, 2) := rfl
theorem xi_70_16 : xm_ins 70 16 = some (.astore_n 3, 17, 3, 0, 0) := rfl
theorem xi_70_17 : xm_ins 70 17 = some (.aload_n 3, 18, 3, 0, 0) := rfl
theorem xi_70_18 : xm_ins 70 18 = some (.iload_n 1, 19, 1, 0, 0) := rfl
theorem xi_70_19 : xm_ins 70 19 = some (.invokevirtual 135, 22, 52, 2, 1) := rfl
theorem xi_70_22 : xm_ins 70 22 = some (.istore 4, 24, 4, 0, 0) := rfl
theorem xi_70_24 : xm_ins 70 24 = some (.iload_n 2, 25, 2, 0, 0) := rfl
theorem xi_70_25 : xm_ins 70 25 = some (.tableswitch 75 0 3 #[31, 34, 45, 58], 56, 0, 0, 0) := rfl
theorem xi_70_56 : xm_ins 70 56 = some (.iload 4, 58, 4, 0, 0) := rfl
theorem xi_70_58 : xm_ins 70 58 = some (.ireturn, 59, 0, 0, 0) := rfl
theorem xi_70_59 : xm_ins 70 59 = some (.aload_n 3, 60, 3, 0, 0) := rfl
theorem xi_70_60 : xm_ins 70 60 = some (.iload_n 1, 61, 1, 0, 0) := rfl
theorem xi_70_61 : xm_ins 70 61 = some (.invokevirtual 138, 64, 48, 2, 1) := rfl
theorem xi_70_64 : xm_ins 70 64 = some (.iload 4, 66, 4, 0, 0) := rfl
theorem xi_70_66 : xm_ins 70 66 = some (.iconst (-1), 67, 0, 0, (-1)) := rfl
theorem xi_70_67 : xm_ins 70 67 = some (.ixor, 68, 0, 0, 0) := rfl
theorem xi_70_68 : xm_ins 70 68 = some (.iand, 69, 0, 0, 0) := rfl
theorem xi_70_69 : xm_ins 70 69 = some (.ireturn, 70, 0, 0, 0) := rfl
theorem xi_70_70 : xm_ins 70 70 = some (.iload 4, 72, 4, 0, 0) := rfl
theorem xi_70_72 : xm_ins 70 72 = some (.aload_n 3, 73, 3, 0, 0) := rfl
theorem xi_70_73 : xm_ins 70 73 = some (.getfield 88, 76, 1, 6, 0) := rfl
theorem xi_70_76 : xm_ins 70 76 = some (.iconst (-1), 77, 0, 0, (-1)) := rfl
theorem xi_70_77 : xm_ins 70 77 = some (.ixor, 78, 0, 0, 0) := rfl
theorem xi_70_78 : xm_ins 70 78 = some (.iand, 79, 0, 0, 0) := rfl
theorem xi_70_79 : xm_ins 70 79 = some (.invokestatic 114, 82, 84, 1, 0) := rfl
theorem xi_70_82 : xm_ins 70 82 = some (.ireturn, 83, 0, 0, 0) := rfl
theorem xi_70_83 : xm_ins 70 83 = some (.aload_n 0, 84, 0, 0, 0) := rfl
theorem xi_70_84 : xm_ins 70 84 = some (.invokevirtual 30, 87, 80, 1, 2) := rfl
theorem xi_70_87 : xm_ins 70 87 = some (.iload_n 1, 88, 1, 0, 0) := rfl
theorem xi_70_88 : xm_ins 70 88 = some (.invokevirtual 62, 91, 21, 2, 1) := rfl
theorem xi_70_91 : xm_ins 70 91 = some (.ifCond .lt 7, 94, 98, 0, 0) := rfl
theorem xi_70_94 : xm_ins 70 94 = some (.iconst 1, 95, 0, 0, 1) := rfl
theorem xi_70_95 : xm_ins 70 95 = some (.goto 4, 98, 99, 0, 0) := rfl
theorem xi_70_98 : xm_ins 70 98 = some (.iconst 0, 99, 0, 0, 0) := rfl
theorem xi_70_99 : xm_ins 70 99 = some (.ireturn, 100, 0, 0, 0) := rfl
theorem xi_70_100 : xm_ins 70 100 = some (.ldc 75, 102, 0, 0, (-1000001)) := rfl
theorem xi_70_102 : xm_ins 70 102 = some (.ireturn, 103, 0, 0, 0) := rfl
theorem xn_71 (pc : Nat) : xm_ins 71 pc = xm_find xt_71 pc := rfl
theorem xi_71_0 : xm_ins 71 0 = some (.aload_n 0, 1, 0, 0, 0) := rfl
theorem xi_71_1 : xm_ins 71 1 = some (.invokevirtual 68, 4, 79, 1, 2) := rfl
theorem xi_71_4 : xm_ins 71 4 = some (.astore_n 2, 5, 2, 0, 0) := rfl
theorem xi_71_5 : xm_ins 71 5 = some (.aload_n 2, 6, 2, 0, 0) := rfl
theorem xi_71_6 : xm_ins 71 6 = some (.iload_n 1, 7, 1, 0, 0) := rfl
theorem xi_71_7 : xm_ins 71 7 = some (.invokevirtual 76, 10, 34, 2, 1) := rfl
theorem xi_71_10 : xm_ins 71 10 = some (.ifCond .ne 6, 13, 16, 0, 0) := rfl
theorem xi_71_13 : xm_ins 71 13 = some (.ldc 75, 15, 0, 0, (-1000001)) := rfl
theorem xi_71_15 : xm_ins 71 15 = some (.ireturn, 16, 0, 0, 0) := rfl
theorem xi_71_16 : xm_ins 71 16 = some (.aload_n 2, 17, 2, 0, 0) := rfl
theorem xi_71_17 : xm_ins 71 17 = some (.invokevirtual 132, 20, 47, 1, 1) := rfl
theorem xi_71_20 : xm_ins 71 20 = some (.iconst 1, 21, 0, 0, 1) := rfl
theorem xi_71_21 : xm_ins 71 21 = some (.iload_n 1, 22, 1, 0, 0) := rfl
theorem xi_71_22 : xm_ins 71 22 = some (.ishl, 23, 0, 0, 0) := rfl
theorem xi_71_23 : xm_ins 71 23 = some (.iconst (-1), 24, 0, 0, (-1)) := rfl
theorem xi_71_24 : xm_ins 71 24 = some (.ixor, 25, 0, 0, 0) := rfl
theorem xi_71_25 : xm_ins 71 25 = some (.iand, 26, 0, 0, 0) := rfl
theorem xi_71_26 : xm_ins 71 26 = some (.istore_n 3, 27, 3, 0, 0) := rfl
theorem xi_71_27 : xm_ins 71 27 = some (.aload_n 2, 28, 2, 0, 0) := rfl
theorem xi_71_28 : xm_ins 71 28 = some (.aload_n 2, 29, 2, 0, 0) := rfl
theorem xi_71_29 : xm_ins 71 29 = some (.invokevirtual 141, 32, 50, 1, 1) := rfl
theorem xi_71_32 : xm_ins 71 32 = some (.iload_n 3, 33, 3, 0, 0) := rfl
theorem xi_71_33 : xm_ins 71 33 = some (.invokevirtual 144, 36, 54, 3, 1) := rfl
theorem xi_71_36 : xm_ins 71 36 = some (.istore 4, 38, 4, 0, 0) := rfl
theorem xi_71_38 : xm_ins 71 38 = some (.aload_n 2, 39, 2, 0, 0) := rfl
theorem xi_71_39 : xm_ins 71 39 = some (.invokevirtual 129, 42, 51, 1, 1) := rfl
theorem xi_71_42 : xm_ins 71 42 = some (.iload_n 3, 43, 3, 0, 0) := rfl
theorem xi_71_43 : xm_ins 71 43 = some (.iand, 44, 0, 0, 0) := rfl
theorem xi_71_44 : xm_ins 71 44 = some (.iload 4, 46, 4, 0, 0) := rfl
theorem xi_71_46 : xm_ins 71 46 = some (.iconst (-1), 47, 0, 0, (-1)) := rfl
theorem xi_71_47 : xm_ins 71 47 = some (.ixor, 48, 0, 0, 0) := rfl
theorem xi_71_48 : xm_ins 71 48 = some (.iand, 49, 0, 0, 0) := rfl
theorem xi_71_49 : xm_ins 71 49 = some (.ireturn, 50, 0, 0, 0) := rfl
theorem xn_72 (pc : Nat) : xm_ins 72 pc = xm_find xt_72 pc := rfl
theorem xi_72_0 : xm_ins 72 0 = some (.aload_n 0, 1, 0, 0, 0) := rfl
theorem xi_72_1 : xm_ins 72 1 = some (.invokevirtual 68, 4, 79, 1, 2) := rfl
theorem xi_72_4 : xm_ins 72 4 = some (.astore_n 2, 5, 2, 0, 0) := rfl
theorem xi_72_5 : xm_ins 72 5 = some (.aload_n 2, 6, 2, 0, 0) := rfl
theorem xi_72_6 : xm_ins 72 6 = some (.iload_n 1, 7, 1, 0, 0) := rfl
theorem xi_72_7 : xm_ins 72 7 = some (.invokevirtual 76, 10, 34, 2, 1) := rfl
theorem xi_72_10 : xm_ins 72 10 = some (.ifCond .ne 6, 13, 16, 0, 0) := rfl
theorem xi_72_13 : xm_ins 72 13 = some (.ldc 75, 15, 0, 0, (-1000001)) := rfl
theorem xi_72_15 : xm_ins 72 15 = some (.ireturn, 16, 0, 0, 0) := rfl
theorem xi_72_16 : xm_ins 72 16 = some (.aload_n 2, 17, 2, 0, 0) := rfl
theorem xi_72_17 : xm_ins 72 17 = some (.invokevirtual 141, 20, 50, 1, 1) := rfl
theorem xi_72_20 : xm_ins 72 20 = some (.istore_n 3, 21, 3, 0, 0) := rfl
theorem xi_72_21 : xm_ins 72 21 = some (.iconst 0, 22, 0, 0, 0) := rfl
theorem xi_72_22 : xm_ins 72 22 = some (.istore 4, 24, 4, 0, 0) := rfl
theorem xi_72_24 : xm_ins 72 24 = some (.iload 4, 26, 4, 0, 0) := rfl
theorem xi_72_26 : xm_ins 72 26 = some (.bipush 30, 28, 0, 0, 30) := rfl
theorem xi_72_28 : xm_ins 72 28 = some (.if_icmp .ge 28, 31, 56, 0, 0) := rfl
theorem xi_72_31 : xm_ins 72 31 = some (.iload_n 3, 32, 3, 0, 0) := rfl
theorem xi_72_32 : xm_ins 72 32 = some (.iload_n 1, 33, 1, 0, 0) := rfl
theorem xi_72_33 : xm_ins 72 33 = some (.invokestatic 91, 36, 83, 2, 2) := rfl
theorem xi_72_36 : xm_ins 72 36 = some (.ifCond .eq 6, 39, 42, 0, 0) := rfl
theorem xi_72_39 : xm_ins 72 39 = some (.iload 4, 41, 4, 0, 0) := rfl
theorem xi_72_41 : xm_ins 72 41 = some (.ireturn, 42, 0, 0, 0) := rfl
theorem xi_72_42 : xm_ins 72 42 = some (.iload_n 3, 43, 3, 0, 0) := rfl
theorem xi_72_43 : xm_ins 72 43 = some (.aload_n 2, 44, 2, 0, 0) := rfl
theorem xi_72_44 : xm_ins 72 44 = some (.iload_n 3, 45, 3, 0, 0) := rfl
theorem xi_72_45 : xm_ins 72 45 = some (.invokevirtual 147, 48, 53, 2, 1) := rfl
theorem xi_72_48 : xm_ins 72 48 = some (.ior, 49, 0, 0, 0) := rfl
theorem xi_72_49 : xm_ins 72 49 = some (.istore_n 3, 50, 3, 0, 0) := rfl
theorem xi_72_50 : xm_ins 72 50 = some (.iinc 4 1, 53, 4, 0, 1) := rfl
theorem xi_72_53 : xm_ins 72 53 = some (.goto (-29), 56, 24, 0, 0) := rfl
theorem xi_72_56 : xm_ins 72 56 = some (.ldc 128, 58, 0, 0, (-1000004)) := rfl
theorem xi_72_58 : xm_ins 72 58 = some (.ireturn, 59, 0, 0, 0) := rfl
theorem xn_73 (pc : Nat) : xm_ins 73 pc = xm_find xt_73 pc := rfl
theorem xi_73_0 : xm_ins 73 0 = some (.aload_n 0, 1, 0, 0, 0) := rfl
theorem xi_73_1 : xm_ins 73 1 = some (.invokevirtual 68, 4, 79, 1, 2) := rfl
theorem xi_73_4 : xm_ins 73 4 = some (.astore_n 2, 5, 2, 0, 0) := rfl
theorem xi_73_5 : xm_ins 73 5 = some (.aload_n 2, 6, 2, 0, 0) := rfl
theorem xi_73_6 : xm_ins 73 6 = some (.invokevirtual 132, 9, 47, 1, 1) := rfl
theorem xi_73_9 : xm_ins 73 9 = some (.invokestatic 114, 12, 84, 1, 0) := rfl
theorem xi_73_12 : xm_ins 73 12 = some (.istore_n 3, 13, 3, 0, 0) := rfl
theorem xi_73_13 : xm_ins 73 13 = some (.iload_n 1, 14, 1, 0, 0) := rfl
theorem xi_73_14 : xm_ins 73 14 = some (.tableswitch 141 0 13 #[70, 75, 77, 85, 85, 85, 96, 101, 106, 111, 116, 123, 128, 133], 84, 0, 0, 0) := rfl
theorem xi_73_84 : xm_ins 73 84 = some (.aload_n 2, 85, 2, 0, 0) := rfl
theorem xi_73_85 : xm_ins 73 85 = some (.getfield 150, 88, 1, 7, 0) := rfl
theorem xi_73_88 : xm_ins 73 88 = some (.ireturn, 89, 0, 0, 0) := rfl
theorem xi_73_89 : xm_ins 73 89 = some (.iload_n 3, 90, 3, 0, 0) := rfl
theorem xi_73_90 : xm_ins 73 90 = some (.ireturn, 91, 0, 0, 0) := rfl
theorem xi_73_91 : xm_ins 73 91 = some (.aload_n 2, 92, 2, 0, 0) := rfl
theorem xi_73_92 : xm_ins 73 92 = some (.getfield 88, 95, 1, 6, 0) := rfl
theorem xi_73_95 : xm_ins 73 95 = some (.invokestatic 114, 98, 84, 1, 0) := rfl
theorem xi_73_98 : xm_ins 73 98 = some (.ireturn, 99, 0, 0, 0) := rfl
theorem xi_73_99 : xm_ins 73 99 = some (.aload_n 2, 100, 2, 0, 0) := rfl
theorem xi_73_100 : xm_ins 73 100 = some (.iload_n 1, 101, 1, 0, 0) := rfl
theorem xi_73_101 : xm_ins 73 101 = some (.iconst 3, 102, 0, 0, 3) := rfl
theorem xi_73_102 : xm_ins 73 102 = some (.isub, 103, 0, 0, 0) := rfl
theorem xi_73_103 : xm_ins 73 103 = some (.invokevirtual 153, 106, 46, 2, 1) := rfl
theorem xi_73_106 : xm_ins 73 106 = some (.invokestatic 114, 109, 84, 1, 0) := rfl
theorem xi_73_109 : xm_ins 73 109 = some (.ireturn, 110, 0, 0, 0) := rfl
theorem xi_73_110 : xm_ins 73 110 = some (.aload_n 2, 111, 2, 0, 0) := rfl
theorem xi_73_111 : xm_ins 73 111 = some (.invokevirtual 156, 114, 44, 1, 1) := rfl
theorem xi_73_114 : xm_ins 73 114 = some (.ireturn, 115, 0, 0, 0) := rfl
theorem xi_73_115 : xm_ins 73 115 = some (.aload_n 2, 116, 2, 0, 0) := rfl
theorem xi_73_116 : xm_ins 73 116 = some (.invokevirtual 159, 119, 45, 1, 1) := rfl
theorem xi_73_119 : xm_ins 73 119 = some (.ireturn, 120, 0, 0, 0) := rfl
theorem xi_73_120 : xm_ins 73 120 = some (.aload_n 2, 121, 2, 0, 0) := rfl
theorem xi_73_121 : xm_ins 73 121 = some (.getfield 162, 124, 1, 8, 0) := rfl
theorem xi_73_124 : xm_ins 73 124 = some (.ireturn, 125, 0, 0, 0) := rfl
theorem xi_73_125 : xm_ins 73 125 = some (.aload_n 2, 126, 2, 0, 0) := rfl
theorem xi_73_126 : xm_ins 73 126 = some (.getfield 165, 129, 1, 9, 0) := rfl
theorem xi_73_129 : xm_ins 73 129 = some (.ireturn, 130, 0, 0, 0) := rfl
theorem xi_73_130 : xm_ins 73 130 = some (.aload_n 2, 131, 2, 0, 0) := rfl
theorem xi_73_131 : xm_ins 73 131 = some (.getfield 150, 134, 1, 7, 0) := rfl
theorem xi_73_134 : xm_ins 73 134 = some (.iload_n 3, 135, 3, 0, 0) := rfl
theorem xi_73_135 : xm_ins 73 135 = some (.isub, 136, 0, 0, 0) := rfl
theorem xi_73_136 : xm_ins 73 136 = some (.ireturn, 137, 0, 0, 0) := rfl
theorem xi_73_137 : xm_ins 73 137 = some (.aload_n 2, 138, 2, 0, 0) := rfl
theorem xi_73_138 : xm_ins 73 138 = some (.getfield 168, 141, 1, 10, 0) := rfl
theorem xi_73_141 : xm_ins 73 141 = some (.ireturn, 142, 0, 0, 0) := rfl
theorem xi_73_142 : xm_ins 73 142 = some (.aload_n 0, 143, 0, 0, 0) := rfl
theorem xi_73_143 : xm_ins 73 143 = some (.getfield 26, 146, 2, 3, 0) := rfl
theorem xi_73_146 : xm_ins 73 146 = some (.ireturn, 147, 0, 0, 0) := rfl
theorem xi_73_147 : xm_ins 73 147 = some (.aload_n 0, 148, 0, 0, 0) := rfl
theorem xi_73_148 : xm_ins 73 148 = some (.getfield 18, 151, 2, 1, 1) := rfl
theorem xi_73_151 : xm_ins 73 151 = some (.getfield 171, 154, 0, 2, 0) := rfl
theorem xi_73_154 : xm_ins 73 154 = some (.ireturn, 155, 0, 0, 0) := rfl
theorem xi_73_155 : xm_ins 73 155 = some (.ldc 75, 157, 0, 0, (-1000001)) := rfl
theorem xi_73_157 : xm_ins 73 157 = some (.ireturn, 158, 0, 0, 0) := rfl
theorem xn_74 (pc : Nat) : xm_ins 74 pc = xm_find xt_74 pc := rfl
theorem xi_74_0 : xm_ins 74 0 = some (.aload_n 0, 1, 0, 0, 0) := rfl
theorem xi_74_1 : xm_ins 74 1 = some (.getfield 26, 4, 2, 3, 0) := rfl
theorem xi_74_4 : xm_ins 74 4 = some (.ifCond .ne 6, 7, 10, 0, 0) := rfl
theorem xi_74_7 : xm_ins 74 7 = some (.ldc 174, 9, 0, 0, (-1000002)) := rfl
theorem xi_74_9 : xm_ins 74 9 = some (.ireturn, 10, 0, 0, 0) := rfl
theorem xi_74_10 : xm_ins 74 10 = some (.aload_n 0, 11, 0, 0, 0) := rfl
theorem xi_74_11 : xm_ins 74 11 = some (.aload_n 0, 12, 0, 0, 0) := rfl
theorem xi_74_12 : xm_ins 74 12 = some (.getfield 22, 15, 2, 2, 0) := rfl
theorem xi_74_15 : xm_ins 74 15 = some (.bipush 6, 17, 0, 0, 6) := rfl
theorem xi_74_17 : xm_ins 74 17 = some (.iadd, 18, 0, 0, 0) := rfl
theorem xi_74_18 : xm_ins 74 18 = some (.iconst 1, 19, 0, 0, 1) := rfl
theorem xi_74_19 : xm_ins 74 19 = some (.isub, 20, 0, 0, 0) := rfl
theorem xi_74_20 : xm_ins 74 20 = some (.bipush 6, 22, 0, 0, 6) := rfl
theorem xi_74_22 : xm_ins 74 22 = some (.irem, 23, 0, 0, 0) := rfl
theorem xi_74_23 : xm_ins 74 23 = some (.putfield 22, 26, 2, 2, 0) := rfl
theorem xi_74_26 : xm_ins 74 26 = some (.aload_n 0, 27, 0, 0, 0) := rfl
theorem xi_74_27 : xm_ins 74 27 = some (.dup, 28, 0, 0, 0) := rfl
theorem xi_74_28 : xm_ins 74 28 = some (.getfield 26, 31, 2, 3, 0) := rfl
theorem xi_74_31 : xm_ins 74 31 = some (.iconst 1, 32, 0, 0, 1) := rfl
theorem xi_74_32 : xm_ins 74 32 = some (.isub, 33, 0, 0, 0) := rfl
theorem xi_74_33 : xm_ins 74 33 = some (.putfield 26, 36, 2, 3, 0) := rfl
theorem xi_74_36 : xm_ins 74 36 = some (.aload_n 0, 37, 0, 0, 0) := rfl
theorem xi_74_37 : xm_ins 74 37 = some (.getfield 26, 40, 2, 3, 0) := rfl
theorem xi_74_40 : xm_ins 74 40 = some (.ireturn, 41, 0, 0, 0) := rfl
theorem xn_75 (pc : Nat) : xm_ins 75 pc = xm_find xt_75 pc := rfl
theorem xi_75_0 : xm_ins 75 0 = some (.iload_n 1, 1, 1, 0, 0) := rfl
theorem xi_75_1 : xm_ins 75 1 = some (.bipush 32, 3, 0, 0, 32) := rfl
theorem xi_75_3 : xm_ins 75 3 = some (.if_icmp .lt 9, 6, 12, 0, 0) := rfl
theorem xi_75_6 : xm_ins 75 6 = some (.iload_n 1, 7, 1, 0, 0) := rfl
theorem xi_75_7 : xm_ins 75 7 = some (.bipush 126, 9, 0, 0, 126) := rfl
theorem xi_75_9 : xm_ins 75 9 = some (.if_icmp .le 6, 12, 15, 0, 0) := rfl
theorem xi_75_12 : xm_ins 75 12 = some (.ldc 75, 14, 0, 0, (-1000001)) := rfl
theorem xi_75_14 : xm_ins 75 14 = some (.ireturn, 15, 0, 0, 0) := rfl
theorem xi_75_15 : xm_ins 75 15 = some (.aload_n 0, 16, 0, 0, 0) := rfl
theorem xi_75_16 : xm_ins 75 16 = some (.getfield 18, 19, 2, 1, 1) := rfl
theorem xi_75_19 : xm_ins 75 19 = some (.iload_n 1, 20, 1, 0, 0) := rfl
theorem xi_75_20 : xm_ins 75 20 = some (.invokevirtual 175, 23, 1, 2, 0) := rfl
theorem xi_75_23 : xm_ins 75 23 = some (.ireturn, 24, 0, 0, 0) := rfl
theorem xn_76 (pc : Nat) : xm_ins 76 pc = xm_find xt_76 pc := rfl
theorem xi_76_0 : xm_ins 76 0 = some (.aload_n 0, 1, 0, 0, 0) := rfl
theorem xi_76_1 : xm_ins 76 1 = some (.getfield 18, 4, 2, 1, 1) := rfl
theorem xi_76_4 : xm_ins 76 4 = some (.getfield 171, 7, 0, 2, 0) := rfl
theorem xi_76_7 : xm_ins 76 7 = some (.istore_n 1, 8, 1, 0, 0) := rfl
theorem xi_76_8 : xm_ins 76 8 = some (.aload_n 0, 9, 0, 0, 0) := rfl
theorem xi_76_9 : xm_ins 76 9 = some (.getfield 18, 12, 2, 1, 1) := rfl
theorem xi_76_12 : xm_ins 76 12 = some (.iconst 0, 13, 0, 0, 0) := rfl
theorem xi_76_13 : xm_ins 76 13 = some (.putfield 171, 16, 0, 2, 0) := rfl
theorem xi_76_16 : xm_ins 76 16 = some (.iload_n 1, 17, 1, 0, 0) := rfl
theorem xi_76_17 : xm_ins 76 17 = some (.ireturn, 18, 0, 0, 0) := rfl
theorem xn_77 (pc : Nat) : xm_ins 77 pc = xm_find xt_77 pc := rfl
theorem xi_77_0 : xm_ins 77 0 = some (.iload_n 1, 1, 1, 0, 0) := rfl
theorem xi_77_1 : xm_ins 77 1 = some (.aload_n 0, 2, 0, 0, 0) := rfl
theorem xi_77_2 : xm_ins 77 2 = some (.arraylength, 3, 0, 0, 0) := rfl
theorem xi_77_3 : xm_ins 77 3 = some (.if_icmp .ge 9, 6, 12, 0, 0) := rfl
theorem xi_77_6 : xm_ins 77 6 = some (.aload_n 0, 7, 0, 0, 0) := rfl
theorem xi_77_7 : xm_ins 77 7 = some (.iload_n 1, 8, 1, 0, 0) := rfl
theorem xi_77_8 : xm_ins 77 8 = some (.iaload, 9, 0, 0, 0) := rfl
theorem xi_77_9 : xm_ins 77 9 = some (.goto 16, 12, 25, 0, 0) := rfl
theorem xi_77_12 : xm_ins 77 12 = some (.sipush 7919, 15, 0, 0, 7919) := rfl
theorem xi_77_15 : xm_ins 77 15 = some (.iload_n 1, 16, 1, 0, 0) := rfl
theorem xi_77_16 : xm_ins 77 16 = some (.bipush 41, 18, 0, 0, 41) := rfl
theorem xi_77_18 : xm_ins 77 18 = some (.iadd, 19, 0, 0, 0) := rfl
theorem xi_77_19 : xm_ins 77 19 = some (.imul, 20, 0, 0, 0) := rfl
theorem xi_77_20 : xm_ins 77 20 = some (.iload_n 1, 21, 1, 0, 0) := rfl
theorem xi_77_21 : xm_ins 77 21 = some (.bipush 71, 23, 0, 0, 71) := rfl
theorem xi_77_23 : xm_ins 77 23 = some (.iadd, 24, 0, 0, 0) := rfl
theorem xi_77_24 : xm_ins 77 24 = some (.imul, 25, 0, 0, 0) := rfl
theorem xi_77_25 : xm_ins 77 25 = some (.ireturn, 26, 0, 0, 0) := rfl
theorem xn_78 (pc : Nat) : xm_ins 78 pc = xm_find xt_78 pc := rfl
theorem xi_78_0 : xm_ins 78 0 = some (.aload_n 0, 1, 0, 0, 0) := rfl
theorem xi_78_1 : xm_ins 78 1 = some (.getfield 18, 4, 2, 1, 1) := rfl
theorem xi_78_4 : xm_ins 78 4 = some (.aload_n 0, 5, 0, 0, 0) := rfl
theorem xi_78_5 : xm_ins 78 5 = some (.invokevirtual 30, 8, 80, 1, 2) := rfl
theorem xi_78_8 : xm_ins 78 8 = some (.invokevirtual 178, 11, 2, 2, 0) := rfl
theorem xi_78_11 : xm_ins 78 11 = some (.istore_n 1, 12, 1, 0, 0) := rfl
theorem xi_78_12 : xm_ins 78 12 = some (.aload_n 0, 13, 0, 0, 0) := rfl
theorem xi_78_13 : xm_ins 78 13 = some (.aload_n 0, 14, 0, 0, 0) := rfl
theorem xi_78_14 : xm_ins 78 14 = some (.getfield 18, 17, 2, 1, 1) := rfl
theorem xi_78_17 : xm_ins 78 17 = some (.getfield 182, 20, 0, 5, 0) := rfl
theorem xi_78_20 : xm_ins 78 20 = some (.ifCond .ne 7, 23, 27, 0, 0) := rfl
theorem xi_78_23 : xm_ins 78 23 = some (.iload_n 1, 24, 1, 0, 0) := rfl
theorem xi_78_24 : xm_ins 78 24 = some (.goto 5, 27, 29, 0, 0) := rfl
theorem xi_78_27 : xm_ins 78 27 = some (.ldc 174, 29, 0, 0, (-1000002)) := rfl
theorem xi_78_29 : xm_ins 78 29 = some (.invokevirtual 38, 32, 81, 2, 2) := rfl
theorem xi_78_32 : xm_ins 78 32 = some (.ireturn, 33, 0, 0, 0) := rfl
theorem xn_79 (pc : Nat) : xm_ins 79 pc = xm_find xt_79 pc := rfl
theorem xi_79_0 : xm_ins 79 0 = some (.aload_n 0, 1, 0, 0, 0) := rfl
theorem xi_79_1 : xm_ins 79 1 = some (.getfield 11, 4, 2, 0, 1) := rfl
theorem xi_79_4 : xm_ins 79 4 = some (.aload_n 0, 5, 0, 0, 0) := rfl
theorem xi_79_5 : xm_ins 79 5 = some (.getfield 22, 8, 2, 2, 0) := rfl
theorem xi_79_8 : xm_ins 79 8 = some (.aaload, 9, 0, 0, 0) := rfl
theorem xi_79_9 : xm_ins 79 9 = some (.areturn, 10, 0, 0, 0) := rfl
theorem xn_80 (pc : Nat) : xm_ins 80 pc = xm_find xt_80 pc := rfl
theorem xi_80_0 : xm_ins 80 0 = some (.aload_n 0, 1, 0, 0, 0) := rfl
theorem xi_80_1 : xm_ins 80 1 = some (.getfield 11, 4, 2, 0, 1) := rfl
theorem xi_80_4 : xm_ins 80 4 = some (.aload_n 0, 5, 0, 0, 0) := rfl
theorem xi_80_5 : xm_ins 80 5 = some (.getfield 22, 8, 2, 2, 0) := rfl
theorem xi_80_8 : xm_ins 80 8 = some (.iconst 1, 9, 0, 0, 1) := rfl
theorem xi_80_9 : xm_ins 80 9 = some (.iadd, 10, 0, 0, 0) := rfl
theorem xi_80_10 : xm_ins 80 10 = some (.bipush 6, 12, 0, 0, 6) := rfl
theorem xi_80_12 : xm_ins 80 12 = some (.irem, 13, 0, 0, 0) := rfl
theorem xi_80_13 : xm_ins 80 13 = some (.aaload, 14, 0, 0, 0) := rfl
theorem xi_80_14 : xm_ins 80 14 = some (.astore_n 1, 15, 1, 0, 0) := rfl
theorem xi_80_15 : xm_ins 80 15 = some (.aload_n 1, 16, 1, 0, 0) := rfl
theorem xi_80_16 : xm_ins 80 16 = some (.aload_n 0, 17, 0, 0, 0) := rfl
theorem xi_80_17 : xm_ins 80 17 = some (.invokevirtual 68, 20, 79, 1, 2) := rfl
theorem xi_80_20 : xm_ins 80 20 = some (.invokevirtual 188, 23, 13, 2, 1) := rfl
theorem xi_80_23 : xm_ins 80 23 = some (.aload_n 1, 24, 1, 0, 0) := rfl
theorem xi_80_24 : xm_ins 80 24 = some (.areturn, 25, 0, 0, 0) := rfl
theorem xn_81 (pc : Nat) : xm_ins 81 pc = xm_find xt_81 pc := rfl
theorem xi_81_0 : xm_ins 81 0 = some (.iload_n 1, 1, 1, 0, 0) := rfl
theorem xi_81_1 : xm_ins 81 1 = some (.ifCond .lt 30, 4, 31, 0, 0) := rfl
theorem xi_81_4 : xm_ins 81 4 = some (.aload_n 0, 5, 0, 0, 0) := rfl
theorem xi_81_5 : xm_ins 81 5 = some (.aload_n 0, 6, 0, 0, 0) := rfl
theorem xi_81_6 : xm_ins 81 6 = some (.getfield 22, 9, 2, 2, 0) := rfl
theorem xi_81_9 : xm_ins 81 9 = some (.iconst 1, 10, 0, 0, 1) := rfl
theorem xi_81_10 : xm_ins 81 10 = some (.iadd, 11, 0, 0, 0) := rfl
theorem xi_81_11 : xm_ins 81 11 = some (.bipush 6, 13, 0, 0, 6) := rfl
theorem xi_81_13 : xm_ins 81 13 = some (.irem, 14, 0, 0, 0) := rfl
theorem xi_81_14 : xm_ins 81 14 = some (.putfield 22, 17, 2, 2, 0) := rfl
theorem xi_81_17 : xm_ins 81 17 = some (.aload_n 0, 18, 0, 0, 0) := rfl
theorem xi_81_18 : xm_ins 81 18 = some (.aload_n 0, 19, 0, 0, 0) := rfl
theorem xi_81_19 : xm_ins 81 19 = some (.getfield 26, 22, 2, 3, 0) := rfl
theorem xi_81_22 : xm_ins 81 22 = some (.iconst 1, 23, 0, 0, 1) := rfl
theorem xi_81_23 : xm_ins 81 23 = some (.iadd, 24, 0, 0, 0) := rfl
theorem xi_81_24 : xm_ins 81 24 = some (.iconst 4, 25, 0, 0, 4) := rfl
theorem xi_81_25 : xm_ins 81 25 = some (.invokestatic 192, 28, 1002, 0, 0) := rfl
theorem xi_81_28 : xm_ins 81 28 = some (.putfield 26, 31, 2, 3, 0) := rfl
theorem xi_81_31 : xm_ins 81 31 = some (.iload_n 1, 32, 1, 0, 0) := rfl
theorem xi_81_32 : xm_ins 81 32 = some (.ireturn, 33, 0, 0, 0) := rfl
theorem xn_82 (pc : Nat) : xm_ins 82 pc = xm_find xt_82 pc := rfl
theorem xi_82_0 : xm_ins 82 0 = some (.iload_n 0, 1, 0, 0, 0) := rfl
theorem xi_82_1 : xm_ins 82 1 = some (.iconst (-1), 2, 0, 0, (-1)) := rfl
theorem xi_82_2 : xm_ins 82 2 = some (.if_icmp .ne 8, 5, 10, 0, 0) := rfl
theorem xi_82_5 : xm_ins 82 5 = some (.ldc 128, 7, 0, 0, (-1000004)) := rfl
theorem xi_82_7 : xm_ins 82 7 = some (.goto 4, 10, 11, 0, 0) := rfl
theorem xi_82_10 : xm_ins 82 10 = some (.iload_n 0, 11, 0, 0, 0) := rfl
theorem xi_82_11 : xm_ins 82 11 = some (.ireturn, 12, 0, 0, 0) := rfl
theorem xn_83 (pc : Nat) : xm_ins 83 pc = xm_find xt_83 pc := rfl
theorem xi_83_0 : xm_ins 83 0 = some (.iload_n 0, 1, 0, 0, 0) := rfl
theorem xi_83_1 : xm_ins 83 1 = some (.iload_n 1, 2, 1, 0, 0) := rfl
theorem xi_83_2 : xm_ins 83 2 = some (.ishr, 3, 0, 0, 0) := rfl
theorem xi_83_3 : xm_ins 83 3 = some (.iconst 1, 4, 0, 0, 1) := rfl
theorem xi_83_4 : xm_ins 83 4 = some (.iand, 5, 0, 0, 0) := rfl
theorem xi_83_5 : xm_ins 83 5 = some (.ifCond .eq 7, 8, 12, 0, 0) := rfl
theorem xi_83_8 : xm_ins 83 8 = some (.iconst 1, 9, 0, 0, 1) := rfl
theorem xi_83_9 : xm_ins 83 9 = some (.goto 4, 12, 13, 0, 0) := rfl
theorem xi_83_12 : xm_ins 83 12 = some (.iconst 0, 13, 0, 0, 0) := rfl
theorem xi_83_13 : xm_ins 83 13 = some (.ireturn, 14, 0, 0, 0) := rfl
theorem xn_84 (pc : Nat) : xm_ins 84 pc = xm_find xt_84 pc := rfl
theorem xi_84_0 : xm_ins 84 0 = some (.iload_n 0, 1, 0, 0, 0) := rfl
theorem xi_84_1 : xm_ins 84 1 = some (.iload_n 0, 2, 0, 0, 0) := rfl
theorem xi_84_2 : xm_ins 84 2 = some (.iconst 1, 3, 0, 0, 1) := rfl
theorem xi_84_3 : xm_ins 84 3 = some (.iushr, 4, 0, 0, 0) := rfl
theorem xi_84_4 : xm_ins 84 4 = some (.ldc_w 265, 7, 0, 0, 1431655765) := rfl
theorem xi_84_7 : xm_ins 84 7 = some (.iand, 8, 0, 0, 0) := rfl
theorem xi_84_8 : xm_ins 84 8 = some (.isub, 9, 0, 0, 0) := rfl
theorem xi_84_9 : xm_ins 84 9 = some (.istore_n 0, 10, 0, 0, 0) := rfl
theorem xi_84_10 : xm_ins 84 10 = some (.iload_n 0, 11, 0, 0, 0) := rfl
theorem xi_84_11 : xm_ins 84 11 = some (.ldc_w 266, 14, 0, 0, 858993459) := rfl
theorem xi_84_14 : xm_ins 84 14 = some (.iand, 15, 0, 0, 0) := rfl
theorem xi_84_15 : xm_ins 84 15 = some (.iload_n 0, 16, 0, 0, 0) := rfl
theorem xi_84_16 : xm_ins 84 16 = some (.iconst 2, 17, 0, 0, 2) := rfl
theorem xi_84_17 : xm_ins 84 17 = some (.iushr, 18, 0, 0, 0) := rfl
theorem xi_84_18 : xm_ins 84 18 = some (.ldc_w 266, 21, 0, 0, 858993459) := rfl
theorem xi_84_21 : xm_ins 84 21 = some (.iand, 22, 0, 0, 0) := rfl
theorem xi_84_22 : xm_ins 84 22 = some (.iadd, 23, 0, 0, 0) := rfl
theorem xi_84_23 : xm_ins 84 23 = some (.istore_n 0, 24, 0, 0, 0) := rfl
theorem xi_84_24 : xm_ins 84 24 = some (.iload_n 0, 25, 0, 0, 0) := rfl
theorem xi_84_25 : xm_ins 84 25 = some (.iload_n 0, 26, 0, 0, 0) := rfl
theorem xi_84_26 : xm_ins 84 26 = some (.iconst 4, 27, 0, 0, 4) := rfl
theorem xi_84_27 : xm_ins 84 27 = some (.iushr, 28, 0, 0, 0) := rfl
theorem xi_84_28 : xm_ins 84 28 = some (.iadd, 29, 0, 0, 0) := rfl
theorem xi_84_29 : xm_ins 84 29 = some (.ldc_w 267, 32, 0, 0, 252645135) := rfl
theorem xi_84_32 : xm_ins 84 32 = some (.iand, 33, 0, 0, 0) := rfl
theorem xi_84_33 : xm_ins 84 33 = some (.istore_n 0, 34, 0, 0, 0) := rfl
theorem xi_84_34 : xm_ins 84 34 = some (.iload_n 0, 35, 0, 0, 0) := rfl
theorem xi_84_35 : xm_ins 84 35 = some (.iload_n 0, 36, 0, 0, 0) := rfl
theorem xi_84_36 : xm_ins 84 36 = some (.bipush 8, 38, 0, 0, 8) := rfl
theorem xi_84_38 : xm_ins 84 38 = some (.iushr, 39, 0, 0, 0) := rfl
theorem xi_84_39 : xm_ins 84 39 = some (.iadd, 40, 0, 0, 0) := rfl
theorem xi_84_40 : xm_ins 84 40 = some (.istore_n 0, 41, 0, 0, 0) := rfl
theorem xi_84_41 : xm_ins 84 41 = some (.iload_n 0, 42, 0, 0, 0) := rfl
theorem xi_84_42 : xm_ins 84 42 = some (.iload_n 0, 43, 0, 0, 0) := rfl
theorem xi_84_43 : xm_ins 84 43 = some (.bipush 16, 45, 0, 0, 16) := rfl
theorem xi_84_45 : xm_ins 84 45 = some (.iushr, 46, 0, 0, 0) := rfl
theorem xi_84_46 : xm_ins 84 46 = some (.iadd, 47, 0, 0, 0) := rfl
theorem xi_84_47 : xm_ins 84 47 = some (.istore_n 0, 48, 0, 0, 0) := rfl
theorem xi_84_48 : xm_ins 84 48 = some (.iload_n 0, 49, 0, 0, 0) := rfl
theorem xi_84_49 : xm_ins 84 49 = some (.bipush 63, 51, 0, 0, 63) := rfl
theorem xi_84_51 : xm_ins 84 51 = some (.iand, 52, 0, 0, 0) := rfl
theorem xi_84_52 : xm_ins 84 52 = some (.ireturn, 53, 0, 0, 0) := rfl
theorem xn_85 (pc : Nat) : xm_ins 85 pc = xm_find xt_85 pc := rfl
theorem xi_85_0 : xm_ins 85 0 = some (.iload_n 0, 1, 0, 0, 0) := rfl
theorem xi_85_1 : xm_ins 85 1 = some (.ldc 7, 3, 0, 0, 2147483647) := rfl
theorem xi_85_3 : xm_ins 85 3 = some (.iand, 4, 0, 0, 0) := rfl
theorem xi_85_4 : xm_ins 85 4 = some (.iload_n 1, 5, 1, 0, 0) := rfl
theorem xi_85_5 : xm_ins 85 5 = some (.irem, 6, 0, 0, 0) := rfl
theorem xi_85_6 : xm_ins 85 6 = some (.ireturn, 7, 0, 0, 0) := rfl
theorem xn_86 (pc : Nat) : xm_ins 86 pc = xm_find xt_86 pc := rfl
theorem xi_86_0 : xm_ins 86 0 = some (.iconst 0, 1, 0, 0, 0) := rfl
theorem xi_86_1 : xm_ins 86 1 = some (.istore_n 1, 2, 1, 0, 0) := rfl
theorem xi_86_2 : xm_ins 86 2 = some (.iconst 0, 3, 0, 0, 0) := rfl
theorem xi_86_3 : xm_ins 86 3 = some (.istore_n 2, 4, 2, 0, 0) := rfl
theorem xi_86_4 : xm_ins 86 4 = some (.iload_n 2, 5, 2, 0, 0) := rfl
theorem xi_86_5 : xm_ins 86 5 = some (.bipush 30, 7, 0, 0, 30) := rfl
theorem xi_86_7 : xm_ins 86 7 = some (.if_icmp .ge 17, 10, 24, 0, 0) := rfl
theorem xi_86_10 : xm_ins 86 10 = some (.iload_n 1, 11, 1, 0, 0) := rfl
theorem xi_86_11 : xm_ins 86 11 = some (.iload_n 0, 12, 0, 0, 0) := rfl
theorem xi_86_12 : xm_ins 86 12 = some (.iload_n 2, 13, 2, 0, 0) := rfl
theorem xi_86_13 : xm_ins 86 13 = some (.ishr, 14, 0, 0, 0) := rfl
theorem xi_86_14 : xm_ins 86 14 = some (.iconst 1, 15, 0, 0, 1) := rfl
theorem xi_86_15 : xm_ins 86 15 = some (.iand, 16, 0, 0, 0) := rfl
theorem xi_86_16 : xm_ins 86 16 = some (.iadd, 17, 0, 0, 0) := rfl
theorem xi_86_17 : xm_ins 86 17 = some (.istore_n 1, 18, 1, 0, 0) := rfl
theorem xi_86_18 : xm_ins 86 18 = some (.iinc 2 1, 21, 2, 0, 1) := rfl
theorem xi_86_21 : xm_ins 86 21 = some (.goto (-17), 24, 4, 0, 0) := rfl
theorem xi_86_24 : xm_ins 86 24 = some (.iload_n 1, 25, 1, 0, 0) := rfl
theorem xi_86_25 : xm_ins 86 25 = some (.ireturn, 26, 0, 0, 0) := rfl
theorem xn_87 (pc : Nat) : xm_ins 87 pc = xm_find xt_87 pc := rfl
theorem xi_87_0 : xm_ins 87 0 = some (.ldc2_w 8, 3, 0, 0, 67) := rfl
theorem xi_87_3 : xm_ins 87 3 = some (.lstore_n 1, 4, 1, 0, 0) := rfl
theorem xi_87_4 : xm_ins 87 4 = some (.iconst 0, 5, 0, 0, 0) := rfl
theorem xi_87_5 : xm_ins 87 5 = some (.istore_n 3, 6, 3, 0, 0) := rfl
theorem xi_87_6 : xm_ins 87 6 = some (.iload_n 3, 7, 3, 0, 0) := rfl
theorem xi_87_7 : xm_ins 87 7 = some (.bipush 12, 9, 0, 0, 12) := rfl
theorem xi_87_9 : xm_ins 87 9 = some (.if_icmp .ge 22, 12, 31, 0, 0) := rfl
theorem xi_87_12 : xm_ins 87 12 = some (.ldc2_w 10, 15, 0, 0, 31) := rfl
theorem xi_87_15 : xm_ins 87 15 = some (.lload_n 1, 16, 1, 0, 0) := rfl
theorem xi_87_16 : xm_ins 87 16 = some (.lmul, 17, 0, 0, 0) := rfl
theorem xi_87_17 : xm_ins 87 17 = some (.aload_n 0, 18, 0, 0, 0) := rfl
theorem xi_87_18 : xm_ins 87 18 = some (.iload_n 3, 19, 3, 0, 0) := rfl
theorem xi_87_19 : xm_ins 87 19 = some (.invokevirtual 12, 22, 73, 2, 2) := rfl
theorem xi_87_22 : xm_ins 87 22 = some (.i2l, 23, 0, 0, 0) := rfl
theorem xi_87_23 : xm_ins 87 23 = some (.ladd, 24, 0, 0, 0) := rfl
theorem xi_87_24 : xm_ins 87 24 = some (.lstore_n 1, 25, 1, 0, 0) := rfl
theorem xi_87_25 : xm_ins 87 25 = some (.iinc 3 1, 28, 3, 0, 1) := rfl
theorem xi_87_28 : xm_ins 87 28 = some (.goto (-22), 31, 6, 0, 0) := rfl
theorem xi_87_31 : xm_ins 87 31 = some (.iconst 0, 32, 0, 0, 0) := rfl
theorem xi_87_32 : xm_ins 87 32 = some (.istore_n 3, 33, 3, 0, 0) := rfl
theorem xi_87_33 : xm_ins 87 33 = some (.iload_n 3, 34, 3, 0, 0) := rfl
theorem xi_87_34 : xm_ins 87 34 = some (.bipush 10, 36, 0, 0, 10) := rfl
theorem xi_87_36 : xm_ins 87 36 = some (.aload_n 0, 37, 0, 0, 0) := rfl
theorem xi_87_37 : xm_ins 87 37 = some (.iconst 0, 38, 0, 0, 0) := rfl
theorem xi_87_38 : xm_ins 87 38 = some (.invokevirtual 12, 41, 73, 2, 2) := rfl
theorem xi_87_41 : xm_ins 87 41 = some (.imul, 42, 0, 0, 0) := rfl
theorem xi_87_42 : xm_ins 87 42 = some (.if_icmp .ge 29, 45, 71, 0, 0) := rfl
theorem xi_87_45 : xm_ins 87 45 = some (.ldc2_w 10, 48, 0, 0, 31) := rfl
theorem xi_87_48 : xm_ins 87 48 = some (.lload_n 1, 49, 1, 0, 0) := rfl
theorem xi_87_49 : xm_ins 87 49 = some (.lmul, 50, 0, 0, 0) := rfl
theorem xi_87_50 : xm_ins 87 50 = some (.aload_n 0, 51, 0, 0, 0) := rfl
theorem xi_87_51 : xm_ins 87 51 = some (.iload_n 3, 52, 3, 0, 0) := rfl
theorem xi_87_52 : xm_ins 87 52 = some (.bipush 10, 54, 0, 0, 10) := rfl
theorem xi_87_54 : xm_ins 87 54 = some (.idiv, 55, 0, 0, 0) := rfl
theorem xi_87_55 : xm_ins 87 55 = some (.iload_n 3, 56, 3, 0, 0) := rfl
theorem xi_87_56 : xm_ins 87 56 = some (.bipush 10, 58, 0, 0, 10) := rfl
theorem xi_87_58 : xm_ins 87 58 = some (.irem, 59, 0, 0, 0) := rfl
theorem xi_87_59 : xm_ins 87 59 = some (.invokevirtual 18, 62, 65, 3, 2) := rfl
theorem xi_87_62 : xm_ins 87 62 = some (.i2l, 63, 0, 0, 0) := rfl
theorem xi_87_63 : xm_ins 87 63 = some (.ladd, 64, 0, 0, 0) := rfl
theorem xi_87_64 : xm_ins 87 64 = some (.lstore_n 1, 65, 1, 0, 0) := rfl
theorem xi_87_65 : xm_ins 87 65 = some (.iinc 3 1, 68, 3, 0, 1) := rfl
theorem xi_87_68 : xm_ins 87 68 = some (.goto (-35), 71, 33, 0, 0) := rfl
theorem xi_87_71 : xm_ins 87 71 = some (.iconst 0, 72, 0, 0, 0) := rfl
theorem xi_87_72 : xm_ins 87 72 = some (.istore_n 3, 73, 3, 0, 0) := rfl
theorem xi_87_73 : xm_ins 87 73 = some (.iload_n 3, 74, 3, 0, 0) := rfl
theorem xi_87_74 : xm_ins 87 74 = some (.bipush 64, 76, 0, 0, 64) := rfl
theorem xi_87_76 : xm_ins 87 76 = some (.if_icmp .ge 29, 79, 105, 0, 0) := rfl
theorem xi_87_79 : xm_ins 87 79 = some (.ldc2_w 10, 82, 0, 0, 31) := rfl
theorem xi_87_82 : xm_ins 87 82 = some (.lload_n 1, 83, 1, 0, 0) := rfl
theorem xi_87_83 : xm_ins 87 83 = some (.lmul, 84, 0, 0, 0) := rfl
theorem xi_87_84 : xm_ins 87 84 = some (.aload_n 0, 85, 0, 0, 0) := rfl
theorem xi_87_85 : xm_ins 87 85 = some (.iload_n 3, 86, 3, 0, 0) := rfl
theorem xi_87_86 : xm_ins 87 86 = some (.bipush 8, 88, 0, 0, 8) := rfl
theorem xi_87_88 : xm_ins 87 88 = some (.idiv, 89, 0, 0, 0) := rfl
theorem xi_87_89 : xm_ins 87 89 = some (.iload_n 3, 90, 3, 0, 0) := rfl
theorem xi_87_90 : xm_ins 87 90 = some (.bipush 8, 92, 0, 0, 8) := rfl
theorem xi_87_92 : xm_ins 87 92 = some (.irem, 93, 0, 0, 0) := rfl
theorem xi_87_93 : xm_ins 87 93 = some (.invokevirtual 22, 96, 66, 3, 2) := rfl
theorem xi_87_96 : xm_ins 87 96 = some (.i2l, 97, 0, 0, 0) := rfl
theorem xi_87_97 : xm_ins 87 97 = some (.ladd, 98, 0, 0, 0) := rfl
theorem xi_87_98 : xm_ins 87 98 = some (.lstore_n 1, 99, 1, 0, 0) := rfl
theorem xi_87_99 : xm_ins 87 99 = some (.iinc 3 1, 102, 3, 0, 1) := rfl
theorem xi_87_102 : xm_ins 87 102 = some (.goto (-29), 105, 73, 0, 0) := rfl
theorem xi_87_105 : xm_ins 87 105 = some (.iconst 0, 106, 0, 0, 0) := rfl
theorem xi_87_106 : xm_ins 87 106 = some (.istore_n 3, 107, 3, 0, 0) := rfl
theorem xi_87_107 : xm_ins 87 107 = some (.iload_n 3, 108, 3, 0, 0) := rfl
theorem xi_87_108 : xm_ins 87 108 = some (.iconst 4, 109, 0, 0, 4) := rfl
theorem xi_87_109 : xm_ins 87 109 = some (.if_icmp .ge 22, 112, 131, 0, 0) := rfl
theorem xi_87_112 : xm_ins 87 112 = some (.ldc2_w 10, 115, 0, 0, 31) := rfl
theorem xi_87_115 : xm_ins 87 115 = some (.lload_n 1, 116, 1, 0, 0) := rfl
theorem xi_87_116 : xm_ins 87 116 = some (.lmul, 117, 0, 0, 0) := rfl
theorem xi_87_117 : xm_ins 87 117 = some (.aload_n 0, 118, 0, 0, 0) := rfl
theorem xi_87_118 : xm_ins 87 118 = some (.iload_n 3, 119, 3, 0, 0) := rfl
theorem xi_87_119 : xm_ins 87 119 = some (.invokevirtual 25, 122, 67, 2, 2) := rfl
theorem xi_87_122 : xm_ins 87 122 = some (.i2l, 123, 0, 0, 0) := rfl
theorem xi_87_123 : xm_ins 87 123 = some (.ladd, 124, 0, 0, 0) := rfl
theorem xi_87_124 : xm_ins 87 124 = some (.lstore_n 1, 125, 1, 0, 0) := rfl
theorem xi_87_125 : xm_ins 87 125 = some (.iinc 3 1, 128, 3, 0, 1) := rfl
theorem xi_87_128 : xm_ins 87 128 = some (.goto (-21), 131, 107, 0, 0) := rfl
theorem xi_87_131 : xm_ins 87 131 = some (.ldc2_w 10, 134, 0, 0, 31) := rfl
set_option maxRecDepth 100000 in
theorem xi_87_134 : xm_ins 87 134 = some (.lload_n 1, 135, 1, 0, 0) := rfl
set_option maxRecDepth 100000 in
theorem xi_87_135 : xm_ins 87 135 = some (.lmul, 136, 0, 0, 0) := rfl
set_option maxRecDepth 100000 in
theorem xi_87_136 : xm_ins 87 136 = some (.aload_n 0, 137, 0, 0, 0) := rfl
set_option maxRecDepth 100000 in
theorem xi_87_137 : xm_ins 87 137 = some (.iconst 0, 138, 0, 0, 0) := rfl
set_option maxRecDepth 100000 in
theorem xi_87_138 : xm_ins 87 138 = some (.invokevirtual 28, 141, 69, 2, 2) := rfl
set_option maxRecDepth 100000 in
theorem xi_87_141 : xm_ins 87 141 = some (.i2l, 142, 0, 0, 0) := rfl
set_option maxRecDepth 100000 in
theorem xi_87_142 : xm_ins 87 142 = some (.ladd, 143, 0, 0, 0) := rfl
set_option maxRecDepth 100000 in
theorem xi_87_143 : xm_ins 87 143 = some (.ldc2_w 31, 146, 0, 0, 7) := rfl
set_option maxRecDepth 100000 in
theorem xi_87_146 : xm_ins 87 146 = some (.aload_n 0, 147, 0, 0, 0) := rfl
set_option maxRecDepth 100000 in
theorem xi_87_147 : xm_ins 87 147 = some (.iconst 1, 148, 0, 0, 1) := rfl
set_option maxRecDepth 100000 in
theorem xi_87_148 : xm_ins 87 148 = some (.invokevirtual 28, 151, 69, 2, 2) := rfl
set_option maxRecDepth 100000 in
theorem xi_87_151 : xm_ins 87 151 = some (.i2l, 152, 0, 0, 0) := rfl
set_option maxRecDepth 100000 in
theorem xi_87_152 : xm_ins 87 152 = some (.lmul, 153, 0, 0, 0) := rfl
set_option maxRecDepth 100000 in
theorem xi_87_153 : xm_ins 87 153 = some (.ladd, 154, 0, 0, 0) := rfl
set_option maxRecDepth 100000 in
theorem xi_87_154 : xm_ins 87 154 = some (.lreturn, 155, 0, 0, 0) := rfl
theorem xn_88 (pc : Nat) : xm_ins 88 pc = xm_find xt_88 pc := rfl
theorem xi_88_0 : xm_ins 88 0 = some (.iconst 0, 1, 0, 0, 0) := rfl
theorem xi_88_1 : xm_ins 88 1 = some (.istore_n 1, 2, 1, 0, 0) := rfl
theorem xi_88_2 : xm_ins 88 2 = some (.iconst 0, 3, 0, 0, 0) := rfl
theorem xi_88_3 : xm_ins 88 3 = some (.istore_n 2, 4, 2, 0, 0) := rfl
theorem xi_88_4 : xm_ins 88 4 = some (.iconst 0, 5, 0, 0, 0) := rfl
theorem xi_88_5 : xm_ins 88 5 = some (.istore_n 3, 6, 3, 0, 0) := rfl
theorem xi_88_6 : xm_ins 88 6 = some (.iconst 0, 7, 0, 0, 0) := rfl
theorem xi_88_7 : xm_ins 88 7 = some (.istore 4, 9, 4, 0, 0) := rfl
theorem xi_88_9 : xm_ins 88 9 = some (.iconst 0, 10, 0, 0, 0) := rfl
theorem xi_88_10 : xm_ins 88 10 = some (.istore 5, 12, 5, 0, 0) := rfl
theorem xi_88_12 : xm_ins 88 12 = some (.iconst 0, 13, 0, 0, 0) := rfl
theorem xi_88_13 : xm_ins 88 13 = some (.istore 6, 15, 6, 0, 0) := rfl
theorem xi_88_15 : xm_ins 88 15 = some (.iload 6, 17, 6, 0, 0) := rfl
theorem xi_88_17 : xm_ins 88 17 = some (.aload_n 0, 18, 0, 0, 0) := rfl
theorem xi_88_18 : xm_ins 88 18 = some (.iconst 0, 19, 0, 0, 0) := rfl
theorem xi_88_19 : xm_ins 88 19 = some (.invokevirtual 12, 22, 73, 2, 2) := rfl
theorem xi_88_22 : xm_ins 88 22 = some (.if_icmp .ge 314, 25, 336, 0, 0) := rfl
theorem xi_88_25 : xm_ins 88 25 = some (.aload_n 0, 26, 0, 0, 0) := rfl
theorem xi_88_26 : xm_ins 88 26 = some (.iload 6, 28, 6, 0, 0) := rfl
theorem xi_88_28 : xm_ins 88 28 = some (.iconst 1, 29, 0, 0, 1) := rfl
theorem xi_88_29 : xm_ins 88 29 = some (.invokevirtual 18, 32, 65, 3, 2) := rfl
theorem xi_88_32 : xm_ins 88 32 = some (.istore 7, 34, 7, 0, 0) := rfl
theorem xi_88_34 : xm_ins 88 34 = some (.aload_n 0, 35, 0, 0, 0) := rfl
theorem xi_88_35 : xm_ins 88 35 = some (.iload 6, 37, 6, 0, 0) := rfl
theorem xi_88_37 : xm_ins 88 37 = some (.iconst 0, 38, 0, 0, 0) := rfl
theorem xi_88_38 : xm_ins 88 38 = some (.invokevirtual 18, 41, 65, 3, 2) := rfl
theorem xi_88_41 : xm_ins 88 41 = some (.iconst 1, 42, 0, 0, 1) := rfl
theorem xi_88_42 : xm_ins 88 42 = some (.if_icmp .ne 7, 45, 49, 0, 0) := rfl
theorem xi_88_45 : xm_ins 88 45 = some (.iconst 1, 46, 0, 0, 1) := rfl
theorem xi_88_46 : xm_ins 88 46 = some (.goto 4, 49, 50, 0, 0) := rfl
theorem xi_88_49 : xm_ins 88 49 = some (.iconst 0, 50, 0, 0, 0) := rfl
theorem xi_88_50 : xm_ins 88 50 = some (.istore 8, 52, 8, 0, 0) := rfl
theorem xi_88_52 : xm_ins 88 52 = some (.iload 5, 54, 5, 0, 0) := rfl
theorem xi_88_54 : xm_ins 88 54 = some (.aload_n 0, 55, 0, 0, 0) := rfl
theorem xi_88_55 : xm_ins 88 55 = some (.iload 6, 57, 6, 0, 0) := rfl
theorem xi_88_57 : xm_ins 88 57 = some (.bipush 9, 59, 0, 0, 9) := rfl
theorem xi_88_59 : xm_ins 88 59 = some (.invokevirtual 18, 62, 65, 3, 2) := rfl
theorem xi_88_62 : xm_ins 88 62 = some (.iadd, 63, 0, 0, 0) := rfl
theorem xi_88_63 : xm_ins 88 63 = some (.istore 5, 65, 5, 0, 0) := rfl
theorem xi_88_65 : xm_ins 88 65 = some (.iload_n 3, 66, 3, 0, 0) := rfl
theorem xi_88_66 : xm_ins 88 66 = some (.aload_n 0, 67, 0, 0, 0) := rfl
theorem xi_88_67 : xm_ins 88 67 = some (.iload 6, 69, 6, 0, 0) := rfl
theorem xi_88_69 : xm_ins 88 69 = some (.bipush 7, 71, 0, 0, 7) := rfl
theorem xi_88_71 : xm_ins 88 71 = some (.invokevirtual 18, 74, 65, 3, 2) := rfl
theorem xi_88_74 : xm_ins 88 74 = some (.ifCond .le 10, 77, 84, 0, 0) := rfl
theorem xi_88_77 : xm_ins 88 77 = some (.iconst 1, 78, 0, 0, 1) := rfl
theorem xi_88_78 : xm_ins 88 78 = some (.iload 6, 80, 6, 0, 0) := rfl
theorem xi_88_80 : xm_ins 88 80 = some (.ishl, 81, 0, 0, 0) := rfl
theorem xi_88_81 : xm_ins 88 81 = some (.goto 4, 84, 85, 0, 0) := rfl
theorem xi_88_84 : xm_ins 88 84 = some (.iconst 0, 85, 0, 0, 0) := rfl
theorem xi_88_85 : xm_ins 88 85 = some (.ior, 86, 0, 0, 0) := rfl
theorem xi_88_86 : xm_ins 88 86 = some (.istore_n 3, 87, 3, 0, 0) := rfl
theorem xi_88_87 : xm_ins 88 87 = some (.iload_n 2, 88, 2, 0, 0) := rfl
theorem xi_88_88 : xm_ins 88 88 = some (.aload_n 0, 89, 0, 0, 0) := rfl
theorem xi_88_89 : xm_ins 88 89 = some (.iload 6, 91, 6, 0, 0) := rfl
theorem xi_88_91 : xm_ins 88 91 = some (.iconst 3, 92, 0, 0, 3) := rfl
theorem xi_88_92 : xm_ins 88 92 = some (.invokevirtual 18, 95, 65, 3, 2) := rfl
theorem xi_88_95 : xm_ins 88 95 = some (.iload 6, 97, 6, 0, 0) := rfl
theorem xi_88_97 : xm_ins 88 97 = some (.ishl, 98, 0, 0, 0) := rfl
theorem xi_88_98 : xm_ins 88 98 = some (.ior, 99, 0, 0, 0) := rfl
theorem xi_88_99 : xm_ins 88 99 = some (.istore_n 2, 100, 2, 0, 0) := rfl
theorem xi_88_100 : xm_ins 88 100 = some (.iload 8, 102, 8, 0, 0) := rfl
theorem xi_88_102 : xm_ins 88 102 = some (.iload 7, 104, 7, 0, 0) := rfl
theorem xi_88_104 : xm_ins 88 104 = some (.ifCond .lt 7, 107, 111, 0, 0) := rfl
theorem xi_88_107 : xm_ins 88 107 = some (.iconst 1, 108, 0, 0, 1) := rfl
theorem xi_88_108 : xm_ins 88 108 = some (.goto 4, 111, 112, 0, 0) := rfl
theorem xi_88_111 : xm_ins 88 111 = some (.iconst 0, 112, 0, 0, 0) := rfl
theorem xi_88_112 : xm_ins 88 112 = some (.if_icmp .ne 104, 115, 216, 0, 0) := rfl
theorem xi_88_115 : xm_ins 88 115 = some (.iload 8, 117, 8, 0, 0) := rfl
theorem xi_88_117 : xm_ins 88 117 = some (.ifCond .eq 62, 120, 179, 0, 0) := rfl
theorem xi_88_120 : xm_ins 88 120 = some (.aload_n 0, 121, 0, 0, 0) := rfl
theorem xi_88_121 : xm_ins 88 121 = some (.iload 7, 123, 7, 0, 0) := rfl
theorem xi_88_123 : xm_ins 88 123 = some (.bipush 10, 125, 0, 0, 10) := rfl
theorem xi_88_125 : xm_ins 88 125 = some (.idiv, 126, 0, 0, 0) := rfl
theorem xi_88_126 : xm_ins 88 126 = some (.iconst 3, 127, 0, 0, 3) := rfl
theorem xi_88_127 : xm_ins 88 127 = some (.iload 7, 129, 7, 0, 0) := rfl
theorem xi_88_129 : xm_ins 88 129 = some (.bipush 10, 131, 0, 0, 10) := rfl
theorem xi_88_131 : xm_ins 88 131 = some (.irem, 132, 0, 0, 0) := rfl
theorem xi_88_132 : xm_ins 88 132 = some (.iadd, 133, 0, 0, 0) := rfl
theorem xi_88_133 : xm_ins 88 133 = some (.invokevirtual 22, 136, 66, 3, 2) := rfl
theorem xi_88_136 : xm_ins 88 136 = some (.iload 6, 138, 6, 0, 0) := rfl
set_option maxRecDepth 100000 in
theorem xi_88_138 : xm_ins 88 138 = some (.if_icmp .ne 78, 141, 216, 0, 0) := rfl
set_option maxRecDepth 100000 in
theorem xi_88_141 : xm_ins 88 141 = some (.aload_n 0, 142, 0, 0, 0) := rfl
set_option maxRecDepth 100000 in
theorem xi_88_142 : xm_ins 88 142 = some (.iload 7, 144, 7, 0, 0) := rfl
set_option maxRecDepth 100000 in
theorem xi_88_144 : xm_ins 88 144 = some (.bipush 10, 146, 0, 0, 10) := rfl
set_option maxRecDepth 100000 in
theorem xi_88_146 : xm_ins 88 146 = some (.idiv, 147, 0, 0, 0) := rfl
set_option maxRecDepth 100000 in
theorem xi_88_147 : xm_ins 88 147 = some (.iconst 0, 148, 0, 0, 0) := rfl
set_option maxRecDepth 100000 in
theorem xi_88_148 : xm_ins 88 148 = some (.invokevirtual 22, 151, 66, 3, 2) := rfl
set_option maxRecDepth 100000 in
theorem xi_88_151 : xm_ins 88 151 = some (.aload_n 0, 152, 0, 0, 0) := rfl
set_option maxRecDepth 100000 in
theorem xi_88_152 : xm_ins 88 152 = some (.iload 6, 154, 6, 0, 0) := rfl
set_option maxRecDepth 100000 in
theorem xi_88_154 : xm_ins 88 154 = some (.iconst 2, 155, 0, 0, 2) := rfl
set_option maxRecDepth 100000 in
theorem xi_88_155 : xm_ins 88 155 = some (.invokevirtual 18, 158, 65, 3, 2) := rfl
set_option maxRecDepth 100000 in
theorem xi_88_158 : xm_ins 88 158 = some (.if_icmp .ne 58, 161, 216, 0, 0) := rfl
set_option maxRecDepth 100000 in
theorem xi_88_161 : xm_ins 88 161 = some (.aload_n 0, 162, 0, 0, 0) := rfl
set_option maxRecDepth 100000 in
theorem xi_88_162 : xm_ins 88 162 = some (.iload 7, 164, 7, 0, 0) := rfl
set_option maxRecDepth 100000 in
theorem xi_88_164 : xm_ins 88 164 = some (.bipush 10, 166, 0, 0, 10) := rfl
set_option maxRecDepth 100000 in
theorem xi_88_166 : xm_ins 88 166 = some (.idiv, 167, 0, 0, 0) := rfl
set_option maxRecDepth 100000 in
theorem xi_88_167 : xm_ins 88 167 = some (.iconst 2, 168, 0, 0, 2) := rfl
set_option maxRecDepth 100000 in
theorem xi_88_168 : xm_ins 88 168 = some (.invokevirtual 22, 171, 66, 3, 2) := rfl
set_option maxRecDepth 100000 in
theorem xi_88_171 : xm_ins 88 171 = some (.iload 6, 173, 6, 0, 0) := rfl
set_option maxRecDepth 100000 in
theorem xi_88_173 : xm_ins 88 173 = some (.ishr, 174, 0, 0, 0) := rfl
set_option maxRecDepth 100000 in
theorem xi_88_174 : xm_ins 88 174 = some (.iconst 1, 175, 0, 0, 1) := rfl
set_option maxRecDepth 100000 in
theorem xi_88_175 : xm_ins 88 175 = some (.iand, 176, 0, 0, 0) := rfl
set_option maxRecDepth 100000 in
theorem xi_88_176 : xm_ins 88 176 = some (.ifCond .eq 40, 179, 216, 0, 0) := rfl
set_option maxRecDepth 100000 in
theorem xi_88_179 : xm_ins 88 179 = some (.iload 8, 181, 8, 0, 0) := rfl
set_option maxRecDepth 100000 in
theorem xi_88_181 : xm_ins 88 181 = some (.ifCond .ne 37, 184, 218, 0, 0) := rfl
set_option maxRecDepth 100000 in
theorem xi_88_184 : xm_ins 88 184 = some (.aload_n 0, 185, 0, 0, 0) := rfl
set_option maxRecDepth 100000 in
theorem xi_88_185 : xm_ins 88 185 = some (.iload 6, 187, 6, 0, 0) := rfl
set_option maxRecDepth 100000 in
theorem xi_88_187 : xm_ins 88 187 = some (.bipush 7, 189, 0, 0, 7) := rfl
set_option maxRecDepth 100000 in
theorem xi_88_189 : xm_ins 88 189 = some (.invokevirtual 18, 192, 65, 3, 2) := rfl
set_option maxRecDepth 100000 in
theorem xi_88_192 : xm_ins 88 192 = some (.ifCond .ne 24, 195, 216, 0, 0) := rfl
set_option maxRecDepth 100000 in
theorem xi_88_195 : xm_ins 88 195 = some (.aload_n 0, 196, 0, 0, 0) := rfl
set_option maxRecDepth 100000 in
theorem xi_88_196 : xm_ins 88 196 = some (.iload 6, 198, 6, 0, 0) := rfl
set_option maxRecDepth 100000 in
theorem xi_88_198 : xm_ins 88 198 = some (.bipush 8, 200, 0, 0, 8) := rfl
set_option maxRecDepth 100000 in
theorem xi_88_200 : xm_ins 88 200 = some (.invokevirtual 18, 203, 65, 3, 2) := rfl
set_option maxRecDepth 100000 in
theorem xi_88_203 : xm_ins 88 203 = some (.ifCond .ne 13, 206, 216, 0, 0) := rfl
set_option maxRecDepth 100000 in
theorem xi_88_206 : xm_ins 88 206 = some (.aload_n 0, 207, 0, 0, 0) := rfl
set_option maxRecDepth 100000 in
theorem xi_88_207 : xm_ins 88 207 = some (.iload 6, 209, 6, 0, 0) := rfl
set_option maxRecDepth 100000 in
theorem xi_88_209 : xm_ins 88 209 = some (.iconst 3, 210, 0, 0, 3) := rfl
set_option maxRecDepth 100000 in
theorem xi_88_210 : xm_ins 88 210 = some (.invokevirtual 18, 213, 65, 3, 2) := rfl
set_option maxRecDepth 100000 in
theorem xi_88_213 : xm_ins 88 213 = some (.ifCond .eq 5, 216, 218, 0, 0) := rfl
set_option maxRecDepth 100000 in
theorem xi_88_216 : xm_ins 88 216 = some (.iconst 0, 217, 0, 0, 0) := rfl
set_option maxRecDepth 100000 in
theorem xi_88_217 : xm_ins 88 217 = some (.ireturn, 218, 0, 0, 0) := rfl
set_option maxRecDepth 100000 in
theorem xi_88_218 : xm_ins 88 218 = some (.iload_n 1, 219, 1, 0, 0) := rfl
set_option maxRecDepth 100000 in
theorem xi_88_219 : xm_ins 88 219 = some (.iload 8, 221, 8, 0, 0) := rfl
set_option maxRecDepth 100000 in
theorem xi_88_221 : xm_ins 88 221 = some (.ifCond .eq 10, 224, 231, 0, 0) := rfl
set_option maxRecDepth 100000 in
theorem xi_88_224 : xm_ins 88 224 = some (.iconst 1, 225, 0, 0, 1) := rfl
set_option maxRecDepth 100000 in
theorem xi_88_225 : xm_ins 88 225 = some (.iload 6, 227, 6, 0, 0) := rfl
set_option maxRecDepth 100000 in
theorem xi_88_227 : xm_ins 88 227 = some (.ishl, 228, 0, 0, 0) := rfl
set_option maxRecDepth 100000 in
theorem xi_88_228 : xm_ins 88 228 = some (.goto 4, 231, 232, 0, 0) := rfl
set_option maxRecDepth 100000 in
theorem xi_88_231 : xm_ins 88 231 = some (.iconst 0, 232, 0, 0, 0) := rfl
set_option maxRecDepth 100000 in
theorem xi_88_232 : xm_ins 88 232 = some (.ior, 233, 0, 0, 0) := rfl
set_option maxRecDepth 100000 in
theorem xi_88_233 : xm_ins 88 233 = some (.istore_n 1, 234, 1, 0, 0) := rfl
set_option maxRecDepth 100000 in
theorem xi_88_234 : xm_ins 88 234 = some (.iconst 4, 235, 0, 0, 4) := rfl
set_option maxRecDepth 100000 in
theorem xi_88_235 : xm_ins 88 235 = some (.istore 9, 237, 9, 0, 0) := rfl
set_option maxRecDepth 100000 in
theorem xi_88_237 : xm_ins 88 237 = some (.iload 9, 239, 9, 0, 0) := rfl
set_option maxRecDepth 100000 in
theorem xi_88_239 : xm_ins 88 239 = some (.bipush 7, 241, 0, 0, 7) := rfl
set_option maxRecDepth 100000 in
theorem xi_88_241 : xm_ins 88 241 = some (.if_icmp .ge 89, 244, 330, 0, 0) := rfl
set_option maxRecDepth 100000 in
theorem xi_88_244 : xm_ins 88 244 = some (.aload_n 0, 245, 0, 0, 0) := rfl
set_option maxRecDepth 100000 in
theorem xi_88_245 : xm_ins 88 245 = some (.iload 6, 247, 6, 0, 0) := rfl
set_option maxRecDepth 100000 in
theorem xi_88_247 : xm_ins 88 247 = some (.iload 9, 249, 9, 0, 0) := rfl
set_option maxRecDepth 100000 in
theorem xi_88_249 : xm_ins 88 249 = some (.invokevirtual 18, 252, 65, 3, 2) := rfl
set_option maxRecDepth 100000 in
theorem xi_88_252 : xm_ins 88 252 = some (.istore 10, 254, 10, 0, 0) := rfl
set_option maxRecDepth 100000 in
theorem xi_88_254 : xm_ins 88 254 = some (.iload 10, 256, 10, 0, 0) := rfl
set_option maxRecDepth 100000 in
theorem xi_88_256 : xm_ins 88 256 = some (.ifCond .lt 36, 259, 292, 0, 0) := rfl
set_option maxRecDepth 100000 in
theorem xi_88_259 : xm_ins 88 259 = some (.iload 8, 261, 8, 0, 0) := rfl
set_option maxRecDepth 100000 in
theorem xi_88_261 : xm_ins 88 261 = some (.ifCond .eq 29, 264, 290, 0, 0) := rfl
set_option maxRecDepth 100000 in
theorem xi_88_264 : xm_ins 88 264 = some (.aload_n 0, 265, 0, 0, 0) := rfl
set_option maxRecDepth 100000 in
theorem xi_88_265 : xm_ins 88 265 = some (.iload 10, 267, 10, 0, 0) := rfl
set_option maxRecDepth 100000 in
theorem xi_88_267 : xm_ins 88 267 = some (.iconst 0, 268, 0, 0, 0) := rfl
set_option maxRecDepth 100000 in
theorem xi_88_268 : xm_ins 88 268 = some (.invokevirtual 18, 271, 65, 3, 2) := rfl
set_option maxRecDepth 100000 in
theorem xi_88_271 : xm_ins 88 271 = some (.ifCond .eq 19, 274, 290, 0, 0) := rfl
set_option maxRecDepth 100000 in
theorem xi_88_274 : xm_ins 88 274 = some (.aload_n 0, 275, 0, 0, 0) := rfl
set_option maxRecDepth 100000 in
theorem xi_88_275 : xm_ins 88 275 = some (.iload 10, 277, 10, 0, 0) := rfl
set_option maxRecDepth 100000 in
theorem xi_88_277 : xm_ins 88 277 = some (.bipush 8, 279, 0, 0, 8) := rfl
set_option maxRecDepth 100000 in
theorem xi_88_279 : xm_ins 88 279 = some (.invokevirtual 18, 282, 65, 3, 2) := rfl
set_option maxRecDepth 100000 in
theorem xi_88_282 : xm_ins 88 282 = some (.iload 6, 284, 6, 0, 0) := rfl
set_option maxRecDepth 100000 in
theorem xi_88_284 : xm_ins 88 284 = some (.ishr, 285, 0, 0, 0) := rfl
set_option maxRecDepth 100000 in
theorem xi_88_285 : xm_ins 88 285 = some (.iconst 1, 286, 0, 0, 1) := rfl
set_option maxRecDepth 100000 in
theorem xi_88_286 : xm_ins 88 286 = some (.iand, 287, 0, 0, 0) := rfl
set_option maxRecDepth 100000 in
theorem xi_88_287 : xm_ins 88 287 = some (.ifCond .ne 5, 290, 292, 0, 0) := rfl
set_option maxRecDepth 100000 in
theorem xi_88_290 : xm_ins 88 290 = some (.iconst 0, 291, 0, 0, 0) := rfl
set_option maxRecDepth 100000 in
theorem xi_88_291 : xm_ins 88 291 = some (.ireturn, 292, 0, 0, 0) := rfl
set_option maxRecDepth 100000 in
theorem xi_88_292 : xm_ins 88 292 = some (.iload 4, 294, 4, 0, 0) := rfl
set_option maxRecDepth 100000 in
theorem xi_88_294 : xm_ins 88 294 = some (.iload 10, 296, 10, 0, 0) := rfl
set_option maxRecDepth 100000 in
theorem xi_88_296 : xm_ins 88 296 = some (.ifCond .lt 24, 299, 320, 0, 0) := rfl
set_option maxRecDepth 100000 in
theorem xi_88_299 : xm_ins 88 299 = some (.aload_n 0, 300, 0, 0, 0) := rfl
set_option maxRecDepth 100000 in
theorem xi_88_300 : xm_ins 88 300 = some (.iload 10, 302, 10, 0, 0) := rfl
set_option maxRecDepth 100000 in
theorem xi_88_302 : xm_ins 88 302 = some (.iconst 2, 303, 0, 0, 2) := rfl
set_option maxRecDepth 100000 in
theorem xi_88_303 : xm_ins 88 303 = some (.invokevirtual 18, 306, 65, 3, 2) := rfl
set_option maxRecDepth 100000 in
theorem xi_88_306 : xm_ins 88 306 = some (.aload_n 0, 307, 0, 0, 0) := rfl
set_option maxRecDepth 100000 in
theorem xi_88_307 : xm_ins 88 307 = some (.iload 6, 309, 6, 0, 0) := rfl
set_option maxRecDepth 100000 in
theorem xi_88_309 : xm_ins 88 309 = some (.iconst 2, 310, 0, 0, 2) := rfl
set_option maxRecDepth 100000 in
theorem xi_88_310 : xm_ins 88 310 = some (.invokevirtual 18, 313, 65, 3, 2) := rfl
set_option maxRecDepth 100000 in
theorem xi_88_313 : xm_ins 88 313 = some (.if_icmp .ge 7, 316, 320, 0, 0) := rfl
set_option maxRecDepth 100000 in
theorem xi_88_316 : xm_ins 88 316 = some (.iconst 1, 317, 0, 0, 1) := rfl
set_option maxRecDepth 100000 in
theorem xi_88_317 : xm_ins 88 317 = some (.goto 4, 320, 321, 0, 0) := rfl
set_option maxRecDepth 100000 in
theorem xi_88_320 : xm_ins 88 320 = some (.iconst 0, 321, 0, 0, 0) := rfl
set_option maxRecDepth 100000 in
theorem xi_88_321 : xm_ins 88 321 = some (.iadd, 322, 0, 0, 0) := rfl
set_option maxRecDepth 100000 in
theorem xi_88_322 : xm_ins 88 322 = some (.istore 4, 324, 4, 0, 0) := rfl
set_option maxRecDepth 100000 in
theorem xi_88_324 : xm_ins 88 324 = some (.iinc 9 1, 327, 9, 0, 1) := rfl
set_option maxRecDepth 100000 in
theorem xi_88_327 : xm_ins 88 327 = some (.goto (-90), 330, 237, 0, 0) := rfl
set_option maxRecDepth 100000 in
theorem xi_88_330 : xm_ins 88 330 = some (.iinc 6 1, 333, 6, 0, 1) := rfl
set_option maxRecDepth 100000 in
theorem xi_88_333 : xm_ins 88 333 = some (.goto (-318), 336, 15, 0, 0) := rfl
set_option maxRecDepth 100000 in
theorem xi_88_336 : xm_ins 88 336 = some (.iconst 0, 337, 0, 0, 0) := rfl
set_option maxRecDepth 100000 in
theorem xi_88_337 : xm_ins 88 337 = some (.istore 6, 339, 6, 0, 0) := rfl
set_option maxRecDepth 100000 in
theorem xi_88_339 : xm_ins 88 339 = some (.iconst 0, 340, 0, 0, 0) := rfl
set_option maxRecDepth 100000 in
theorem xi_88_340 : xm_ins 88 340 = some (.istore 7, 342, 7, 0, 0) := rfl
set_option maxRecDepth 100000 in
theorem xi_88_342 : xm_ins 88 342 = some (.iconst 0, 343, 0, 0, 0) := rfl
set_option maxRecDepth 100000 in
theorem xi_88_343 : xm_ins 88 343 = some (.istore 8, 345, 8, 0, 0) := rfl
set_option maxRecDepth 100000 in
theorem xi_88_345 : xm_ins 88 345 = some (.iload 8, 347, 8, 0, 0) := rfl
set_option maxRecDepth 100000 in
theorem xi_88_347 : xm_ins 88 347 = some (.bipush 8, 349, 0, 0, 8) := rfl
set_option maxRecDepth 100000 in
theorem xi_88_349 : xm_ins 88 349 = some (.if_icmp .ge 104, 352, 453, 0, 0) := rfl
set_option maxRecDepth 100000 in
theorem xi_88_352 : xm_ins 88 352 = some (.aload_n 0, 353, 0, 0, 0) := rfl
set_option maxRecDepth 100000 in
theorem xi_88_353 : xm_ins 88 353 = some (.iload 8, 355, 8, 0, 0) := rfl
set_option maxRecDepth 100000 in
theorem xi_88_355 : xm_ins 88 355 = some (.iconst 1, 356, 0, 0, 1) := rfl
set_option maxRecDepth 100000 in
theorem xi_88_356 : xm_ins 88 356 = some (.invokevirtual 22, 359, 66, 3, 2) := rfl
set_option maxRecDepth 100000 in
theorem xi_88_359 : xm_ins 88 359 = some (.istore 9, 361, 9, 0, 0) := rfl
set_option maxRecDepth 100000 in
theorem xi_88_361 : xm_ins 88 361 = some (.iload 6, 363, 6, 0, 0) := rfl
set_option maxRecDepth 100000 in
theorem xi_88_363 : xm_ins 88 363 = some (.iload 9, 365, 9, 0, 0) := rfl
set_option maxRecDepth 100000 in
theorem xi_88_365 : xm_ins 88 365 = some (.iadd, 366, 0, 0, 0) := rfl
set_option maxRecDepth 100000 in
theorem xi_88_366 : xm_ins 88 366 = some (.istore 6, 368, 6, 0, 0) := rfl
set_option maxRecDepth 100000 in
theorem xi_88_368 : xm_ins 88 368 = some (.iload 7, 370, 7, 0, 0) := rfl
set_option maxRecDepth 100000 in
theorem xi_88_370 : xm_ins 88 370 = some (.iload 9, 372, 9, 0, 0) := rfl
set_option maxRecDepth 100000 in
theorem xi_88_372 : xm_ins 88 372 = some (.ifCond .ne 7, 375, 379, 0, 0) := rfl
set_option maxRecDepth 100000 in
theorem xi_88_375 : xm_ins 88 375 = some (.iconst 1, 376, 0, 0, 1) := rfl
set_option maxRecDepth 100000 in
theorem xi_88_376 : xm_ins 88 376 = some (.goto 4, 379, 380, 0, 0) := rfl
set_option maxRecDepth 100000 in
theorem xi_88_379 : xm_ins 88 379 = some (.iconst 0, 380, 0, 0, 0) := rfl
set_option maxRecDepth 100000 in
theorem xi_88_380 : xm_ins 88 380 = some (.iadd, 381, 0, 0, 0) := rfl
set_option maxRecDepth 100000 in
theorem xi_88_381 : xm_ins 88 381 = some (.istore 7, 383, 7, 0, 0) := rfl
set_option maxRecDepth 100000 in
theorem xi_88_383 : xm_ins 88 383 = some (.iload 9, 385, 9, 0, 0) := rfl
set_option maxRecDepth 100000 in
theorem xi_88_385 : xm_ins 88 385 = some (.ifCond .ne 7, 388, 392, 0, 0) := rfl
set_option maxRecDepth 100000 in
theorem xi_88_388 : xm_ins 88 388 = some (.iconst 1, 389, 0, 0, 1) := rfl
set_option maxRecDepth 100000 in
theorem xi_88_389 : xm_ins 88 389 = some (.goto 4, 392, 393, 0, 0) := rfl
set_option maxRecDepth 100000 in
theorem xi_88_392 : xm_ins 88 392 = some (.iconst 0, 393, 0, 0, 0) := rfl
set_option maxRecDepth 100000 in
theorem xi_88_393 : xm_ins 88 393 = some (.aload_n 0, 394, 0, 0, 0) := rfl
set_option maxRecDepth 100000 in
theorem xi_88_394 : xm_ins 88 394 = some (.iload 8, 396, 8, 0, 0) := rfl
set_option maxRecDepth 100000 in
theorem xi_88_396 : xm_ins 88 396 = some (.iconst 0, 397, 0, 0, 0) := rfl
set_option maxRecDepth 100000 in
theorem xi_88_397 : xm_ins 88 397 = some (.invokevirtual 22, 400, 66, 3, 2) := rfl
set_option maxRecDepth 100000 in
theorem xi_88_400 : xm_ins 88 400 = some (.ldc 35, 402, 0, 0, (-1000004)) := rfl
set_option maxRecDepth 100000 in
theorem xi_88_402 : xm_ins 88 402 = some (.if_icmp .ne 7, 405, 409, 0, 0) := rfl
set_option maxRecDepth 100000 in
theorem xi_88_405 : xm_ins 88 405 = some (.iconst 1, 406, 0, 0, 1) := rfl
set_option maxRecDepth 100000 in
theorem xi_88_406 : xm_ins 88 406 = some (.goto 4, 409, 410, 0, 0) := rfl
set_option maxRecDepth 100000 in
theorem xi_88_409 : xm_ins 88 409 = some (.iconst 0, 410, 0, 0, 0) := rfl
set_option maxRecDepth 100000 in
theorem xi_88_410 : xm_ins 88 410 = some (.if_icmp .ne 35, 413, 445, 0, 0) := rfl
set_option maxRecDepth 100000 in
theorem xi_88_413 : xm_ins 88 413 = some (.aload_n 0, 414, 0, 0, 0) := rfl
set_option maxRecDepth 100000 in
theorem xi_88_414 : xm_ins 88 414 = some (.iload 8, 416, 8, 0, 0) := rfl
set_option maxRecDepth 100000 in
theorem xi_88_416 : xm_ins 88 416 = some (.iconst 2, 417, 0, 0, 2) := rfl
set_option maxRecDepth 100000 in
theorem xi_88_417 : xm_ins 88 417 = some (.invokevirtual 22, 420, 66, 3, 2) := rfl
set_option maxRecDepth 100000 in
theorem xi_88_420 : xm_ins 88 420 = some (.invokestatic 36, 423, 86, 1, 0) := rfl
set_option maxRecDepth 100000 in
theorem xi_88_423 : xm_ins 88 423 = some (.iload 9, 425, 9, 0, 0) := rfl
set_option maxRecDepth 100000 in
theorem xi_88_425 : xm_ins 88 425 = some (.if_icmp .ne 20, 428, 445, 0, 0) := rfl
set_option maxRecDepth 100000 in
theorem xi_88_428 : xm_ins 88 428 = some (.iload 9, 430, 9, 0, 0) := rfl
set_option maxRecDepth 100000 in
theorem xi_88_430 : xm_ins 88 430 = some (.iconst 5, 431, 0, 0, 5) := rfl
set_option maxRecDepth 100000 in
theorem xi_88_431 : xm_ins 88 431 = some (.if_icmp .gt 14, 434, 445, 0, 0) := rfl
set_option maxRecDepth 100000 in
theorem xi_88_434 : xm_ins 88 434 = some (.aload_n 0, 435, 0, 0, 0) := rfl
set_option maxRecDepth 100000 in
theorem xi_88_435 : xm_ins 88 435 = some (.iload 8, 437, 8, 0, 0) := rfl
set_option maxRecDepth 100000 in
theorem xi_88_437 : xm_ins 88 437 = some (.iconst 0, 438, 0, 0, 0) := rfl
set_option maxRecDepth 100000 in
theorem xi_88_438 : xm_ins 88 438 = some (.invokevirtual 22, 441, 66, 3, 2) := rfl
set_option maxRecDepth 100000 in
theorem xi_88_441 : xm_ins 88 441 = some (.iconst 2, 442, 0, 0, 2) := rfl
set_option maxRecDepth 100000 in
theorem xi_88_442 : xm_ins 88 442 = some (.if_icmp .le 5, 445, 447, 0, 0) := rfl
set_option maxRecDepth 100000 in
theorem xi_88_445 : xm_ins 88 445 = some (.iconst 0, 446, 0, 0, 0) := rfl
set_option maxRecDepth 100000 in
theorem xi_88_446 : xm_ins 88 446 = some (.ireturn, 447, 0, 0, 0) := rfl
set_option maxRecDepth 100000 in
theorem xi_88_447 : xm_ins 88 447 = some (.iinc 8 1, 450, 8, 0, 1) := rfl
set_option maxRecDepth 100000 in
theorem xi_88_450 : xm_ins 88 450 = some (.goto (-105), 453, 345, 0, 0) := rfl
set_option maxRecDepth 100000 in
theorem xi_88_453 : xm_ins 88 453 = some (.aload_n 0, 454, 0, 0, 0) := rfl
set_option maxRecDepth 100000 in
theorem xi_88_454 : xm_ins 88 454 = some (.iconst 0, 455, 0, 0, 0) := rfl
set_option maxRecDepth 100000 in
theorem xi_88_455 : xm_ins 88 455 = some (.invokevirtual 28, 458, 69, 2, 2) := rfl
set_option maxRecDepth 100000 in
theorem xi_88_458 : xm_ins 88 458 = some (.istore 8, 460, 8, 0, 0) := rfl
set_option maxRecDepth 100000 in
theorem xi_88_460 : xm_ins 88 460 = some (.iload 8, 462, 8, 0, 0) := rfl
set_option maxRecDepth 100000 in
theorem xi_88_462 : xm_ins 88 462 = some (.aload_n 0, 463, 0, 0, 0) := rfl
set_option maxRecDepth 100000 in
theorem xi_88_463 : xm_ins 88 463 = some (.iconst 1, 464, 0, 0, 1) := rfl
set_option maxRecDepth 100000 in
theorem xi_88_464 : xm_ins 88 464 = some (.invokevirtual 28, 467, 69, 2, 2) := rfl
set_option maxRecDepth 100000 in
theorem xi_88_467 : xm_ins 88 467 = some (.ior, 468, 0, 0, 0) := rfl
set_option maxRecDepth 100000 in
theorem xi_88_468 : xm_ins 88 468 = some (.iload_n 1, 469, 1, 0, 0) := rfl
set_option maxRecDepth 100000 in
theorem xi_88_469 : xm_ins 88 469 = some (.if_icmp .ne 29, 472, 498, 0, 0) := rfl
set_option maxRecDepth 100000 in
theorem xi_88_472 : xm_ins 88 472 = some (.iload 8, 474, 8, 0, 0) := rfl
set_option maxRecDepth 100000 in
theorem xi_88_474 : xm_ins 88 474 = some (.aload_n 0, 475, 0, 0, 0) := rfl
set_option maxRecDepth 100000 in
theorem xi_88_475 : xm_ins 88 475 = some (.iconst 1, 476, 0, 0, 1) := rfl
set_option maxRecDepth 100000 in
theorem xi_88_476 : xm_ins 88 476 = some (.invokevirtual 28, 479, 69, 2, 2) := rfl
set_option maxRecDepth 100000 in
theorem xi_88_479 : xm_ins 88 479 = some (.iand, 480, 0, 0, 0) := rfl
set_option maxRecDepth 100000 in
theorem xi_88_480 : xm_ins 88 480 = some (.ifCond .ne 18, 483, 498, 0, 0) := rfl
set_option maxRecDepth 100000 in
theorem xi_88_483 : xm_ins 88 483 = some (.iload_n 3, 484, 3, 0, 0) := rfl
set_option maxRecDepth 100000 in
theorem xi_88_484 : xm_ins 88 484 = some (.iload_n 2, 485, 2, 0, 0) := rfl
set_option maxRecDepth 100000 in
theorem xi_88_485 : xm_ins 88 485 = some (.ior, 486, 0, 0, 0) := rfl
set_option maxRecDepth 100000 in
theorem xi_88_486 : xm_ins 88 486 = some (.iload 8, 488, 8, 0, 0) := rfl
set_option maxRecDepth 100000 in
theorem xi_88_488 : xm_ins 88 488 = some (.iconst (-1), 489, 0, 0, (-1)) := rfl
set_option maxRecDepth 100000 in
theorem xi_88_489 : xm_ins 88 489 = some (.ixor, 490, 0, 0, 0) := rfl
set_option maxRecDepth 100000 in
theorem xi_88_490 : xm_ins 88 490 = some (.iand, 491, 0, 0, 0) := rfl
set_option maxRecDepth 100000 in
theorem xi_88_491 : xm_ins 88 491 = some (.ifCond .ne 7, 494, 498, 0, 0) := rfl
set_option maxRecDepth 100000 in
theorem xi_88_494 : xm_ins 88 494 = some (.iconst 1, 495, 0, 0, 1) := rfl
set_option maxRecDepth 100000 in
theorem xi_88_495 : xm_ins 88 495 = some (.goto 4, 498, 499, 0, 0) := rfl
set_option maxRecDepth 100000 in
theorem xi_88_498 : xm_ins 88 498 = some (.iconst 0, 499, 0, 0, 0) := rfl
set_option maxRecDepth 100000 in
theorem xi_88_499 : xm_ins 88 499 = some (.istore 9, 501, 9, 0, 0) := rfl
set_option maxRecDepth 100000 in
theorem xi_88_501 : xm_ins 88 501 = some (.iload 9, 503, 9, 0, 0) := rfl
set_option maxRecDepth 100000 in
theorem xi_88_503 : xm_ins 88 503 = some (.ifCond .eq 137, 506, 640, 0, 0) := rfl
set_option maxRecDepth 100000 in
theorem xi_88_506 : xm_ins 88 506 = some (.iload 6, 508, 6, 0, 0) := rfl
set_option maxRecDepth 100000 in
theorem xi_88_508 : xm_ins 88 508 = some (.iload_n 1, 509, 1, 0, 0) := rfl
set_option maxRecDepth 100000 in
theorem xi_88_509 : xm_ins 88 509 = some (.invokestatic 36, 512, 86, 1, 0) := rfl
set_option maxRecDepth 100000 in
theorem xi_88_512 : xm_ins 88 512 = some (.if_icmp .ne 128, 515, 640, 0, 0) := rfl
set_option maxRecDepth 100000 in
theorem xi_88_515 : xm_ins 88 515 = some (.iload 6, 517, 6, 0, 0) := rfl
set_option maxRecDepth 100000 in
theorem xi_88_517 : xm_ins 88 517 = some (.aload_n 0, 518, 0, 0, 0) := rfl
set_option maxRecDepth 100000 in
theorem xi_88_518 : xm_ins 88 518 = some (.iconst 1, 519, 0, 0, 1) := rfl
set_option maxRecDepth 100000 in
theorem xi_88_519 : xm_ins 88 519 = some (.invokevirtual 12, 522, 73, 2, 2) := rfl
set_option maxRecDepth 100000 in
theorem xi_88_522 : xm_ins 88 522 = some (.if_icmp .ne 118, 525, 640, 0, 0) := rfl
set_option maxRecDepth 100000 in
theorem xi_88_525 : xm_ins 88 525 = some (.iload 7, 527, 7, 0, 0) := rfl
set_option maxRecDepth 100000 in
theorem xi_88_527 : xm_ins 88 527 = some (.aload_n 0, 528, 0, 0, 0) := rfl
set_option maxRecDepth 100000 in
theorem xi_88_528 : xm_ins 88 528 = some (.bipush 6, 530, 0, 0, 6) := rfl
set_option maxRecDepth 100000 in
theorem xi_88_530 : xm_ins 88 530 = some (.invokevirtual 12, 533, 73, 2, 2) := rfl
set_option maxRecDepth 100000 in
theorem xi_88_533 : xm_ins 88 533 = some (.if_icmp .ne 107, 536, 640, 0, 0) := rfl
set_option maxRecDepth 100000 in
theorem xi_88_536 : xm_ins 88 536 = some (.iload_n 2, 537, 2, 0, 0) := rfl
set_option maxRecDepth 100000 in
theorem xi_88_537 : xm_ins 88 537 = some (.invokestatic 36, 540, 86, 1, 0) := rfl
set_option maxRecDepth 100000 in
theorem xi_88_540 : xm_ins 88 540 = some (.aload_n 0, 541, 0, 0, 0) := rfl
set_option maxRecDepth 100000 in
theorem xi_88_541 : xm_ins 88 541 = some (.iconst 2, 542, 0, 0, 2) := rfl
set_option maxRecDepth 100000 in
theorem xi_88_542 : xm_ins 88 542 = some (.invokevirtual 12, 545, 73, 2, 2) := rfl
set_option maxRecDepth 100000 in
theorem xi_88_545 : xm_ins 88 545 = some (.if_icmp .ne 95, 548, 640, 0, 0) := rfl
set_option maxRecDepth 100000 in
theorem xi_88_548 : xm_ins 88 548 = some (.iload 4, 550, 4, 0, 0) := rfl
set_option maxRecDepth 100000 in
theorem xi_88_550 : xm_ins 88 550 = some (.aload_n 0, 551, 0, 0, 0) := rfl
set_option maxRecDepth 100000 in
theorem xi_88_551 : xm_ins 88 551 = some (.bipush 7, 553, 0, 0, 7) := rfl
set_option maxRecDepth 100000 in
theorem xi_88_553 : xm_ins 88 553 = some (.invokevirtual 12, 556, 73, 2, 2) := rfl
set_option maxRecDepth 100000 in
theorem xi_88_556 : xm_ins 88 556 = some (.if_icmp .ne 84, 559, 640, 0, 0) := rfl
set_option maxRecDepth 100000 in
theorem xi_88_559 : xm_ins 88 559 = some (.iload 5, 561, 5, 0, 0) := rfl
set_option maxRecDepth 100000 in
theorem xi_88_561 : xm_ins 88 561 = some (.aload_n 0, 562, 0, 0, 0) := rfl
set_option maxRecDepth 100000 in
theorem xi_88_562 : xm_ins 88 562 = some (.bipush 11, 564, 0, 0, 11) := rfl
set_option maxRecDepth 100000 in
theorem xi_88_564 : xm_ins 88 564 = some (.invokevirtual 12, 567, 73, 2, 2) := rfl
set_option maxRecDepth 100000 in
theorem xi_88_567 : xm_ins 88 567 = some (.if_icmp .ne 73, 570, 640, 0, 0) := rfl
set_option maxRecDepth 100000 in
theorem xi_88_570 : xm_ins 88 570 = some (.aload_n 0, 571, 0, 0, 0) := rfl
set_option maxRecDepth 100000 in
theorem xi_88_571 : xm_ins 88 571 = some (.iconst 3, 572, 0, 0, 3) := rfl
set_option maxRecDepth 100000 in
theorem xi_88_572 : xm_ins 88 572 = some (.invokevirtual 12, 575, 73, 2, 2) := rfl
set_option maxRecDepth 100000 in
theorem xi_88_575 : xm_ins 88 575 = some (.aload_n 0, 576, 0, 0, 0) := rfl
set_option maxRecDepth 100000 in
theorem xi_88_576 : xm_ins 88 576 = some (.iconst 4, 577, 0, 0, 4) := rfl
set_option maxRecDepth 100000 in
theorem xi_88_577 : xm_ins 88 577 = some (.invokevirtual 12, 580, 73, 2, 2) := rfl
set_option maxRecDepth 100000 in
theorem xi_88_580 : xm_ins 88 580 = some (.iadd, 581, 0, 0, 0) := rfl
set_option maxRecDepth 100000 in
theorem xi_88_581 : xm_ins 88 581 = some (.aload_n 0, 582, 0, 0, 0) := rfl
set_option maxRecDepth 100000 in
theorem xi_88_582 : xm_ins 88 582 = some (.iconst 5, 583, 0, 0, 5) := rfl
set_option maxRecDepth 100000 in
theorem xi_88_583 : xm_ins 88 583 = some (.invokevirtual 12, 586, 73, 2, 2) := rfl
set_option maxRecDepth 100000 in
theorem xi_88_586 : xm_ins 88 586 = some (.iadd, 587, 0, 0, 0) := rfl
set_option maxRecDepth 100000 in
theorem xi_88_587 : xm_ins 88 587 = some (.iload 6, 589, 6, 0, 0) := rfl
set_option maxRecDepth 100000 in
theorem xi_88_589 : xm_ins 88 589 = some (.if_icmp .ne 51, 592, 640, 0, 0) := rfl
set_option maxRecDepth 100000 in
theorem xi_88_592 : xm_ins 88 592 = some (.aload_n 0, 593, 0, 0, 0) := rfl
set_option maxRecDepth 100000 in
theorem xi_88_593 : xm_ins 88 593 = some (.iconst 0, 594, 0, 0, 0) := rfl
set_option maxRecDepth 100000 in
theorem xi_88_594 : xm_ins 88 594 = some (.invokevirtual 12, 597, 73, 2, 2) := rfl
set_option maxRecDepth 100000 in
theorem xi_88_597 : xm_ins 88 597 = some (.iload 6, 599, 6, 0, 0) := rfl
set_option maxRecDepth 100000 in
theorem xi_88_599 : xm_ins 88 599 = some (.isub, 600, 0, 0, 0) := rfl
set_option maxRecDepth 100000 in
theorem xi_88_600 : xm_ins 88 600 = some (.aload_n 0, 601, 0, 0, 0) := rfl
set_option maxRecDepth 100000 in
theorem xi_88_601 : xm_ins 88 601 = some (.bipush 10, 603, 0, 0, 10) := rfl
set_option maxRecDepth 100000 in
theorem xi_88_603 : xm_ins 88 603 = some (.invokevirtual 12, 606, 73, 2, 2) := rfl
set_option maxRecDepth 100000 in
theorem xi_88_606 : xm_ins 88 606 = some (.if_icmp .ne 34, 609, 640, 0, 0) := rfl
set_option maxRecDepth 100000 in
theorem xi_88_609 : xm_ins 88 609 = some (.aload_n 0, 610, 0, 0, 0) := rfl
set_option maxRecDepth 100000 in
theorem xi_88_610 : xm_ins 88 610 = some (.iload 4, 612, 4, 0, 0) := rfl
set_option maxRecDepth 100000 in
theorem xi_88_612 : xm_ins 88 612 = some (.invokevirtual 39, 615, 68, 2, 2) := rfl
set_option maxRecDepth 100000 in
theorem xi_88_615 : xm_ins 88 615 = some (.ldc 35, 617, 0, 0, (-1000004)) := rfl
set_option maxRecDepth 100000 in
theorem xi_88_617 : xm_ins 88 617 = some (.if_icmp .ne 23, 620, 640, 0, 0) := rfl
set_option maxRecDepth 100000 in
theorem xi_88_620 : xm_ins 88 620 = some (.iload 4, 622, 4, 0, 0) := rfl
set_option maxRecDepth 100000 in
theorem xi_88_622 : xm_ins 88 622 = some (.ifCond .eq 14, 625, 636, 0, 0) := rfl
set_option maxRecDepth 100000 in
theorem xi_88_625 : xm_ins 88 625 = some (.aload_n 0, 626, 0, 0, 0) := rfl
set_option maxRecDepth 100000 in
theorem xi_88_626 : xm_ins 88 626 = some (.iload 4, 628, 4, 0, 0) := rfl
set_option maxRecDepth 100000 in
theorem xi_88_628 : xm_ins 88 628 = some (.iconst 1, 629, 0, 0, 1) := rfl
set_option maxRecDepth 100000 in
theorem xi_88_629 : xm_ins 88 629 = some (.isub, 630, 0, 0, 0) := rfl
set_option maxRecDepth 100000 in
theorem xi_88_630 : xm_ins 88 630 = some (.invokevirtual 39, 633, 68, 2, 2) := rfl
set_option maxRecDepth 100000 in
theorem xi_88_633 : xm_ins 88 633 = some (.ifCond .lt 7, 636, 640, 0, 0) := rfl
set_option maxRecDepth 100000 in
theorem xi_88_636 : xm_ins 88 636 = some (.iconst 1, 637, 0, 0, 1) := rfl
set_option maxRecDepth 100000 in
theorem xi_88_637 : xm_ins 88 637 = some (.goto 4, 640, 641, 0, 0) := rfl
set_option maxRecDepth 100000 in
theorem xi_88_640 : xm_ins 88 640 = some (.iconst 0, 641, 0, 0, 0) := rfl
set_option maxRecDepth 100000 in
theorem xi_88_641 : xm_ins 88 641 = some (.ireturn, 642, 0, 0, 0) := rfl
theorem xn_89 (pc : Nat) : xm_ins 89 pc = xm_find xt_89 pc := rfl
theorem xi_89_0 : xm_ins 89 0 = some (.aload_n 0, 1, 0, 0, 0) := rfl
theorem xi_89_1 : xm_ins 89 1 = some (.iconst 0, 2, 0, 0, 0) := rfl
theorem xi_89_2 : xm_ins 89 2 = some (.invokevirtual 28, 5, 69, 2, 2) := rfl
theorem xi_89_5 : xm_ins 89 5 = some (.istore_n 2, 6, 2, 0, 0) := rfl
theorem xi_89_6 : xm_ins 89 6 = some (.iconst 0, 7, 0, 0, 0) := rfl
theorem xi_89_7 : xm_ins 89 7 = some (.istore_n 3, 8, 3, 0, 0) := rfl
theorem xi_89_8 : xm_ins 89 8 = some (.iload_n 3, 9, 3, 0, 0) := rfl
theorem xi_89_9 : xm_ins 89 9 = some (.aload_n 0, 10, 0, 0, 0) := rfl
theorem xi_89_10 : xm_ins 89 10 = some (.iconst 0, 11, 0, 0, 0) := rfl
theorem xi_89_11 : xm_ins 89 11 = some (.invokevirtual 12, 14, 73, 2, 2) := rfl
theorem xi_89_14 : xm_ins 89 14 = some (.if_icmp .ge 224, 17, 238, 0, 0) := rfl
theorem xi_89_17 : xm_ins 89 17 = some (.aload_n 0, 18, 0, 0, 0) := rfl
theorem xi_89_18 : xm_ins 89 18 = some (.iload_n 3, 19, 3, 0, 0) := rfl
theorem xi_89_19 : xm_ins 89 19 = some (.iconst 0, 20, 0, 0, 0) := rfl
theorem xi_89_20 : xm_ins 89 20 = some (.invokevirtual 18, 23, 65, 3, 2) := rfl
theorem xi_89_23 : xm_ins 89 23 = some (.iconst 1, 24, 0, 0, 1) := rfl
theorem xi_89_24 : xm_ins 89 24 = some (.if_icmp .ne 186, 27, 210, 0, 0) := rfl
theorem xi_89_27 : xm_ins 89 27 = some (.aload_n 0, 28, 0, 0, 0) := rfl
theorem xi_89_28 : xm_ins 89 28 = some (.iload_n 3, 29, 3, 0, 0) := rfl
theorem xi_89_29 : xm_ins 89 29 = some (.invokevirtual 42, 32, 72, 2, 2) := rfl
theorem xi_89_32 : xm_ins 89 32 = some (.istore 4, 34, 4, 0, 0) := rfl
theorem xi_89_34 : xm_ins 89 34 = some (.aload_n 0, 35, 0, 0, 0) := rfl
theorem xi_89_35 : xm_ins 89 35 = some (.iload_n 3, 36, 3, 0, 0) := rfl
theorem xi_89_36 : xm_ins 89 36 = some (.bipush 7, 38, 0, 0, 7) := rfl
theorem xi_89_38 : xm_ins 89 38 = some (.invokevirtual 18, 41, 65, 3, 2) := rfl
theorem xi_89_41 : xm_ins 89 41 = some (.ifCond .gt 13, 44, 54, 0, 0) := rfl
theorem xi_89_44 : xm_ins 89 44 = some (.aload_n 0, 45, 0, 0, 0) := rfl
theorem xi_89_45 : xm_ins 89 45 = some (.iload_n 3, 46, 3, 0, 0) := rfl
theorem xi_89_46 : xm_ins 89 46 = some (.iconst 3, 47, 0, 0, 3) := rfl
theorem xi_89_47 : xm_ins 89 47 = some (.invokevirtual 18, 50, 65, 3, 2) := rfl
theorem xi_89_50 : xm_ins 89 50 = some (.iconst 1, 51, 0, 0, 1) := rfl
theorem xi_89_51 : xm_ins 89 51 = some (.if_icmp .ne 7, 54, 58, 0, 0) := rfl
theorem xi_89_54 : xm_ins 89 54 = some (.iconst 1, 55, 0, 0, 1) := rfl
theorem xi_89_55 : xm_ins 89 55 = some (.goto 4, 58, 59, 0, 0) := rfl
theorem xi_89_58 : xm_ins 89 58 = some (.iconst 0, 59, 0, 0, 0) := rfl
theorem xi_89_59 : xm_ins 89 59 = some (.istore 5, 61, 5, 0, 0) := rfl
theorem xi_89_61 : xm_ins 89 61 = some (.bipush 100, 63, 0, 0, 100) := rfl
theorem xi_89_63 : xm_ins 89 63 = some (.istore 6, 65, 6, 0, 0) := rfl
theorem xi_89_65 : xm_ins 89 65 = some (.iconst 0, 66, 0, 0, 0) := rfl
theorem xi_89_66 : xm_ins 89 66 = some (.istore 7, 68, 7, 0, 0) := rfl
theorem xi_89_68 : xm_ins 89 68 = some (.iload 7, 70, 7, 0, 0) := rfl
theorem xi_89_70 : xm_ins 89 70 = some (.aload_n 0, 71, 0, 0, 0) := rfl
theorem xi_89_71 : xm_ins 89 71 = some (.iconst 0, 72, 0, 0, 0) := rfl
theorem xi_89_72 : xm_ins 89 72 = some (.invokevirtual 12, 75, 73, 2, 2) := rfl
theorem xi_89_75 : xm_ins 89 75 = some (.if_icmp .ge 75, 78, 150, 0, 0) := rfl
theorem xi_89_78 : xm_ins 89 78 = some (.aload_n 0, 79, 0, 0, 0) := rfl
theorem xi_89_79 : xm_ins 89 79 = some (.iload_n 3, 80, 3, 0, 0) := rfl
theorem xi_89_80 : xm_ins 89 80 = some (.bipush 8, 82, 0, 0, 8) := rfl
theorem xi_89_82 : xm_ins 89 82 = some (.invokevirtual 18, 85, 65, 3, 2) := rfl
theorem xi_89_85 : xm_ins 89 85 = some (.iload 7, 87, 7, 0, 0) := rfl
theorem xi_89_87 : xm_ins 89 87 = some (.ishr, 88, 0, 0, 0) := rfl
theorem xi_89_88 : xm_ins 89 88 = some (.iconst 1, 89, 0, 0, 1) := rfl
theorem xi_89_89 : xm_ins 89 89 = some (.iand, 90, 0, 0, 0) := rfl
theorem xi_89_90 : xm_ins 89 90 = some (.iconst 1, 91, 0, 0, 1) := rfl
theorem xi_89_91 : xm_ins 89 91 = some (.if_icmp .ne 17, 94, 108, 0, 0) := rfl
theorem xi_89_94 : xm_ins 89 94 = some (.iload_n 2, 95, 2, 0, 0) := rfl
theorem xi_89_95 : xm_ins 89 95 = some (.iload 7, 97, 7, 0, 0) := rfl
theorem xi_89_97 : xm_ins 89 97 = some (.ishr, 98, 0, 0, 0) := rfl
theorem xi_89_98 : xm_ins 89 98 = some (.iconst 1, 99, 0, 0, 1) := rfl
theorem xi_89_99 : xm_ins 89 99 = some (.iand, 100, 0, 0, 0) := rfl
theorem xi_89_100 : xm_ins 89 100 = some (.iconst 1, 101, 0, 0, 1) := rfl
theorem xi_89_101 : xm_ins 89 101 = some (.if_icmp .ne 7, 104, 108, 0, 0) := rfl
theorem xi_89_104 : xm_ins 89 104 = some (.iconst 1, 105, 0, 0, 1) := rfl
theorem xi_89_105 : xm_ins 89 105 = some (.goto 4, 108, 109, 0, 0) := rfl
theorem xi_89_108 : xm_ins 89 108 = some (.iconst 0, 109, 0, 0, 0) := rfl
theorem xi_89_109 : xm_ins 89 109 = some (.istore 8, 111, 8, 0, 0) := rfl
theorem xi_89_111 : xm_ins 89 111 = some (.iload 8, 113, 8, 0, 0) := rfl
theorem xi_89_113 : xm_ins 89 113 = some (.ifCond .eq 27, 116, 140, 0, 0) := rfl
theorem xi_89_116 : xm_ins 89 116 = some (.aload_n 0, 117, 0, 0, 0) := rfl
theorem xi_89_117 : xm_ins 89 117 = some (.iload 7, 119, 7, 0, 0) := rfl
theorem xi_89_119 : xm_ins 89 119 = some (.invokevirtual 42, 122, 72, 2, 2) := rfl
theorem xi_89_122 : xm_ins 89 122 = some (.iconst 1, 123, 0, 0, 1) := rfl
theorem xi_89_123 : xm_ins 89 123 = some (.iadd, 124, 0, 0, 0) := rfl
theorem xi_89_124 : xm_ins 89 124 = some (.iload 6, 126, 6, 0, 0) := rfl
theorem xi_89_126 : xm_ins 89 126 = some (.if_icmp .ge 14, 129, 140, 0, 0) := rfl
theorem xi_89_129 : xm_ins 89 129 = some (.aload_n 0, 130, 0, 0, 0) := rfl
theorem xi_89_130 : xm_ins 89 130 = some (.iload 7, 132, 7, 0, 0) := rfl
theorem xi_89_132 : xm_ins 89 132 = some (.invokevirtual 42, 135, 72, 2, 2) := rfl
theorem xi_89_135 : xm_ins 89 135 = some (.iconst 1, 136, 0, 0, 1) := rfl
theorem xi_89_136 : xm_ins 89 136 = some (.iadd, 137, 0, 0, 0) := rfl
theorem xi_89_137 : xm_ins 89 137 = some (.goto 5, 140, 142, 0, 0) := rfl
set_option maxRecDepth 100000 in
theorem xi_89_140 : xm_ins 89 140 = some (.iload 6, 142, 6, 0, 0) := rfl
set_option maxRecDepth 100000 in
theorem xi_89_142 : xm_ins 89 142 = some (.istore 6, 144, 6, 0, 0) := rfl
set_option maxRecDepth 100000 in
theorem xi_89_144 : xm_ins 89 144 = some (.iinc 7 1, 147, 7, 0, 1) := rfl
set_option maxRecDepth 100000 in
theorem xi_89_147 : xm_ins 89 147 = some (.goto (-79), 150, 68, 0, 0) := rfl
set_option maxRecDepth 100000 in
theorem xi_89_150 : xm_ins 89 150 = some (.iload 4, 152, 4, 0, 0) := rfl
set_option maxRecDepth 100000 in
theorem xi_89_152 : xm_ins 89 152 = some (.ldc 35, 154, 0, 0, (-1000004)) := rfl
set_option maxRecDepth 100000 in
theorem xi_89_154 : xm_ins 89 154 = some (.if_icmp .ne 7, 157, 161, 0, 0) := rfl
set_option maxRecDepth 100000 in
theorem xi_89_157 : xm_ins 89 157 = some (.iconst 1, 158, 0, 0, 1) := rfl
set_option maxRecDepth 100000 in
theorem xi_89_158 : xm_ins 89 158 = some (.goto 4, 161, 162, 0, 0) := rfl
set_option maxRecDepth 100000 in
theorem xi_89_161 : xm_ins 89 161 = some (.iconst 0, 162, 0, 0, 0) := rfl
set_option maxRecDepth 100000 in
theorem xi_89_162 : xm_ins 89 162 = some (.iload_n 2, 163, 2, 0, 0) := rfl
set_option maxRecDepth 100000 in
theorem xi_89_163 : xm_ins 89 163 = some (.iload_n 3, 164, 3, 0, 0) := rfl
set_option maxRecDepth 100000 in
theorem xi_89_164 : xm_ins 89 164 = some (.ishr, 165, 0, 0, 0) := rfl
set_option maxRecDepth 100000 in
theorem xi_89_165 : xm_ins 89 165 = some (.iconst 1, 166, 0, 0, 1) := rfl
set_option maxRecDepth 100000 in
theorem xi_89_166 : xm_ins 89 166 = some (.iand, 167, 0, 0, 0) := rfl
set_option maxRecDepth 100000 in
theorem xi_89_167 : xm_ins 89 167 = some (.ifCond .ne 7, 170, 174, 0, 0) := rfl
set_option maxRecDepth 100000 in
theorem xi_89_170 : xm_ins 89 170 = some (.iconst 1, 171, 0, 0, 1) := rfl
set_option maxRecDepth 100000 in
theorem xi_89_171 : xm_ins 89 171 = some (.goto 4, 174, 175, 0, 0) := rfl
set_option maxRecDepth 100000 in
theorem xi_89_174 : xm_ins 89 174 = some (.iconst 0, 175, 0, 0, 0) := rfl
set_option maxRecDepth 100000 in
theorem xi_89_175 : xm_ins 89 175 = some (.if_icmp .ne 30, 178, 205, 0, 0) := rfl
set_option maxRecDepth 100000 in
theorem xi_89_178 : xm_ins 89 178 = some (.iload 5, 180, 5, 0, 0) := rfl
set_option maxRecDepth 100000 in
theorem xi_89_180 : xm_ins 89 180 = some (.iload 4, 182, 4, 0, 0) := rfl
set_option maxRecDepth 100000 in
theorem xi_89_182 : xm_ins 89 182 = some (.ifCond .ne 7, 185, 189, 0, 0) := rfl
set_option maxRecDepth 100000 in
theorem xi_89_185 : xm_ins 89 185 = some (.iconst 1, 186, 0, 0, 1) := rfl
set_option maxRecDepth 100000 in
theorem xi_89_186 : xm_ins 89 186 = some (.goto 4, 189, 190, 0, 0) := rfl
set_option maxRecDepth 100000 in
theorem xi_89_189 : xm_ins 89 189 = some (.iconst 0, 190, 0, 0, 0) := rfl
set_option maxRecDepth 100000 in
theorem xi_89_190 : xm_ins 89 190 = some (.if_icmp .ne 15, 193, 205, 0, 0) := rfl
set_option maxRecDepth 100000 in
theorem xi_89_193 : xm_ins 89 193 = some (.iload 4, 195, 4, 0, 0) := rfl
set_option maxRecDepth 100000 in
theorem xi_89_195 : xm_ins 89 195 = some (.ifCond .le 12, 198, 207, 0, 0) := rfl
set_option maxRecDepth 100000 in
theorem xi_89_198 : xm_ins 89 198 = some (.iload 4, 200, 4, 0, 0) := rfl
set_option maxRecDepth 100000 in
theorem xi_89_200 : xm_ins 89 200 = some (.iload 6, 202, 6, 0, 0) := rfl
set_option maxRecDepth 100000 in
theorem xi_89_202 : xm_ins 89 202 = some (.if_icmp .eq 5, 205, 207, 0, 0) := rfl
set_option maxRecDepth 100000 in
theorem xi_89_205 : xm_ins 89 205 = some (.iconst 0, 206, 0, 0, 0) := rfl
set_option maxRecDepth 100000 in
theorem xi_89_206 : xm_ins 89 206 = some (.ireturn, 207, 0, 0, 0) := rfl
set_option maxRecDepth 100000 in
theorem xi_89_207 : xm_ins 89 207 = some (.goto 25, 210, 232, 0, 0) := rfl
set_option maxRecDepth 100000 in
theorem xi_89_210 : xm_ins 89 210 = some (.aload_n 0, 211, 0, 0, 0) := rfl
set_option maxRecDepth 100000 in
theorem xi_89_211 : xm_ins 89 211 = some (.iload_n 3, 212, 3, 0, 0) := rfl
set_option maxRecDepth 100000 in
theorem xi_89_212 : xm_ins 89 212 = some (.invokevirtual 42, 215, 72, 2, 2) := rfl
set_option maxRecDepth 100000 in
theorem xi_89_215 : xm_ins 89 215 = some (.ldc 45, 217, 0, 0, (-1000001)) := rfl
set_option maxRecDepth 100000 in
theorem xi_89_217 : xm_ins 89 217 = some (.if_icmp .ne 13, 220, 230, 0, 0) := rfl
set_option maxRecDepth 100000 in
theorem xi_89_220 : xm_ins 89 220 = some (.aload_n 0, 221, 0, 0, 0) := rfl
set_option maxRecDepth 100000 in
theorem xi_89_221 : xm_ins 89 221 = some (.iload_n 3, 222, 3, 0, 0) := rfl
set_option maxRecDepth 100000 in
theorem xi_89_222 : xm_ins 89 222 = some (.invokevirtual 46, 225, 71, 2, 2) := rfl
set_option maxRecDepth 100000 in
theorem xi_89_225 : xm_ins 89 225 = some (.ldc 45, 227, 0, 0, (-1000001)) := rfl
set_option maxRecDepth 100000 in
theorem xi_89_227 : xm_ins 89 227 = some (.if_icmp .eq 5, 230, 232, 0, 0) := rfl
set_option maxRecDepth 100000 in
theorem xi_89_230 : xm_ins 89 230 = some (.iconst 0, 231, 0, 0, 0) := rfl
set_option maxRecDepth 100000 in
theorem xi_89_231 : xm_ins 89 231 = some (.ireturn, 232, 0, 0, 0) := rfl
set_option maxRecDepth 100000 in
theorem xi_89_232 : xm_ins 89 232 = some (.iinc 3 1, 235, 3, 0, 1) := rfl
set_option maxRecDepth 100000 in
theorem xi_89_235 : xm_ins 89 235 = some (.goto (-227), 238, 8, 0, 0) := rfl
set_option maxRecDepth 100000 in
theorem xi_89_238 : xm_ins 89 238 = some (.iload_n 1, 239, 1, 0, 0) := rfl
set_option maxRecDepth 100000 in
theorem xi_89_239 : xm_ins 89 239 = some (.aload_n 0, 240, 0, 0, 0) := rfl
set_option maxRecDepth 100000 in
theorem xi_89_240 : xm_ins 89 240 = some (.iconst 0, 241, 0, 0, 0) := rfl
set_option maxRecDepth 100000 in
theorem xi_89_241 : xm_ins 89 241 = some (.invokevirtual 12, 244, 73, 2, 2) := rfl
set_option maxRecDepth 100000 in
theorem xi_89_244 : xm_ins 89 244 = some (.iconst 1, 245, 0, 0, 1) := rfl
set_option maxRecDepth 100000 in
theorem xi_89_245 : xm_ins 89 245 = some (.iadd, 246, 0, 0, 0) := rfl
set_option maxRecDepth 100000 in
theorem xi_89_246 : xm_ins 89 246 = some (.invokestatic 49, 249, 85, 2, 0) := rfl
set_option maxRecDepth 100000 in
theorem xi_89_249 : xm_ins 89 249 = some (.istore_n 3, 250, 3, 0, 0) := rfl
set_option maxRecDepth 100000 in
theorem xi_89_250 : xm_ins 89 250 = some (.iload_n 3, 251, 3, 0, 0) := rfl
set_option maxRecDepth 100000 in
theorem xi_89_251 : xm_ins 89 251 = some (.aload_n 0, 252, 0, 0, 0) := rfl
set_option maxRecDepth 100000 in
theorem xi_89_252 : xm_ins 89 252 = some (.iconst 0, 253, 0, 0, 0) := rfl
set_option maxRecDepth 100000 in
theorem xi_89_253 : xm_ins 89 253 = some (.invokevirtual 12, 256, 73, 2, 2) := rfl
set_option maxRecDepth 100000 in
theorem xi_89_256 : xm_ins 89 256 = some (.if_icmp .eq 12, 259, 268, 0, 0) := rfl
set_option maxRecDepth 100000 in
theorem xi_89_259 : xm_ins 89 259 = some (.aload_n 0, 260, 0, 0, 0) := rfl
set_option maxRecDepth 100000 in
theorem xi_89_260 : xm_ins 89 260 = some (.iload_n 3, 261, 3, 0, 0) := rfl
set_option maxRecDepth 100000 in
theorem xi_89_261 : xm_ins 89 261 = some (.iconst 0, 262, 0, 0, 0) := rfl
set_option maxRecDepth 100000 in
theorem xi_89_262 : xm_ins 89 262 = some (.invokevirtual 18, 265, 65, 3, 2) := rfl
set_option maxRecDepth 100000 in
theorem xi_89_265 : xm_ins 89 265 = some (.ifCond .ne 5, 268, 270, 0, 0) := rfl
set_option maxRecDepth 100000 in
theorem xi_89_268 : xm_ins 89 268 = some (.iconst 1, 269, 0, 0, 1) := rfl
set_option maxRecDepth 100000 in
theorem xi_89_269 : xm_ins 89 269 = some (.ireturn, 270, 0, 0, 0) := rfl
set_option maxRecDepth 100000 in
theorem xi_89_270 : xm_ins 89 270 = some (.aload_n 0, 271, 0, 0, 0) := rfl
set_option maxRecDepth 100000 in
theorem xi_89_271 : xm_ins 89 271 = some (.iload_n 3, 272, 3, 0, 0) := rfl
set_option maxRecDepth 100000 in
theorem xi_89_272 : xm_ins 89 272 = some (.invokevirtual 46, 275, 71, 2, 2) := rfl
set_option maxRecDepth 100000 in
theorem xi_89_275 : xm_ins 89 275 = some (.istore 4, 277, 4, 0, 0) := rfl
set_option maxRecDepth 100000 in
theorem xi_89_277 : xm_ins 89 277 = some (.iconst 0, 278, 0, 0, 0) := rfl
set_option maxRecDepth 100000 in
theorem xi_89_278 : xm_ins 89 278 = some (.istore 5, 280, 5, 0, 0) := rfl
set_option maxRecDepth 100000 in
theorem xi_89_280 : xm_ins 89 280 = some (.iload 5, 282, 5, 0, 0) := rfl
set_option maxRecDepth 100000 in
theorem xi_89_282 : xm_ins 89 282 = some (.aload_n 0, 283, 0, 0, 0) := rfl
set_option maxRecDepth 100000 in
theorem xi_89_283 : xm_ins 89 283 = some (.iconst 0, 284, 0, 0, 0) := rfl
set_option maxRecDepth 100000 in
theorem xi_89_284 : xm_ins 89 284 = some (.invokevirtual 12, 287, 73, 2, 2) := rfl
set_option maxRecDepth 100000 in
theorem xi_89_287 : xm_ins 89 287 = some (.if_icmp .ge 52, 290, 339, 0, 0) := rfl
set_option maxRecDepth 100000 in
theorem xi_89_290 : xm_ins 89 290 = some (.iload 4, 292, 4, 0, 0) := rfl
set_option maxRecDepth 100000 in
theorem xi_89_292 : xm_ins 89 292 = some (.iload 5, 294, 5, 0, 0) := rfl
set_option maxRecDepth 100000 in
theorem xi_89_294 : xm_ins 89 294 = some (.ishr, 295, 0, 0, 0) := rfl
set_option maxRecDepth 100000 in
theorem xi_89_295 : xm_ins 89 295 = some (.iconst 1, 296, 0, 0, 1) := rfl
set_option maxRecDepth 100000 in
theorem xi_89_296 : xm_ins 89 296 = some (.iand, 297, 0, 0, 0) := rfl
set_option maxRecDepth 100000 in
theorem xi_89_297 : xm_ins 89 297 = some (.iconst 1, 298, 0, 0, 1) := rfl
set_option maxRecDepth 100000 in
theorem xi_89_298 : xm_ins 89 298 = some (.if_icmp .ne 35, 301, 333, 0, 0) := rfl
set_option maxRecDepth 100000 in
theorem xi_89_301 : xm_ins 89 301 = some (.iload 5, 303, 5, 0, 0) := rfl
set_option maxRecDepth 100000 in
theorem xi_89_303 : xm_ins 89 303 = some (.iload_n 3, 304, 3, 0, 0) := rfl
set_option maxRecDepth 100000 in
theorem xi_89_304 : xm_ins 89 304 = some (.if_icmp .eq 27, 307, 331, 0, 0) := rfl
set_option maxRecDepth 100000 in
theorem xi_89_307 : xm_ins 89 307 = some (.aload_n 0, 308, 0, 0, 0) := rfl
set_option maxRecDepth 100000 in
theorem xi_89_308 : xm_ins 89 308 = some (.iload 5, 310, 5, 0, 0) := rfl
set_option maxRecDepth 100000 in
theorem xi_89_310 : xm_ins 89 310 = some (.invokevirtual 42, 313, 72, 2, 2) := rfl
set_option maxRecDepth 100000 in
theorem xi_89_313 : xm_ins 89 313 = some (.iconst 1, 314, 0, 0, 1) := rfl
set_option maxRecDepth 100000 in
theorem xi_89_314 : xm_ins 89 314 = some (.if_icmp .lt 17, 317, 331, 0, 0) := rfl
set_option maxRecDepth 100000 in
theorem xi_89_317 : xm_ins 89 317 = some (.aload_n 0, 318, 0, 0, 0) := rfl
set_option maxRecDepth 100000 in
theorem xi_89_318 : xm_ins 89 318 = some (.iload 5, 320, 5, 0, 0) := rfl
set_option maxRecDepth 100000 in
theorem xi_89_320 : xm_ins 89 320 = some (.invokevirtual 46, 323, 71, 2, 2) := rfl
set_option maxRecDepth 100000 in
theorem xi_89_323 : xm_ins 89 323 = some (.iload 4, 325, 4, 0, 0) := rfl
set_option maxRecDepth 100000 in
theorem xi_89_325 : xm_ins 89 325 = some (.iconst (-1), 326, 0, 0, (-1)) := rfl
set_option maxRecDepth 100000 in
theorem xi_89_326 : xm_ins 89 326 = some (.ixor, 327, 0, 0, 0) := rfl
set_option maxRecDepth 100000 in
theorem xi_89_327 : xm_ins 89 327 = some (.iand, 328, 0, 0, 0) := rfl
set_option maxRecDepth 100000 in
theorem xi_89_328 : xm_ins 89 328 = some (.ifCond .eq 5, 331, 333, 0, 0) := rfl
set_option maxRecDepth 100000 in
theorem xi_89_331 : xm_ins 89 331 = some (.iconst 0, 332, 0, 0, 0) := rfl
set_option maxRecDepth 100000 in
theorem xi_89_332 : xm_ins 89 332 = some (.ireturn, 333, 0, 0, 0) := rfl
set_option maxRecDepth 100000 in
theorem xi_89_333 : xm_ins 89 333 = some (.iinc 5 1, 336, 5, 0, 1) := rfl
set_option maxRecDepth 100000 in
theorem xi_89_336 : xm_ins 89 336 = some (.goto (-56), 339, 280, 0, 0) := rfl
set_option maxRecDepth 100000 in
theorem xi_89_339 : xm_ins 89 339 = some (.iload_n 2, 340, 2, 0, 0) := rfl
set_option maxRecDepth 100000 in
theorem xi_89_340 : xm_ins 89 340 = some (.iload_n 3, 341, 3, 0, 0) := rfl
set_option maxRecDepth 100000 in
theorem xi_89_341 : xm_ins 89 341 = some (.ishr, 342, 0, 0, 0) := rfl
set_option maxRecDepth 100000 in
theorem xi_89_342 : xm_ins 89 342 = some (.iconst 1, 343, 0, 0, 1) := rfl
set_option maxRecDepth 100000 in
theorem xi_89_343 : xm_ins 89 343 = some (.iand, 344, 0, 0, 0) := rfl
set_option maxRecDepth 100000 in
theorem xi_89_344 : xm_ins 89 344 = some (.iconst 1, 345, 0, 0, 1) := rfl
set_option maxRecDepth 100000 in
theorem xi_89_345 : xm_ins 89 345 = some (.if_icmp .eq 8, 348, 353, 0, 0) := rfl
set_option maxRecDepth 100000 in
theorem xi_89_348 : xm_ins 89 348 = some (.iload 4, 350, 4, 0, 0) := rfl
set_option maxRecDepth 100000 in
theorem xi_89_350 : xm_ins 89 350 = some (.ifCond .ne 7, 353, 357, 0, 0) := rfl
set_option maxRecDepth 100000 in
theorem xi_89_353 : xm_ins 89 353 = some (.iconst 1, 354, 0, 0, 1) := rfl
set_option maxRecDepth 100000 in
theorem xi_89_354 : xm_ins 89 354 = some (.goto 4, 357, 358, 0, 0) := rfl
set_option maxRecDepth 100000 in
theorem xi_89_357 : xm_ins 89 357 = some (.iconst 0, 358, 0, 0, 0) := rfl
set_option maxRecDepth 100000 in
theorem xi_89_358 : xm_ins 89 358 = some (.ireturn, 359, 0, 0, 0) := rfl
theorem xn_90 (pc : Nat) : xm_ins 90 pc = xm_find xt_90 pc := rfl
theorem xi_90_0 : xm_ins 90 0 = some (.aload_n 0, 1, 0, 0, 0) := rfl
theorem xi_90_1 : xm_ins 90 1 = some (.invokestatic 52, 4, 87, 1, 0) := rfl
theorem xi_90_4 : xm_ins 90 4 = some (.lstore_n 2, 5, 2, 0, 0) := rfl
theorem xi_90_5 : xm_ins 90 5 = some (.aload_n 0, 6, 0, 0, 0) := rfl
theorem xi_90_6 : xm_ins 90 6 = some (.iload_n 1, 7, 1, 0, 0) := rfl
theorem xi_90_7 : xm_ins 90 7 = some (.iconst 0, 8, 0, 0, 0) := rfl
theorem xi_90_8 : xm_ins 90 8 = some (.invokevirtual 56, 11, 70, 3, 2) := rfl
theorem xi_90_11 : xm_ins 90 11 = some (.istore 4, 13, 4, 0, 0) := rfl
theorem xi_90_13 : xm_ins 90 13 = some (.aload_n 0, 14, 0, 0, 0) := rfl
theorem xi_90_14 : xm_ins 90 14 = some (.iload_n 1, 15, 1, 0, 0) := rfl
theorem xi_90_15 : xm_ins 90 15 = some (.iconst 1, 16, 0, 0, 1) := rfl
theorem xi_90_16 : xm_ins 90 16 = some (.invokevirtual 56, 19, 70, 3, 2) := rfl
theorem xi_90_19 : xm_ins 90 19 = some (.istore 5, 21, 5, 0, 0) := rfl
theorem xi_90_21 : xm_ins 90 21 = some (.aload_n 0, 22, 0, 0, 0) := rfl
theorem xi_90_22 : xm_ins 90 22 = some (.iload_n 1, 23, 1, 0, 0) := rfl
theorem xi_90_23 : xm_ins 90 23 = some (.iconst 2, 24, 0, 0, 2) := rfl
theorem xi_90_24 : xm_ins 90 24 = some (.invokevirtual 56, 27, 70, 3, 2) := rfl
theorem xi_90_27 : xm_ins 90 27 = some (.istore 6, 29, 6, 0, 0) := rfl
theorem xi_90_29 : xm_ins 90 29 = some (.aload_n 0, 30, 0, 0, 0) := rfl
theorem xi_90_30 : xm_ins 90 30 = some (.bipush 11, 32, 0, 0, 11) := rfl
theorem xi_90_32 : xm_ins 90 32 = some (.invokevirtual 12, 35, 73, 2, 2) := rfl
theorem xi_90_35 : xm_ins 90 35 = some (.istore 7, 37, 7, 0, 0) := rfl
theorem xi_90_37 : xm_ins 90 37 = some (.aload_n 0, 38, 0, 0, 0) := rfl
theorem xi_90_38 : xm_ins 90 38 = some (.iconst 5, 39, 0, 0, 5) := rfl
theorem xi_90_39 : xm_ins 90 39 = some (.invokevirtual 12, 42, 73, 2, 2) := rfl
theorem xi_90_42 : xm_ins 90 42 = some (.istore 8, 44, 8, 0, 0) := rfl
theorem xi_90_44 : xm_ins 90 44 = some (.aload_n 0, 45, 0, 0, 0) := rfl
theorem xi_90_45 : xm_ins 90 45 = some (.iconst 3, 46, 0, 0, 3) := rfl
theorem xi_90_46 : xm_ins 90 46 = some (.invokevirtual 12, 49, 73, 2, 2) := rfl
theorem xi_90_49 : xm_ins 90 49 = some (.iload_n 1, 50, 1, 0, 0) := rfl
theorem xi_90_50 : xm_ins 90 50 = some (.iconst 1, 51, 0, 0, 1) := rfl
theorem xi_90_51 : xm_ins 90 51 = some (.if_icmp .ne 11, 54, 62, 0, 0) := rfl
theorem xi_90_54 : xm_ins 90 54 = some (.aload_n 0, 55, 0, 0, 0) := rfl
theorem xi_90_55 : xm_ins 90 55 = some (.iconst 4, 56, 0, 0, 4) := rfl
theorem xi_90_56 : xm_ins 90 56 = some (.invokevirtual 12, 59, 73, 2, 2) := rfl
theorem xi_90_59 : xm_ins 90 59 = some (.goto 4, 62, 63, 0, 0) := rfl
theorem xi_90_62 : xm_ins 90 62 = some (.iconst 0, 63, 0, 0, 0) := rfl
theorem xi_90_63 : xm_ins 90 63 = some (.iadd, 64, 0, 0, 0) := rfl
theorem xi_90_64 : xm_ins 90 64 = some (.istore 9, 66, 9, 0, 0) := rfl
theorem xi_90_66 : xm_ins 90 66 = some (.iconst 0, 67, 0, 0, 0) := rfl
theorem xi_90_67 : xm_ins 90 67 = some (.istore 10, 69, 10, 0, 0) := rfl
theorem xi_90_69 : xm_ins 90 69 = some (.iconst 0, 70, 0, 0, 0) := rfl
theorem xi_90_70 : xm_ins 90 70 = some (.istore 11, 72, 11, 0, 0) := rfl
theorem xi_90_72 : xm_ins 90 72 = some (.iload 11, 74, 11, 0, 0) := rfl
theorem xi_90_74 : xm_ins 90 74 = some (.aload_n 0, 75, 0, 0, 0) := rfl
theorem xi_90_75 : xm_ins 90 75 = some (.iconst 0, 76, 0, 0, 0) := rfl
theorem xi_90_76 : xm_ins 90 76 = some (.invokevirtual 12, 79, 73, 2, 2) := rfl
theorem xi_90_79 : xm_ins 90 79 = some (.if_icmp .ge 38, 82, 117, 0, 0) := rfl
theorem xi_90_82 : xm_ins 90 82 = some (.iload 10, 84, 10, 0, 0) := rfl
theorem xi_90_84 : xm_ins 90 84 = some (.iload 4, 86, 4, 0, 0) := rfl
theorem xi_90_86 : xm_ins 90 86 = some (.iload 11, 88, 11, 0, 0) := rfl
theorem xi_90_88 : xm_ins 90 88 = some (.ishr, 89, 0, 0, 0) := rfl
theorem xi_90_89 : xm_ins 90 89 = some (.iconst 1, 90, 0, 0, 1) := rfl
theorem xi_90_90 : xm_ins 90 90 = some (.iand, 91, 0, 0, 0) := rfl
theorem xi_90_91 : xm_ins 90 91 = some (.iconst 1, 92, 0, 0, 1) := rfl
theorem xi_90_92 : xm_ins 90 92 = some (.if_icmp .ne 15, 95, 107, 0, 0) := rfl
theorem xi_90_95 : xm_ins 90 95 = some (.aload_n 0, 96, 0, 0, 0) := rfl
theorem xi_90_96 : xm_ins 90 96 = some (.iload 11, 98, 11, 0, 0) := rfl
theorem xi_90_98 : xm_ins 90 98 = some (.iconst 2, 99, 0, 0, 2) := rfl
theorem xi_90_99 : xm_ins 90 99 = some (.invokevirtual 18, 102, 65, 3, 2) := rfl
theorem xi_90_102 : xm_ins 90 102 = some (.iconst 1, 103, 0, 0, 1) := rfl
theorem xi_90_103 : xm_ins 90 103 = some (.iadd, 104, 0, 0, 0) := rfl
theorem xi_90_104 : xm_ins 90 104 = some (.goto 4, 107, 108, 0, 0) := rfl
theorem xi_90_107 : xm_ins 90 107 = some (.iconst 0, 108, 0, 0, 0) := rfl
theorem xi_90_108 : xm_ins 90 108 = some (.iadd, 109, 0, 0, 0) := rfl
theorem xi_90_109 : xm_ins 90 109 = some (.istore 10, 111, 10, 0, 0) := rfl
theorem xi_90_111 : xm_ins 90 111 = some (.iinc 11 1, 114, 11, 0, 1) := rfl
theorem xi_90_114 : xm_ins 90 114 = some (.goto (-42), 117, 72, 0, 0) := rfl
theorem xi_90_117 : xm_ins 90 117 = some (.iload 4, 119, 4, 0, 0) := rfl
theorem xi_90_119 : xm_ins 90 119 = some (.iload 5, 121, 5, 0, 0) := rfl
theorem xi_90_121 : xm_ins 90 121 = some (.iand, 122, 0, 0, 0) := rfl
theorem xi_90_122 : xm_ins 90 122 = some (.ifCond .ne 40, 125, 162, 0, 0) := rfl
theorem xi_90_125 : xm_ins 90 125 = some (.iload 4, 127, 4, 0, 0) := rfl
theorem xi_90_127 : xm_ins 90 127 = some (.invokestatic 36, 130, 86, 1, 0) := rfl
theorem xi_90_130 : xm_ins 90 130 = some (.iload 5, 132, 5, 0, 0) := rfl
theorem xi_90_132 : xm_ins 90 132 = some (.invokestatic 36, 135, 86, 1, 0) := rfl
theorem xi_90_135 : xm_ins 90 135 = some (.iadd, 136, 0, 0, 0) := rfl
theorem xi_90_136 : xm_ins 90 136 = some (.iload 9, 138, 9, 0, 0) := rfl
theorem xi_90_138 : xm_ins 90 138 = some (.if_icmp .ne 24, 141, 162, 0, 0) := rfl
theorem xi_90_141 : xm_ins 90 141 = some (.iload 5, 143, 5, 0, 0) := rfl
theorem xi_90_143 : xm_ins 90 143 = some (.aload_n 0, 144, 0, 0, 0) := rfl
set_option maxRecDepth 100000 in
theorem xi_90_144 : xm_ins 90 144 = some (.iconst 0, 145, 0, 0, 0) := rfl
set_option maxRecDepth 100000 in
theorem xi_90_145 : xm_ins 90 145 = some (.invokevirtual 28, 148, 69, 2, 2) := rfl
set_option maxRecDepth 100000 in
theorem xi_90_148 : xm_ins 90 148 = some (.iand, 149, 0, 0, 0) := rfl
set_option maxRecDepth 100000 in
theorem xi_90_149 : xm_ins 90 149 = some (.ifCond .ne 13, 152, 162, 0, 0) := rfl
set_option maxRecDepth 100000 in
theorem xi_90_152 : xm_ins 90 152 = some (.iload 6, 154, 6, 0, 0) := rfl
set_option maxRecDepth 100000 in
theorem xi_90_154 : xm_ins 90 154 = some (.iload 4, 156, 4, 0, 0) := rfl
set_option maxRecDepth 100000 in
theorem xi_90_156 : xm_ins 90 156 = some (.invokestatic 36, 159, 86, 1, 0) := rfl
set_option maxRecDepth 100000 in
theorem xi_90_159 : xm_ins 90 159 = some (.if_icmp .le 5, 162, 164, 0, 0) := rfl
set_option maxRecDepth 100000 in
theorem xi_90_162 : xm_ins 90 162 = some (.iconst 0, 163, 0, 0, 0) := rfl
set_option maxRecDepth 100000 in
theorem xi_90_163 : xm_ins 90 163 = some (.ireturn, 164, 0, 0, 0) := rfl
set_option maxRecDepth 100000 in
theorem xi_90_164 : xm_ins 90 164 = some (.aload_n 0, 165, 0, 0, 0) := rfl
set_option maxRecDepth 100000 in
theorem xi_90_165 : xm_ins 90 165 = some (.iload_n 1, 166, 1, 0, 0) := rfl
set_option maxRecDepth 100000 in
theorem xi_90_166 : xm_ins 90 166 = some (.iconst 3, 167, 0, 0, 3) := rfl
set_option maxRecDepth 100000 in
theorem xi_90_167 : xm_ins 90 167 = some (.invokevirtual 56, 170, 70, 3, 2) := rfl
set_option maxRecDepth 100000 in
theorem xi_90_170 : xm_ins 90 170 = some (.ifCond .ne 28, 173, 198, 0, 0) := rfl
set_option maxRecDepth 100000 in
theorem xi_90_173 : xm_ins 90 173 = some (.aload_n 0, 174, 0, 0, 0) := rfl
set_option maxRecDepth 100000 in
theorem xi_90_174 : xm_ins 90 174 = some (.iload_n 1, 175, 1, 0, 0) := rfl
set_option maxRecDepth 100000 in
theorem xi_90_175 : xm_ins 90 175 = some (.invokevirtual 59, 178, 63, 2, 2) := rfl
set_option maxRecDepth 100000 in
theorem xi_90_178 : xm_ins 90 178 = some (.ldc 62, 180, 0, 0, (-1000002)) := rfl
set_option maxRecDepth 100000 in
theorem xi_90_180 : xm_ins 90 180 = some (.if_icmp .ne 16, 183, 196, 0, 0) := rfl
set_option maxRecDepth 100000 in
theorem xi_90_183 : xm_ins 90 183 = some (.aload_n 0, 184, 0, 0, 0) := rfl
set_option maxRecDepth 100000 in
theorem xi_90_184 : xm_ins 90 184 = some (.invokestatic 52, 187, 87, 1, 0) := rfl
set_option maxRecDepth 100000 in
theorem xi_90_187 : xm_ins 90 187 = some (.lload_n 2, 188, 2, 0, 0) := rfl
set_option maxRecDepth 100000 in
theorem xi_90_188 : xm_ins 90 188 = some (.lcmp, 189, 0, 0, 0) := rfl
set_option maxRecDepth 100000 in
theorem xi_90_189 : xm_ins 90 189 = some (.ifCond .ne 7, 192, 196, 0, 0) := rfl
set_option maxRecDepth 100000 in
theorem xi_90_192 : xm_ins 90 192 = some (.iconst 1, 193, 0, 0, 1) := rfl
set_option maxRecDepth 100000 in
theorem xi_90_193 : xm_ins 90 193 = some (.goto 4, 196, 197, 0, 0) := rfl
set_option maxRecDepth 100000 in
theorem xi_90_196 : xm_ins 90 196 = some (.iconst 0, 197, 0, 0, 0) := rfl
set_option maxRecDepth 100000 in
theorem xi_90_197 : xm_ins 90 197 = some (.ireturn, 198, 0, 0, 0) := rfl
set_option maxRecDepth 100000 in
theorem xi_90_198 : xm_ins 90 198 = some (.aload_n 0, 199, 0, 0, 0) := rfl
set_option maxRecDepth 100000 in
theorem xi_90_199 : xm_ins 90 199 = some (.iload_n 1, 200, 1, 0, 0) := rfl
set_option maxRecDepth 100000 in
theorem xi_90_200 : xm_ins 90 200 = some (.invokevirtual 59, 203, 63, 2, 2) := rfl
set_option maxRecDepth 100000 in
theorem xi_90_203 : xm_ins 90 203 = some (.iload 5, 205, 5, 0, 0) := rfl
set_option maxRecDepth 100000 in
theorem xi_90_205 : xm_ins 90 205 = some (.invokestatic 36, 208, 86, 1, 0) := rfl
set_option maxRecDepth 100000 in
theorem xi_90_208 : xm_ins 90 208 = some (.if_icmp .ne 34, 211, 242, 0, 0) := rfl
set_option maxRecDepth 100000 in
theorem xi_90_211 : xm_ins 90 211 = some (.aload_n 0, 212, 0, 0, 0) := rfl
set_option maxRecDepth 100000 in
theorem xi_90_212 : xm_ins 90 212 = some (.bipush 11, 214, 0, 0, 11) := rfl
set_option maxRecDepth 100000 in
theorem xi_90_214 : xm_ins 90 214 = some (.invokevirtual 12, 217, 73, 2, 2) := rfl
set_option maxRecDepth 100000 in
theorem xi_90_217 : xm_ins 90 217 = some (.iload 7, 219, 7, 0, 0) := rfl
set_option maxRecDepth 100000 in
theorem xi_90_219 : xm_ins 90 219 = some (.iload 6, 221, 6, 0, 0) := rfl
set_option maxRecDepth 100000 in
theorem xi_90_221 : xm_ins 90 221 = some (.iadd, 222, 0, 0, 0) := rfl
set_option maxRecDepth 100000 in
theorem xi_90_222 : xm_ins 90 222 = some (.if_icmp .ne 20, 225, 242, 0, 0) := rfl
set_option maxRecDepth 100000 in
theorem xi_90_225 : xm_ins 90 225 = some (.aload_n 0, 226, 0, 0, 0) := rfl
set_option maxRecDepth 100000 in
theorem xi_90_226 : xm_ins 90 226 = some (.iconst 5, 227, 0, 0, 5) := rfl
set_option maxRecDepth 100000 in
theorem xi_90_227 : xm_ins 90 227 = some (.invokevirtual 12, 230, 73, 2, 2) := rfl
set_option maxRecDepth 100000 in
theorem xi_90_230 : xm_ins 90 230 = some (.iload 8, 232, 8, 0, 0) := rfl
set_option maxRecDepth 100000 in
theorem xi_90_232 : xm_ins 90 232 = some (.if_icmp .lt 10, 235, 242, 0, 0) := rfl
set_option maxRecDepth 100000 in
theorem xi_90_235 : xm_ins 90 235 = some (.aload_n 0, 236, 0, 0, 0) := rfl
set_option maxRecDepth 100000 in
theorem xi_90_236 : xm_ins 90 236 = some (.invokestatic 63, 239, 88, 1, 0) := rfl
set_option maxRecDepth 100000 in
theorem xi_90_239 : xm_ins 90 239 = some (.ifCond .ne 5, 242, 244, 0, 0) := rfl
set_option maxRecDepth 100000 in
theorem xi_90_242 : xm_ins 90 242 = some (.iconst 0, 243, 0, 0, 0) := rfl
set_option maxRecDepth 100000 in
theorem xi_90_243 : xm_ins 90 243 = some (.ireturn, 244, 0, 0, 0) := rfl
set_option maxRecDepth 100000 in
theorem xi_90_244 : xm_ins 90 244 = some (.iconst 0, 245, 0, 0, 0) := rfl
set_option maxRecDepth 100000 in
theorem xi_90_245 : xm_ins 90 245 = some (.istore 11, 247, 11, 0, 0) := rfl
set_option maxRecDepth 100000 in
theorem xi_90_247 : xm_ins 90 247 = some (.iload 11, 249, 11, 0, 0) := rfl
set_option maxRecDepth 100000 in
theorem xi_90_249 : xm_ins 90 249 = some (.aload_n 0, 250, 0, 0, 0) := rfl
set_option maxRecDepth 100000 in
theorem xi_90_250 : xm_ins 90 250 = some (.iconst 0, 251, 0, 0, 0) := rfl
set_option maxRecDepth 100000 in
theorem xi_90_251 : xm_ins 90 251 = some (.invokevirtual 12, 254, 73, 2, 2) := rfl
set_option maxRecDepth 100000 in
theorem xi_90_254 : xm_ins 90 254 = some (.if_icmp .ge 60, 257, 314, 0, 0) := rfl
set_option maxRecDepth 100000 in
theorem xi_90_257 : xm_ins 90 257 = some (.iload 5, 259, 5, 0, 0) := rfl
set_option maxRecDepth 100000 in
theorem xi_90_259 : xm_ins 90 259 = some (.iload 11, 261, 11, 0, 0) := rfl
set_option maxRecDepth 100000 in
theorem xi_90_261 : xm_ins 90 261 = some (.ishr, 262, 0, 0, 0) := rfl
set_option maxRecDepth 100000 in
theorem xi_90_262 : xm_ins 90 262 = some (.iconst 1, 263, 0, 0, 1) := rfl
set_option maxRecDepth 100000 in
theorem xi_90_263 : xm_ins 90 263 = some (.iand, 264, 0, 0, 0) := rfl
set_option maxRecDepth 100000 in
theorem xi_90_264 : xm_ins 90 264 = some (.iconst 1, 265, 0, 0, 1) := rfl
set_option maxRecDepth 100000 in
theorem xi_90_265 : xm_ins 90 265 = some (.if_icmp .ne 16, 268, 281, 0, 0) := rfl
set_option maxRecDepth 100000 in
theorem xi_90_268 : xm_ins 90 268 = some (.aload_n 0, 269, 0, 0, 0) := rfl
set_option maxRecDepth 100000 in
theorem xi_90_269 : xm_ins 90 269 = some (.iload 11, 271, 11, 0, 0) := rfl
set_option maxRecDepth 100000 in
theorem xi_90_271 : xm_ins 90 271 = some (.iconst 0, 272, 0, 0, 0) := rfl
set_option maxRecDepth 100000 in
theorem xi_90_272 : xm_ins 90 272 = some (.invokevirtual 18, 275, 65, 3, 2) := rfl
set_option maxRecDepth 100000 in
theorem xi_90_275 : xm_ins 90 275 = some (.iconst 1, 276, 0, 0, 1) := rfl
set_option maxRecDepth 100000 in
theorem xi_90_276 : xm_ins 90 276 = some (.if_icmp .ne 5, 279, 281, 0, 0) := rfl
set_option maxRecDepth 100000 in
theorem xi_90_279 : xm_ins 90 279 = some (.iconst 0, 280, 0, 0, 0) := rfl
set_option maxRecDepth 100000 in
theorem xi_90_280 : xm_ins 90 280 = some (.ireturn, 281, 0, 0, 0) := rfl
set_option maxRecDepth 100000 in
theorem xi_90_281 : xm_ins 90 281 = some (.iload 10, 283, 10, 0, 0) := rfl
set_option maxRecDepth 100000 in
theorem xi_90_283 : xm_ins 90 283 = some (.iload 4, 285, 4, 0, 0) := rfl
set_option maxRecDepth 100000 in
theorem xi_90_285 : xm_ins 90 285 = some (.iload 11, 287, 11, 0, 0) := rfl
set_option maxRecDepth 100000 in
theorem xi_90_287 : xm_ins 90 287 = some (.ishr, 288, 0, 0, 0) := rfl
set_option maxRecDepth 100000 in
theorem xi_90_288 : xm_ins 90 288 = some (.iconst 1, 289, 0, 0, 1) := rfl
set_option maxRecDepth 100000 in
theorem xi_90_289 : xm_ins 90 289 = some (.iand, 290, 0, 0, 0) := rfl
set_option maxRecDepth 100000 in
theorem xi_90_290 : xm_ins 90 290 = some (.iconst 1, 291, 0, 0, 1) := rfl
set_option maxRecDepth 100000 in
theorem xi_90_291 : xm_ins 90 291 = some (.if_icmp .ne 13, 294, 304, 0, 0) := rfl
set_option maxRecDepth 100000 in
theorem xi_90_294 : xm_ins 90 294 = some (.aload_n 0, 295, 0, 0, 0) := rfl
set_option maxRecDepth 100000 in
theorem xi_90_295 : xm_ins 90 295 = some (.iload 11, 297, 11, 0, 0) := rfl
set_option maxRecDepth 100000 in
theorem xi_90_297 : xm_ins 90 297 = some (.iconst 2, 298, 0, 0, 2) := rfl
set_option maxRecDepth 100000 in
theorem xi_90_298 : xm_ins 90 298 = some (.invokevirtual 18, 301, 65, 3, 2) := rfl
set_option maxRecDepth 100000 in
theorem xi_90_301 : xm_ins 90 301 = some (.goto 4, 304, 305, 0, 0) := rfl
set_option maxRecDepth 100000 in
theorem xi_90_304 : xm_ins 90 304 = some (.iconst 0, 305, 0, 0, 0) := rfl
set_option maxRecDepth 100000 in
theorem xi_90_305 : xm_ins 90 305 = some (.isub, 306, 0, 0, 0) := rfl
set_option maxRecDepth 100000 in
theorem xi_90_306 : xm_ins 90 306 = some (.istore 10, 308, 10, 0, 0) := rfl
set_option maxRecDepth 100000 in
theorem xi_90_308 : xm_ins 90 308 = some (.iinc 11 1, 311, 11, 0, 1) := rfl
set_option maxRecDepth 100000 in
theorem xi_90_311 : xm_ins 90 311 = some (.goto (-64), 314, 247, 0, 0) := rfl
set_option maxRecDepth 100000 in
theorem xi_90_314 : xm_ins 90 314 = some (.iload 10, 316, 10, 0, 0) := rfl
set_option maxRecDepth 100000 in
theorem xi_90_316 : xm_ins 90 316 = some (.ifCond .ne 31, 319, 347, 0, 0) := rfl
set_option maxRecDepth 100000 in
theorem xi_90_319 : xm_ins 90 319 = some (.aload_n 0, 320, 0, 0, 0) := rfl
set_option maxRecDepth 100000 in
theorem xi_90_320 : xm_ins 90 320 = some (.iconst 3, 321, 0, 0, 3) := rfl
set_option maxRecDepth 100000 in
theorem xi_90_321 : xm_ins 90 321 = some (.invokevirtual 12, 324, 73, 2, 2) := rfl
set_option maxRecDepth 100000 in
theorem xi_90_324 : xm_ins 90 324 = some (.ifCond .ne 23, 327, 347, 0, 0) := rfl
set_option maxRecDepth 100000 in
theorem xi_90_327 : xm_ins 90 327 = some (.aload_n 0, 328, 0, 0, 0) := rfl
set_option maxRecDepth 100000 in
theorem xi_90_328 : xm_ins 90 328 = some (.invokevirtual 67, 331, 74, 1, 2) := rfl
set_option maxRecDepth 100000 in
theorem xi_90_331 : xm_ins 90 331 = some (.ifCond .lt 16, 334, 347, 0, 0) := rfl
set_option maxRecDepth 100000 in
theorem xi_90_334 : xm_ins 90 334 = some (.aload_n 0, 335, 0, 0, 0) := rfl
set_option maxRecDepth 100000 in
theorem xi_90_335 : xm_ins 90 335 = some (.invokestatic 52, 338, 87, 1, 0) := rfl
set_option maxRecDepth 100000 in
theorem xi_90_338 : xm_ins 90 338 = some (.lload_n 2, 339, 2, 0, 0) := rfl
set_option maxRecDepth 100000 in
theorem xi_90_339 : xm_ins 90 339 = some (.lcmp, 340, 0, 0, 0) := rfl
set_option maxRecDepth 100000 in
theorem xi_90_340 : xm_ins 90 340 = some (.ifCond .ne 7, 343, 347, 0, 0) := rfl
set_option maxRecDepth 100000 in
theorem xi_90_343 : xm_ins 90 343 = some (.iconst 1, 344, 0, 0, 1) := rfl
set_option maxRecDepth 100000 in
theorem xi_90_344 : xm_ins 90 344 = some (.goto 4, 347, 348, 0, 0) := rfl
set_option maxRecDepth 100000 in
theorem xi_90_347 : xm_ins 90 347 = some (.iconst 0, 348, 0, 0, 0) := rfl
set_option maxRecDepth 100000 in
theorem xi_90_348 : xm_ins 90 348 = some (.ireturn, 349, 0, 0, 0) := rfl
theorem xn_91 (pc : Nat) : xm_ins 91 pc = xm_find xt_91 pc := rfl
theorem xi_91_0 : xm_ins 91 0 = some (.aload_n 0, 1, 0, 0, 0) := rfl
theorem xi_91_1 : xm_ins 91 1 = some (.iconst 0, 2, 0, 0, 0) := rfl
theorem xi_91_2 : xm_ins 91 2 = some (.invokevirtual 12, 5, 73, 2, 2) := rfl
theorem xi_91_5 : xm_ins 91 5 = some (.istore_n 2, 6, 2, 0, 0) := rfl
theorem xi_91_6 : xm_ins 91 6 = some (.iload_n 1, 7, 1, 0, 0) := rfl
theorem xi_91_7 : xm_ins 91 7 = some (.iconst 5, 8, 0, 0, 5) := rfl
theorem xi_91_8 : xm_ins 91 8 = some (.ishr, 9, 0, 0, 0) := rfl
theorem xi_91_9 : xm_ins 91 9 = some (.iload_n 2, 10, 2, 0, 0) := rfl
theorem xi_91_10 : xm_ins 91 10 = some (.iconst 1, 11, 0, 0, 1) := rfl
theorem xi_91_11 : xm_ins 91 11 = some (.iadd, 12, 0, 0, 0) := rfl
theorem xi_91_12 : xm_ins 91 12 = some (.invokestatic 49, 15, 85, 2, 0) := rfl
theorem xi_91_15 : xm_ins 91 15 = some (.istore_n 3, 16, 3, 0, 0) := rfl
theorem xi_91_16 : xm_ins 91 16 = some (.iload_n 1, 17, 1, 0, 0) := rfl
theorem xi_91_17 : xm_ins 91 17 = some (.bipush 10, 19, 0, 0, 10) := rfl
theorem xi_91_19 : xm_ins 91 19 = some (.ishr, 20, 0, 0, 0) := rfl
theorem xi_91_20 : xm_ins 91 20 = some (.iload_n 2, 21, 2, 0, 0) := rfl
theorem xi_91_21 : xm_ins 91 21 = some (.ifCond .ne 7, 24, 28, 0, 0) := rfl
theorem xi_91_24 : xm_ins 91 24 = some (.iconst 1, 25, 0, 0, 1) := rfl
theorem xi_91_25 : xm_ins 91 25 = some (.goto 4, 28, 29, 0, 0) := rfl
theorem xi_91_28 : xm_ins 91 28 = some (.iload_n 2, 29, 2, 0, 0) := rfl
theorem xi_91_29 : xm_ins 91 29 = some (.invokestatic 49, 32, 85, 2, 0) := rfl
theorem xi_91_32 : xm_ins 91 32 = some (.istore 4, 34, 4, 0, 0) := rfl
theorem xi_91_34 : xm_ins 91 34 = some (.iload_n 1, 35, 1, 0, 0) := rfl
theorem xi_91_35 : xm_ins 91 35 = some (.bipush 24, 37, 0, 0, 24) := rfl
theorem xi_91_37 : xm_ins 91 37 = some (.invokestatic 49, 40, 85, 2, 0) := rfl
theorem xi_91_40 : xm_ins 91 40 = some (.tableswitch 183 0 17 #[88, 88, 88, 88, 88, 93, 93, 107, 120, 120, 120, 120, 120, 120, 136, 150, 156, 162], 128, 0, 0, 0) := rfl
theorem xi_91_128 : xm_ins 91 128 = some (.aload_n 0, 129, 0, 0, 0) := rfl
theorem xi_91_129 : xm_ins 91 129 = some (.invokevirtual 71, 132, 56, 1, 2) := rfl
theorem xi_91_132 : xm_ins 91 132 = some (.ireturn, 133, 0, 0, 0) := rfl
theorem xi_91_133 : xm_ins 91 133 = some (.aload_n 0, 134, 0, 0, 0) := rfl
theorem xi_91_134 : xm_ins 91 134 = some (.iload_n 1, 135, 1, 0, 0) := rfl
theorem xi_91_135 : xm_ins 91 135 = some (.bipush 15, 137, 0, 0, 15) := rfl
theorem xi_91_137 : xm_ins 91 137 = some (.ishr, 138, 0, 0, 0) := rfl
theorem xi_91_138 : xm_ins 91 138 = some (.iconst 4, 139, 0, 0, 4) := rfl
theorem xi_91_139 : xm_ins 91 139 = some (.invokestatic 49, 142, 85, 2, 0) := rfl
theorem xi_91_142 : xm_ins 91 142 = some (.iload_n 3, 143, 3, 0, 0) := rfl
theorem xi_91_143 : xm_ins 91 143 = some (.invokevirtual 74, 146, 57, 3, 2) := rfl
theorem xi_91_146 : xm_ins 91 146 = some (.ireturn, 147, 0, 0, 0) := rfl
theorem xi_91_147 : xm_ins 91 147 = some (.aload_n 0, 148, 0, 0, 0) := rfl
theorem xi_91_148 : xm_ins 91 148 = some (.iload_n 1, 149, 1, 0, 0) := rfl
theorem xi_91_149 : xm_ins 91 149 = some (.bipush 15, 151, 0, 0, 15) := rfl
theorem xi_91_151 : xm_ins 91 151 = some (.ishr, 152, 0, 0, 0) := rfl
theorem xi_91_152 : xm_ins 91 152 = some (.iconst 4, 153, 0, 0, 4) := rfl
theorem xi_91_153 : xm_ins 91 153 = some (.invokestatic 49, 156, 85, 2, 0) := rfl
theorem xi_91_156 : xm_ins 91 156 = some (.invokevirtual 77, 159, 58, 2, 2) := rfl
theorem xi_91_159 : xm_ins 91 159 = some (.ireturn, 160, 0, 0, 0) := rfl
theorem xi_91_160 : xm_ins 91 160 = some (.aload_n 0, 161, 0, 0, 0) := rfl
theorem xi_91_161 : xm_ins 91 161 = some (.iload_n 3, 162, 3, 0, 0) := rfl
theorem xi_91_162 : xm_ins 91 162 = some (.iload_n 1, 163, 1, 0, 0) := rfl
theorem xi_91_163 : xm_ins 91 163 = some (.bipush 15, 165, 0, 0, 15) := rfl
theorem xi_91_165 : xm_ins 91 165 = some (.ishr, 166, 0, 0, 0) := rfl
theorem xi_91_166 : xm_ins 91 166 = some (.iconst 3, 167, 0, 0, 3) := rfl
theorem xi_91_167 : xm_ins 91 167 = some (.invokestatic 49, 170, 85, 2, 0) := rfl
theorem xi_91_170 : xm_ins 91 170 = some (.iload 4, 172, 4, 0, 0) := rfl
theorem xi_91_172 : xm_ins 91 172 = some (.invokevirtual 80, 175, 59, 4, 2) := rfl
theorem xi_91_175 : xm_ins 91 175 = some (.ireturn, 176, 0, 0, 0) := rfl
theorem xi_91_176 : xm_ins 91 176 = some (.aload_n 0, 177, 0, 0, 0) := rfl
theorem xi_91_177 : xm_ins 91 177 = some (.iload_n 3, 178, 3, 0, 0) := rfl
theorem xi_91_178 : xm_ins 91 178 = some (.iload_n 1, 179, 1, 0, 0) := rfl
theorem xi_91_179 : xm_ins 91 179 = some (.bipush 15, 181, 0, 0, 15) := rfl
theorem xi_91_181 : xm_ins 91 181 = some (.ishr, 182, 0, 0, 0) := rfl
theorem xi_91_182 : xm_ins 91 182 = some (.iconst 3, 183, 0, 0, 3) := rfl
theorem xi_91_183 : xm_ins 91 183 = some (.invokestatic 49, 186, 85, 2, 0) := rfl
theorem xi_91_186 : xm_ins 91 186 = some (.invokevirtual 84, 189, 60, 3, 2) := rfl
theorem xi_91_189 : xm_ins 91 189 = some (.ireturn, 190, 0, 0, 0) := rfl
theorem xi_91_190 : xm_ins 91 190 = some (.aload_n 0, 191, 0, 0, 0) := rfl
theorem xi_91_191 : xm_ins 91 191 = some (.iload_n 3, 192, 3, 0, 0) := rfl
theorem xi_91_192 : xm_ins 91 192 = some (.invokevirtual 87, 195, 61, 2, 2) := rfl
theorem xi_91_195 : xm_ins 91 195 = some (.ireturn, 196, 0, 0, 0) := rfl
theorem xi_91_196 : xm_ins 91 196 = some (.aload_n 0, 197, 0, 0, 0) := rfl
theorem xi_91_197 : xm_ins 91 197 = some (.iload_n 3, 198, 3, 0, 0) := rfl
theorem xi_91_198 : xm_ins 91 198 = some (.invokevirtual 90, 201, 62, 2, 2) := rfl
theorem xi_91_201 : xm_ins 91 201 = some (.ireturn, 202, 0, 0, 0) := rfl
theorem xi_91_202 : xm_ins 91 202 = some (.iload_n 1, 203, 1, 0, 0) := rfl
theorem xi_91_203 : xm_ins 91 203 = some (.bipush 15, 205, 0, 0, 15) := rfl
theorem xi_91_205 : xm_ins 91 205 = some (.ishr, 206, 0, 0, 0) := rfl
theorem xi_91_206 : xm_ins 91 206 = some (.iconst 1, 207, 0, 0, 1) := rfl
theorem xi_91_207 : xm_ins 91 207 = some (.iand, 208, 0, 0, 0) := rfl
theorem xi_91_208 : xm_ins 91 208 = some (.ifCond .ne 10, 211, 218, 0, 0) := rfl
theorem xi_91_211 : xm_ins 91 211 = some (.aload_n 0, 212, 0, 0, 0) := rfl
theorem xi_91_212 : xm_ins 91 212 = some (.invokevirtual 93, 215, 64, 1, 2) := rfl
set_option maxRecDepth 100000 in
theorem xi_91_215 : xm_ins 91 215 = some (.goto 7, 218, 222, 0, 0) := rfl
set_option maxRecDepth 100000 in
theorem xi_91_218 : xm_ins 91 218 = some (.aload_n 0, 219, 0, 0, 0) := rfl
set_option maxRecDepth 100000 in
theorem xi_91_219 : xm_ins 91 219 = some (.invokevirtual 96, 222, 78, 1, 2) := rfl
set_option maxRecDepth 100000 in
theorem xi_91_222 : xm_ins 91 222 = some (.ireturn, 223, 0, 0, 0) := rfl
set_option maxRecDepth 100000 in
theorem xi_91_223 : xm_ins 91 223 = some (.aload_n 0, 224, 0, 0, 0) := rfl
set_option maxRecDepth 100000 in
theorem xi_91_224 : xm_ins 91 224 = some (.iload_n 1, 225, 1, 0, 0) := rfl
set_option maxRecDepth 100000 in
theorem xi_91_225 : xm_ins 91 225 = some (.bipush 15, 227, 0, 0, 15) := rfl
set_option maxRecDepth 100000 in
theorem xi_91_227 : xm_ins 91 227 = some (.ishr, 228, 0, 0, 0) := rfl
set_option maxRecDepth 100000 in
theorem xi_91_228 : xm_ins 91 228 = some (.iconst 5, 229, 0, 0, 5) := rfl
set_option maxRecDepth 100000 in
theorem xi_91_229 : xm_ins 91 229 = some (.invokestatic 49, 232, 85, 2, 0) := rfl
set_option maxRecDepth 100000 in
theorem xi_91_232 : xm_ins 91 232 = some (.iconst 2, 233, 0, 0, 2) := rfl
set_option maxRecDepth 100000 in
theorem xi_91_233 : xm_ins 91 233 = some (.if_icmp .le 7, 236, 240, 0, 0) := rfl
set_option maxRecDepth 100000 in
theorem xi_91_236 : xm_ins 91 236 = some (.iconst 1, 237, 0, 0, 1) := rfl
set_option maxRecDepth 100000 in
theorem xi_91_237 : xm_ins 91 237 = some (.goto 4, 240, 241, 0, 0) := rfl
set_option maxRecDepth 100000 in
theorem xi_91_240 : xm_ins 91 240 = some (.iconst 0, 241, 0, 0, 0) := rfl
set_option maxRecDepth 100000 in
theorem xi_91_241 : xm_ins 91 241 = some (.invokevirtual 59, 244, 63, 2, 2) := rfl
set_option maxRecDepth 100000 in
theorem xi_91_244 : xm_ins 91 244 = some (.ireturn, 245, 0, 0, 0) := rfl
theorem xn_92 (pc : Nat) : xm_ins 92 pc = xm_find xt_92 pc := rfl
theorem xi_92_0 : xm_ins 92 0 = some (.new 13, 3, 2, 4, 0) := rfl
theorem xi_92_3 : xm_ins 92 3 = some (.dup, 4, 0, 0, 0) := rfl
theorem xi_92_4 : xm_ins 92 4 = some (.invokespecial 99, 7, 55, 1, 2) := rfl
theorem xi_92_7 : xm_ins 92 7 = some (.astore_n 1, 8, 1, 0, 0) := rfl
theorem xi_92_8 : xm_ins 92 8 = some (.aload_n 0, 9, 0, 0, 0) := rfl
theorem xi_92_9 : xm_ins 92 9 = some (.iconst 0, 10, 0, 0, 0) := rfl
theorem xi_92_10 : xm_ins 92 10 = some (.invokestatic 100, 13, 77, 2, 0) := rfl
theorem xi_92_13 : xm_ins 92 13 = some (.istore_n 2, 14, 2, 0, 0) := rfl
theorem xi_92_14 : xm_ins 92 14 = some (.iconst 0, 15, 0, 0, 0) := rfl
theorem xi_92_15 : xm_ins 92 15 = some (.istore_n 3, 16, 3, 0, 0) := rfl
theorem xi_92_16 : xm_ins 92 16 = some (.iload_n 3, 17, 3, 0, 0) := rfl
theorem xi_92_17 : xm_ins 92 17 = some (.iconst 3, 18, 0, 0, 3) := rfl
theorem xi_92_18 : xm_ins 92 18 = some (.iload_n 2, 19, 2, 0, 0) := rfl
theorem xi_92_19 : xm_ins 92 19 = some (.iconst 5, 20, 0, 0, 5) := rfl
theorem xi_92_20 : xm_ins 92 20 = some (.invokestatic 49, 23, 85, 2, 0) := rfl
theorem xi_92_23 : xm_ins 92 23 = some (.iadd, 24, 0, 0, 0) := rfl
theorem xi_92_24 : xm_ins 92 24 = some (.if_icmp .ge 38, 27, 62, 0, 0) := rfl
theorem xi_92_27 : xm_ins 92 27 = some (.aload_n 1, 28, 1, 0, 0) := rfl
theorem xi_92_28 : xm_ins 92 28 = some (.invokevirtual 71, 31, 56, 1, 2) := rfl
theorem xi_92_31 : xm_ins 92 31 = some (.pop, 32, 0, 0, 0) := rfl
theorem xi_92_32 : xm_ins 92 32 = some (.aload_n 1, 33, 1, 0, 0) := rfl
theorem xi_92_33 : xm_ins 92 33 = some (.iload_n 2, 34, 2, 0, 0) := rfl
theorem xi_92_34 : xm_ins 92 34 = some (.iload_n 3, 35, 3, 0, 0) := rfl
theorem xi_92_35 : xm_ins 92 35 = some (.ishr, 36, 0, 0, 0) := rfl
theorem xi_92_36 : xm_ins 92 36 = some (.iload_n 3, 37, 3, 0, 0) := rfl
theorem xi_92_37 : xm_ins 92 37 = some (.iconst 1, 38, 0, 0, 1) := rfl
theorem xi_92_38 : xm_ins 92 38 = some (.iadd, 39, 0, 0, 0) := rfl
theorem xi_92_39 : xm_ins 92 39 = some (.invokestatic 49, 42, 85, 2, 0) := rfl
theorem xi_92_42 : xm_ins 92 42 = some (.iload_n 2, 43, 2, 0, 0) := rfl
theorem xi_92_43 : xm_ins 92 43 = some (.iconst 3, 44, 0, 0, 3) := rfl
theorem xi_92_44 : xm_ins 92 44 = some (.iload_n 3, 45, 3, 0, 0) := rfl
theorem xi_92_45 : xm_ins 92 45 = some (.iadd, 46, 0, 0, 0) := rfl
theorem xi_92_46 : xm_ins 92 46 = some (.ishr, 47, 0, 0, 0) := rfl
theorem xi_92_47 : xm_ins 92 47 = some (.iconst 3, 48, 0, 0, 3) := rfl
theorem xi_92_48 : xm_ins 92 48 = some (.invokestatic 49, 51, 85, 2, 0) := rfl
theorem xi_92_51 : xm_ins 92 51 = some (.iload_n 3, 52, 3, 0, 0) := rfl
theorem xi_92_52 : xm_ins 92 52 = some (.invokevirtual 80, 55, 59, 4, 2) := rfl
theorem xi_92_55 : xm_ins 92 55 = some (.pop, 56, 0, 0, 0) := rfl
theorem xi_92_56 : xm_ins 92 56 = some (.iinc 3 1, 59, 3, 0, 1) := rfl
theorem xi_92_59 : xm_ins 92 59 = some (.goto (-43), 62, 16, 0, 0) := rfl
theorem xi_92_62 : xm_ins 92 62 = some (.aload_n 1, 63, 1, 0, 0) := rfl
theorem xi_92_63 : xm_ins 92 63 = some (.iconst 0, 64, 0, 0, 0) := rfl
theorem xi_92_64 : xm_ins 92 64 = some (.iload_n 2, 65, 2, 0, 0) := rfl
theorem xi_92_65 : xm_ins 92 65 = some (.bipush 9, 67, 0, 0, 9) := rfl
theorem xi_92_67 : xm_ins 92 67 = some (.ishr, 68, 0, 0, 0) := rfl
theorem xi_92_68 : xm_ins 92 68 = some (.iconst 3, 69, 0, 0, 3) := rfl
theorem xi_92_69 : xm_ins 92 69 = some (.invokestatic 49, 72, 85, 2, 0) := rfl
theorem xi_92_72 : xm_ins 92 72 = some (.invokevirtual 74, 75, 57, 3, 2) := rfl
theorem xi_92_75 : xm_ins 92 75 = some (.pop, 76, 0, 0, 0) := rfl
theorem xi_92_76 : xm_ins 92 76 = some (.aload_n 1, 77, 1, 0, 0) := rfl
theorem xi_92_77 : xm_ins 92 77 = some (.bipush 110, 79, 0, 0, 110) := rfl
theorem xi_92_79 : xm_ins 92 79 = some (.invokevirtual 104, 82, 75, 2, 2) := rfl
theorem xi_92_82 : xm_ins 92 82 = some (.pop, 83, 0, 0, 0) := rfl
theorem xi_92_83 : xm_ins 92 83 = some (.aload_n 1, 84, 1, 0, 0) := rfl
theorem xi_92_84 : xm_ins 92 84 = some (.bipush 59, 86, 0, 0, 59) := rfl
theorem xi_92_86 : xm_ins 92 86 = some (.invokevirtual 104, 89, 75, 2, 2) := rfl
theorem xi_92_89 : xm_ins 92 89 = some (.pop, 90, 0, 0, 0) := rfl
theorem xi_92_90 : xm_ins 92 90 = some (.iconst 0, 91, 0, 0, 0) := rfl
theorem xi_92_91 : xm_ins 92 91 = some (.istore_n 3, 92, 3, 0, 0) := rfl
theorem xi_92_92 : xm_ins 92 92 = some (.iload_n 3, 93, 3, 0, 0) := rfl
theorem xi_92_93 : xm_ins 92 93 = some (.bipush 28, 95, 0, 0, 28) := rfl
theorem xi_92_95 : xm_ins 92 95 = some (.if_icmp .ge 144, 98, 239, 0, 0) := rfl
theorem xi_92_98 : xm_ins 92 98 = some (.aload_n 0, 99, 0, 0, 0) := rfl
theorem xi_92_99 : xm_ins 92 99 = some (.iconst 1, 100, 0, 0, 1) := rfl
theorem xi_92_100 : xm_ins 92 100 = some (.iload_n 3, 101, 3, 0, 0) := rfl
theorem xi_92_101 : xm_ins 92 101 = some (.iadd, 102, 0, 0, 0) := rfl
theorem xi_92_102 : xm_ins 92 102 = some (.invokestatic 100, 105, 77, 2, 0) := rfl
theorem xi_92_105 : xm_ins 92 105 = some (.istore 4, 107, 4, 0, 0) := rfl
theorem xi_92_107 : xm_ins 92 107 = some (.aload_n 1, 108, 1, 0, 0) := rfl
theorem xi_92_108 : xm_ins 92 108 = some (.invokestatic 52, 111, 87, 1, 0) := rfl
theorem xi_92_111 : xm_ins 92 111 = some (.lstore 5, 113, 5, 0, 0) := rfl
theorem xi_92_113 : xm_ins 92 113 = some (.aload_n 1, 114, 1, 0, 0) := rfl
theorem xi_92_114 : xm_ins 92 114 = some (.iload 4, 116, 4, 0, 0) := rfl
theorem xi_92_116 : xm_ins 92 116 = some (.invokestatic 107, 119, 91, 2, 0) := rfl
theorem xi_92_119 : xm_ins 92 119 = some (.istore 7, 121, 7, 0, 0) := rfl
theorem xi_92_121 : xm_ins 92 121 = some (.iload 7, 123, 7, 0, 0) := rfl
theorem xi_92_123 : xm_ins 92 123 = some (.ldc 111, 125, 0, 0, (-1000000)) := rfl
theorem xi_92_125 : xm_ins 92 125 = some (.if_icmp .ge 15, 128, 140, 0, 0) := rfl
theorem xi_92_128 : xm_ins 92 128 = some (.aload_n 1, 129, 1, 0, 0) := rfl
theorem xi_92_129 : xm_ins 92 129 = some (.invokestatic 52, 132, 87, 1, 0) := rfl
theorem xi_92_132 : xm_ins 92 132 = some (.lload 5, 134, 5, 0, 0) := rfl
set_option maxRecDepth 100000 in
theorem xi_92_134 : xm_ins 92 134 = some (.lcmp, 135, 0, 0, 0) := rfl
set_option maxRecDepth 100000 in
theorem xi_92_135 : xm_ins 92 135 = some (.ifCond .eq 5, 138, 140, 0, 0) := rfl
set_option maxRecDepth 100000 in
theorem xi_92_138 : xm_ins 92 138 = some (.iconst 0, 139, 0, 0, 0) := rfl
set_option maxRecDepth 100000 in
theorem xi_92_139 : xm_ins 92 139 = some (.ireturn, 140, 0, 0, 0) := rfl
set_option maxRecDepth 100000 in
theorem xi_92_140 : xm_ins 92 140 = some (.iload 7, 142, 7, 0, 0) := rfl
set_option maxRecDepth 100000 in
theorem xi_92_142 : xm_ins 92 142 = some (.ldc 111, 144, 0, 0, (-1000000)) := rfl
set_option maxRecDepth 100000 in
theorem xi_92_144 : xm_ins 92 144 = some (.if_icmp .le 32, 147, 176, 0, 0) := rfl
set_option maxRecDepth 100000 in
theorem xi_92_147 : xm_ins 92 147 = some (.iload 4, 149, 4, 0, 0) := rfl
set_option maxRecDepth 100000 in
theorem xi_92_149 : xm_ins 92 149 = some (.bipush 28, 151, 0, 0, 28) := rfl
set_option maxRecDepth 100000 in
theorem xi_92_151 : xm_ins 92 151 = some (.ishr, 152, 0, 0, 0) := rfl
set_option maxRecDepth 100000 in
theorem xi_92_152 : xm_ins 92 152 = some (.iconst 3, 153, 0, 0, 3) := rfl
set_option maxRecDepth 100000 in
theorem xi_92_153 : xm_ins 92 153 = some (.iand, 154, 0, 0, 0) := rfl
set_option maxRecDepth 100000 in
theorem xi_92_154 : xm_ins 92 154 = some (.ifCond .ne 22, 157, 176, 0, 0) := rfl
set_option maxRecDepth 100000 in
theorem xi_92_157 : xm_ins 92 157 = some (.aload_n 1, 158, 1, 0, 0) := rfl
set_option maxRecDepth 100000 in
theorem xi_92_158 : xm_ins 92 158 = some (.invokevirtual 67, 161, 74, 1, 2) := rfl
set_option maxRecDepth 100000 in
theorem xi_92_161 : xm_ins 92 161 = some (.ifCond .lt 13, 164, 174, 0, 0) := rfl
set_option maxRecDepth 100000 in
theorem xi_92_164 : xm_ins 92 164 = some (.aload_n 1, 165, 1, 0, 0) := rfl
set_option maxRecDepth 100000 in
theorem xi_92_165 : xm_ins 92 165 = some (.invokestatic 52, 168, 87, 1, 0) := rfl
set_option maxRecDepth 100000 in
theorem xi_92_168 : xm_ins 92 168 = some (.lload 5, 170, 5, 0, 0) := rfl
set_option maxRecDepth 100000 in
theorem xi_92_170 : xm_ins 92 170 = some (.lcmp, 171, 0, 0, 0) := rfl
set_option maxRecDepth 100000 in
theorem xi_92_171 : xm_ins 92 171 = some (.ifCond .eq 5, 174, 176, 0, 0) := rfl
set_option maxRecDepth 100000 in
theorem xi_92_174 : xm_ins 92 174 = some (.iconst 0, 175, 0, 0, 0) := rfl
set_option maxRecDepth 100000 in
theorem xi_92_175 : xm_ins 92 175 = some (.ireturn, 176, 0, 0, 0) := rfl
set_option maxRecDepth 100000 in
theorem xi_92_176 : xm_ins 92 176 = some (.iload_n 3, 177, 3, 0, 0) := rfl
set_option maxRecDepth 100000 in
theorem xi_92_177 : xm_ins 92 177 = some (.iconst 3, 178, 0, 0, 3) := rfl
set_option maxRecDepth 100000 in
theorem xi_92_178 : xm_ins 92 178 = some (.irem, 179, 0, 0, 0) := rfl
set_option maxRecDepth 100000 in
theorem xi_92_179 : xm_ins 92 179 = some (.iconst 1, 180, 0, 0, 1) := rfl
set_option maxRecDepth 100000 in
theorem xi_92_180 : xm_ins 92 180 = some (.if_icmp .ne 10, 183, 190, 0, 0) := rfl
set_option maxRecDepth 100000 in
theorem xi_92_183 : xm_ins 92 183 = some (.aload_n 1, 184, 1, 0, 0) := rfl
set_option maxRecDepth 100000 in
theorem xi_92_184 : xm_ins 92 184 = some (.invokestatic 63, 187, 88, 1, 0) := rfl
set_option maxRecDepth 100000 in
theorem xi_92_187 : xm_ins 92 187 = some (.ifCond .eq 44, 190, 231, 0, 0) := rfl
set_option maxRecDepth 100000 in
theorem xi_92_190 : xm_ins 92 190 = some (.iload_n 3, 191, 3, 0, 0) := rfl
set_option maxRecDepth 100000 in
theorem xi_92_191 : xm_ins 92 191 = some (.iconst 4, 192, 0, 0, 4) := rfl
set_option maxRecDepth 100000 in
theorem xi_92_192 : xm_ins 92 192 = some (.irem, 193, 0, 0, 0) := rfl
set_option maxRecDepth 100000 in
theorem xi_92_193 : xm_ins 92 193 = some (.iconst 2, 194, 0, 0, 2) := rfl
set_option maxRecDepth 100000 in
theorem xi_92_194 : xm_ins 92 194 = some (.if_icmp .ne 17, 197, 211, 0, 0) := rfl
set_option maxRecDepth 100000 in
theorem xi_92_197 : xm_ins 92 197 = some (.aload_n 1, 198, 1, 0, 0) := rfl
set_option maxRecDepth 100000 in
theorem xi_92_198 : xm_ins 92 198 = some (.iload 4, 200, 4, 0, 0) := rfl
set_option maxRecDepth 100000 in
theorem xi_92_200 : xm_ins 92 200 = some (.bipush 20, 202, 0, 0, 20) := rfl
set_option maxRecDepth 100000 in
theorem xi_92_202 : xm_ins 92 202 = some (.ishr, 203, 0, 0, 0) := rfl
set_option maxRecDepth 100000 in
theorem xi_92_203 : xm_ins 92 203 = some (.iconst 1, 204, 0, 0, 1) := rfl
set_option maxRecDepth 100000 in
theorem xi_92_204 : xm_ins 92 204 = some (.iand, 205, 0, 0, 0) := rfl
set_option maxRecDepth 100000 in
theorem xi_92_205 : xm_ins 92 205 = some (.invokestatic 112, 208, 90, 2, 0) := rfl
set_option maxRecDepth 100000 in
theorem xi_92_208 : xm_ins 92 208 = some (.ifCond .eq 23, 211, 231, 0, 0) := rfl
set_option maxRecDepth 100000 in
theorem xi_92_211 : xm_ins 92 211 = some (.iload_n 3, 212, 3, 0, 0) := rfl
set_option maxRecDepth 100000 in
theorem xi_92_212 : xm_ins 92 212 = some (.bipush 7, 214, 0, 0, 7) := rfl
set_option maxRecDepth 100000 in
theorem xi_92_214 : xm_ins 92 214 = some (.irem, 215, 0, 0, 0) := rfl
set_option maxRecDepth 100000 in
theorem xi_92_215 : xm_ins 92 215 = some (.iconst 3, 216, 0, 0, 3) := rfl
set_option maxRecDepth 100000 in
theorem xi_92_216 : xm_ins 92 216 = some (.if_icmp .ne 17, 219, 233, 0, 0) := rfl
set_option maxRecDepth 100000 in
theorem xi_92_219 : xm_ins 92 219 = some (.aload_n 1, 220, 1, 0, 0) := rfl
set_option maxRecDepth 100000 in
theorem xi_92_220 : xm_ins 92 220 = some (.iload 4, 222, 4, 0, 0) := rfl
set_option maxRecDepth 100000 in
theorem xi_92_222 : xm_ins 92 222 = some (.bipush 9, 224, 0, 0, 9) := rfl
set_option maxRecDepth 100000 in
theorem xi_92_224 : xm_ins 92 224 = some (.ishr, 225, 0, 0, 0) := rfl
set_option maxRecDepth 100000 in
theorem xi_92_225 : xm_ins 92 225 = some (.invokestatic 116, 228, 89, 2, 0) := rfl
set_option maxRecDepth 100000 in
theorem xi_92_228 : xm_ins 92 228 = some (.ifCond .ne 5, 231, 233, 0, 0) := rfl
set_option maxRecDepth 100000 in
theorem xi_92_231 : xm_ins 92 231 = some (.iconst 0, 232, 0, 0, 0) := rfl
set_option maxRecDepth 100000 in
theorem xi_92_232 : xm_ins 92 232 = some (.ireturn, 233, 0, 0, 0) := rfl
set_option maxRecDepth 100000 in
theorem xi_92_233 : xm_ins 92 233 = some (.iinc 3 1, 236, 3, 0, 1) := rfl
set_option maxRecDepth 100000 in
theorem xi_92_236 : xm_ins 92 236 = some (.goto (-144), 239, 92, 0, 0) := rfl
set_option maxRecDepth 100000 in
theorem xi_92_239 : xm_ins 92 239 = some (.aload_n 1, 240, 1, 0, 0) := rfl
set_option maxRecDepth 100000 in
theorem xi_92_240 : xm_ins 92 240 = some (.invokestatic 63, 243, 88, 1, 0) := rfl
set_option maxRecDepth 100000 in
theorem xi_92_243 : xm_ins 92 243 = some (.ifCond .eq 92, 246, 335, 0, 0) := rfl
set_option maxRecDepth 100000 in
theorem xi_92_246 : xm_ins 92 246 = some (.aload_n 1, 247, 1, 0, 0) := rfl
set_option maxRecDepth 100000 in
theorem xi_92_247 : xm_ins 92 247 = some (.iload_n 2, 248, 2, 0, 0) := rfl
set_option maxRecDepth 100000 in
theorem xi_92_248 : xm_ins 92 248 = some (.iconst 5, 249, 0, 0, 5) := rfl
set_option maxRecDepth 100000 in
theorem xi_92_249 : xm_ins 92 249 = some (.ishr, 250, 0, 0, 0) := rfl
set_option maxRecDepth 100000 in
theorem xi_92_250 : xm_ins 92 250 = some (.invokestatic 116, 253, 89, 2, 0) := rfl
set_option maxRecDepth 100000 in
theorem xi_92_253 : xm_ins 92 253 = some (.ifCond .eq 82, 256, 335, 0, 0) := rfl
set_option maxRecDepth 100000 in
theorem xi_92_256 : xm_ins 92 256 = some (.aload_n 1, 257, 1, 0, 0) := rfl
set_option maxRecDepth 100000 in
theorem xi_92_257 : xm_ins 92 257 = some (.bipush 14, 259, 0, 0, 14) := rfl
set_option maxRecDepth 100000 in
theorem xi_92_259 : xm_ins 92 259 = some (.invokevirtual 12, 262, 73, 2, 2) := rfl
set_option maxRecDepth 100000 in
theorem xi_92_262 : xm_ins 92 262 = some (.ldc 45, 264, 0, 0, (-1000001)) := rfl
set_option maxRecDepth 100000 in
theorem xi_92_264 : xm_ins 92 264 = some (.if_icmp .ne 71, 267, 335, 0, 0) := rfl
set_option maxRecDepth 100000 in
theorem xi_92_267 : xm_ins 92 267 = some (.aload_n 1, 268, 1, 0, 0) := rfl
set_option maxRecDepth 100000 in
theorem xi_92_268 : xm_ins 92 268 = some (.bipush 13, 270, 0, 0, 13) := rfl
set_option maxRecDepth 100000 in
theorem xi_92_270 : xm_ins 92 270 = some (.invokevirtual 12, 273, 73, 2, 2) := rfl
set_option maxRecDepth 100000 in
theorem xi_92_273 : xm_ins 92 273 = some (.iconst 2, 274, 0, 0, 2) := rfl
set_option maxRecDepth 100000 in
theorem xi_92_274 : xm_ins 92 274 = some (.if_icmp .ne 61, 277, 335, 0, 0) := rfl
set_option maxRecDepth 100000 in
theorem xi_92_277 : xm_ins 92 277 = some (.aload_n 1, 278, 1, 0, 0) := rfl
set_option maxRecDepth 100000 in
theorem xi_92_278 : xm_ins 92 278 = some (.invokevirtual 119, 281, 76, 1, 2) := rfl
set_option maxRecDepth 100000 in
theorem xi_92_281 : xm_ins 92 281 = some (.iconst 2, 282, 0, 0, 2) := rfl
set_option maxRecDepth 100000 in
theorem xi_92_282 : xm_ins 92 282 = some (.if_icmp .ne 53, 285, 335, 0, 0) := rfl
set_option maxRecDepth 100000 in
theorem xi_92_285 : xm_ins 92 285 = some (.aload_n 1, 286, 1, 0, 0) := rfl
set_option maxRecDepth 100000 in
theorem xi_92_286 : xm_ins 92 286 = some (.bipush 30, 288, 0, 0, 30) := rfl
set_option maxRecDepth 100000 in
theorem xi_92_288 : xm_ins 92 288 = some (.iconst 0, 289, 0, 0, 0) := rfl
set_option maxRecDepth 100000 in
theorem xi_92_289 : xm_ins 92 289 = some (.invokevirtual 18, 292, 65, 3, 2) := rfl
set_option maxRecDepth 100000 in
theorem xi_92_292 : xm_ins 92 292 = some (.ldc 45, 294, 0, 0, (-1000001)) := rfl
set_option maxRecDepth 100000 in
theorem xi_92_294 : xm_ins 92 294 = some (.if_icmp .ne 41, 297, 335, 0, 0) := rfl
set_option maxRecDepth 100000 in
theorem xi_92_297 : xm_ins 92 297 = some (.aload_n 1, 298, 1, 0, 0) := rfl
set_option maxRecDepth 100000 in
theorem xi_92_298 : xm_ins 92 298 = some (.iconst 0, 299, 0, 0, 0) := rfl
set_option maxRecDepth 100000 in
theorem xi_92_299 : xm_ins 92 299 = some (.iconst 4, 300, 0, 0, 4) := rfl
set_option maxRecDepth 100000 in
theorem xi_92_300 : xm_ins 92 300 = some (.invokevirtual 56, 303, 70, 3, 2) := rfl
set_option maxRecDepth 100000 in
theorem xi_92_303 : xm_ins 92 303 = some (.ldc 45, 305, 0, 0, (-1000001)) := rfl
set_option maxRecDepth 100000 in
theorem xi_92_305 : xm_ins 92 305 = some (.if_icmp .ne 30, 308, 335, 0, 0) := rfl
set_option maxRecDepth 100000 in
theorem xi_92_308 : xm_ins 92 308 = some (.aload_n 1, 309, 1, 0, 0) := rfl
set_option maxRecDepth 100000 in
theorem xi_92_309 : xm_ins 92 309 = some (.iconst (-1), 310, 0, 0, (-1)) := rfl
set_option maxRecDepth 100000 in
theorem xi_92_310 : xm_ins 92 310 = some (.iconst 0, 311, 0, 0, 0) := rfl
set_option maxRecDepth 100000 in
theorem xi_92_311 : xm_ins 92 311 = some (.invokevirtual 56, 314, 70, 3, 2) := rfl
set_option maxRecDepth 100000 in
theorem xi_92_314 : xm_ins 92 314 = some (.ldc 45, 316, 0, 0, (-1000001)) := rfl
set_option maxRecDepth 100000 in
theorem xi_92_316 : xm_ins 92 316 = some (.if_icmp .ne 19, 319, 335, 0, 0) := rfl
set_option maxRecDepth 100000 in
theorem xi_92_319 : xm_ins 92 319 = some (.aload_n 1, 320, 1, 0, 0) := rfl
set_option maxRecDepth 100000 in
theorem xi_92_320 : xm_ins 92 320 = some (.iconst 0, 321, 0, 0, 0) := rfl
set_option maxRecDepth 100000 in
theorem xi_92_321 : xm_ins 92 321 = some (.bipush 8, 323, 0, 0, 8) := rfl
set_option maxRecDepth 100000 in
theorem xi_92_323 : xm_ins 92 323 = some (.invokevirtual 22, 326, 66, 3, 2) := rfl
set_option maxRecDepth 100000 in
theorem xi_92_326 : xm_ins 92 326 = some (.ldc 45, 328, 0, 0, (-1000001)) := rfl
set_option maxRecDepth 100000 in
theorem xi_92_328 : xm_ins 92 328 = some (.if_icmp .ne 7, 331, 335, 0, 0) := rfl
set_option maxRecDepth 100000 in
theorem xi_92_331 : xm_ins 92 331 = some (.iconst 1, 332, 0, 0, 1) := rfl
set_option maxRecDepth 100000 in
theorem xi_92_332 : xm_ins 92 332 = some (.goto 4, 335, 336, 0, 0) := rfl
set_option maxRecDepth 100000 in
theorem xi_92_335 : xm_ins 92 335 = some (.iconst 0, 336, 0, 0, 0) := rfl
set_option maxRecDepth 100000 in
theorem xi_92_336 : xm_ins 92 336 = some (.ireturn, 337, 0, 0, 0) := rfl
