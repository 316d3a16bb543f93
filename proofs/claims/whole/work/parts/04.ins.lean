theorem xn_0 (pc : Nat) : xm_ins 0 pc = xm_find xt_0 pc := rfl
theorem xi_0_0 : xm_ins 0 0 = some (.aload_n 0, 1, 0, 0, 0) := rfl
theorem xi_0_1 : xm_ins 0 1 = some (.invokespecial 3, 4, 1000, 0, 0) := rfl
theorem xi_0_4 : xm_ins 0 4 = some (.aload_n 0, 5, 0, 0, 0) := rfl
theorem xi_0_5 : xm_ins 0 5 = some (.bipush 60, 7, 0, 0, 60) := rfl
theorem xi_0_7 : xm_ins 0 7 = some (.newarray .int, 9, 0, 0, 0) := rfl
theorem xi_0_9 : xm_ins 0 9 = some (.putfield 9, 12, 0, 0, 1) := rfl
theorem xi_0_12 : xm_ins 0 12 = some (.aload_n 0, 13, 0, 0, 0) := rfl
theorem xi_0_13 : xm_ins 0 13 = some (.iconst 3, 14, 0, 0, 3) := rfl
theorem xi_0_14 : xm_ins 0 14 = some (.newarray .int, 16, 0, 0, 0) := rfl
theorem xi_0_16 : xm_ins 0 16 = some (.putfield 15, 19, 0, 1, 1) := rfl
theorem xi_0_19 : xm_ins 0 19 = some (.aload_n 0, 20, 0, 0, 0) := rfl
theorem xi_0_20 : xm_ins 0 20 = some (.iconst 0, 21, 0, 0, 0) := rfl
theorem xi_0_21 : xm_ins 0 21 = some (.putfield 18, 24, 0, 2, 0) := rfl
theorem xi_0_24 : xm_ins 0 24 = some (.aload_n 0, 25, 0, 0, 0) := rfl
theorem xi_0_25 : xm_ins 0 25 = some (.iconst 0, 26, 0, 0, 0) := rfl
theorem xi_0_26 : xm_ins 0 26 = some (.putfield 22, 29, 0, 3, 0) := rfl
theorem xi_0_29 : xm_ins 0 29 = some (.aload_n 0, 30, 0, 0, 0) := rfl
theorem xi_0_30 : xm_ins 0 30 = some (.iconst 0, 31, 0, 0, 0) := rfl
theorem xi_0_31 : xm_ins 0 31 = some (.putfield 25, 34, 0, 4, 0) := rfl
theorem xi_0_34 : xm_ins 0 34 = some (.aload_n 0, 35, 0, 0, 0) := rfl
theorem xi_0_35 : xm_ins 0 35 = some (.iconst 0, 36, 0, 0, 0) := rfl
theorem xi_0_36 : xm_ins 0 36 = some (.putfield 28, 39, 0, 5, 0) := rfl
theorem xi_0_39 : xm_ins 0 39 = some (.return_, 40, 0, 0, 0) := rfl
theorem xn_1 (pc : Nat) : xm_ins 1 pc = xm_find xt_1 pc := rfl
theorem xi_1_0 : xm_ins 1 0 = some (.aload_n 0, 1, 0, 0, 0) := rfl
theorem xi_1_1 : xm_ins 1 1 = some (.getfield 18, 4, 0, 2, 0) := rfl
theorem xi_1_4 : xm_ins 1 4 = some (.bipush 60, 6, 0, 0, 60) := rfl
theorem xi_1_6 : xm_ins 1 6 = some (.if_icmp .lt 6, 9, 12, 0, 0) := rfl
theorem xi_1_9 : xm_ins 1 9 = some (.ldc 31, 11, 0, 0, (-1000003)) := rfl
theorem xi_1_11 : xm_ins 1 11 = some (.ireturn, 12, 0, 0, 0) := rfl
theorem xi_1_12 : xm_ins 1 12 = some (.aload_n 0, 13, 0, 0, 0) := rfl
theorem xi_1_13 : xm_ins 1 13 = some (.getfield 9, 16, 0, 0, 1) := rfl
theorem xi_1_16 : xm_ins 1 16 = some (.aload_n 0, 17, 0, 0, 0) := rfl
theorem xi_1_17 : xm_ins 1 17 = some (.getfield 18, 20, 0, 2, 0) := rfl
theorem xi_1_20 : xm_ins 1 20 = some (.iload_n 1, 21, 1, 0, 0) := rfl
theorem xi_1_21 : xm_ins 1 21 = some (.iastore, 22, 0, 0, 0) := rfl
theorem xi_1_22 : xm_ins 1 22 = some (.aload_n 0, 23, 0, 0, 0) := rfl
theorem xi_1_23 : xm_ins 1 23 = some (.dup, 24, 0, 0, 0) := rfl
theorem xi_1_24 : xm_ins 1 24 = some (.getfield 18, 27, 0, 2, 0) := rfl
theorem xi_1_27 : xm_ins 1 27 = some (.iconst 1, 28, 0, 0, 1) := rfl
theorem xi_1_28 : xm_ins 1 28 = some (.iadd, 29, 0, 0, 0) := rfl
theorem xi_1_29 : xm_ins 1 29 = some (.putfield 18, 32, 0, 2, 0) := rfl
theorem xi_1_32 : xm_ins 1 32 = some (.aload_n 0, 33, 0, 0, 0) := rfl
theorem xi_1_33 : xm_ins 1 33 = some (.getfield 18, 36, 0, 2, 0) := rfl
theorem xi_1_36 : xm_ins 1 36 = some (.ireturn, 37, 0, 0, 0) := rfl
theorem xn_2 (pc : Nat) : xm_ins 2 pc = xm_find xt_2 pc := rfl
theorem xi_2_0 : xm_ins 2 0 = some (.iconst 0, 1, 0, 0, 0) := rfl
theorem xi_2_1 : xm_ins 2 1 = some (.istore_n 2, 2, 2, 0, 0) := rfl
theorem xi_2_2 : xm_ins 2 2 = some (.aload_n 0, 3, 0, 0, 0) := rfl
theorem xi_2_3 : xm_ins 2 3 = some (.iconst 0, 4, 0, 0, 0) := rfl
theorem xi_2_4 : xm_ins 2 4 = some (.putfield 22, 7, 0, 3, 0) := rfl
theorem xi_2_7 : xm_ins 2 7 = some (.aload_n 0, 8, 0, 0, 0) := rfl
theorem xi_2_8 : xm_ins 2 8 = some (.iconst 0, 9, 0, 0, 0) := rfl
theorem xi_2_9 : xm_ins 2 9 = some (.putfield 28, 12, 0, 5, 0) := rfl
theorem xi_2_12 : xm_ins 2 12 = some (.iload_n 2, 13, 2, 0, 0) := rfl
theorem xi_2_13 : xm_ins 2 13 = some (.bipush 60, 15, 0, 0, 60) := rfl
theorem xi_2_15 : xm_ins 2 15 = some (.if_icmp .ge 65, 18, 80, 0, 0) := rfl
theorem xi_2_18 : xm_ins 2 18 = some (.aload_n 0, 19, 0, 0, 0) := rfl
theorem xi_2_19 : xm_ins 2 19 = some (.getfield 22, 22, 0, 3, 0) := rfl
theorem xi_2_22 : xm_ins 2 22 = some (.aload_n 0, 23, 0, 0, 0) := rfl
theorem xi_2_23 : xm_ins 2 23 = some (.getfield 18, 26, 0, 2, 0) := rfl
theorem xi_2_26 : xm_ins 2 26 = some (.if_icmp .ge 54, 29, 80, 0, 0) := rfl
theorem xi_2_29 : xm_ins 2 29 = some (.aload_n 0, 30, 0, 0, 0) := rfl
theorem xi_2_30 : xm_ins 2 30 = some (.getfield 28, 33, 0, 5, 0) := rfl
theorem xi_2_33 : xm_ins 2 33 = some (.ifCond .ne 47, 36, 80, 0, 0) := rfl
theorem xi_2_36 : xm_ins 2 36 = some (.iinc 2 1, 39, 2, 0, 1) := rfl
theorem xi_2_39 : xm_ins 2 39 = some (.aload_n 0, 40, 0, 0, 0) := rfl
theorem xi_2_40 : xm_ins 2 40 = some (.aload_n 0, 41, 0, 0, 0) := rfl
theorem xi_2_41 : xm_ins 2 41 = some (.getfield 22, 44, 0, 3, 0) := rfl
theorem xi_2_44 : xm_ins 2 44 = some (.putfield 25, 47, 0, 4, 0) := rfl
theorem xi_2_47 : xm_ins 2 47 = some (.aload_n 0, 48, 0, 0, 0) := rfl
theorem xi_2_48 : xm_ins 2 48 = some (.invokevirtual 32, 51, 6, 1, 0) := rfl
theorem xi_2_51 : xm_ins 2 51 = some (.istore_n 3, 52, 3, 0, 0) := rfl
theorem xi_2_52 : xm_ins 2 52 = some (.aload_n 0, 53, 0, 0, 0) := rfl
theorem xi_2_53 : xm_ins 2 53 = some (.aload_n 0, 54, 0, 0, 0) := rfl
theorem xi_2_54 : xm_ins 2 54 = some (.iload_n 3, 55, 3, 0, 0) := rfl
theorem xi_2_55 : xm_ins 2 55 = some (.invokevirtual 36, 58, 3, 2, 0) := rfl
theorem xi_2_58 : xm_ins 2 58 = some (.ifCond .eq 15, 61, 73, 0, 0) := rfl
theorem xi_2_61 : xm_ins 2 61 = some (.aload_n 0, 62, 0, 0, 0) := rfl
theorem xi_2_62 : xm_ins 2 62 = some (.aload_n 1, 63, 1, 0, 0) := rfl
theorem xi_2_63 : xm_ins 2 63 = some (.iload_n 3, 64, 3, 0, 0) := rfl
theorem xi_2_64 : xm_ins 2 64 = some (.invokevirtual 40, 67, 9, 3, 0) := rfl
theorem xi_2_67 : xm_ins 2 67 = some (.invokestatic 44, 70, 10, 1, 0) := rfl
theorem xi_2_70 : xm_ins 2 70 = some (.goto 4, 73, 74, 0, 0) := rfl
theorem xi_2_73 : xm_ins 2 73 = some (.iconst 1, 74, 0, 0, 1) := rfl
theorem xi_2_74 : xm_ins 2 74 = some (.putfield 28, 77, 0, 5, 0) := rfl
theorem xi_2_77 : xm_ins 2 77 = some (.goto (-65), 80, 12, 0, 0) := rfl
theorem xi_2_80 : xm_ins 2 80 = some (.iload_n 2, 81, 2, 0, 0) := rfl
theorem xi_2_81 : xm_ins 2 81 = some (.ireturn, 82, 0, 0, 0) := rfl
theorem xn_3 (pc : Nat) : xm_ins 3 pc = xm_find xt_3 pc := rfl
theorem xi_3_0 : xm_ins 3 0 = some (.iload_n 1, 1, 1, 0, 0) := rfl
theorem xi_3_1 : xm_ins 3 1 = some (.invokestatic 48, 4, 4, 1, 0) := rfl
theorem xi_3_4 : xm_ins 3 4 = some (.istore_n 2, 5, 2, 0, 0) := rfl
theorem xi_3_5 : xm_ins 3 5 = some (.iload_n 2, 6, 2, 0, 0) := rfl
theorem xi_3_6 : xm_ins 3 6 = some (.iconst (-1), 7, 0, 0, (-1)) := rfl
theorem xi_3_7 : xm_ins 3 7 = some (.if_icmp .ne 5, 10, 12, 0, 0) := rfl
theorem xi_3_10 : xm_ins 3 10 = some (.iconst 0, 11, 0, 0, 0) := rfl
theorem xi_3_11 : xm_ins 3 11 = some (.ireturn, 12, 0, 0, 0) := rfl
theorem xi_3_12 : xm_ins 3 12 = some (.aload_n 0, 13, 0, 0, 0) := rfl
theorem xi_3_13 : xm_ins 3 13 = some (.dup, 14, 0, 0, 0) := rfl
theorem xi_3_14 : xm_ins 3 14 = some (.getfield 22, 17, 0, 3, 0) := rfl
theorem xi_3_17 : xm_ins 3 17 = some (.iconst 1, 18, 0, 0, 1) := rfl
theorem xi_3_18 : xm_ins 3 18 = some (.iadd, 19, 0, 0, 0) := rfl
theorem xi_3_19 : xm_ins 3 19 = some (.putfield 22, 22, 0, 3, 0) := rfl
theorem xi_3_22 : xm_ins 3 22 = some (.iconst 0, 23, 0, 0, 0) := rfl
theorem xi_3_23 : xm_ins 3 23 = some (.istore_n 3, 24, 3, 0, 0) := rfl
theorem xi_3_24 : xm_ins 3 24 = some (.iload_n 3, 25, 3, 0, 0) := rfl
theorem xi_3_25 : xm_ins 3 25 = some (.iload_n 2, 26, 2, 0, 0) := rfl
theorem xi_3_26 : xm_ins 3 26 = some (.if_icmp .ge 51, 29, 77, 0, 0) := rfl
theorem xi_3_29 : xm_ins 3 29 = some (.iload_n 3, 30, 3, 0, 0) := rfl
theorem xi_3_30 : xm_ins 3 30 = some (.iconst 3, 31, 0, 0, 3) := rfl
theorem xi_3_31 : xm_ins 3 31 = some (.if_icmp .ge 46, 34, 77, 0, 0) := rfl
theorem xi_3_34 : xm_ins 3 34 = some (.iload_n 3, 35, 3, 0, 0) := rfl
theorem xi_3_35 : xm_ins 3 35 = some (.ifCond .le 14, 38, 49, 0, 0) := rfl
theorem xi_3_38 : xm_ins 3 38 = some (.aload_n 0, 39, 0, 0, 0) := rfl
theorem xi_3_39 : xm_ins 3 39 = some (.bipush 44, 41, 0, 0, 44) := rfl
theorem xi_3_41 : xm_ins 3 41 = some (.invokevirtual 51, 44, 7, 2, 0) := rfl
theorem xi_3_44 : xm_ins 3 44 = some (.ifCond .ne 5, 47, 49, 0, 0) := rfl
theorem xi_3_47 : xm_ins 3 47 = some (.iconst 0, 48, 0, 0, 0) := rfl
theorem xi_3_48 : xm_ins 3 48 = some (.ireturn, 49, 0, 0, 0) := rfl
theorem xi_3_49 : xm_ins 3 49 = some (.aload_n 0, 50, 0, 0, 0) := rfl
theorem xi_3_50 : xm_ins 3 50 = some (.invokevirtual 54, 53, 5, 1, 0) := rfl
theorem xi_3_53 : xm_ins 3 53 = some (.istore 4, 55, 4, 0, 0) := rfl
theorem xi_3_55 : xm_ins 3 55 = some (.iload 4, 57, 4, 0, 0) := rfl
theorem xi_3_57 : xm_ins 3 57 = some (.iconst (-1), 58, 0, 0, (-1)) := rfl
theorem xi_3_58 : xm_ins 3 58 = some (.if_icmp .ne 5, 61, 63, 0, 0) := rfl
theorem xi_3_61 : xm_ins 3 61 = some (.iconst 0, 62, 0, 0, 0) := rfl
theorem xi_3_62 : xm_ins 3 62 = some (.ireturn, 63, 0, 0, 0) := rfl
theorem xi_3_63 : xm_ins 3 63 = some (.aload_n 0, 64, 0, 0, 0) := rfl
theorem xi_3_64 : xm_ins 3 64 = some (.getfield 15, 67, 0, 1, 1) := rfl
theorem xi_3_67 : xm_ins 3 67 = some (.iload_n 3, 68, 3, 0, 0) := rfl
theorem xi_3_68 : xm_ins 3 68 = some (.iload 4, 70, 4, 0, 0) := rfl
theorem xi_3_70 : xm_ins 3 70 = some (.iastore, 71, 0, 0, 0) := rfl
theorem xi_3_71 : xm_ins 3 71 = some (.iinc 3 1, 74, 3, 0, 1) := rfl
theorem xi_3_74 : xm_ins 3 74 = some (.goto (-50), 77, 24, 0, 0) := rfl
theorem xi_3_77 : xm_ins 3 77 = some (.aload_n 0, 78, 0, 0, 0) := rfl
theorem xi_3_78 : xm_ins 3 78 = some (.bipush 59, 80, 0, 0, 59) := rfl
theorem xi_3_80 : xm_ins 3 80 = some (.invokevirtual 51, 83, 7, 2, 0) := rfl
theorem xi_3_83 : xm_ins 3 83 = some (.ireturn, 84, 0, 0, 0) := rfl
theorem xn_4 (pc : Nat) : xm_ins 4 pc = xm_find xt_4 pc := rfl
theorem xi_4_0 : xm_ins 4 0 = some (.iload_n 0, 1, 0, 0, 0) := rfl
theorem xi_4_1 : xm_ins 4 1 = some (.tableswitch 95 102 119 #[87, 95, 91, 95, 95, 95, 89, 95, 87, 95, 89, 95, 95, 93, 95, 91, 95, 89], 88, 0, 0, 0) := rfl
theorem xi_4_88 : xm_ins 4 88 = some (.iconst 0, 89, 0, 0, 0) := rfl
theorem xi_4_89 : xm_ins 4 89 = some (.ireturn, 90, 0, 0, 0) := rfl
theorem xi_4_90 : xm_ins 4 90 = some (.iconst 1, 91, 0, 0, 1) := rfl
theorem xi_4_91 : xm_ins 4 91 = some (.ireturn, 92, 0, 0, 0) := rfl
theorem xi_4_92 : xm_ins 4 92 = some (.iconst 2, 93, 0, 0, 2) := rfl
theorem xi_4_93 : xm_ins 4 93 = some (.ireturn, 94, 0, 0, 0) := rfl
theorem xi_4_94 : xm_ins 4 94 = some (.iconst 3, 95, 0, 0, 3) := rfl
theorem xi_4_95 : xm_ins 4 95 = some (.ireturn, 96, 0, 0, 0) := rfl
theorem xi_4_96 : xm_ins 4 96 = some (.iconst (-1), 97, 0, 0, (-1)) := rfl
theorem xi_4_97 : xm_ins 4 97 = some (.ireturn, 98, 0, 0, 0) := rfl
theorem xn_5 (pc : Nat) : xm_ins 5 pc = xm_find xt_5 pc := rfl
theorem xi_5_0 : xm_ins 5 0 = some (.aload_n 0, 1, 0, 0, 0) := rfl
theorem xi_5_1 : xm_ins 5 1 = some (.invokevirtual 32, 4, 6, 1, 0) := rfl
theorem xi_5_4 : xm_ins 5 4 = some (.invokestatic 57, 7, 8, 1, 0) := rfl
theorem xi_5_7 : xm_ins 5 7 = some (.ifCond .ne 5, 10, 12, 0, 0) := rfl
theorem xi_5_10 : xm_ins 5 10 = some (.iconst (-1), 11, 0, 0, (-1)) := rfl
theorem xi_5_11 : xm_ins 5 11 = some (.ireturn, 12, 0, 0, 0) := rfl
theorem xi_5_12 : xm_ins 5 12 = some (.aload_n 0, 13, 0, 0, 0) := rfl
theorem xi_5_13 : xm_ins 5 13 = some (.invokevirtual 32, 16, 6, 1, 0) := rfl
theorem xi_5_16 : xm_ins 5 16 = some (.bipush 48, 18, 0, 0, 48) := rfl
theorem xi_5_18 : xm_ins 5 18 = some (.isub, 19, 0, 0, 0) := rfl
theorem xi_5_19 : xm_ins 5 19 = some (.istore_n 1, 20, 1, 0, 0) := rfl
theorem xi_5_20 : xm_ins 5 20 = some (.aload_n 0, 21, 0, 0, 0) := rfl
theorem xi_5_21 : xm_ins 5 21 = some (.dup, 22, 0, 0, 0) := rfl
theorem xi_5_22 : xm_ins 5 22 = some (.getfield 22, 25, 0, 3, 0) := rfl
theorem xi_5_25 : xm_ins 5 25 = some (.iconst 1, 26, 0, 0, 1) := rfl
theorem xi_5_26 : xm_ins 5 26 = some (.iadd, 27, 0, 0, 0) := rfl
theorem xi_5_27 : xm_ins 5 27 = some (.putfield 22, 30, 0, 3, 0) := rfl
theorem xi_5_30 : xm_ins 5 30 = some (.aload_n 0, 31, 0, 0, 0) := rfl
theorem xi_5_31 : xm_ins 5 31 = some (.invokevirtual 32, 34, 6, 1, 0) := rfl
theorem xi_5_34 : xm_ins 5 34 = some (.invokestatic 57, 37, 8, 1, 0) := rfl
theorem xi_5_37 : xm_ins 5 37 = some (.ifCond .eq 26, 40, 63, 0, 0) := rfl
theorem xi_5_40 : xm_ins 5 40 = some (.bipush 10, 42, 0, 0, 10) := rfl
theorem xi_5_42 : xm_ins 5 42 = some (.iload_n 1, 43, 1, 0, 0) := rfl
theorem xi_5_43 : xm_ins 5 43 = some (.imul, 44, 0, 0, 0) := rfl
theorem xi_5_44 : xm_ins 5 44 = some (.aload_n 0, 45, 0, 0, 0) := rfl
theorem xi_5_45 : xm_ins 5 45 = some (.invokevirtual 32, 48, 6, 1, 0) := rfl
theorem xi_5_48 : xm_ins 5 48 = some (.iadd, 49, 0, 0, 0) := rfl
theorem xi_5_49 : xm_ins 5 49 = some (.bipush 48, 51, 0, 0, 48) := rfl
theorem xi_5_51 : xm_ins 5 51 = some (.isub, 52, 0, 0, 0) := rfl
theorem xi_5_52 : xm_ins 5 52 = some (.istore_n 1, 53, 1, 0, 0) := rfl
theorem xi_5_53 : xm_ins 5 53 = some (.aload_n 0, 54, 0, 0, 0) := rfl
theorem xi_5_54 : xm_ins 5 54 = some (.dup, 55, 0, 0, 0) := rfl
theorem xi_5_55 : xm_ins 5 55 = some (.getfield 22, 58, 0, 3, 0) := rfl
theorem xi_5_58 : xm_ins 5 58 = some (.iconst 1, 59, 0, 0, 1) := rfl
theorem xi_5_59 : xm_ins 5 59 = some (.iadd, 60, 0, 0, 0) := rfl
theorem xi_5_60 : xm_ins 5 60 = some (.putfield 22, 63, 0, 3, 0) := rfl
theorem xi_5_63 : xm_ins 5 63 = some (.iload_n 1, 64, 1, 0, 0) := rfl
theorem xi_5_64 : xm_ins 5 64 = some (.ireturn, 65, 0, 0, 0) := rfl
theorem xn_6 (pc : Nat) : xm_ins 6 pc = xm_find xt_6 pc := rfl
theorem xi_6_0 : xm_ins 6 0 = some (.aload_n 0, 1, 0, 0, 0) := rfl
theorem xi_6_1 : xm_ins 6 1 = some (.getfield 22, 4, 0, 3, 0) := rfl
theorem xi_6_4 : xm_ins 6 4 = some (.ifCond .lt 35, 7, 39, 0, 0) := rfl
theorem xi_6_7 : xm_ins 6 7 = some (.aload_n 0, 8, 0, 0, 0) := rfl
theorem xi_6_8 : xm_ins 6 8 = some (.getfield 22, 11, 0, 3, 0) := rfl
theorem xi_6_11 : xm_ins 6 11 = some (.aload_n 0, 12, 0, 0, 0) := rfl
theorem xi_6_12 : xm_ins 6 12 = some (.getfield 18, 15, 0, 2, 0) := rfl
theorem xi_6_15 : xm_ins 6 15 = some (.if_icmp .ge 24, 18, 39, 0, 0) := rfl
theorem xi_6_18 : xm_ins 6 18 = some (.aload_n 0, 19, 0, 0, 0) := rfl
theorem xi_6_19 : xm_ins 6 19 = some (.getfield 22, 22, 0, 3, 0) := rfl
theorem xi_6_22 : xm_ins 6 22 = some (.bipush 60, 24, 0, 0, 60) := rfl
theorem xi_6_24 : xm_ins 6 24 = some (.if_icmp .ge 15, 27, 39, 0, 0) := rfl
theorem xi_6_27 : xm_ins 6 27 = some (.aload_n 0, 28, 0, 0, 0) := rfl
theorem xi_6_28 : xm_ins 6 28 = some (.getfield 9, 31, 0, 0, 1) := rfl
theorem xi_6_31 : xm_ins 6 31 = some (.aload_n 0, 32, 0, 0, 0) := rfl
theorem xi_6_32 : xm_ins 6 32 = some (.getfield 22, 35, 0, 3, 0) := rfl
theorem xi_6_35 : xm_ins 6 35 = some (.iaload, 36, 0, 0, 0) := rfl
theorem xi_6_36 : xm_ins 6 36 = some (.goto 4, 39, 40, 0, 0) := rfl
theorem xi_6_39 : xm_ins 6 39 = some (.iconst (-1), 40, 0, 0, (-1)) := rfl
theorem xi_6_40 : xm_ins 6 40 = some (.ireturn, 41, 0, 0, 0) := rfl
theorem xn_7 (pc : Nat) : xm_ins 7 pc = xm_find xt_7 pc := rfl
theorem xi_7_0 : xm_ins 7 0 = some (.aload_n 0, 1, 0, 0, 0) := rfl
theorem xi_7_1 : xm_ins 7 1 = some (.invokevirtual 32, 4, 6, 1, 0) := rfl
theorem xi_7_4 : xm_ins 7 4 = some (.iload_n 1, 5, 1, 0, 0) := rfl
theorem xi_7_5 : xm_ins 7 5 = some (.if_icmp .eq 5, 8, 10, 0, 0) := rfl
theorem xi_7_8 : xm_ins 7 8 = some (.iconst 0, 9, 0, 0, 0) := rfl
theorem xi_7_9 : xm_ins 7 9 = some (.ireturn, 10, 0, 0, 0) := rfl
theorem xi_7_10 : xm_ins 7 10 = some (.aload_n 0, 11, 0, 0, 0) := rfl
theorem xi_7_11 : xm_ins 7 11 = some (.dup, 12, 0, 0, 0) := rfl
theorem xi_7_12 : xm_ins 7 12 = some (.getfield 22, 15, 0, 3, 0) := rfl
theorem xi_7_15 : xm_ins 7 15 = some (.iconst 1, 16, 0, 0, 1) := rfl
theorem xi_7_16 : xm_ins 7 16 = some (.iadd, 17, 0, 0, 0) := rfl
theorem xi_7_17 : xm_ins 7 17 = some (.putfield 22, 20, 0, 3, 0) := rfl
theorem xi_7_20 : xm_ins 7 20 = some (.iconst 1, 21, 0, 0, 1) := rfl
theorem xi_7_21 : xm_ins 7 21 = some (.ireturn, 22, 0, 0, 0) := rfl
theorem xn_8 (pc : Nat) : xm_ins 8 pc = xm_find xt_8 pc := rfl
theorem xi_8_0 : xm_ins 8 0 = some (.iload_n 0, 1, 0, 0, 0) := rfl
theorem xi_8_1 : xm_ins 8 1 = some (.bipush 48, 3, 0, 0, 48) := rfl
theorem xi_8_3 : xm_ins 8 3 = some (.if_icmp .lt 13, 6, 16, 0, 0) := rfl
theorem xi_8_6 : xm_ins 8 6 = some (.iload_n 0, 7, 0, 0, 0) := rfl
theorem xi_8_7 : xm_ins 8 7 = some (.bipush 57, 9, 0, 0, 57) := rfl
theorem xi_8_9 : xm_ins 8 9 = some (.if_icmp .gt 7, 12, 16, 0, 0) := rfl
theorem xi_8_12 : xm_ins 8 12 = some (.iconst 1, 13, 0, 0, 1) := rfl
theorem xi_8_13 : xm_ins 8 13 = some (.goto 4, 16, 17, 0, 0) := rfl
theorem xi_8_16 : xm_ins 8 16 = some (.iconst 0, 17, 0, 0, 0) := rfl
theorem xi_8_17 : xm_ins 8 17 = some (.ireturn, 18, 0, 0, 0) := rfl
theorem xn_9 (pc : Nat) : xm_ins 9 pc = xm_find xt_9 pc := rfl
theorem xi_9_0 : xm_ins 9 0 = some (.iload_n 2, 1, 2, 0, 0) := rfl
theorem xi_9_1 : xm_ins 9 1 = some (.tableswitch 174 104 119 #[84, 174, 174, 174, 101, 174, 79, 174, 152, 174, 174, 112, 174, 135, 174, 163], 80, 0, 0, 0) := rfl
theorem xi_9_80 : xm_ins 9 80 = some (.aload_n 1, 81, 1, 0, 0) := rfl
theorem xi_9_81 : xm_ins 9 81 = some (.invokevirtual 60, 84, 14, 1, 1) := rfl
theorem xi_9_84 : xm_ins 9 84 = some (.ireturn, 85, 0, 0, 0) := rfl
theorem xi_9_85 : xm_ins 9 85 = some (.aload_n 1, 86, 1, 0, 0) := rfl
theorem xi_9_86 : xm_ins 9 86 = some (.aload_n 0, 87, 0, 0, 0) := rfl
theorem xi_9_87 : xm_ins 9 87 = some (.getfield 15, 90, 0, 1, 1) := rfl
theorem xi_9_90 : xm_ins 9 90 = some (.iconst 0, 91, 0, 0, 0) := rfl
theorem xi_9_91 : xm_ins 9 91 = some (.iaload, 92, 0, 0, 0) := rfl
theorem xi_9_92 : xm_ins 9 92 = some (.aload_n 0, 93, 0, 0, 0) := rfl
theorem xi_9_93 : xm_ins 9 93 = some (.getfield 15, 96, 0, 1, 1) := rfl
theorem xi_9_96 : xm_ins 9 96 = some (.iconst 1, 97, 0, 0, 1) := rfl
theorem xi_9_97 : xm_ins 9 97 = some (.iaload, 98, 0, 0, 0) := rfl
theorem xi_9_98 : xm_ins 9 98 = some (.invokevirtual 65, 101, 15, 3, 1) := rfl
theorem xi_9_101 : xm_ins 9 101 = some (.ireturn, 102, 0, 0, 0) := rfl
theorem xi_9_102 : xm_ins 9 102 = some (.aload_n 1, 103, 1, 0, 0) := rfl
theorem xi_9_103 : xm_ins 9 103 = some (.aload_n 0, 104, 0, 0, 0) := rfl
theorem xi_9_104 : xm_ins 9 104 = some (.getfield 15, 107, 0, 1, 1) := rfl
theorem xi_9_107 : xm_ins 9 107 = some (.iconst 0, 108, 0, 0, 0) := rfl
theorem xi_9_108 : xm_ins 9 108 = some (.iaload, 109, 0, 0, 0) := rfl
theorem xi_9_109 : xm_ins 9 109 = some (.invokevirtual 69, 112, 16, 2, 1) := rfl
theorem xi_9_112 : xm_ins 9 112 = some (.ireturn, 113, 0, 0, 0) := rfl
theorem xi_9_113 : xm_ins 9 113 = some (.aload_n 1, 114, 1, 0, 0) := rfl
theorem xi_9_114 : xm_ins 9 114 = some (.aload_n 0, 115, 0, 0, 0) := rfl
theorem xi_9_115 : xm_ins 9 115 = some (.getfield 15, 118, 0, 1, 1) := rfl
theorem xi_9_118 : xm_ins 9 118 = some (.iconst 0, 119, 0, 0, 0) := rfl
theorem xi_9_119 : xm_ins 9 119 = some (.iaload, 120, 0, 0, 0) := rfl
theorem xi_9_120 : xm_ins 9 120 = some (.aload_n 0, 121, 0, 0, 0) := rfl
theorem xi_9_121 : xm_ins 9 121 = some (.getfield 15, 124, 0, 1, 1) := rfl
theorem xi_9_124 : xm_ins 9 124 = some (.iconst 1, 125, 0, 0, 1) := rfl
theorem xi_9_125 : xm_ins 9 125 = some (.iaload, 126, 0, 0, 0) := rfl
theorem xi_9_126 : xm_ins 9 126 = some (.aload_n 0, 127, 0, 0, 0) := rfl
theorem xi_9_127 : xm_ins 9 127 = some (.getfield 15, 130, 0, 1, 1) := rfl
theorem xi_9_130 : xm_ins 9 130 = some (.iconst 2, 131, 0, 0, 2) := rfl
theorem xi_9_131 : xm_ins 9 131 = some (.iaload, 132, 0, 0, 0) := rfl
theorem xi_9_132 : xm_ins 9 132 = some (.invokevirtual 72, 135, 17, 4, 1) := rfl
theorem xi_9_135 : xm_ins 9 135 = some (.ireturn, 136, 0, 0, 0) := rfl
theorem xi_9_136 : xm_ins 9 136 = some (.aload_n 1, 137, 1, 0, 0) := rfl
theorem xi_9_137 : xm_ins 9 137 = some (.aload_n 0, 138, 0, 0, 0) := rfl
theorem xi_9_138 : xm_ins 9 138 = some (.getfield 15, 141, 0, 1, 1) := rfl
theorem xi_9_141 : xm_ins 9 141 = some (.iconst 0, 142, 0, 0, 0) := rfl
theorem xi_9_142 : xm_ins 9 142 = some (.iaload, 143, 0, 0, 0) := rfl
theorem xi_9_143 : xm_ins 9 143 = some (.aload_n 0, 144, 0, 0, 0) := rfl
theorem xi_9_144 : xm_ins 9 144 = some (.getfield 15, 147, 0, 1, 1) := rfl
theorem xi_9_147 : xm_ins 9 147 = some (.iconst 1, 148, 0, 0, 1) := rfl
theorem xi_9_148 : xm_ins 9 148 = some (.iaload, 149, 0, 0, 0) := rfl
theorem xi_9_149 : xm_ins 9 149 = some (.invokevirtual 76, 152, 18, 3, 1) := rfl
theorem xi_9_152 : xm_ins 9 152 = some (.ireturn, 153, 0, 0, 0) := rfl
theorem xi_9_153 : xm_ins 9 153 = some (.aload_n 1, 154, 1, 0, 0) := rfl
theorem xi_9_154 : xm_ins 9 154 = some (.aload_n 0, 155, 0, 0, 0) := rfl
theorem xi_9_155 : xm_ins 9 155 = some (.getfield 15, 158, 0, 1, 1) := rfl
theorem xi_9_158 : xm_ins 9 158 = some (.iconst 0, 159, 0, 0, 0) := rfl
theorem xi_9_159 : xm_ins 9 159 = some (.iaload, 160, 0, 0, 0) := rfl
theorem xi_9_160 : xm_ins 9 160 = some (.invokevirtual 79, 163, 19, 2, 1) := rfl
theorem xi_9_163 : xm_ins 9 163 = some (.ireturn, 164, 0, 0, 0) := rfl
theorem xi_9_164 : xm_ins 9 164 = some (.aload_n 1, 165, 1, 0, 0) := rfl
theorem xi_9_165 : xm_ins 9 165 = some (.aload_n 0, 166, 0, 0, 0) := rfl
theorem xi_9_166 : xm_ins 9 166 = some (.getfield 15, 169, 0, 1, 1) := rfl
theorem xi_9_169 : xm_ins 9 169 = some (.iconst 0, 170, 0, 0, 0) := rfl
theorem xi_9_170 : xm_ins 9 170 = some (.iaload, 171, 0, 0, 0) := rfl
theorem xi_9_171 : xm_ins 9 171 = some (.invokevirtual 82, 174, 21, 2, 1) := rfl
theorem xi_9_174 : xm_ins 9 174 = some (.ireturn, 175, 0, 0, 0) := rfl
theorem xi_9_175 : xm_ins 9 175 = some (.aload_n 1, 176, 1, 0, 0) := rfl
theorem xi_9_176 : xm_ins 9 176 = some (.invokevirtual 85, 179, 22, 1, 1) := rfl
theorem xi_9_179 : xm_ins 9 179 = some (.ireturn, 180, 0, 0, 0) := rfl
theorem xn_10 (pc : Nat) : xm_ins 10 pc = xm_find xt_10 pc := rfl
theorem xi_10_0 : xm_ins 10 0 = some (.iload_n 0, 1, 0, 0, 0) := rfl
theorem xi_10_1 : xm_ins 10 1 = some (.ifCond .lt 5, 4, 6, 0, 0) := rfl
theorem xi_10_4 : xm_ins 10 4 = some (.iconst 0, 5, 0, 0, 0) := rfl
theorem xi_10_5 : xm_ins 10 5 = some (.ireturn, 6, 0, 0, 0) := rfl
theorem xi_10_6 : xm_ins 10 6 = some (.iload_n 0, 7, 0, 0, 0) := rfl
theorem xi_10_7 : xm_ins 10 7 = some (.ldc 88, 9, 0, 0, (-1000001)) := rfl
theorem xi_10_9 : xm_ins 10 9 = some (.if_icmp .ne 7, 12, 16, 0, 0) := rfl
theorem xi_10_12 : xm_ins 10 12 = some (.iconst 2, 13, 0, 0, 2) := rfl
theorem xi_10_13 : xm_ins 10 13 = some (.goto 4, 16, 17, 0, 0) := rfl
theorem xi_10_16 : xm_ins 10 16 = some (.iconst 3, 17, 0, 0, 3) := rfl
theorem xi_10_17 : xm_ins 10 17 = some (.ireturn, 18, 0, 0, 0) := rfl
theorem xn_11 (pc : Nat) : xm_ins 11 pc = xm_find xt_11 pc := rfl
theorem xi_11_0 : xm_ins 11 0 = some (.aload_n 0, 1, 0, 0, 0) := rfl
theorem xi_11_1 : xm_ins 11 1 = some (.invokespecial 3, 4, 1000, 0, 0) := rfl
theorem xi_11_4 : xm_ins 11 4 = some (.aload_n 0, 5, 0, 0, 0) := rfl
theorem xi_11_5 : xm_ins 11 5 = some (.bipush 8, 7, 0, 0, 8) := rfl
theorem xi_11_7 : xm_ins 11 7 = some (.newarray .int, 9, 0, 0, 0) := rfl
theorem xi_11_9 : xm_ins 11 9 = some (.putfield 9, 12, 1, 0, 1) := rfl
theorem xi_11_12 : xm_ins 11 12 = some (.aload_n 0, 13, 0, 0, 0) := rfl
theorem xi_11_13 : xm_ins 11 13 = some (.bipush 40, 15, 0, 0, 40) := rfl
theorem xi_11_15 : xm_ins 11 15 = some (.newarray .int, 17, 0, 0, 0) := rfl
theorem xi_11_17 : xm_ins 11 17 = some (.putfield 15, 20, 1, 1, 1) := rfl
theorem xi_11_20 : xm_ins 11 20 = some (.aload_n 0, 21, 0, 0, 0) := rfl
theorem xi_11_21 : xm_ins 11 21 = some (.bipush 30, 23, 0, 0, 30) := rfl
theorem xi_11_23 : xm_ins 11 23 = some (.newarray .int, 25, 0, 0, 0) := rfl
theorem xi_11_25 : xm_ins 11 25 = some (.putfield 18, 28, 1, 2, 1) := rfl
theorem xi_11_28 : xm_ins 11 28 = some (.aload_n 0, 29, 0, 0, 0) := rfl
theorem xi_11_29 : xm_ins 11 29 = some (.bipush 90, 31, 0, 0, 90) := rfl
theorem xi_11_31 : xm_ins 11 31 = some (.newarray .int, 33, 0, 0, 0) := rfl
theorem xi_11_33 : xm_ins 11 33 = some (.putfield 21, 36, 1, 3, 1) := rfl
theorem xi_11_36 : xm_ins 11 36 = some (.aload_n 0, 37, 0, 0, 0) := rfl
theorem xi_11_37 : xm_ins 11 37 = some (.bipush 30, 39, 0, 0, 30) := rfl
theorem xi_11_39 : xm_ins 11 39 = some (.newarray .int, 41, 0, 0, 0) := rfl
theorem xi_11_41 : xm_ins 11 41 = some (.putfield 24, 44, 1, 4, 1) := rfl
theorem xi_11_44 : xm_ins 11 44 = some (.aload_n 0, 45, 0, 0, 0) := rfl
theorem xi_11_45 : xm_ins 11 45 = some (.iconst 4, 46, 0, 0, 4) := rfl
theorem xi_11_46 : xm_ins 11 46 = some (.newarray .int, 48, 0, 0, 0) := rfl
theorem xi_11_48 : xm_ins 11 48 = some (.putfield 27, 51, 1, 5, 1) := rfl
theorem xi_11_51 : xm_ins 11 51 = some (.aload_n 0, 52, 0, 0, 0) := rfl
theorem xi_11_52 : xm_ins 11 52 = some (.iconst 0, 53, 0, 0, 0) := rfl
theorem xi_11_53 : xm_ins 11 53 = some (.putfield 30, 56, 1, 6, 0) := rfl
theorem xi_11_56 : xm_ins 11 56 = some (.aload_n 0, 57, 0, 0, 0) := rfl
theorem xi_11_57 : xm_ins 11 57 = some (.iconst 0, 58, 0, 0, 0) := rfl
theorem xi_11_58 : xm_ins 11 58 = some (.putfield 34, 61, 1, 7, 0) := rfl
theorem xi_11_61 : xm_ins 11 61 = some (.aload_n 0, 62, 0, 0, 0) := rfl
theorem xi_11_62 : xm_ins 11 62 = some (.iconst 0, 63, 0, 0, 0) := rfl
theorem xi_11_63 : xm_ins 11 63 = some (.putfield 37, 66, 1, 8, 0) := rfl
theorem xi_11_66 : xm_ins 11 66 = some (.aload_n 0, 67, 0, 0, 0) := rfl
theorem xi_11_67 : xm_ins 11 67 = some (.iconst 0, 68, 0, 0, 0) := rfl
theorem xi_11_68 : xm_ins 11 68 = some (.putfield 40, 71, 1, 9, 0) := rfl
theorem xi_11_71 : xm_ins 11 71 = some (.aload_n 0, 72, 0, 0, 0) := rfl
theorem xi_11_72 : xm_ins 11 72 = some (.iconst 0, 73, 0, 0, 0) := rfl
theorem xi_11_73 : xm_ins 11 73 = some (.putfield 43, 76, 1, 10, 0) := rfl
theorem xi_11_76 : xm_ins 11 76 = some (.aload_n 0, 77, 0, 0, 0) := rfl
theorem xi_11_77 : xm_ins 11 77 = some (.getfield 9, 80, 1, 0, 1) := rfl
theorem xi_11_80 : xm_ins 11 80 = some (.invokestatic 46, 83, 12, 1, 1) := rfl
theorem xi_11_83 : xm_ins 11 83 = some (.aload_n 0, 84, 0, 0, 0) := rfl
theorem xi_11_84 : xm_ins 11 84 = some (.getfield 15, 87, 1, 1, 1) := rfl
theorem xi_11_87 : xm_ins 11 87 = some (.invokestatic 46, 90, 12, 1, 1) := rfl
theorem xi_11_90 : xm_ins 11 90 = some (.aload_n 0, 91, 0, 0, 0) := rfl
theorem xi_11_91 : xm_ins 11 91 = some (.getfield 18, 94, 1, 2, 1) := rfl
theorem xi_11_94 : xm_ins 11 94 = some (.invokestatic 46, 97, 12, 1, 1) := rfl
theorem xi_11_97 : xm_ins 11 97 = some (.aload_n 0, 98, 0, 0, 0) := rfl
theorem xi_11_98 : xm_ins 11 98 = some (.getfield 21, 101, 1, 3, 1) := rfl
theorem xi_11_101 : xm_ins 11 101 = some (.invokestatic 46, 104, 12, 1, 1) := rfl
theorem xi_11_104 : xm_ins 11 104 = some (.aload_n 0, 105, 0, 0, 0) := rfl
theorem xi_11_105 : xm_ins 11 105 = some (.getfield 27, 108, 1, 5, 1) := rfl
theorem xi_11_108 : xm_ins 11 108 = some (.invokestatic 46, 111, 12, 1, 1) := rfl
theorem xi_11_111 : xm_ins 11 111 = some (.return_, 112, 0, 0, 0) := rfl
theorem xn_12 (pc : Nat) : xm_ins 12 pc = xm_find xt_12 pc := rfl
theorem xi_12_0 : xm_ins 12 0 = some (.iconst 0, 1, 0, 0, 0) := rfl
theorem xi_12_1 : xm_ins 12 1 = some (.istore_n 1, 2, 1, 0, 0) := rfl
theorem xi_12_2 : xm_ins 12 2 = some (.iload_n 1, 3, 1, 0, 0) := rfl
theorem xi_12_3 : xm_ins 12 3 = some (.aload_n 0, 4, 0, 0, 0) := rfl
theorem xi_12_4 : xm_ins 12 4 = some (.arraylength, 5, 0, 0, 0) := rfl
theorem xi_12_5 : xm_ins 12 5 = some (.if_icmp .ge 13, 8, 18, 0, 0) := rfl
theorem xi_12_8 : xm_ins 12 8 = some (.aload_n 0, 9, 0, 0, 0) := rfl
theorem xi_12_9 : xm_ins 12 9 = some (.iload_n 1, 10, 1, 0, 0) := rfl
theorem xi_12_10 : xm_ins 12 10 = some (.iconst (-1), 11, 0, 0, (-1)) := rfl
theorem xi_12_11 : xm_ins 12 11 = some (.iastore, 12, 0, 0, 0) := rfl
theorem xi_12_12 : xm_ins 12 12 = some (.iinc 1 1, 15, 1, 0, 1) := rfl
theorem xi_12_15 : xm_ins 12 15 = some (.goto (-13), 18, 2, 0, 0) := rfl
theorem xi_12_18 : xm_ins 12 18 = some (.return_, 19, 0, 0, 0) := rfl
theorem xn_13 (pc : Nat) : xm_ins 13 pc = xm_find xt_13 pc := rfl
theorem xi_13_0 : xm_ins 13 0 = some (.aload_n 1, 1, 1, 0, 0) := rfl
theorem xi_13_1 : xm_ins 13 1 = some (.getfield 9, 4, 1, 0, 1) := rfl
theorem xi_13_4 : xm_ins 13 4 = some (.iconst 0, 5, 0, 0, 0) := rfl
theorem xi_13_5 : xm_ins 13 5 = some (.aload_n 0, 6, 0, 0, 0) := rfl
theorem xi_13_6 : xm_ins 13 6 = some (.getfield 9, 9, 1, 0, 1) := rfl
theorem xi_13_9 : xm_ins 13 9 = some (.iconst 0, 10, 0, 0, 0) := rfl
theorem xi_13_10 : xm_ins 13 10 = some (.bipush 8, 12, 0, 0, 8) := rfl
theorem xi_13_12 : xm_ins 13 12 = some (.invokestatic 50, 15, 1001, 0, 0) := rfl
theorem xi_13_15 : xm_ins 13 15 = some (.aload_n 1, 16, 1, 0, 0) := rfl
theorem xi_13_16 : xm_ins 13 16 = some (.getfield 15, 19, 1, 1, 1) := rfl
theorem xi_13_19 : xm_ins 13 19 = some (.iconst 0, 20, 0, 0, 0) := rfl
theorem xi_13_20 : xm_ins 13 20 = some (.aload_n 0, 21, 0, 0, 0) := rfl
theorem xi_13_21 : xm_ins 13 21 = some (.getfield 15, 24, 1, 1, 1) := rfl
theorem xi_13_24 : xm_ins 13 24 = some (.iconst 0, 25, 0, 0, 0) := rfl
theorem xi_13_25 : xm_ins 13 25 = some (.bipush 40, 27, 0, 0, 40) := rfl
theorem xi_13_27 : xm_ins 13 27 = some (.invokestatic 50, 30, 1001, 0, 0) := rfl
theorem xi_13_30 : xm_ins 13 30 = some (.aload_n 1, 31, 1, 0, 0) := rfl
theorem xi_13_31 : xm_ins 13 31 = some (.getfield 18, 34, 1, 2, 1) := rfl
theorem xi_13_34 : xm_ins 13 34 = some (.iconst 0, 35, 0, 0, 0) := rfl
theorem xi_13_35 : xm_ins 13 35 = some (.aload_n 0, 36, 0, 0, 0) := rfl
theorem xi_13_36 : xm_ins 13 36 = some (.getfield 18, 39, 1, 2, 1) := rfl
theorem xi_13_39 : xm_ins 13 39 = some (.iconst 0, 40, 0, 0, 0) := rfl
theorem xi_13_40 : xm_ins 13 40 = some (.bipush 30, 42, 0, 0, 30) := rfl
theorem xi_13_42 : xm_ins 13 42 = some (.invokestatic 50, 45, 1001, 0, 0) := rfl
theorem xi_13_45 : xm_ins 13 45 = some (.aload_n 1, 46, 1, 0, 0) := rfl
theorem xi_13_46 : xm_ins 13 46 = some (.getfield 21, 49, 1, 3, 1) := rfl
theorem xi_13_49 : xm_ins 13 49 = some (.iconst 0, 50, 0, 0, 0) := rfl
theorem xi_13_50 : xm_ins 13 50 = some (.aload_n 0, 51, 0, 0, 0) := rfl
theorem xi_13_51 : xm_ins 13 51 = some (.getfield 21, 54, 1, 3, 1) := rfl
theorem xi_13_54 : xm_ins 13 54 = some (.iconst 0, 55, 0, 0, 0) := rfl
theorem xi_13_55 : xm_ins 13 55 = some (.bipush 90, 57, 0, 0, 90) := rfl
theorem xi_13_57 : xm_ins 13 57 = some (.invokestatic 50, 60, 1001, 0, 0) := rfl
theorem xi_13_60 : xm_ins 13 60 = some (.aload_n 1, 61, 1, 0, 0) := rfl
theorem xi_13_61 : xm_ins 13 61 = some (.getfield 24, 64, 1, 4, 1) := rfl
theorem xi_13_64 : xm_ins 13 64 = some (.iconst 0, 65, 0, 0, 0) := rfl
theorem xi_13_65 : xm_ins 13 65 = some (.aload_n 0, 66, 0, 0, 0) := rfl
theorem xi_13_66 : xm_ins 13 66 = some (.getfield 24, 69, 1, 4, 1) := rfl
theorem xi_13_69 : xm_ins 13 69 = some (.iconst 0, 70, 0, 0, 0) := rfl
theorem xi_13_70 : xm_ins 13 70 = some (.bipush 30, 72, 0, 0, 30) := rfl
theorem xi_13_72 : xm_ins 13 72 = some (.invokestatic 50, 75, 1001, 0, 0) := rfl
theorem xi_13_75 : xm_ins 13 75 = some (.aload_n 1, 76, 1, 0, 0) := rfl
theorem xi_13_76 : xm_ins 13 76 = some (.getfield 27, 79, 1, 5, 1) := rfl
theorem xi_13_79 : xm_ins 13 79 = some (.iconst 0, 80, 0, 0, 0) := rfl
theorem xi_13_80 : xm_ins 13 80 = some (.aload_n 0, 81, 0, 0, 0) := rfl
theorem xi_13_81 : xm_ins 13 81 = some (.getfield 27, 84, 1, 5, 1) := rfl
theorem xi_13_84 : xm_ins 13 84 = some (.iconst 0, 85, 0, 0, 0) := rfl
theorem xi_13_85 : xm_ins 13 85 = some (.iconst 4, 86, 0, 0, 4) := rfl
theorem xi_13_86 : xm_ins 13 86 = some (.invokestatic 50, 89, 1001, 0, 0) := rfl
theorem xi_13_89 : xm_ins 13 89 = some (.aload_n 0, 90, 0, 0, 0) := rfl
theorem xi_13_90 : xm_ins 13 90 = some (.aload_n 1, 91, 1, 0, 0) := rfl
theorem xi_13_91 : xm_ins 13 91 = some (.getfield 30, 94, 1, 6, 0) := rfl
theorem xi_13_94 : xm_ins 13 94 = some (.putfield 30, 97, 1, 6, 0) := rfl
theorem xi_13_97 : xm_ins 13 97 = some (.aload_n 0, 98, 0, 0, 0) := rfl
theorem xi_13_98 : xm_ins 13 98 = some (.aload_n 1, 99, 1, 0, 0) := rfl
theorem xi_13_99 : xm_ins 13 99 = some (.getfield 34, 102, 1, 7, 0) := rfl
theorem xi_13_102 : xm_ins 13 102 = some (.putfield 34, 105, 1, 7, 0) := rfl
theorem xi_13_105 : xm_ins 13 105 = some (.aload_n 0, 106, 0, 0, 0) := rfl
theorem xi_13_106 : xm_ins 13 106 = some (.aload_n 1, 107, 1, 0, 0) := rfl
theorem xi_13_107 : xm_ins 13 107 = some (.getfield 37, 110, 1, 8, 0) := rfl
theorem xi_13_110 : xm_ins 13 110 = some (.putfield 37, 113, 1, 8, 0) := rfl
theorem xi_13_113 : xm_ins 13 113 = some (.aload_n 0, 114, 0, 0, 0) := rfl
theorem xi_13_114 : xm_ins 13 114 = some (.aload_n 1, 115, 1, 0, 0) := rfl
theorem xi_13_115 : xm_ins 13 115 = some (.getfield 40, 118, 1, 9, 0) := rfl
theorem xi_13_118 : xm_ins 13 118 = some (.putfield 40, 121, 1, 9, 0) := rfl
theorem xi_13_121 : xm_ins 13 121 = some (.aload_n 0, 122, 0, 0, 0) := rfl
theorem xi_13_122 : xm_ins 13 122 = some (.aload_n 1, 123, 1, 0, 0) := rfl
theorem xi_13_123 : xm_ins 13 123 = some (.getfield 43, 126, 1, 10, 0) := rfl
theorem xi_13_126 : xm_ins 13 126 = some (.putfield 43, 129, 1, 10, 0) := rfl
theorem xi_13_129 : xm_ins 13 129 = some (.return_, 130, 0, 0, 0) := rfl
theorem xn_14 (pc : Nat) : xm_ins 14 pc = xm_find xt_14 pc := rfl
theorem xi_14_0 : xm_ins 14 0 = some (.aload_n 0, 1, 0, 0, 0) := rfl
theorem xi_14_1 : xm_ins 14 1 = some (.iconst 0, 2, 0, 0, 0) := rfl
theorem xi_14_2 : xm_ins 14 2 = some (.invokevirtual 56, 5, 29, 2, 1) := rfl
theorem xi_14_5 : xm_ins 14 5 = some (.istore_n 1, 6, 1, 0, 0) := rfl
theorem xi_14_6 : xm_ins 14 6 = some (.iload_n 1, 7, 1, 0, 0) := rfl
theorem xi_14_7 : xm_ins 14 7 = some (.iconst (-1), 8, 0, 0, (-1)) := rfl
theorem xi_14_8 : xm_ins 14 8 = some (.if_icmp .ne 6, 11, 14, 0, 0) := rfl
theorem xi_14_11 : xm_ins 14 11 = some (.ldc 60, 13, 0, 0, (-1000002)) := rfl
theorem xi_14_13 : xm_ins 14 13 = some (.ireturn, 14, 0, 0, 0) := rfl
theorem xi_14_14 : xm_ins 14 14 = some (.aload_n 0, 15, 0, 0, 0) := rfl
theorem xi_14_15 : xm_ins 14 15 = some (.getfield 34, 18, 1, 7, 0) := rfl
theorem xi_14_18 : xm_ins 14 18 = some (.bipush 30, 20, 0, 0, 30) := rfl
theorem xi_14_20 : xm_ins 14 20 = some (.if_icmp .lt 6, 23, 26, 0, 0) := rfl
theorem xi_14_23 : xm_ins 14 23 = some (.ldc 61, 25, 0, 0, (-1000003)) := rfl
theorem xi_14_25 : xm_ins 14 25 = some (.ireturn, 26, 0, 0, 0) := rfl
theorem xi_14_26 : xm_ins 14 26 = some (.aload_n 0, 27, 0, 0, 0) := rfl
theorem xi_14_27 : xm_ins 14 27 = some (.getfield 34, 30, 1, 7, 0) := rfl
theorem xi_14_30 : xm_ins 14 30 = some (.istore_n 2, 31, 2, 0, 0) := rfl
theorem xi_14_31 : xm_ins 14 31 = some (.aload_n 0, 32, 0, 0, 0) := rfl
theorem xi_14_32 : xm_ins 14 32 = some (.dup, 33, 0, 0, 0) := rfl
theorem xi_14_33 : xm_ins 14 33 = some (.getfield 34, 36, 1, 7, 0) := rfl
theorem xi_14_36 : xm_ins 14 36 = some (.iconst 1, 37, 0, 0, 1) := rfl
theorem xi_14_37 : xm_ins 14 37 = some (.iadd, 38, 0, 0, 0) := rfl
theorem xi_14_38 : xm_ins 14 38 = some (.putfield 34, 41, 1, 7, 0) := rfl
theorem xi_14_41 : xm_ins 14 41 = some (.aload_n 0, 42, 0, 0, 0) := rfl
theorem xi_14_42 : xm_ins 14 42 = some (.iload_n 2, 43, 2, 0, 0) := rfl
theorem xi_14_43 : xm_ins 14 43 = some (.iload_n 1, 44, 1, 0, 0) := rfl
theorem xi_14_44 : xm_ins 14 44 = some (.iconst 0, 45, 0, 0, 0) := rfl
theorem xi_14_45 : xm_ins 14 45 = some (.invokevirtual 62, 48, 25, 4, 1) := rfl
theorem xi_14_48 : xm_ins 14 48 = some (.iload_n 2, 49, 2, 0, 0) := rfl
theorem xi_14_49 : xm_ins 14 49 = some (.ireturn, 50, 0, 0, 0) := rfl
theorem xn_15 (pc : Nat) : xm_ins 15 pc = xm_find xt_15 pc := rfl
theorem xi_15_0 : xm_ins 15 0 = some (.iload_n 1, 1, 1, 0, 0) := rfl
theorem xi_15_1 : xm_ins 15 1 = some (.invokestatic 66, 4, 31, 1, 1) := rfl
theorem xi_15_4 : xm_ins 15 4 = some (.ifCond .eq 11, 7, 15, 0, 0) := rfl
theorem xi_15_7 : xm_ins 15 7 = some (.aload_n 0, 8, 0, 0, 0) := rfl
theorem xi_15_8 : xm_ins 15 8 = some (.iload_n 2, 9, 2, 0, 0) := rfl
theorem xi_15_9 : xm_ins 15 9 = some (.invokevirtual 70, 12, 34, 2, 1) := rfl
theorem xi_15_12 : xm_ins 15 12 = some (.ifCond .ne 6, 15, 18, 0, 0) := rfl
theorem xi_15_15 : xm_ins 15 15 = some (.ldc 73, 17, 0, 0, (-1000001)) := rfl
theorem xi_15_17 : xm_ins 15 17 = some (.ireturn, 18, 0, 0, 0) := rfl
theorem xi_15_18 : xm_ins 15 18 = some (.aload_n 0, 19, 0, 0, 0) := rfl
theorem xi_15_19 : xm_ins 15 19 = some (.getfield 27, 22, 1, 5, 1) := rfl
theorem xi_15_22 : xm_ins 15 22 = some (.iload_n 1, 23, 1, 0, 0) := rfl
theorem xi_15_23 : xm_ins 15 23 = some (.iload_n 2, 24, 2, 0, 0) := rfl
theorem xi_15_24 : xm_ins 15 24 = some (.iastore, 25, 0, 0, 0) := rfl
theorem xi_15_25 : xm_ins 15 25 = some (.aload_n 0, 26, 0, 0, 0) := rfl
theorem xi_15_26 : xm_ins 15 26 = some (.invokevirtual 74, 29, 43, 1, 1) := rfl
theorem xi_15_29 : xm_ins 15 29 = some (.ireturn, 30, 0, 0, 0) := rfl
theorem xn_16 (pc : Nat) : xm_ins 16 pc = xm_find xt_16 pc := rfl
theorem xi_16_0 : xm_ins 16 0 = some (.iload_n 1, 1, 1, 0, 0) := rfl
theorem xi_16_1 : xm_ins 16 1 = some (.invokestatic 66, 4, 31, 1, 1) := rfl
theorem xi_16_4 : xm_ins 16 4 = some (.ifCond .ne 6, 7, 10, 0, 0) := rfl
theorem xi_16_7 : xm_ins 16 7 = some (.ldc 73, 9, 0, 0, (-1000001)) := rfl
theorem xi_16_9 : xm_ins 16 9 = some (.ireturn, 10, 0, 0, 0) := rfl
theorem xi_16_10 : xm_ins 16 10 = some (.aload_n 0, 11, 0, 0, 0) := rfl
theorem xi_16_11 : xm_ins 16 11 = some (.getfield 27, 14, 1, 5, 1) := rfl
theorem xi_16_14 : xm_ins 16 14 = some (.iload_n 1, 15, 1, 0, 0) := rfl
theorem xi_16_15 : xm_ins 16 15 = some (.iaload, 16, 0, 0, 0) := rfl
theorem xi_16_16 : xm_ins 16 16 = some (.istore_n 2, 17, 2, 0, 0) := rfl
theorem xi_16_17 : xm_ins 16 17 = some (.iload_n 2, 18, 2, 0, 0) := rfl
theorem xi_16_18 : xm_ins 16 18 = some (.iconst (-1), 19, 0, 0, (-1)) := rfl
theorem xi_16_19 : xm_ins 16 19 = some (.if_icmp .ne 6, 22, 25, 0, 0) := rfl
theorem xi_16_22 : xm_ins 16 22 = some (.ldc 60, 24, 0, 0, (-1000002)) := rfl
theorem xi_16_24 : xm_ins 16 24 = some (.ireturn, 25, 0, 0, 0) := rfl
theorem xi_16_25 : xm_ins 16 25 = some (.aload_n 0, 26, 0, 0, 0) := rfl
theorem xi_16_26 : xm_ins 16 26 = some (.getfield 27, 29, 1, 5, 1) := rfl
theorem xi_16_29 : xm_ins 16 29 = some (.iload_n 1, 30, 1, 0, 0) := rfl
theorem xi_16_30 : xm_ins 16 30 = some (.iconst (-1), 31, 0, 0, (-1)) := rfl
theorem xi_16_31 : xm_ins 16 31 = some (.iastore, 32, 0, 0, 0) := rfl
theorem xi_16_32 : xm_ins 16 32 = some (.iload_n 2, 33, 2, 0, 0) := rfl
theorem xi_16_33 : xm_ins 16 33 = some (.ireturn, 34, 0, 0, 0) := rfl
theorem xn_17 (pc : Nat) : xm_ins 17 pc = xm_find xt_17 pc := rfl
theorem xi_17_0 : xm_ins 17 0 = some (.aload_n 0, 1, 0, 0, 0) := rfl
theorem xi_17_1 : xm_ins 17 1 = some (.iload_n 1, 2, 1, 0, 0) := rfl
theorem xi_17_2 : xm_ins 17 2 = some (.invokevirtual 70, 5, 34, 2, 1) := rfl
theorem xi_17_5 : xm_ins 17 5 = some (.ifCond .eq 18, 8, 23, 0, 0) := rfl
theorem xi_17_8 : xm_ins 17 8 = some (.iload_n 2, 9, 2, 0, 0) := rfl
theorem xi_17_9 : xm_ins 17 9 = some (.invokestatic 78, 12, 32, 1, 1) := rfl
theorem xi_17_12 : xm_ins 17 12 = some (.ifCond .eq 11, 15, 23, 0, 0) := rfl
theorem xi_17_15 : xm_ins 17 15 = some (.aload_n 0, 16, 0, 0, 0) := rfl
theorem xi_17_16 : xm_ins 17 16 = some (.iload_n 3, 17, 3, 0, 0) := rfl
theorem xi_17_17 : xm_ins 17 17 = some (.invokevirtual 70, 20, 34, 2, 1) := rfl
theorem xi_17_20 : xm_ins 17 20 = some (.ifCond .ne 6, 23, 26, 0, 0) := rfl
theorem xi_17_23 : xm_ins 17 23 = some (.ldc 73, 25, 0, 0, (-1000001)) := rfl
theorem xi_17_25 : xm_ins 17 25 = some (.ireturn, 26, 0, 0, 0) := rfl
theorem xi_17_26 : xm_ins 17 26 = some (.aload_n 0, 27, 0, 0, 0) := rfl
theorem xi_17_27 : xm_ins 17 27 = some (.getfield 21, 30, 1, 3, 1) := rfl
theorem xi_17_30 : xm_ins 17 30 = some (.iload_n 1, 31, 1, 0, 0) := rfl
theorem xi_17_31 : xm_ins 17 31 = some (.iconst 3, 32, 0, 0, 3) := rfl
theorem xi_17_32 : xm_ins 17 32 = some (.imul, 33, 0, 0, 0) := rfl
theorem xi_17_33 : xm_ins 17 33 = some (.iload_n 2, 34, 2, 0, 0) := rfl
theorem xi_17_34 : xm_ins 17 34 = some (.iadd, 35, 0, 0, 0) := rfl
theorem xi_17_35 : xm_ins 17 35 = some (.iload_n 3, 36, 3, 0, 0) := rfl
theorem xi_17_36 : xm_ins 17 36 = some (.iastore, 37, 0, 0, 0) := rfl
theorem xi_17_37 : xm_ins 17 37 = some (.aload_n 0, 38, 0, 0, 0) := rfl
theorem xi_17_38 : xm_ins 17 38 = some (.iload_n 1, 39, 1, 0, 0) := rfl
theorem xi_17_39 : xm_ins 17 39 = some (.iload_n 2, 40, 2, 0, 0) := rfl
theorem xi_17_40 : xm_ins 17 40 = some (.invokevirtual 81, 43, 39, 3, 1) := rfl
theorem xi_17_43 : xm_ins 17 43 = some (.ifCond .eq 7, 46, 50, 0, 0) := rfl
theorem xi_17_46 : xm_ins 17 46 = some (.iconst 1, 47, 0, 0, 1) := rfl
theorem xi_17_47 : xm_ins 17 47 = some (.goto 4, 50, 51, 0, 0) := rfl
theorem xi_17_50 : xm_ins 17 50 = some (.iconst 0, 51, 0, 0, 0) := rfl
theorem xi_17_51 : xm_ins 17 51 = some (.ireturn, 52, 0, 0, 0) := rfl
theorem xn_18 (pc : Nat) : xm_ins 18 pc = xm_find xt_18 pc := rfl
theorem xi_18_0 : xm_ins 18 0 = some (.aload_n 0, 1, 0, 0, 0) := rfl
theorem xi_18_1 : xm_ins 18 1 = some (.iload_n 1, 2, 1, 0, 0) := rfl
theorem xi_18_2 : xm_ins 18 2 = some (.invokevirtual 70, 5, 34, 2, 1) := rfl
theorem xi_18_5 : xm_ins 18 5 = some (.ifCond .eq 10, 8, 15, 0, 0) := rfl
theorem xi_18_8 : xm_ins 18 8 = some (.iload_n 2, 9, 2, 0, 0) := rfl
theorem xi_18_9 : xm_ins 18 9 = some (.invokestatic 78, 12, 32, 1, 1) := rfl
theorem xi_18_12 : xm_ins 18 12 = some (.ifCond .ne 6, 15, 18, 0, 0) := rfl
theorem xi_18_15 : xm_ins 18 15 = some (.ldc 73, 17, 0, 0, (-1000001)) := rfl
theorem xi_18_17 : xm_ins 18 17 = some (.ireturn, 18, 0, 0, 0) := rfl
theorem xi_18_18 : xm_ins 18 18 = some (.aload_n 0, 19, 0, 0, 0) := rfl
theorem xi_18_19 : xm_ins 18 19 = some (.iload_n 1, 20, 1, 0, 0) := rfl
theorem xi_18_20 : xm_ins 18 20 = some (.iload_n 2, 21, 2, 0, 0) := rfl
theorem xi_18_21 : xm_ins 18 21 = some (.invokevirtual 85, 24, 38, 3, 1) := rfl
theorem xi_18_24 : xm_ins 18 24 = some (.istore_n 3, 25, 3, 0, 0) := rfl
theorem xi_18_25 : xm_ins 18 25 = some (.iload_n 3, 26, 3, 0, 0) := rfl
theorem xi_18_26 : xm_ins 18 26 = some (.iconst (-1), 27, 0, 0, (-1)) := rfl
theorem xi_18_27 : xm_ins 18 27 = some (.if_icmp .ne 6, 30, 33, 0, 0) := rfl
theorem xi_18_30 : xm_ins 18 30 = some (.ldc 60, 32, 0, 0, (-1000002)) := rfl
theorem xi_18_32 : xm_ins 18 32 = some (.ireturn, 33, 0, 0, 0) := rfl
theorem xi_18_33 : xm_ins 18 33 = some (.aload_n 0, 34, 0, 0, 0) := rfl
theorem xi_18_34 : xm_ins 18 34 = some (.getfield 21, 37, 1, 3, 1) := rfl
theorem xi_18_37 : xm_ins 18 37 = some (.iload_n 1, 38, 1, 0, 0) := rfl
theorem xi_18_38 : xm_ins 18 38 = some (.iconst 3, 39, 0, 0, 3) := rfl
theorem xi_18_39 : xm_ins 18 39 = some (.imul, 40, 0, 0, 0) := rfl
theorem xi_18_40 : xm_ins 18 40 = some (.iload_n 2, 41, 2, 0, 0) := rfl
theorem xi_18_41 : xm_ins 18 41 = some (.iadd, 42, 0, 0, 0) := rfl
theorem xi_18_42 : xm_ins 18 42 = some (.iconst (-1), 43, 0, 0, (-1)) := rfl
theorem xi_18_43 : xm_ins 18 43 = some (.iastore, 44, 0, 0, 0) := rfl
theorem xi_18_44 : xm_ins 18 44 = some (.iload_n 3, 45, 3, 0, 0) := rfl
theorem xi_18_45 : xm_ins 18 45 = some (.ireturn, 46, 0, 0, 0) := rfl
theorem xn_19 (pc : Nat) : xm_ins 19 pc = xm_find xt_19 pc := rfl
theorem xi_19_0 : xm_ins 19 0 = some (.aload_n 0, 1, 0, 0, 0) := rfl
theorem xi_19_1 : xm_ins 19 1 = some (.iload_n 1, 2, 1, 0, 0) := rfl
theorem xi_19_2 : xm_ins 19 2 = some (.invokevirtual 70, 5, 34, 2, 1) := rfl
theorem xi_19_5 : xm_ins 19 5 = some (.ifCond .ne 6, 8, 11, 0, 0) := rfl
theorem xi_19_8 : xm_ins 19 8 = some (.ldc 73, 10, 0, 0, (-1000001)) := rfl
theorem xi_19_10 : xm_ins 19 10 = some (.ireturn, 11, 0, 0, 0) := rfl
theorem xi_19_11 : xm_ins 19 11 = some (.aload_n 0, 12, 0, 0, 0) := rfl
theorem xi_19_12 : xm_ins 19 12 = some (.getfield 30, 15, 1, 6, 0) := rfl
theorem xi_19_15 : xm_ins 19 15 = some (.iload_n 1, 16, 1, 0, 0) := rfl
theorem xi_19_16 : xm_ins 19 16 = some (.invokestatic 89, 19, 83, 2, 2) := rfl
theorem xi_19_19 : xm_ins 19 19 = some (.ifCond .eq 6, 22, 25, 0, 0) := rfl
theorem xi_19_22 : xm_ins 19 22 = some (.ldc 60, 24, 0, 0, (-1000002)) := rfl
theorem xi_19_24 : xm_ins 19 24 = some (.ireturn, 25, 0, 0, 0) := rfl
theorem xi_19_25 : xm_ins 19 25 = some (.aload_n 0, 26, 0, 0, 0) := rfl
theorem xi_19_26 : xm_ins 19 26 = some (.dup, 27, 0, 0, 0) := rfl
theorem xi_19_27 : xm_ins 19 27 = some (.getfield 30, 30, 1, 6, 0) := rfl
theorem xi_19_30 : xm_ins 19 30 = some (.iconst 1, 31, 0, 0, 1) := rfl
theorem xi_19_31 : xm_ins 19 31 = some (.iload_n 1, 32, 1, 0, 0) := rfl
theorem xi_19_32 : xm_ins 19 32 = some (.ishl, 33, 0, 0, 0) := rfl
theorem xi_19_33 : xm_ins 19 33 = some (.ior, 34, 0, 0, 0) := rfl
theorem xi_19_34 : xm_ins 19 34 = some (.putfield 30, 37, 1, 6, 0) := rfl
theorem xi_19_37 : xm_ins 19 37 = some (.aload_n 0, 38, 0, 0, 0) := rfl
theorem xi_19_38 : xm_ins 19 38 = some (.getfield 30, 41, 1, 6, 0) := rfl
theorem xi_19_41 : xm_ins 19 41 = some (.invokestatic 92, 44, 166, 1, 0) := rfl
theorem xi_19_44 : xm_ins 19 44 = some (.ireturn, 45, 0, 0, 0) := rfl
theorem xn_20 (pc : Nat) : xm_ins 20 pc = xm_find xt_20 pc := rfl
theorem xi_20_0 : xm_ins 20 0 = some (.aload_n 0, 1, 0, 0, 0) := rfl
theorem xi_20_1 : xm_ins 20 1 = some (.iload_n 1, 2, 1, 0, 0) := rfl
theorem xi_20_2 : xm_ins 20 2 = some (.invokevirtual 70, 5, 34, 2, 1) := rfl
theorem xi_20_5 : xm_ins 20 5 = some (.ifCond .ne 6, 8, 11, 0, 0) := rfl
theorem xi_20_8 : xm_ins 20 8 = some (.ldc 73, 10, 0, 0, (-1000001)) := rfl
theorem xi_20_10 : xm_ins 20 10 = some (.ireturn, 11, 0, 0, 0) := rfl
theorem xi_20_11 : xm_ins 20 11 = some (.aload_n 0, 12, 0, 0, 0) := rfl
theorem xi_20_12 : xm_ins 20 12 = some (.getfield 30, 15, 1, 6, 0) := rfl
theorem xi_20_15 : xm_ins 20 15 = some (.iload_n 1, 16, 1, 0, 0) := rfl
theorem xi_20_16 : xm_ins 20 16 = some (.invokestatic 89, 19, 83, 2, 2) := rfl
theorem xi_20_19 : xm_ins 20 19 = some (.ifCond .ne 6, 22, 25, 0, 0) := rfl
theorem xi_20_22 : xm_ins 20 22 = some (.ldc 60, 24, 0, 0, (-1000002)) := rfl
theorem xi_20_24 : xm_ins 20 24 = some (.ireturn, 25, 0, 0, 0) := rfl
theorem xi_20_25 : xm_ins 20 25 = some (.aload_n 0, 26, 0, 0, 0) := rfl
theorem xi_20_26 : xm_ins 20 26 = some (.dup, 27, 0, 0, 0) := rfl
theorem xi_20_27 : xm_ins 20 27 = some (.getfield 30, 30, 1, 6, 0) := rfl
theorem xi_20_30 : xm_ins 20 30 = some (.iconst 1, 31, 0, 0, 1) := rfl
theorem xi_20_31 : xm_ins 20 31 = some (.iload_n 1, 32, 1, 0, 0) := rfl
theorem xi_20_32 : xm_ins 20 32 = some (.ishl, 33, 0, 0, 0) := rfl
theorem xi_20_33 : xm_ins 20 33 = some (.iconst (-1), 34, 0, 0, (-1)) := rfl
theorem xi_20_34 : xm_ins 20 34 = some (.ixor, 35, 0, 0, 0) := rfl
theorem xi_20_35 : xm_ins 20 35 = some (.iand, 36, 0, 0, 0) := rfl
theorem xi_20_36 : xm_ins 20 36 = some (.putfield 30, 39, 1, 6, 0) := rfl
theorem xi_20_39 : xm_ins 20 39 = some (.aload_n 0, 40, 0, 0, 0) := rfl
theorem xi_20_40 : xm_ins 20 40 = some (.getfield 30, 43, 1, 6, 0) := rfl
theorem xi_20_43 : xm_ins 20 43 = some (.invokestatic 92, 46, 166, 1, 0) := rfl
theorem xi_20_46 : xm_ins 20 46 = some (.ireturn, 47, 0, 0, 0) := rfl
theorem xn_21 (pc : Nat) : xm_ins 21 pc = xm_find xt_21 pc := rfl
theorem xi_21_0 : xm_ins 21 0 = some (.iload_n 1, 1, 1, 0, 0) := rfl
theorem xi_21_1 : xm_ins 21 1 = some (.ifCond .lt 8, 4, 9, 0, 0) := rfl
theorem xi_21_4 : xm_ins 21 4 = some (.iload_n 1, 5, 1, 0, 0) := rfl
theorem xi_21_5 : xm_ins 21 5 = some (.iconst 2, 6, 0, 0, 2) := rfl
theorem xi_21_6 : xm_ins 21 6 = some (.if_icmp .lt 6, 9, 12, 0, 0) := rfl
theorem xi_21_9 : xm_ins 21 9 = some (.ldc 73, 11, 0, 0, (-1000001)) := rfl
theorem xi_21_11 : xm_ins 21 11 = some (.ireturn, 12, 0, 0, 0) := rfl
theorem xi_21_12 : xm_ins 21 12 = some (.aload_n 0, 13, 0, 0, 0) := rfl
theorem xi_21_13 : xm_ins 21 13 = some (.iload_n 1, 14, 1, 0, 0) := rfl
theorem xi_21_14 : xm_ins 21 14 = some (.invokevirtual 97, 17, 52, 2, 1) := rfl
theorem xi_21_17 : xm_ins 21 17 = some (.istore_n 2, 18, 2, 0, 0) := rfl
theorem xi_21_18 : xm_ins 21 18 = some (.aload_n 0, 19, 0, 0, 0) := rfl
theorem xi_21_19 : xm_ins 21 19 = some (.iload_n 1, 20, 1, 0, 0) := rfl
theorem xi_21_20 : xm_ins 21 20 = some (.invokevirtual 100, 23, 48, 2, 1) := rfl
theorem xi_21_23 : xm_ins 21 23 = some (.iload_n 2, 24, 2, 0, 0) := rfl
theorem xi_21_24 : xm_ins 21 24 = some (.iconst (-1), 25, 0, 0, (-1)) := rfl
theorem xi_21_25 : xm_ins 21 25 = some (.ixor, 26, 0, 0, 0) := rfl
theorem xi_21_26 : xm_ins 21 26 = some (.iand, 27, 0, 0, 0) := rfl
theorem xi_21_27 : xm_ins 21 27 = some (.istore_n 3, 28, 3, 0, 0) := rfl
theorem xi_21_28 : xm_ins 21 28 = some (.aload_n 0, 29, 0, 0, 0) := rfl
theorem xi_21_29 : xm_ins 21 29 = some (.iconst 0, 30, 0, 0, 0) := rfl
theorem xi_21_30 : xm_ins 21 30 = some (.invokevirtual 103, 33, 46, 2, 1) := rfl
theorem xi_21_33 : xm_ins 21 33 = some (.istore 4, 35, 4, 0, 0) := rfl
theorem xi_21_35 : xm_ins 21 35 = some (.aload_n 0, 36, 0, 0, 0) := rfl
theorem xi_21_36 : xm_ins 21 36 = some (.iload_n 2, 37, 2, 0, 0) := rfl
theorem xi_21_37 : xm_ins 21 37 = some (.aload_n 0, 38, 0, 0, 0) := rfl
theorem xi_21_38 : xm_ins 21 38 = some (.getfield 30, 41, 1, 6, 0) := rfl
theorem xi_21_41 : xm_ins 21 41 = some (.iand, 42, 0, 0, 0) := rfl
theorem xi_21_42 : xm_ins 21 42 = some (.invokevirtual 106, 45, 23, 2, 1) := rfl
theorem xi_21_45 : xm_ins 21 45 = some (.iconst 0, 46, 0, 0, 0) := rfl
theorem xi_21_46 : xm_ins 21 46 = some (.istore 5, 48, 5, 0, 0) := rfl
theorem xi_21_48 : xm_ins 21 48 = some (.iload 5, 50, 5, 0, 0) := rfl
theorem xi_21_50 : xm_ins 21 50 = some (.bipush 30, 52, 0, 0, 30) := rfl
theorem xi_21_52 : xm_ins 21 52 = some (.if_icmp .ge 52, 55, 104, 0, 0) := rfl
theorem xi_21_55 : xm_ins 21 55 = some (.iload_n 2, 56, 2, 0, 0) := rfl
theorem xi_21_56 : xm_ins 21 56 = some (.aload_n 0, 57, 0, 0, 0) := rfl
theorem xi_21_57 : xm_ins 21 57 = some (.getfield 30, 60, 1, 6, 0) := rfl
theorem xi_21_60 : xm_ins 21 60 = some (.iconst (-1), 61, 0, 0, (-1)) := rfl
theorem xi_21_61 : xm_ins 21 61 = some (.ixor, 62, 0, 0, 0) := rfl
theorem xi_21_62 : xm_ins 21 62 = some (.iand, 63, 0, 0, 0) := rfl
theorem xi_21_63 : xm_ins 21 63 = some (.iload 5, 65, 5, 0, 0) := rfl
theorem xi_21_65 : xm_ins 21 65 = some (.invokestatic 89, 68, 83, 2, 2) := rfl
theorem xi_21_68 : xm_ins 21 68 = some (.ifCond .eq 30, 71, 98, 0, 0) := rfl
theorem xi_21_71 : xm_ins 21 71 = some (.aload_n 0, 72, 0, 0, 0) := rfl
theorem xi_21_72 : xm_ins 21 72 = some (.iload 5, 74, 5, 0, 0) := rfl
theorem xi_21_74 : xm_ins 21 74 = some (.iload 4, 76, 4, 0, 0) := rfl
theorem xi_21_76 : xm_ins 21 76 = some (.iload 5, 78, 5, 0, 0) := rfl
theorem xi_21_78 : xm_ins 21 78 = some (.invokestatic 89, 81, 83, 2, 2) := rfl
theorem xi_21_81 : xm_ins 21 81 = some (.ifCond .eq 7, 84, 88, 0, 0) := rfl
theorem xi_21_84 : xm_ins 21 84 = some (.iconst 1, 85, 0, 0, 1) := rfl
theorem xi_21_85 : xm_ins 21 85 = some (.goto 4, 88, 89, 0, 0) := rfl
theorem xi_21_88 : xm_ins 21 88 = some (.iconst 2, 89, 0, 0, 2) := rfl
theorem xi_21_89 : xm_ins 21 89 = some (.invokevirtual 110, 92, 24, 3, 1) := rfl
theorem xi_21_92 : xm_ins 21 92 = some (.ifCond .ne 6, 95, 98, 0, 0) := rfl
theorem xi_21_95 : xm_ins 21 95 = some (.ldc 60, 97, 0, 0, (-1000002)) := rfl
theorem xi_21_97 : xm_ins 21 97 = some (.ireturn, 98, 0, 0, 0) := rfl
theorem xi_21_98 : xm_ins 21 98 = some (.iinc 5 1, 101, 5, 0, 1) := rfl
theorem xi_21_101 : xm_ins 21 101 = some (.goto (-53), 104, 48, 0, 0) := rfl
theorem xi_21_104 : xm_ins 21 104 = some (.aload_n 0, 105, 0, 0, 0) := rfl
theorem xi_21_105 : xm_ins 21 105 = some (.iload_n 3, 106, 3, 0, 0) := rfl
theorem xi_21_106 : xm_ins 21 106 = some (.invokevirtual 113, 109, 27, 2, 1) := rfl
theorem xi_21_109 : xm_ins 21 109 = some (.aload_n 0, 110, 0, 0, 0) := rfl
theorem xi_21_110 : xm_ins 21 110 = some (.dup, 111, 0, 0, 0) := rfl
theorem xi_21_111 : xm_ins 21 111 = some (.getfield 37, 114, 1, 8, 0) := rfl
theorem xi_21_114 : xm_ins 21 114 = some (.iconst 1, 115, 0, 0, 1) := rfl
theorem xi_21_115 : xm_ins 21 115 = some (.iadd, 116, 0, 0, 0) := rfl
theorem xi_21_116 : xm_ins 21 116 = some (.putfield 37, 119, 1, 8, 0) := rfl
theorem xi_21_119 : xm_ins 21 119 = some (.iload_n 3, 120, 3, 0, 0) := rfl
theorem xi_21_120 : xm_ins 21 120 = some (.invokestatic 92, 123, 166, 1, 0) := rfl
theorem xi_21_123 : xm_ins 21 123 = some (.ireturn, 124, 0, 0, 0) := rfl
theorem xn_22 (pc : Nat) : xm_ins 22 pc = xm_find xt_22 pc := rfl
theorem xi_22_0 : xm_ins 22 0 = some (.aload_n 0, 1, 0, 0, 0) := rfl
theorem xi_22_1 : xm_ins 22 1 = some (.invokevirtual 116, 4, 47, 1, 1) := rfl
theorem xi_22_4 : xm_ins 22 4 = some (.aload_n 0, 5, 0, 0, 0) := rfl
theorem xi_22_5 : xm_ins 22 5 = some (.invokevirtual 119, 8, 51, 1, 1) := rfl
theorem xi_22_8 : xm_ins 22 8 = some (.iconst (-1), 9, 0, 0, (-1)) := rfl
theorem xi_22_9 : xm_ins 22 9 = some (.ixor, 10, 0, 0, 0) := rfl
theorem xi_22_10 : xm_ins 22 10 = some (.iand, 11, 0, 0, 0) := rfl
theorem xi_22_11 : xm_ins 22 11 = some (.istore_n 1, 12, 1, 0, 0) := rfl
theorem xi_22_12 : xm_ins 22 12 = some (.aload_n 0, 13, 0, 0, 0) := rfl
theorem xi_22_13 : xm_ins 22 13 = some (.iload_n 1, 14, 1, 0, 0) := rfl
theorem xi_22_14 : xm_ins 22 14 = some (.invokevirtual 113, 17, 27, 2, 1) := rfl
theorem xi_22_17 : xm_ins 22 17 = some (.aload_n 0, 18, 0, 0, 0) := rfl
theorem xi_22_18 : xm_ins 22 18 = some (.dup, 19, 0, 0, 0) := rfl
theorem xi_22_19 : xm_ins 22 19 = some (.getfield 40, 22, 1, 9, 0) := rfl
theorem xi_22_22 : xm_ins 22 22 = some (.iconst 1, 23, 0, 0, 1) := rfl
theorem xi_22_23 : xm_ins 22 23 = some (.iadd, 24, 0, 0, 0) := rfl
theorem xi_22_24 : xm_ins 22 24 = some (.putfield 40, 27, 1, 9, 0) := rfl
theorem xi_22_27 : xm_ins 22 27 = some (.iload_n 1, 28, 1, 0, 0) := rfl
theorem xi_22_28 : xm_ins 22 28 = some (.invokestatic 92, 31, 166, 1, 0) := rfl
theorem xi_22_31 : xm_ins 22 31 = some (.ireturn, 32, 0, 0, 0) := rfl
theorem xn_23 (pc : Nat) : xm_ins 23 pc = xm_find xt_23 pc := rfl
theorem xi_23_0 : xm_ins 23 0 = some (.iconst 0, 1, 0, 0, 0) := rfl
theorem xi_23_1 : xm_ins 23 1 = some (.istore_n 2, 2, 2, 0, 0) := rfl
theorem xi_23_2 : xm_ins 23 2 = some (.iload_n 2, 3, 2, 0, 0) := rfl
theorem xi_23_3 : xm_ins 23 3 = some (.bipush 8, 5, 0, 0, 8) := rfl
theorem xi_23_5 : xm_ins 23 5 = some (.if_icmp .ge 29, 8, 34, 0, 0) := rfl
theorem xi_23_8 : xm_ins 23 8 = some (.aload_n 0, 9, 0, 0, 0) := rfl
theorem xi_23_9 : xm_ins 23 9 = some (.iload_n 2, 10, 2, 0, 0) := rfl
theorem xi_23_10 : xm_ins 23 10 = some (.invokevirtual 122, 13, 42, 2, 1) := rfl
theorem xi_23_13 : xm_ins 23 13 = some (.iload_n 1, 14, 1, 0, 0) := rfl
theorem xi_23_14 : xm_ins 23 14 = some (.iand, 15, 0, 0, 0) := rfl
theorem xi_23_15 : xm_ins 23 15 = some (.ifCond .eq 13, 18, 28, 0, 0) := rfl
theorem xi_23_18 : xm_ins 23 18 = some (.aload_n 0, 19, 0, 0, 0) := rfl
theorem xi_23_19 : xm_ins 23 19 = some (.getfield 9, 22, 1, 0, 1) := rfl
theorem xi_23_22 : xm_ins 23 22 = some (.iload_n 2, 23, 2, 0, 0) := rfl
theorem xi_23_23 : xm_ins 23 23 = some (.dup2, 24, 0, 0, 0) := rfl
theorem xi_23_24 : xm_ins 23 24 = some (.iaload, 25, 0, 0, 0) := rfl
theorem xi_23_25 : xm_ins 23 25 = some (.iconst 1, 26, 0, 0, 1) := rfl
theorem xi_23_26 : xm_ins 23 26 = some (.iadd, 27, 0, 0, 0) := rfl
theorem xi_23_27 : xm_ins 23 27 = some (.iastore, 28, 0, 0, 0) := rfl
theorem xi_23_28 : xm_ins 23 28 = some (.iinc 2 1, 31, 2, 0, 1) := rfl
theorem xi_23_31 : xm_ins 23 31 = some (.goto (-29), 34, 2, 0, 0) := rfl
theorem xi_23_34 : xm_ins 23 34 = some (.return_, 35, 0, 0, 0) := rfl
theorem xn_24 (pc : Nat) : xm_ins 24 pc = xm_find xt_24 pc := rfl
theorem xi_24_0 : xm_ins 24 0 = some (.aload_n 0, 1, 0, 0, 0) := rfl
theorem xi_24_1 : xm_ins 24 1 = some (.iload_n 2, 2, 2, 0, 0) := rfl
theorem xi_24_2 : xm_ins 24 2 = some (.invokevirtual 56, 5, 29, 2, 1) := rfl
theorem xi_24_5 : xm_ins 24 5 = some (.istore_n 3, 6, 3, 0, 0) := rfl
theorem xi_24_6 : xm_ins 24 6 = some (.iload_n 3, 7, 3, 0, 0) := rfl
theorem xi_24_7 : xm_ins 24 7 = some (.iconst (-1), 8, 0, 0, (-1)) := rfl
theorem xi_24_8 : xm_ins 24 8 = some (.if_icmp .ne 5, 11, 13, 0, 0) := rfl
theorem xi_24_11 : xm_ins 24 11 = some (.iconst 0, 12, 0, 0, 0) := rfl
theorem xi_24_12 : xm_ins 24 12 = some (.ireturn, 13, 0, 0, 0) := rfl
theorem xi_24_13 : xm_ins 24 13 = some (.aload_n 0, 14, 0, 0, 0) := rfl
theorem xi_24_14 : xm_ins 24 14 = some (.iload_n 1, 15, 1, 0, 0) := rfl
theorem xi_24_15 : xm_ins 24 15 = some (.invokevirtual 125, 18, 26, 2, 1) := rfl
theorem xi_24_18 : xm_ins 24 18 = some (.aload_n 0, 19, 0, 0, 0) := rfl
theorem xi_24_19 : xm_ins 24 19 = some (.iload_n 1, 20, 1, 0, 0) := rfl
theorem xi_24_20 : xm_ins 24 20 = some (.iload_n 3, 21, 3, 0, 0) := rfl
theorem xi_24_21 : xm_ins 24 21 = some (.iload_n 2, 22, 2, 0, 0) := rfl
theorem xi_24_22 : xm_ins 24 22 = some (.invokevirtual 62, 25, 25, 4, 1) := rfl
theorem xi_24_25 : xm_ins 24 25 = some (.aload_n 0, 26, 0, 0, 0) := rfl
theorem xi_24_26 : xm_ins 24 26 = some (.getfield 24, 29, 1, 4, 1) := rfl
theorem xi_24_29 : xm_ins 24 29 = some (.iload_n 1, 30, 1, 0, 0) := rfl
theorem xi_24_30 : xm_ins 24 30 = some (.dup2, 31, 0, 0, 0) := rfl
theorem xi_24_31 : xm_ins 24 31 = some (.iaload, 32, 0, 0, 0) := rfl
theorem xi_24_32 : xm_ins 24 32 = some (.iconst 1, 33, 0, 0, 1) := rfl
theorem xi_24_33 : xm_ins 24 33 = some (.iadd, 34, 0, 0, 0) := rfl
theorem xi_24_34 : xm_ins 24 34 = some (.iastore, 35, 0, 0, 0) := rfl
theorem xi_24_35 : xm_ins 24 35 = some (.aload_n 0, 36, 0, 0, 0) := rfl
theorem xi_24_36 : xm_ins 24 36 = some (.dup, 37, 0, 0, 0) := rfl
theorem xi_24_37 : xm_ins 24 37 = some (.getfield 43, 40, 1, 10, 0) := rfl
theorem xi_24_40 : xm_ins 24 40 = some (.iconst 1, 41, 0, 0, 1) := rfl
theorem xi_24_41 : xm_ins 24 41 = some (.iadd, 42, 0, 0, 0) := rfl
theorem xi_24_42 : xm_ins 24 42 = some (.putfield 43, 45, 1, 10, 0) := rfl
theorem xi_24_45 : xm_ins 24 45 = some (.iconst 1, 46, 0, 0, 1) := rfl
theorem xi_24_46 : xm_ins 24 46 = some (.ireturn, 47, 0, 0, 0) := rfl
theorem xn_25 (pc : Nat) : xm_ins 25 pc = xm_find xt_25 pc := rfl
theorem xi_25_0 : xm_ins 25 0 = some (.aload_n 0, 1, 0, 0, 0) := rfl
theorem xi_25_1 : xm_ins 25 1 = some (.getfield 9, 4, 1, 0, 1) := rfl
theorem xi_25_4 : xm_ins 25 4 = some (.iload_n 2, 5, 2, 0, 0) := rfl
theorem xi_25_5 : xm_ins 25 5 = some (.iconst 5, 6, 0, 0, 5) := rfl
theorem xi_25_6 : xm_ins 25 6 = some (.idiv, 7, 0, 0, 0) := rfl
theorem xi_25_7 : xm_ins 25 7 = some (.iload_n 3, 8, 3, 0, 0) := rfl
theorem xi_25_8 : xm_ins 25 8 = some (.iastore, 9, 0, 0, 0) := rfl
theorem xi_25_9 : xm_ins 25 9 = some (.aload_n 0, 10, 0, 0, 0) := rfl
theorem xi_25_10 : xm_ins 25 10 = some (.getfield 15, 13, 1, 1, 1) := rfl
theorem xi_25_13 : xm_ins 25 13 = some (.iload_n 2, 14, 2, 0, 0) := rfl
theorem xi_25_14 : xm_ins 25 14 = some (.iload_n 1, 15, 1, 0, 0) := rfl
theorem xi_25_15 : xm_ins 25 15 = some (.iastore, 16, 0, 0, 0) := rfl
theorem xi_25_16 : xm_ins 25 16 = some (.aload_n 0, 17, 0, 0, 0) := rfl
theorem xi_25_17 : xm_ins 25 17 = some (.getfield 18, 20, 1, 2, 1) := rfl
theorem xi_25_20 : xm_ins 25 20 = some (.iload_n 1, 21, 1, 0, 0) := rfl
theorem xi_25_21 : xm_ins 25 21 = some (.iload_n 2, 22, 2, 0, 0) := rfl
theorem xi_25_22 : xm_ins 25 22 = some (.iastore, 23, 0, 0, 0) := rfl
theorem xi_25_23 : xm_ins 25 23 = some (.return_, 24, 0, 0, 0) := rfl
theorem xn_26 (pc : Nat) : xm_ins 26 pc = xm_find xt_26 pc := rfl
theorem xi_26_0 : xm_ins 26 0 = some (.aload_n 0, 1, 0, 0, 0) := rfl
theorem xi_26_1 : xm_ins 26 1 = some (.getfield 18, 4, 1, 2, 1) := rfl
theorem xi_26_4 : xm_ins 26 4 = some (.iload_n 1, 5, 1, 0, 0) := rfl
theorem xi_26_5 : xm_ins 26 5 = some (.iaload, 6, 0, 0, 0) := rfl
theorem xi_26_6 : xm_ins 26 6 = some (.istore_n 2, 7, 2, 0, 0) := rfl
theorem xi_26_7 : xm_ins 26 7 = some (.iload_n 2, 8, 2, 0, 0) := rfl
theorem xi_26_8 : xm_ins 26 8 = some (.iconst (-1), 9, 0, 0, (-1)) := rfl
theorem xi_26_9 : xm_ins 26 9 = some (.if_icmp .eq 17, 12, 26, 0, 0) := rfl
theorem xi_26_12 : xm_ins 26 12 = some (.aload_n 0, 13, 0, 0, 0) := rfl
theorem xi_26_13 : xm_ins 26 13 = some (.getfield 15, 16, 1, 1, 1) := rfl
theorem xi_26_16 : xm_ins 26 16 = some (.iload_n 2, 17, 2, 0, 0) := rfl
theorem xi_26_17 : xm_ins 26 17 = some (.iconst (-1), 18, 0, 0, (-1)) := rfl
theorem xi_26_18 : xm_ins 26 18 = some (.iastore, 19, 0, 0, 0) := rfl
theorem xi_26_19 : xm_ins 26 19 = some (.aload_n 0, 20, 0, 0, 0) := rfl
theorem xi_26_20 : xm_ins 26 20 = some (.getfield 18, 23, 1, 2, 1) := rfl
theorem xi_26_23 : xm_ins 26 23 = some (.iload_n 1, 24, 1, 0, 0) := rfl
theorem xi_26_24 : xm_ins 26 24 = some (.iconst (-1), 25, 0, 0, (-1)) := rfl
theorem xi_26_25 : xm_ins 26 25 = some (.iastore, 26, 0, 0, 0) := rfl
theorem xi_26_26 : xm_ins 26 26 = some (.return_, 27, 0, 0, 0) := rfl
theorem xn_27 (pc : Nat) : xm_ins 27 pc = xm_find xt_27 pc := rfl
theorem xi_27_0 : xm_ins 27 0 = some (.iconst 0, 1, 0, 0, 0) := rfl
theorem xi_27_1 : xm_ins 27 1 = some (.istore_n 2, 2, 2, 0, 0) := rfl
theorem xi_27_2 : xm_ins 27 2 = some (.iload_n 2, 3, 2, 0, 0) := rfl
theorem xi_27_3 : xm_ins 27 3 = some (.bipush 30, 5, 0, 0, 30) := rfl
theorem xi_27_5 : xm_ins 27 5 = some (.if_icmp .ge 46, 8, 51, 0, 0) := rfl
theorem xi_27_8 : xm_ins 27 8 = some (.iload_n 1, 9, 1, 0, 0) := rfl
theorem xi_27_9 : xm_ins 27 9 = some (.iload_n 2, 10, 2, 0, 0) := rfl
theorem xi_27_10 : xm_ins 27 10 = some (.invokestatic 89, 13, 83, 2, 2) := rfl
theorem xi_27_13 : xm_ins 27 13 = some (.ifCond .eq 32, 16, 45, 0, 0) := rfl
theorem xi_27_16 : xm_ins 27 16 = some (.aload_n 0, 17, 0, 0, 0) := rfl
theorem xi_27_17 : xm_ins 27 17 = some (.iload_n 2, 18, 2, 0, 0) := rfl
theorem xi_27_18 : xm_ins 27 18 = some (.invokevirtual 125, 21, 26, 2, 1) := rfl
theorem xi_27_21 : xm_ins 27 21 = some (.iconst 0, 22, 0, 0, 0) := rfl
theorem xi_27_22 : xm_ins 27 22 = some (.istore_n 3, 23, 3, 0, 0) := rfl
theorem xi_27_23 : xm_ins 27 23 = some (.iload_n 3, 24, 3, 0, 0) := rfl
theorem xi_27_24 : xm_ins 27 24 = some (.iconst 3, 25, 0, 0, 3) := rfl
theorem xi_27_25 : xm_ins 27 25 = some (.if_icmp .ge 20, 28, 45, 0, 0) := rfl
theorem xi_27_28 : xm_ins 27 28 = some (.aload_n 0, 29, 0, 0, 0) := rfl
theorem xi_27_29 : xm_ins 27 29 = some (.getfield 21, 32, 1, 3, 1) := rfl
theorem xi_27_32 : xm_ins 27 32 = some (.iload_n 2, 33, 2, 0, 0) := rfl
theorem xi_27_33 : xm_ins 27 33 = some (.iconst 3, 34, 0, 0, 3) := rfl
theorem xi_27_34 : xm_ins 27 34 = some (.imul, 35, 0, 0, 0) := rfl
theorem xi_27_35 : xm_ins 27 35 = some (.iload_n 3, 36, 3, 0, 0) := rfl
theorem xi_27_36 : xm_ins 27 36 = some (.iadd, 37, 0, 0, 0) := rfl
theorem xi_27_37 : xm_ins 27 37 = some (.iconst (-1), 38, 0, 0, (-1)) := rfl
theorem xi_27_38 : xm_ins 27 38 = some (.iastore, 39, 0, 0, 0) := rfl
theorem xi_27_39 : xm_ins 27 39 = some (.iinc 3 1, 42, 3, 0, 1) := rfl
theorem xi_27_42 : xm_ins 27 42 = some (.goto (-19), 45, 23, 0, 0) := rfl
theorem xi_27_45 : xm_ins 27 45 = some (.iinc 2 1, 48, 2, 0, 1) := rfl
theorem xi_27_48 : xm_ins 27 48 = some (.goto (-46), 51, 2, 0, 0) := rfl
theorem xi_27_51 : xm_ins 27 51 = some (.aload_n 0, 52, 0, 0, 0) := rfl
theorem xi_27_52 : xm_ins 27 52 = some (.invokevirtual 128, 55, 28, 1, 1) := rfl
theorem xi_27_55 : xm_ins 27 55 = some (.return_, 56, 0, 0, 0) := rfl
theorem xn_28 (pc : Nat) : xm_ins 28 pc = xm_find xt_28 pc := rfl
theorem xi_28_0 : xm_ins 28 0 = some (.iconst 0, 1, 0, 0, 0) := rfl
theorem xi_28_1 : xm_ins 28 1 = some (.istore_n 1, 2, 1, 0, 0) := rfl
theorem xi_28_2 : xm_ins 28 2 = some (.iload_n 1, 3, 1, 0, 0) := rfl
theorem xi_28_3 : xm_ins 28 3 = some (.bipush 8, 5, 0, 0, 8) := rfl
theorem xi_28_5 : xm_ins 28 5 = some (.if_icmp .ge 24, 8, 29, 0, 0) := rfl
theorem xi_28_8 : xm_ins 28 8 = some (.aload_n 0, 9, 0, 0, 0) := rfl
theorem xi_28_9 : xm_ins 28 9 = some (.iload_n 1, 10, 1, 0, 0) := rfl
theorem xi_28_10 : xm_ins 28 10 = some (.invokevirtual 122, 13, 42, 2, 1) := rfl
theorem xi_28_13 : xm_ins 28 13 = some (.ifCond .ne 10, 16, 23, 0, 0) := rfl
theorem xi_28_16 : xm_ins 28 16 = some (.aload_n 0, 17, 0, 0, 0) := rfl
theorem xi_28_17 : xm_ins 28 17 = some (.getfield 9, 20, 1, 0, 1) := rfl
theorem xi_28_20 : xm_ins 28 20 = some (.iload_n 1, 21, 1, 0, 0) := rfl
theorem xi_28_21 : xm_ins 28 21 = some (.iconst (-1), 22, 0, 0, (-1)) := rfl
theorem xi_28_22 : xm_ins 28 22 = some (.iastore, 23, 0, 0, 0) := rfl
theorem xi_28_23 : xm_ins 28 23 = some (.iinc 1 1, 26, 1, 0, 1) := rfl
theorem xi_28_26 : xm_ins 28 26 = some (.goto (-24), 29, 2, 0, 0) := rfl
theorem xi_28_29 : xm_ins 28 29 = some (.return_, 30, 0, 0, 0) := rfl
theorem xn_29 (pc : Nat) : xm_ins 29 pc = xm_find xt_29 pc := rfl
theorem xi_29_0 : xm_ins 29 0 = some (.iconst 0, 1, 0, 0, 0) := rfl
theorem xi_29_1 : xm_ins 29 1 = some (.istore_n 2, 2, 2, 0, 0) := rfl
theorem xi_29_2 : xm_ins 29 2 = some (.iload_n 2, 3, 2, 0, 0) := rfl
theorem xi_29_3 : xm_ins 29 3 = some (.bipush 8, 5, 0, 0, 8) := rfl
theorem xi_29_5 : xm_ins 29 5 = some (.if_icmp .ge 32, 8, 37, 0, 0) := rfl
theorem xi_29_8 : xm_ins 29 8 = some (.aload_n 0, 9, 0, 0, 0) := rfl
theorem xi_29_9 : xm_ins 29 9 = some (.getfield 9, 12, 1, 0, 1) := rfl
theorem xi_29_12 : xm_ins 29 12 = some (.iload_n 2, 13, 2, 0, 0) := rfl
theorem xi_29_13 : xm_ins 29 13 = some (.iaload, 14, 0, 0, 0) := rfl
theorem xi_29_14 : xm_ins 29 14 = some (.iload_n 1, 15, 1, 0, 0) := rfl
theorem xi_29_15 : xm_ins 29 15 = some (.if_icmp .ne 16, 18, 31, 0, 0) := rfl
theorem xi_29_18 : xm_ins 29 18 = some (.aload_n 0, 19, 0, 0, 0) := rfl
theorem xi_29_19 : xm_ins 29 19 = some (.iload_n 2, 20, 2, 0, 0) := rfl
theorem xi_29_20 : xm_ins 29 20 = some (.invokevirtual 131, 23, 30, 2, 1) := rfl
theorem xi_29_23 : xm_ins 29 23 = some (.istore_n 3, 24, 3, 0, 0) := rfl
theorem xi_29_24 : xm_ins 29 24 = some (.iload_n 3, 25, 3, 0, 0) := rfl
theorem xi_29_25 : xm_ins 29 25 = some (.iconst (-1), 26, 0, 0, (-1)) := rfl
theorem xi_29_26 : xm_ins 29 26 = some (.if_icmp .eq 5, 29, 31, 0, 0) := rfl
theorem xi_29_29 : xm_ins 29 29 = some (.iload_n 3, 30, 3, 0, 0) := rfl
theorem xi_29_30 : xm_ins 29 30 = some (.ireturn, 31, 0, 0, 0) := rfl
theorem xi_29_31 : xm_ins 29 31 = some (.iinc 2 1, 34, 2, 0, 1) := rfl
theorem xi_29_34 : xm_ins 29 34 = some (.goto (-32), 37, 2, 0, 0) := rfl
theorem xi_29_37 : xm_ins 29 37 = some (.iconst 0, 38, 0, 0, 0) := rfl
theorem xi_29_38 : xm_ins 29 38 = some (.istore_n 2, 39, 2, 0, 0) := rfl
theorem xi_29_39 : xm_ins 29 39 = some (.iload_n 2, 40, 2, 0, 0) := rfl
theorem xi_29_40 : xm_ins 29 40 = some (.bipush 8, 42, 0, 0, 8) := rfl
theorem xi_29_42 : xm_ins 29 42 = some (.if_icmp .ge 23, 45, 65, 0, 0) := rfl
theorem xi_29_45 : xm_ins 29 45 = some (.aload_n 0, 46, 0, 0, 0) := rfl
theorem xi_29_46 : xm_ins 29 46 = some (.getfield 9, 49, 1, 0, 1) := rfl
theorem xi_29_49 : xm_ins 29 49 = some (.iload_n 2, 50, 2, 0, 0) := rfl
theorem xi_29_50 : xm_ins 29 50 = some (.iaload, 51, 0, 0, 0) := rfl
theorem xi_29_51 : xm_ins 29 51 = some (.iconst (-1), 52, 0, 0, (-1)) := rfl
theorem xi_29_52 : xm_ins 29 52 = some (.if_icmp .ne 7, 55, 59, 0, 0) := rfl
theorem xi_29_55 : xm_ins 29 55 = some (.iload_n 2, 56, 2, 0, 0) := rfl
theorem xi_29_56 : xm_ins 29 56 = some (.iconst 5, 57, 0, 0, 5) := rfl
theorem xi_29_57 : xm_ins 29 57 = some (.imul, 58, 0, 0, 0) := rfl
theorem xi_29_58 : xm_ins 29 58 = some (.ireturn, 59, 0, 0, 0) := rfl
theorem xi_29_59 : xm_ins 29 59 = some (.iinc 2 1, 62, 2, 0, 1) := rfl
theorem xi_29_62 : xm_ins 29 62 = some (.goto (-23), 65, 39, 0, 0) := rfl
theorem xi_29_65 : xm_ins 29 65 = some (.iconst (-1), 66, 0, 0, (-1)) := rfl
theorem xi_29_66 : xm_ins 29 66 = some (.ireturn, 67, 0, 0, 0) := rfl
theorem xn_30 (pc : Nat) : xm_ins 30 pc = xm_find xt_30 pc := rfl
theorem xi_30_0 : xm_ins 30 0 = some (.iconst 0, 1, 0, 0, 0) := rfl
theorem xi_30_1 : xm_ins 30 1 = some (.istore_n 2, 2, 2, 0, 0) := rfl
theorem xi_30_2 : xm_ins 30 2 = some (.iload_n 2, 3, 2, 0, 0) := rfl
theorem xi_30_3 : xm_ins 30 3 = some (.iconst 5, 4, 0, 0, 5) := rfl
theorem xi_30_4 : xm_ins 30 4 = some (.if_icmp .ge 27, 7, 31, 0, 0) := rfl
theorem xi_30_7 : xm_ins 30 7 = some (.iload_n 1, 8, 1, 0, 0) := rfl
theorem xi_30_8 : xm_ins 30 8 = some (.iconst 5, 9, 0, 0, 5) := rfl
theorem xi_30_9 : xm_ins 30 9 = some (.imul, 10, 0, 0, 0) := rfl
theorem xi_30_10 : xm_ins 30 10 = some (.iload_n 2, 11, 2, 0, 0) := rfl
theorem xi_30_11 : xm_ins 30 11 = some (.iadd, 12, 0, 0, 0) := rfl
theorem xi_30_12 : xm_ins 30 12 = some (.istore_n 3, 13, 3, 0, 0) := rfl
theorem xi_30_13 : xm_ins 30 13 = some (.aload_n 0, 14, 0, 0, 0) := rfl
theorem xi_30_14 : xm_ins 30 14 = some (.getfield 15, 17, 1, 1, 1) := rfl
theorem xi_30_17 : xm_ins 30 17 = some (.iload_n 3, 18, 3, 0, 0) := rfl
theorem xi_30_18 : xm_ins 30 18 = some (.iaload, 19, 0, 0, 0) := rfl
theorem xi_30_19 : xm_ins 30 19 = some (.iconst (-1), 20, 0, 0, (-1)) := rfl
theorem xi_30_20 : xm_ins 30 20 = some (.if_icmp .ne 5, 23, 25, 0, 0) := rfl
theorem xi_30_23 : xm_ins 30 23 = some (.iload_n 3, 24, 3, 0, 0) := rfl
theorem xi_30_24 : xm_ins 30 24 = some (.ireturn, 25, 0, 0, 0) := rfl
theorem xi_30_25 : xm_ins 30 25 = some (.iinc 2 1, 28, 2, 0, 1) := rfl
theorem xi_30_28 : xm_ins 30 28 = some (.goto (-26), 31, 2, 0, 0) := rfl
theorem xi_30_31 : xm_ins 30 31 = some (.iconst (-1), 32, 0, 0, (-1)) := rfl
theorem xi_30_32 : xm_ins 30 32 = some (.ireturn, 33, 0, 0, 0) := rfl
theorem xn_31 (pc : Nat) : xm_ins 31 pc = xm_find xt_31 pc := rfl
theorem xi_31_0 : xm_ins 31 0 = some (.iload_n 0, 1, 0, 0, 0) := rfl
theorem xi_31_1 : xm_ins 31 1 = some (.ifCond .lt 12, 4, 13, 0, 0) := rfl
theorem xi_31_4 : xm_ins 31 4 = some (.iload_n 0, 5, 0, 0, 0) := rfl
theorem xi_31_5 : xm_ins 31 5 = some (.iconst 4, 6, 0, 0, 4) := rfl
theorem xi_31_6 : xm_ins 31 6 = some (.if_icmp .ge 7, 9, 13, 0, 0) := rfl
theorem xi_31_9 : xm_ins 31 9 = some (.iconst 1, 10, 0, 0, 1) := rfl
theorem xi_31_10 : xm_ins 31 10 = some (.goto 4, 13, 14, 0, 0) := rfl
theorem xi_31_13 : xm_ins 31 13 = some (.iconst 0, 14, 0, 0, 0) := rfl
theorem xi_31_14 : xm_ins 31 14 = some (.ireturn, 15, 0, 0, 0) := rfl
theorem xn_32 (pc : Nat) : xm_ins 32 pc = xm_find xt_32 pc := rfl
theorem xi_32_0 : xm_ins 32 0 = some (.iload_n 0, 1, 0, 0, 0) := rfl
theorem xi_32_1 : xm_ins 32 1 = some (.ifCond .lt 12, 4, 13, 0, 0) := rfl
theorem xi_32_4 : xm_ins 32 4 = some (.iload_n 0, 5, 0, 0, 0) := rfl
theorem xi_32_5 : xm_ins 32 5 = some (.iconst 3, 6, 0, 0, 3) := rfl
theorem xi_32_6 : xm_ins 32 6 = some (.if_icmp .ge 7, 9, 13, 0, 0) := rfl
theorem xi_32_9 : xm_ins 32 9 = some (.iconst 1, 10, 0, 0, 1) := rfl
theorem xi_32_10 : xm_ins 32 10 = some (.goto 4, 13, 14, 0, 0) := rfl
theorem xi_32_13 : xm_ins 32 13 = some (.iconst 0, 14, 0, 0, 0) := rfl
theorem xi_32_14 : xm_ins 32 14 = some (.ireturn, 15, 0, 0, 0) := rfl
theorem xn_33 (pc : Nat) : xm_ins 33 pc = xm_find xt_33 pc := rfl
theorem xi_33_0 : xm_ins 33 0 = some (.iload_n 1, 1, 1, 0, 0) := rfl
theorem xi_33_1 : xm_ins 33 1 = some (.ifCond .lt 21, 4, 22, 0, 0) := rfl
theorem xi_33_4 : xm_ins 33 4 = some (.iload_n 1, 5, 1, 0, 0) := rfl
theorem xi_33_5 : xm_ins 33 5 = some (.bipush 30, 7, 0, 0, 30) := rfl
theorem xi_33_7 : xm_ins 33 7 = some (.if_icmp .ge 15, 10, 22, 0, 0) := rfl
theorem xi_33_10 : xm_ins 33 10 = some (.iload_n 1, 11, 1, 0, 0) := rfl
theorem xi_33_11 : xm_ins 33 11 = some (.aload_n 0, 12, 0, 0, 0) := rfl
theorem xi_33_12 : xm_ins 33 12 = some (.getfield 34, 15, 1, 7, 0) := rfl
theorem xi_33_15 : xm_ins 33 15 = some (.if_icmp .ge 7, 18, 22, 0, 0) := rfl
theorem xi_33_18 : xm_ins 33 18 = some (.iconst 1, 19, 0, 0, 1) := rfl
theorem xi_33_19 : xm_ins 33 19 = some (.goto 4, 22, 23, 0, 0) := rfl
theorem xi_33_22 : xm_ins 33 22 = some (.iconst 0, 23, 0, 0, 0) := rfl
theorem xi_33_23 : xm_ins 33 23 = some (.ireturn, 24, 0, 0, 0) := rfl
theorem xn_34 (pc : Nat) : xm_ins 34 pc = xm_find xt_34 pc := rfl
theorem xi_34_0 : xm_ins 34 0 = some (.iload_n 1, 1, 1, 0, 0) := rfl
theorem xi_34_1 : xm_ins 34 1 = some (.ifCond .lt 23, 4, 24, 0, 0) := rfl
theorem xi_34_4 : xm_ins 34 4 = some (.iload_n 1, 5, 1, 0, 0) := rfl
theorem xi_34_5 : xm_ins 34 5 = some (.bipush 30, 7, 0, 0, 30) := rfl
theorem xi_34_7 : xm_ins 34 7 = some (.if_icmp .ge 17, 10, 24, 0, 0) := rfl
theorem xi_34_10 : xm_ins 34 10 = some (.aload_n 0, 11, 0, 0, 0) := rfl
theorem xi_34_11 : xm_ins 34 11 = some (.getfield 18, 14, 1, 2, 1) := rfl
theorem xi_34_14 : xm_ins 34 14 = some (.iload_n 1, 15, 1, 0, 0) := rfl
theorem xi_34_15 : xm_ins 34 15 = some (.iaload, 16, 0, 0, 0) := rfl
theorem xi_34_16 : xm_ins 34 16 = some (.iconst (-1), 17, 0, 0, (-1)) := rfl
theorem xi_34_17 : xm_ins 34 17 = some (.if_icmp .eq 7, 20, 24, 0, 0) := rfl
theorem xi_34_20 : xm_ins 34 20 = some (.iconst 1, 21, 0, 0, 1) := rfl
theorem xi_34_21 : xm_ins 34 21 = some (.goto 4, 24, 25, 0, 0) := rfl
theorem xi_34_24 : xm_ins 34 24 = some (.iconst 0, 25, 0, 0, 0) := rfl
theorem xi_34_25 : xm_ins 34 25 = some (.ireturn, 26, 0, 0, 0) := rfl
theorem xn_35 (pc : Nat) : xm_ins 35 pc = xm_find xt_35 pc := rfl
theorem xi_35_0 : xm_ins 35 0 = some (.aload_n 0, 1, 0, 0, 0) := rfl
theorem xi_35_1 : xm_ins 35 1 = some (.iload_n 1, 2, 1, 0, 0) := rfl
theorem xi_35_2 : xm_ins 35 2 = some (.invokevirtual 70, 5, 34, 2, 1) := rfl
theorem xi_35_5 : xm_ins 35 5 = some (.ifCond .ne 5, 8, 10, 0, 0) := rfl
theorem xi_35_8 : xm_ins 35 8 = some (.iconst (-1), 9, 0, 0, (-1)) := rfl
theorem xi_35_9 : xm_ins 35 9 = some (.ireturn, 10, 0, 0, 0) := rfl
theorem xi_35_10 : xm_ins 35 10 = some (.aload_n 0, 11, 0, 0, 0) := rfl
theorem xi_35_11 : xm_ins 35 11 = some (.getfield 18, 14, 1, 2, 1) := rfl
theorem xi_35_14 : xm_ins 35 14 = some (.iload_n 1, 15, 1, 0, 0) := rfl
theorem xi_35_15 : xm_ins 35 15 = some (.iaload, 16, 0, 0, 0) := rfl
theorem xi_35_16 : xm_ins 35 16 = some (.iconst 5, 17, 0, 0, 5) := rfl
theorem xi_35_17 : xm_ins 35 17 = some (.idiv, 18, 0, 0, 0) := rfl
theorem xi_35_18 : xm_ins 35 18 = some (.bipush 10, 20, 0, 0, 10) := rfl
theorem xi_35_20 : xm_ins 35 20 = some (.imul, 21, 0, 0, 0) := rfl
theorem xi_35_21 : xm_ins 35 21 = some (.aload_n 0, 22, 0, 0, 0) := rfl
theorem xi_35_22 : xm_ins 35 22 = some (.getfield 18, 25, 1, 2, 1) := rfl
theorem xi_35_25 : xm_ins 35 25 = some (.iload_n 1, 26, 1, 0, 0) := rfl
theorem xi_35_26 : xm_ins 35 26 = some (.iaload, 27, 0, 0, 0) := rfl
theorem xi_35_27 : xm_ins 35 27 = some (.iconst 5, 28, 0, 0, 5) := rfl
theorem xi_35_28 : xm_ins 35 28 = some (.irem, 29, 0, 0, 0) := rfl
theorem xi_35_29 : xm_ins 35 29 = some (.iadd, 30, 0, 0, 0) := rfl
theorem xi_35_30 : xm_ins 35 30 = some (.ireturn, 31, 0, 0, 0) := rfl
theorem xn_36 (pc : Nat) : xm_ins 36 pc = xm_find xt_36 pc := rfl
theorem xi_36_0 : xm_ins 36 0 = some (.aload_n 0, 1, 0, 0, 0) := rfl
theorem xi_36_1 : xm_ins 36 1 = some (.iload_n 1, 2, 1, 0, 0) := rfl
theorem xi_36_2 : xm_ins 36 2 = some (.invokevirtual 70, 5, 34, 2, 1) := rfl
theorem xi_36_5 : xm_ins 36 5 = some (.ifCond .eq 19, 8, 24, 0, 0) := rfl
theorem xi_36_8 : xm_ins 36 8 = some (.aload_n 0, 9, 0, 0, 0) := rfl
theorem xi_36_9 : xm_ins 36 9 = some (.getfield 9, 12, 1, 0, 1) := rfl
theorem xi_36_12 : xm_ins 36 12 = some (.aload_n 0, 13, 0, 0, 0) := rfl
theorem xi_36_13 : xm_ins 36 13 = some (.getfield 18, 16, 1, 2, 1) := rfl
theorem xi_36_16 : xm_ins 36 16 = some (.iload_n 1, 17, 1, 0, 0) := rfl
theorem xi_36_17 : xm_ins 36 17 = some (.iaload, 18, 0, 0, 0) := rfl
theorem xi_36_18 : xm_ins 36 18 = some (.iconst 5, 19, 0, 0, 5) := rfl
theorem xi_36_19 : xm_ins 36 19 = some (.idiv, 20, 0, 0, 0) := rfl
theorem xi_36_20 : xm_ins 36 20 = some (.iaload, 21, 0, 0, 0) := rfl
theorem xi_36_21 : xm_ins 36 21 = some (.goto 4, 24, 25, 0, 0) := rfl
theorem xi_36_24 : xm_ins 36 24 = some (.iconst (-1), 25, 0, 0, (-1)) := rfl
theorem xi_36_25 : xm_ins 36 25 = some (.ireturn, 26, 0, 0, 0) := rfl
theorem xn_37 (pc : Nat) : xm_ins 37 pc = xm_find xt_37 pc := rfl
theorem xi_37_0 : xm_ins 37 0 = some (.aload_n 0, 1, 0, 0, 0) := rfl
theorem xi_37_1 : xm_ins 37 1 = some (.iload_n 1, 2, 1, 0, 0) := rfl
theorem xi_37_2 : xm_ins 37 2 = some (.invokevirtual 134, 5, 33, 2, 1) := rfl
theorem xi_37_5 : xm_ins 37 5 = some (.ifCond .eq 12, 8, 17, 0, 0) := rfl
theorem xi_37_8 : xm_ins 37 8 = some (.aload_n 0, 9, 0, 0, 0) := rfl
theorem xi_37_9 : xm_ins 37 9 = some (.getfield 24, 12, 1, 4, 1) := rfl
theorem xi_37_12 : xm_ins 37 12 = some (.iload_n 1, 13, 1, 0, 0) := rfl
theorem xi_37_13 : xm_ins 37 13 = some (.iaload, 14, 0, 0, 0) := rfl
theorem xi_37_14 : xm_ins 37 14 = some (.goto 4, 17, 18, 0, 0) := rfl
theorem xi_37_17 : xm_ins 37 17 = some (.iconst 0, 18, 0, 0, 0) := rfl
theorem xi_37_18 : xm_ins 37 18 = some (.ireturn, 19, 0, 0, 0) := rfl
theorem xn_38 (pc : Nat) : xm_ins 38 pc = xm_find xt_38 pc := rfl
theorem xi_38_0 : xm_ins 38 0 = some (.aload_n 0, 1, 0, 0, 0) := rfl
theorem xi_38_1 : xm_ins 38 1 = some (.iload_n 1, 2, 1, 0, 0) := rfl
theorem xi_38_2 : xm_ins 38 2 = some (.invokevirtual 134, 5, 33, 2, 1) := rfl
theorem xi_38_5 : xm_ins 38 5 = some (.ifCond .eq 10, 8, 15, 0, 0) := rfl
theorem xi_38_8 : xm_ins 38 8 = some (.iload_n 2, 9, 2, 0, 0) := rfl
theorem xi_38_9 : xm_ins 38 9 = some (.invokestatic 78, 12, 32, 1, 1) := rfl
theorem xi_38_12 : xm_ins 38 12 = some (.ifCond .ne 5, 15, 17, 0, 0) := rfl
theorem xi_38_15 : xm_ins 38 15 = some (.iconst (-1), 16, 0, 0, (-1)) := rfl
theorem xi_38_16 : xm_ins 38 16 = some (.ireturn, 17, 0, 0, 0) := rfl
theorem xi_38_17 : xm_ins 38 17 = some (.aload_n 0, 18, 0, 0, 0) := rfl
theorem xi_38_18 : xm_ins 38 18 = some (.getfield 21, 21, 1, 3, 1) := rfl
theorem xi_38_21 : xm_ins 38 21 = some (.iload_n 1, 22, 1, 0, 0) := rfl
theorem xi_38_22 : xm_ins 38 22 = some (.iconst 3, 23, 0, 0, 3) := rfl
theorem xi_38_23 : xm_ins 38 23 = some (.imul, 24, 0, 0, 0) := rfl
theorem xi_38_24 : xm_ins 38 24 = some (.iload_n 2, 25, 2, 0, 0) := rfl
theorem xi_38_25 : xm_ins 38 25 = some (.iadd, 26, 0, 0, 0) := rfl
theorem xi_38_26 : xm_ins 38 26 = some (.iaload, 27, 0, 0, 0) := rfl
theorem xi_38_27 : xm_ins 38 27 = some (.ireturn, 28, 0, 0, 0) := rfl
theorem xn_39 (pc : Nat) : xm_ins 39 pc = xm_find xt_39 pc := rfl
theorem xi_39_0 : xm_ins 39 0 = some (.aload_n 0, 1, 0, 0, 0) := rfl
theorem xi_39_1 : xm_ins 39 1 = some (.iload_n 1, 2, 1, 0, 0) := rfl
theorem xi_39_2 : xm_ins 39 2 = some (.iload_n 2, 3, 2, 0, 0) := rfl
theorem xi_39_3 : xm_ins 39 3 = some (.invokevirtual 85, 6, 38, 3, 1) := rfl
theorem xi_39_6 : xm_ins 39 6 = some (.istore_n 3, 7, 3, 0, 0) := rfl
theorem xi_39_7 : xm_ins 39 7 = some (.iload_n 3, 8, 3, 0, 0) := rfl
theorem xi_39_8 : xm_ins 39 8 = some (.iconst (-1), 9, 0, 0, (-1)) := rfl
theorem xi_39_9 : xm_ins 39 9 = some (.if_icmp .eq 20, 12, 29, 0, 0) := rfl
theorem xi_39_12 : xm_ins 39 12 = some (.aload_n 0, 13, 0, 0, 0) := rfl
theorem xi_39_13 : xm_ins 39 13 = some (.iload_n 3, 14, 3, 0, 0) := rfl
theorem xi_39_14 : xm_ins 39 14 = some (.invokevirtual 137, 17, 36, 2, 1) := rfl
theorem xi_39_17 : xm_ins 39 17 = some (.aload_n 0, 18, 0, 0, 0) := rfl
theorem xi_39_18 : xm_ins 39 18 = some (.iload_n 1, 19, 1, 0, 0) := rfl
theorem xi_39_19 : xm_ins 39 19 = some (.invokevirtual 137, 22, 36, 2, 1) := rfl
theorem xi_39_22 : xm_ins 39 22 = some (.if_icmp .ge 7, 25, 29, 0, 0) := rfl
theorem xi_39_25 : xm_ins 39 25 = some (.iconst 1, 26, 0, 0, 1) := rfl
theorem xi_39_26 : xm_ins 39 26 = some (.goto 4, 29, 30, 0, 0) := rfl
theorem xi_39_29 : xm_ins 39 29 = some (.iconst 0, 30, 0, 0, 0) := rfl
theorem xi_39_30 : xm_ins 39 30 = some (.ireturn, 31, 0, 0, 0) := rfl
theorem xn_40 (pc : Nat) : xm_ins 40 pc = xm_find xt_40 pc := rfl
theorem xi_40_0 : xm_ins 40 0 = some (.iconst 0, 1, 0, 0, 0) := rfl
theorem xi_40_1 : xm_ins 40 1 = some (.istore_n 2, 2, 2, 0, 0) := rfl
theorem xi_40_2 : xm_ins 40 2 = some (.iconst 0, 3, 0, 0, 0) := rfl
theorem xi_40_3 : xm_ins 40 3 = some (.istore_n 3, 4, 3, 0, 0) := rfl
theorem xi_40_4 : xm_ins 40 4 = some (.iload_n 3, 5, 3, 0, 0) := rfl
theorem xi_40_5 : xm_ins 40 5 = some (.iconst 4, 6, 0, 0, 4) := rfl
theorem xi_40_6 : xm_ins 40 6 = some (.if_icmp .ge 25, 9, 31, 0, 0) := rfl
theorem xi_40_9 : xm_ins 40 9 = some (.aload_n 0, 10, 0, 0, 0) := rfl
theorem xi_40_10 : xm_ins 40 10 = some (.getfield 27, 13, 1, 5, 1) := rfl
theorem xi_40_13 : xm_ins 40 13 = some (.iload_n 3, 14, 3, 0, 0) := rfl
theorem xi_40_14 : xm_ins 40 14 = some (.iaload, 15, 0, 0, 0) := rfl
theorem xi_40_15 : xm_ins 40 15 = some (.iload_n 1, 16, 1, 0, 0) := rfl
theorem xi_40_16 : xm_ins 40 16 = some (.if_icmp .ne 9, 19, 25, 0, 0) := rfl
theorem xi_40_19 : xm_ins 40 19 = some (.iload_n 2, 20, 2, 0, 0) := rfl
theorem xi_40_20 : xm_ins 40 20 = some (.iconst 1, 21, 0, 0, 1) := rfl
theorem xi_40_21 : xm_ins 40 21 = some (.iload_n 3, 22, 3, 0, 0) := rfl
theorem xi_40_22 : xm_ins 40 22 = some (.ishl, 23, 0, 0, 0) := rfl
theorem xi_40_23 : xm_ins 40 23 = some (.ior, 24, 0, 0, 0) := rfl
theorem xi_40_24 : xm_ins 40 24 = some (.istore_n 2, 25, 2, 0, 0) := rfl
theorem xi_40_25 : xm_ins 40 25 = some (.iinc 3 1, 28, 3, 0, 1) := rfl
theorem xi_40_28 : xm_ins 40 28 = some (.goto (-24), 31, 4, 0, 0) := rfl
theorem xi_40_31 : xm_ins 40 31 = some (.iload_n 2, 32, 2, 0, 0) := rfl
theorem xi_40_32 : xm_ins 40 32 = some (.ireturn, 33, 0, 0, 0) := rfl
theorem xn_41 (pc : Nat) : xm_ins 41 pc = xm_find xt_41 pc := rfl
theorem xi_41_0 : xm_ins 41 0 = some (.iconst 0, 1, 0, 0, 0) := rfl
theorem xi_41_1 : xm_ins 41 1 = some (.istore_n 2, 2, 2, 0, 0) := rfl
theorem xi_41_2 : xm_ins 41 2 = some (.iconst 0, 3, 0, 0, 0) := rfl
theorem xi_41_3 : xm_ins 41 3 = some (.istore_n 3, 4, 3, 0, 0) := rfl
theorem xi_41_4 : xm_ins 41 4 = some (.iload_n 3, 5, 3, 0, 0) := rfl
theorem xi_41_5 : xm_ins 41 5 = some (.bipush 30, 7, 0, 0, 30) := rfl
theorem xi_41_7 : xm_ins 41 7 = some (.if_icmp .ge 45, 10, 52, 0, 0) := rfl
theorem xi_41_10 : xm_ins 41 10 = some (.iconst 0, 11, 0, 0, 0) := rfl
theorem xi_41_11 : xm_ins 41 11 = some (.istore 4, 13, 4, 0, 0) := rfl
theorem xi_41_13 : xm_ins 41 13 = some (.iload 4, 15, 4, 0, 0) := rfl
theorem xi_41_15 : xm_ins 41 15 = some (.iconst 3, 16, 0, 0, 3) := rfl
theorem xi_41_16 : xm_ins 41 16 = some (.if_icmp .ge 30, 19, 46, 0, 0) := rfl
theorem xi_41_19 : xm_ins 41 19 = some (.aload_n 0, 20, 0, 0, 0) := rfl
theorem xi_41_20 : xm_ins 41 20 = some (.getfield 21, 23, 1, 3, 1) := rfl
theorem xi_41_23 : xm_ins 41 23 = some (.iload_n 3, 24, 3, 0, 0) := rfl
theorem xi_41_24 : xm_ins 41 24 = some (.iconst 3, 25, 0, 0, 3) := rfl
theorem xi_41_25 : xm_ins 41 25 = some (.imul, 26, 0, 0, 0) := rfl
theorem xi_41_26 : xm_ins 41 26 = some (.iload 4, 28, 4, 0, 0) := rfl
theorem xi_41_28 : xm_ins 41 28 = some (.iadd, 29, 0, 0, 0) := rfl
theorem xi_41_29 : xm_ins 41 29 = some (.iaload, 30, 0, 0, 0) := rfl
theorem xi_41_30 : xm_ins 41 30 = some (.iload_n 1, 31, 1, 0, 0) := rfl
theorem xi_41_31 : xm_ins 41 31 = some (.if_icmp .ne 9, 34, 40, 0, 0) := rfl
theorem xi_41_34 : xm_ins 41 34 = some (.iload_n 2, 35, 2, 0, 0) := rfl
theorem xi_41_35 : xm_ins 41 35 = some (.iconst 1, 36, 0, 0, 1) := rfl
theorem xi_41_36 : xm_ins 41 36 = some (.iload_n 3, 37, 3, 0, 0) := rfl
theorem xi_41_37 : xm_ins 41 37 = some (.ishl, 38, 0, 0, 0) := rfl
theorem xi_41_38 : xm_ins 41 38 = some (.ior, 39, 0, 0, 0) := rfl
theorem xi_41_39 : xm_ins 41 39 = some (.istore_n 2, 40, 2, 0, 0) := rfl
theorem xi_41_40 : xm_ins 41 40 = some (.iinc 4 1, 43, 4, 0, 1) := rfl
theorem xi_41_43 : xm_ins 41 43 = some (.goto (-30), 46, 13, 0, 0) := rfl
theorem xi_41_46 : xm_ins 41 46 = some (.iinc 3 1, 49, 3, 0, 1) := rfl
theorem xi_41_49 : xm_ins 41 49 = some (.goto (-45), 52, 4, 0, 0) := rfl
theorem xi_41_52 : xm_ins 41 52 = some (.iload_n 2, 53, 2, 0, 0) := rfl
theorem xi_41_53 : xm_ins 41 53 = some (.ireturn, 54, 0, 0, 0) := rfl
theorem xn_42 (pc : Nat) : xm_ins 42 pc = xm_find xt_42 pc := rfl
theorem xi_42_0 : xm_ins 42 0 = some (.iconst 0, 1, 0, 0, 0) := rfl
theorem xi_42_1 : xm_ins 42 1 = some (.istore_n 2, 2, 2, 0, 0) := rfl
theorem xi_42_2 : xm_ins 42 2 = some (.iload_n 1, 3, 1, 0, 0) := rfl
theorem xi_42_3 : xm_ins 42 3 = some (.ifCond .lt 47, 6, 50, 0, 0) := rfl
theorem xi_42_6 : xm_ins 42 6 = some (.iload_n 1, 7, 1, 0, 0) := rfl
theorem xi_42_7 : xm_ins 42 7 = some (.bipush 8, 9, 0, 0, 8) := rfl
theorem xi_42_9 : xm_ins 42 9 = some (.if_icmp .ge 41, 12, 50, 0, 0) := rfl
theorem xi_42_12 : xm_ins 42 12 = some (.iconst 0, 13, 0, 0, 0) := rfl
theorem xi_42_13 : xm_ins 42 13 = some (.istore_n 3, 14, 3, 0, 0) := rfl
theorem xi_42_14 : xm_ins 42 14 = some (.iload_n 3, 15, 3, 0, 0) := rfl
theorem xi_42_15 : xm_ins 42 15 = some (.iconst 5, 16, 0, 0, 5) := rfl
theorem xi_42_16 : xm_ins 42 16 = some (.if_icmp .ge 34, 19, 50, 0, 0) := rfl
theorem xi_42_19 : xm_ins 42 19 = some (.aload_n 0, 20, 0, 0, 0) := rfl
theorem xi_42_20 : xm_ins 42 20 = some (.getfield 15, 23, 1, 1, 1) := rfl
theorem xi_42_23 : xm_ins 42 23 = some (.iload_n 1, 24, 1, 0, 0) := rfl
theorem xi_42_24 : xm_ins 42 24 = some (.iconst 5, 25, 0, 0, 5) := rfl
theorem xi_42_25 : xm_ins 42 25 = some (.imul, 26, 0, 0, 0) := rfl
theorem xi_42_26 : xm_ins 42 26 = some (.iload_n 3, 27, 3, 0, 0) := rfl
theorem xi_42_27 : xm_ins 42 27 = some (.iadd, 28, 0, 0, 0) := rfl
theorem xi_42_28 : xm_ins 42 28 = some (.iaload, 29, 0, 0, 0) := rfl
theorem xi_42_29 : xm_ins 42 29 = some (.istore 4, 31, 4, 0, 0) := rfl
theorem xi_42_31 : xm_ins 42 31 = some (.iload 4, 33, 4, 0, 0) := rfl
theorem xi_42_33 : xm_ins 42 33 = some (.iconst (-1), 34, 0, 0, (-1)) := rfl
theorem xi_42_34 : xm_ins 42 34 = some (.if_icmp .eq 10, 37, 44, 0, 0) := rfl
theorem xi_42_37 : xm_ins 42 37 = some (.iload_n 2, 38, 2, 0, 0) := rfl
theorem xi_42_38 : xm_ins 42 38 = some (.iconst 1, 39, 0, 0, 1) := rfl
theorem xi_42_39 : xm_ins 42 39 = some (.iload 4, 41, 4, 0, 0) := rfl
theorem xi_42_41 : xm_ins 42 41 = some (.ishl, 42, 0, 0, 0) := rfl
theorem xi_42_42 : xm_ins 42 42 = some (.ior, 43, 0, 0, 0) := rfl
theorem xi_42_43 : xm_ins 42 43 = some (.istore_n 2, 44, 2, 0, 0) := rfl
theorem xi_42_44 : xm_ins 42 44 = some (.iinc 3 1, 47, 3, 0, 1) := rfl
theorem xi_42_47 : xm_ins 42 47 = some (.goto (-33), 50, 14, 0, 0) := rfl
theorem xi_42_50 : xm_ins 42 50 = some (.iload_n 2, 51, 2, 0, 0) := rfl
theorem xi_42_51 : xm_ins 42 51 = some (.ireturn, 52, 0, 0, 0) := rfl
theorem xn_43 (pc : Nat) : xm_ins 43 pc = xm_find xt_43 pc := rfl
theorem xi_43_0 : xm_ins 43 0 = some (.iconst 0, 1, 0, 0, 0) := rfl
theorem xi_43_1 : xm_ins 43 1 = some (.istore_n 1, 2, 1, 0, 0) := rfl
theorem xi_43_2 : xm_ins 43 2 = some (.iconst 0, 3, 0, 0, 0) := rfl
theorem xi_43_3 : xm_ins 43 3 = some (.istore_n 2, 4, 2, 0, 0) := rfl
theorem xi_43_4 : xm_ins 43 4 = some (.iload_n 2, 5, 2, 0, 0) := rfl
theorem xi_43_5 : xm_ins 43 5 = some (.iconst 4, 6, 0, 0, 4) := rfl
theorem xi_43_6 : xm_ins 43 6 = some (.if_icmp .ge 22, 9, 28, 0, 0) := rfl
theorem xi_43_9 : xm_ins 43 9 = some (.aload_n 0, 10, 0, 0, 0) := rfl
theorem xi_43_10 : xm_ins 43 10 = some (.getfield 27, 13, 1, 5, 1) := rfl
theorem xi_43_13 : xm_ins 43 13 = some (.iload_n 2, 14, 2, 0, 0) := rfl
theorem xi_43_14 : xm_ins 43 14 = some (.iaload, 15, 0, 0, 0) := rfl
theorem xi_43_15 : xm_ins 43 15 = some (.iconst (-1), 16, 0, 0, (-1)) := rfl
theorem xi_43_16 : xm_ins 43 16 = some (.if_icmp .eq 6, 19, 22, 0, 0) := rfl
theorem xi_43_19 : xm_ins 43 19 = some (.iinc 1 1, 22, 1, 0, 1) := rfl
theorem xi_43_22 : xm_ins 43 22 = some (.iinc 2 1, 25, 2, 0, 1) := rfl
theorem xi_43_25 : xm_ins 43 25 = some (.goto (-21), 28, 4, 0, 0) := rfl
theorem xi_43_28 : xm_ins 43 28 = some (.iload_n 1, 29, 1, 0, 0) := rfl
theorem xi_43_29 : xm_ins 43 29 = some (.ireturn, 30, 0, 0, 0) := rfl
theorem xn_44 (pc : Nat) : xm_ins 44 pc = xm_find xt_44 pc := rfl
theorem xi_44_0 : xm_ins 44 0 = some (.iconst 0, 1, 0, 0, 0) := rfl
theorem xi_44_1 : xm_ins 44 1 = some (.istore_n 1, 2, 1, 0, 0) := rfl
theorem xi_44_2 : xm_ins 44 2 = some (.iconst 0, 3, 0, 0, 0) := rfl
theorem xi_44_3 : xm_ins 44 3 = some (.istore_n 2, 4, 2, 0, 0) := rfl
theorem xi_44_4 : xm_ins 44 4 = some (.iload_n 2, 5, 2, 0, 0) := rfl
theorem xi_44_5 : xm_ins 44 5 = some (.bipush 8, 7, 0, 0, 8) := rfl
theorem xi_44_7 : xm_ins 44 7 = some (.if_icmp .ge 22, 10, 29, 0, 0) := rfl
theorem xi_44_10 : xm_ins 44 10 = some (.aload_n 0, 11, 0, 0, 0) := rfl
theorem xi_44_11 : xm_ins 44 11 = some (.getfield 9, 14, 1, 0, 1) := rfl
theorem xi_44_14 : xm_ins 44 14 = some (.iload_n 2, 15, 2, 0, 0) := rfl
theorem xi_44_15 : xm_ins 44 15 = some (.iaload, 16, 0, 0, 0) := rfl
theorem xi_44_16 : xm_ins 44 16 = some (.iconst (-1), 17, 0, 0, (-1)) := rfl
theorem xi_44_17 : xm_ins 44 17 = some (.if_icmp .ne 6, 20, 23, 0, 0) := rfl
theorem xi_44_20 : xm_ins 44 20 = some (.iinc 1 1, 23, 1, 0, 1) := rfl
theorem xi_44_23 : xm_ins 44 23 = some (.iinc 2 1, 26, 2, 0, 1) := rfl
theorem xi_44_26 : xm_ins 44 26 = some (.goto (-22), 29, 4, 0, 0) := rfl
theorem xi_44_29 : xm_ins 44 29 = some (.iload_n 1, 30, 1, 0, 0) := rfl
theorem xi_44_30 : xm_ins 44 30 = some (.ireturn, 31, 0, 0, 0) := rfl
theorem xn_45 (pc : Nat) : xm_ins 45 pc = xm_find xt_45 pc := rfl
theorem xi_45_0 : xm_ins 45 0 = some (.iconst 0, 1, 0, 0, 0) := rfl
theorem xi_45_1 : xm_ins 45 1 = some (.istore_n 1, 2, 1, 0, 0) := rfl
theorem xi_45_2 : xm_ins 45 2 = some (.iconst 0, 3, 0, 0, 0) := rfl
theorem xi_45_3 : xm_ins 45 3 = some (.istore_n 2, 4, 2, 0, 0) := rfl
theorem xi_45_4 : xm_ins 45 4 = some (.iload_n 2, 5, 2, 0, 0) := rfl
theorem xi_45_5 : xm_ins 45 5 = some (.bipush 30, 7, 0, 0, 30) := rfl
theorem xi_45_7 : xm_ins 45 7 = some (.if_icmp .ge 34, 10, 41, 0, 0) := rfl
theorem xi_45_10 : xm_ins 45 10 = some (.iconst 0, 11, 0, 0, 0) := rfl
theorem xi_45_11 : xm_ins 45 11 = some (.istore_n 3, 12, 3, 0, 0) := rfl
theorem xi_45_12 : xm_ins 45 12 = some (.iload_n 3, 13, 3, 0, 0) := rfl
theorem xi_45_13 : xm_ins 45 13 = some (.iconst 3, 14, 0, 0, 3) := rfl
theorem xi_45_14 : xm_ins 45 14 = some (.if_icmp .ge 21, 17, 35, 0, 0) := rfl
theorem xi_45_17 : xm_ins 45 17 = some (.aload_n 0, 18, 0, 0, 0) := rfl
theorem xi_45_18 : xm_ins 45 18 = some (.iload_n 2, 19, 2, 0, 0) := rfl
theorem xi_45_19 : xm_ins 45 19 = some (.iload_n 3, 20, 3, 0, 0) := rfl
theorem xi_45_20 : xm_ins 45 20 = some (.invokevirtual 81, 23, 39, 3, 1) := rfl
theorem xi_45_23 : xm_ins 45 23 = some (.ifCond .eq 6, 26, 29, 0, 0) := rfl
theorem xi_45_26 : xm_ins 45 26 = some (.iinc 1 1, 29, 1, 0, 1) := rfl
theorem xi_45_29 : xm_ins 45 29 = some (.iinc 3 1, 32, 3, 0, 1) := rfl
theorem xi_45_32 : xm_ins 45 32 = some (.goto (-20), 35, 12, 0, 0) := rfl
theorem xi_45_35 : xm_ins 45 35 = some (.iinc 2 1, 38, 2, 0, 1) := rfl
theorem xi_45_38 : xm_ins 45 38 = some (.goto (-34), 41, 4, 0, 0) := rfl
theorem xi_45_41 : xm_ins 45 41 = some (.iload_n 1, 42, 1, 0, 0) := rfl
theorem xi_45_42 : xm_ins 45 42 = some (.ireturn, 43, 0, 0, 0) := rfl
theorem xn_46 (pc : Nat) : xm_ins 46 pc = xm_find xt_46 pc := rfl
theorem xi_46_0 : xm_ins 46 0 = some (.aload_n 0, 1, 0, 0, 0) := rfl
theorem xi_46_1 : xm_ins 46 1 = some (.iload_n 1, 2, 1, 0, 0) := rfl
theorem xi_46_2 : xm_ins 46 2 = some (.iload_n 1, 3, 1, 0, 0) := rfl
theorem xi_46_3 : xm_ins 46 3 = some (.invokevirtual 140, 6, 49, 3, 1) := rfl
theorem xi_46_6 : xm_ins 46 6 = some (.ireturn, 7, 0, 0, 0) := rfl
theorem xn_47 (pc : Nat) : xm_ins 47 pc = xm_find xt_47 pc := rfl
theorem xi_47_0 : xm_ins 47 0 = some (.aload_n 0, 1, 0, 0, 0) := rfl
theorem xi_47_1 : xm_ins 47 1 = some (.iconst 0, 2, 0, 0, 0) := rfl
theorem xi_47_2 : xm_ins 47 2 = some (.iconst 2, 3, 0, 0, 2) := rfl
theorem xi_47_3 : xm_ins 47 3 = some (.invokevirtual 140, 6, 49, 3, 1) := rfl
theorem xi_47_6 : xm_ins 47 6 = some (.ireturn, 7, 0, 0, 0) := rfl
theorem xn_48 (pc : Nat) : xm_ins 48 pc = xm_find xt_48 pc := rfl
theorem xi_48_0 : xm_ins 48 0 = some (.aload_n 0, 1, 0, 0, 0) := rfl
theorem xi_48_1 : xm_ins 48 1 = some (.iconst 0, 2, 0, 0, 0) := rfl
theorem xi_48_2 : xm_ins 48 2 = some (.iload_n 1, 3, 1, 0, 0) := rfl
theorem xi_48_3 : xm_ins 48 3 = some (.invokevirtual 140, 6, 49, 3, 1) := rfl
theorem xi_48_6 : xm_ins 48 6 = some (.ireturn, 7, 0, 0, 0) := rfl
theorem xn_49 (pc : Nat) : xm_ins 49 pc = xm_find xt_49 pc := rfl
theorem xi_49_0 : xm_ins 49 0 = some (.iconst 0, 1, 0, 0, 0) := rfl
theorem xi_49_1 : xm_ins 49 1 = some (.istore_n 3, 2, 3, 0, 0) := rfl
theorem xi_49_2 : xm_ins 49 2 = some (.iconst 0, 3, 0, 0, 0) := rfl
theorem xi_49_3 : xm_ins 49 3 = some (.istore 4, 5, 4, 0, 0) := rfl
theorem xi_49_5 : xm_ins 49 5 = some (.iload 4, 7, 4, 0, 0) := rfl
theorem xi_49_7 : xm_ins 49 7 = some (.bipush 30, 9, 0, 0, 30) := rfl
theorem xi_49_9 : xm_ins 49 9 = some (.if_icmp .ge 54, 12, 63, 0, 0) := rfl
theorem xi_49_12 : xm_ins 49 12 = some (.aload_n 0, 13, 0, 0, 0) := rfl
theorem xi_49_13 : xm_ins 49 13 = some (.getfield 18, 16, 1, 2, 1) := rfl
theorem xi_49_16 : xm_ins 49 16 = some (.iload 4, 18, 4, 0, 0) := rfl
theorem xi_49_18 : xm_ins 49 18 = some (.iaload, 19, 0, 0, 0) := rfl
theorem xi_49_19 : xm_ins 49 19 = some (.istore 5, 21, 5, 0, 0) := rfl
theorem xi_49_21 : xm_ins 49 21 = some (.iload 5, 23, 5, 0, 0) := rfl
theorem xi_49_23 : xm_ins 49 23 = some (.iconst (-1), 24, 0, 0, (-1)) := rfl
theorem xi_49_24 : xm_ins 49 24 = some (.if_icmp .eq 33, 27, 57, 0, 0) := rfl
theorem xi_49_27 : xm_ins 49 27 = some (.aload_n 0, 28, 0, 0, 0) := rfl
theorem xi_49_28 : xm_ins 49 28 = some (.getfield 9, 31, 1, 0, 1) := rfl
theorem xi_49_31 : xm_ins 49 31 = some (.iload 5, 33, 5, 0, 0) := rfl
theorem xi_49_33 : xm_ins 49 33 = some (.iconst 5, 34, 0, 0, 5) := rfl
theorem xi_49_34 : xm_ins 49 34 = some (.idiv, 35, 0, 0, 0) := rfl
theorem xi_49_35 : xm_ins 49 35 = some (.iaload, 36, 0, 0, 0) := rfl
theorem xi_49_36 : xm_ins 49 36 = some (.istore 6, 38, 6, 0, 0) := rfl
theorem xi_49_38 : xm_ins 49 38 = some (.iload 6, 40, 6, 0, 0) := rfl
theorem xi_49_40 : xm_ins 49 40 = some (.iload_n 1, 41, 1, 0, 0) := rfl
theorem xi_49_41 : xm_ins 49 41 = some (.if_icmp .lt 16, 44, 57, 0, 0) := rfl
theorem xi_49_44 : xm_ins 49 44 = some (.iload 6, 46, 6, 0, 0) := rfl
theorem xi_49_46 : xm_ins 49 46 = some (.iload_n 2, 47, 2, 0, 0) := rfl
theorem xi_49_47 : xm_ins 49 47 = some (.if_icmp .gt 10, 50, 57, 0, 0) := rfl
theorem xi_49_50 : xm_ins 49 50 = some (.iload_n 3, 51, 3, 0, 0) := rfl
theorem xi_49_51 : xm_ins 49 51 = some (.iconst 1, 52, 0, 0, 1) := rfl
theorem xi_49_52 : xm_ins 49 52 = some (.iload 4, 54, 4, 0, 0) := rfl
theorem xi_49_54 : xm_ins 49 54 = some (.ishl, 55, 0, 0, 0) := rfl
theorem xi_49_55 : xm_ins 49 55 = some (.ior, 56, 0, 0, 0) := rfl
theorem xi_49_56 : xm_ins 49 56 = some (.istore_n 3, 57, 3, 0, 0) := rfl
theorem xi_49_57 : xm_ins 49 57 = some (.iinc 4 1, 60, 4, 0, 1) := rfl
theorem xi_49_60 : xm_ins 49 60 = some (.goto (-55), 63, 5, 0, 0) := rfl
theorem xi_49_63 : xm_ins 49 63 = some (.iload_n 3, 64, 3, 0, 0) := rfl
theorem xi_49_64 : xm_ins 49 64 = some (.ireturn, 65, 0, 0, 0) := rfl
theorem xn_50 (pc : Nat) : xm_ins 50 pc = xm_find xt_50 pc := rfl
theorem xi_50_0 : xm_ins 50 0 = some (.aload_n 0, 1, 0, 0, 0) := rfl
theorem xi_50_1 : xm_ins 50 1 = some (.getfield 30, 4, 1, 6, 0) := rfl
theorem xi_50_4 : xm_ins 50 4 = some (.istore_n 1, 5, 1, 0, 0) := rfl
theorem xi_50_5 : xm_ins 50 5 = some (.iconst 0, 6, 0, 0, 0) := rfl
theorem xi_50_6 : xm_ins 50 6 = some (.istore_n 2, 7, 2, 0, 0) := rfl
theorem xi_50_7 : xm_ins 50 7 = some (.iload_n 2, 8, 2, 0, 0) := rfl
theorem xi_50_8 : xm_ins 50 8 = some (.iconst 4, 9, 0, 0, 4) := rfl
theorem xi_50_9 : xm_ins 50 9 = some (.if_icmp .ge 30, 12, 39, 0, 0) := rfl
theorem xi_50_12 : xm_ins 50 12 = some (.aload_n 0, 13, 0, 0, 0) := rfl
theorem xi_50_13 : xm_ins 50 13 = some (.getfield 27, 16, 1, 5, 1) := rfl
theorem xi_50_16 : xm_ins 50 16 = some (.iload_n 2, 17, 2, 0, 0) := rfl
theorem xi_50_17 : xm_ins 50 17 = some (.iaload, 18, 0, 0, 0) := rfl
theorem xi_50_18 : xm_ins 50 18 = some (.iconst (-1), 19, 0, 0, (-1)) := rfl
theorem xi_50_19 : xm_ins 50 19 = some (.if_icmp .eq 14, 22, 33, 0, 0) := rfl
theorem xi_50_22 : xm_ins 50 22 = some (.iload_n 1, 23, 1, 0, 0) := rfl
theorem xi_50_23 : xm_ins 50 23 = some (.iconst 1, 24, 0, 0, 1) := rfl
theorem xi_50_24 : xm_ins 50 24 = some (.aload_n 0, 25, 0, 0, 0) := rfl
theorem xi_50_25 : xm_ins 50 25 = some (.getfield 27, 28, 1, 5, 1) := rfl
theorem xi_50_28 : xm_ins 50 28 = some (.iload_n 2, 29, 2, 0, 0) := rfl
theorem xi_50_29 : xm_ins 50 29 = some (.iaload, 30, 0, 0, 0) := rfl
theorem xi_50_30 : xm_ins 50 30 = some (.ishl, 31, 0, 0, 0) := rfl
theorem xi_50_31 : xm_ins 50 31 = some (.ior, 32, 0, 0, 0) := rfl
theorem xi_50_32 : xm_ins 50 32 = some (.istore_n 1, 33, 1, 0, 0) := rfl
theorem xi_50_33 : xm_ins 50 33 = some (.iinc 2 1, 36, 2, 0, 1) := rfl
theorem xi_50_36 : xm_ins 50 36 = some (.goto (-29), 39, 7, 0, 0) := rfl
theorem xi_50_39 : xm_ins 50 39 = some (.iload_n 1, 40, 1, 0, 0) := rfl
theorem xi_50_40 : xm_ins 50 40 = some (.ireturn, 41, 0, 0, 0) := rfl
theorem xn_51 (pc : Nat) : xm_ins 51 pc = xm_find xt_51 pc := rfl
theorem xi_51_0 : xm_ins 51 0 = some (.aload_n 0, 1, 0, 0, 0) := rfl
theorem xi_51_1 : xm_ins 51 1 = some (.aload_n 0, 2, 0, 0, 0) := rfl
theorem xi_51_2 : xm_ins 51 2 = some (.invokevirtual 143, 5, 50, 1, 1) := rfl
theorem xi_51_5 : xm_ins 51 5 = some (.aload_n 0, 6, 0, 0, 0) := rfl
theorem xi_51_6 : xm_ins 51 6 = some (.invokevirtual 116, 9, 47, 1, 1) := rfl
theorem xi_51_9 : xm_ins 51 9 = some (.invokevirtual 146, 12, 54, 3, 1) := rfl
theorem xi_51_12 : xm_ins 51 12 = some (.ireturn, 13, 0, 0, 0) := rfl
theorem xn_52 (pc : Nat) : xm_ins 52 pc = xm_find xt_52 pc := rfl
theorem xi_52_0 : xm_ins 52 0 = some (.aload_n 0, 1, 0, 0, 0) := rfl
theorem xi_52_1 : xm_ins 52 1 = some (.iload_n 1, 2, 1, 0, 0) := rfl
theorem xi_52_2 : xm_ins 52 2 = some (.invokevirtual 100, 5, 48, 2, 1) := rfl
theorem xi_52_5 : xm_ins 52 5 = some (.istore_n 2, 6, 2, 0, 0) := rfl
theorem xi_52_6 : xm_ins 52 6 = some (.aload_n 0, 7, 0, 0, 0) := rfl
theorem xi_52_7 : xm_ins 52 7 = some (.aload_n 0, 8, 0, 0, 0) := rfl
theorem xi_52_8 : xm_ins 52 8 = some (.invokevirtual 116, 11, 47, 1, 1) := rfl
theorem xi_52_11 : xm_ins 52 11 = some (.iload_n 2, 12, 2, 0, 0) := rfl
theorem xi_52_12 : xm_ins 52 12 = some (.iconst (-1), 13, 0, 0, (-1)) := rfl
theorem xi_52_13 : xm_ins 52 13 = some (.ixor, 14, 0, 0, 0) := rfl
theorem xi_52_14 : xm_ins 52 14 = some (.iand, 15, 0, 0, 0) := rfl
theorem xi_52_15 : xm_ins 52 15 = some (.invokevirtual 149, 18, 53, 2, 1) := rfl
theorem xi_52_18 : xm_ins 52 18 = some (.istore_n 3, 19, 3, 0, 0) := rfl
theorem xi_52_19 : xm_ins 52 19 = some (.aload_n 0, 20, 0, 0, 0) := rfl
theorem xi_52_20 : xm_ins 52 20 = some (.aload_n 0, 21, 0, 0, 0) := rfl
theorem xi_52_21 : xm_ins 52 21 = some (.invokevirtual 143, 24, 50, 1, 1) := rfl
theorem xi_52_24 : xm_ins 52 24 = some (.iload_n 3, 25, 3, 0, 0) := rfl
theorem xi_52_25 : xm_ins 52 25 = some (.ior, 26, 0, 0, 0) := rfl
theorem xi_52_26 : xm_ins 52 26 = some (.iload_n 2, 27, 2, 0, 0) := rfl
theorem xi_52_27 : xm_ins 52 27 = some (.invokevirtual 146, 30, 54, 3, 1) := rfl
theorem xi_52_30 : xm_ins 52 30 = some (.ireturn, 31, 0, 0, 0) := rfl
theorem xn_53 (pc : Nat) : xm_ins 53 pc = xm_find xt_53 pc := rfl
theorem xi_53_0 : xm_ins 53 0 = some (.iconst 0, 1, 0, 0, 0) := rfl
theorem xi_53_1 : xm_ins 53 1 = some (.istore_n 2, 2, 2, 0, 0) := rfl
theorem xi_53_2 : xm_ins 53 2 = some (.iconst 0, 3, 0, 0, 0) := rfl
theorem xi_53_3 : xm_ins 53 3 = some (.istore_n 3, 4, 3, 0, 0) := rfl
theorem xi_53_4 : xm_ins 53 4 = some (.iload_n 3, 5, 3, 0, 0) := rfl
theorem xi_53_5 : xm_ins 53 5 = some (.bipush 30, 7, 0, 0, 30) := rfl
theorem xi_53_7 : xm_ins 53 7 = some (.if_icmp .ge 58, 10, 65, 0, 0) := rfl
theorem xi_53_10 : xm_ins 53 10 = some (.iload_n 1, 11, 1, 0, 0) := rfl
theorem xi_53_11 : xm_ins 53 11 = some (.iload_n 3, 12, 3, 0, 0) := rfl
theorem xi_53_12 : xm_ins 53 12 = some (.ishr, 13, 0, 0, 0) := rfl
theorem xi_53_13 : xm_ins 53 13 = some (.iconst 1, 14, 0, 0, 1) := rfl
theorem xi_53_14 : xm_ins 53 14 = some (.iand, 15, 0, 0, 0) := rfl
theorem xi_53_15 : xm_ins 53 15 = some (.ifCond .eq 44, 18, 59, 0, 0) := rfl
theorem xi_53_18 : xm_ins 53 18 = some (.iconst 0, 19, 0, 0, 0) := rfl
theorem xi_53_19 : xm_ins 53 19 = some (.istore 4, 21, 4, 0, 0) := rfl
theorem xi_53_21 : xm_ins 53 21 = some (.iload 4, 23, 4, 0, 0) := rfl
theorem xi_53_23 : xm_ins 53 23 = some (.iconst 3, 24, 0, 0, 3) := rfl
theorem xi_53_24 : xm_ins 53 24 = some (.if_icmp .ge 35, 27, 59, 0, 0) := rfl
theorem xi_53_27 : xm_ins 53 27 = some (.aload_n 0, 28, 0, 0, 0) := rfl
theorem xi_53_28 : xm_ins 53 28 = some (.getfield 21, 31, 1, 3, 1) := rfl
theorem xi_53_31 : xm_ins 53 31 = some (.iload_n 3, 32, 3, 0, 0) := rfl
theorem xi_53_32 : xm_ins 53 32 = some (.iconst 3, 33, 0, 0, 3) := rfl
theorem xi_53_33 : xm_ins 53 33 = some (.imul, 34, 0, 0, 0) := rfl
theorem xi_53_34 : xm_ins 53 34 = some (.iload 4, 36, 4, 0, 0) := rfl
theorem xi_53_36 : xm_ins 53 36 = some (.iadd, 37, 0, 0, 0) := rfl
theorem xi_53_37 : xm_ins 53 37 = some (.iaload, 38, 0, 0, 0) := rfl
theorem xi_53_38 : xm_ins 53 38 = some (.istore 5, 40, 5, 0, 0) := rfl
theorem xi_53_40 : xm_ins 53 40 = some (.iload 5, 42, 5, 0, 0) := rfl
theorem xi_53_42 : xm_ins 53 42 = some (.iconst (-1), 43, 0, 0, (-1)) := rfl
theorem xi_53_43 : xm_ins 53 43 = some (.if_icmp .eq 10, 46, 53, 0, 0) := rfl
theorem xi_53_46 : xm_ins 53 46 = some (.iload_n 2, 47, 2, 0, 0) := rfl
theorem xi_53_47 : xm_ins 53 47 = some (.iconst 1, 48, 0, 0, 1) := rfl
theorem xi_53_48 : xm_ins 53 48 = some (.iload 5, 50, 5, 0, 0) := rfl
theorem xi_53_50 : xm_ins 53 50 = some (.ishl, 51, 0, 0, 0) := rfl
theorem xi_53_51 : xm_ins 53 51 = some (.ior, 52, 0, 0, 0) := rfl
theorem xi_53_52 : xm_ins 53 52 = some (.istore_n 2, 53, 2, 0, 0) := rfl
theorem xi_53_53 : xm_ins 53 53 = some (.iinc 4 1, 56, 4, 0, 1) := rfl
theorem xi_53_56 : xm_ins 53 56 = some (.goto (-35), 59, 21, 0, 0) := rfl
theorem xi_53_59 : xm_ins 53 59 = some (.iinc 3 1, 62, 3, 0, 1) := rfl
theorem xi_53_62 : xm_ins 53 62 = some (.goto (-58), 65, 4, 0, 0) := rfl
theorem xi_53_65 : xm_ins 53 65 = some (.iload_n 2, 66, 2, 0, 0) := rfl
theorem xi_53_66 : xm_ins 53 66 = some (.ireturn, 67, 0, 0, 0) := rfl
theorem xn_54 (pc : Nat) : xm_ins 54 pc = xm_find xt_54 pc := rfl
theorem xi_54_0 : xm_ins 54 0 = some (.iload_n 1, 1, 1, 0, 0) := rfl
theorem xi_54_1 : xm_ins 54 1 = some (.iload_n 2, 2, 2, 0, 0) := rfl
theorem xi_54_2 : xm_ins 54 2 = some (.iand, 3, 0, 0, 0) := rfl
theorem xi_54_3 : xm_ins 54 3 = some (.istore_n 3, 4, 3, 0, 0) := rfl
theorem xi_54_4 : xm_ins 54 4 = some (.iload_n 3, 5, 3, 0, 0) := rfl
theorem xi_54_5 : xm_ins 54 5 = some (.istore 4, 7, 4, 0, 0) := rfl
theorem xi_54_7 : xm_ins 54 7 = some (.iconst 0, 8, 0, 0, 0) := rfl
theorem xi_54_8 : xm_ins 54 8 = some (.istore 5, 10, 5, 0, 0) := rfl
theorem xi_54_10 : xm_ins 54 10 = some (.iload 5, 12, 5, 0, 0) := rfl
theorem xi_54_12 : xm_ins 54 12 = some (.bipush 30, 14, 0, 0, 30) := rfl
theorem xi_54_14 : xm_ins 54 14 = some (.if_icmp .ge 33, 17, 47, 0, 0) := rfl
theorem xi_54_17 : xm_ins 54 17 = some (.iload 4, 19, 4, 0, 0) := rfl
theorem xi_54_19 : xm_ins 54 19 = some (.ifCond .eq 28, 22, 47, 0, 0) := rfl
theorem xi_54_22 : xm_ins 54 22 = some (.aload_n 0, 23, 0, 0, 0) := rfl
theorem xi_54_23 : xm_ins 54 23 = some (.iload 4, 25, 4, 0, 0) := rfl
theorem xi_54_25 : xm_ins 54 25 = some (.invokevirtual 149, 28, 53, 2, 1) := rfl
theorem xi_54_28 : xm_ins 54 28 = some (.iload_n 2, 29, 2, 0, 0) := rfl
theorem xi_54_29 : xm_ins 54 29 = some (.iand, 30, 0, 0, 0) := rfl
theorem xi_54_30 : xm_ins 54 30 = some (.iload_n 3, 31, 3, 0, 0) := rfl
theorem xi_54_31 : xm_ins 54 31 = some (.iconst (-1), 32, 0, 0, (-1)) := rfl
theorem xi_54_32 : xm_ins 54 32 = some (.ixor, 33, 0, 0, 0) := rfl
theorem xi_54_33 : xm_ins 54 33 = some (.iand, 34, 0, 0, 0) := rfl
theorem xi_54_34 : xm_ins 54 34 = some (.istore 4, 36, 4, 0, 0) := rfl
theorem xi_54_36 : xm_ins 54 36 = some (.iload_n 3, 37, 3, 0, 0) := rfl
theorem xi_54_37 : xm_ins 54 37 = some (.iload 4, 39, 4, 0, 0) := rfl
theorem xi_54_39 : xm_ins 54 39 = some (.ior, 40, 0, 0, 0) := rfl
theorem xi_54_40 : xm_ins 54 40 = some (.istore_n 3, 41, 3, 0, 0) := rfl
theorem xi_54_41 : xm_ins 54 41 = some (.iinc 5 1, 44, 5, 0, 1) := rfl
theorem xi_54_44 : xm_ins 54 44 = some (.goto (-34), 47, 10, 0, 0) := rfl
theorem xi_54_47 : xm_ins 54 47 = some (.iload_n 3, 48, 3, 0, 0) := rfl
theorem xi_54_48 : xm_ins 54 48 = some (.ireturn, 49, 0, 0, 0) := rfl
theorem xn_55 (pc : Nat) : xm_ins 55 pc = xm_find xt_55 pc := rfl
theorem xi_55_0 : xm_ins 55 0 = some (.aload_n 0, 1, 0, 0, 0) := rfl
theorem xi_55_1 : xm_ins 55 1 = some (.invokespecial 3, 4, 1000, 0, 0) := rfl
theorem xi_55_4 : xm_ins 55 4 = some (.aload_n 0, 5, 0, 0, 0) := rfl
theorem xi_55_5 : xm_ins 55 5 = some (.bipush 6, 7, 0, 0, 6) := rfl
theorem xi_55_7 : xm_ins 55 7 = some (.anewarray 9, 10, 0, 0, 0) := rfl
theorem xi_55_10 : xm_ins 55 10 = some (.putfield 11, 13, 2, 0, 1) := rfl
theorem xi_55_13 : xm_ins 55 13 = some (.aload_n 0, 14, 0, 0, 0) := rfl
theorem xi_55_14 : xm_ins 55 14 = some (.new 15, 17, 0, 6, 0) := rfl
theorem xi_55_17 : xm_ins 55 17 = some (.dup, 18, 0, 0, 0) := rfl
theorem xi_55_18 : xm_ins 55 18 = some (.invokespecial 17, 21, 0, 1, 0) := rfl
theorem xi_55_21 : xm_ins 55 21 = some (.putfield 18, 24, 2, 1, 1) := rfl
theorem xi_55_24 : xm_ins 55 24 = some (.aload_n 0, 25, 0, 0, 0) := rfl
theorem xi_55_25 : xm_ins 55 25 = some (.iconst 0, 26, 0, 0, 0) := rfl
theorem xi_55_26 : xm_ins 55 26 = some (.putfield 22, 29, 2, 2, 0) := rfl
theorem xi_55_29 : xm_ins 55 29 = some (.aload_n 0, 30, 0, 0, 0) := rfl
theorem xi_55_30 : xm_ins 55 30 = some (.iconst 0, 31, 0, 0, 0) := rfl
theorem xi_55_31 : xm_ins 55 31 = some (.putfield 26, 34, 2, 3, 0) := rfl
theorem xi_55_34 : xm_ins 55 34 = some (.iconst 0, 35, 0, 0, 0) := rfl
theorem xi_55_35 : xm_ins 55 35 = some (.istore_n 1, 36, 1, 0, 0) := rfl
theorem xi_55_36 : xm_ins 55 36 = some (.iload_n 1, 37, 1, 0, 0) := rfl
theorem xi_55_37 : xm_ins 55 37 = some (.bipush 6, 39, 0, 0, 6) := rfl
theorem xi_55_39 : xm_ins 55 39 = some (.if_icmp .ge 22, 42, 61, 0, 0) := rfl
theorem xi_55_42 : xm_ins 55 42 = some (.aload_n 0, 43, 0, 0, 0) := rfl
theorem xi_55_43 : xm_ins 55 43 = some (.getfield 11, 46, 2, 0, 1) := rfl
theorem xi_55_46 : xm_ins 55 46 = some (.iload_n 1, 47, 1, 0, 0) := rfl
theorem xi_55_47 : xm_ins 55 47 = some (.new 9, 50, 1, 11, 0) := rfl
theorem xi_55_50 : xm_ins 55 50 = some (.dup, 51, 0, 0, 0) := rfl
theorem xi_55_51 : xm_ins 55 51 = some (.invokespecial 29, 54, 11, 1, 1) := rfl
theorem xi_55_54 : xm_ins 55 54 = some (.aastore, 55, 0, 0, 0) := rfl
theorem xi_55_55 : xm_ins 55 55 = some (.iinc 1 1, 58, 1, 0, 1) := rfl
theorem xi_55_58 : xm_ins 55 58 = some (.goto (-22), 61, 36, 0, 0) := rfl
theorem xi_55_61 : xm_ins 55 61 = some (.return_, 62, 0, 0, 0) := rfl
theorem xn_56 (pc : Nat) : xm_ins 56 pc = xm_find xt_56 pc := rfl
theorem xi_56_0 : xm_ins 56 0 = some (.aload_n 0, 1, 0, 0, 0) := rfl
theorem xi_56_1 : xm_ins 56 1 = some (.aload_n 0, 2, 0, 0, 0) := rfl
theorem xi_56_2 : xm_ins 56 2 = some (.invokevirtual 30, 5, 80, 1, 2) := rfl
theorem xi_56_5 : xm_ins 56 5 = some (.invokevirtual 34, 8, 14, 1, 1) := rfl
theorem xi_56_8 : xm_ins 56 8 = some (.invokevirtual 38, 11, 81, 2, 2) := rfl
theorem xi_56_11 : xm_ins 56 11 = some (.ireturn, 12, 0, 0, 0) := rfl
theorem xn_57 (pc : Nat) : xm_ins 57 pc = xm_find xt_57 pc := rfl
theorem xi_57_0 : xm_ins 57 0 = some (.aload_n 0, 1, 0, 0, 0) := rfl
theorem xi_57_1 : xm_ins 57 1 = some (.aload_n 0, 2, 0, 0, 0) := rfl
theorem xi_57_2 : xm_ins 57 2 = some (.invokevirtual 30, 5, 80, 1, 2) := rfl
theorem xi_57_5 : xm_ins 57 5 = some (.iload_n 1, 6, 1, 0, 0) := rfl
theorem xi_57_6 : xm_ins 57 6 = some (.iload_n 2, 7, 2, 0, 0) := rfl
theorem xi_57_7 : xm_ins 57 7 = some (.invokevirtual 42, 10, 15, 3, 1) := rfl
theorem xi_57_10 : xm_ins 57 10 = some (.invokevirtual 38, 13, 81, 2, 2) := rfl
theorem xi_57_13 : xm_ins 57 13 = some (.ireturn, 14, 0, 0, 0) := rfl
theorem xn_58 (pc : Nat) : xm_ins 58 pc = xm_find xt_58 pc := rfl
theorem xi_58_0 : xm_ins 58 0 = some (.aload_n 0, 1, 0, 0, 0) := rfl
theorem xi_58_1 : xm_ins 58 1 = some (.aload_n 0, 2, 0, 0, 0) := rfl
theorem xi_58_2 : xm_ins 58 2 = some (.invokevirtual 30, 5, 80, 1, 2) := rfl
theorem xi_58_5 : xm_ins 58 5 = some (.iload_n 1, 6, 1, 0, 0) := rfl
theorem xi_58_6 : xm_ins 58 6 = some (.invokevirtual 46, 9, 16, 2, 1) := rfl
theorem xi_58_9 : xm_ins 58 9 = some (.invokevirtual 38, 12, 81, 2, 2) := rfl
theorem xi_58_12 : xm_ins 58 12 = some (.ireturn, 13, 0, 0, 0) := rfl
theorem xn_59 (pc : Nat) : xm_ins 59 pc = xm_find xt_59 pc := rfl
theorem xi_59_0 : xm_ins 59 0 = some (.aload_n 0, 1, 0, 0, 0) := rfl
theorem xi_59_1 : xm_ins 59 1 = some (.aload_n 0, 2, 0, 0, 0) := rfl
theorem xi_59_2 : xm_ins 59 2 = some (.invokevirtual 30, 5, 80, 1, 2) := rfl
theorem xi_59_5 : xm_ins 59 5 = some (.iload_n 1, 6, 1, 0, 0) := rfl
theorem xi_59_6 : xm_ins 59 6 = some (.iload_n 2, 7, 2, 0, 0) := rfl
theorem xi_59_7 : xm_ins 59 7 = some (.iload_n 3, 8, 3, 0, 0) := rfl
theorem xi_59_8 : xm_ins 59 8 = some (.invokevirtual 49, 11, 17, 4, 1) := rfl
theorem xi_59_11 : xm_ins 59 11 = some (.invokevirtual 38, 14, 81, 2, 2) := rfl
theorem xi_59_14 : xm_ins 59 14 = some (.ireturn, 15, 0, 0, 0) := rfl
theorem xn_60 (pc : Nat) : xm_ins 60 pc = xm_find xt_60 pc := rfl
theorem xi_60_0 : xm_ins 60 0 = some (.aload_n 0, 1, 0, 0, 0) := rfl
theorem xi_60_1 : xm_ins 60 1 = some (.aload_n 0, 2, 0, 0, 0) := rfl
theorem xi_60_2 : xm_ins 60 2 = some (.invokevirtual 30, 5, 80, 1, 2) := rfl
theorem xi_60_5 : xm_ins 60 5 = some (.iload_n 1, 6, 1, 0, 0) := rfl
theorem xi_60_6 : xm_ins 60 6 = some (.iload_n 2, 7, 2, 0, 0) := rfl
theorem xi_60_7 : xm_ins 60 7 = some (.invokevirtual 53, 10, 18, 3, 1) := rfl
theorem xi_60_10 : xm_ins 60 10 = some (.invokevirtual 38, 13, 81, 2, 2) := rfl
theorem xi_60_13 : xm_ins 60 13 = some (.ireturn, 14, 0, 0, 0) := rfl
theorem xn_61 (pc : Nat) : xm_ins 61 pc = xm_find xt_61 pc := rfl
theorem xi_61_0 : xm_ins 61 0 = some (.aload_n 0, 1, 0, 0, 0) := rfl
theorem xi_61_1 : xm_ins 61 1 = some (.aload_n 0, 2, 0, 0, 0) := rfl
theorem xi_61_2 : xm_ins 61 2 = some (.invokevirtual 30, 5, 80, 1, 2) := rfl
theorem xi_61_5 : xm_ins 61 5 = some (.iload_n 1, 6, 1, 0, 0) := rfl
theorem xi_61_6 : xm_ins 61 6 = some (.invokevirtual 56, 9, 19, 2, 1) := rfl
theorem xi_61_9 : xm_ins 61 9 = some (.invokevirtual 38, 12, 81, 2, 2) := rfl
theorem xi_61_12 : xm_ins 61 12 = some (.ireturn, 13, 0, 0, 0) := rfl
theorem xn_62 (pc : Nat) : xm_ins 62 pc = xm_find xt_62 pc := rfl
theorem xi_62_0 : xm_ins 62 0 = some (.aload_n 0, 1, 0, 0, 0) := rfl
theorem xi_62_1 : xm_ins 62 1 = some (.aload_n 0, 2, 0, 0, 0) := rfl
theorem xi_62_2 : xm_ins 62 2 = some (.invokevirtual 30, 5, 80, 1, 2) := rfl
theorem xi_62_5 : xm_ins 62 5 = some (.iload_n 1, 6, 1, 0, 0) := rfl
theorem xi_62_6 : xm_ins 62 6 = some (.invokevirtual 59, 9, 20, 2, 1) := rfl
theorem xi_62_9 : xm_ins 62 9 = some (.invokevirtual 38, 12, 81, 2, 2) := rfl
theorem xi_62_12 : xm_ins 62 12 = some (.ireturn, 13, 0, 0, 0) := rfl
theorem xn_63 (pc : Nat) : xm_ins 63 pc = xm_find xt_63 pc := rfl
theorem xi_63_0 : xm_ins 63 0 = some (.aload_n 0, 1, 0, 0, 0) := rfl
theorem xi_63_1 : xm_ins 63 1 = some (.aload_n 0, 2, 0, 0, 0) := rfl
theorem xi_63_2 : xm_ins 63 2 = some (.invokevirtual 30, 5, 80, 1, 2) := rfl
theorem xi_63_5 : xm_ins 63 5 = some (.iload_n 1, 6, 1, 0, 0) := rfl
theorem xi_63_6 : xm_ins 63 6 = some (.invokevirtual 62, 9, 21, 2, 1) := rfl
theorem xi_63_9 : xm_ins 63 9 = some (.invokevirtual 38, 12, 81, 2, 2) := rfl
theorem xi_63_12 : xm_ins 63 12 = some (.ireturn, 13, 0, 0, 0) := rfl
theorem xn_64 (pc : Nat) : xm_ins 64 pc = xm_find xt_64 pc := rfl
theorem xi_64_0 : xm_ins 64 0 = some (.aload_n 0, 1, 0, 0, 0) := rfl
theorem xi_64_1 : xm_ins 64 1 = some (.aload_n 0, 2, 0, 0, 0) := rfl
theorem xi_64_2 : xm_ins 64 2 = some (.invokevirtual 30, 5, 80, 1, 2) := rfl
theorem xi_64_5 : xm_ins 64 5 = some (.invokevirtual 65, 8, 22, 1, 1) := rfl
theorem xi_64_8 : xm_ins 64 8 = some (.invokevirtual 38, 11, 81, 2, 2) := rfl
theorem xi_64_11 : xm_ins 64 11 = some (.ireturn, 12, 0, 0, 0) := rfl
theorem xn_65 (pc : Nat) : xm_ins 65 pc = xm_find xt_65 pc := rfl
theorem xi_65_0 : xm_ins 65 0 = some (.aload_n 0, 1, 0, 0, 0) := rfl
theorem xi_65_1 : xm_ins 65 1 = some (.invokevirtual 68, 4, 79, 1, 2) := rfl
theorem xi_65_4 : xm_ins 65 4 = some (.astore_n 3, 5, 3, 0, 0) := rfl
theorem xi_65_5 : xm_ins 65 5 = some (.aload_n 3, 6, 3, 0, 0) := rfl
theorem xi_65_6 : xm_ins 65 6 = some (.iload_n 1, 7, 1, 0, 0) := rfl
theorem xi_65_7 : xm_ins 65 7 = some (.invokevirtual 71, 10, 33, 2, 1) := rfl
theorem xi_65_10 : xm_ins 65 10 = some (.ifCond .ne 6, 13, 16, 0, 0) := rfl
theorem xi_65_13 : xm_ins 65 13 = some (.ldc 75, 15, 0, 0, (-1000001)) := rfl
theorem xi_65_15 : xm_ins 65 15 = some (.ireturn, 16, 0, 0, 0) := rfl
theorem xi_65_16 : xm_ins 65 16 = some (.iload_n 2, 17, 2, 0, 0) := rfl
theorem xi_65_17 : xm_ins 65 17 = some (.tableswitch 134 0 9 #[55, 69, 78, 87, 104, 104, 104, 116, 122, 128], 72, 0, 0, 0) := rfl
theorem xi_65_72 : xm_ins 65 72 = some (.aload_n 3, 73, 3, 0, 0) := rfl
theorem xi_65_73 : xm_ins 65 73 = some (.iload_n 1, 74, 1, 0, 0) := rfl
theorem xi_65_74 : xm_ins 65 74 = some (.invokevirtual 76, 77, 34, 2, 1) := rfl
theorem xi_65_77 : xm_ins 65 77 = some (.ifCond .eq 7, 80, 84, 0, 0) := rfl
theorem xi_65_80 : xm_ins 65 80 = some (.iconst 1, 81, 0, 0, 1) := rfl
theorem xi_65_81 : xm_ins 65 81 = some (.goto 4, 84, 85, 0, 0) := rfl
theorem xi_65_84 : xm_ins 65 84 = some (.iconst 0, 85, 0, 0, 0) := rfl
theorem xi_65_85 : xm_ins 65 85 = some (.ireturn, 86, 0, 0, 0) := rfl
theorem xi_65_86 : xm_ins 65 86 = some (.aload_n 3, 87, 3, 0, 0) := rfl
theorem xi_65_87 : xm_ins 65 87 = some (.iload_n 1, 88, 1, 0, 0) := rfl
theorem xi_65_88 : xm_ins 65 88 = some (.invokevirtual 79, 91, 35, 2, 1) := rfl
theorem xi_65_91 : xm_ins 65 91 = some (.invokestatic 82, 94, 82, 1, 2) := rfl
theorem xi_65_94 : xm_ins 65 94 = some (.ireturn, 95, 0, 0, 0) := rfl
theorem xi_65_95 : xm_ins 65 95 = some (.aload_n 3, 96, 3, 0, 0) := rfl
theorem xi_65_96 : xm_ins 65 96 = some (.iload_n 1, 97, 1, 0, 0) := rfl
theorem xi_65_97 : xm_ins 65 97 = some (.invokevirtual 85, 100, 36, 2, 1) := rfl
theorem xi_65_100 : xm_ins 65 100 = some (.invokestatic 82, 103, 82, 1, 2) := rfl
theorem xi_65_103 : xm_ins 65 103 = some (.ireturn, 104, 0, 0, 0) := rfl
theorem xi_65_104 : xm_ins 65 104 = some (.aload_n 3, 105, 3, 0, 0) := rfl
theorem xi_65_105 : xm_ins 65 105 = some (.getfield 88, 108, 1, 6, 0) := rfl
theorem xi_65_108 : xm_ins 65 108 = some (.iload_n 1, 109, 1, 0, 0) := rfl
theorem xi_65_109 : xm_ins 65 109 = some (.invokestatic 91, 112, 83, 2, 2) := rfl
theorem xi_65_112 : xm_ins 65 112 = some (.ifCond .eq 7, 115, 119, 0, 0) := rfl
theorem xi_65_115 : xm_ins 65 115 = some (.iconst 1, 116, 0, 0, 1) := rfl
theorem xi_65_116 : xm_ins 65 116 = some (.goto 4, 119, 120, 0, 0) := rfl
theorem xi_65_119 : xm_ins 65 119 = some (.iconst 0, 120, 0, 0, 0) := rfl
theorem xi_65_120 : xm_ins 65 120 = some (.ireturn, 121, 0, 0, 0) := rfl
theorem xi_65_121 : xm_ins 65 121 = some (.aload_n 3, 122, 3, 0, 0) := rfl
theorem xi_65_122 : xm_ins 65 122 = some (.iload_n 1, 123, 1, 0, 0) := rfl
theorem xi_65_123 : xm_ins 65 123 = some (.iload_n 2, 124, 2, 0, 0) := rfl
theorem xi_65_124 : xm_ins 65 124 = some (.iconst 4, 125, 0, 0, 4) := rfl
theorem xi_65_125 : xm_ins 65 125 = some (.isub, 126, 0, 0, 0) := rfl
theorem xi_65_126 : xm_ins 65 126 = some (.invokevirtual 95, 129, 38, 3, 1) := rfl
theorem xi_65_129 : xm_ins 65 129 = some (.invokestatic 82, 132, 82, 1, 2) := rfl
theorem xi_65_132 : xm_ins 65 132 = some (.ireturn, 133, 0, 0, 0) := rfl
theorem xi_65_133 : xm_ins 65 133 = some (.aload_n 3, 134, 3, 0, 0) := rfl
theorem xi_65_134 : xm_ins 65 134 = some (.iload_n 1, 135, 1, 0, 0) := rfl
theorem xi_65_135 : xm_ins 65 135 = some (.invokevirtual 98, 138, 40, 2, 1) := rfl
theorem xi_65_138 : xm_ins 65 138 = some (.ireturn, 139, 0, 0, 0) := rfl
theorem xi_65_139 : xm_ins 65 139 = some (.aload_n 3, 140, 3, 0, 0) := rfl
theorem xi_65_140 : xm_ins 65 140 = some (.iload_n 1, 141, 1, 0, 0) := rfl
theorem xi_65_141 : xm_ins 65 141 = some (.invokevirtual 101, 144, 41, 2, 1) := rfl
theorem xi_65_144 : xm_ins 65 144 = some (.ireturn, 145, 0, 0, 0) := rfl
theorem xi_65_145 : xm_ins 65 145 = some (.aload_n 3, 146, 3, 0, 0) := rfl
theorem xi_65_146 : xm_ins 65 146 = some (.iload_n 1, 147, 1, 0, 0) := rfl
theorem xi_65_147 : xm_ins 65 147 = some (.invokevirtual 104, 150, 37, 2, 1) := rfl
theorem xi_65_150 : xm_ins 65 150 = some (.ireturn, 151, 0, 0, 0) := rfl
theorem xi_65_151 : xm_ins 65 151 = some (.ldc 75, 153, 0, 0, (-1000001)) := rfl
theorem xi_65_153 : xm_ins 65 153 = some (.ireturn, 154, 0, 0, 0) := rfl
theorem xn_66 (pc : Nat) : xm_ins 66 pc = xm_find xt_66 pc := rfl
theorem xi_66_0 : xm_ins 66 0 = some (.iload_n 1, 1, 1, 0, 0) := rfl
theorem xi_66_1 : xm_ins 66 1 = some (.ifCond .lt 9, 4, 10, 0, 0) := rfl
theorem xi_66_4 : xm_ins 66 4 = some (.iload_n 1, 5, 1, 0, 0) := rfl
theorem xi_66_5 : xm_ins 66 5 = some (.bipush 8, 7, 0, 0, 8) := rfl
theorem xi_66_7 : xm_ins 66 7 = some (.if_icmp .lt 6, 10, 13, 0, 0) := rfl
theorem xi_66_10 : xm_ins 66 10 = some (.ldc 75, 12, 0, 0, (-1000001)) := rfl
theorem xi_66_12 : xm_ins 66 12 = some (.ireturn, 13, 0, 0, 0) := rfl
theorem xi_66_13 : xm_ins 66 13 = some (.aload_n 0, 14, 0, 0, 0) := rfl
theorem xi_66_14 : xm_ins 66 14 = some (.invokevirtual 68, 17, 79, 1, 2) := rfl
theorem xi_66_17 : xm_ins 66 17 = some (.astore_n 3, 18, 3, 0, 0) := rfl
theorem xi_66_18 : xm_ins 66 18 = some (.iload_n 2, 19, 2, 0, 0) := rfl
theorem xi_66_19 : xm_ins 66 19 = some (.tableswitch 86 0 7 #[45, 55, 64, 70, 70, 70, 70, 70], 64, 0, 0, 0) := rfl
theorem xi_66_64 : xm_ins 66 64 = some (.aload_n 3, 65, 3, 0, 0) := rfl
theorem xi_66_65 : xm_ins 66 65 = some (.getfield 107, 68, 1, 0, 1) := rfl
theorem xi_66_68 : xm_ins 66 68 = some (.iload_n 1, 69, 1, 0, 0) := rfl
theorem xi_66_69 : xm_ins 66 69 = some (.iaload, 70, 0, 0, 0) := rfl
theorem xi_66_70 : xm_ins 66 70 = some (.invokestatic 82, 73, 82, 1, 2) := rfl
theorem xi_66_73 : xm_ins 66 73 = some (.ireturn, 74, 0, 0, 0) := rfl
theorem xi_66_74 : xm_ins 66 74 = some (.aload_n 3, 75, 3, 0, 0) := rfl
theorem xi_66_75 : xm_ins 66 75 = some (.iload_n 1, 76, 1, 0, 0) := rfl
theorem xi_66_76 : xm_ins 66 76 = some (.invokevirtual 111, 79, 42, 2, 1) := rfl
theorem xi_66_79 : xm_ins 66 79 = some (.invokestatic 114, 82, 166, 1, 0) := rfl
theorem xi_66_82 : xm_ins 66 82 = some (.ireturn, 83, 0, 0, 0) := rfl
theorem xi_66_83 : xm_ins 66 83 = some (.aload_n 3, 84, 3, 0, 0) := rfl
theorem xi_66_84 : xm_ins 66 84 = some (.iload_n 1, 85, 1, 0, 0) := rfl
theorem xi_66_85 : xm_ins 66 85 = some (.invokevirtual 111, 88, 42, 2, 1) := rfl
theorem xi_66_88 : xm_ins 66 88 = some (.ireturn, 89, 0, 0, 0) := rfl
theorem xi_66_89 : xm_ins 66 89 = some (.aload_n 3, 90, 3, 0, 0) := rfl
theorem xi_66_90 : xm_ins 66 90 = some (.getfield 119, 93, 1, 1, 1) := rfl
theorem xi_66_93 : xm_ins 66 93 = some (.iload_n 1, 94, 1, 0, 0) := rfl
theorem xi_66_94 : xm_ins 66 94 = some (.iconst 5, 95, 0, 0, 5) := rfl
theorem xi_66_95 : xm_ins 66 95 = some (.imul, 96, 0, 0, 0) := rfl
theorem xi_66_96 : xm_ins 66 96 = some (.iload_n 2, 97, 2, 0, 0) := rfl
theorem xi_66_97 : xm_ins 66 97 = some (.iadd, 98, 0, 0, 0) := rfl
theorem xi_66_98 : xm_ins 66 98 = some (.iconst 3, 99, 0, 0, 3) := rfl
theorem xi_66_99 : xm_ins 66 99 = some (.isub, 100, 0, 0, 0) := rfl
theorem xi_66_100 : xm_ins 66 100 = some (.iaload, 101, 0, 0, 0) := rfl
theorem xi_66_101 : xm_ins 66 101 = some (.invokestatic 82, 104, 82, 1, 2) := rfl
theorem xi_66_104 : xm_ins 66 104 = some (.ireturn, 105, 0, 0, 0) := rfl
theorem xi_66_105 : xm_ins 66 105 = some (.ldc 75, 107, 0, 0, (-1000001)) := rfl
theorem xi_66_107 : xm_ins 66 107 = some (.ireturn, 108, 0, 0, 0) := rfl
theorem xn_67 (pc : Nat) : xm_ins 67 pc = xm_find xt_67 pc := rfl
theorem xi_67_0 : xm_ins 67 0 = some (.iload_n 1, 1, 1, 0, 0) := rfl
theorem xi_67_1 : xm_ins 67 1 = some (.ifCond .lt 8, 4, 9, 0, 0) := rfl
theorem xi_67_4 : xm_ins 67 4 = some (.iload_n 1, 5, 1, 0, 0) := rfl
theorem xi_67_5 : xm_ins 67 5 = some (.iconst 4, 6, 0, 0, 4) := rfl
theorem xi_67_6 : xm_ins 67 6 = some (.if_icmp .lt 6, 9, 12, 0, 0) := rfl
theorem xi_67_9 : xm_ins 67 9 = some (.ldc 75, 11, 0, 0, (-1000001)) := rfl
theorem xi_67_11 : xm_ins 67 11 = some (.ireturn, 12, 0, 0, 0) := rfl
theorem xi_67_12 : xm_ins 67 12 = some (.aload_n 0, 13, 0, 0, 0) := rfl
theorem xi_67_13 : xm_ins 67 13 = some (.invokevirtual 68, 16, 79, 1, 2) := rfl
theorem xi_67_16 : xm_ins 67 16 = some (.getfield 122, 19, 1, 5, 1) := rfl
theorem xi_67_19 : xm_ins 67 19 = some (.iload_n 1, 20, 1, 0, 0) := rfl
theorem xi_67_20 : xm_ins 67 20 = some (.iaload, 21, 0, 0, 0) := rfl
theorem xi_67_21 : xm_ins 67 21 = some (.invokestatic 82, 24, 82, 1, 2) := rfl
theorem xi_67_24 : xm_ins 67 24 = some (.ireturn, 25, 0, 0, 0) := rfl
theorem xn_68 (pc : Nat) : xm_ins 68 pc = xm_find xt_68 pc := rfl
theorem xi_68_0 : xm_ins 68 0 = some (.iload_n 1, 1, 1, 0, 0) := rfl
theorem xi_68_1 : xm_ins 68 1 = some (.ifCond .ge 6, 4, 7, 0, 0) := rfl
theorem xi_68_4 : xm_ins 68 4 = some (.ldc 75, 6, 0, 0, (-1000001)) := rfl
theorem xi_68_6 : xm_ins 68 6 = some (.ireturn, 7, 0, 0, 0) := rfl
theorem xi_68_7 : xm_ins 68 7 = some (.aload_n 0, 8, 0, 0, 0) := rfl
theorem xi_68_8 : xm_ins 68 8 = some (.invokevirtual 68, 11, 79, 1, 2) := rfl
theorem xi_68_11 : xm_ins 68 11 = some (.astore_n 2, 12, 2, 0, 0) := rfl
theorem xi_68_12 : xm_ins 68 12 = some (.iload_n 1, 13, 1, 0, 0) := rfl
theorem xi_68_13 : xm_ins 68 13 = some (.istore_n 3, 14, 3, 0, 0) := rfl
theorem xi_68_14 : xm_ins 68 14 = some (.iconst 0, 15, 0, 0, 0) := rfl
theorem xi_68_15 : xm_ins 68 15 = some (.istore 4, 17, 4, 0, 0) := rfl
theorem xi_68_17 : xm_ins 68 17 = some (.iload 4, 19, 4, 0, 0) := rfl
theorem xi_68_19 : xm_ins 68 19 = some (.bipush 30, 21, 0, 0, 30) := rfl
theorem xi_68_21 : xm_ins 68 21 = some (.if_icmp .ge 51, 24, 72, 0, 0) := rfl
theorem xi_68_24 : xm_ins 68 24 = some (.iconst 0, 25, 0, 0, 0) := rfl
theorem xi_68_25 : xm_ins 68 25 = some (.istore 5, 27, 5, 0, 0) := rfl
theorem xi_68_27 : xm_ins 68 27 = some (.iload 5, 29, 5, 0, 0) := rfl
theorem xi_68_29 : xm_ins 68 29 = some (.iconst 3, 30, 0, 0, 3) := rfl
theorem xi_68_30 : xm_ins 68 30 = some (.if_icmp .ge 36, 33, 66, 0, 0) := rfl
theorem xi_68_33 : xm_ins 68 33 = some (.aload_n 2, 34, 2, 0, 0) := rfl
theorem xi_68_34 : xm_ins 68 34 = some (.iload 4, 36, 4, 0, 0) := rfl
theorem xi_68_36 : xm_ins 68 36 = some (.iload 5, 38, 5, 0, 0) := rfl
theorem xi_68_38 : xm_ins 68 38 = some (.invokevirtual 125, 41, 39, 3, 1) := rfl
theorem xi_68_41 : xm_ins 68 41 = some (.ifCond .eq 19, 44, 60, 0, 0) := rfl
theorem xi_68_44 : xm_ins 68 44 = some (.iload_n 3, 45, 3, 0, 0) := rfl
theorem xi_68_45 : xm_ins 68 45 = some (.ifCond .ne 12, 48, 57, 0, 0) := rfl
theorem xi_68_48 : xm_ins 68 48 = some (.bipush 10, 50, 0, 0, 10) := rfl
theorem xi_68_50 : xm_ins 68 50 = some (.iload 4, 52, 4, 0, 0) := rfl
theorem xi_68_52 : xm_ins 68 52 = some (.imul, 53, 0, 0, 0) := rfl
theorem xi_68_53 : xm_ins 68 53 = some (.iload 5, 55, 5, 0, 0) := rfl
theorem xi_68_55 : xm_ins 68 55 = some (.iadd, 56, 0, 0, 0) := rfl
theorem xi_68_56 : xm_ins 68 56 = some (.ireturn, 57, 0, 0, 0) := rfl
theorem xi_68_57 : xm_ins 68 57 = some (.iinc 3 (-1), 60, 3, 0, (-1)) := rfl
theorem xi_68_60 : xm_ins 68 60 = some (.iinc 5 1, 63, 5, 0, 1) := rfl
theorem xi_68_63 : xm_ins 68 63 = some (.goto (-36), 66, 27, 0, 0) := rfl
theorem xi_68_66 : xm_ins 68 66 = some (.iinc 4 1, 69, 4, 0, 1) := rfl
theorem xi_68_69 : xm_ins 68 69 = some (.goto (-52), 72, 17, 0, 0) := rfl
theorem xi_68_72 : xm_ins 68 72 = some (.ldc 128, 74, 0, 0, (-1000004)) := rfl
theorem xi_68_74 : xm_ins 68 74 = some (.ireturn, 75, 0, 0, 0) := rfl
theorem xn_69 (pc : Nat) : xm_ins 69 pc = xm_find xt_69 pc := rfl
theorem xi_69_0 : xm_ins 69 0 = some (.aload_n 0, 1, 0, 0, 0) := rfl
theorem xi_69_1 : xm_ins 69 1 = some (.invokevirtual 68, 4, 79, 1, 2) := rfl
theorem xi_69_4 : xm_ins 69 4 = some (.astore_n 2, 5, 2, 0, 0) := rfl
theorem xi_69_5 : xm_ins 69 5 = some (.iload_n 1, 6, 1, 0, 0) := rfl
theorem xi_69_6 : xm_ins 69 6 = some (.lookupswitch 43 #[(0, 26), (1, 31)], 32, 0, 0, 0) := rfl
theorem xi_69_32 : xm_ins 69 32 = some (.aload_n 2, 33, 2, 0, 0) := rfl
theorem xi_69_33 : xm_ins 69 33 = some (.invokevirtual 129, 36, 51, 1, 1) := rfl
theorem xi_69_36 : xm_ins 69 36 = some (.ireturn, 37, 0, 0, 0) := rfl
theorem xi_69_37 : xm_ins 69 37 = some (.aload_n 2, 38, 2, 0, 0) := rfl
theorem xi_69_38 : xm_ins 69 38 = some (.invokevirtual 132, 41, 47, 1, 1) := rfl
theorem xi_69_41 : xm_ins 69 41 = some (.aload_n 2, 42, 2, 0, 0) := rfl
theorem xi_69_42 : xm_ins 69 42 = some (.invokevirtual 129, 45, 51, 1, 1) := rfl
theorem xi_69_45 : xm_ins 69 45 = some (.iconst (-1), 46, 0, 0, (-1)) := rfl
theorem xi_69_46 : xm_ins 69 46 = some (.ixor, 47, 0, 0, 0) := rfl
theorem xi_69_47 : xm_ins 69 47 = some (.iand, 48, 0, 0, 0) := rfl
theorem xi_69_48 : xm_ins 69 48 = some (.ireturn, 49, 0, 0, 0) := rfl
theorem xi_69_49 : xm_ins 69 49 = some (.ldc 75, 51, 0, 0, (-1000001)) := rfl
theorem xi_69_51 : xm_ins 69 51 = some (.ireturn, 52, 0, 0, 0) := rfl
theorem xn_70 (pc : Nat) : xm_ins 70 pc = xm_find xt_70 pc := rfl
theorem xi_70_0 : xm_ins 70 0 = some (.iload_n 1, 1, 1, 0, 0) := rfl
theorem xi_70_1 : xm_ins 70 1 = some (.ifCond .lt 8, 4, 9, 0, 0) := rfl
theorem xi_70_4 : xm_ins 70 4 = some (.iload_n 1, 5, 1, 0, 0) := rfl
theorem xi_70_5 : xm_ins 70 5 = some (.iconst 2, 6, 0, 0, 2) := rfl
theorem xi_70_6 : xm_ins 70 6 = some (.if_icmp .lt 6, 9, 12, 0, 0) := rfl
theorem xi_70_9 : xm_ins 70 9 = some (.ldc 75, 11, 0, 0, (-1000001)) := rfl
theorem xi_70_11 : xm_ins 70 11 = some (.ireturn, 12, 0, 0, 0) := rfl
theorem xi_70_12 : xm_ins 70 12 = some (.aload_n 0, 13, 0, 0, 0) := rfl
theorem xi_70_13 : xm_ins 70 13 = some (.invokevirtual 68, 16, 79, 1, 2) := rfl
theorem xi_70_16 : xm_ins 70 16 = some (.astore_n 3, 17, 3, 0, 0) := rfl
theorem xi_70_17 : xm_ins 70 17 = some (.aload_n 3, 18, 3, 0, 0) := rfl
theorem xi_70_18 : xm_ins 70 18 = some (.iload_n 1, 19, 1, 0, 0) := rfl
theorem xi_70_19 : xm_ins 70 19 = some (.invokevirtual 135, 22, 52, 2, 1) := rfl
theorem xi_70_22 : xm_ins 70 22 = some (.istore 4, 24, 4, 0, 0) := rfl
theorem xi_70_24 : xm_ins 70 24 = some (.iload_n 2, 25, 2, 0, 0) := rfl
theorem xi_70_25 : xm_ins 70 25 = some (.tableswitch 75 0 3 #[31, 34, 45, 58], 56, 0, 0, 0) := rfl
theorem xi_70_56 : xm_ins 70 56 = some (.iload 4, 58, 4, 0, 0) := rfl
theorem xi_70_58 : xm_ins 70 58 = some (.ireturn, 59, 0, 0, 0) := rfl
theorem xi_70_59 : xm_ins 70 59 = some (.aload_n 3, 60, 3, 0, 0) := rfl
theorem xi_70_60 : xm_ins 70 60 = some (.iload_n 1, 61, 1, 0, 0) := rfl
theorem xi_70_61 : xm_ins 70 61 = some (.invokevirtual 138, 64, 48, 2, 1) := rfl
theorem xi_70_64 : xm_ins 70 64 = some (.iload 4, 66, 4, 0, 0) := rfl
theorem xi_70_66 : xm_ins 70 66 = some (.iconst (-1), 67, 0, 0, (-1)) := rfl
theorem xi_70_67 : xm_ins 70 67 = some (.ixor, 68, 0, 0, 0) := rfl
theorem xi_70_68 : xm_ins 70 68 = some (.iand, 69, 0, 0, 0) := rfl
theorem xi_70_69 : xm_ins 70 69 = some (.ireturn, 70, 0, 0, 0) := rfl
theorem xi_70_70 : xm_ins 70 70 = some (.iload 4, 72, 4, 0, 0) := rfl
theorem xi_70_72 : xm_ins 70 72 = some (.aload_n 3, 73, 3, 0, 0) := rfl
theorem xi_70_73 : xm_ins 70 73 = some (.getfield 88, 76, 1, 6, 0) := rfl
theorem xi_70_76 : xm_ins 70 76 = some (.iconst (-1), 77, 0, 0, (-1)) := rfl
theorem xi_70_77 : xm_ins 70 77 = some (.ixor, 78, 0, 0, 0) := rfl
theorem xi_70_78 : xm_ins 70 78 = some (.iand, 79, 0, 0, 0) := rfl
theorem xi_70_79 : xm_ins 70 79 = some (.invokestatic 114, 82, 166, 1, 0) := rfl
theorem xi_70_82 : xm_ins 70 82 = some (.ireturn, 83, 0, 0, 0) := rfl
theorem xi_70_83 : xm_ins 70 83 = some (.aload_n 0, 84, 0, 0, 0) := rfl
theorem xi_70_84 : xm_ins 70 84 = some (.invokevirtual 30, 87, 80, 1, 2) := rfl
theorem xi_70_87 : xm_ins 70 87 = some (.iload_n 1, 88, 1, 0, 0) := rfl
theorem xi_70_88 : xm_ins 70 88 = some (.invokevirtual 62, 91, 21, 2, 1) := rfl
theorem xi_70_91 : xm_ins 70 91 = some (.ifCond .lt 7, 94, 98, 0, 0) := rfl
theorem xi_70_94 : xm_ins 70 94 = some (.iconst 1, 95, 0, 0, 1) := rfl
theorem xi_70_95 : xm_ins 70 95 = some (.goto 4, 98, 99, 0, 0) := rfl
theorem xi_70_98 : xm_ins 70 98 = some (.iconst 0, 99, 0, 0, 0) := rfl
theorem xi_70_99 : xm_ins 70 99 = some (.ireturn, 100, 0, 0, 0) := rfl
theorem xi_70_100 : xm_ins 70 100 = some (.ldc 75, 102, 0, 0, (-1000001)) := rfl
theorem xi_70_102 : xm_ins 70 102 = some (.ireturn, 103, 0, 0, 0) := rfl
theorem xn_71 (pc : Nat) : xm_ins 71 pc = xm_find xt_71 pc := rfl
theorem xi_71_0 : xm_ins 71 0 = some (.aload_n 0, 1, 0, 0, 0) := rfl
theorem xi_71_1 : xm_ins 71 1 = some (.invokevirtual 68, 4, 79, 1, 2) := rfl
theorem xi_71_4 : xm_ins 71 4 = some (.astore_n 2, 5, 2, 0, 0) := rfl
theorem xi_71_5 : xm_ins 71 5 = some (.aload_n 2, 6, 2, 0, 0) := rfl
theorem xi_71_6 : xm_ins 71 6 = some (.iload_n 1, 7, 1, 0, 0) := rfl
theorem xi_71_7 : xm_ins 71 7 = some (.invokevirtual 76, 10, 34, 2, 1) := rfl
theorem xi_71_10 : xm_ins 71 10 = some (.ifCond .ne 6, 13, 16, 0, 0) := rfl
theorem xi_71_13 : xm_ins 71 13 = some (.ldc 75, 15, 0, 0, (-1000001)) := rfl
theorem xi_71_15 : xm_ins 71 15 = some (.ireturn, 16, 0, 0, 0) := rfl
theorem xi_71_16 : xm_ins 71 16 = some (.aload_n 2, 17, 2, 0, 0) := rfl
theorem xi_71_17 : xm_ins 71 17 = some (.invokevirtual 132, 20, 47, 1, 1) := rfl
theorem xi_71_20 : xm_ins 71 20 = some (.iconst 1, 21, 0, 0, 1) := rfl
theorem xi_71_21 : xm_ins 71 21 = some (.iload_n 1, 22, 1, 0, 0) := rfl
theorem xi_71_22 : xm_ins 71 22 = some (.ishl, 23, 0, 0, 0) := rfl
theorem xi_71_23 : xm_ins 71 23 = some (.iconst (-1), 24, 0, 0, (-1)) := rfl
theorem xi_71_24 : xm_ins 71 24 = some (.ixor, 25, 0, 0, 0) := rfl
theorem xi_71_25 : xm_ins 71 25 = some (.iand, 26, 0, 0, 0) := rfl
theorem xi_71_26 : xm_ins 71 26 = some (.istore_n 3, 27, 3, 0, 0) := rfl
theorem xi_71_27 : xm_ins 71 27 = some (.aload_n 2, 28, 2, 0, 0) := rfl
theorem xi_71_28 : xm_ins 71 28 = some (.aload_n 2, 29, 2, 0, 0) := rfl
theorem xi_71_29 : xm_ins 71 29 = some (.invokevirtual 141, 32, 50, 1, 1) := rfl
theorem xi_71_32 : xm_ins 71 32 = some (.iload_n 3, 33, 3, 0, 0) := rfl
theorem xi_71_33 : xm_ins 71 33 = some (.invokevirtual 144, 36, 54, 3, 1) := rfl
theorem xi_71_36 : xm_ins 71 36 = some (.istore 4, 38, 4, 0, 0) := rfl
theorem xi_71_38 : xm_ins 71 38 = some (.aload_n 2, 39, 2, 0, 0) := rfl
theorem xi_71_39 : xm_ins 71 39 = some (.invokevirtual 129, 42, 51, 1, 1) := rfl
theorem xi_71_42 : xm_ins 71 42 = some (.iload_n 3, 43, 3, 0, 0) := rfl
theorem xi_71_43 : xm_ins 71 43 = some (.iand, 44, 0, 0, 0) := rfl
theorem xi_71_44 : xm_ins 71 44 = some (.iload 4, 46, 4, 0, 0) := rfl
theorem xi_71_46 : xm_ins 71 46 = some (.iconst (-1), 47, 0, 0, (-1)) := rfl
theorem xi_71_47 : xm_ins 71 47 = some (.ixor, 48, 0, 0, 0) := rfl
theorem xi_71_48 : xm_ins 71 48 = some (.iand, 49, 0, 0, 0) := rfl
theorem xi_71_49 : xm_ins 71 49 = some (.ireturn, 50, 0, 0, 0) := rfl
theorem xn_72 (pc : Nat) : xm_ins 72 pc = xm_find xt_72 pc := rfl
theorem xi_72_0 : xm_ins 72 0 = some (.aload_n 0, 1, 0, 0, 0) := rfl
theorem xi_72_1 : xm_ins 72 1 = some (.invokevirtual 68, 4, 79, 1, 2) := rfl
theorem xi_72_4 : xm_ins 72 4 = some (.astore_n 2, 5, 2, 0, 0) := rfl
theorem xi_72_5 : xm_ins 72 5 = some (.aload_n 2, 6, 2, 0, 0) := rfl
theorem xi_72_6 : xm_ins 72 6 = some (.iload_n 1, 7, 1, 0, 0) := rfl
theorem xi_72_7 : xm_ins 72 7 = some (.invokevirtual 76, 10, 34, 2, 1) := rfl
theorem xi_72_10 : xm_ins 72 10 = some (.ifCond .ne 6, 13, 16, 0, 0) := rfl
theorem xi_72_13 : xm_ins 72 13 = some (.ldc 75, 15, 0, 0, (-1000001)) := rfl
theorem xi_72_15 : xm_ins 72 15 = some (.ireturn, 16, 0, 0, 0) := rfl
theorem xi_72_16 : xm_ins 72 16 = some (.aload_n 2, 17, 2, 0, 0) := rfl
theorem xi_72_17 : xm_ins 72 17 = some (.invokevirtual 141, 20, 50, 1, 1) := rfl
theorem xi_72_20 : xm_ins 72 20 = some (.istore_n 3, 21, 3, 0, 0) := rfl
theorem xi_72_21 : xm_ins 72 21 = some (.iconst 0, 22, 0, 0, 0) := rfl
theorem xi_72_22 : xm_ins 72 22 = some (.istore 4, 24, 4, 0, 0) := rfl
theorem xi_72_24 : xm_ins 72 24 = some (.iload 4, 26, 4, 0, 0) := rfl
theorem xi_72_26 : xm_ins 72 26 = some (.bipush 30, 28, 0, 0, 30) := rfl
theorem xi_72_28 : xm_ins 72 28 = some (.if_icmp .ge 28, 31, 56, 0, 0) := rfl
theorem xi_72_31 : xm_ins 72 31 = some (.iload_n 3, 32, 3, 0, 0) := rfl
theorem xi_72_32 : xm_ins 72 32 = some (.iload_n 1, 33, 1, 0, 0) := rfl
theorem xi_72_33 : xm_ins 72 33 = some (.invokestatic 91, 36, 83, 2, 2) := rfl
theorem xi_72_36 : xm_ins 72 36 = some (.ifCond .eq 6, 39, 42, 0, 0) := rfl
theorem xi_72_39 : xm_ins 72 39 = some (.iload 4, 41, 4, 0, 0) := rfl
theorem xi_72_41 : xm_ins 72 41 = some (.ireturn, 42, 0, 0, 0) := rfl
theorem xi_72_42 : xm_ins 72 42 = some (.iload_n 3, 43, 3, 0, 0) := rfl
theorem xi_72_43 : xm_ins 72 43 = some (.aload_n 2, 44, 2, 0, 0) := rfl
theorem xi_72_44 : xm_ins 72 44 = some (.iload_n 3, 45, 3, 0, 0) := rfl
theorem xi_72_45 : xm_ins 72 45 = some (.invokevirtual 147, 48, 53, 2, 1) := rfl
theorem xi_72_48 : xm_ins 72 48 = some (.ior, 49, 0, 0, 0) := rfl
theorem xi_72_49 : xm_ins 72 49 = some (.istore_n 3, 50, 3, 0, 0) := rfl
theorem xi_72_50 : xm_ins 72 50 = some (.iinc 4 1, 53, 4, 0, 1) := rfl
theorem xi_72_53 : xm_ins 72 53 = some (.goto (-29), 56, 24, 0, 0) := rfl
theorem xi_72_56 : xm_ins 72 56 = some (.ldc 128, 58, 0, 0, (-1000004)) := rfl
theorem xi_72_58 : xm_ins 72 58 = some (.ireturn, 59, 0, 0, 0) := rfl
theorem xn_73 (pc : Nat) : xm_ins 73 pc = xm_find xt_73 pc := rfl
theorem xi_73_0 : xm_ins 73 0 = some (.aload_n 0, 1, 0, 0, 0) := rfl
theorem xi_73_1 : xm_ins 73 1 = some (.invokevirtual 68, 4, 79, 1, 2) := rfl
theorem xi_73_4 : xm_ins 73 4 = some (.astore_n 2, 5, 2, 0, 0) := rfl
theorem xi_73_5 : xm_ins 73 5 = some (.aload_n 2, 6, 2, 0, 0) := rfl
theorem xi_73_6 : xm_ins 73 6 = some (.invokevirtual 132, 9, 47, 1, 1) := rfl
theorem xi_73_9 : xm_ins 73 9 = some (.invokestatic 114, 12, 166, 1, 0) := rfl
theorem xi_73_12 : xm_ins 73 12 = some (.istore_n 3, 13, 3, 0, 0) := rfl
theorem xi_73_13 : xm_ins 73 13 = some (.iload_n 1, 14, 1, 0, 0) := rfl
theorem xi_73_14 : xm_ins 73 14 = some (.tableswitch 141 0 13 #[70, 75, 77, 85, 85, 85, 96, 101, 106, 111, 116, 123, 128, 133], 84, 0, 0, 0) := rfl
theorem xi_73_84 : xm_ins 73 84 = some (.aload_n 2, 85, 2, 0, 0) := rfl
theorem xi_73_85 : xm_ins 73 85 = some (.getfield 150, 88, 1, 7, 0) := rfl
theorem xi_73_88 : xm_ins 73 88 = some (.ireturn, 89, 0, 0, 0) := rfl
theorem xi_73_89 : xm_ins 73 89 = some (.iload_n 3, 90, 3, 0, 0) := rfl
theorem xi_73_90 : xm_ins 73 90 = some (.ireturn, 91, 0, 0, 0) := rfl
theorem xi_73_91 : xm_ins 73 91 = some (.aload_n 2, 92, 2, 0, 0) := rfl
theorem xi_73_92 : xm_ins 73 92 = some (.getfield 88, 95, 1, 6, 0) := rfl
theorem xi_73_95 : xm_ins 73 95 = some (.invokestatic 114, 98, 166, 1, 0) := rfl
theorem xi_73_98 : xm_ins 73 98 = some (.ireturn, 99, 0, 0, 0) := rfl
theorem xi_73_99 : xm_ins 73 99 = some (.aload_n 2, 100, 2, 0, 0) := rfl
theorem xi_73_100 : xm_ins 73 100 = some (.iload_n 1, 101, 1, 0, 0) := rfl
theorem xi_73_101 : xm_ins 73 101 = some (.iconst 3, 102, 0, 0, 3) := rfl
theorem xi_73_102 : xm_ins 73 102 = some (.isub, 103, 0, 0, 0) := rfl
theorem xi_73_103 : xm_ins 73 103 = some (.invokevirtual 153, 106, 46, 2, 1) := rfl
theorem xi_73_106 : xm_ins 73 106 = some (.invokestatic 114, 109, 166, 1, 0) := rfl
theorem xi_73_109 : xm_ins 73 109 = some (.ireturn, 110, 0, 0, 0) := rfl
theorem xi_73_110 : xm_ins 73 110 = some (.aload_n 2, 111, 2, 0, 0) := rfl
theorem xi_73_111 : xm_ins 73 111 = some (.invokevirtual 156, 114, 44, 1, 1) := rfl
theorem xi_73_114 : xm_ins 73 114 = some (.ireturn, 115, 0, 0, 0) := rfl
theorem xi_73_115 : xm_ins 73 115 = some (.aload_n 2, 116, 2, 0, 0) := rfl
theorem xi_73_116 : xm_ins 73 116 = some (.invokevirtual 159, 119, 45, 1, 1) := rfl
theorem xi_73_119 : xm_ins 73 119 = some (.ireturn, 120, 0, 0, 0) := rfl
theorem xi_73_120 : xm_ins 73 120 = some (.aload_n 2, 121, 2, 0, 0) := rfl
theorem xi_73_121 : xm_ins 73 121 = some (.getfield 162, 124, 1, 8, 0) := rfl
theorem xi_73_124 : xm_ins 73 124 = some (.ireturn, 125, 0, 0, 0) := rfl
theorem xi_73_125 : xm_ins 73 125 = some (.aload_n 2, 126, 2, 0, 0) := rfl
theorem xi_73_126 : xm_ins 73 126 = some (.getfield 165, 129, 1, 9, 0) := rfl
theorem xi_73_129 : xm_ins 73 129 = some (.ireturn, 130, 0, 0, 0) := rfl
theorem xi_73_130 : xm_ins 73 130 = some (.aload_n 2, 131, 2, 0, 0) := rfl
theorem xi_73_131 : xm_ins 73 131 = some (.getfield 150, 134, 1, 7, 0) := rfl
theorem xi_73_134 : xm_ins 73 134 = some (.iload_n 3, 135, 3, 0, 0) := rfl
theorem xi_73_135 : xm_ins 73 135 = some (.isub, 136, 0, 0, 0) := rfl
theorem xi_73_136 : xm_ins 73 136 = some (.ireturn, 137, 0, 0, 0) := rfl
theorem xi_73_137 : xm_ins 73 137 = some (.aload_n 2, 138, 2, 0, 0) := rfl
theorem xi_73_138 : xm_ins 73 138 = some (.getfield 168, 141, 1, 10, 0) := rfl
theorem xi_73_141 : xm_ins 73 141 = some (.ireturn, 142, 0, 0, 0) := rfl
theorem xi_73_142 : xm_ins 73 142 = some (.aload_n 0, 143, 0, 0, 0) := rfl
theorem xi_73_143 : xm_ins 73 143 = some (.getfield 26, 146, 2, 3, 0) := rfl
theorem xi_73_146 : xm_ins 73 146 = some (.ireturn, 147, 0, 0, 0) := rfl
theorem xi_73_147 : xm_ins 73 147 = some (.aload_n 0, 148, 0, 0, 0) := rfl
theorem xi_73_148 : xm_ins 73 148 = some (.getfield 18, 151, 2, 1, 1) := rfl
theorem xi_73_151 : xm_ins 73 151 = some (.getfield 171, 154, 0, 2, 0) := rfl
theorem xi_73_154 : xm_ins 73 154 = some (.ireturn, 155, 0, 0, 0) := rfl
theorem xi_73_155 : xm_ins 73 155 = some (.ldc 75, 157, 0, 0, (-1000001)) := rfl
theorem xi_73_157 : xm_ins 73 157 = some (.ireturn, 158, 0, 0, 0) := rfl
theorem xn_74 (pc : Nat) : xm_ins 74 pc = xm_find xt_74 pc := rfl
theorem xi_74_0 : xm_ins 74 0 = some (.aload_n 0, 1, 0, 0, 0) := rfl
theorem xi_74_1 : xm_ins 74 1 = some (.getfield 26, 4, 2, 3, 0) := rfl
theorem xi_74_4 : xm_ins 74 4 = some (.ifCond .ne 6, 7, 10, 0, 0) := rfl
theorem xi_74_7 : xm_ins 74 7 = some (.ldc 174, 9, 0, 0, (-1000002)) := rfl
theorem xi_74_9 : xm_ins 74 9 = some (.ireturn, 10, 0, 0, 0) := rfl
theorem xi_74_10 : xm_ins 74 10 = some (.aload_n 0, 11, 0, 0, 0) := rfl
theorem xi_74_11 : xm_ins 74 11 = some (.aload_n 0, 12, 0, 0, 0) := rfl
theorem xi_74_12 : xm_ins 74 12 = some (.getfield 22, 15, 2, 2, 0) := rfl
theorem xi_74_15 : xm_ins 74 15 = some (.bipush 6, 17, 0, 0, 6) := rfl
theorem xi_74_17 : xm_ins 74 17 = some (.iadd, 18, 0, 0, 0) := rfl
theorem xi_74_18 : xm_ins 74 18 = some (.iconst 1, 19, 0, 0, 1) := rfl
theorem xi_74_19 : xm_ins 74 19 = some (.isub, 20, 0, 0, 0) := rfl
theorem xi_74_20 : xm_ins 74 20 = some (.bipush 6, 22, 0, 0, 6) := rfl
theorem xi_74_22 : xm_ins 74 22 = some (.irem, 23, 0, 0, 0) := rfl
theorem xi_74_23 : xm_ins 74 23 = some (.putfield 22, 26, 2, 2, 0) := rfl
theorem xi_74_26 : xm_ins 74 26 = some (.aload_n 0, 27, 0, 0, 0) := rfl
theorem xi_74_27 : xm_ins 74 27 = some (.dup, 28, 0, 0, 0) := rfl
theorem xi_74_28 : xm_ins 74 28 = some (.getfield 26, 31, 2, 3, 0) := rfl
theorem xi_74_31 : xm_ins 74 31 = some (.iconst 1, 32, 0, 0, 1) := rfl
theorem xi_74_32 : xm_ins 74 32 = some (.isub, 33, 0, 0, 0) := rfl
theorem xi_74_33 : xm_ins 74 33 = some (.putfield 26, 36, 2, 3, 0) := rfl
theorem xi_74_36 : xm_ins 74 36 = some (.aload_n 0, 37, 0, 0, 0) := rfl
theorem xi_74_37 : xm_ins 74 37 = some (.getfield 26, 40, 2, 3, 0) := rfl
theorem xi_74_40 : xm_ins 74 40 = some (.ireturn, 41, 0, 0, 0) := rfl
theorem xn_75 (pc : Nat) : xm_ins 75 pc = xm_find xt_75 pc := rfl
theorem xi_75_0 : xm_ins 75 0 = some (.iload_n 1, 1, 1, 0, 0) := rfl
theorem xi_75_1 : xm_ins 75 1 = some (.bipush 32, 3, 0, 0, 32) := rfl
theorem xi_75_3 : xm_ins 75 3 = some (.if_icmp .lt 9, 6, 12, 0, 0) := rfl
theorem xi_75_6 : xm_ins 75 6 = some (.iload_n 1, 7, 1, 0, 0) := rfl
theorem xi_75_7 : xm_ins 75 7 = some (.bipush 126, 9, 0, 0, 126) := rfl
theorem xi_75_9 : xm_ins 75 9 = some (.if_icmp .le 6, 12, 15, 0, 0) := rfl
theorem xi_75_12 : xm_ins 75 12 = some (.ldc 75, 14, 0, 0, (-1000001)) := rfl
theorem xi_75_14 : xm_ins 75 14 = some (.ireturn, 15, 0, 0, 0) := rfl
theorem xi_75_15 : xm_ins 75 15 = some (.aload_n 0, 16, 0, 0, 0) := rfl
theorem xi_75_16 : xm_ins 75 16 = some (.getfield 18, 19, 2, 1, 1) := rfl
theorem xi_75_19 : xm_ins 75 19 = some (.iload_n 1, 20, 1, 0, 0) := rfl
theorem xi_75_20 : xm_ins 75 20 = some (.invokevirtual 175, 23, 1, 2, 0) := rfl
theorem xi_75_23 : xm_ins 75 23 = some (.ireturn, 24, 0, 0, 0) := rfl
theorem xn_76 (pc : Nat) : xm_ins 76 pc = xm_find xt_76 pc := rfl
theorem xi_76_0 : xm_ins 76 0 = some (.aload_n 0, 1, 0, 0, 0) := rfl
theorem xi_76_1 : xm_ins 76 1 = some (.getfield 18, 4, 2, 1, 1) := rfl
theorem xi_76_4 : xm_ins 76 4 = some (.getfield 171, 7, 0, 2, 0) := rfl
theorem xi_76_7 : xm_ins 76 7 = some (.istore_n 1, 8, 1, 0, 0) := rfl
theorem xi_76_8 : xm_ins 76 8 = some (.aload_n 0, 9, 0, 0, 0) := rfl
theorem xi_76_9 : xm_ins 76 9 = some (.getfield 18, 12, 2, 1, 1) := rfl
theorem xi_76_12 : xm_ins 76 12 = some (.iconst 0, 13, 0, 0, 0) := rfl
theorem xi_76_13 : xm_ins 76 13 = some (.putfield 171, 16, 0, 2, 0) := rfl
theorem xi_76_16 : xm_ins 76 16 = some (.iload_n 1, 17, 1, 0, 0) := rfl
theorem xi_76_17 : xm_ins 76 17 = some (.ireturn, 18, 0, 0, 0) := rfl
theorem xn_77 (pc : Nat) : xm_ins 77 pc = xm_find xt_77 pc := rfl
theorem xi_77_0 : xm_ins 77 0 = some (.iload_n 1, 1, 1, 0, 0) := rfl
theorem xi_77_1 : xm_ins 77 1 = some (.ifCond .eq 11, 4, 12, 0, 0) := rfl
theorem xi_77_4 : xm_ins 77 4 = some (.iload_n 1, 5, 1, 0, 0) := rfl
theorem xi_77_5 : xm_ins 77 5 = some (.iconst 1, 6, 0, 0, 1) := rfl
theorem xi_77_6 : xm_ins 77 6 = some (.if_icmp .eq 6, 9, 12, 0, 0) := rfl
theorem xi_77_9 : xm_ins 77 9 = some (.ldc 75, 11, 0, 0, (-1000001)) := rfl
theorem xi_77_11 : xm_ins 77 11 = some (.ireturn, 12, 0, 0, 0) := rfl
theorem xi_77_12 : xm_ins 77 12 = some (.aload_n 0, 13, 0, 0, 0) := rfl
theorem xi_77_13 : xm_ins 77 13 = some (.getfield 18, 16, 2, 1, 1) := rfl
theorem xi_77_16 : xm_ins 77 16 = some (.aload_n 0, 17, 0, 0, 0) := rfl
theorem xi_77_17 : xm_ins 77 17 = some (.invokevirtual 30, 20, 80, 1, 2) := rfl
theorem xi_77_20 : xm_ins 77 20 = some (.invokevirtual 178, 23, 2, 2, 0) := rfl
theorem xi_77_23 : xm_ins 77 23 = some (.pop, 24, 0, 0, 0) := rfl
theorem xi_77_24 : xm_ins 77 24 = some (.aload_n 0, 25, 0, 0, 0) := rfl
theorem xi_77_25 : xm_ins 77 25 = some (.getfield 18, 28, 2, 1, 1) := rfl
theorem xi_77_28 : xm_ins 77 28 = some (.getfield 182, 31, 0, 5, 0) := rfl
theorem xi_77_31 : xm_ins 77 31 = some (.ifCond .ne 6, 34, 37, 0, 0) := rfl
theorem xi_77_34 : xm_ins 77 34 = some (.ldc 128, 36, 0, 0, (-1000004)) := rfl
theorem xi_77_36 : xm_ins 77 36 = some (.ireturn, 37, 0, 0, 0) := rfl
theorem xi_77_37 : xm_ins 77 37 = some (.iload_n 1, 38, 1, 0, 0) := rfl
theorem xi_77_38 : xm_ins 77 38 = some (.ifCond .ne 13, 41, 51, 0, 0) := rfl
theorem xi_77_41 : xm_ins 77 41 = some (.aload_n 0, 42, 0, 0, 0) := rfl
theorem xi_77_42 : xm_ins 77 42 = some (.getfield 18, 45, 2, 1, 1) := rfl
theorem xi_77_45 : xm_ins 77 45 = some (.getfield 185, 48, 0, 4, 0) := rfl
theorem xi_77_48 : xm_ins 77 48 = some (.goto 10, 51, 58, 0, 0) := rfl
theorem xi_77_51 : xm_ins 77 51 = some (.aload_n 0, 52, 0, 0, 0) := rfl
theorem xi_77_52 : xm_ins 77 52 = some (.getfield 18, 55, 2, 1, 1) := rfl
theorem xi_77_55 : xm_ins 77 55 = some (.getfield 182, 58, 0, 5, 0) := rfl
theorem xi_77_58 : xm_ins 77 58 = some (.ireturn, 59, 0, 0, 0) := rfl
theorem xn_78 (pc : Nat) : xm_ins 78 pc = xm_find xt_78 pc := rfl
theorem xi_78_0 : xm_ins 78 0 = some (.aload_n 0, 1, 0, 0, 0) := rfl
theorem xi_78_1 : xm_ins 78 1 = some (.getfield 18, 4, 2, 1, 1) := rfl
theorem xi_78_4 : xm_ins 78 4 = some (.aload_n 0, 5, 0, 0, 0) := rfl
theorem xi_78_5 : xm_ins 78 5 = some (.invokevirtual 30, 8, 80, 1, 2) := rfl
theorem xi_78_8 : xm_ins 78 8 = some (.invokevirtual 178, 11, 2, 2, 0) := rfl
theorem xi_78_11 : xm_ins 78 11 = some (.istore_n 1, 12, 1, 0, 0) := rfl
theorem xi_78_12 : xm_ins 78 12 = some (.aload_n 0, 13, 0, 0, 0) := rfl
theorem xi_78_13 : xm_ins 78 13 = some (.aload_n 0, 14, 0, 0, 0) := rfl
theorem xi_78_14 : xm_ins 78 14 = some (.getfield 18, 17, 2, 1, 1) := rfl
theorem xi_78_17 : xm_ins 78 17 = some (.getfield 182, 20, 0, 5, 0) := rfl
theorem xi_78_20 : xm_ins 78 20 = some (.ifCond .ne 7, 23, 27, 0, 0) := rfl
theorem xi_78_23 : xm_ins 78 23 = some (.iload_n 1, 24, 1, 0, 0) := rfl
theorem xi_78_24 : xm_ins 78 24 = some (.goto 5, 27, 29, 0, 0) := rfl
theorem xi_78_27 : xm_ins 78 27 = some (.ldc 174, 29, 0, 0, (-1000002)) := rfl
theorem xi_78_29 : xm_ins 78 29 = some (.invokevirtual 38, 32, 81, 2, 2) := rfl
theorem xi_78_32 : xm_ins 78 32 = some (.ireturn, 33, 0, 0, 0) := rfl
theorem xn_79 (pc : Nat) : xm_ins 79 pc = xm_find xt_79 pc := rfl
theorem xi_79_0 : xm_ins 79 0 = some (.aload_n 0, 1, 0, 0, 0) := rfl
theorem xi_79_1 : xm_ins 79 1 = some (.getfield 11, 4, 2, 0, 1) := rfl
theorem xi_79_4 : xm_ins 79 4 = some (.aload_n 0, 5, 0, 0, 0) := rfl
theorem xi_79_5 : xm_ins 79 5 = some (.getfield 22, 8, 2, 2, 0) := rfl
theorem xi_79_8 : xm_ins 79 8 = some (.aaload, 9, 0, 0, 0) := rfl
theorem xi_79_9 : xm_ins 79 9 = some (.areturn, 10, 0, 0, 0) := rfl
theorem xn_80 (pc : Nat) : xm_ins 80 pc = xm_find xt_80 pc := rfl
theorem xi_80_0 : xm_ins 80 0 = some (.aload_n 0, 1, 0, 0, 0) := rfl
theorem xi_80_1 : xm_ins 80 1 = some (.getfield 11, 4, 2, 0, 1) := rfl
theorem xi_80_4 : xm_ins 80 4 = some (.aload_n 0, 5, 0, 0, 0) := rfl
theorem xi_80_5 : xm_ins 80 5 = some (.getfield 22, 8, 2, 2, 0) := rfl
theorem xi_80_8 : xm_ins 80 8 = some (.iconst 1, 9, 0, 0, 1) := rfl
theorem xi_80_9 : xm_ins 80 9 = some (.iadd, 10, 0, 0, 0) := rfl
theorem xi_80_10 : xm_ins 80 10 = some (.bipush 6, 12, 0, 0, 6) := rfl
theorem xi_80_12 : xm_ins 80 12 = some (.irem, 13, 0, 0, 0) := rfl
theorem xi_80_13 : xm_ins 80 13 = some (.aaload, 14, 0, 0, 0) := rfl
theorem xi_80_14 : xm_ins 80 14 = some (.astore_n 1, 15, 1, 0, 0) := rfl
theorem xi_80_15 : xm_ins 80 15 = some (.aload_n 1, 16, 1, 0, 0) := rfl
theorem xi_80_16 : xm_ins 80 16 = some (.aload_n 0, 17, 0, 0, 0) := rfl
theorem xi_80_17 : xm_ins 80 17 = some (.invokevirtual 68, 20, 79, 1, 2) := rfl
theorem xi_80_20 : xm_ins 80 20 = some (.invokevirtual 188, 23, 13, 2, 1) := rfl
theorem xi_80_23 : xm_ins 80 23 = some (.aload_n 1, 24, 1, 0, 0) := rfl
theorem xi_80_24 : xm_ins 80 24 = some (.areturn, 25, 0, 0, 0) := rfl
theorem xn_81 (pc : Nat) : xm_ins 81 pc = xm_find xt_81 pc := rfl
theorem xi_81_0 : xm_ins 81 0 = some (.iload_n 1, 1, 1, 0, 0) := rfl
theorem xi_81_1 : xm_ins 81 1 = some (.ifCond .lt 30, 4, 31, 0, 0) := rfl
theorem xi_81_4 : xm_ins 81 4 = some (.aload_n 0, 5, 0, 0, 0) := rfl
theorem xi_81_5 : xm_ins 81 5 = some (.aload_n 0, 6, 0, 0, 0) := rfl
theorem xi_81_6 : xm_ins 81 6 = some (.getfield 22, 9, 2, 2, 0) := rfl
theorem xi_81_9 : xm_ins 81 9 = some (.iconst 1, 10, 0, 0, 1) := rfl
theorem xi_81_10 : xm_ins 81 10 = some (.iadd, 11, 0, 0, 0) := rfl
theorem xi_81_11 : xm_ins 81 11 = some (.bipush 6, 13, 0, 0, 6) := rfl
theorem xi_81_13 : xm_ins 81 13 = some (.irem, 14, 0, 0, 0) := rfl
theorem xi_81_14 : xm_ins 81 14 = some (.putfield 22, 17, 2, 2, 0) := rfl
theorem xi_81_17 : xm_ins 81 17 = some (.aload_n 0, 18, 0, 0, 0) := rfl
theorem xi_81_18 : xm_ins 81 18 = some (.aload_n 0, 19, 0, 0, 0) := rfl
theorem xi_81_19 : xm_ins 81 19 = some (.getfield 26, 22, 2, 3, 0) := rfl
theorem xi_81_22 : xm_ins 81 22 = some (.iconst 1, 23, 0, 0, 1) := rfl
theorem xi_81_23 : xm_ins 81 23 = some (.iadd, 24, 0, 0, 0) := rfl
theorem xi_81_24 : xm_ins 81 24 = some (.iconst 4, 25, 0, 0, 4) := rfl
theorem xi_81_25 : xm_ins 81 25 = some (.invokestatic 192, 28, 1002, 0, 0) := rfl
theorem xi_81_28 : xm_ins 81 28 = some (.putfield 26, 31, 2, 3, 0) := rfl
theorem xi_81_31 : xm_ins 81 31 = some (.iload_n 1, 32, 1, 0, 0) := rfl
theorem xi_81_32 : xm_ins 81 32 = some (.ireturn, 33, 0, 0, 0) := rfl
theorem xn_82 (pc : Nat) : xm_ins 82 pc = xm_find xt_82 pc := rfl
theorem xi_82_0 : xm_ins 82 0 = some (.iload_n 0, 1, 0, 0, 0) := rfl
theorem xi_82_1 : xm_ins 82 1 = some (.iconst (-1), 2, 0, 0, (-1)) := rfl
theorem xi_82_2 : xm_ins 82 2 = some (.if_icmp .ne 8, 5, 10, 0, 0) := rfl
theorem xi_82_5 : xm_ins 82 5 = some (.ldc 128, 7, 0, 0, (-1000004)) := rfl
theorem xi_82_7 : xm_ins 82 7 = some (.goto 4, 10, 11, 0, 0) := rfl
theorem xi_82_10 : xm_ins 82 10 = some (.iload_n 0, 11, 0, 0, 0) := rfl
theorem xi_82_11 : xm_ins 82 11 = some (.ireturn, 12, 0, 0, 0) := rfl
theorem xn_83 (pc : Nat) : xm_ins 83 pc = xm_find xt_83 pc := rfl
theorem xi_83_0 : xm_ins 83 0 = some (.iload_n 0, 1, 0, 0, 0) := rfl
theorem xi_83_1 : xm_ins 83 1 = some (.iload_n 1, 2, 1, 0, 0) := rfl
theorem xi_83_2 : xm_ins 83 2 = some (.ishr, 3, 0, 0, 0) := rfl
theorem xi_83_3 : xm_ins 83 3 = some (.iconst 1, 4, 0, 0, 1) := rfl
theorem xi_83_4 : xm_ins 83 4 = some (.iand, 5, 0, 0, 0) := rfl
theorem xi_83_5 : xm_ins 83 5 = some (.ifCond .eq 7, 8, 12, 0, 0) := rfl
theorem xi_83_8 : xm_ins 83 8 = some (.iconst 1, 9, 0, 0, 1) := rfl
theorem xi_83_9 : xm_ins 83 9 = some (.goto 4, 12, 13, 0, 0) := rfl
theorem xi_83_12 : xm_ins 83 12 = some (.iconst 0, 13, 0, 0, 0) := rfl
theorem xi_83_13 : xm_ins 83 13 = some (.ireturn, 14, 0, 0, 0) := rfl
theorem xn_84 (pc : Nat) : xm_ins 84 pc = xm_find xt_84 pc := rfl
theorem xi_84_0 : xm_ins 84 0 = some (.aload_n 0, 1, 0, 0, 0) := rfl
theorem xi_84_1 : xm_ins 84 1 = some (.invokespecial 1, 4, 1000, 0, 0) := rfl
theorem xi_84_4 : xm_ins 84 4 = some (.aload_n 0, 5, 0, 0, 0) := rfl
theorem xi_84_5 : xm_ins 84 5 = some (.sipush 1176, 8, 0, 0, 1176) := rfl
theorem xi_84_8 : xm_ins 84 8 = some (.newarray .int, 10, 0, 0, 0) := rfl
theorem xi_84_10 : xm_ins 84 10 = some (.putfield 7, 13, 3, 0, 1) := rfl
theorem xi_84_13 : xm_ins 84 13 = some (.aload_n 0, 14, 0, 0, 0) := rfl
theorem xi_84_14 : xm_ins 84 14 = some (.bipush 60, 16, 0, 0, 60) := rfl
theorem xi_84_16 : xm_ins 84 16 = some (.newarray .int, 18, 0, 0, 0) := rfl
theorem xi_84_18 : xm_ins 84 18 = some (.putfield 13, 21, 3, 2, 1) := rfl
theorem xi_84_21 : xm_ins 84 21 = some (.aload_n 0, 22, 0, 0, 0) := rfl
theorem xi_84_22 : xm_ins 84 22 = some (.bipush 8, 24, 0, 0, 8) := rfl
theorem xi_84_24 : xm_ins 84 24 = some (.newarray .int, 26, 0, 0, 0) := rfl
theorem xi_84_26 : xm_ins 84 26 = some (.putfield 16, 29, 3, 4, 1) := rfl
theorem xi_84_29 : xm_ins 84 29 = some (.aload_n 0, 30, 0, 0, 0) := rfl
theorem xi_84_30 : xm_ins 84 30 = some (.iconst 3, 31, 0, 0, 3) := rfl
theorem xi_84_31 : xm_ins 84 31 = some (.newarray .int, 33, 0, 0, 0) := rfl
theorem xi_84_33 : xm_ins 84 33 = some (.putfield 19, 36, 3, 7, 1) := rfl
theorem xi_84_36 : xm_ins 84 36 = some (.aload_n 0, 37, 0, 0, 0) := rfl
theorem xi_84_37 : xm_ins 84 37 = some (.sipush 196, 40, 0, 0, 196) := rfl
theorem xi_84_40 : xm_ins 84 40 = some (.newarray .int, 42, 0, 0, 0) := rfl
theorem xi_84_42 : xm_ins 84 42 = some (.putfield 22, 45, 3, 11, 1) := rfl
theorem xi_84_45 : xm_ins 84 45 = some (.return_, 46, 0, 0, 0) := rfl
theorem xn_85 (pc : Nat) : xm_ins 85 pc = xm_find xt_85 pc := rfl
theorem xi_85_0 : xm_ins 85 0 = some (.iload_n 0, 1, 0, 0, 0) := rfl
theorem xi_85_1 : xm_ins 85 1 = some (.iload_n 1, 2, 1, 0, 0) := rfl
theorem xi_85_2 : xm_ins 85 2 = some (.if_icmp .lt 12, 5, 14, 0, 0) := rfl
theorem xi_85_5 : xm_ins 85 5 = some (.iload_n 0, 6, 0, 0, 0) := rfl
theorem xi_85_6 : xm_ins 85 6 = some (.iload_n 2, 7, 2, 0, 0) := rfl
theorem xi_85_7 : xm_ins 85 7 = some (.if_icmp .gt 7, 10, 14, 0, 0) := rfl
theorem xi_85_10 : xm_ins 85 10 = some (.iconst 1, 11, 0, 0, 1) := rfl
theorem xi_85_11 : xm_ins 85 11 = some (.goto 4, 14, 15, 0, 0) := rfl
theorem xi_85_14 : xm_ins 85 14 = some (.iconst 0, 15, 0, 0, 0) := rfl
theorem xi_85_15 : xm_ins 85 15 = some (.ireturn, 16, 0, 0, 0) := rfl
theorem xn_86 (pc : Nat) : xm_ins 86 pc = xm_find xt_86 pc := rfl
theorem xi_86_0 : xm_ins 86 0 = some (.bipush 16, 2, 0, 0, 16) := rfl
theorem xi_86_2 : xm_ins 86 2 = some (.bipush 6, 4, 0, 0, 6) := rfl
theorem xi_86_4 : xm_ins 86 4 = some (.iload_n 0, 5, 0, 0, 0) := rfl
theorem xi_86_5 : xm_ins 86 5 = some (.imul, 6, 0, 0, 0) := rfl
theorem xi_86_6 : xm_ins 86 6 = some (.iadd, 7, 0, 0, 0) := rfl
theorem xi_86_7 : xm_ins 86 7 = some (.iload_n 1, 8, 1, 0, 0) := rfl
theorem xi_86_8 : xm_ins 86 8 = some (.iadd, 9, 0, 0, 0) := rfl
theorem xi_86_9 : xm_ins 86 9 = some (.ireturn, 10, 0, 0, 0) := rfl
theorem xn_87 (pc : Nat) : xm_ins 87 pc = xm_find xt_87 pc := rfl
theorem xi_87_0 : xm_ins 87 0 = some (.iload_n 1, 1, 1, 0, 0) := rfl
theorem xi_87_1 : xm_ins 87 1 = some (.iconst 0, 2, 0, 0, 0) := rfl
theorem xi_87_2 : xm_ins 87 2 = some (.aload_n 0, 3, 0, 0, 0) := rfl
theorem xi_87_3 : xm_ins 87 3 = some (.getfield 7, 6, 3, 0, 1) := rfl
theorem xi_87_6 : xm_ins 87 6 = some (.iconst 0, 7, 0, 0, 0) := rfl
theorem xi_87_7 : xm_ins 87 7 = some (.iaload, 8, 0, 0, 0) := rfl
theorem xi_87_8 : xm_ins 87 8 = some (.iconst 1, 9, 0, 0, 1) := rfl
theorem xi_87_9 : xm_ins 87 9 = some (.isub, 10, 0, 0, 0) := rfl
theorem xi_87_10 : xm_ins 87 10 = some (.invokestatic 25, 13, 85, 3, 3) := rfl
theorem xi_87_13 : xm_ins 87 13 = some (.ifCond .eq 20, 16, 33, 0, 0) := rfl
theorem xi_87_16 : xm_ins 87 16 = some (.aload_n 0, 17, 0, 0, 0) := rfl
theorem xi_87_17 : xm_ins 87 17 = some (.getfield 7, 20, 3, 0, 1) := rfl
theorem xi_87_20 : xm_ins 87 20 = some (.iload_n 1, 21, 1, 0, 0) := rfl
theorem xi_87_21 : xm_ins 87 21 = some (.iconst 0, 22, 0, 0, 0) := rfl
theorem xi_87_22 : xm_ins 87 22 = some (.invokestatic 29, 25, 86, 2, 3) := rfl
theorem xi_87_25 : xm_ins 87 25 = some (.iaload, 26, 0, 0, 0) := rfl
theorem xi_87_26 : xm_ins 87 26 = some (.ifCond .le 7, 29, 33, 0, 0) := rfl
theorem xi_87_29 : xm_ins 87 29 = some (.iconst 1, 30, 0, 0, 1) := rfl
theorem xi_87_30 : xm_ins 87 30 = some (.goto 4, 33, 34, 0, 0) := rfl
theorem xi_87_33 : xm_ins 87 33 = some (.iconst 0, 34, 0, 0, 0) := rfl
theorem xi_87_34 : xm_ins 87 34 = some (.ireturn, 35, 0, 0, 0) := rfl
theorem xn_88 (pc : Nat) : xm_ins 88 pc = xm_find xt_88 pc := rfl
theorem xi_88_0 : xm_ins 88 0 = some (.iload_n 0, 1, 0, 0, 0) := rfl
theorem xi_88_1 : xm_ins 88 1 = some (.iconst 0, 2, 0, 0, 0) := rfl
theorem xi_88_2 : xm_ins 88 2 = some (.iconst 3, 3, 0, 0, 3) := rfl
theorem xi_88_3 : xm_ins 88 3 = some (.invokestatic 25, 6, 85, 3, 3) := rfl
theorem xi_88_6 : xm_ins 88 6 = some (.ireturn, 7, 0, 0, 0) := rfl
theorem xn_89 (pc : Nat) : xm_ins 89 pc = xm_find xt_89 pc := rfl
theorem xi_89_0 : xm_ins 89 0 = some (.iload_n 0, 1, 0, 0, 0) := rfl
theorem xi_89_1 : xm_ins 89 1 = some (.iconst 0, 2, 0, 0, 0) := rfl
theorem xi_89_2 : xm_ins 89 2 = some (.iconst 2, 3, 0, 0, 2) := rfl
theorem xi_89_3 : xm_ins 89 3 = some (.invokestatic 25, 6, 85, 3, 3) := rfl
theorem xi_89_6 : xm_ins 89 6 = some (.ireturn, 7, 0, 0, 0) := rfl
theorem xn_90 (pc : Nat) : xm_ins 90 pc = xm_find xt_90 pc := rfl
theorem xi_90_0 : xm_ins 90 0 = some (.iload_n 0, 1, 0, 0, 0) := rfl
theorem xi_90_1 : xm_ins 90 1 = some (.iload_n 1, 2, 1, 0, 0) := rfl
theorem xi_90_2 : xm_ins 90 2 = some (.ishr, 3, 0, 0, 0) := rfl
theorem xi_90_3 : xm_ins 90 3 = some (.iconst 1, 4, 0, 0, 1) := rfl
theorem xi_90_4 : xm_ins 90 4 = some (.iand, 5, 0, 0, 0) := rfl
theorem xi_90_5 : xm_ins 90 5 = some (.iconst 1, 6, 0, 0, 1) := rfl
theorem xi_90_6 : xm_ins 90 6 = some (.if_icmp .ne 7, 9, 13, 0, 0) := rfl
theorem xi_90_9 : xm_ins 90 9 = some (.iconst 1, 10, 0, 0, 1) := rfl
theorem xi_90_10 : xm_ins 90 10 = some (.goto 4, 13, 14, 0, 0) := rfl
theorem xi_90_13 : xm_ins 90 13 = some (.iconst 0, 14, 0, 0, 0) := rfl
theorem xi_90_14 : xm_ins 90 14 = some (.ireturn, 15, 0, 0, 0) := rfl
theorem xn_91 (pc : Nat) : xm_ins 91 pc = xm_find xt_91 pc := rfl
theorem xi_91_0 : xm_ins 91 0 = some (.iconst 0, 1, 0, 0, 0) := rfl
theorem xi_91_1 : xm_ins 91 1 = some (.istore_n 1, 2, 1, 0, 0) := rfl
theorem xi_91_2 : xm_ins 91 2 = some (.iconst 0, 3, 0, 0, 0) := rfl
theorem xi_91_3 : xm_ins 91 3 = some (.istore_n 2, 4, 2, 0, 0) := rfl
theorem xi_91_4 : xm_ins 91 4 = some (.iload_n 2, 5, 2, 0, 0) := rfl
theorem xi_91_5 : xm_ins 91 5 = some (.bipush 30, 7, 0, 0, 30) := rfl
theorem xi_91_7 : xm_ins 91 7 = some (.if_icmp .ge 17, 10, 24, 0, 0) := rfl
theorem xi_91_10 : xm_ins 91 10 = some (.iload_n 1, 11, 1, 0, 0) := rfl
theorem xi_91_11 : xm_ins 91 11 = some (.iload_n 0, 12, 0, 0, 0) := rfl
theorem xi_91_12 : xm_ins 91 12 = some (.iload_n 2, 13, 2, 0, 0) := rfl
theorem xi_91_13 : xm_ins 91 13 = some (.ishr, 14, 0, 0, 0) := rfl
theorem xi_91_14 : xm_ins 91 14 = some (.iconst 1, 15, 0, 0, 1) := rfl
theorem xi_91_15 : xm_ins 91 15 = some (.iand, 16, 0, 0, 0) := rfl
theorem xi_91_16 : xm_ins 91 16 = some (.iadd, 17, 0, 0, 0) := rfl
theorem xi_91_17 : xm_ins 91 17 = some (.istore_n 1, 18, 1, 0, 0) := rfl
theorem xi_91_18 : xm_ins 91 18 = some (.iinc 2 1, 21, 2, 0, 1) := rfl
theorem xi_91_21 : xm_ins 91 21 = some (.goto (-17), 24, 4, 0, 0) := rfl
theorem xi_91_24 : xm_ins 91 24 = some (.iload_n 1, 25, 1, 0, 0) := rfl
theorem xi_91_25 : xm_ins 91 25 = some (.ireturn, 26, 0, 0, 0) := rfl
theorem xn_92 (pc : Nat) : xm_ins 92 pc = xm_find xt_92 pc := rfl
theorem xi_92_0 : xm_ins 92 0 = some (.iconst 0, 1, 0, 0, 0) := rfl
theorem xi_92_1 : xm_ins 92 1 = some (.istore_n 3, 2, 3, 0, 0) := rfl
theorem xi_92_2 : xm_ins 92 2 = some (.iload_n 3, 3, 3, 0, 0) := rfl
theorem xi_92_3 : xm_ins 92 3 = some (.sipush 196, 6, 0, 0, 196) := rfl
theorem xi_92_6 : xm_ins 92 6 = some (.if_icmp .ge 25, 9, 31, 0, 0) := rfl
theorem xi_92_9 : xm_ins 92 9 = some (.aload_n 0, 10, 0, 0, 0) := rfl
theorem xi_92_10 : xm_ins 92 10 = some (.getfield 7, 13, 3, 0, 1) := rfl
theorem xi_92_13 : xm_ins 92 13 = some (.iload_n 2, 14, 2, 0, 0) := rfl
theorem xi_92_14 : xm_ins 92 14 = some (.iload_n 3, 15, 3, 0, 0) := rfl
theorem xi_92_15 : xm_ins 92 15 = some (.iadd, 16, 0, 0, 0) := rfl
theorem xi_92_16 : xm_ins 92 16 = some (.aload_n 0, 17, 0, 0, 0) := rfl
theorem xi_92_17 : xm_ins 92 17 = some (.getfield 7, 20, 3, 0, 1) := rfl
theorem xi_92_20 : xm_ins 92 20 = some (.iload_n 1, 21, 1, 0, 0) := rfl
theorem xi_92_21 : xm_ins 92 21 = some (.iload_n 3, 22, 3, 0, 0) := rfl
theorem xi_92_22 : xm_ins 92 22 = some (.iadd, 23, 0, 0, 0) := rfl
theorem xi_92_23 : xm_ins 92 23 = some (.iaload, 24, 0, 0, 0) := rfl
theorem xi_92_24 : xm_ins 92 24 = some (.iastore, 25, 0, 0, 0) := rfl
theorem xi_92_25 : xm_ins 92 25 = some (.iinc 3 1, 28, 3, 0, 1) := rfl
theorem xi_92_28 : xm_ins 92 28 = some (.goto (-26), 31, 2, 0, 0) := rfl
theorem xi_92_31 : xm_ins 92 31 = some (.return_, 32, 0, 0, 0) := rfl
theorem xn_93 (pc : Nat) : xm_ins 93 pc = xm_find xt_93 pc := rfl
theorem xi_93_0 : xm_ins 93 0 = some (.aload_n 0, 1, 0, 0, 0) := rfl
theorem xi_93_1 : xm_ins 93 1 = some (.getfield 33, 4, 3, 1, 0) := rfl
theorem xi_93_4 : xm_ins 93 4 = some (.iconst 4, 5, 0, 0, 4) := rfl
theorem xi_93_5 : xm_ins 93 5 = some (.if_icmp .ne 44, 8, 49, 0, 0) := rfl
theorem xi_93_8 : xm_ins 93 8 = some (.iconst 1, 9, 0, 0, 1) := rfl
theorem xi_93_9 : xm_ins 93 9 = some (.istore_n 2, 10, 2, 0, 0) := rfl
theorem xi_93_10 : xm_ins 93 10 = some (.iload_n 2, 11, 2, 0, 0) := rfl
theorem xi_93_11 : xm_ins 93 11 = some (.iconst 4, 12, 0, 0, 4) := rfl
theorem xi_93_12 : xm_ins 93 12 = some (.if_icmp .ge 27, 15, 39, 0, 0) := rfl
theorem xi_93_15 : xm_ins 93 15 = some (.aload_n 0, 16, 0, 0, 0) := rfl
theorem xi_93_16 : xm_ins 93 16 = some (.sipush 196, 19, 0, 0, 196) := rfl
theorem xi_93_19 : xm_ins 93 19 = some (.sipush 196, 22, 0, 0, 196) := rfl
theorem xi_93_22 : xm_ins 93 22 = some (.iload_n 2, 23, 2, 0, 0) := rfl
theorem xi_93_23 : xm_ins 93 23 = some (.imul, 24, 0, 0, 0) := rfl
theorem xi_93_24 : xm_ins 93 24 = some (.iadd, 25, 0, 0, 0) := rfl
theorem xi_93_25 : xm_ins 93 25 = some (.sipush 196, 28, 0, 0, 196) := rfl
theorem xi_93_28 : xm_ins 93 28 = some (.iload_n 2, 29, 2, 0, 0) := rfl
theorem xi_93_29 : xm_ins 93 29 = some (.imul, 30, 0, 0, 0) := rfl
theorem xi_93_30 : xm_ins 93 30 = some (.invokevirtual 37, 33, 92, 3, 3) := rfl
theorem xi_93_33 : xm_ins 93 33 = some (.iinc 2 1, 36, 2, 0, 1) := rfl
theorem xi_93_36 : xm_ins 93 36 = some (.goto (-26), 39, 10, 0, 0) := rfl
theorem xi_93_39 : xm_ins 93 39 = some (.aload_n 0, 40, 0, 0, 0) := rfl
theorem xi_93_40 : xm_ins 93 40 = some (.dup, 41, 0, 0, 0) := rfl
theorem xi_93_41 : xm_ins 93 41 = some (.getfield 33, 44, 3, 1, 0) := rfl
theorem xi_93_44 : xm_ins 93 44 = some (.iconst 1, 45, 0, 0, 1) := rfl
theorem xi_93_45 : xm_ins 93 45 = some (.isub, 46, 0, 0, 0) := rfl
theorem xi_93_46 : xm_ins 93 46 = some (.putfield 33, 49, 3, 1, 0) := rfl
theorem xi_93_49 : xm_ins 93 49 = some (.aload_n 0, 50, 0, 0, 0) := rfl
theorem xi_93_50 : xm_ins 93 50 = some (.iload_n 1, 51, 1, 0, 0) := rfl
theorem xi_93_51 : xm_ins 93 51 = some (.sipush 196, 54, 0, 0, 196) := rfl
theorem xi_93_54 : xm_ins 93 54 = some (.sipush 196, 57, 0, 0, 196) := rfl
theorem xi_93_57 : xm_ins 93 57 = some (.aload_n 0, 58, 0, 0, 0) := rfl
theorem xi_93_58 : xm_ins 93 58 = some (.getfield 33, 61, 3, 1, 0) := rfl
theorem xi_93_61 : xm_ins 93 61 = some (.imul, 62, 0, 0, 0) := rfl
theorem xi_93_62 : xm_ins 93 62 = some (.iadd, 63, 0, 0, 0) := rfl
theorem xi_93_63 : xm_ins 93 63 = some (.invokevirtual 37, 66, 92, 3, 3) := rfl
theorem xi_93_66 : xm_ins 93 66 = some (.aload_n 0, 67, 0, 0, 0) := rfl
theorem xi_93_67 : xm_ins 93 67 = some (.dup, 68, 0, 0, 0) := rfl
theorem xi_93_68 : xm_ins 93 68 = some (.getfield 33, 71, 3, 1, 0) := rfl
theorem xi_93_71 : xm_ins 93 71 = some (.iconst 1, 72, 0, 0, 1) := rfl
theorem xi_93_72 : xm_ins 93 72 = some (.iadd, 73, 0, 0, 0) := rfl
theorem xi_93_73 : xm_ins 93 73 = some (.putfield 33, 76, 3, 1, 0) := rfl
theorem xi_93_76 : xm_ins 93 76 = some (.return_, 77, 0, 0, 0) := rfl
theorem xn_94 (pc : Nat) : xm_ins 94 pc = xm_find xt_94 pc := rfl
theorem xi_94_0 : xm_ins 94 0 = some (.aload_n 0, 1, 0, 0, 0) := rfl
theorem xi_94_1 : xm_ins 94 1 = some (.getfield 33, 4, 3, 1, 0) := rfl
theorem xi_94_4 : xm_ins 94 4 = some (.ifCond .ne 6, 7, 10, 0, 0) := rfl
theorem xi_94_7 : xm_ins 94 7 = some (.ldc 41, 9, 0, 0, (-1000002)) := rfl
theorem xi_94_9 : xm_ins 94 9 = some (.ireturn, 10, 0, 0, 0) := rfl
theorem xi_94_10 : xm_ins 94 10 = some (.aload_n 0, 11, 0, 0, 0) := rfl
theorem xi_94_11 : xm_ins 94 11 = some (.dup, 12, 0, 0, 0) := rfl
theorem xi_94_12 : xm_ins 94 12 = some (.getfield 33, 15, 3, 1, 0) := rfl
theorem xi_94_15 : xm_ins 94 15 = some (.iconst 1, 16, 0, 0, 1) := rfl
theorem xi_94_16 : xm_ins 94 16 = some (.isub, 17, 0, 0, 0) := rfl
theorem xi_94_17 : xm_ins 94 17 = some (.putfield 33, 20, 3, 1, 0) := rfl
theorem xi_94_20 : xm_ins 94 20 = some (.aload_n 0, 21, 0, 0, 0) := rfl
theorem xi_94_21 : xm_ins 94 21 = some (.sipush 196, 24, 0, 0, 196) := rfl
theorem xi_94_24 : xm_ins 94 24 = some (.sipush 196, 27, 0, 0, 196) := rfl
theorem xi_94_27 : xm_ins 94 27 = some (.aload_n 0, 28, 0, 0, 0) := rfl
theorem xi_94_28 : xm_ins 94 28 = some (.getfield 33, 31, 3, 1, 0) := rfl
theorem xi_94_31 : xm_ins 94 31 = some (.imul, 32, 0, 0, 0) := rfl
theorem xi_94_32 : xm_ins 94 32 = some (.iadd, 33, 0, 0, 0) := rfl
theorem xi_94_33 : xm_ins 94 33 = some (.iconst 0, 34, 0, 0, 0) := rfl
theorem xi_94_34 : xm_ins 94 34 = some (.invokevirtual 37, 37, 92, 3, 3) := rfl
theorem xi_94_37 : xm_ins 94 37 = some (.aload_n 0, 38, 0, 0, 0) := rfl
theorem xi_94_38 : xm_ins 94 38 = some (.getfield 33, 41, 3, 1, 0) := rfl
theorem xi_94_41 : xm_ins 94 41 = some (.ireturn, 42, 0, 0, 0) := rfl
theorem xn_95 (pc : Nat) : xm_ins 95 pc = xm_find xt_95 pc := rfl
theorem xi_95_0 : xm_ins 95 0 = some (.aload_n 0, 1, 0, 0, 0) := rfl
theorem xi_95_1 : xm_ins 95 1 = some (.getfield 7, 4, 3, 0, 1) := rfl
theorem xi_95_4 : xm_ins 95 4 = some (.iload_n 1, 5, 1, 0, 0) := rfl
theorem xi_95_5 : xm_ins 95 5 = some (.iconst 0, 6, 0, 0, 0) := rfl
theorem xi_95_6 : xm_ins 95 6 = some (.invokestatic 29, 9, 86, 2, 3) := rfl
theorem xi_95_9 : xm_ins 95 9 = some (.iaload, 10, 0, 0, 0) := rfl
theorem xi_95_10 : xm_ins 95 10 = some (.iconst 1, 11, 0, 0, 1) := rfl
theorem xi_95_11 : xm_ins 95 11 = some (.isub, 12, 0, 0, 0) := rfl
theorem xi_95_12 : xm_ins 95 12 = some (.iconst 5, 13, 0, 0, 5) := rfl
theorem xi_95_13 : xm_ins 95 13 = some (.idiv, 14, 0, 0, 0) := rfl
theorem xi_95_14 : xm_ins 95 14 = some (.ireturn, 15, 0, 0, 0) := rfl
theorem xn_96 (pc : Nat) : xm_ins 96 pc = xm_find xt_96 pc := rfl
theorem xi_96_0 : xm_ins 96 0 = some (.aload_n 0, 1, 0, 0, 0) := rfl
theorem xi_96_1 : xm_ins 96 1 = some (.getfield 7, 4, 3, 0, 1) := rfl
theorem xi_96_4 : xm_ins 96 4 = some (.iconst 4, 5, 0, 0, 4) := rfl
theorem xi_96_5 : xm_ins 96 5 = some (.aload_n 0, 6, 0, 0, 0) := rfl
theorem xi_96_6 : xm_ins 96 6 = some (.iload_n 1, 7, 1, 0, 0) := rfl
theorem xi_96_7 : xm_ins 96 7 = some (.invokevirtual 42, 10, 95, 2, 3) := rfl
theorem xi_96_10 : xm_ins 96 10 = some (.iadd, 11, 0, 0, 0) := rfl
theorem xi_96_11 : xm_ins 96 11 = some (.iaload, 12, 0, 0, 0) := rfl
theorem xi_96_12 : xm_ins 96 12 = some (.iconst 1, 13, 0, 0, 1) := rfl
theorem xi_96_13 : xm_ins 96 13 = some (.isub, 14, 0, 0, 0) := rfl
theorem xi_96_14 : xm_ins 96 14 = some (.ireturn, 15, 0, 0, 0) := rfl
theorem xn_97 (pc : Nat) : xm_ins 97 pc = xm_find xt_97 pc := rfl
theorem xi_97_0 : xm_ins 97 0 = some (.iconst 0, 1, 0, 0, 0) := rfl
theorem xi_97_1 : xm_ins 97 1 = some (.istore_n 2, 2, 2, 0, 0) := rfl
theorem xi_97_2 : xm_ins 97 2 = some (.iconst 0, 3, 0, 0, 0) := rfl
theorem xi_97_3 : xm_ins 97 3 = some (.istore_n 3, 4, 3, 0, 0) := rfl
theorem xi_97_4 : xm_ins 97 4 = some (.iload_n 3, 5, 3, 0, 0) := rfl
theorem xi_97_5 : xm_ins 97 5 = some (.aload_n 0, 6, 0, 0, 0) := rfl
theorem xi_97_6 : xm_ins 97 6 = some (.getfield 7, 9, 3, 0, 1) := rfl
theorem xi_97_9 : xm_ins 97 9 = some (.iconst 0, 10, 0, 0, 0) := rfl
theorem xi_97_10 : xm_ins 97 10 = some (.iaload, 11, 0, 0, 0) := rfl
theorem xi_97_11 : xm_ins 97 11 = some (.if_icmp .ge 36, 14, 47, 0, 0) := rfl
theorem xi_97_14 : xm_ins 97 14 = some (.iload_n 2, 15, 2, 0, 0) := rfl
theorem xi_97_15 : xm_ins 97 15 = some (.aload_n 0, 16, 0, 0, 0) := rfl
theorem xi_97_16 : xm_ins 97 16 = some (.iload_n 3, 17, 3, 0, 0) := rfl
theorem xi_97_17 : xm_ins 97 17 = some (.invokevirtual 46, 20, 87, 2, 3) := rfl
theorem xi_97_20 : xm_ins 97 20 = some (.ifCond .eq 18, 23, 38, 0, 0) := rfl
theorem xi_97_23 : xm_ins 97 23 = some (.aload_n 0, 24, 0, 0, 0) := rfl
theorem xi_97_24 : xm_ins 97 24 = some (.iload_n 3, 25, 3, 0, 0) := rfl
theorem xi_97_25 : xm_ins 97 25 = some (.invokevirtual 50, 28, 96, 2, 3) := rfl
theorem xi_97_28 : xm_ins 97 28 = some (.iload_n 1, 29, 1, 0, 0) := rfl
theorem xi_97_29 : xm_ins 97 29 = some (.if_icmp .gt 9, 32, 38, 0, 0) := rfl
theorem xi_97_32 : xm_ins 97 32 = some (.iconst 1, 33, 0, 0, 1) := rfl
theorem xi_97_33 : xm_ins 97 33 = some (.iload_n 3, 34, 3, 0, 0) := rfl
theorem xi_97_34 : xm_ins 97 34 = some (.ishl, 35, 0, 0, 0) := rfl
theorem xi_97_35 : xm_ins 97 35 = some (.goto 4, 38, 39, 0, 0) := rfl
theorem xi_97_38 : xm_ins 97 38 = some (.iconst 0, 39, 0, 0, 0) := rfl
theorem xi_97_39 : xm_ins 97 39 = some (.ior, 40, 0, 0, 0) := rfl
theorem xi_97_40 : xm_ins 97 40 = some (.istore_n 2, 41, 2, 0, 0) := rfl
theorem xi_97_41 : xm_ins 97 41 = some (.iinc 3 1, 44, 3, 0, 1) := rfl
theorem xi_97_44 : xm_ins 97 44 = some (.goto (-40), 47, 4, 0, 0) := rfl
theorem xi_97_47 : xm_ins 97 47 = some (.iload_n 2, 48, 2, 0, 0) := rfl
theorem xi_97_48 : xm_ins 97 48 = some (.ireturn, 49, 0, 0, 0) := rfl
theorem xn_98 (pc : Nat) : xm_ins 98 pc = xm_find xt_98 pc := rfl
theorem xi_98_0 : xm_ins 98 0 = some (.iconst 0, 1, 0, 0, 0) := rfl
theorem xi_98_1 : xm_ins 98 1 = some (.istore_n 2, 2, 2, 0, 0) := rfl
theorem xi_98_2 : xm_ins 98 2 = some (.iload_n 2, 3, 2, 0, 0) := rfl
theorem xi_98_3 : xm_ins 98 3 = some (.aload_n 0, 4, 0, 0, 0) := rfl
theorem xi_98_4 : xm_ins 98 4 = some (.getfield 7, 7, 3, 0, 1) := rfl
theorem xi_98_7 : xm_ins 98 7 = some (.iconst 0, 8, 0, 0, 0) := rfl
theorem xi_98_8 : xm_ins 98 8 = some (.iaload, 9, 0, 0, 0) := rfl
theorem xi_98_9 : xm_ins 98 9 = some (.if_icmp .ge 27, 12, 36, 0, 0) := rfl
theorem xi_98_12 : xm_ins 98 12 = some (.aload_n 0, 13, 0, 0, 0) := rfl
theorem xi_98_13 : xm_ins 98 13 = some (.getfield 7, 16, 3, 0, 1) := rfl
theorem xi_98_16 : xm_ins 98 16 = some (.iload_n 2, 17, 2, 0, 0) := rfl
theorem xi_98_17 : xm_ins 98 17 = some (.iconst 0, 18, 0, 0, 0) := rfl
theorem xi_98_18 : xm_ins 98 18 = some (.invokestatic 29, 21, 86, 2, 3) := rfl
theorem xi_98_21 : xm_ins 98 21 = some (.iaload, 22, 0, 0, 0) := rfl
theorem xi_98_22 : xm_ins 98 22 = some (.iload_n 1, 23, 1, 0, 0) := rfl
theorem xi_98_23 : xm_ins 98 23 = some (.iconst 1, 24, 0, 0, 1) := rfl
theorem xi_98_24 : xm_ins 98 24 = some (.iadd, 25, 0, 0, 0) := rfl
theorem xi_98_25 : xm_ins 98 25 = some (.if_icmp .ne 5, 28, 30, 0, 0) := rfl
theorem xi_98_28 : xm_ins 98 28 = some (.iload_n 2, 29, 2, 0, 0) := rfl
theorem xi_98_29 : xm_ins 98 29 = some (.ireturn, 30, 0, 0, 0) := rfl
theorem xi_98_30 : xm_ins 98 30 = some (.iinc 2 1, 33, 2, 0, 1) := rfl
theorem xi_98_33 : xm_ins 98 33 = some (.goto (-31), 36, 2, 0, 0) := rfl
theorem xi_98_36 : xm_ins 98 36 = some (.ldc 53, 38, 0, 0, (-1000004)) := rfl
theorem xi_98_38 : xm_ins 98 38 = some (.ireturn, 39, 0, 0, 0) := rfl
theorem xn_99 (pc : Nat) : xm_ins 99 pc = xm_find xt_99 pc := rfl
theorem xi_99_0 : xm_ins 99 0 = some (.iconst 5, 1, 0, 0, 5) := rfl
theorem xi_99_1 : xm_ins 99 1 = some (.iload_n 1, 2, 1, 0, 0) := rfl
theorem xi_99_2 : xm_ins 99 2 = some (.imul, 3, 0, 0, 0) := rfl
theorem xi_99_3 : xm_ins 99 3 = some (.istore_n 2, 4, 2, 0, 0) := rfl
theorem xi_99_4 : xm_ins 99 4 = some (.iload_n 2, 5, 2, 0, 0) := rfl
theorem xi_99_5 : xm_ins 99 5 = some (.iconst 5, 6, 0, 0, 5) := rfl
theorem xi_99_6 : xm_ins 99 6 = some (.iload_n 1, 7, 1, 0, 0) := rfl
theorem xi_99_7 : xm_ins 99 7 = some (.imul, 8, 0, 0, 0) := rfl
theorem xi_99_8 : xm_ins 99 8 = some (.iconst 5, 9, 0, 0, 5) := rfl
theorem xi_99_9 : xm_ins 99 9 = some (.iadd, 10, 0, 0, 0) := rfl
theorem xi_99_10 : xm_ins 99 10 = some (.if_icmp .ge 21, 13, 31, 0, 0) := rfl
theorem xi_99_13 : xm_ins 99 13 = some (.aload_n 0, 14, 0, 0, 0) := rfl
theorem xi_99_14 : xm_ins 99 14 = some (.iload_n 2, 15, 2, 0, 0) := rfl
theorem xi_99_15 : xm_ins 99 15 = some (.invokevirtual 54, 18, 98, 2, 3) := rfl
theorem xi_99_18 : xm_ins 99 18 = some (.ldc 53, 20, 0, 0, (-1000004)) := rfl
theorem xi_99_20 : xm_ins 99 20 = some (.if_icmp .ne 5, 23, 25, 0, 0) := rfl
theorem xi_99_23 : xm_ins 99 23 = some (.iload_n 2, 24, 2, 0, 0) := rfl
theorem xi_99_24 : xm_ins 99 24 = some (.ireturn, 25, 0, 0, 0) := rfl
theorem xi_99_25 : xm_ins 99 25 = some (.iinc 2 1, 28, 2, 0, 1) := rfl
theorem xi_99_28 : xm_ins 99 28 = some (.goto (-24), 31, 4, 0, 0) := rfl
theorem xi_99_31 : xm_ins 99 31 = some (.ldc 53, 33, 0, 0, (-1000004)) := rfl
theorem xi_99_33 : xm_ins 99 33 = some (.ireturn, 34, 0, 0, 0) := rfl
theorem xn_100 (pc : Nat) : xm_ins 100 pc = xm_find xt_100 pc := rfl
theorem xi_100_0 : xm_ins 100 0 = some (.iconst 0, 1, 0, 0, 0) := rfl
theorem xi_100_1 : xm_ins 100 1 = some (.istore_n 2, 2, 2, 0, 0) := rfl
theorem xi_100_2 : xm_ins 100 2 = some (.iload_n 2, 3, 2, 0, 0) := rfl
theorem xi_100_3 : xm_ins 100 3 = some (.bipush 8, 5, 0, 0, 8) := rfl
theorem xi_100_5 : xm_ins 100 5 = some (.if_icmp .ge 39, 8, 44, 0, 0) := rfl
theorem xi_100_8 : xm_ins 100 8 = some (.aload_n 0, 9, 0, 0, 0) := rfl
theorem xi_100_9 : xm_ins 100 9 = some (.getfield 7, 12, 3, 0, 1) := rfl
theorem xi_100_12 : xm_ins 100 12 = some (.iconst 4, 13, 0, 0, 4) := rfl
theorem xi_100_13 : xm_ins 100 13 = some (.iload_n 2, 14, 2, 0, 0) := rfl
theorem xi_100_14 : xm_ins 100 14 = some (.iadd, 15, 0, 0, 0) := rfl
theorem xi_100_15 : xm_ins 100 15 = some (.iaload, 16, 0, 0, 0) := rfl
theorem xi_100_16 : xm_ins 100 16 = some (.iload_n 1, 17, 1, 0, 0) := rfl
theorem xi_100_17 : xm_ins 100 17 = some (.iconst 1, 18, 0, 0, 1) := rfl
theorem xi_100_18 : xm_ins 100 18 = some (.iadd, 19, 0, 0, 0) := rfl
theorem xi_100_19 : xm_ins 100 19 = some (.if_icmp .ne 19, 22, 38, 0, 0) := rfl
theorem xi_100_22 : xm_ins 100 22 = some (.aload_n 0, 23, 0, 0, 0) := rfl
theorem xi_100_23 : xm_ins 100 23 = some (.iload_n 2, 24, 2, 0, 0) := rfl
theorem xi_100_24 : xm_ins 100 24 = some (.invokevirtual 57, 27, 99, 2, 3) := rfl
theorem xi_100_27 : xm_ins 100 27 = some (.ldc 53, 29, 0, 0, (-1000004)) := rfl
theorem xi_100_29 : xm_ins 100 29 = some (.if_icmp .eq 9, 32, 38, 0, 0) := rfl
theorem xi_100_32 : xm_ins 100 32 = some (.aload_n 0, 33, 0, 0, 0) := rfl
theorem xi_100_33 : xm_ins 100 33 = some (.iload_n 2, 34, 2, 0, 0) := rfl
theorem xi_100_34 : xm_ins 100 34 = some (.invokevirtual 57, 37, 99, 2, 3) := rfl
theorem xi_100_37 : xm_ins 100 37 = some (.ireturn, 38, 0, 0, 0) := rfl
theorem xi_100_38 : xm_ins 100 38 = some (.iinc 2 1, 41, 2, 0, 1) := rfl
theorem xi_100_41 : xm_ins 100 41 = some (.goto (-39), 44, 2, 0, 0) := rfl
theorem xi_100_44 : xm_ins 100 44 = some (.iconst 0, 45, 0, 0, 0) := rfl
theorem xi_100_45 : xm_ins 100 45 = some (.istore_n 2, 46, 2, 0, 0) := rfl
theorem xi_100_46 : xm_ins 100 46 = some (.iload_n 2, 47, 2, 0, 0) := rfl
theorem xi_100_47 : xm_ins 100 47 = some (.bipush 8, 49, 0, 0, 8) := rfl
theorem xi_100_49 : xm_ins 100 49 = some (.if_icmp .ge 35, 52, 84, 0, 0) := rfl
theorem xi_100_52 : xm_ins 100 52 = some (.aload_n 0, 53, 0, 0, 0) := rfl
theorem xi_100_53 : xm_ins 100 53 = some (.getfield 7, 56, 3, 0, 1) := rfl
theorem xi_100_56 : xm_ins 100 56 = some (.iconst 4, 57, 0, 0, 4) := rfl
theorem xi_100_57 : xm_ins 100 57 = some (.iload_n 2, 58, 2, 0, 0) := rfl
theorem xi_100_58 : xm_ins 100 58 = some (.iadd, 59, 0, 0, 0) := rfl
theorem xi_100_59 : xm_ins 100 59 = some (.iaload, 60, 0, 0, 0) := rfl
theorem xi_100_60 : xm_ins 100 60 = some (.ifCond .ne 18, 63, 78, 0, 0) := rfl
theorem xi_100_63 : xm_ins 100 63 = some (.aload_n 0, 64, 0, 0, 0) := rfl
theorem xi_100_64 : xm_ins 100 64 = some (.getfield 7, 67, 3, 0, 1) := rfl
theorem xi_100_67 : xm_ins 100 67 = some (.iconst 4, 68, 0, 0, 4) := rfl
theorem xi_100_68 : xm_ins 100 68 = some (.iload_n 2, 69, 2, 0, 0) := rfl
theorem xi_100_69 : xm_ins 100 69 = some (.iadd, 70, 0, 0, 0) := rfl
theorem xi_100_70 : xm_ins 100 70 = some (.iload_n 1, 71, 1, 0, 0) := rfl
theorem xi_100_71 : xm_ins 100 71 = some (.iconst 1, 72, 0, 0, 1) := rfl
theorem xi_100_72 : xm_ins 100 72 = some (.iadd, 73, 0, 0, 0) := rfl
theorem xi_100_73 : xm_ins 100 73 = some (.iastore, 74, 0, 0, 0) := rfl
theorem xi_100_74 : xm_ins 100 74 = some (.iconst 5, 75, 0, 0, 5) := rfl
theorem xi_100_75 : xm_ins 100 75 = some (.iload_n 2, 76, 2, 0, 0) := rfl
theorem xi_100_76 : xm_ins 100 76 = some (.imul, 77, 0, 0, 0) := rfl
theorem xi_100_77 : xm_ins 100 77 = some (.ireturn, 78, 0, 0, 0) := rfl
theorem xi_100_78 : xm_ins 100 78 = some (.iinc 2 1, 81, 2, 0, 1) := rfl
theorem xi_100_81 : xm_ins 100 81 = some (.goto (-35), 84, 46, 0, 0) := rfl
theorem xi_100_84 : xm_ins 100 84 = some (.ldc 53, 86, 0, 0, (-1000004)) := rfl
theorem xi_100_86 : xm_ins 100 86 = some (.ireturn, 87, 0, 0, 0) := rfl
theorem xn_101 (pc : Nat) : xm_ins 101 pc = xm_find xt_101 pc := rfl
theorem xi_101_0 : xm_ins 101 0 = some (.iconst 0, 1, 0, 0, 0) := rfl
theorem xi_101_1 : xm_ins 101 1 = some (.istore_n 1, 2, 1, 0, 0) := rfl
theorem xi_101_2 : xm_ins 101 2 = some (.iload_n 1, 3, 1, 0, 0) := rfl
theorem xi_101_3 : xm_ins 101 3 = some (.bipush 8, 5, 0, 0, 8) := rfl
theorem xi_101_5 : xm_ins 101 5 = some (.if_icmp .ge 74, 8, 79, 0, 0) := rfl
theorem xi_101_8 : xm_ins 101 8 = some (.iconst 1, 9, 0, 0, 1) := rfl
theorem xi_101_9 : xm_ins 101 9 = some (.istore_n 2, 10, 2, 0, 0) := rfl
theorem xi_101_10 : xm_ins 101 10 = some (.iconst 5, 11, 0, 0, 5) := rfl
theorem xi_101_11 : xm_ins 101 11 = some (.iload_n 1, 12, 1, 0, 0) := rfl
theorem xi_101_12 : xm_ins 101 12 = some (.imul, 13, 0, 0, 0) := rfl
theorem xi_101_13 : xm_ins 101 13 = some (.istore_n 3, 14, 3, 0, 0) := rfl
theorem xi_101_14 : xm_ins 101 14 = some (.iload_n 3, 15, 3, 0, 0) := rfl
theorem xi_101_15 : xm_ins 101 15 = some (.iconst 5, 16, 0, 0, 5) := rfl
theorem xi_101_16 : xm_ins 101 16 = some (.iload_n 1, 17, 1, 0, 0) := rfl
theorem xi_101_17 : xm_ins 101 17 = some (.imul, 18, 0, 0, 0) := rfl
theorem xi_101_18 : xm_ins 101 18 = some (.iconst 5, 19, 0, 0, 5) := rfl
theorem xi_101_19 : xm_ins 101 19 = some (.iadd, 20, 0, 0, 0) := rfl
theorem xi_101_20 : xm_ins 101 20 = some (.if_icmp .ge 29, 23, 49, 0, 0) := rfl
theorem xi_101_23 : xm_ins 101 23 = some (.iload_n 2, 24, 2, 0, 0) := rfl
theorem xi_101_24 : xm_ins 101 24 = some (.ifCond .eq 17, 27, 41, 0, 0) := rfl
theorem xi_101_27 : xm_ins 101 27 = some (.aload_n 0, 28, 0, 0, 0) := rfl
theorem xi_101_28 : xm_ins 101 28 = some (.iload_n 3, 29, 3, 0, 0) := rfl
theorem xi_101_29 : xm_ins 101 29 = some (.invokevirtual 54, 32, 98, 2, 3) := rfl
theorem xi_101_32 : xm_ins 101 32 = some (.ldc 53, 34, 0, 0, (-1000004)) := rfl
theorem xi_101_34 : xm_ins 101 34 = some (.if_icmp .ne 7, 37, 41, 0, 0) := rfl
theorem xi_101_37 : xm_ins 101 37 = some (.iconst 1, 38, 0, 0, 1) := rfl
theorem xi_101_38 : xm_ins 101 38 = some (.goto 4, 41, 42, 0, 0) := rfl
theorem xi_101_41 : xm_ins 101 41 = some (.iconst 0, 42, 0, 0, 0) := rfl
theorem xi_101_42 : xm_ins 101 42 = some (.istore_n 2, 43, 2, 0, 0) := rfl
theorem xi_101_43 : xm_ins 101 43 = some (.iinc 3 1, 46, 3, 0, 1) := rfl
theorem xi_101_46 : xm_ins 101 46 = some (.goto (-32), 49, 14, 0, 0) := rfl
theorem xi_101_49 : xm_ins 101 49 = some (.aload_n 0, 50, 0, 0, 0) := rfl
theorem xi_101_50 : xm_ins 101 50 = some (.getfield 7, 53, 3, 0, 1) := rfl
theorem xi_101_53 : xm_ins 101 53 = some (.iconst 4, 54, 0, 0, 4) := rfl
theorem xi_101_54 : xm_ins 101 54 = some (.iload_n 1, 55, 1, 0, 0) := rfl
theorem xi_101_55 : xm_ins 101 55 = some (.iadd, 56, 0, 0, 0) := rfl
theorem xi_101_56 : xm_ins 101 56 = some (.iload_n 2, 57, 2, 0, 0) := rfl
theorem xi_101_57 : xm_ins 101 57 = some (.ifCond .eq 7, 60, 64, 0, 0) := rfl
theorem xi_101_60 : xm_ins 101 60 = some (.iconst 0, 61, 0, 0, 0) := rfl
theorem xi_101_61 : xm_ins 101 61 = some (.goto 11, 64, 72, 0, 0) := rfl
theorem xi_101_64 : xm_ins 101 64 = some (.aload_n 0, 65, 0, 0, 0) := rfl
theorem xi_101_65 : xm_ins 101 65 = some (.getfield 7, 68, 3, 0, 1) := rfl
theorem xi_101_68 : xm_ins 101 68 = some (.iconst 4, 69, 0, 0, 4) := rfl
theorem xi_101_69 : xm_ins 101 69 = some (.iload_n 1, 70, 1, 0, 0) := rfl
theorem xi_101_70 : xm_ins 101 70 = some (.iadd, 71, 0, 0, 0) := rfl
theorem xi_101_71 : xm_ins 101 71 = some (.iaload, 72, 0, 0, 0) := rfl
theorem xi_101_72 : xm_ins 101 72 = some (.iastore, 73, 0, 0, 0) := rfl
theorem xi_101_73 : xm_ins 101 73 = some (.iinc 1 1, 76, 1, 0, 1) := rfl
theorem xi_101_76 : xm_ins 101 76 = some (.goto (-74), 79, 2, 0, 0) := rfl
theorem xi_101_79 : xm_ins 101 79 = some (.return_, 80, 0, 0, 0) := rfl
theorem xn_102 (pc : Nat) : xm_ins 102 pc = xm_find xt_102 pc := rfl
theorem xi_102_0 : xm_ins 102 0 = some (.aload_n 0, 1, 0, 0, 0) := rfl
theorem xi_102_1 : xm_ins 102 1 = some (.iconst 0, 2, 0, 0, 0) := rfl
theorem xi_102_2 : xm_ins 102 2 = some (.sipush 980, 5, 0, 0, 980) := rfl
theorem xi_102_5 : xm_ins 102 5 = some (.invokevirtual 37, 8, 92, 3, 3) := rfl
theorem xi_102_8 : xm_ins 102 8 = some (.aload_n 0, 9, 0, 0, 0) := rfl
theorem xi_102_9 : xm_ins 102 9 = some (.iconst 0, 10, 0, 0, 0) := rfl
theorem xi_102_10 : xm_ins 102 10 = some (.invokevirtual 60, 13, 100, 2, 3) := rfl
theorem xi_102_13 : xm_ins 102 13 = some (.ldc 53, 15, 0, 0, (-1000004)) := rfl
theorem xi_102_15 : xm_ins 102 15 = some (.if_icmp .eq 7, 18, 22, 0, 0) := rfl
theorem xi_102_18 : xm_ins 102 18 = some (.iconst 1, 19, 0, 0, 1) := rfl
theorem xi_102_19 : xm_ins 102 19 = some (.goto 4, 22, 23, 0, 0) := rfl
theorem xi_102_22 : xm_ins 102 22 = some (.iconst 0, 23, 0, 0, 0) := rfl
theorem xi_102_23 : xm_ins 102 23 = some (.istore_n 1, 24, 1, 0, 0) := rfl
theorem xi_102_24 : xm_ins 102 24 = some (.aload_n 0, 25, 0, 0, 0) := rfl
theorem xi_102_25 : xm_ins 102 25 = some (.sipush 980, 28, 0, 0, 980) := rfl
theorem xi_102_28 : xm_ins 102 28 = some (.iconst 0, 29, 0, 0, 0) := rfl
theorem xi_102_29 : xm_ins 102 29 = some (.invokevirtual 37, 32, 92, 3, 3) := rfl
theorem xi_102_32 : xm_ins 102 32 = some (.iload_n 1, 33, 1, 0, 0) := rfl
theorem xi_102_33 : xm_ins 102 33 = some (.ifCond .ne 8, 36, 41, 0, 0) := rfl
theorem xi_102_36 : xm_ins 102 36 = some (.ldc 41, 38, 0, 0, (-1000002)) := rfl
theorem xi_102_38 : xm_ins 102 38 = some (.goto 20, 41, 58, 0, 0) := rfl
theorem xi_102_41 : xm_ins 102 41 = some (.aload_n 0, 42, 0, 0, 0) := rfl
theorem xi_102_42 : xm_ins 102 42 = some (.getfield 7, 45, 3, 0, 1) := rfl
theorem xi_102_45 : xm_ins 102 45 = some (.iconst 0, 46, 0, 0, 0) := rfl
theorem xi_102_46 : xm_ins 102 46 = some (.iaload, 47, 0, 0, 0) := rfl
theorem xi_102_47 : xm_ins 102 47 = some (.bipush 30, 49, 0, 0, 30) := rfl
theorem xi_102_49 : xm_ins 102 49 = some (.if_icmp .ne 8, 52, 57, 0, 0) := rfl
theorem xi_102_52 : xm_ins 102 52 = some (.ldc 63, 54, 0, 0, (-1000003)) := rfl
theorem xi_102_54 : xm_ins 102 54 = some (.goto 4, 57, 58, 0, 0) := rfl
theorem xi_102_57 : xm_ins 102 57 = some (.iconst 0, 58, 0, 0, 0) := rfl
theorem xi_102_58 : xm_ins 102 58 = some (.ireturn, 59, 0, 0, 0) := rfl
theorem xn_103 (pc : Nat) : xm_ins 103 pc = xm_find xt_103 pc := rfl
theorem xi_103_0 : xm_ins 103 0 = some (.aload_n 0, 1, 0, 0, 0) := rfl
theorem xi_103_1 : xm_ins 103 1 = some (.getfield 7, 4, 3, 0, 1) := rfl
theorem xi_103_4 : xm_ins 103 4 = some (.iconst 0, 5, 0, 0, 0) := rfl
theorem xi_103_5 : xm_ins 103 5 = some (.iaload, 6, 0, 0, 0) := rfl
theorem xi_103_6 : xm_ins 103 6 = some (.istore_n 1, 7, 1, 0, 0) := rfl
theorem xi_103_7 : xm_ins 103 7 = some (.aload_n 0, 8, 0, 0, 0) := rfl
theorem xi_103_8 : xm_ins 103 8 = some (.iconst 0, 9, 0, 0, 0) := rfl
theorem xi_103_9 : xm_ins 103 9 = some (.invokevirtual 60, 12, 100, 2, 3) := rfl
theorem xi_103_12 : xm_ins 103 12 = some (.istore_n 2, 13, 2, 0, 0) := rfl
theorem xi_103_13 : xm_ins 103 13 = some (.iconst 0, 14, 0, 0, 0) := rfl
theorem xi_103_14 : xm_ins 103 14 = some (.istore_n 3, 15, 3, 0, 0) := rfl
theorem xi_103_15 : xm_ins 103 15 = some (.iload_n 3, 16, 3, 0, 0) := rfl
theorem xi_103_16 : xm_ins 103 16 = some (.bipush 6, 18, 0, 0, 6) := rfl
theorem xi_103_18 : xm_ins 103 18 = some (.if_icmp .ge 20, 21, 38, 0, 0) := rfl
theorem xi_103_21 : xm_ins 103 21 = some (.aload_n 0, 22, 0, 0, 0) := rfl
theorem xi_103_22 : xm_ins 103 22 = some (.getfield 7, 25, 3, 0, 1) := rfl
theorem xi_103_25 : xm_ins 103 25 = some (.iload_n 1, 26, 1, 0, 0) := rfl
theorem xi_103_26 : xm_ins 103 26 = some (.iload_n 3, 27, 3, 0, 0) := rfl
theorem xi_103_27 : xm_ins 103 27 = some (.invokestatic 29, 30, 86, 2, 3) := rfl
theorem xi_103_30 : xm_ins 103 30 = some (.iconst 0, 31, 0, 0, 0) := rfl
theorem xi_103_31 : xm_ins 103 31 = some (.iastore, 32, 0, 0, 0) := rfl
theorem xi_103_32 : xm_ins 103 32 = some (.iinc 3 1, 35, 3, 0, 1) := rfl
theorem xi_103_35 : xm_ins 103 35 = some (.goto (-20), 38, 15, 0, 0) := rfl
theorem xi_103_38 : xm_ins 103 38 = some (.aload_n 0, 39, 0, 0, 0) := rfl
theorem xi_103_39 : xm_ins 103 39 = some (.getfield 7, 42, 3, 0, 1) := rfl
theorem xi_103_42 : xm_ins 103 42 = some (.iload_n 1, 43, 1, 0, 0) := rfl
theorem xi_103_43 : xm_ins 103 43 = some (.iconst 0, 44, 0, 0, 0) := rfl
theorem xi_103_44 : xm_ins 103 44 = some (.invokestatic 29, 47, 86, 2, 3) := rfl
theorem xi_103_47 : xm_ins 103 47 = some (.iload_n 2, 48, 2, 0, 0) := rfl
theorem xi_103_48 : xm_ins 103 48 = some (.iconst 1, 49, 0, 0, 1) := rfl
theorem xi_103_49 : xm_ins 103 49 = some (.iadd, 50, 0, 0, 0) := rfl
theorem xi_103_50 : xm_ins 103 50 = some (.iastore, 51, 0, 0, 0) := rfl
theorem xi_103_51 : xm_ins 103 51 = some (.aload_n 0, 52, 0, 0, 0) := rfl
theorem xi_103_52 : xm_ins 103 52 = some (.getfield 7, 55, 3, 0, 1) := rfl
theorem xi_103_55 : xm_ins 103 55 = some (.iconst 0, 56, 0, 0, 0) := rfl
theorem xi_103_56 : xm_ins 103 56 = some (.dup2, 57, 0, 0, 0) := rfl
theorem xi_103_57 : xm_ins 103 57 = some (.iaload, 58, 0, 0, 0) := rfl
theorem xi_103_58 : xm_ins 103 58 = some (.iconst 1, 59, 0, 0, 1) := rfl
theorem xi_103_59 : xm_ins 103 59 = some (.iadd, 60, 0, 0, 0) := rfl
theorem xi_103_60 : xm_ins 103 60 = some (.iastore, 61, 0, 0, 0) := rfl
theorem xi_103_61 : xm_ins 103 61 = some (.iload_n 1, 62, 1, 0, 0) := rfl
theorem xi_103_62 : xm_ins 103 62 = some (.ireturn, 63, 0, 0, 0) := rfl
theorem xn_104 (pc : Nat) : xm_ins 104 pc = xm_find xt_104 pc := rfl
theorem xi_104_0 : xm_ins 104 0 = some (.aload_n 0, 1, 0, 0, 0) := rfl
theorem xi_104_1 : xm_ins 104 1 = some (.invokevirtual 64, 4, 102, 1, 3) := rfl
theorem xi_104_4 : xm_ins 104 4 = some (.istore_n 1, 5, 1, 0, 0) := rfl
theorem xi_104_5 : xm_ins 104 5 = some (.iload_n 1, 6, 1, 0, 0) := rfl
theorem xi_104_6 : xm_ins 104 6 = some (.ifCond .eq 5, 9, 11, 0, 0) := rfl
theorem xi_104_9 : xm_ins 104 9 = some (.iload_n 1, 10, 1, 0, 0) := rfl
theorem xi_104_10 : xm_ins 104 10 = some (.ireturn, 11, 0, 0, 0) := rfl
theorem xi_104_11 : xm_ins 104 11 = some (.aload_n 0, 12, 0, 0, 0) := rfl
theorem xi_104_12 : xm_ins 104 12 = some (.iconst 0, 13, 0, 0, 0) := rfl
theorem xi_104_13 : xm_ins 104 13 = some (.invokevirtual 68, 16, 93, 2, 3) := rfl
theorem xi_104_16 : xm_ins 104 16 = some (.aload_n 0, 17, 0, 0, 0) := rfl
theorem xi_104_17 : xm_ins 104 17 = some (.invokevirtual 72, 20, 103, 1, 3) := rfl
theorem xi_104_20 : xm_ins 104 20 = some (.ireturn, 21, 0, 0, 0) := rfl
theorem xn_105 (pc : Nat) : xm_ins 105 pc = xm_find xt_105 pc := rfl
theorem xi_105_0 : xm_ins 105 0 = some (.iload_n 1, 1, 1, 0, 0) := rfl
theorem xi_105_1 : xm_ins 105 1 = some (.invokestatic 75, 4, 88, 1, 3) := rfl
theorem xi_105_4 : xm_ins 105 4 = some (.ifCond .eq 15, 7, 19, 0, 0) := rfl
theorem xi_105_7 : xm_ins 105 7 = some (.aload_n 0, 8, 0, 0, 0) := rfl
theorem xi_105_8 : xm_ins 105 8 = some (.iload_n 2, 9, 2, 0, 0) := rfl
theorem xi_105_9 : xm_ins 105 9 = some (.invokevirtual 46, 12, 87, 2, 3) := rfl
theorem xi_105_12 : xm_ins 105 12 = some (.ifCond .eq 7, 15, 19, 0, 0) := rfl
theorem xi_105_15 : xm_ins 105 15 = some (.iconst 0, 16, 0, 0, 0) := rfl
theorem xi_105_16 : xm_ins 105 16 = some (.goto 5, 19, 21, 0, 0) := rfl
theorem xi_105_19 : xm_ins 105 19 = some (.ldc 78, 21, 0, 0, (-1000001)) := rfl
theorem xi_105_21 : xm_ins 105 21 = some (.ireturn, 22, 0, 0, 0) := rfl
theorem xn_106 (pc : Nat) : xm_ins 106 pc = xm_find xt_106 pc := rfl
theorem xi_106_0 : xm_ins 106 0 = some (.aload_n 0, 1, 0, 0, 0) := rfl
theorem xi_106_1 : xm_ins 106 1 = some (.getfield 7, 4, 3, 0, 1) := rfl
theorem xi_106_4 : xm_ins 106 4 = some (.bipush 12, 6, 0, 0, 12) := rfl
theorem xi_106_6 : xm_ins 106 6 = some (.iload_n 1, 7, 1, 0, 0) := rfl
theorem xi_106_7 : xm_ins 106 7 = some (.iadd, 8, 0, 0, 0) := rfl
theorem xi_106_8 : xm_ins 106 8 = some (.iload_n 2, 9, 2, 0, 0) := rfl
theorem xi_106_9 : xm_ins 106 9 = some (.iconst 1, 10, 0, 0, 1) := rfl
theorem xi_106_10 : xm_ins 106 10 = some (.iadd, 11, 0, 0, 0) := rfl
theorem xi_106_11 : xm_ins 106 11 = some (.iastore, 12, 0, 0, 0) := rfl
theorem xi_106_12 : xm_ins 106 12 = some (.iconst 0, 13, 0, 0, 0) := rfl
theorem xi_106_13 : xm_ins 106 13 = some (.istore_n 3, 14, 3, 0, 0) := rfl
theorem xi_106_14 : xm_ins 106 14 = some (.iconst 0, 15, 0, 0, 0) := rfl
theorem xi_106_15 : xm_ins 106 15 = some (.istore 4, 17, 4, 0, 0) := rfl
theorem xi_106_17 : xm_ins 106 17 = some (.iload 4, 19, 4, 0, 0) := rfl
theorem xi_106_19 : xm_ins 106 19 = some (.iconst 4, 20, 0, 0, 4) := rfl
theorem xi_106_20 : xm_ins 106 20 = some (.if_icmp .ge 30, 23, 50, 0, 0) := rfl
theorem xi_106_23 : xm_ins 106 23 = some (.iload_n 3, 24, 3, 0, 0) := rfl
theorem xi_106_24 : xm_ins 106 24 = some (.aload_n 0, 25, 0, 0, 0) := rfl
theorem xi_106_25 : xm_ins 106 25 = some (.getfield 7, 28, 3, 0, 1) := rfl
theorem xi_106_28 : xm_ins 106 28 = some (.bipush 12, 30, 0, 0, 12) := rfl
theorem xi_106_30 : xm_ins 106 30 = some (.iload 4, 32, 4, 0, 0) := rfl
theorem xi_106_32 : xm_ins 106 32 = some (.iadd, 33, 0, 0, 0) := rfl
theorem xi_106_33 : xm_ins 106 33 = some (.iaload, 34, 0, 0, 0) := rfl
theorem xi_106_34 : xm_ins 106 34 = some (.ifCond .le 7, 37, 41, 0, 0) := rfl
theorem xi_106_37 : xm_ins 106 37 = some (.iconst 1, 38, 0, 0, 1) := rfl
theorem xi_106_38 : xm_ins 106 38 = some (.goto 4, 41, 42, 0, 0) := rfl
theorem xi_106_41 : xm_ins 106 41 = some (.iconst 0, 42, 0, 0, 0) := rfl
theorem xi_106_42 : xm_ins 106 42 = some (.iadd, 43, 0, 0, 0) := rfl
theorem xi_106_43 : xm_ins 106 43 = some (.istore_n 3, 44, 3, 0, 0) := rfl
theorem xi_106_44 : xm_ins 106 44 = some (.iinc 4 1, 47, 4, 0, 1) := rfl
theorem xi_106_47 : xm_ins 106 47 = some (.goto (-30), 50, 17, 0, 0) := rfl
theorem xi_106_50 : xm_ins 106 50 = some (.iload_n 3, 51, 3, 0, 0) := rfl
theorem xi_106_51 : xm_ins 106 51 = some (.ireturn, 52, 0, 0, 0) := rfl
theorem xn_107 (pc : Nat) : xm_ins 107 pc = xm_find xt_107 pc := rfl
theorem xi_107_0 : xm_ins 107 0 = some (.aload_n 0, 1, 0, 0, 0) := rfl
theorem xi_107_1 : xm_ins 107 1 = some (.iload_n 1, 2, 1, 0, 0) := rfl
theorem xi_107_2 : xm_ins 107 2 = some (.iload_n 2, 3, 2, 0, 0) := rfl
theorem xi_107_3 : xm_ins 107 3 = some (.invokevirtual 79, 6, 105, 3, 3) := rfl
theorem xi_107_6 : xm_ins 107 6 = some (.istore_n 3, 7, 3, 0, 0) := rfl
theorem xi_107_7 : xm_ins 107 7 = some (.iload_n 3, 8, 3, 0, 0) := rfl
theorem xi_107_8 : xm_ins 107 8 = some (.ifCond .eq 5, 11, 13, 0, 0) := rfl
theorem xi_107_11 : xm_ins 107 11 = some (.iload_n 3, 12, 3, 0, 0) := rfl
theorem xi_107_12 : xm_ins 107 12 = some (.ireturn, 13, 0, 0, 0) := rfl
theorem xi_107_13 : xm_ins 107 13 = some (.aload_n 0, 14, 0, 0, 0) := rfl
theorem xi_107_14 : xm_ins 107 14 = some (.iconst 0, 15, 0, 0, 0) := rfl
theorem xi_107_15 : xm_ins 107 15 = some (.invokevirtual 68, 18, 93, 2, 3) := rfl
theorem xi_107_18 : xm_ins 107 18 = some (.aload_n 0, 19, 0, 0, 0) := rfl
theorem xi_107_19 : xm_ins 107 19 = some (.iload_n 1, 20, 1, 0, 0) := rfl
theorem xi_107_20 : xm_ins 107 20 = some (.iload_n 2, 21, 2, 0, 0) := rfl
theorem xi_107_21 : xm_ins 107 21 = some (.invokevirtual 82, 24, 106, 3, 3) := rfl
theorem xi_107_24 : xm_ins 107 24 = some (.ireturn, 25, 0, 0, 0) := rfl
theorem xn_108 (pc : Nat) : xm_ins 108 pc = xm_find xt_108 pc := rfl
theorem xi_108_0 : xm_ins 108 0 = some (.iload_n 1, 1, 1, 0, 0) := rfl
theorem xi_108_1 : xm_ins 108 1 = some (.invokestatic 75, 4, 88, 1, 3) := rfl
theorem xi_108_4 : xm_ins 108 4 = some (.ifCond .ne 8, 7, 12, 0, 0) := rfl
theorem xi_108_7 : xm_ins 108 7 = some (.ldc 78, 9, 0, 0, (-1000001)) := rfl
theorem xi_108_9 : xm_ins 108 9 = some (.goto 21, 12, 30, 0, 0) := rfl
theorem xi_108_12 : xm_ins 108 12 = some (.aload_n 0, 13, 0, 0, 0) := rfl
theorem xi_108_13 : xm_ins 108 13 = some (.getfield 7, 16, 3, 0, 1) := rfl
theorem xi_108_16 : xm_ins 108 16 = some (.bipush 12, 18, 0, 0, 12) := rfl
theorem xi_108_18 : xm_ins 108 18 = some (.iload_n 1, 19, 1, 0, 0) := rfl
theorem xi_108_19 : xm_ins 108 19 = some (.iadd, 20, 0, 0, 0) := rfl
theorem xi_108_20 : xm_ins 108 20 = some (.iaload, 21, 0, 0, 0) := rfl
theorem xi_108_21 : xm_ins 108 21 = some (.ifCond .ne 8, 24, 29, 0, 0) := rfl
theorem xi_108_24 : xm_ins 108 24 = some (.ldc 41, 26, 0, 0, (-1000002)) := rfl
theorem xi_108_26 : xm_ins 108 26 = some (.goto 4, 29, 30, 0, 0) := rfl
theorem xi_108_29 : xm_ins 108 29 = some (.iconst 0, 30, 0, 0, 0) := rfl
theorem xi_108_30 : xm_ins 108 30 = some (.ireturn, 31, 0, 0, 0) := rfl
theorem xn_109 (pc : Nat) : xm_ins 109 pc = xm_find xt_109 pc := rfl
theorem xi_109_0 : xm_ins 109 0 = some (.aload_n 0, 1, 0, 0, 0) := rfl
theorem xi_109_1 : xm_ins 109 1 = some (.getfield 7, 4, 3, 0, 1) := rfl
theorem xi_109_4 : xm_ins 109 4 = some (.bipush 12, 6, 0, 0, 12) := rfl
theorem xi_109_6 : xm_ins 109 6 = some (.iload_n 1, 7, 1, 0, 0) := rfl
theorem xi_109_7 : xm_ins 109 7 = some (.iadd, 8, 0, 0, 0) := rfl
theorem xi_109_8 : xm_ins 109 8 = some (.iaload, 9, 0, 0, 0) := rfl
theorem xi_109_9 : xm_ins 109 9 = some (.iconst 1, 10, 0, 0, 1) := rfl
theorem xi_109_10 : xm_ins 109 10 = some (.isub, 11, 0, 0, 0) := rfl
theorem xi_109_11 : xm_ins 109 11 = some (.istore_n 2, 12, 2, 0, 0) := rfl
theorem xi_109_12 : xm_ins 109 12 = some (.aload_n 0, 13, 0, 0, 0) := rfl
theorem xi_109_13 : xm_ins 109 13 = some (.getfield 7, 16, 3, 0, 1) := rfl
theorem xi_109_16 : xm_ins 109 16 = some (.bipush 12, 18, 0, 0, 12) := rfl
theorem xi_109_18 : xm_ins 109 18 = some (.iload_n 1, 19, 1, 0, 0) := rfl
theorem xi_109_19 : xm_ins 109 19 = some (.iadd, 20, 0, 0, 0) := rfl
theorem xi_109_20 : xm_ins 109 20 = some (.iconst 0, 21, 0, 0, 0) := rfl
theorem xi_109_21 : xm_ins 109 21 = some (.iastore, 22, 0, 0, 0) := rfl
theorem xi_109_22 : xm_ins 109 22 = some (.iload_n 2, 23, 2, 0, 0) := rfl
theorem xi_109_23 : xm_ins 109 23 = some (.ireturn, 24, 0, 0, 0) := rfl
theorem xn_110 (pc : Nat) : xm_ins 110 pc = xm_find xt_110 pc := rfl
theorem xi_110_0 : xm_ins 110 0 = some (.aload_n 0, 1, 0, 0, 0) := rfl
theorem xi_110_1 : xm_ins 110 1 = some (.iload_n 1, 2, 1, 0, 0) := rfl
theorem xi_110_2 : xm_ins 110 2 = some (.invokevirtual 85, 5, 108, 2, 3) := rfl
theorem xi_110_5 : xm_ins 110 5 = some (.istore_n 2, 6, 2, 0, 0) := rfl
theorem xi_110_6 : xm_ins 110 6 = some (.iload_n 2, 7, 2, 0, 0) := rfl
theorem xi_110_7 : xm_ins 110 7 = some (.ifCond .eq 5, 10, 12, 0, 0) := rfl
theorem xi_110_10 : xm_ins 110 10 = some (.iload_n 2, 11, 2, 0, 0) := rfl
theorem xi_110_11 : xm_ins 110 11 = some (.ireturn, 12, 0, 0, 0) := rfl
theorem xi_110_12 : xm_ins 110 12 = some (.aload_n 0, 13, 0, 0, 0) := rfl
theorem xi_110_13 : xm_ins 110 13 = some (.iconst 0, 14, 0, 0, 0) := rfl
theorem xi_110_14 : xm_ins 110 14 = some (.invokevirtual 68, 17, 93, 2, 3) := rfl
theorem xi_110_17 : xm_ins 110 17 = some (.aload_n 0, 18, 0, 0, 0) := rfl
theorem xi_110_18 : xm_ins 110 18 = some (.iload_n 1, 19, 1, 0, 0) := rfl
theorem xi_110_19 : xm_ins 110 19 = some (.invokevirtual 88, 22, 109, 2, 3) := rfl
theorem xi_110_22 : xm_ins 110 22 = some (.ireturn, 23, 0, 0, 0) := rfl
theorem xn_111 (pc : Nat) : xm_ins 111 pc = xm_find xt_111 pc := rfl
theorem xi_111_0 : xm_ins 111 0 = some (.aload_n 0, 1, 0, 0, 0) := rfl
theorem xi_111_1 : xm_ins 111 1 = some (.iload_n 1, 2, 1, 0, 0) := rfl
theorem xi_111_2 : xm_ins 111 2 = some (.invokevirtual 46, 5, 87, 2, 3) := rfl
theorem xi_111_5 : xm_ins 111 5 = some (.ifCond .eq 22, 8, 27, 0, 0) := rfl
theorem xi_111_8 : xm_ins 111 8 = some (.iload_n 2, 9, 2, 0, 0) := rfl
theorem xi_111_9 : xm_ins 111 9 = some (.invokestatic 91, 12, 89, 1, 3) := rfl
theorem xi_111_12 : xm_ins 111 12 = some (.ifCond .eq 15, 15, 27, 0, 0) := rfl
theorem xi_111_15 : xm_ins 111 15 = some (.aload_n 0, 16, 0, 0, 0) := rfl
theorem xi_111_16 : xm_ins 111 16 = some (.iload_n 3, 17, 3, 0, 0) := rfl
theorem xi_111_17 : xm_ins 111 17 = some (.invokevirtual 46, 20, 87, 2, 3) := rfl
theorem xi_111_20 : xm_ins 111 20 = some (.ifCond .eq 7, 23, 27, 0, 0) := rfl
theorem xi_111_23 : xm_ins 111 23 = some (.iconst 0, 24, 0, 0, 0) := rfl
theorem xi_111_24 : xm_ins 111 24 = some (.goto 5, 27, 29, 0, 0) := rfl
theorem xi_111_27 : xm_ins 111 27 = some (.ldc 78, 29, 0, 0, (-1000001)) := rfl
theorem xi_111_29 : xm_ins 111 29 = some (.ireturn, 30, 0, 0, 0) := rfl
theorem xn_112 (pc : Nat) : xm_ins 112 pc = xm_find xt_112 pc := rfl
theorem xi_112_0 : xm_ins 112 0 = some (.aload_n 0, 1, 0, 0, 0) := rfl
theorem xi_112_1 : xm_ins 112 1 = some (.getfield 7, 4, 3, 0, 1) := rfl
theorem xi_112_4 : xm_ins 112 4 = some (.iload_n 1, 5, 1, 0, 0) := rfl
theorem xi_112_5 : xm_ins 112 5 = some (.iconst 2, 6, 0, 0, 2) := rfl
theorem xi_112_6 : xm_ins 112 6 = some (.iload_n 2, 7, 2, 0, 0) := rfl
theorem xi_112_7 : xm_ins 112 7 = some (.iadd, 8, 0, 0, 0) := rfl
theorem xi_112_8 : xm_ins 112 8 = some (.invokestatic 29, 11, 86, 2, 3) := rfl
theorem xi_112_11 : xm_ins 112 11 = some (.iload_n 3, 12, 3, 0, 0) := rfl
theorem xi_112_12 : xm_ins 112 12 = some (.iconst 1, 13, 0, 0, 1) := rfl
theorem xi_112_13 : xm_ins 112 13 = some (.iadd, 14, 0, 0, 0) := rfl
theorem xi_112_14 : xm_ins 112 14 = some (.iastore, 15, 0, 0, 0) := rfl
theorem xi_112_15 : xm_ins 112 15 = some (.aload_n 0, 16, 0, 0, 0) := rfl
theorem xi_112_16 : xm_ins 112 16 = some (.iload_n 3, 17, 3, 0, 0) := rfl
theorem xi_112_17 : xm_ins 112 17 = some (.invokevirtual 50, 20, 96, 2, 3) := rfl
theorem xi_112_20 : xm_ins 112 20 = some (.aload_n 0, 21, 0, 0, 0) := rfl
theorem xi_112_21 : xm_ins 112 21 = some (.iload_n 1, 22, 1, 0, 0) := rfl
theorem xi_112_22 : xm_ins 112 22 = some (.invokevirtual 50, 25, 96, 2, 3) := rfl
theorem xi_112_25 : xm_ins 112 25 = some (.if_icmp .ge 7, 28, 32, 0, 0) := rfl
theorem xi_112_28 : xm_ins 112 28 = some (.iconst 1, 29, 0, 0, 1) := rfl
theorem xi_112_29 : xm_ins 112 29 = some (.goto 4, 32, 33, 0, 0) := rfl
theorem xi_112_32 : xm_ins 112 32 = some (.iconst 0, 33, 0, 0, 0) := rfl
theorem xi_112_33 : xm_ins 112 33 = some (.ireturn, 34, 0, 0, 0) := rfl
theorem xn_113 (pc : Nat) : xm_ins 113 pc = xm_find xt_113 pc := rfl
theorem xi_113_0 : xm_ins 113 0 = some (.aload_n 0, 1, 0, 0, 0) := rfl
theorem xi_113_1 : xm_ins 113 1 = some (.iload_n 1, 2, 1, 0, 0) := rfl
theorem xi_113_2 : xm_ins 113 2 = some (.iload_n 2, 3, 2, 0, 0) := rfl
theorem xi_113_3 : xm_ins 113 3 = some (.iload_n 3, 4, 3, 0, 0) := rfl
theorem xi_113_4 : xm_ins 113 4 = some (.invokevirtual 94, 7, 111, 4, 3) := rfl
theorem xi_113_7 : xm_ins 113 7 = some (.istore 4, 9, 4, 0, 0) := rfl
theorem xi_113_9 : xm_ins 113 9 = some (.iload 4, 11, 4, 0, 0) := rfl
theorem xi_113_11 : xm_ins 113 11 = some (.ifCond .eq 6, 14, 17, 0, 0) := rfl
theorem xi_113_14 : xm_ins 113 14 = some (.iload 4, 16, 4, 0, 0) := rfl
theorem xi_113_16 : xm_ins 113 16 = some (.ireturn, 17, 0, 0, 0) := rfl
theorem xi_113_17 : xm_ins 113 17 = some (.aload_n 0, 18, 0, 0, 0) := rfl
theorem xi_113_18 : xm_ins 113 18 = some (.iconst 0, 19, 0, 0, 0) := rfl
theorem xi_113_19 : xm_ins 113 19 = some (.invokevirtual 68, 22, 93, 2, 3) := rfl
theorem xi_113_22 : xm_ins 113 22 = some (.aload_n 0, 23, 0, 0, 0) := rfl
theorem xi_113_23 : xm_ins 113 23 = some (.iload_n 1, 24, 1, 0, 0) := rfl
theorem xi_113_24 : xm_ins 113 24 = some (.iload_n 2, 25, 2, 0, 0) := rfl
theorem xi_113_25 : xm_ins 113 25 = some (.iload_n 3, 26, 3, 0, 0) := rfl
theorem xi_113_26 : xm_ins 113 26 = some (.invokevirtual 98, 29, 112, 4, 3) := rfl
theorem xi_113_29 : xm_ins 113 29 = some (.ireturn, 30, 0, 0, 0) := rfl
theorem xn_114 (pc : Nat) : xm_ins 114 pc = xm_find xt_114 pc := rfl
theorem xi_114_0 : xm_ins 114 0 = some (.aload_n 0, 1, 0, 0, 0) := rfl
theorem xi_114_1 : xm_ins 114 1 = some (.iload_n 1, 2, 1, 0, 0) := rfl
theorem xi_114_2 : xm_ins 114 2 = some (.invokevirtual 46, 5, 87, 2, 3) := rfl
theorem xi_114_5 : xm_ins 114 5 = some (.ifCond .eq 10, 8, 15, 0, 0) := rfl
theorem xi_114_8 : xm_ins 114 8 = some (.iload_n 2, 9, 2, 0, 0) := rfl
theorem xi_114_9 : xm_ins 114 9 = some (.invokestatic 91, 12, 89, 1, 3) := rfl
theorem xi_114_12 : xm_ins 114 12 = some (.ifCond .ne 8, 15, 20, 0, 0) := rfl
theorem xi_114_15 : xm_ins 114 15 = some (.ldc 78, 17, 0, 0, (-1000001)) := rfl
theorem xi_114_17 : xm_ins 114 17 = some (.goto 24, 20, 41, 0, 0) := rfl
theorem xi_114_20 : xm_ins 114 20 = some (.aload_n 0, 21, 0, 0, 0) := rfl
theorem xi_114_21 : xm_ins 114 21 = some (.getfield 7, 24, 3, 0, 1) := rfl
theorem xi_114_24 : xm_ins 114 24 = some (.iload_n 1, 25, 1, 0, 0) := rfl
theorem xi_114_25 : xm_ins 114 25 = some (.iconst 2, 26, 0, 0, 2) := rfl
theorem xi_114_26 : xm_ins 114 26 = some (.iload_n 2, 27, 2, 0, 0) := rfl
theorem xi_114_27 : xm_ins 114 27 = some (.iadd, 28, 0, 0, 0) := rfl
theorem xi_114_28 : xm_ins 114 28 = some (.invokestatic 29, 31, 86, 2, 3) := rfl
theorem xi_114_31 : xm_ins 114 31 = some (.iaload, 32, 0, 0, 0) := rfl
theorem xi_114_32 : xm_ins 114 32 = some (.ifCond .ne 8, 35, 40, 0, 0) := rfl
theorem xi_114_35 : xm_ins 114 35 = some (.ldc 41, 37, 0, 0, (-1000002)) := rfl
theorem xi_114_37 : xm_ins 114 37 = some (.goto 4, 40, 41, 0, 0) := rfl
theorem xi_114_40 : xm_ins 114 40 = some (.iconst 0, 41, 0, 0, 0) := rfl
theorem xi_114_41 : xm_ins 114 41 = some (.ireturn, 42, 0, 0, 0) := rfl
theorem xn_115 (pc : Nat) : xm_ins 115 pc = xm_find xt_115 pc := rfl
theorem xi_115_0 : xm_ins 115 0 = some (.aload_n 0, 1, 0, 0, 0) := rfl
theorem xi_115_1 : xm_ins 115 1 = some (.getfield 7, 4, 3, 0, 1) := rfl
theorem xi_115_4 : xm_ins 115 4 = some (.iload_n 1, 5, 1, 0, 0) := rfl
theorem xi_115_5 : xm_ins 115 5 = some (.iconst 2, 6, 0, 0, 2) := rfl
theorem xi_115_6 : xm_ins 115 6 = some (.iload_n 2, 7, 2, 0, 0) := rfl
theorem xi_115_7 : xm_ins 115 7 = some (.iadd, 8, 0, 0, 0) := rfl
theorem xi_115_8 : xm_ins 115 8 = some (.invokestatic 29, 11, 86, 2, 3) := rfl
theorem xi_115_11 : xm_ins 115 11 = some (.iaload, 12, 0, 0, 0) := rfl
theorem xi_115_12 : xm_ins 115 12 = some (.iconst 1, 13, 0, 0, 1) := rfl
theorem xi_115_13 : xm_ins 115 13 = some (.isub, 14, 0, 0, 0) := rfl
theorem xi_115_14 : xm_ins 115 14 = some (.istore_n 3, 15, 3, 0, 0) := rfl
theorem xi_115_15 : xm_ins 115 15 = some (.aload_n 0, 16, 0, 0, 0) := rfl
theorem xi_115_16 : xm_ins 115 16 = some (.getfield 7, 19, 3, 0, 1) := rfl
theorem xi_115_19 : xm_ins 115 19 = some (.iload_n 1, 20, 1, 0, 0) := rfl
theorem xi_115_20 : xm_ins 115 20 = some (.iconst 2, 21, 0, 0, 2) := rfl
theorem xi_115_21 : xm_ins 115 21 = some (.iload_n 2, 22, 2, 0, 0) := rfl
theorem xi_115_22 : xm_ins 115 22 = some (.iadd, 23, 0, 0, 0) := rfl
theorem xi_115_23 : xm_ins 115 23 = some (.invokestatic 29, 26, 86, 2, 3) := rfl
theorem xi_115_26 : xm_ins 115 26 = some (.iconst 0, 27, 0, 0, 0) := rfl
theorem xi_115_27 : xm_ins 115 27 = some (.iastore, 28, 0, 0, 0) := rfl
theorem xi_115_28 : xm_ins 115 28 = some (.iload_n 3, 29, 3, 0, 0) := rfl
theorem xi_115_29 : xm_ins 115 29 = some (.ireturn, 30, 0, 0, 0) := rfl
theorem xn_116 (pc : Nat) : xm_ins 116 pc = xm_find xt_116 pc := rfl
theorem xi_116_0 : xm_ins 116 0 = some (.aload_n 0, 1, 0, 0, 0) := rfl
theorem xi_116_1 : xm_ins 116 1 = some (.iload_n 1, 2, 1, 0, 0) := rfl
theorem xi_116_2 : xm_ins 116 2 = some (.iload_n 2, 3, 2, 0, 0) := rfl
theorem xi_116_3 : xm_ins 116 3 = some (.invokevirtual 101, 6, 114, 3, 3) := rfl
theorem xi_116_6 : xm_ins 116 6 = some (.istore_n 3, 7, 3, 0, 0) := rfl
theorem xi_116_7 : xm_ins 116 7 = some (.iload_n 3, 8, 3, 0, 0) := rfl
theorem xi_116_8 : xm_ins 116 8 = some (.ifCond .eq 5, 11, 13, 0, 0) := rfl
theorem xi_116_11 : xm_ins 116 11 = some (.iload_n 3, 12, 3, 0, 0) := rfl
theorem xi_116_12 : xm_ins 116 12 = some (.ireturn, 13, 0, 0, 0) := rfl
theorem xi_116_13 : xm_ins 116 13 = some (.aload_n 0, 14, 0, 0, 0) := rfl
theorem xi_116_14 : xm_ins 116 14 = some (.iconst 0, 15, 0, 0, 0) := rfl
theorem xi_116_15 : xm_ins 116 15 = some (.invokevirtual 68, 18, 93, 2, 3) := rfl
theorem xi_116_18 : xm_ins 116 18 = some (.aload_n 0, 19, 0, 0, 0) := rfl
theorem xi_116_19 : xm_ins 116 19 = some (.iload_n 1, 20, 1, 0, 0) := rfl
theorem xi_116_20 : xm_ins 116 20 = some (.iload_n 2, 21, 2, 0, 0) := rfl
theorem xi_116_21 : xm_ins 116 21 = some (.invokevirtual 104, 24, 115, 3, 3) := rfl
theorem xi_116_24 : xm_ins 116 24 = some (.ireturn, 25, 0, 0, 0) := rfl
theorem xn_117 (pc : Nat) : xm_ins 117 pc = xm_find xt_117 pc := rfl
theorem xi_117_0 : xm_ins 117 0 = some (.iconst 0, 1, 0, 0, 0) := rfl
theorem xi_117_1 : xm_ins 117 1 = some (.istore_n 1, 2, 1, 0, 0) := rfl
theorem xi_117_2 : xm_ins 117 2 = some (.iconst 0, 3, 0, 0, 0) := rfl
theorem xi_117_3 : xm_ins 117 3 = some (.istore_n 2, 4, 2, 0, 0) := rfl
theorem xi_117_4 : xm_ins 117 4 = some (.iload_n 2, 5, 2, 0, 0) := rfl
theorem xi_117_5 : xm_ins 117 5 = some (.aload_n 0, 6, 0, 0, 0) := rfl
theorem xi_117_6 : xm_ins 117 6 = some (.getfield 7, 9, 3, 0, 1) := rfl
theorem xi_117_9 : xm_ins 117 9 = some (.iconst 0, 10, 0, 0, 0) := rfl
theorem xi_117_10 : xm_ins 117 10 = some (.iaload, 11, 0, 0, 0) := rfl
theorem xi_117_11 : xm_ins 117 11 = some (.if_icmp .ge 41, 14, 52, 0, 0) := rfl
theorem xi_117_14 : xm_ins 117 14 = some (.iload_n 1, 15, 1, 0, 0) := rfl
theorem xi_117_15 : xm_ins 117 15 = some (.aload_n 0, 16, 0, 0, 0) := rfl
theorem xi_117_16 : xm_ins 117 16 = some (.iload_n 2, 17, 2, 0, 0) := rfl
theorem xi_117_17 : xm_ins 117 17 = some (.invokevirtual 46, 20, 87, 2, 3) := rfl
theorem xi_117_20 : xm_ins 117 20 = some (.ifCond .eq 23, 23, 43, 0, 0) := rfl
theorem xi_117_23 : xm_ins 117 23 = some (.aload_n 0, 24, 0, 0, 0) := rfl
theorem xi_117_24 : xm_ins 117 24 = some (.getfield 7, 27, 3, 0, 1) := rfl
theorem xi_117_27 : xm_ins 117 27 = some (.iload_n 2, 28, 2, 0, 0) := rfl
theorem xi_117_28 : xm_ins 117 28 = some (.iconst 1, 29, 0, 0, 1) := rfl
theorem xi_117_29 : xm_ins 117 29 = some (.invokestatic 29, 32, 86, 2, 3) := rfl
theorem xi_117_32 : xm_ins 117 32 = some (.iaload, 33, 0, 0, 0) := rfl
theorem xi_117_33 : xm_ins 117 33 = some (.iconst 1, 34, 0, 0, 1) := rfl
theorem xi_117_34 : xm_ins 117 34 = some (.if_icmp .ne 9, 37, 43, 0, 0) := rfl
theorem xi_117_37 : xm_ins 117 37 = some (.iconst 1, 38, 0, 0, 1) := rfl
theorem xi_117_38 : xm_ins 117 38 = some (.iload_n 2, 39, 2, 0, 0) := rfl
theorem xi_117_39 : xm_ins 117 39 = some (.ishl, 40, 0, 0, 0) := rfl
theorem xi_117_40 : xm_ins 117 40 = some (.goto 4, 43, 44, 0, 0) := rfl
theorem xi_117_43 : xm_ins 117 43 = some (.iconst 0, 44, 0, 0, 0) := rfl
theorem xi_117_44 : xm_ins 117 44 = some (.ior, 45, 0, 0, 0) := rfl
theorem xi_117_45 : xm_ins 117 45 = some (.istore_n 1, 46, 1, 0, 0) := rfl
theorem xi_117_46 : xm_ins 117 46 = some (.iinc 2 1, 49, 2, 0, 1) := rfl
theorem xi_117_49 : xm_ins 117 49 = some (.goto (-45), 52, 4, 0, 0) := rfl
theorem xi_117_52 : xm_ins 117 52 = some (.iload_n 1, 53, 1, 0, 0) := rfl
theorem xi_117_53 : xm_ins 117 53 = some (.ireturn, 54, 0, 0, 0) := rfl
theorem xn_118 (pc : Nat) : xm_ins 118 pc = xm_find xt_118 pc := rfl
theorem xi_118_0 : xm_ins 118 0 = some (.aload_n 0, 1, 0, 0, 0) := rfl
theorem xi_118_1 : xm_ins 118 1 = some (.iload_n 1, 2, 1, 0, 0) := rfl
theorem xi_118_2 : xm_ins 118 2 = some (.invokevirtual 46, 5, 87, 2, 3) := rfl
theorem xi_118_5 : xm_ins 118 5 = some (.ifCond .ne 8, 8, 13, 0, 0) := rfl
theorem xi_118_8 : xm_ins 118 8 = some (.ldc 78, 10, 0, 0, (-1000001)) := rfl
theorem xi_118_10 : xm_ins 118 10 = some (.goto 23, 13, 33, 0, 0) := rfl
theorem xi_118_13 : xm_ins 118 13 = some (.aload_n 0, 14, 0, 0, 0) := rfl
theorem xi_118_14 : xm_ins 118 14 = some (.getfield 7, 17, 3, 0, 1) := rfl
theorem xi_118_17 : xm_ins 118 17 = some (.iload_n 1, 18, 1, 0, 0) := rfl
theorem xi_118_18 : xm_ins 118 18 = some (.iconst 1, 19, 0, 0, 1) := rfl
theorem xi_118_19 : xm_ins 118 19 = some (.invokestatic 29, 22, 86, 2, 3) := rfl
theorem xi_118_22 : xm_ins 118 22 = some (.iaload, 23, 0, 0, 0) := rfl
theorem xi_118_23 : xm_ins 118 23 = some (.iload_n 2, 24, 2, 0, 0) := rfl
theorem xi_118_24 : xm_ins 118 24 = some (.if_icmp .ne 8, 27, 32, 0, 0) := rfl
theorem xi_118_27 : xm_ins 118 27 = some (.ldc 41, 29, 0, 0, (-1000002)) := rfl
theorem xi_118_29 : xm_ins 118 29 = some (.goto 4, 32, 33, 0, 0) := rfl
theorem xi_118_32 : xm_ins 118 32 = some (.iconst 0, 33, 0, 0, 0) := rfl
theorem xi_118_33 : xm_ins 118 33 = some (.ireturn, 34, 0, 0, 0) := rfl
theorem xn_119 (pc : Nat) : xm_ins 119 pc = xm_find xt_119 pc := rfl
theorem xi_119_0 : xm_ins 119 0 = some (.aload_n 0, 1, 0, 0, 0) := rfl
theorem xi_119_1 : xm_ins 119 1 = some (.getfield 7, 4, 3, 0, 1) := rfl
theorem xi_119_4 : xm_ins 119 4 = some (.iload_n 1, 5, 1, 0, 0) := rfl
theorem xi_119_5 : xm_ins 119 5 = some (.iconst 1, 6, 0, 0, 1) := rfl
theorem xi_119_6 : xm_ins 119 6 = some (.invokestatic 29, 9, 86, 2, 3) := rfl
theorem xi_119_9 : xm_ins 119 9 = some (.iload_n 2, 10, 2, 0, 0) := rfl
theorem xi_119_10 : xm_ins 119 10 = some (.iastore, 11, 0, 0, 0) := rfl
theorem xi_119_11 : xm_ins 119 11 = some (.aload_n 0, 12, 0, 0, 0) := rfl
theorem xi_119_12 : xm_ins 119 12 = some (.invokevirtual 107, 15, 117, 1, 3) := rfl
theorem xi_119_15 : xm_ins 119 15 = some (.invokestatic 110, 18, 91, 1, 3) := rfl
theorem xi_119_18 : xm_ins 119 18 = some (.ireturn, 19, 0, 0, 0) := rfl
theorem xn_120 (pc : Nat) : xm_ins 120 pc = xm_find xt_120 pc := rfl
theorem xi_120_0 : xm_ins 120 0 = some (.aload_n 0, 1, 0, 0, 0) := rfl
theorem xi_120_1 : xm_ins 120 1 = some (.iload_n 1, 2, 1, 0, 0) := rfl
theorem xi_120_2 : xm_ins 120 2 = some (.iconst 1, 3, 0, 0, 1) := rfl
theorem xi_120_3 : xm_ins 120 3 = some (.invokevirtual 113, 6, 118, 3, 3) := rfl
theorem xi_120_6 : xm_ins 120 6 = some (.istore_n 2, 7, 2, 0, 0) := rfl
theorem xi_120_7 : xm_ins 120 7 = some (.iload_n 2, 8, 2, 0, 0) := rfl
theorem xi_120_8 : xm_ins 120 8 = some (.ifCond .eq 5, 11, 13, 0, 0) := rfl
theorem xi_120_11 : xm_ins 120 11 = some (.iload_n 2, 12, 2, 0, 0) := rfl
theorem xi_120_12 : xm_ins 120 12 = some (.ireturn, 13, 0, 0, 0) := rfl
theorem xi_120_13 : xm_ins 120 13 = some (.aload_n 0, 14, 0, 0, 0) := rfl
theorem xi_120_14 : xm_ins 120 14 = some (.iconst 0, 15, 0, 0, 0) := rfl
theorem xi_120_15 : xm_ins 120 15 = some (.invokevirtual 68, 18, 93, 2, 3) := rfl
theorem xi_120_18 : xm_ins 120 18 = some (.aload_n 0, 19, 0, 0, 0) := rfl
theorem xi_120_19 : xm_ins 120 19 = some (.iload_n 1, 20, 1, 0, 0) := rfl
theorem xi_120_20 : xm_ins 120 20 = some (.iconst 1, 21, 0, 0, 1) := rfl
theorem xi_120_21 : xm_ins 120 21 = some (.invokevirtual 116, 24, 119, 3, 3) := rfl
theorem xi_120_24 : xm_ins 120 24 = some (.ireturn, 25, 0, 0, 0) := rfl
theorem xn_121 (pc : Nat) : xm_ins 121 pc = xm_find xt_121 pc := rfl
theorem xi_121_0 : xm_ins 121 0 = some (.aload_n 0, 1, 0, 0, 0) := rfl
theorem xi_121_1 : xm_ins 121 1 = some (.iload_n 1, 2, 1, 0, 0) := rfl
theorem xi_121_2 : xm_ins 121 2 = some (.iconst 0, 3, 0, 0, 0) := rfl
theorem xi_121_3 : xm_ins 121 3 = some (.invokevirtual 113, 6, 118, 3, 3) := rfl
theorem xi_121_6 : xm_ins 121 6 = some (.istore_n 2, 7, 2, 0, 0) := rfl
theorem xi_121_7 : xm_ins 121 7 = some (.iload_n 2, 8, 2, 0, 0) := rfl
theorem xi_121_8 : xm_ins 121 8 = some (.ifCond .eq 5, 11, 13, 0, 0) := rfl
theorem xi_121_11 : xm_ins 121 11 = some (.iload_n 2, 12, 2, 0, 0) := rfl
theorem xi_121_12 : xm_ins 121 12 = some (.ireturn, 13, 0, 0, 0) := rfl
theorem xi_121_13 : xm_ins 121 13 = some (.aload_n 0, 14, 0, 0, 0) := rfl
theorem xi_121_14 : xm_ins 121 14 = some (.iconst 0, 15, 0, 0, 0) := rfl
theorem xi_121_15 : xm_ins 121 15 = some (.invokevirtual 68, 18, 93, 2, 3) := rfl
theorem xi_121_18 : xm_ins 121 18 = some (.aload_n 0, 19, 0, 0, 0) := rfl
theorem xi_121_19 : xm_ins 121 19 = some (.iload_n 1, 20, 1, 0, 0) := rfl
theorem xi_121_20 : xm_ins 121 20 = some (.iconst 0, 21, 0, 0, 0) := rfl
theorem xi_121_21 : xm_ins 121 21 = some (.invokevirtual 116, 24, 119, 3, 3) := rfl
theorem xi_121_24 : xm_ins 121 24 = some (.ireturn, 25, 0, 0, 0) := rfl
theorem xn_122 (pc : Nat) : xm_ins 122 pc = xm_find xt_122 pc := rfl
theorem xi_122_0 : xm_ins 122 0 = some (.iconst 0, 1, 0, 0, 0) := rfl
theorem xi_122_1 : xm_ins 122 1 = some (.istore_n 1, 2, 1, 0, 0) := rfl
theorem xi_122_2 : xm_ins 122 2 = some (.iconst 0, 3, 0, 0, 0) := rfl
theorem xi_122_3 : xm_ins 122 3 = some (.istore_n 2, 4, 2, 0, 0) := rfl
theorem xi_122_4 : xm_ins 122 4 = some (.iload_n 2, 5, 2, 0, 0) := rfl
theorem xi_122_5 : xm_ins 122 5 = some (.iconst 4, 6, 0, 0, 4) := rfl
theorem xi_122_6 : xm_ins 122 6 = some (.if_icmp .ge 41, 9, 47, 0, 0) := rfl
theorem xi_122_9 : xm_ins 122 9 = some (.iload_n 1, 10, 1, 0, 0) := rfl
theorem xi_122_10 : xm_ins 122 10 = some (.aload_n 0, 11, 0, 0, 0) := rfl
theorem xi_122_11 : xm_ins 122 11 = some (.getfield 7, 14, 3, 0, 1) := rfl
theorem xi_122_14 : xm_ins 122 14 = some (.bipush 12, 16, 0, 0, 12) := rfl
theorem xi_122_16 : xm_ins 122 16 = some (.iload_n 2, 17, 2, 0, 0) := rfl
theorem xi_122_17 : xm_ins 122 17 = some (.iadd, 18, 0, 0, 0) := rfl
theorem xi_122_18 : xm_ins 122 18 = some (.iaload, 19, 0, 0, 0) := rfl
theorem xi_122_19 : xm_ins 122 19 = some (.ifCond .le 19, 22, 38, 0, 0) := rfl
theorem xi_122_22 : xm_ins 122 22 = some (.iconst 1, 23, 0, 0, 1) := rfl
theorem xi_122_23 : xm_ins 122 23 = some (.aload_n 0, 24, 0, 0, 0) := rfl
theorem xi_122_24 : xm_ins 122 24 = some (.getfield 7, 27, 3, 0, 1) := rfl
theorem xi_122_27 : xm_ins 122 27 = some (.bipush 12, 29, 0, 0, 12) := rfl
theorem xi_122_29 : xm_ins 122 29 = some (.iload_n 2, 30, 2, 0, 0) := rfl
theorem xi_122_30 : xm_ins 122 30 = some (.iadd, 31, 0, 0, 0) := rfl
theorem xi_122_31 : xm_ins 122 31 = some (.iaload, 32, 0, 0, 0) := rfl
theorem xi_122_32 : xm_ins 122 32 = some (.iconst 1, 33, 0, 0, 1) := rfl
theorem xi_122_33 : xm_ins 122 33 = some (.isub, 34, 0, 0, 0) := rfl
theorem xi_122_34 : xm_ins 122 34 = some (.ishl, 35, 0, 0, 0) := rfl
theorem xi_122_35 : xm_ins 122 35 = some (.goto 4, 38, 39, 0, 0) := rfl
theorem xi_122_38 : xm_ins 122 38 = some (.iconst 0, 39, 0, 0, 0) := rfl
theorem xi_122_39 : xm_ins 122 39 = some (.ior, 40, 0, 0, 0) := rfl
theorem xi_122_40 : xm_ins 122 40 = some (.istore_n 1, 41, 1, 0, 0) := rfl
theorem xi_122_41 : xm_ins 122 41 = some (.iinc 2 1, 44, 2, 0, 1) := rfl
theorem xi_122_44 : xm_ins 122 44 = some (.goto (-40), 47, 4, 0, 0) := rfl
theorem xi_122_47 : xm_ins 122 47 = some (.iload_n 1, 48, 1, 0, 0) := rfl
theorem xi_122_48 : xm_ins 122 48 = some (.ireturn, 49, 0, 0, 0) := rfl
theorem xn_123 (pc : Nat) : xm_ins 123 pc = xm_find xt_123 pc := rfl
theorem xi_123_0 : xm_ins 123 0 = some (.iconst 0, 1, 0, 0, 0) := rfl
theorem xi_123_1 : xm_ins 123 1 = some (.istore_n 2, 2, 2, 0, 0) := rfl
theorem xi_123_2 : xm_ins 123 2 = some (.iconst 0, 3, 0, 0, 0) := rfl
theorem xi_123_3 : xm_ins 123 3 = some (.istore_n 3, 4, 3, 0, 0) := rfl
theorem xi_123_4 : xm_ins 123 4 = some (.iload_n 3, 5, 3, 0, 0) := rfl
theorem xi_123_5 : xm_ins 123 5 = some (.aload_n 0, 6, 0, 0, 0) := rfl
theorem xi_123_6 : xm_ins 123 6 = some (.getfield 7, 9, 3, 0, 1) := rfl
theorem xi_123_9 : xm_ins 123 9 = some (.iconst 0, 10, 0, 0, 0) := rfl
theorem xi_123_10 : xm_ins 123 10 = some (.iaload, 11, 0, 0, 0) := rfl
theorem xi_123_11 : xm_ins 123 11 = some (.if_icmp .ge 72, 14, 83, 0, 0) := rfl
theorem xi_123_14 : xm_ins 123 14 = some (.iconst 0, 15, 0, 0, 0) := rfl
theorem xi_123_15 : xm_ins 123 15 = some (.istore 4, 17, 4, 0, 0) := rfl
theorem xi_123_17 : xm_ins 123 17 = some (.iload 4, 19, 4, 0, 0) := rfl
theorem xi_123_19 : xm_ins 123 19 = some (.iconst 3, 20, 0, 0, 3) := rfl
theorem xi_123_20 : xm_ins 123 20 = some (.if_icmp .ge 57, 23, 77, 0, 0) := rfl
theorem xi_123_23 : xm_ins 123 23 = some (.iload_n 1, 24, 1, 0, 0) := rfl
theorem xi_123_24 : xm_ins 123 24 = some (.iload_n 3, 25, 3, 0, 0) := rfl
theorem xi_123_25 : xm_ins 123 25 = some (.invokestatic 119, 28, 90, 2, 3) := rfl
theorem xi_123_28 : xm_ins 123 28 = some (.ifCond .eq 49, 31, 77, 0, 0) := rfl
theorem xi_123_31 : xm_ins 123 31 = some (.iload_n 2, 32, 2, 0, 0) := rfl
theorem xi_123_32 : xm_ins 123 32 = some (.aload_n 0, 33, 0, 0, 0) := rfl
theorem xi_123_33 : xm_ins 123 33 = some (.getfield 7, 36, 3, 0, 1) := rfl
theorem xi_123_36 : xm_ins 123 36 = some (.iload_n 3, 37, 3, 0, 0) := rfl
theorem xi_123_37 : xm_ins 123 37 = some (.iconst 2, 38, 0, 0, 2) := rfl
theorem xi_123_38 : xm_ins 123 38 = some (.iload 4, 40, 4, 0, 0) := rfl
theorem xi_123_40 : xm_ins 123 40 = some (.iadd, 41, 0, 0, 0) := rfl
theorem xi_123_41 : xm_ins 123 41 = some (.invokestatic 29, 44, 86, 2, 3) := rfl
theorem xi_123_44 : xm_ins 123 44 = some (.iaload, 45, 0, 0, 0) := rfl
theorem xi_123_45 : xm_ins 123 45 = some (.ifCond .le 23, 48, 68, 0, 0) := rfl
theorem xi_123_48 : xm_ins 123 48 = some (.iconst 1, 49, 0, 0, 1) := rfl
theorem xi_123_49 : xm_ins 123 49 = some (.aload_n 0, 50, 0, 0, 0) := rfl
theorem xi_123_50 : xm_ins 123 50 = some (.getfield 7, 53, 3, 0, 1) := rfl
theorem xi_123_53 : xm_ins 123 53 = some (.iload_n 3, 54, 3, 0, 0) := rfl
theorem xi_123_54 : xm_ins 123 54 = some (.iconst 2, 55, 0, 0, 2) := rfl
theorem xi_123_55 : xm_ins 123 55 = some (.iload 4, 57, 4, 0, 0) := rfl
theorem xi_123_57 : xm_ins 123 57 = some (.iadd, 58, 0, 0, 0) := rfl
theorem xi_123_58 : xm_ins 123 58 = some (.invokestatic 29, 61, 86, 2, 3) := rfl
theorem xi_123_61 : xm_ins 123 61 = some (.iaload, 62, 0, 0, 0) := rfl
theorem xi_123_62 : xm_ins 123 62 = some (.iconst 1, 63, 0, 0, 1) := rfl
theorem xi_123_63 : xm_ins 123 63 = some (.isub, 64, 0, 0, 0) := rfl
theorem xi_123_64 : xm_ins 123 64 = some (.ishl, 65, 0, 0, 0) := rfl
theorem xi_123_65 : xm_ins 123 65 = some (.goto 4, 68, 69, 0, 0) := rfl
theorem xi_123_68 : xm_ins 123 68 = some (.iconst 0, 69, 0, 0, 0) := rfl
theorem xi_123_69 : xm_ins 123 69 = some (.ior, 70, 0, 0, 0) := rfl
theorem xi_123_70 : xm_ins 123 70 = some (.istore_n 2, 71, 2, 0, 0) := rfl
theorem xi_123_71 : xm_ins 123 71 = some (.iinc 4 1, 74, 4, 0, 1) := rfl
theorem xi_123_74 : xm_ins 123 74 = some (.goto (-57), 77, 17, 0, 0) := rfl
theorem xi_123_77 : xm_ins 123 77 = some (.iinc 3 1, 80, 3, 0, 1) := rfl
theorem xi_123_80 : xm_ins 123 80 = some (.goto (-76), 83, 4, 0, 0) := rfl
theorem xi_123_83 : xm_ins 123 83 = some (.iload_n 2, 84, 2, 0, 0) := rfl
theorem xi_123_84 : xm_ins 123 84 = some (.ireturn, 85, 0, 0, 0) := rfl
theorem xn_124 (pc : Nat) : xm_ins 124 pc = xm_find xt_124 pc := rfl
theorem xi_124_0 : xm_ins 124 0 = some (.iload_n 1, 1, 1, 0, 0) := rfl
theorem xi_124_1 : xm_ins 124 1 = some (.iload_n 2, 2, 2, 0, 0) := rfl
theorem xi_124_2 : xm_ins 124 2 = some (.iand, 3, 0, 0, 0) := rfl
theorem xi_124_3 : xm_ins 124 3 = some (.istore_n 3, 4, 3, 0, 0) := rfl
theorem xi_124_4 : xm_ins 124 4 = some (.iload_n 3, 5, 3, 0, 0) := rfl
theorem xi_124_5 : xm_ins 124 5 = some (.istore 4, 7, 4, 0, 0) := rfl
theorem xi_124_7 : xm_ins 124 7 = some (.iload 4, 9, 4, 0, 0) := rfl
theorem xi_124_9 : xm_ins 124 9 = some (.ifCond .eq 25, 12, 34, 0, 0) := rfl
theorem xi_124_12 : xm_ins 124 12 = some (.aload_n 0, 13, 0, 0, 0) := rfl
theorem xi_124_13 : xm_ins 124 13 = some (.iload 4, 15, 4, 0, 0) := rfl
theorem xi_124_15 : xm_ins 124 15 = some (.invokevirtual 123, 18, 123, 2, 3) := rfl
theorem xi_124_18 : xm_ins 124 18 = some (.iload_n 2, 19, 2, 0, 0) := rfl
theorem xi_124_19 : xm_ins 124 19 = some (.iand, 20, 0, 0, 0) := rfl
theorem xi_124_20 : xm_ins 124 20 = some (.iload_n 3, 21, 3, 0, 0) := rfl
theorem xi_124_21 : xm_ins 124 21 = some (.iconst (-1), 22, 0, 0, (-1)) := rfl
theorem xi_124_22 : xm_ins 124 22 = some (.ixor, 23, 0, 0, 0) := rfl
theorem xi_124_23 : xm_ins 124 23 = some (.iand, 24, 0, 0, 0) := rfl
theorem xi_124_24 : xm_ins 124 24 = some (.istore 4, 26, 4, 0, 0) := rfl
theorem xi_124_26 : xm_ins 124 26 = some (.iload_n 3, 27, 3, 0, 0) := rfl
theorem xi_124_27 : xm_ins 124 27 = some (.iload 4, 29, 4, 0, 0) := rfl
theorem xi_124_29 : xm_ins 124 29 = some (.ior, 30, 0, 0, 0) := rfl
theorem xi_124_30 : xm_ins 124 30 = some (.istore_n 3, 31, 3, 0, 0) := rfl
theorem xi_124_31 : xm_ins 124 31 = some (.goto (-24), 34, 7, 0, 0) := rfl
theorem xi_124_34 : xm_ins 124 34 = some (.iload_n 3, 35, 3, 0, 0) := rfl
theorem xi_124_35 : xm_ins 124 35 = some (.ireturn, 36, 0, 0, 0) := rfl
theorem xn_125 (pc : Nat) : xm_ins 125 pc = xm_find xt_125 pc := rfl
theorem xi_125_0 : xm_ins 125 0 = some (.aload_n 0, 1, 0, 0, 0) := rfl
theorem xi_125_1 : xm_ins 125 1 = some (.invokevirtual 126, 4, 122, 1, 3) := rfl
theorem xi_125_4 : xm_ins 125 4 = some (.aload_n 0, 5, 0, 0, 0) := rfl
theorem xi_125_5 : xm_ins 125 5 = some (.invokevirtual 107, 8, 117, 1, 3) := rfl
theorem xi_125_8 : xm_ins 125 8 = some (.ior, 9, 0, 0, 0) := rfl
theorem xi_125_9 : xm_ins 125 9 = some (.ireturn, 10, 0, 0, 0) := rfl
theorem xn_126 (pc : Nat) : xm_ins 126 pc = xm_find xt_126 pc := rfl
theorem xi_126_0 : xm_ins 126 0 = some (.aload_n 0, 1, 0, 0, 0) := rfl
theorem xi_126_1 : xm_ins 126 1 = some (.iconst 2, 2, 0, 0, 2) := rfl
theorem xi_126_2 : xm_ins 126 2 = some (.invokevirtual 129, 5, 97, 2, 3) := rfl
theorem xi_126_5 : xm_ins 126 5 = some (.ireturn, 6, 0, 0, 0) := rfl
theorem xn_127 (pc : Nat) : xm_ins 127 pc = xm_find xt_127 pc := rfl
theorem xi_127_0 : xm_ins 127 0 = some (.aload_n 0, 1, 0, 0, 0) := rfl
theorem xi_127_1 : xm_ins 127 1 = some (.aload_n 0, 2, 0, 0, 0) := rfl
theorem xi_127_2 : xm_ins 127 2 = some (.invokevirtual 132, 5, 125, 1, 3) := rfl
theorem xi_127_5 : xm_ins 127 5 = some (.aload_n 0, 6, 0, 0, 0) := rfl
theorem xi_127_6 : xm_ins 127 6 = some (.invokevirtual 135, 9, 126, 1, 3) := rfl
theorem xi_127_9 : xm_ins 127 9 = some (.invokevirtual 138, 12, 124, 3, 3) := rfl
theorem xi_127_12 : xm_ins 127 12 = some (.ireturn, 13, 0, 0, 0) := rfl
theorem xn_128 (pc : Nat) : xm_ins 128 pc = xm_find xt_128 pc := rfl
theorem xi_128_0 : xm_ins 128 0 = some (.aload_n 0, 1, 0, 0, 0) := rfl
theorem xi_128_1 : xm_ins 128 1 = some (.iload_n 1, 2, 1, 0, 0) := rfl
theorem xi_128_2 : xm_ins 128 2 = some (.invokevirtual 129, 5, 97, 2, 3) := rfl
theorem xi_128_5 : xm_ins 128 5 = some (.istore_n 2, 6, 2, 0, 0) := rfl
theorem xi_128_6 : xm_ins 128 6 = some (.aload_n 0, 7, 0, 0, 0) := rfl
theorem xi_128_7 : xm_ins 128 7 = some (.aload_n 0, 8, 0, 0, 0) := rfl
theorem xi_128_8 : xm_ins 128 8 = some (.invokevirtual 132, 11, 125, 1, 3) := rfl
theorem xi_128_11 : xm_ins 128 11 = some (.aload_n 0, 12, 0, 0, 0) := rfl
theorem xi_128_12 : xm_ins 128 12 = some (.aload_n 0, 13, 0, 0, 0) := rfl
theorem xi_128_13 : xm_ins 128 13 = some (.invokevirtual 135, 16, 126, 1, 3) := rfl
theorem xi_128_16 : xm_ins 128 16 = some (.iload_n 2, 17, 2, 0, 0) := rfl
theorem xi_128_17 : xm_ins 128 17 = some (.iconst (-1), 18, 0, 0, (-1)) := rfl
theorem xi_128_18 : xm_ins 128 18 = some (.ixor, 19, 0, 0, 0) := rfl
theorem xi_128_19 : xm_ins 128 19 = some (.iand, 20, 0, 0, 0) := rfl
theorem xi_128_20 : xm_ins 128 20 = some (.invokevirtual 123, 23, 123, 2, 3) := rfl
theorem xi_128_23 : xm_ins 128 23 = some (.ior, 24, 0, 0, 0) := rfl
theorem xi_128_24 : xm_ins 128 24 = some (.iload_n 2, 25, 2, 0, 0) := rfl
theorem xi_128_25 : xm_ins 128 25 = some (.invokevirtual 138, 28, 124, 3, 3) := rfl
theorem xi_128_28 : xm_ins 128 28 = some (.ireturn, 29, 0, 0, 0) := rfl
theorem xn_129 (pc : Nat) : xm_ins 129 pc = xm_find xt_129 pc := rfl
theorem xi_129_0 : xm_ins 129 0 = some (.iconst 0, 1, 0, 0, 0) := rfl
theorem xi_129_1 : xm_ins 129 1 = some (.istore_n 2, 2, 2, 0, 0) := rfl
theorem xi_129_2 : xm_ins 129 2 = some (.iload_n 2, 3, 2, 0, 0) := rfl
theorem xi_129_3 : xm_ins 129 3 = some (.aload_n 0, 4, 0, 0, 0) := rfl
theorem xi_129_4 : xm_ins 129 4 = some (.getfield 7, 7, 3, 0, 1) := rfl
theorem xi_129_7 : xm_ins 129 7 = some (.iconst 0, 8, 0, 0, 0) := rfl
theorem xi_129_8 : xm_ins 129 8 = some (.iaload, 9, 0, 0, 0) := rfl
theorem xi_129_9 : xm_ins 129 9 = some (.if_icmp .ge 41, 12, 50, 0, 0) := rfl
theorem xi_129_12 : xm_ins 129 12 = some (.iconst 0, 13, 0, 0, 0) := rfl
theorem xi_129_13 : xm_ins 129 13 = some (.istore_n 3, 14, 3, 0, 0) := rfl
theorem xi_129_14 : xm_ins 129 14 = some (.iload_n 3, 15, 3, 0, 0) := rfl
theorem xi_129_15 : xm_ins 129 15 = some (.iconst 5, 16, 0, 0, 5) := rfl
theorem xi_129_16 : xm_ins 129 16 = some (.if_icmp .ge 28, 19, 44, 0, 0) := rfl
theorem xi_129_19 : xm_ins 129 19 = some (.iload_n 1, 20, 1, 0, 0) := rfl
theorem xi_129_20 : xm_ins 129 20 = some (.iload_n 2, 21, 2, 0, 0) := rfl
theorem xi_129_21 : xm_ins 129 21 = some (.invokestatic 119, 24, 90, 2, 3) := rfl
theorem xi_129_24 : xm_ins 129 24 = some (.ifCond .eq 20, 27, 44, 0, 0) := rfl
theorem xi_129_27 : xm_ins 129 27 = some (.aload_n 0, 28, 0, 0, 0) := rfl
theorem xi_129_28 : xm_ins 129 28 = some (.getfield 7, 31, 3, 0, 1) := rfl
theorem xi_129_31 : xm_ins 129 31 = some (.iload_n 2, 32, 2, 0, 0) := rfl
theorem xi_129_32 : xm_ins 129 32 = some (.iload_n 3, 33, 3, 0, 0) := rfl
theorem xi_129_33 : xm_ins 129 33 = some (.invokestatic 29, 36, 86, 2, 3) := rfl
theorem xi_129_36 : xm_ins 129 36 = some (.iconst 0, 37, 0, 0, 0) := rfl
theorem xi_129_37 : xm_ins 129 37 = some (.iastore, 38, 0, 0, 0) := rfl
theorem xi_129_38 : xm_ins 129 38 = some (.iinc 3 1, 41, 3, 0, 1) := rfl
theorem xi_129_41 : xm_ins 129 41 = some (.goto (-27), 44, 14, 0, 0) := rfl
theorem xi_129_44 : xm_ins 129 44 = some (.iinc 2 1, 47, 2, 0, 1) := rfl
theorem xi_129_47 : xm_ins 129 47 = some (.goto (-45), 50, 2, 0, 0) := rfl
theorem xi_129_50 : xm_ins 129 50 = some (.aload_n 0, 51, 0, 0, 0) := rfl
theorem xi_129_51 : xm_ins 129 51 = some (.invokevirtual 141, 54, 101, 1, 3) := rfl
theorem xi_129_54 : xm_ins 129 54 = some (.return_, 55, 0, 0, 0) := rfl
theorem xn_130 (pc : Nat) : xm_ins 130 pc = xm_find xt_130 pc := rfl
theorem xi_130_0 : xm_ins 130 0 = some (.aload_n 0, 1, 0, 0, 0) := rfl
theorem xi_130_1 : xm_ins 130 1 = some (.iload_n 1, 2, 1, 0, 0) := rfl
theorem xi_130_2 : xm_ins 130 2 = some (.invokevirtual 144, 5, 128, 2, 3) := rfl
theorem xi_130_5 : xm_ins 130 5 = some (.istore_n 2, 6, 2, 0, 0) := rfl
theorem xi_130_6 : xm_ins 130 6 = some (.aload_n 0, 7, 0, 0, 0) := rfl
theorem xi_130_7 : xm_ins 130 7 = some (.iload_n 1, 8, 1, 0, 0) := rfl
theorem xi_130_8 : xm_ins 130 8 = some (.invokevirtual 129, 11, 97, 2, 3) := rfl
theorem xi_130_11 : xm_ins 130 11 = some (.iload_n 2, 12, 2, 0, 0) := rfl
theorem xi_130_12 : xm_ins 130 12 = some (.iconst (-1), 13, 0, 0, (-1)) := rfl
theorem xi_130_13 : xm_ins 130 13 = some (.ixor, 14, 0, 0, 0) := rfl
theorem xi_130_14 : xm_ins 130 14 = some (.iand, 15, 0, 0, 0) := rfl
theorem xi_130_15 : xm_ins 130 15 = some (.istore_n 3, 16, 3, 0, 0) := rfl
theorem xi_130_16 : xm_ins 130 16 = some (.iload_n 2, 17, 2, 0, 0) := rfl
theorem xi_130_17 : xm_ins 130 17 = some (.aload_n 0, 18, 0, 0, 0) := rfl
theorem xi_130_18 : xm_ins 130 18 = some (.invokevirtual 107, 21, 117, 1, 3) := rfl
theorem xi_130_21 : xm_ins 130 21 = some (.iand, 22, 0, 0, 0) := rfl
theorem xi_130_22 : xm_ins 130 22 = some (.istore 4, 24, 4, 0, 0) := rfl
theorem xi_130_24 : xm_ins 130 24 = some (.iconst 0, 25, 0, 0, 0) := rfl
theorem xi_130_25 : xm_ins 130 25 = some (.istore 5, 27, 5, 0, 0) := rfl
theorem xi_130_27 : xm_ins 130 27 = some (.iload 5, 29, 5, 0, 0) := rfl
theorem xi_130_29 : xm_ins 130 29 = some (.bipush 8, 31, 0, 0, 8) := rfl
theorem xi_130_31 : xm_ins 130 31 = some (.if_icmp .ge 25, 34, 56, 0, 0) := rfl
theorem xi_130_34 : xm_ins 130 34 = some (.aload_n 0, 35, 0, 0, 0) := rfl
theorem xi_130_35 : xm_ins 130 35 = some (.getfield 16, 38, 3, 4, 1) := rfl
theorem xi_130_38 : xm_ins 130 38 = some (.iload 5, 40, 5, 0, 0) := rfl
theorem xi_130_40 : xm_ins 130 40 = some (.aload_n 0, 41, 0, 0, 0) := rfl
theorem xi_130_41 : xm_ins 130 41 = some (.getfield 7, 44, 3, 0, 1) := rfl
theorem xi_130_44 : xm_ins 130 44 = some (.iconst 4, 45, 0, 0, 4) := rfl
theorem xi_130_45 : xm_ins 130 45 = some (.iload 5, 47, 5, 0, 0) := rfl
theorem xi_130_47 : xm_ins 130 47 = some (.iadd, 48, 0, 0, 0) := rfl
theorem xi_130_48 : xm_ins 130 48 = some (.iaload, 49, 0, 0, 0) := rfl
theorem xi_130_49 : xm_ins 130 49 = some (.iastore, 50, 0, 0, 0) := rfl
theorem xi_130_50 : xm_ins 130 50 = some (.iinc 5 1, 53, 5, 0, 1) := rfl
theorem xi_130_53 : xm_ins 130 53 = some (.goto (-26), 56, 27, 0, 0) := rfl
theorem xi_130_56 : xm_ins 130 56 = some (.iconst 0, 57, 0, 0, 0) := rfl
theorem xi_130_57 : xm_ins 130 57 = some (.istore 5, 59, 5, 0, 0) := rfl
theorem xi_130_59 : xm_ins 130 59 = some (.iload 5, 61, 5, 0, 0) := rfl
theorem xi_130_61 : xm_ins 130 61 = some (.aload_n 0, 62, 0, 0, 0) := rfl
theorem xi_130_62 : xm_ins 130 62 = some (.getfield 7, 65, 3, 0, 1) := rfl
theorem xi_130_65 : xm_ins 130 65 = some (.iconst 0, 66, 0, 0, 0) := rfl
theorem xi_130_66 : xm_ins 130 66 = some (.iaload, 67, 0, 0, 0) := rfl
theorem xi_130_67 : xm_ins 130 67 = some (.if_icmp .ge 45, 70, 112, 0, 0) := rfl
theorem xi_130_70 : xm_ins 130 70 = some (.iload 4, 72, 4, 0, 0) := rfl
theorem xi_130_72 : xm_ins 130 72 = some (.iload 5, 74, 5, 0, 0) := rfl
theorem xi_130_74 : xm_ins 130 74 = some (.invokestatic 119, 77, 90, 2, 3) := rfl
theorem xi_130_77 : xm_ins 130 77 = some (.ifCond .eq 29, 80, 106, 0, 0) := rfl
theorem xi_130_80 : xm_ins 130 80 = some (.aload_n 0, 81, 0, 0, 0) := rfl
theorem xi_130_81 : xm_ins 130 81 = some (.getfield 7, 84, 3, 0, 1) := rfl
theorem xi_130_84 : xm_ins 130 84 = some (.iconst 4, 85, 0, 0, 4) := rfl
theorem xi_130_85 : xm_ins 130 85 = some (.aload_n 0, 86, 0, 0, 0) := rfl
theorem xi_130_86 : xm_ins 130 86 = some (.iload 5, 88, 5, 0, 0) := rfl
theorem xi_130_88 : xm_ins 130 88 = some (.invokevirtual 42, 91, 95, 2, 3) := rfl
theorem xi_130_91 : xm_ins 130 91 = some (.iadd, 92, 0, 0, 0) := rfl
theorem xi_130_92 : xm_ins 130 92 = some (.aload_n 0, 93, 0, 0, 0) := rfl
theorem xi_130_93 : xm_ins 130 93 = some (.getfield 16, 96, 3, 4, 1) := rfl
theorem xi_130_96 : xm_ins 130 96 = some (.aload_n 0, 97, 0, 0, 0) := rfl
theorem xi_130_97 : xm_ins 130 97 = some (.iload 5, 99, 5, 0, 0) := rfl
theorem xi_130_99 : xm_ins 130 99 = some (.invokevirtual 42, 102, 95, 2, 3) := rfl
theorem xi_130_102 : xm_ins 130 102 = some (.iaload, 103, 0, 0, 0) := rfl
theorem xi_130_103 : xm_ins 130 103 = some (.iconst 1, 104, 0, 0, 1) := rfl
theorem xi_130_104 : xm_ins 130 104 = some (.iadd, 105, 0, 0, 0) := rfl
theorem xi_130_105 : xm_ins 130 105 = some (.iastore, 106, 0, 0, 0) := rfl
theorem xi_130_106 : xm_ins 130 106 = some (.iinc 5 1, 109, 5, 0, 1) := rfl
theorem xi_130_109 : xm_ins 130 109 = some (.goto (-50), 112, 59, 0, 0) := rfl
theorem xi_130_112 : xm_ins 130 112 = some (.iconst 0, 113, 0, 0, 0) := rfl
theorem xi_130_113 : xm_ins 130 113 = some (.istore 5, 115, 5, 0, 0) := rfl
theorem xi_130_115 : xm_ins 130 115 = some (.iload 5, 117, 5, 0, 0) := rfl
theorem xi_130_117 : xm_ins 130 117 = some (.aload_n 0, 118, 0, 0, 0) := rfl
theorem xi_130_118 : xm_ins 130 118 = some (.getfield 7, 121, 3, 0, 1) := rfl
theorem xi_130_121 : xm_ins 130 121 = some (.iconst 0, 122, 0, 0, 0) := rfl
theorem xi_130_122 : xm_ins 130 122 = some (.iaload, 123, 0, 0, 0) := rfl
theorem xi_130_123 : xm_ins 130 123 = some (.if_icmp .ge 89, 126, 212, 0, 0) := rfl
theorem xi_130_126 : xm_ins 130 126 = some (.iload_n 2, 127, 2, 0, 0) := rfl
theorem xi_130_127 : xm_ins 130 127 = some (.iload 4, 129, 4, 0, 0) := rfl
theorem xi_130_129 : xm_ins 130 129 = some (.iconst (-1), 130, 0, 0, (-1)) := rfl
theorem xi_130_130 : xm_ins 130 130 = some (.ixor, 131, 0, 0, 0) := rfl
theorem xi_130_131 : xm_ins 130 131 = some (.iand, 132, 0, 0, 0) := rfl
theorem xi_130_132 : xm_ins 130 132 = some (.iload 5, 134, 5, 0, 0) := rfl
theorem xi_130_134 : xm_ins 130 134 = some (.invokestatic 119, 137, 90, 2, 3) := rfl
theorem xi_130_137 : xm_ins 130 137 = some (.ifCond .eq 69, 140, 206, 0, 0) := rfl
theorem xi_130_140 : xm_ins 130 140 = some (.aload_n 0, 141, 0, 0, 0) := rfl
set_option maxRecDepth 100000 in
theorem xi_130_141 : xm_ins 130 141 = some (.aload_n 0, 142, 0, 0, 0) := rfl
set_option maxRecDepth 100000 in
theorem xi_130_142 : xm_ins 130 142 = some (.getfield 16, 145, 3, 4, 1) := rfl
set_option maxRecDepth 100000 in
theorem xi_130_145 : xm_ins 130 145 = some (.aload_n 0, 146, 0, 0, 0) := rfl
set_option maxRecDepth 100000 in
theorem xi_130_146 : xm_ins 130 146 = some (.iload 5, 148, 5, 0, 0) := rfl
set_option maxRecDepth 100000 in
theorem xi_130_148 : xm_ins 130 148 = some (.invokevirtual 42, 151, 95, 2, 3) := rfl
set_option maxRecDepth 100000 in
theorem xi_130_151 : xm_ins 130 151 = some (.iaload, 152, 0, 0, 0) := rfl
set_option maxRecDepth 100000 in
theorem xi_130_152 : xm_ins 130 152 = some (.invokevirtual 60, 155, 100, 2, 3) := rfl
set_option maxRecDepth 100000 in
theorem xi_130_155 : xm_ins 130 155 = some (.istore 6, 157, 6, 0, 0) := rfl
set_option maxRecDepth 100000 in
theorem xi_130_157 : xm_ins 130 157 = some (.iload 6, 159, 6, 0, 0) := rfl
set_option maxRecDepth 100000 in
theorem xi_130_159 : xm_ins 130 159 = some (.ldc 53, 161, 0, 0, (-1000004)) := rfl
set_option maxRecDepth 100000 in
theorem xi_130_161 : xm_ins 130 161 = some (.if_icmp .ne 5, 164, 166, 0, 0) := rfl
set_option maxRecDepth 100000 in
theorem xi_130_164 : xm_ins 130 164 = some (.iconst 0, 165, 0, 0, 0) := rfl
set_option maxRecDepth 100000 in
theorem xi_130_165 : xm_ins 130 165 = some (.ireturn, 166, 0, 0, 0) := rfl
set_option maxRecDepth 100000 in
theorem xi_130_166 : xm_ins 130 166 = some (.aload_n 0, 167, 0, 0, 0) := rfl
set_option maxRecDepth 100000 in
theorem xi_130_167 : xm_ins 130 167 = some (.getfield 7, 170, 3, 0, 1) := rfl
set_option maxRecDepth 100000 in
theorem xi_130_170 : xm_ins 130 170 = some (.iload 5, 172, 5, 0, 0) := rfl
set_option maxRecDepth 100000 in
theorem xi_130_172 : xm_ins 130 172 = some (.iconst 0, 173, 0, 0, 0) := rfl
set_option maxRecDepth 100000 in
theorem xi_130_173 : xm_ins 130 173 = some (.invokestatic 29, 176, 86, 2, 3) := rfl
set_option maxRecDepth 100000 in
theorem xi_130_176 : xm_ins 130 176 = some (.iload 6, 178, 6, 0, 0) := rfl
set_option maxRecDepth 100000 in
theorem xi_130_178 : xm_ins 130 178 = some (.iconst 1, 179, 0, 0, 1) := rfl
set_option maxRecDepth 100000 in
theorem xi_130_179 : xm_ins 130 179 = some (.iadd, 180, 0, 0, 0) := rfl
set_option maxRecDepth 100000 in
theorem xi_130_180 : xm_ins 130 180 = some (.iastore, 181, 0, 0, 0) := rfl
set_option maxRecDepth 100000 in
theorem xi_130_181 : xm_ins 130 181 = some (.aload_n 0, 182, 0, 0, 0) := rfl
set_option maxRecDepth 100000 in
theorem xi_130_182 : xm_ins 130 182 = some (.getfield 7, 185, 3, 0, 1) := rfl
set_option maxRecDepth 100000 in
theorem xi_130_185 : xm_ins 130 185 = some (.iload 5, 187, 5, 0, 0) := rfl
set_option maxRecDepth 100000 in
theorem xi_130_187 : xm_ins 130 187 = some (.iconst 5, 188, 0, 0, 5) := rfl
set_option maxRecDepth 100000 in
theorem xi_130_188 : xm_ins 130 188 = some (.invokestatic 29, 191, 86, 2, 3) := rfl
set_option maxRecDepth 100000 in
theorem xi_130_191 : xm_ins 130 191 = some (.dup2, 192, 0, 0, 0) := rfl
set_option maxRecDepth 100000 in
theorem xi_130_192 : xm_ins 130 192 = some (.iaload, 193, 0, 0, 0) := rfl
set_option maxRecDepth 100000 in
theorem xi_130_193 : xm_ins 130 193 = some (.iconst 1, 194, 0, 0, 1) := rfl
set_option maxRecDepth 100000 in
theorem xi_130_194 : xm_ins 130 194 = some (.iadd, 195, 0, 0, 0) := rfl
set_option maxRecDepth 100000 in
theorem xi_130_195 : xm_ins 130 195 = some (.iastore, 196, 0, 0, 0) := rfl
set_option maxRecDepth 100000 in
theorem xi_130_196 : xm_ins 130 196 = some (.aload_n 0, 197, 0, 0, 0) := rfl
set_option maxRecDepth 100000 in
theorem xi_130_197 : xm_ins 130 197 = some (.getfield 7, 200, 3, 0, 1) := rfl
set_option maxRecDepth 100000 in
theorem xi_130_200 : xm_ins 130 200 = some (.iconst 3, 201, 0, 0, 3) := rfl
set_option maxRecDepth 100000 in
theorem xi_130_201 : xm_ins 130 201 = some (.dup2, 202, 0, 0, 0) := rfl
set_option maxRecDepth 100000 in
theorem xi_130_202 : xm_ins 130 202 = some (.iaload, 203, 0, 0, 0) := rfl
set_option maxRecDepth 100000 in
theorem xi_130_203 : xm_ins 130 203 = some (.iconst 1, 204, 0, 0, 1) := rfl
set_option maxRecDepth 100000 in
theorem xi_130_204 : xm_ins 130 204 = some (.iadd, 205, 0, 0, 0) := rfl
set_option maxRecDepth 100000 in
theorem xi_130_205 : xm_ins 130 205 = some (.iastore, 206, 0, 0, 0) := rfl
set_option maxRecDepth 100000 in
theorem xi_130_206 : xm_ins 130 206 = some (.iinc 5 1, 209, 5, 0, 1) := rfl
set_option maxRecDepth 100000 in
theorem xi_130_209 : xm_ins 130 209 = some (.goto (-94), 212, 115, 0, 0) := rfl
set_option maxRecDepth 100000 in
theorem xi_130_212 : xm_ins 130 212 = some (.aload_n 0, 213, 0, 0, 0) := rfl
set_option maxRecDepth 100000 in
theorem xi_130_213 : xm_ins 130 213 = some (.iload_n 3, 214, 3, 0, 0) := rfl
set_option maxRecDepth 100000 in
theorem xi_130_214 : xm_ins 130 214 = some (.invokevirtual 147, 217, 129, 2, 3) := rfl
set_option maxRecDepth 100000 in
theorem xi_130_217 : xm_ins 130 217 = some (.aload_n 0, 218, 0, 0, 0) := rfl
set_option maxRecDepth 100000 in
theorem xi_130_218 : xm_ins 130 218 = some (.getfield 7, 221, 3, 0, 1) := rfl
set_option maxRecDepth 100000 in
theorem xi_130_221 : xm_ins 130 221 = some (.iconst 1, 222, 0, 0, 1) := rfl
set_option maxRecDepth 100000 in
theorem xi_130_222 : xm_ins 130 222 = some (.dup2, 223, 0, 0, 0) := rfl
set_option maxRecDepth 100000 in
theorem xi_130_223 : xm_ins 130 223 = some (.iaload, 224, 0, 0, 0) := rfl
set_option maxRecDepth 100000 in
theorem xi_130_224 : xm_ins 130 224 = some (.iconst 1, 225, 0, 0, 1) := rfl
set_option maxRecDepth 100000 in
theorem xi_130_225 : xm_ins 130 225 = some (.iadd, 226, 0, 0, 0) := rfl
set_option maxRecDepth 100000 in
theorem xi_130_226 : xm_ins 130 226 = some (.iastore, 227, 0, 0, 0) := rfl
set_option maxRecDepth 100000 in
theorem xi_130_227 : xm_ins 130 227 = some (.iconst 1, 228, 0, 0, 1) := rfl
set_option maxRecDepth 100000 in
theorem xi_130_228 : xm_ins 130 228 = some (.ireturn, 229, 0, 0, 0) := rfl
theorem xn_131 (pc : Nat) : xm_ins 131 pc = xm_find xt_131 pc := rfl
theorem xi_131_0 : xm_ins 131 0 = some (.aload_n 0, 1, 0, 0, 0) := rfl
theorem xi_131_1 : xm_ins 131 1 = some (.iconst 0, 2, 0, 0, 0) := rfl
theorem xi_131_2 : xm_ins 131 2 = some (.sipush 980, 5, 0, 0, 980) := rfl
theorem xi_131_5 : xm_ins 131 5 = some (.invokevirtual 37, 8, 92, 3, 3) := rfl
theorem xi_131_8 : xm_ins 131 8 = some (.aload_n 0, 9, 0, 0, 0) := rfl
theorem xi_131_9 : xm_ins 131 9 = some (.iload_n 1, 10, 1, 0, 0) := rfl
theorem xi_131_10 : xm_ins 131 10 = some (.invokevirtual 150, 13, 130, 2, 3) := rfl
theorem xi_131_13 : xm_ins 131 13 = some (.istore_n 2, 14, 2, 0, 0) := rfl
theorem xi_131_14 : xm_ins 131 14 = some (.aload_n 0, 15, 0, 0, 0) := rfl
theorem xi_131_15 : xm_ins 131 15 = some (.sipush 980, 18, 0, 0, 980) := rfl
theorem xi_131_18 : xm_ins 131 18 = some (.iconst 0, 19, 0, 0, 0) := rfl
theorem xi_131_19 : xm_ins 131 19 = some (.invokevirtual 37, 22, 92, 3, 3) := rfl
theorem xi_131_22 : xm_ins 131 22 = some (.iload_n 2, 23, 2, 0, 0) := rfl
theorem xi_131_23 : xm_ins 131 23 = some (.ireturn, 24, 0, 0, 0) := rfl
theorem xn_132 (pc : Nat) : xm_ins 132 pc = xm_find xt_132 pc := rfl
theorem xi_132_0 : xm_ins 132 0 = some (.iload_n 0, 1, 0, 0, 0) := rfl
theorem xi_132_1 : xm_ins 132 1 = some (.iconst 0, 2, 0, 0, 0) := rfl
theorem xi_132_2 : xm_ins 132 2 = some (.iconst 1, 3, 0, 0, 1) := rfl
theorem xi_132_3 : xm_ins 132 3 = some (.invokestatic 25, 6, 85, 3, 3) := rfl
theorem xi_132_6 : xm_ins 132 6 = some (.ireturn, 7, 0, 0, 0) := rfl
theorem xn_133 (pc : Nat) : xm_ins 133 pc = xm_find xt_133 pc := rfl
theorem xi_133_0 : xm_ins 133 0 = some (.iload_n 1, 1, 1, 0, 0) := rfl
theorem xi_133_1 : xm_ins 133 1 = some (.invokestatic 153, 4, 132, 1, 3) := rfl
theorem xi_133_4 : xm_ins 133 4 = some (.ifCond .ne 8, 7, 12, 0, 0) := rfl
theorem xi_133_7 : xm_ins 133 7 = some (.ldc 78, 9, 0, 0, (-1000001)) := rfl
theorem xi_133_9 : xm_ins 133 9 = some (.goto 17, 12, 26, 0, 0) := rfl
theorem xi_133_12 : xm_ins 133 12 = some (.aload_n 0, 13, 0, 0, 0) := rfl
theorem xi_133_13 : xm_ins 133 13 = some (.iload_n 1, 14, 1, 0, 0) := rfl
theorem xi_133_14 : xm_ins 133 14 = some (.invokevirtual 156, 17, 131, 2, 3) := rfl
theorem xi_133_17 : xm_ins 133 17 = some (.ifCond .eq 7, 20, 24, 0, 0) := rfl
theorem xi_133_20 : xm_ins 133 20 = some (.iconst 0, 21, 0, 0, 0) := rfl
theorem xi_133_21 : xm_ins 133 21 = some (.goto 5, 24, 26, 0, 0) := rfl
theorem xi_133_24 : xm_ins 133 24 = some (.ldc 41, 26, 0, 0, (-1000002)) := rfl
theorem xi_133_26 : xm_ins 133 26 = some (.ireturn, 27, 0, 0, 0) := rfl
theorem xn_134 (pc : Nat) : xm_ins 134 pc = xm_find xt_134 pc := rfl
theorem xi_134_0 : xm_ins 134 0 = some (.aload_n 0, 1, 0, 0, 0) := rfl
theorem xi_134_1 : xm_ins 134 1 = some (.iload_n 1, 2, 1, 0, 0) := rfl
theorem xi_134_2 : xm_ins 134 2 = some (.invokevirtual 159, 5, 133, 2, 3) := rfl
theorem xi_134_5 : xm_ins 134 5 = some (.istore_n 2, 6, 2, 0, 0) := rfl
theorem xi_134_6 : xm_ins 134 6 = some (.iload_n 2, 7, 2, 0, 0) := rfl
theorem xi_134_7 : xm_ins 134 7 = some (.ifCond .eq 5, 10, 12, 0, 0) := rfl
theorem xi_134_10 : xm_ins 134 10 = some (.iload_n 2, 11, 2, 0, 0) := rfl
theorem xi_134_11 : xm_ins 134 11 = some (.ireturn, 12, 0, 0, 0) := rfl
theorem xi_134_12 : xm_ins 134 12 = some (.aload_n 0, 13, 0, 0, 0) := rfl
theorem xi_134_13 : xm_ins 134 13 = some (.iconst 0, 14, 0, 0, 0) := rfl
theorem xi_134_14 : xm_ins 134 14 = some (.invokevirtual 68, 17, 93, 2, 3) := rfl
theorem xi_134_17 : xm_ins 134 17 = some (.aload_n 0, 18, 0, 0, 0) := rfl
theorem xi_134_18 : xm_ins 134 18 = some (.invokevirtual 135, 21, 126, 1, 3) := rfl
theorem xi_134_21 : xm_ins 134 21 = some (.invokestatic 110, 24, 91, 1, 3) := rfl
theorem xi_134_24 : xm_ins 134 24 = some (.istore_n 3, 25, 3, 0, 0) := rfl
theorem xi_134_25 : xm_ins 134 25 = some (.aload_n 0, 26, 0, 0, 0) := rfl
theorem xi_134_26 : xm_ins 134 26 = some (.iload_n 1, 27, 1, 0, 0) := rfl
theorem xi_134_27 : xm_ins 134 27 = some (.invokevirtual 150, 30, 130, 2, 3) := rfl
theorem xi_134_30 : xm_ins 134 30 = some (.pop, 31, 0, 0, 0) := rfl
theorem xi_134_31 : xm_ins 134 31 = some (.iload_n 3, 32, 3, 0, 0) := rfl
theorem xi_134_32 : xm_ins 134 32 = some (.aload_n 0, 33, 0, 0, 0) := rfl
theorem xi_134_33 : xm_ins 134 33 = some (.invokevirtual 135, 36, 126, 1, 3) := rfl
theorem xi_134_36 : xm_ins 134 36 = some (.invokestatic 110, 39, 91, 1, 3) := rfl
theorem xi_134_39 : xm_ins 134 39 = some (.isub, 40, 0, 0, 0) := rfl
theorem xi_134_40 : xm_ins 134 40 = some (.ireturn, 41, 0, 0, 0) := rfl
theorem xn_135 (pc : Nat) : xm_ins 135 pc = xm_find xt_135 pc := rfl
theorem xi_135_0 : xm_ins 135 0 = some (.aload_n 0, 1, 0, 0, 0) := rfl
theorem xi_135_1 : xm_ins 135 1 = some (.invokevirtual 135, 4, 126, 1, 3) := rfl
theorem xi_135_4 : xm_ins 135 4 = some (.aload_n 0, 5, 0, 0, 0) := rfl
theorem xi_135_5 : xm_ins 135 5 = some (.invokevirtual 162, 8, 127, 1, 3) := rfl
theorem xi_135_8 : xm_ins 135 8 = some (.iconst (-1), 9, 0, 0, (-1)) := rfl
theorem xi_135_9 : xm_ins 135 9 = some (.ixor, 10, 0, 0, 0) := rfl
theorem xi_135_10 : xm_ins 135 10 = some (.iand, 11, 0, 0, 0) := rfl
theorem xi_135_11 : xm_ins 135 11 = some (.istore_n 1, 12, 1, 0, 0) := rfl
theorem xi_135_12 : xm_ins 135 12 = some (.aload_n 0, 13, 0, 0, 0) := rfl
theorem xi_135_13 : xm_ins 135 13 = some (.iload_n 1, 14, 1, 0, 0) := rfl
theorem xi_135_14 : xm_ins 135 14 = some (.invokevirtual 147, 17, 129, 2, 3) := rfl
theorem xi_135_17 : xm_ins 135 17 = some (.aload_n 0, 18, 0, 0, 0) := rfl
theorem xi_135_18 : xm_ins 135 18 = some (.getfield 7, 21, 3, 0, 1) := rfl
theorem xi_135_21 : xm_ins 135 21 = some (.iconst 2, 22, 0, 0, 2) := rfl
theorem xi_135_22 : xm_ins 135 22 = some (.dup2, 23, 0, 0, 0) := rfl
theorem xi_135_23 : xm_ins 135 23 = some (.iaload, 24, 0, 0, 0) := rfl
theorem xi_135_24 : xm_ins 135 24 = some (.iconst 1, 25, 0, 0, 1) := rfl
theorem xi_135_25 : xm_ins 135 25 = some (.iadd, 26, 0, 0, 0) := rfl
theorem xi_135_26 : xm_ins 135 26 = some (.iastore, 27, 0, 0, 0) := rfl
theorem xi_135_27 : xm_ins 135 27 = some (.iload_n 1, 28, 1, 0, 0) := rfl
theorem xi_135_28 : xm_ins 135 28 = some (.invokestatic 110, 31, 91, 1, 3) := rfl
theorem xi_135_31 : xm_ins 135 31 = some (.ireturn, 32, 0, 0, 0) := rfl
theorem xn_136 (pc : Nat) : xm_ins 136 pc = xm_find xt_136 pc := rfl
theorem xi_136_0 : xm_ins 136 0 = some (.aload_n 0, 1, 0, 0, 0) := rfl
theorem xi_136_1 : xm_ins 136 1 = some (.iconst 0, 2, 0, 0, 0) := rfl
theorem xi_136_2 : xm_ins 136 2 = some (.invokevirtual 68, 5, 93, 2, 3) := rfl
theorem xi_136_5 : xm_ins 136 5 = some (.aload_n 0, 6, 0, 0, 0) := rfl
theorem xi_136_6 : xm_ins 136 6 = some (.invokevirtual 165, 9, 135, 1, 3) := rfl
theorem xi_136_9 : xm_ins 136 9 = some (.ireturn, 10, 0, 0, 0) := rfl
theorem xn_137 (pc : Nat) : xm_ins 137 pc = xm_find xt_137 pc := rfl
theorem xi_137_0 : xm_ins 137 0 = some (.iconst 0, 1, 0, 0, 0) := rfl
theorem xi_137_1 : xm_ins 137 1 = some (.istore_n 2, 2, 2, 0, 0) := rfl
theorem xi_137_2 : xm_ins 137 2 = some (.iconst 0, 3, 0, 0, 0) := rfl
theorem xi_137_3 : xm_ins 137 3 = some (.istore_n 3, 4, 3, 0, 0) := rfl
theorem xi_137_4 : xm_ins 137 4 = some (.iload_n 3, 5, 3, 0, 0) := rfl
theorem xi_137_5 : xm_ins 137 5 = some (.aload_n 0, 6, 0, 0, 0) := rfl
theorem xi_137_6 : xm_ins 137 6 = some (.getfield 7, 9, 3, 0, 1) := rfl
theorem xi_137_9 : xm_ins 137 9 = some (.iconst 0, 10, 0, 0, 0) := rfl
theorem xi_137_10 : xm_ins 137 10 = some (.iaload, 11, 0, 0, 0) := rfl
theorem xi_137_11 : xm_ins 137 11 = some (.if_icmp .ge 33, 14, 44, 0, 0) := rfl
theorem xi_137_14 : xm_ins 137 14 = some (.iload_n 2, 15, 2, 0, 0) := rfl
theorem xi_137_15 : xm_ins 137 15 = some (.aload_n 0, 16, 0, 0, 0) := rfl
theorem xi_137_16 : xm_ins 137 16 = some (.iconst 1, 17, 0, 0, 1) := rfl
theorem xi_137_17 : xm_ins 137 17 = some (.iload_n 3, 18, 3, 0, 0) := rfl
theorem xi_137_18 : xm_ins 137 18 = some (.ishl, 19, 0, 0, 0) := rfl
theorem xi_137_19 : xm_ins 137 19 = some (.invokevirtual 123, 22, 123, 2, 3) := rfl
theorem xi_137_22 : xm_ins 137 22 = some (.iload_n 1, 23, 1, 0, 0) := rfl
theorem xi_137_23 : xm_ins 137 23 = some (.invokestatic 119, 26, 90, 2, 3) := rfl
theorem xi_137_26 : xm_ins 137 26 = some (.ifCond .eq 9, 29, 35, 0, 0) := rfl
theorem xi_137_29 : xm_ins 137 29 = some (.iconst 1, 30, 0, 0, 1) := rfl
theorem xi_137_30 : xm_ins 137 30 = some (.iload_n 3, 31, 3, 0, 0) := rfl
theorem xi_137_31 : xm_ins 137 31 = some (.ishl, 32, 0, 0, 0) := rfl
theorem xi_137_32 : xm_ins 137 32 = some (.goto 4, 35, 36, 0, 0) := rfl
theorem xi_137_35 : xm_ins 137 35 = some (.iconst 0, 36, 0, 0, 0) := rfl
theorem xi_137_36 : xm_ins 137 36 = some (.ior, 37, 0, 0, 0) := rfl
theorem xi_137_37 : xm_ins 137 37 = some (.istore_n 2, 38, 2, 0, 0) := rfl
theorem xi_137_38 : xm_ins 137 38 = some (.iinc 3 1, 41, 3, 0, 1) := rfl
theorem xi_137_41 : xm_ins 137 41 = some (.goto (-37), 44, 4, 0, 0) := rfl
theorem xi_137_44 : xm_ins 137 44 = some (.iload_n 2, 45, 2, 0, 0) := rfl
theorem xi_137_45 : xm_ins 137 45 = some (.ireturn, 46, 0, 0, 0) := rfl
theorem xn_138 (pc : Nat) : xm_ins 138 pc = xm_find xt_138 pc := rfl
theorem xi_138_0 : xm_ins 138 0 = some (.iconst 0, 1, 0, 0, 0) := rfl
theorem xi_138_1 : xm_ins 138 1 = some (.istore_n 2, 2, 2, 0, 0) := rfl
theorem xi_138_2 : xm_ins 138 2 = some (.iconst 0, 3, 0, 0, 0) := rfl
theorem xi_138_3 : xm_ins 138 3 = some (.istore_n 3, 4, 3, 0, 0) := rfl
theorem xi_138_4 : xm_ins 138 4 = some (.iload_n 3, 5, 3, 0, 0) := rfl
theorem xi_138_5 : xm_ins 138 5 = some (.iconst 4, 6, 0, 0, 4) := rfl
theorem xi_138_6 : xm_ins 138 6 = some (.if_icmp .ge 34, 9, 40, 0, 0) := rfl
theorem xi_138_9 : xm_ins 138 9 = some (.iload_n 2, 10, 2, 0, 0) := rfl
theorem xi_138_10 : xm_ins 138 10 = some (.aload_n 0, 11, 0, 0, 0) := rfl
theorem xi_138_11 : xm_ins 138 11 = some (.getfield 7, 14, 3, 0, 1) := rfl
theorem xi_138_14 : xm_ins 138 14 = some (.bipush 12, 16, 0, 0, 12) := rfl
theorem xi_138_16 : xm_ins 138 16 = some (.iload_n 3, 17, 3, 0, 0) := rfl
theorem xi_138_17 : xm_ins 138 17 = some (.iadd, 18, 0, 0, 0) := rfl
theorem xi_138_18 : xm_ins 138 18 = some (.iaload, 19, 0, 0, 0) := rfl
theorem xi_138_19 : xm_ins 138 19 = some (.iload_n 1, 20, 1, 0, 0) := rfl
theorem xi_138_20 : xm_ins 138 20 = some (.iconst 1, 21, 0, 0, 1) := rfl
theorem xi_138_21 : xm_ins 138 21 = some (.iadd, 22, 0, 0, 0) := rfl
theorem xi_138_22 : xm_ins 138 22 = some (.if_icmp .ne 9, 25, 31, 0, 0) := rfl
theorem xi_138_25 : xm_ins 138 25 = some (.iconst 1, 26, 0, 0, 1) := rfl
theorem xi_138_26 : xm_ins 138 26 = some (.iload_n 3, 27, 3, 0, 0) := rfl
theorem xi_138_27 : xm_ins 138 27 = some (.ishl, 28, 0, 0, 0) := rfl
theorem xi_138_28 : xm_ins 138 28 = some (.goto 4, 31, 32, 0, 0) := rfl
theorem xi_138_31 : xm_ins 138 31 = some (.iconst 0, 32, 0, 0, 0) := rfl
theorem xi_138_32 : xm_ins 138 32 = some (.ior, 33, 0, 0, 0) := rfl
theorem xi_138_33 : xm_ins 138 33 = some (.istore_n 2, 34, 2, 0, 0) := rfl
theorem xi_138_34 : xm_ins 138 34 = some (.iinc 3 1, 37, 3, 0, 1) := rfl
theorem xi_138_37 : xm_ins 138 37 = some (.goto (-33), 40, 4, 0, 0) := rfl
theorem xi_138_40 : xm_ins 138 40 = some (.iload_n 2, 41, 2, 0, 0) := rfl
theorem xi_138_41 : xm_ins 138 41 = some (.ireturn, 42, 0, 0, 0) := rfl
theorem xn_139 (pc : Nat) : xm_ins 139 pc = xm_find xt_139 pc := rfl
theorem xi_139_0 : xm_ins 139 0 = some (.iload_n 1, 1, 1, 0, 0) := rfl
theorem xi_139_1 : xm_ins 139 1 = some (.iconst 0, 2, 0, 0, 0) := rfl
theorem xi_139_2 : xm_ins 139 2 = some (.aload_n 0, 3, 0, 0, 0) := rfl
theorem xi_139_3 : xm_ins 139 3 = some (.getfield 7, 6, 3, 0, 1) := rfl
theorem xi_139_6 : xm_ins 139 6 = some (.iconst 0, 7, 0, 0, 0) := rfl
theorem xi_139_7 : xm_ins 139 7 = some (.iaload, 8, 0, 0, 0) := rfl
theorem xi_139_8 : xm_ins 139 8 = some (.iconst 1, 9, 0, 0, 1) := rfl
theorem xi_139_9 : xm_ins 139 9 = some (.isub, 10, 0, 0, 0) := rfl
theorem xi_139_10 : xm_ins 139 10 = some (.invokestatic 25, 13, 85, 3, 3) := rfl
theorem xi_139_13 : xm_ins 139 13 = some (.ifCond .ne 6, 16, 19, 0, 0) := rfl
theorem xi_139_16 : xm_ins 139 16 = some (.ldc 78, 18, 0, 0, (-1000001)) := rfl
theorem xi_139_18 : xm_ins 139 18 = some (.ireturn, 19, 0, 0, 0) := rfl
theorem xi_139_19 : xm_ins 139 19 = some (.aload_n 0, 20, 0, 0, 0) := rfl
theorem xi_139_20 : xm_ins 139 20 = some (.iload_n 1, 21, 1, 0, 0) := rfl
theorem xi_139_21 : xm_ins 139 21 = some (.invokevirtual 46, 24, 87, 2, 3) := rfl
theorem xi_139_24 : xm_ins 139 24 = some (.istore_n 3, 25, 3, 0, 0) := rfl
theorem xi_139_25 : xm_ins 139 25 = some (.iload_n 2, 26, 2, 0, 0) := rfl
theorem xi_139_26 : xm_ins 139 26 = some (.tableswitch 181 0 9 #[54, 64, 97, 112, 123, 123, 123, 158, 164, 170], 80, 0, 0, 0) := rfl
theorem xi_139_80 : xm_ins 139 80 = some (.iload_n 3, 81, 3, 0, 0) := rfl
theorem xi_139_81 : xm_ins 139 81 = some (.ifCond .eq 7, 84, 88, 0, 0) := rfl
theorem xi_139_84 : xm_ins 139 84 = some (.iconst 1, 85, 0, 0, 1) := rfl
theorem xi_139_85 : xm_ins 139 85 = some (.goto 4, 88, 89, 0, 0) := rfl
theorem xi_139_88 : xm_ins 139 88 = some (.iconst 0, 89, 0, 0, 0) := rfl
theorem xi_139_89 : xm_ins 139 89 = some (.ireturn, 90, 0, 0, 0) := rfl
theorem xi_139_90 : xm_ins 139 90 = some (.iload_n 3, 91, 3, 0, 0) := rfl
theorem xi_139_91 : xm_ins 139 91 = some (.ifCond .eq 29, 94, 120, 0, 0) := rfl
theorem xi_139_94 : xm_ins 139 94 = some (.bipush 10, 96, 0, 0, 10) := rfl
theorem xi_139_96 : xm_ins 139 96 = some (.aload_n 0, 97, 0, 0, 0) := rfl
theorem xi_139_97 : xm_ins 139 97 = some (.iload_n 1, 98, 1, 0, 0) := rfl
theorem xi_139_98 : xm_ins 139 98 = some (.invokevirtual 42, 101, 95, 2, 3) := rfl
theorem xi_139_101 : xm_ins 139 101 = some (.imul, 102, 0, 0, 0) := rfl
theorem xi_139_102 : xm_ins 139 102 = some (.aload_n 0, 103, 0, 0, 0) := rfl
theorem xi_139_103 : xm_ins 139 103 = some (.getfield 7, 106, 3, 0, 1) := rfl
theorem xi_139_106 : xm_ins 139 106 = some (.iload_n 1, 107, 1, 0, 0) := rfl
theorem xi_139_107 : xm_ins 139 107 = some (.iconst 0, 108, 0, 0, 0) := rfl
theorem xi_139_108 : xm_ins 139 108 = some (.invokestatic 29, 111, 86, 2, 3) := rfl
theorem xi_139_111 : xm_ins 139 111 = some (.iaload, 112, 0, 0, 0) := rfl
theorem xi_139_112 : xm_ins 139 112 = some (.iconst 1, 113, 0, 0, 1) := rfl
theorem xi_139_113 : xm_ins 139 113 = some (.isub, 114, 0, 0, 0) := rfl
theorem xi_139_114 : xm_ins 139 114 = some (.iconst 5, 115, 0, 0, 5) := rfl
theorem xi_139_115 : xm_ins 139 115 = some (.irem, 116, 0, 0, 0) := rfl
theorem xi_139_116 : xm_ins 139 116 = some (.iadd, 117, 0, 0, 0) := rfl
theorem xi_139_117 : xm_ins 139 117 = some (.goto 5, 120, 122, 0, 0) := rfl
theorem xi_139_120 : xm_ins 139 120 = some (.ldc 53, 122, 0, 0, (-1000004)) := rfl
theorem xi_139_122 : xm_ins 139 122 = some (.ireturn, 123, 0, 0, 0) := rfl
theorem xi_139_123 : xm_ins 139 123 = some (.iload_n 3, 124, 3, 0, 0) := rfl
theorem xi_139_124 : xm_ins 139 124 = some (.ifCond .eq 11, 127, 135, 0, 0) := rfl
theorem xi_139_127 : xm_ins 139 127 = some (.aload_n 0, 128, 0, 0, 0) := rfl
theorem xi_139_128 : xm_ins 139 128 = some (.iload_n 1, 129, 1, 0, 0) := rfl
theorem xi_139_129 : xm_ins 139 129 = some (.invokevirtual 50, 132, 96, 2, 3) := rfl
theorem xi_139_132 : xm_ins 139 132 = some (.goto 5, 135, 137, 0, 0) := rfl
theorem xi_139_135 : xm_ins 139 135 = some (.ldc 53, 137, 0, 0, (-1000004)) := rfl
theorem xi_139_137 : xm_ins 139 137 = some (.ireturn, 138, 0, 0, 0) := rfl
theorem xi_139_138 : xm_ins 139 138 = some (.aload_n 0, 139, 0, 0, 0) := rfl
theorem xi_139_139 : xm_ins 139 139 = some (.getfield 7, 142, 3, 0, 1) := rfl
theorem xi_139_142 : xm_ins 139 142 = some (.iload_n 1, 143, 1, 0, 0) := rfl
theorem xi_139_143 : xm_ins 139 143 = some (.iconst 1, 144, 0, 0, 1) := rfl
theorem xi_139_144 : xm_ins 139 144 = some (.invokestatic 29, 147, 86, 2, 3) := rfl
theorem xi_139_147 : xm_ins 139 147 = some (.iaload, 148, 0, 0, 0) := rfl
theorem xi_139_148 : xm_ins 139 148 = some (.ireturn, 149, 0, 0, 0) := rfl
theorem xi_139_149 : xm_ins 139 149 = some (.aload_n 0, 150, 0, 0, 0) := rfl
theorem xi_139_150 : xm_ins 139 150 = some (.getfield 7, 153, 3, 0, 1) := rfl
theorem xi_139_153 : xm_ins 139 153 = some (.iload_n 1, 154, 1, 0, 0) := rfl
theorem xi_139_154 : xm_ins 139 154 = some (.iload_n 2, 155, 2, 0, 0) := rfl
theorem xi_139_155 : xm_ins 139 155 = some (.iconst 2, 156, 0, 0, 2) := rfl
theorem xi_139_156 : xm_ins 139 156 = some (.isub, 157, 0, 0, 0) := rfl
theorem xi_139_157 : xm_ins 139 157 = some (.invokestatic 29, 160, 86, 2, 3) := rfl
theorem xi_139_160 : xm_ins 139 160 = some (.iaload, 161, 0, 0, 0) := rfl
theorem xi_139_161 : xm_ins 139 161 = some (.ifCond .ne 8, 164, 169, 0, 0) := rfl
theorem xi_139_164 : xm_ins 139 164 = some (.ldc 53, 166, 0, 0, (-1000004)) := rfl
theorem xi_139_166 : xm_ins 139 166 = some (.goto 17, 169, 183, 0, 0) := rfl
theorem xi_139_169 : xm_ins 139 169 = some (.aload_n 0, 170, 0, 0, 0) := rfl
theorem xi_139_170 : xm_ins 139 170 = some (.getfield 7, 173, 3, 0, 1) := rfl
theorem xi_139_173 : xm_ins 139 173 = some (.iload_n 1, 174, 1, 0, 0) := rfl
theorem xi_139_174 : xm_ins 139 174 = some (.iload_n 2, 175, 2, 0, 0) := rfl
theorem xi_139_175 : xm_ins 139 175 = some (.iconst 2, 176, 0, 0, 2) := rfl
theorem xi_139_176 : xm_ins 139 176 = some (.isub, 177, 0, 0, 0) := rfl
theorem xi_139_177 : xm_ins 139 177 = some (.invokestatic 29, 180, 86, 2, 3) := rfl
theorem xi_139_180 : xm_ins 139 180 = some (.iaload, 181, 0, 0, 0) := rfl
theorem xi_139_181 : xm_ins 139 181 = some (.iconst 1, 182, 0, 0, 1) := rfl
theorem xi_139_182 : xm_ins 139 182 = some (.isub, 183, 0, 0, 0) := rfl
set_option maxRecDepth 100000 in
theorem xi_139_183 : xm_ins 139 183 = some (.ireturn, 184, 0, 0, 0) := rfl
set_option maxRecDepth 100000 in
theorem xi_139_184 : xm_ins 139 184 = some (.aload_n 0, 185, 0, 0, 0) := rfl
set_option maxRecDepth 100000 in
theorem xi_139_185 : xm_ins 139 185 = some (.iload_n 1, 186, 1, 0, 0) := rfl
set_option maxRecDepth 100000 in
theorem xi_139_186 : xm_ins 139 186 = some (.invokevirtual 168, 189, 138, 2, 3) := rfl
set_option maxRecDepth 100000 in
theorem xi_139_189 : xm_ins 139 189 = some (.ireturn, 190, 0, 0, 0) := rfl
set_option maxRecDepth 100000 in
theorem xi_139_190 : xm_ins 139 190 = some (.aload_n 0, 191, 0, 0, 0) := rfl
set_option maxRecDepth 100000 in
theorem xi_139_191 : xm_ins 139 191 = some (.iload_n 1, 192, 1, 0, 0) := rfl
set_option maxRecDepth 100000 in
theorem xi_139_192 : xm_ins 139 192 = some (.invokevirtual 171, 195, 137, 2, 3) := rfl
set_option maxRecDepth 100000 in
theorem xi_139_195 : xm_ins 139 195 = some (.ireturn, 196, 0, 0, 0) := rfl
set_option maxRecDepth 100000 in
theorem xi_139_196 : xm_ins 139 196 = some (.aload_n 0, 197, 0, 0, 0) := rfl
set_option maxRecDepth 100000 in
theorem xi_139_197 : xm_ins 139 197 = some (.getfield 7, 200, 3, 0, 1) := rfl
set_option maxRecDepth 100000 in
theorem xi_139_200 : xm_ins 139 200 = some (.iload_n 1, 201, 1, 0, 0) := rfl
set_option maxRecDepth 100000 in
theorem xi_139_201 : xm_ins 139 201 = some (.iconst 5, 202, 0, 0, 5) := rfl
set_option maxRecDepth 100000 in
theorem xi_139_202 : xm_ins 139 202 = some (.invokestatic 29, 205, 86, 2, 3) := rfl
set_option maxRecDepth 100000 in
theorem xi_139_205 : xm_ins 139 205 = some (.iaload, 206, 0, 0, 0) := rfl
set_option maxRecDepth 100000 in
theorem xi_139_206 : xm_ins 139 206 = some (.ireturn, 207, 0, 0, 0) := rfl
set_option maxRecDepth 100000 in
theorem xi_139_207 : xm_ins 139 207 = some (.ldc 78, 209, 0, 0, (-1000001)) := rfl
set_option maxRecDepth 100000 in
theorem xi_139_209 : xm_ins 139 209 = some (.ireturn, 210, 0, 0, 0) := rfl
theorem xn_140 (pc : Nat) : xm_ins 140 pc = xm_find xt_140 pc := rfl
theorem xi_140_0 : xm_ins 140 0 = some (.iconst 0, 1, 0, 0, 0) := rfl
theorem xi_140_1 : xm_ins 140 1 = some (.istore_n 2, 2, 2, 0, 0) := rfl
theorem xi_140_2 : xm_ins 140 2 = some (.iconst 0, 3, 0, 0, 0) := rfl
theorem xi_140_3 : xm_ins 140 3 = some (.istore_n 3, 4, 3, 0, 0) := rfl
theorem xi_140_4 : xm_ins 140 4 = some (.iload_n 3, 5, 3, 0, 0) := rfl
theorem xi_140_5 : xm_ins 140 5 = some (.aload_n 0, 6, 0, 0, 0) := rfl
theorem xi_140_6 : xm_ins 140 6 = some (.getfield 7, 9, 3, 0, 1) := rfl
theorem xi_140_9 : xm_ins 140 9 = some (.iconst 0, 10, 0, 0, 0) := rfl
theorem xi_140_10 : xm_ins 140 10 = some (.iaload, 11, 0, 0, 0) := rfl
theorem xi_140_11 : xm_ins 140 11 = some (.if_icmp .ge 36, 14, 47, 0, 0) := rfl
theorem xi_140_14 : xm_ins 140 14 = some (.iload_n 2, 15, 2, 0, 0) := rfl
theorem xi_140_15 : xm_ins 140 15 = some (.aload_n 0, 16, 0, 0, 0) := rfl
theorem xi_140_16 : xm_ins 140 16 = some (.iload_n 3, 17, 3, 0, 0) := rfl
theorem xi_140_17 : xm_ins 140 17 = some (.invokevirtual 46, 20, 87, 2, 3) := rfl
theorem xi_140_20 : xm_ins 140 20 = some (.ifCond .eq 18, 23, 38, 0, 0) := rfl
theorem xi_140_23 : xm_ins 140 23 = some (.aload_n 0, 24, 0, 0, 0) := rfl
theorem xi_140_24 : xm_ins 140 24 = some (.iload_n 3, 25, 3, 0, 0) := rfl
theorem xi_140_25 : xm_ins 140 25 = some (.invokevirtual 42, 28, 95, 2, 3) := rfl
theorem xi_140_28 : xm_ins 140 28 = some (.iload_n 1, 29, 1, 0, 0) := rfl
theorem xi_140_29 : xm_ins 140 29 = some (.if_icmp .ne 9, 32, 38, 0, 0) := rfl
theorem xi_140_32 : xm_ins 140 32 = some (.iconst 1, 33, 0, 0, 1) := rfl
theorem xi_140_33 : xm_ins 140 33 = some (.iload_n 3, 34, 3, 0, 0) := rfl
theorem xi_140_34 : xm_ins 140 34 = some (.ishl, 35, 0, 0, 0) := rfl
theorem xi_140_35 : xm_ins 140 35 = some (.goto 4, 38, 39, 0, 0) := rfl
theorem xi_140_38 : xm_ins 140 38 = some (.iconst 0, 39, 0, 0, 0) := rfl
theorem xi_140_39 : xm_ins 140 39 = some (.ior, 40, 0, 0, 0) := rfl
theorem xi_140_40 : xm_ins 140 40 = some (.istore_n 2, 41, 2, 0, 0) := rfl
theorem xi_140_41 : xm_ins 140 41 = some (.iinc 3 1, 44, 3, 0, 1) := rfl
theorem xi_140_44 : xm_ins 140 44 = some (.goto (-40), 47, 4, 0, 0) := rfl
theorem xi_140_47 : xm_ins 140 47 = some (.iload_n 2, 48, 2, 0, 0) := rfl
theorem xi_140_48 : xm_ins 140 48 = some (.ireturn, 49, 0, 0, 0) := rfl
theorem xn_141 (pc : Nat) : xm_ins 141 pc = xm_find xt_141 pc := rfl
theorem xi_141_0 : xm_ins 141 0 = some (.iload_n 1, 1, 1, 0, 0) := rfl
theorem xi_141_1 : xm_ins 141 1 = some (.iconst 0, 2, 0, 0, 0) := rfl
theorem xi_141_2 : xm_ins 141 2 = some (.bipush 7, 4, 0, 0, 7) := rfl
theorem xi_141_4 : xm_ins 141 4 = some (.invokestatic 25, 7, 85, 3, 3) := rfl
theorem xi_141_7 : xm_ins 141 7 = some (.ifCond .eq 13, 10, 20, 0, 0) := rfl
theorem xi_141_10 : xm_ins 141 10 = some (.iload_n 2, 11, 2, 0, 0) := rfl
theorem xi_141_11 : xm_ins 141 11 = some (.iconst 0, 12, 0, 0, 0) := rfl
theorem xi_141_12 : xm_ins 141 12 = some (.bipush 7, 14, 0, 0, 7) := rfl
theorem xi_141_14 : xm_ins 141 14 = some (.invokestatic 25, 17, 85, 3, 3) := rfl
theorem xi_141_17 : xm_ins 141 17 = some (.ifCond .ne 6, 20, 23, 0, 0) := rfl
theorem xi_141_20 : xm_ins 141 20 = some (.ldc 78, 22, 0, 0, (-1000001)) := rfl
theorem xi_141_22 : xm_ins 141 22 = some (.ireturn, 23, 0, 0, 0) := rfl
theorem xi_141_23 : xm_ins 141 23 = some (.iload_n 2, 24, 2, 0, 0) := rfl
theorem xi_141_24 : xm_ins 141 24 = some (.ifCond .ne 30, 27, 54, 0, 0) := rfl
theorem xi_141_27 : xm_ins 141 27 = some (.aload_n 0, 28, 0, 0, 0) := rfl
theorem xi_141_28 : xm_ins 141 28 = some (.getfield 7, 31, 3, 0, 1) := rfl
theorem xi_141_31 : xm_ins 141 31 = some (.iconst 4, 32, 0, 0, 4) := rfl
theorem xi_141_32 : xm_ins 141 32 = some (.iload_n 1, 33, 1, 0, 0) := rfl
theorem xi_141_33 : xm_ins 141 33 = some (.iadd, 34, 0, 0, 0) := rfl
theorem xi_141_34 : xm_ins 141 34 = some (.iaload, 35, 0, 0, 0) := rfl
theorem xi_141_35 : xm_ins 141 35 = some (.ifCond .ne 8, 38, 43, 0, 0) := rfl
theorem xi_141_38 : xm_ins 141 38 = some (.ldc 53, 40, 0, 0, (-1000004)) := rfl
theorem xi_141_40 : xm_ins 141 40 = some (.goto 13, 43, 53, 0, 0) := rfl
theorem xi_141_43 : xm_ins 141 43 = some (.aload_n 0, 44, 0, 0, 0) := rfl
theorem xi_141_44 : xm_ins 141 44 = some (.getfield 7, 47, 3, 0, 1) := rfl
theorem xi_141_47 : xm_ins 141 47 = some (.iconst 4, 48, 0, 0, 4) := rfl
theorem xi_141_48 : xm_ins 141 48 = some (.iload_n 1, 49, 1, 0, 0) := rfl
theorem xi_141_49 : xm_ins 141 49 = some (.iadd, 50, 0, 0, 0) := rfl
theorem xi_141_50 : xm_ins 141 50 = some (.iaload, 51, 0, 0, 0) := rfl
theorem xi_141_51 : xm_ins 141 51 = some (.iconst 1, 52, 0, 0, 1) := rfl
theorem xi_141_52 : xm_ins 141 52 = some (.isub, 53, 0, 0, 0) := rfl
theorem xi_141_53 : xm_ins 141 53 = some (.ireturn, 54, 0, 0, 0) := rfl
theorem xi_141_54 : xm_ins 141 54 = some (.iload_n 2, 55, 2, 0, 0) := rfl
theorem xi_141_55 : xm_ins 141 55 = some (.iconst 1, 56, 0, 0, 1) := rfl
theorem xi_141_56 : xm_ins 141 56 = some (.if_icmp .ne 14, 59, 70, 0, 0) := rfl
theorem xi_141_59 : xm_ins 141 59 = some (.aload_n 0, 60, 0, 0, 0) := rfl
theorem xi_141_60 : xm_ins 141 60 = some (.iload_n 1, 61, 1, 0, 0) := rfl
theorem xi_141_61 : xm_ins 141 61 = some (.invokevirtual 174, 64, 140, 2, 3) := rfl
theorem xi_141_64 : xm_ins 141 64 = some (.invokestatic 110, 67, 91, 1, 3) := rfl
theorem xi_141_67 : xm_ins 141 67 = some (.goto 27, 70, 94, 0, 0) := rfl
theorem xi_141_70 : xm_ins 141 70 = some (.iload_n 2, 71, 2, 0, 0) := rfl
theorem xi_141_71 : xm_ins 141 71 = some (.iconst 2, 72, 0, 0, 2) := rfl
theorem xi_141_72 : xm_ins 141 72 = some (.if_icmp .ne 11, 75, 83, 0, 0) := rfl
theorem xi_141_75 : xm_ins 141 75 = some (.aload_n 0, 76, 0, 0, 0) := rfl
theorem xi_141_76 : xm_ins 141 76 = some (.iload_n 1, 77, 1, 0, 0) := rfl
theorem xi_141_77 : xm_ins 141 77 = some (.invokevirtual 174, 80, 140, 2, 3) := rfl
theorem xi_141_80 : xm_ins 141 80 = some (.goto 14, 83, 94, 0, 0) := rfl
theorem xi_141_83 : xm_ins 141 83 = some (.aload_n 0, 84, 0, 0, 0) := rfl
theorem xi_141_84 : xm_ins 141 84 = some (.iconst 5, 85, 0, 0, 5) := rfl
theorem xi_141_85 : xm_ins 141 85 = some (.iload_n 1, 86, 1, 0, 0) := rfl
theorem xi_141_86 : xm_ins 141 86 = some (.imul, 87, 0, 0, 0) := rfl
theorem xi_141_87 : xm_ins 141 87 = some (.iload_n 2, 88, 2, 0, 0) := rfl
theorem xi_141_88 : xm_ins 141 88 = some (.iadd, 89, 0, 0, 0) := rfl
theorem xi_141_89 : xm_ins 141 89 = some (.iconst 3, 90, 0, 0, 3) := rfl
theorem xi_141_90 : xm_ins 141 90 = some (.isub, 91, 0, 0, 0) := rfl
theorem xi_141_91 : xm_ins 141 91 = some (.invokevirtual 54, 94, 98, 2, 3) := rfl
theorem xi_141_94 : xm_ins 141 94 = some (.ireturn, 95, 0, 0, 0) := rfl
theorem xn_142 (pc : Nat) : xm_ins 142 pc = xm_find xt_142 pc := rfl
theorem xi_142_0 : xm_ins 142 0 = some (.iload_n 1, 1, 1, 0, 0) := rfl
theorem xi_142_1 : xm_ins 142 1 = some (.invokestatic 75, 4, 88, 1, 3) := rfl
theorem xi_142_4 : xm_ins 142 4 = some (.ifCond .ne 8, 7, 12, 0, 0) := rfl
theorem xi_142_7 : xm_ins 142 7 = some (.ldc 78, 9, 0, 0, (-1000001)) := rfl
theorem xi_142_9 : xm_ins 142 9 = some (.goto 31, 12, 40, 0, 0) := rfl
theorem xi_142_12 : xm_ins 142 12 = some (.aload_n 0, 13, 0, 0, 0) := rfl
theorem xi_142_13 : xm_ins 142 13 = some (.getfield 7, 16, 3, 0, 1) := rfl
theorem xi_142_16 : xm_ins 142 16 = some (.bipush 12, 18, 0, 0, 12) := rfl
theorem xi_142_18 : xm_ins 142 18 = some (.iload_n 1, 19, 1, 0, 0) := rfl
theorem xi_142_19 : xm_ins 142 19 = some (.iadd, 20, 0, 0, 0) := rfl
theorem xi_142_20 : xm_ins 142 20 = some (.iaload, 21, 0, 0, 0) := rfl
theorem xi_142_21 : xm_ins 142 21 = some (.ifCond .ne 8, 24, 29, 0, 0) := rfl
theorem xi_142_24 : xm_ins 142 24 = some (.ldc 53, 26, 0, 0, (-1000004)) := rfl
theorem xi_142_26 : xm_ins 142 26 = some (.goto 14, 29, 40, 0, 0) := rfl
theorem xi_142_29 : xm_ins 142 29 = some (.aload_n 0, 30, 0, 0, 0) := rfl
theorem xi_142_30 : xm_ins 142 30 = some (.getfield 7, 33, 3, 0, 1) := rfl
theorem xi_142_33 : xm_ins 142 33 = some (.bipush 12, 35, 0, 0, 12) := rfl
theorem xi_142_35 : xm_ins 142 35 = some (.iload_n 1, 36, 1, 0, 0) := rfl
theorem xi_142_36 : xm_ins 142 36 = some (.iadd, 37, 0, 0, 0) := rfl
theorem xi_142_37 : xm_ins 142 37 = some (.iaload, 38, 0, 0, 0) := rfl
theorem xi_142_38 : xm_ins 142 38 = some (.iconst 1, 39, 0, 0, 1) := rfl
theorem xi_142_39 : xm_ins 142 39 = some (.isub, 40, 0, 0, 0) := rfl
theorem xi_142_40 : xm_ins 142 40 = some (.ireturn, 41, 0, 0, 0) := rfl
theorem xn_143 (pc : Nat) : xm_ins 143 pc = xm_find xt_143 pc := rfl
theorem xi_143_0 : xm_ins 143 0 = some (.aload_n 0, 1, 0, 0, 0) := rfl
theorem xi_143_1 : xm_ins 143 1 = some (.getfield 7, 4, 3, 0, 1) := rfl
theorem xi_143_4 : xm_ins 143 4 = some (.iload_n 1, 5, 1, 0, 0) := rfl
theorem xi_143_5 : xm_ins 143 5 = some (.iconst 2, 6, 0, 0, 2) := rfl
theorem xi_143_6 : xm_ins 143 6 = some (.iload_n 2, 7, 2, 0, 0) := rfl
theorem xi_143_7 : xm_ins 143 7 = some (.iadd, 8, 0, 0, 0) := rfl
theorem xi_143_8 : xm_ins 143 8 = some (.invokestatic 29, 11, 86, 2, 3) := rfl
theorem xi_143_11 : xm_ins 143 11 = some (.iaload, 12, 0, 0, 0) := rfl
theorem xi_143_12 : xm_ins 143 12 = some (.iconst 1, 13, 0, 0, 1) := rfl
theorem xi_143_13 : xm_ins 143 13 = some (.isub, 14, 0, 0, 0) := rfl
theorem xi_143_14 : xm_ins 143 14 = some (.istore_n 3, 15, 3, 0, 0) := rfl
theorem xi_143_15 : xm_ins 143 15 = some (.aload_n 0, 16, 0, 0, 0) := rfl
theorem xi_143_16 : xm_ins 143 16 = some (.iload_n 1, 17, 1, 0, 0) := rfl
theorem xi_143_17 : xm_ins 143 17 = some (.invokevirtual 46, 20, 87, 2, 3) := rfl
theorem xi_143_20 : xm_ins 143 20 = some (.ifCond .eq 24, 23, 44, 0, 0) := rfl
theorem xi_143_23 : xm_ins 143 23 = some (.iload_n 3, 24, 3, 0, 0) := rfl
theorem xi_143_24 : xm_ins 143 24 = some (.ifCond .lt 20, 27, 44, 0, 0) := rfl
theorem xi_143_27 : xm_ins 143 27 = some (.aload_n 0, 28, 0, 0, 0) := rfl
theorem xi_143_28 : xm_ins 143 28 = some (.iload_n 3, 29, 3, 0, 0) := rfl
theorem xi_143_29 : xm_ins 143 29 = some (.invokevirtual 50, 32, 96, 2, 3) := rfl
theorem xi_143_32 : xm_ins 143 32 = some (.aload_n 0, 33, 0, 0, 0) := rfl
theorem xi_143_33 : xm_ins 143 33 = some (.iload_n 1, 34, 1, 0, 0) := rfl
theorem xi_143_34 : xm_ins 143 34 = some (.invokevirtual 50, 37, 96, 2, 3) := rfl
theorem xi_143_37 : xm_ins 143 37 = some (.if_icmp .ge 7, 40, 44, 0, 0) := rfl
theorem xi_143_40 : xm_ins 143 40 = some (.iconst 1, 41, 0, 0, 1) := rfl
theorem xi_143_41 : xm_ins 143 41 = some (.goto 4, 44, 45, 0, 0) := rfl
theorem xi_143_44 : xm_ins 143 44 = some (.iconst 0, 45, 0, 0, 0) := rfl
theorem xi_143_45 : xm_ins 143 45 = some (.ireturn, 46, 0, 0, 0) := rfl
theorem xn_144 (pc : Nat) : xm_ins 144 pc = xm_find xt_144 pc := rfl
theorem xi_144_0 : xm_ins 144 0 = some (.iconst 0, 1, 0, 0, 0) := rfl
theorem xi_144_1 : xm_ins 144 1 = some (.istore_n 2, 2, 2, 0, 0) := rfl
theorem xi_144_2 : xm_ins 144 2 = some (.iconst 0, 3, 0, 0, 0) := rfl
theorem xi_144_3 : xm_ins 144 3 = some (.istore_n 3, 4, 3, 0, 0) := rfl
theorem xi_144_4 : xm_ins 144 4 = some (.iload_n 3, 5, 3, 0, 0) := rfl
theorem xi_144_5 : xm_ins 144 5 = some (.iconst 3, 6, 0, 0, 3) := rfl
theorem xi_144_6 : xm_ins 144 6 = some (.aload_n 0, 7, 0, 0, 0) := rfl
theorem xi_144_7 : xm_ins 144 7 = some (.getfield 7, 10, 3, 0, 1) := rfl
theorem xi_144_10 : xm_ins 144 10 = some (.iconst 0, 11, 0, 0, 0) := rfl
theorem xi_144_11 : xm_ins 144 11 = some (.iaload, 12, 0, 0, 0) := rfl
theorem xi_144_12 : xm_ins 144 12 = some (.imul, 13, 0, 0, 0) := rfl
theorem xi_144_13 : xm_ins 144 13 = some (.if_icmp .ge 41, 16, 54, 0, 0) := rfl
theorem xi_144_16 : xm_ins 144 16 = some (.aload_n 0, 17, 0, 0, 0) := rfl
theorem xi_144_17 : xm_ins 144 17 = some (.iload_n 3, 18, 3, 0, 0) := rfl
theorem xi_144_18 : xm_ins 144 18 = some (.iconst 3, 19, 0, 0, 3) := rfl
theorem xi_144_19 : xm_ins 144 19 = some (.idiv, 20, 0, 0, 0) := rfl
theorem xi_144_20 : xm_ins 144 20 = some (.iload_n 3, 21, 3, 0, 0) := rfl
theorem xi_144_21 : xm_ins 144 21 = some (.iconst 3, 22, 0, 0, 3) := rfl
theorem xi_144_22 : xm_ins 144 22 = some (.irem, 23, 0, 0, 0) := rfl
theorem xi_144_23 : xm_ins 144 23 = some (.invokevirtual 177, 26, 143, 3, 3) := rfl
theorem xi_144_26 : xm_ins 144 26 = some (.ifCond .eq 22, 29, 48, 0, 0) := rfl
theorem xi_144_29 : xm_ins 144 29 = some (.iload_n 2, 30, 2, 0, 0) := rfl
theorem xi_144_30 : xm_ins 144 30 = some (.iload_n 1, 31, 1, 0, 0) := rfl
theorem xi_144_31 : xm_ins 144 31 = some (.if_icmp .ne 14, 34, 45, 0, 0) := rfl
theorem xi_144_34 : xm_ins 144 34 = some (.bipush 10, 36, 0, 0, 10) := rfl
theorem xi_144_36 : xm_ins 144 36 = some (.iload_n 3, 37, 3, 0, 0) := rfl
theorem xi_144_37 : xm_ins 144 37 = some (.iconst 3, 38, 0, 0, 3) := rfl
theorem xi_144_38 : xm_ins 144 38 = some (.idiv, 39, 0, 0, 0) := rfl
theorem xi_144_39 : xm_ins 144 39 = some (.imul, 40, 0, 0, 0) := rfl
theorem xi_144_40 : xm_ins 144 40 = some (.iload_n 3, 41, 3, 0, 0) := rfl
theorem xi_144_41 : xm_ins 144 41 = some (.iconst 3, 42, 0, 0, 3) := rfl
theorem xi_144_42 : xm_ins 144 42 = some (.irem, 43, 0, 0, 0) := rfl
theorem xi_144_43 : xm_ins 144 43 = some (.iadd, 44, 0, 0, 0) := rfl
theorem xi_144_44 : xm_ins 144 44 = some (.ireturn, 45, 0, 0, 0) := rfl
theorem xi_144_45 : xm_ins 144 45 = some (.iinc 2 1, 48, 2, 0, 1) := rfl
theorem xi_144_48 : xm_ins 144 48 = some (.iinc 3 1, 51, 3, 0, 1) := rfl
theorem xi_144_51 : xm_ins 144 51 = some (.goto (-47), 54, 4, 0, 0) := rfl
theorem xi_144_54 : xm_ins 144 54 = some (.iload_n 1, 55, 1, 0, 0) := rfl
theorem xi_144_55 : xm_ins 144 55 = some (.ifCond .ge 7, 58, 62, 0, 0) := rfl
theorem xi_144_58 : xm_ins 144 58 = some (.iload_n 2, 59, 2, 0, 0) := rfl
theorem xi_144_59 : xm_ins 144 59 = some (.goto 5, 62, 64, 0, 0) := rfl
theorem xi_144_62 : xm_ins 144 62 = some (.ldc 53, 64, 0, 0, (-1000004)) := rfl
theorem xi_144_64 : xm_ins 144 64 = some (.ireturn, 65, 0, 0, 0) := rfl
theorem xn_145 (pc : Nat) : xm_ins 145 pc = xm_find xt_145 pc := rfl
theorem xi_145_0 : xm_ins 145 0 = some (.iload_n 1, 1, 1, 0, 0) := rfl
theorem xi_145_1 : xm_ins 145 1 = some (.ifCond .ge 8, 4, 9, 0, 0) := rfl
theorem xi_145_4 : xm_ins 145 4 = some (.ldc 78, 6, 0, 0, (-1000001)) := rfl
theorem xi_145_6 : xm_ins 145 6 = some (.goto 8, 9, 14, 0, 0) := rfl
theorem xi_145_9 : xm_ins 145 9 = some (.aload_n 0, 10, 0, 0, 0) := rfl
theorem xi_145_10 : xm_ins 145 10 = some (.iload_n 1, 11, 1, 0, 0) := rfl
theorem xi_145_11 : xm_ins 145 11 = some (.invokevirtual 180, 14, 144, 2, 3) := rfl
theorem xi_145_14 : xm_ins 145 14 = some (.ireturn, 15, 0, 0, 0) := rfl
theorem xn_146 (pc : Nat) : xm_ins 146 pc = xm_find xt_146 pc := rfl
theorem xi_146_0 : xm_ins 146 0 = some (.iload_n 1, 1, 1, 0, 0) := rfl
theorem xi_146_1 : xm_ins 146 1 = some (.ifCond .ne 10, 4, 11, 0, 0) := rfl
theorem xi_146_4 : xm_ins 146 4 = some (.aload_n 0, 5, 0, 0, 0) := rfl
theorem xi_146_5 : xm_ins 146 5 = some (.invokevirtual 162, 8, 127, 1, 3) := rfl
theorem xi_146_8 : xm_ins 146 8 = some (.goto 24, 11, 32, 0, 0) := rfl
theorem xi_146_11 : xm_ins 146 11 = some (.iload_n 1, 12, 1, 0, 0) := rfl
theorem xi_146_12 : xm_ins 146 12 = some (.iconst 1, 13, 0, 0, 1) := rfl
theorem xi_146_13 : xm_ins 146 13 = some (.if_icmp .ne 17, 16, 30, 0, 0) := rfl
theorem xi_146_16 : xm_ins 146 16 = some (.aload_n 0, 17, 0, 0, 0) := rfl
theorem xi_146_17 : xm_ins 146 17 = some (.invokevirtual 135, 20, 126, 1, 3) := rfl
theorem xi_146_20 : xm_ins 146 20 = some (.aload_n 0, 21, 0, 0, 0) := rfl
theorem xi_146_21 : xm_ins 146 21 = some (.invokevirtual 162, 24, 127, 1, 3) := rfl
theorem xi_146_24 : xm_ins 146 24 = some (.iconst (-1), 25, 0, 0, (-1)) := rfl
theorem xi_146_25 : xm_ins 146 25 = some (.ixor, 26, 0, 0, 0) := rfl
theorem xi_146_26 : xm_ins 146 26 = some (.iand, 27, 0, 0, 0) := rfl
theorem xi_146_27 : xm_ins 146 27 = some (.goto 5, 30, 32, 0, 0) := rfl
theorem xi_146_30 : xm_ins 146 30 = some (.ldc 78, 32, 0, 0, (-1000001)) := rfl
theorem xi_146_32 : xm_ins 146 32 = some (.ireturn, 33, 0, 0, 0) := rfl
theorem xn_147 (pc : Nat) : xm_ins 147 pc = xm_find xt_147 pc := rfl
theorem xi_147_0 : xm_ins 147 0 = some (.iload_n 1, 1, 1, 0, 0) := rfl
theorem xi_147_1 : xm_ins 147 1 = some (.invokestatic 153, 4, 132, 1, 3) := rfl
theorem xi_147_4 : xm_ins 147 4 = some (.ifCond .eq 12, 7, 16, 0, 0) := rfl
theorem xi_147_7 : xm_ins 147 7 = some (.iload_n 2, 8, 2, 0, 0) := rfl
theorem xi_147_8 : xm_ins 147 8 = some (.iconst 0, 9, 0, 0, 0) := rfl
theorem xi_147_9 : xm_ins 147 9 = some (.iconst 3, 10, 0, 0, 3) := rfl
theorem xi_147_10 : xm_ins 147 10 = some (.invokestatic 25, 13, 85, 3, 3) := rfl
theorem xi_147_13 : xm_ins 147 13 = some (.ifCond .ne 6, 16, 19, 0, 0) := rfl
theorem xi_147_16 : xm_ins 147 16 = some (.ldc 78, 18, 0, 0, (-1000001)) := rfl
theorem xi_147_18 : xm_ins 147 18 = some (.ireturn, 19, 0, 0, 0) := rfl
theorem xi_147_19 : xm_ins 147 19 = some (.aload_n 0, 20, 0, 0, 0) := rfl
theorem xi_147_20 : xm_ins 147 20 = some (.iload_n 1, 21, 1, 0, 0) := rfl
theorem xi_147_21 : xm_ins 147 21 = some (.invokevirtual 144, 24, 128, 2, 3) := rfl
theorem xi_147_24 : xm_ins 147 24 = some (.istore_n 3, 25, 3, 0, 0) := rfl
theorem xi_147_25 : xm_ins 147 25 = some (.iload_n 2, 26, 2, 0, 0) := rfl
theorem xi_147_26 : xm_ins 147 26 = some (.ifCond .ne 7, 29, 33, 0, 0) := rfl
theorem xi_147_29 : xm_ins 147 29 = some (.iload_n 3, 30, 3, 0, 0) := rfl
theorem xi_147_30 : xm_ins 147 30 = some (.goto 52, 33, 82, 0, 0) := rfl
theorem xi_147_33 : xm_ins 147 33 = some (.iload_n 2, 34, 2, 0, 0) := rfl
theorem xi_147_34 : xm_ins 147 34 = some (.iconst 1, 35, 0, 0, 1) := rfl
theorem xi_147_35 : xm_ins 147 35 = some (.if_icmp .ne 15, 38, 50, 0, 0) := rfl
theorem xi_147_38 : xm_ins 147 38 = some (.aload_n 0, 39, 0, 0, 0) := rfl
theorem xi_147_39 : xm_ins 147 39 = some (.iload_n 1, 40, 1, 0, 0) := rfl
theorem xi_147_40 : xm_ins 147 40 = some (.invokevirtual 129, 43, 97, 2, 3) := rfl
theorem xi_147_43 : xm_ins 147 43 = some (.iload_n 3, 44, 3, 0, 0) := rfl
theorem xi_147_44 : xm_ins 147 44 = some (.iconst (-1), 45, 0, 0, (-1)) := rfl
theorem xi_147_45 : xm_ins 147 45 = some (.ixor, 46, 0, 0, 0) := rfl
theorem xi_147_46 : xm_ins 147 46 = some (.iand, 47, 0, 0, 0) := rfl
theorem xi_147_47 : xm_ins 147 47 = some (.goto 35, 50, 82, 0, 0) := rfl
theorem xi_147_50 : xm_ins 147 50 = some (.iload_n 2, 51, 2, 0, 0) := rfl
theorem xi_147_51 : xm_ins 147 51 = some (.iconst 2, 52, 0, 0, 2) := rfl
theorem xi_147_52 : xm_ins 147 52 = some (.if_icmp .ne 17, 55, 69, 0, 0) := rfl
theorem xi_147_55 : xm_ins 147 55 = some (.iload_n 3, 56, 3, 0, 0) := rfl
theorem xi_147_56 : xm_ins 147 56 = some (.aload_n 0, 57, 0, 0, 0) := rfl
theorem xi_147_57 : xm_ins 147 57 = some (.invokevirtual 107, 60, 117, 1, 3) := rfl
theorem xi_147_60 : xm_ins 147 60 = some (.iconst (-1), 61, 0, 0, (-1)) := rfl
theorem xi_147_61 : xm_ins 147 61 = some (.ixor, 62, 0, 0, 0) := rfl
theorem xi_147_62 : xm_ins 147 62 = some (.iand, 63, 0, 0, 0) := rfl
theorem xi_147_63 : xm_ins 147 63 = some (.invokestatic 110, 66, 91, 1, 3) := rfl
theorem xi_147_66 : xm_ins 147 66 = some (.goto 16, 69, 82, 0, 0) := rfl
theorem xi_147_69 : xm_ins 147 69 = some (.aload_n 0, 70, 0, 0, 0) := rfl
theorem xi_147_70 : xm_ins 147 70 = some (.iload_n 1, 71, 1, 0, 0) := rfl
theorem xi_147_71 : xm_ins 147 71 = some (.invokevirtual 156, 74, 131, 2, 3) := rfl
theorem xi_147_74 : xm_ins 147 74 = some (.ifCond .eq 7, 77, 81, 0, 0) := rfl
theorem xi_147_77 : xm_ins 147 77 = some (.iconst 1, 78, 0, 0, 1) := rfl
theorem xi_147_78 : xm_ins 147 78 = some (.goto 4, 81, 82, 0, 0) := rfl
theorem xi_147_81 : xm_ins 147 81 = some (.iconst 0, 82, 0, 0, 0) := rfl
theorem xi_147_82 : xm_ins 147 82 = some (.ireturn, 83, 0, 0, 0) := rfl
theorem xn_148 (pc : Nat) : xm_ins 148 pc = xm_find xt_148 pc := rfl
theorem xi_148_0 : xm_ins 148 0 = some (.aload_n 0, 1, 0, 0, 0) := rfl
theorem xi_148_1 : xm_ins 148 1 = some (.iload_n 1, 2, 1, 0, 0) := rfl
theorem xi_148_2 : xm_ins 148 2 = some (.invokevirtual 46, 5, 87, 2, 3) := rfl
theorem xi_148_5 : xm_ins 148 5 = some (.ifCond .ne 6, 8, 11, 0, 0) := rfl
theorem xi_148_8 : xm_ins 148 8 = some (.ldc 78, 10, 0, 0, (-1000001)) := rfl
theorem xi_148_10 : xm_ins 148 10 = some (.ireturn, 11, 0, 0, 0) := rfl
theorem xi_148_11 : xm_ins 148 11 = some (.aload_n 0, 12, 0, 0, 0) := rfl
theorem xi_148_12 : xm_ins 148 12 = some (.invokevirtual 135, 15, 126, 1, 3) := rfl
theorem xi_148_15 : xm_ins 148 15 = some (.iconst 1, 16, 0, 0, 1) := rfl
theorem xi_148_16 : xm_ins 148 16 = some (.iload_n 1, 17, 1, 0, 0) := rfl
theorem xi_148_17 : xm_ins 148 17 = some (.ishl, 18, 0, 0, 0) := rfl
theorem xi_148_18 : xm_ins 148 18 = some (.iconst (-1), 19, 0, 0, (-1)) := rfl
theorem xi_148_19 : xm_ins 148 19 = some (.ixor, 20, 0, 0, 0) := rfl
theorem xi_148_20 : xm_ins 148 20 = some (.iand, 21, 0, 0, 0) := rfl
theorem xi_148_21 : xm_ins 148 21 = some (.istore_n 2, 22, 2, 0, 0) := rfl
theorem xi_148_22 : xm_ins 148 22 = some (.aload_n 0, 23, 0, 0, 0) := rfl
theorem xi_148_23 : xm_ins 148 23 = some (.invokevirtual 162, 26, 127, 1, 3) := rfl
theorem xi_148_26 : xm_ins 148 26 = some (.iload_n 2, 27, 2, 0, 0) := rfl
theorem xi_148_27 : xm_ins 148 27 = some (.iand, 28, 0, 0, 0) := rfl
theorem xi_148_28 : xm_ins 148 28 = some (.aload_n 0, 29, 0, 0, 0) := rfl
theorem xi_148_29 : xm_ins 148 29 = some (.aload_n 0, 30, 0, 0, 0) := rfl
theorem xi_148_30 : xm_ins 148 30 = some (.invokevirtual 132, 33, 125, 1, 3) := rfl
theorem xi_148_33 : xm_ins 148 33 = some (.iload_n 2, 34, 2, 0, 0) := rfl
theorem xi_148_34 : xm_ins 148 34 = some (.invokevirtual 138, 37, 124, 3, 3) := rfl
theorem xi_148_37 : xm_ins 148 37 = some (.iconst (-1), 38, 0, 0, (-1)) := rfl
theorem xi_148_38 : xm_ins 148 38 = some (.ixor, 39, 0, 0, 0) := rfl
theorem xi_148_39 : xm_ins 148 39 = some (.iand, 40, 0, 0, 0) := rfl
theorem xi_148_40 : xm_ins 148 40 = some (.ireturn, 41, 0, 0, 0) := rfl
theorem xn_149 (pc : Nat) : xm_ins 149 pc = xm_find xt_149 pc := rfl
theorem xi_149_0 : xm_ins 149 0 = some (.aload_n 0, 1, 0, 0, 0) := rfl
theorem xi_149_1 : xm_ins 149 1 = some (.iload_n 1, 2, 1, 0, 0) := rfl
theorem xi_149_2 : xm_ins 149 2 = some (.invokevirtual 46, 5, 87, 2, 3) := rfl
theorem xi_149_5 : xm_ins 149 5 = some (.ifCond .ne 6, 8, 11, 0, 0) := rfl
theorem xi_149_8 : xm_ins 149 8 = some (.ldc 78, 10, 0, 0, (-1000001)) := rfl
theorem xi_149_10 : xm_ins 149 10 = some (.ireturn, 11, 0, 0, 0) := rfl
theorem xi_149_11 : xm_ins 149 11 = some (.aload_n 0, 12, 0, 0, 0) := rfl
theorem xi_149_12 : xm_ins 149 12 = some (.invokevirtual 132, 15, 125, 1, 3) := rfl
theorem xi_149_15 : xm_ins 149 15 = some (.istore_n 2, 16, 2, 0, 0) := rfl
theorem xi_149_16 : xm_ins 149 16 = some (.iconst 0, 17, 0, 0, 0) := rfl
theorem xi_149_17 : xm_ins 149 17 = some (.istore_n 3, 18, 3, 0, 0) := rfl
theorem xi_149_18 : xm_ins 149 18 = some (.iload_n 2, 19, 2, 0, 0) := rfl
theorem xi_149_19 : xm_ins 149 19 = some (.iload_n 1, 20, 1, 0, 0) := rfl
theorem xi_149_20 : xm_ins 149 20 = some (.invokestatic 119, 23, 90, 2, 3) := rfl
theorem xi_149_23 : xm_ins 149 23 = some (.ifCond .ne 29, 26, 52, 0, 0) := rfl
theorem xi_149_26 : xm_ins 149 26 = some (.aload_n 0, 27, 0, 0, 0) := rfl
theorem xi_149_27 : xm_ins 149 27 = some (.iload_n 2, 28, 2, 0, 0) := rfl
theorem xi_149_28 : xm_ins 149 28 = some (.invokevirtual 123, 31, 123, 2, 3) := rfl
theorem xi_149_31 : xm_ins 149 31 = some (.iload_n 2, 32, 2, 0, 0) := rfl
theorem xi_149_32 : xm_ins 149 32 = some (.iconst (-1), 33, 0, 0, (-1)) := rfl
theorem xi_149_33 : xm_ins 149 33 = some (.ixor, 34, 0, 0, 0) := rfl
theorem xi_149_34 : xm_ins 149 34 = some (.iand, 35, 0, 0, 0) := rfl
theorem xi_149_35 : xm_ins 149 35 = some (.ifCond .eq 17, 38, 52, 0, 0) := rfl
theorem xi_149_38 : xm_ins 149 38 = some (.iload_n 2, 39, 2, 0, 0) := rfl
theorem xi_149_39 : xm_ins 149 39 = some (.aload_n 0, 40, 0, 0, 0) := rfl
theorem xi_149_40 : xm_ins 149 40 = some (.iload_n 2, 41, 2, 0, 0) := rfl
theorem xi_149_41 : xm_ins 149 41 = some (.invokevirtual 123, 44, 123, 2, 3) := rfl
theorem xi_149_44 : xm_ins 149 44 = some (.ior, 45, 0, 0, 0) := rfl
theorem xi_149_45 : xm_ins 149 45 = some (.istore_n 2, 46, 2, 0, 0) := rfl
theorem xi_149_46 : xm_ins 149 46 = some (.iinc 3 1, 49, 3, 0, 1) := rfl
theorem xi_149_49 : xm_ins 149 49 = some (.goto (-31), 52, 18, 0, 0) := rfl
theorem xi_149_52 : xm_ins 149 52 = some (.iload_n 2, 53, 2, 0, 0) := rfl
theorem xi_149_53 : xm_ins 149 53 = some (.iload_n 1, 54, 1, 0, 0) := rfl
theorem xi_149_54 : xm_ins 149 54 = some (.invokestatic 119, 57, 90, 2, 3) := rfl
theorem xi_149_57 : xm_ins 149 57 = some (.ifCond .eq 7, 60, 64, 0, 0) := rfl
theorem xi_149_60 : xm_ins 149 60 = some (.iload_n 3, 61, 3, 0, 0) := rfl
theorem xi_149_61 : xm_ins 149 61 = some (.goto 5, 64, 66, 0, 0) := rfl
theorem xi_149_64 : xm_ins 149 64 = some (.ldc 53, 66, 0, 0, (-1000004)) := rfl
theorem xi_149_66 : xm_ins 149 66 = some (.ireturn, 67, 0, 0, 0) := rfl
theorem xn_150 (pc : Nat) : xm_ins 150 pc = xm_find xt_150 pc := rfl
theorem xi_150_0 : xm_ins 150 0 = some (.iconst 0, 1, 0, 0, 0) := rfl
theorem xi_150_1 : xm_ins 150 1 = some (.istore_n 1, 2, 1, 0, 0) := rfl
theorem xi_150_2 : xm_ins 150 2 = some (.iconst 0, 3, 0, 0, 0) := rfl
theorem xi_150_3 : xm_ins 150 3 = some (.istore_n 2, 4, 2, 0, 0) := rfl
theorem xi_150_4 : xm_ins 150 4 = some (.iload_n 2, 5, 2, 0, 0) := rfl
theorem xi_150_5 : xm_ins 150 5 = some (.bipush 8, 7, 0, 0, 8) := rfl
theorem xi_150_7 : xm_ins 150 7 = some (.if_icmp .ge 28, 10, 35, 0, 0) := rfl
theorem xi_150_10 : xm_ins 150 10 = some (.iload_n 1, 11, 1, 0, 0) := rfl
theorem xi_150_11 : xm_ins 150 11 = some (.aload_n 0, 12, 0, 0, 0) := rfl
theorem xi_150_12 : xm_ins 150 12 = some (.getfield 7, 15, 3, 0, 1) := rfl
theorem xi_150_15 : xm_ins 150 15 = some (.iconst 4, 16, 0, 0, 4) := rfl
theorem xi_150_16 : xm_ins 150 16 = some (.iload_n 2, 17, 2, 0, 0) := rfl
theorem xi_150_17 : xm_ins 150 17 = some (.iadd, 18, 0, 0, 0) := rfl
theorem xi_150_18 : xm_ins 150 18 = some (.iaload, 19, 0, 0, 0) := rfl
theorem xi_150_19 : xm_ins 150 19 = some (.ifCond .ne 7, 22, 26, 0, 0) := rfl
theorem xi_150_22 : xm_ins 150 22 = some (.iconst 1, 23, 0, 0, 1) := rfl
theorem xi_150_23 : xm_ins 150 23 = some (.goto 4, 26, 27, 0, 0) := rfl
theorem xi_150_26 : xm_ins 150 26 = some (.iconst 0, 27, 0, 0, 0) := rfl
theorem xi_150_27 : xm_ins 150 27 = some (.iadd, 28, 0, 0, 0) := rfl
theorem xi_150_28 : xm_ins 150 28 = some (.istore_n 1, 29, 1, 0, 0) := rfl
theorem xi_150_29 : xm_ins 150 29 = some (.iinc 2 1, 32, 2, 0, 1) := rfl
theorem xi_150_32 : xm_ins 150 32 = some (.goto (-28), 35, 4, 0, 0) := rfl
theorem xi_150_35 : xm_ins 150 35 = some (.iload_n 1, 36, 1, 0, 0) := rfl
theorem xi_150_36 : xm_ins 150 36 = some (.ireturn, 37, 0, 0, 0) := rfl
theorem xn_151 (pc : Nat) : xm_ins 151 pc = xm_find xt_151 pc := rfl
theorem xi_151_0 : xm_ins 151 0 = some (.iload_n 1, 1, 1, 0, 0) := rfl
theorem xi_151_1 : xm_ins 151 1 = some (.tableswitch 180 0 13 #[71, 78, 86, 94, 103, 103, 125, 130, 136, 136, 148, 163, 170, 175], 72, 0, 0, 0) := rfl
theorem xi_151_72 : xm_ins 151 72 = some (.aload_n 0, 73, 0, 0, 0) := rfl
theorem xi_151_73 : xm_ins 151 73 = some (.getfield 7, 76, 3, 0, 1) := rfl
theorem xi_151_76 : xm_ins 151 76 = some (.iconst 0, 77, 0, 0, 0) := rfl
theorem xi_151_77 : xm_ins 151 77 = some (.iaload, 78, 0, 0, 0) := rfl
theorem xi_151_78 : xm_ins 151 78 = some (.ireturn, 79, 0, 0, 0) := rfl
theorem xi_151_79 : xm_ins 151 79 = some (.aload_n 0, 80, 0, 0, 0) := rfl
theorem xi_151_80 : xm_ins 151 80 = some (.invokevirtual 135, 83, 126, 1, 3) := rfl
theorem xi_151_83 : xm_ins 151 83 = some (.invokestatic 110, 86, 91, 1, 3) := rfl
theorem xi_151_86 : xm_ins 151 86 = some (.ireturn, 87, 0, 0, 0) := rfl
theorem xi_151_87 : xm_ins 151 87 = some (.aload_n 0, 88, 0, 0, 0) := rfl
theorem xi_151_88 : xm_ins 151 88 = some (.invokevirtual 107, 91, 117, 1, 3) := rfl
theorem xi_151_91 : xm_ins 151 91 = some (.invokestatic 110, 94, 91, 1, 3) := rfl
theorem xi_151_94 : xm_ins 151 94 = some (.ireturn, 95, 0, 0, 0) := rfl
theorem xi_151_95 : xm_ins 151 95 = some (.aload_n 0, 96, 0, 0, 0) := rfl
theorem xi_151_96 : xm_ins 151 96 = some (.iconst 0, 97, 0, 0, 0) := rfl
theorem xi_151_97 : xm_ins 151 97 = some (.invokevirtual 129, 100, 97, 2, 3) := rfl
theorem xi_151_100 : xm_ins 151 100 = some (.invokestatic 110, 103, 91, 1, 3) := rfl
theorem xi_151_103 : xm_ins 151 103 = some (.ireturn, 104, 0, 0, 0) := rfl
theorem xi_151_104 : xm_ins 151 104 = some (.aload_n 0, 105, 0, 0, 0) := rfl
theorem xi_151_105 : xm_ins 151 105 = some (.iload_n 1, 106, 1, 0, 0) := rfl
theorem xi_151_106 : xm_ins 151 106 = some (.iconst 3, 107, 0, 0, 3) := rfl
theorem xi_151_107 : xm_ins 151 107 = some (.isub, 108, 0, 0, 0) := rfl
theorem xi_151_108 : xm_ins 151 108 = some (.invokevirtual 129, 111, 97, 2, 3) := rfl
theorem xi_151_111 : xm_ins 151 111 = some (.invokestatic 110, 114, 91, 1, 3) := rfl
theorem xi_151_114 : xm_ins 151 114 = some (.aload_n 0, 115, 0, 0, 0) := rfl
theorem xi_151_115 : xm_ins 151 115 = some (.iload_n 1, 116, 1, 0, 0) := rfl
theorem xi_151_116 : xm_ins 151 116 = some (.iconst 4, 117, 0, 0, 4) := rfl
theorem xi_151_117 : xm_ins 151 117 = some (.isub, 118, 0, 0, 0) := rfl
theorem xi_151_118 : xm_ins 151 118 = some (.invokevirtual 129, 121, 97, 2, 3) := rfl
theorem xi_151_121 : xm_ins 151 121 = some (.invokestatic 110, 124, 91, 1, 3) := rfl
theorem xi_151_124 : xm_ins 151 124 = some (.isub, 125, 0, 0, 0) := rfl
theorem xi_151_125 : xm_ins 151 125 = some (.ireturn, 126, 0, 0, 0) := rfl
theorem xi_151_126 : xm_ins 151 126 = some (.aload_n 0, 127, 0, 0, 0) := rfl
theorem xi_151_127 : xm_ins 151 127 = some (.invokevirtual 183, 130, 150, 1, 3) := rfl
theorem xi_151_130 : xm_ins 151 130 = some (.ireturn, 131, 0, 0, 0) := rfl
theorem xi_151_131 : xm_ins 151 131 = some (.aload_n 0, 132, 0, 0, 0) := rfl
theorem xi_151_132 : xm_ins 151 132 = some (.iconst (-1), 133, 0, 0, (-1)) := rfl
theorem xi_151_133 : xm_ins 151 133 = some (.invokevirtual 180, 136, 144, 2, 3) := rfl
theorem xi_151_136 : xm_ins 151 136 = some (.ireturn, 137, 0, 0, 0) := rfl
theorem xi_151_137 : xm_ins 151 137 = some (.aload_n 0, 138, 0, 0, 0) := rfl
theorem xi_151_138 : xm_ins 151 138 = some (.getfield 7, 141, 3, 0, 1) := rfl
theorem xi_151_141 : xm_ins 151 141 = some (.iconst 1, 142, 0, 0, 1) := rfl
theorem xi_151_142 : xm_ins 151 142 = some (.iload_n 1, 143, 1, 0, 0) := rfl
theorem xi_151_143 : xm_ins 151 143 = some (.iadd, 144, 0, 0, 0) := rfl
theorem xi_151_144 : xm_ins 151 144 = some (.bipush 8, 146, 0, 0, 8) := rfl
theorem xi_151_146 : xm_ins 151 146 = some (.isub, 147, 0, 0, 0) := rfl
theorem xi_151_147 : xm_ins 151 147 = some (.iaload, 148, 0, 0, 0) := rfl
theorem xi_151_148 : xm_ins 151 148 = some (.ireturn, 149, 0, 0, 0) := rfl
theorem xi_151_149 : xm_ins 151 149 = some (.aload_n 0, 150, 0, 0, 0) := rfl
theorem xi_151_150 : xm_ins 151 150 = some (.getfield 7, 153, 3, 0, 1) := rfl
theorem xi_151_153 : xm_ins 151 153 = some (.iconst 0, 154, 0, 0, 0) := rfl
theorem xi_151_154 : xm_ins 151 154 = some (.iaload, 155, 0, 0, 0) := rfl
theorem xi_151_155 : xm_ins 151 155 = some (.aload_n 0, 156, 0, 0, 0) := rfl
theorem xi_151_156 : xm_ins 151 156 = some (.invokevirtual 135, 159, 126, 1, 3) := rfl
theorem xi_151_159 : xm_ins 151 159 = some (.invokestatic 110, 162, 91, 1, 3) := rfl
theorem xi_151_162 : xm_ins 151 162 = some (.isub, 163, 0, 0, 0) := rfl
theorem xi_151_163 : xm_ins 151 163 = some (.ireturn, 164, 0, 0, 0) := rfl
theorem xi_151_164 : xm_ins 151 164 = some (.aload_n 0, 165, 0, 0, 0) := rfl
theorem xi_151_165 : xm_ins 151 165 = some (.getfield 7, 168, 3, 0, 1) := rfl
theorem xi_151_168 : xm_ins 151 168 = some (.iconst 3, 169, 0, 0, 3) := rfl
theorem xi_151_169 : xm_ins 151 169 = some (.iaload, 170, 0, 0, 0) := rfl
theorem xi_151_170 : xm_ins 151 170 = some (.ireturn, 171, 0, 0, 0) := rfl
theorem xi_151_171 : xm_ins 151 171 = some (.aload_n 0, 172, 0, 0, 0) := rfl
theorem xi_151_172 : xm_ins 151 172 = some (.getfield 33, 175, 3, 1, 0) := rfl
theorem xi_151_175 : xm_ins 151 175 = some (.ireturn, 176, 0, 0, 0) := rfl
theorem xi_151_176 : xm_ins 151 176 = some (.aload_n 0, 177, 0, 0, 0) := rfl
theorem xi_151_177 : xm_ins 151 177 = some (.getfield 186, 180, 3, 3, 0) := rfl
theorem xi_151_180 : xm_ins 151 180 = some (.ireturn, 181, 0, 0, 0) := rfl
theorem xi_151_181 : xm_ins 151 181 = some (.ldc 78, 183, 0, 0, (-1000001)) := rfl
theorem xi_151_183 : xm_ins 151 183 = some (.ireturn, 184, 0, 0, 0) := rfl
theorem xn_152 (pc : Nat) : xm_ins 152 pc = xm_find xt_152 pc := rfl
theorem xi_152_0 : xm_ins 152 0 = some (.iload_n 1, 1, 1, 0, 0) := rfl
theorem xi_152_1 : xm_ins 152 1 = some (.bipush 32, 3, 0, 0, 32) := rfl
theorem xi_152_3 : xm_ins 152 3 = some (.bipush 126, 5, 0, 0, 126) := rfl
theorem xi_152_5 : xm_ins 152 5 = some (.invokestatic 25, 8, 85, 3, 3) := rfl
theorem xi_152_8 : xm_ins 152 8 = some (.ifCond .ne 6, 11, 14, 0, 0) := rfl
theorem xi_152_11 : xm_ins 152 11 = some (.ldc 78, 13, 0, 0, (-1000001)) := rfl
theorem xi_152_13 : xm_ins 152 13 = some (.ireturn, 14, 0, 0, 0) := rfl
theorem xi_152_14 : xm_ins 152 14 = some (.aload_n 0, 15, 0, 0, 0) := rfl
theorem xi_152_15 : xm_ins 152 15 = some (.getfield 186, 18, 3, 3, 0) := rfl
theorem xi_152_18 : xm_ins 152 18 = some (.bipush 60, 20, 0, 0, 60) := rfl
theorem xi_152_20 : xm_ins 152 20 = some (.if_icmp .ne 6, 23, 26, 0, 0) := rfl
theorem xi_152_23 : xm_ins 152 23 = some (.ldc 63, 25, 0, 0, (-1000003)) := rfl
theorem xi_152_25 : xm_ins 152 25 = some (.ireturn, 26, 0, 0, 0) := rfl
theorem xi_152_26 : xm_ins 152 26 = some (.aload_n 0, 27, 0, 0, 0) := rfl
theorem xi_152_27 : xm_ins 152 27 = some (.getfield 13, 30, 3, 2, 1) := rfl
theorem xi_152_30 : xm_ins 152 30 = some (.aload_n 0, 31, 0, 0, 0) := rfl
theorem xi_152_31 : xm_ins 152 31 = some (.getfield 186, 34, 3, 3, 0) := rfl
theorem xi_152_34 : xm_ins 152 34 = some (.iload_n 1, 35, 1, 0, 0) := rfl
theorem xi_152_35 : xm_ins 152 35 = some (.iastore, 36, 0, 0, 0) := rfl
theorem xi_152_36 : xm_ins 152 36 = some (.aload_n 0, 37, 0, 0, 0) := rfl
theorem xi_152_37 : xm_ins 152 37 = some (.dup, 38, 0, 0, 0) := rfl
theorem xi_152_38 : xm_ins 152 38 = some (.getfield 186, 41, 3, 3, 0) := rfl
theorem xi_152_41 : xm_ins 152 41 = some (.iconst 1, 42, 0, 0, 1) := rfl
theorem xi_152_42 : xm_ins 152 42 = some (.iadd, 43, 0, 0, 0) := rfl
theorem xi_152_43 : xm_ins 152 43 = some (.putfield 186, 46, 3, 3, 0) := rfl
theorem xi_152_46 : xm_ins 152 46 = some (.aload_n 0, 47, 0, 0, 0) := rfl
theorem xi_152_47 : xm_ins 152 47 = some (.getfield 186, 50, 3, 3, 0) := rfl
theorem xi_152_50 : xm_ins 152 50 = some (.ireturn, 51, 0, 0, 0) := rfl
theorem xn_153 (pc : Nat) : xm_ins 153 pc = xm_find xt_153 pc := rfl
theorem xi_153_0 : xm_ins 153 0 = some (.aload_n 0, 1, 0, 0, 0) := rfl
theorem xi_153_1 : xm_ins 153 1 = some (.getfield 186, 4, 3, 3, 0) := rfl
theorem xi_153_4 : xm_ins 153 4 = some (.istore_n 1, 5, 1, 0, 0) := rfl
theorem xi_153_5 : xm_ins 153 5 = some (.aload_n 0, 6, 0, 0, 0) := rfl
theorem xi_153_6 : xm_ins 153 6 = some (.iconst 0, 7, 0, 0, 0) := rfl
theorem xi_153_7 : xm_ins 153 7 = some (.putfield 186, 10, 3, 3, 0) := rfl
theorem xi_153_10 : xm_ins 153 10 = some (.iload_n 1, 11, 1, 0, 0) := rfl
theorem xi_153_11 : xm_ins 153 11 = some (.ireturn, 12, 0, 0, 0) := rfl
theorem xn_154 (pc : Nat) : xm_ins 154 pc = xm_find xt_154 pc := rfl
theorem xi_154_0 : xm_ins 154 0 = some (.aload_n 0, 1, 0, 0, 0) := rfl
theorem xi_154_1 : xm_ins 154 1 = some (.getfield 189, 4, 3, 5, 0) := rfl
theorem xi_154_4 : xm_ins 154 4 = some (.aload_n 0, 5, 0, 0, 0) := rfl
theorem xi_154_5 : xm_ins 154 5 = some (.getfield 186, 8, 3, 3, 0) := rfl
theorem xi_154_8 : xm_ins 154 8 = some (.if_icmp .ge 15, 11, 23, 0, 0) := rfl
theorem xi_154_11 : xm_ins 154 11 = some (.aload_n 0, 12, 0, 0, 0) := rfl
theorem xi_154_12 : xm_ins 154 12 = some (.getfield 13, 15, 3, 2, 1) := rfl
theorem xi_154_15 : xm_ins 154 15 = some (.aload_n 0, 16, 0, 0, 0) := rfl
theorem xi_154_16 : xm_ins 154 16 = some (.getfield 189, 19, 3, 5, 0) := rfl
theorem xi_154_19 : xm_ins 154 19 = some (.iaload, 20, 0, 0, 0) := rfl
theorem xi_154_20 : xm_ins 154 20 = some (.goto 4, 23, 24, 0, 0) := rfl
theorem xi_154_23 : xm_ins 154 23 = some (.iconst 0, 24, 0, 0, 0) := rfl
theorem xi_154_24 : xm_ins 154 24 = some (.ireturn, 25, 0, 0, 0) := rfl
theorem xn_155 (pc : Nat) : xm_ins 155 pc = xm_find xt_155 pc := rfl
theorem xi_155_0 : xm_ins 155 0 = some (.aload_n 0, 1, 0, 0, 0) := rfl
theorem xi_155_1 : xm_ins 155 1 = some (.invokevirtual 192, 4, 154, 1, 3) := rfl
theorem xi_155_4 : xm_ins 155 4 = some (.iload_n 1, 5, 1, 0, 0) := rfl
theorem xi_155_5 : xm_ins 155 5 = some (.if_icmp .ne 7, 8, 12, 0, 0) := rfl
theorem xi_155_8 : xm_ins 155 8 = some (.iconst 1, 9, 0, 0, 1) := rfl
theorem xi_155_9 : xm_ins 155 9 = some (.goto 4, 12, 13, 0, 0) := rfl
theorem xi_155_12 : xm_ins 155 12 = some (.iconst 0, 13, 0, 0, 0) := rfl
theorem xi_155_13 : xm_ins 155 13 = some (.istore_n 2, 14, 2, 0, 0) := rfl
theorem xi_155_14 : xm_ins 155 14 = some (.aload_n 0, 15, 0, 0, 0) := rfl
theorem xi_155_15 : xm_ins 155 15 = some (.dup, 16, 0, 0, 0) := rfl
theorem xi_155_16 : xm_ins 155 16 = some (.getfield 189, 19, 3, 5, 0) := rfl
theorem xi_155_19 : xm_ins 155 19 = some (.iload_n 2, 20, 2, 0, 0) := rfl
theorem xi_155_20 : xm_ins 155 20 = some (.ifCond .eq 7, 23, 27, 0, 0) := rfl
theorem xi_155_23 : xm_ins 155 23 = some (.iconst 1, 24, 0, 0, 1) := rfl
theorem xi_155_24 : xm_ins 155 24 = some (.goto 4, 27, 28, 0, 0) := rfl
theorem xi_155_27 : xm_ins 155 27 = some (.iconst 0, 28, 0, 0, 0) := rfl
theorem xi_155_28 : xm_ins 155 28 = some (.iadd, 29, 0, 0, 0) := rfl
theorem xi_155_29 : xm_ins 155 29 = some (.putfield 189, 32, 3, 5, 0) := rfl
theorem xi_155_32 : xm_ins 155 32 = some (.iload_n 2, 33, 2, 0, 0) := rfl
theorem xi_155_33 : xm_ins 155 33 = some (.ireturn, 34, 0, 0, 0) := rfl
theorem xn_156 (pc : Nat) : xm_ins 156 pc = xm_find xt_156 pc := rfl
theorem xi_156_0 : xm_ins 156 0 = some (.iconst 0, 1, 0, 0, 0) := rfl
theorem xi_156_1 : xm_ins 156 1 = some (.istore_n 2, 2, 2, 0, 0) := rfl
theorem xi_156_2 : xm_ins 156 2 = some (.aload_n 0, 3, 0, 0, 0) := rfl
theorem xi_156_3 : xm_ins 156 3 = some (.getfield 19, 6, 3, 7, 1) := rfl
theorem xi_156_6 : xm_ins 156 6 = some (.iload_n 1, 7, 1, 0, 0) := rfl
theorem xi_156_7 : xm_ins 156 7 = some (.iconst 0, 8, 0, 0, 0) := rfl
theorem xi_156_8 : xm_ins 156 8 = some (.iastore, 9, 0, 0, 0) := rfl
theorem xi_156_9 : xm_ins 156 9 = some (.aload_n 0, 10, 0, 0, 0) := rfl
theorem xi_156_10 : xm_ins 156 10 = some (.invokevirtual 192, 13, 154, 1, 3) := rfl
theorem xi_156_13 : xm_ins 156 13 = some (.bipush 48, 15, 0, 0, 48) := rfl
theorem xi_156_15 : xm_ins 156 15 = some (.bipush 57, 17, 0, 0, 57) := rfl
theorem xi_156_17 : xm_ins 156 17 = some (.invokestatic 25, 20, 85, 3, 3) := rfl
theorem xi_156_20 : xm_ins 156 20 = some (.ifCond .eq 47, 23, 67, 0, 0) := rfl
theorem xi_156_23 : xm_ins 156 23 = some (.iload_n 2, 24, 2, 0, 0) := rfl
theorem xi_156_24 : xm_ins 156 24 = some (.iconst 2, 25, 0, 0, 2) := rfl
theorem xi_156_25 : xm_ins 156 25 = some (.if_icmp .ge 42, 28, 67, 0, 0) := rfl
theorem xi_156_28 : xm_ins 156 28 = some (.aload_n 0, 29, 0, 0, 0) := rfl
theorem xi_156_29 : xm_ins 156 29 = some (.getfield 19, 32, 3, 7, 1) := rfl
theorem xi_156_32 : xm_ins 156 32 = some (.iload_n 1, 33, 1, 0, 0) := rfl
theorem xi_156_33 : xm_ins 156 33 = some (.bipush 10, 35, 0, 0, 10) := rfl
theorem xi_156_35 : xm_ins 156 35 = some (.aload_n 0, 36, 0, 0, 0) := rfl
theorem xi_156_36 : xm_ins 156 36 = some (.getfield 19, 39, 3, 7, 1) := rfl
theorem xi_156_39 : xm_ins 156 39 = some (.iload_n 1, 40, 1, 0, 0) := rfl
theorem xi_156_40 : xm_ins 156 40 = some (.iaload, 41, 0, 0, 0) := rfl
theorem xi_156_41 : xm_ins 156 41 = some (.imul, 42, 0, 0, 0) := rfl
theorem xi_156_42 : xm_ins 156 42 = some (.aload_n 0, 43, 0, 0, 0) := rfl
theorem xi_156_43 : xm_ins 156 43 = some (.invokevirtual 192, 46, 154, 1, 3) := rfl
theorem xi_156_46 : xm_ins 156 46 = some (.iadd, 47, 0, 0, 0) := rfl
theorem xi_156_47 : xm_ins 156 47 = some (.bipush 48, 49, 0, 0, 48) := rfl
theorem xi_156_49 : xm_ins 156 49 = some (.isub, 50, 0, 0, 0) := rfl
theorem xi_156_50 : xm_ins 156 50 = some (.iastore, 51, 0, 0, 0) := rfl
theorem xi_156_51 : xm_ins 156 51 = some (.aload_n 0, 52, 0, 0, 0) := rfl
theorem xi_156_52 : xm_ins 156 52 = some (.dup, 53, 0, 0, 0) := rfl
theorem xi_156_53 : xm_ins 156 53 = some (.getfield 189, 56, 3, 5, 0) := rfl
theorem xi_156_56 : xm_ins 156 56 = some (.iconst 1, 57, 0, 0, 1) := rfl
theorem xi_156_57 : xm_ins 156 57 = some (.iadd, 58, 0, 0, 0) := rfl
theorem xi_156_58 : xm_ins 156 58 = some (.putfield 189, 61, 3, 5, 0) := rfl
theorem xi_156_61 : xm_ins 156 61 = some (.iinc 2 1, 64, 2, 0, 1) := rfl
theorem xi_156_64 : xm_ins 156 64 = some (.goto (-55), 67, 9, 0, 0) := rfl
theorem xi_156_67 : xm_ins 156 67 = some (.iload_n 2, 68, 2, 0, 0) := rfl
theorem xi_156_68 : xm_ins 156 68 = some (.ifCond .le 7, 71, 75, 0, 0) := rfl
theorem xi_156_71 : xm_ins 156 71 = some (.iconst 1, 72, 0, 0, 1) := rfl
theorem xi_156_72 : xm_ins 156 72 = some (.goto 4, 75, 76, 0, 0) := rfl
theorem xi_156_75 : xm_ins 156 75 = some (.iconst 0, 76, 0, 0, 0) := rfl
theorem xi_156_76 : xm_ins 156 76 = some (.ireturn, 77, 0, 0, 0) := rfl
theorem xn_157 (pc : Nat) : xm_ins 157 pc = xm_find xt_157 pc := rfl
theorem xi_157_0 : xm_ins 157 0 = some (.iload_n 0, 1, 0, 0, 0) := rfl
theorem xi_157_1 : xm_ins 157 1 = some (.bipush 110, 3, 0, 0, 110) := rfl
theorem xi_157_3 : xm_ins 157 3 = some (.if_icmp .eq 9, 6, 12, 0, 0) := rfl
theorem xi_157_6 : xm_ins 157 6 = some (.iload_n 0, 7, 0, 0, 0) := rfl
theorem xi_157_7 : xm_ins 157 7 = some (.bipush 102, 9, 0, 0, 102) := rfl
theorem xi_157_9 : xm_ins 157 9 = some (.if_icmp .ne 7, 12, 16, 0, 0) := rfl
theorem xi_157_12 : xm_ins 157 12 = some (.iconst 0, 13, 0, 0, 0) := rfl
theorem xi_157_13 : xm_ins 157 13 = some (.goto 52, 16, 65, 0, 0) := rfl
theorem xi_157_16 : xm_ins 157 16 = some (.iload_n 0, 17, 0, 0, 0) := rfl
theorem xi_157_17 : xm_ins 157 17 = some (.bipush 108, 19, 0, 0, 108) := rfl
theorem xi_157_19 : xm_ins 157 19 = some (.if_icmp .eq 15, 22, 34, 0, 0) := rfl
theorem xi_157_22 : xm_ins 157 22 = some (.iload_n 0, 23, 0, 0, 0) := rfl
theorem xi_157_23 : xm_ins 157 23 = some (.bipush 112, 25, 0, 0, 112) := rfl
theorem xi_157_25 : xm_ins 157 25 = some (.if_icmp .eq 9, 28, 34, 0, 0) := rfl
theorem xi_157_28 : xm_ins 157 28 = some (.iload_n 0, 29, 0, 0, 0) := rfl
theorem xi_157_29 : xm_ins 157 29 = some (.bipush 119, 31, 0, 0, 119) := rfl
theorem xi_157_31 : xm_ins 157 31 = some (.if_icmp .ne 7, 34, 38, 0, 0) := rfl
theorem xi_157_34 : xm_ins 157 34 = some (.iconst 1, 35, 0, 0, 1) := rfl
theorem xi_157_35 : xm_ins 157 35 = some (.goto 30, 38, 65, 0, 0) := rfl
theorem xi_157_38 : xm_ins 157 38 = some (.iload_n 0, 39, 0, 0, 0) := rfl
theorem xi_157_39 : xm_ins 157 39 = some (.bipush 104, 41, 0, 0, 104) := rfl
theorem xi_157_41 : xm_ins 157 41 = some (.if_icmp .eq 9, 44, 50, 0, 0) := rfl
theorem xi_157_44 : xm_ins 157 44 = some (.iload_n 0, 45, 0, 0, 0) := rfl
theorem xi_157_45 : xm_ins 157 45 = some (.bipush 117, 47, 0, 0, 117) := rfl
theorem xi_157_47 : xm_ins 157 47 = some (.if_icmp .ne 7, 50, 54, 0, 0) := rfl
theorem xi_157_50 : xm_ins 157 50 = some (.iconst 2, 51, 0, 0, 2) := rfl
theorem xi_157_51 : xm_ins 157 51 = some (.goto 14, 54, 65, 0, 0) := rfl
theorem xi_157_54 : xm_ins 157 54 = some (.iload_n 0, 55, 0, 0, 0) := rfl
theorem xi_157_55 : xm_ins 157 55 = some (.bipush 115, 57, 0, 0, 115) := rfl
theorem xi_157_57 : xm_ins 157 57 = some (.if_icmp .ne 7, 60, 64, 0, 0) := rfl
theorem xi_157_60 : xm_ins 157 60 = some (.iconst 3, 61, 0, 0, 3) := rfl
theorem xi_157_61 : xm_ins 157 61 = some (.goto 4, 64, 65, 0, 0) := rfl
theorem xi_157_64 : xm_ins 157 64 = some (.iconst (-1), 65, 0, 0, (-1)) := rfl
theorem xi_157_65 : xm_ins 157 65 = some (.ireturn, 66, 0, 0, 0) := rfl
theorem xn_158 (pc : Nat) : xm_ins 158 pc = xm_find xt_158 pc := rfl
theorem xi_158_0 : xm_ins 158 0 = some (.aload_n 0, 1, 0, 0, 0) := rfl
theorem xi_158_1 : xm_ins 158 1 = some (.aload_n 0, 2, 0, 0, 0) := rfl
theorem xi_158_2 : xm_ins 158 2 = some (.invokevirtual 192, 5, 154, 1, 3) := rfl
theorem xi_158_5 : xm_ins 158 5 = some (.putfield 195, 8, 3, 6, 0) := rfl
theorem xi_158_8 : xm_ins 158 8 = some (.aload_n 0, 9, 0, 0, 0) := rfl
theorem xi_158_9 : xm_ins 158 9 = some (.getfield 195, 12, 3, 6, 0) := rfl
theorem xi_158_12 : xm_ins 158 12 = some (.invokestatic 198, 15, 157, 1, 3) := rfl
theorem xi_158_15 : xm_ins 158 15 = some (.istore_n 1, 16, 1, 0, 0) := rfl
theorem xi_158_16 : xm_ins 158 16 = some (.aload_n 0, 17, 0, 0, 0) := rfl
theorem xi_158_17 : xm_ins 158 17 = some (.dup, 18, 0, 0, 0) := rfl
theorem xi_158_18 : xm_ins 158 18 = some (.getfield 189, 21, 3, 5, 0) := rfl
theorem xi_158_21 : xm_ins 158 21 = some (.iload_n 1, 22, 1, 0, 0) := rfl
theorem xi_158_22 : xm_ins 158 22 = some (.ifCond .ge 7, 25, 29, 0, 0) := rfl
theorem xi_158_25 : xm_ins 158 25 = some (.iconst 0, 26, 0, 0, 0) := rfl
theorem xi_158_26 : xm_ins 158 26 = some (.goto 4, 29, 30, 0, 0) := rfl
theorem xi_158_29 : xm_ins 158 29 = some (.iconst 1, 30, 0, 0, 1) := rfl
theorem xi_158_30 : xm_ins 158 30 = some (.iadd, 31, 0, 0, 0) := rfl
theorem xi_158_31 : xm_ins 158 31 = some (.putfield 189, 34, 3, 5, 0) := rfl
theorem xi_158_34 : xm_ins 158 34 = some (.iload_n 1, 35, 1, 0, 0) := rfl
theorem xi_158_35 : xm_ins 158 35 = some (.ifCond .lt 7, 38, 42, 0, 0) := rfl
theorem xi_158_38 : xm_ins 158 38 = some (.iconst 1, 39, 0, 0, 1) := rfl
theorem xi_158_39 : xm_ins 158 39 = some (.goto 4, 42, 43, 0, 0) := rfl
theorem xi_158_42 : xm_ins 158 42 = some (.iconst 0, 43, 0, 0, 0) := rfl
theorem xi_158_43 : xm_ins 158 43 = some (.istore_n 2, 44, 2, 0, 0) := rfl
theorem xi_158_44 : xm_ins 158 44 = some (.iconst 0, 45, 0, 0, 0) := rfl
theorem xi_158_45 : xm_ins 158 45 = some (.istore_n 3, 46, 3, 0, 0) := rfl
theorem xi_158_46 : xm_ins 158 46 = some (.iload_n 3, 47, 3, 0, 0) := rfl
theorem xi_158_47 : xm_ins 158 47 = some (.iload_n 1, 48, 1, 0, 0) := rfl
theorem xi_158_48 : xm_ins 158 48 = some (.if_icmp .ge 40, 51, 88, 0, 0) := rfl
theorem xi_158_51 : xm_ins 158 51 = some (.iload_n 2, 52, 2, 0, 0) := rfl
theorem xi_158_52 : xm_ins 158 52 = some (.ifCond .eq 36, 55, 88, 0, 0) := rfl
theorem xi_158_55 : xm_ins 158 55 = some (.iload_n 3, 56, 3, 0, 0) := rfl
theorem xi_158_56 : xm_ins 158 56 = some (.ifCond .eq 12, 59, 68, 0, 0) := rfl
theorem xi_158_59 : xm_ins 158 59 = some (.aload_n 0, 60, 0, 0, 0) := rfl
theorem xi_158_60 : xm_ins 158 60 = some (.bipush 44, 62, 0, 0, 44) := rfl
theorem xi_158_62 : xm_ins 158 62 = some (.invokevirtual 201, 65, 155, 2, 3) := rfl
theorem xi_158_65 : xm_ins 158 65 = some (.ifCond .eq 15, 68, 80, 0, 0) := rfl
theorem xi_158_68 : xm_ins 158 68 = some (.aload_n 0, 69, 0, 0, 0) := rfl
theorem xi_158_69 : xm_ins 158 69 = some (.iload_n 3, 70, 3, 0, 0) := rfl
theorem xi_158_70 : xm_ins 158 70 = some (.invokevirtual 204, 73, 156, 2, 3) := rfl
theorem xi_158_73 : xm_ins 158 73 = some (.ifCond .eq 7, 76, 80, 0, 0) := rfl
theorem xi_158_76 : xm_ins 158 76 = some (.iconst 1, 77, 0, 0, 1) := rfl
theorem xi_158_77 : xm_ins 158 77 = some (.goto 4, 80, 81, 0, 0) := rfl
theorem xi_158_80 : xm_ins 158 80 = some (.iconst 0, 81, 0, 0, 0) := rfl
theorem xi_158_81 : xm_ins 158 81 = some (.istore_n 2, 82, 2, 0, 0) := rfl
theorem xi_158_82 : xm_ins 158 82 = some (.iinc 3 1, 85, 3, 0, 1) := rfl
theorem xi_158_85 : xm_ins 158 85 = some (.goto (-39), 88, 46, 0, 0) := rfl
theorem xi_158_88 : xm_ins 158 88 = some (.iload_n 2, 89, 2, 0, 0) := rfl
theorem xi_158_89 : xm_ins 158 89 = some (.ifCond .eq 16, 92, 105, 0, 0) := rfl
theorem xi_158_92 : xm_ins 158 92 = some (.aload_n 0, 93, 0, 0, 0) := rfl
theorem xi_158_93 : xm_ins 158 93 = some (.bipush 59, 95, 0, 0, 59) := rfl
theorem xi_158_95 : xm_ins 158 95 = some (.invokevirtual 201, 98, 155, 2, 3) := rfl
theorem xi_158_98 : xm_ins 158 98 = some (.ifCond .eq 7, 101, 105, 0, 0) := rfl
theorem xi_158_101 : xm_ins 158 101 = some (.iconst 1, 102, 0, 0, 1) := rfl
theorem xi_158_102 : xm_ins 158 102 = some (.goto 4, 105, 106, 0, 0) := rfl
theorem xi_158_105 : xm_ins 158 105 = some (.iconst 0, 106, 0, 0, 0) := rfl
theorem xi_158_106 : xm_ins 158 106 = some (.ireturn, 107, 0, 0, 0) := rfl
theorem xn_159 (pc : Nat) : xm_ins 159 pc = xm_find xt_159 pc := rfl
theorem xi_159_0 : xm_ins 159 0 = some (.aload_n 0, 1, 0, 0, 0) := rfl
theorem xi_159_1 : xm_ins 159 1 = some (.getfield 19, 4, 3, 7, 1) := rfl
theorem xi_159_4 : xm_ins 159 4 = some (.iconst 0, 5, 0, 0, 0) := rfl
theorem xi_159_5 : xm_ins 159 5 = some (.iaload, 6, 0, 0, 0) := rfl
theorem xi_159_6 : xm_ins 159 6 = some (.istore_n 1, 7, 1, 0, 0) := rfl
theorem xi_159_7 : xm_ins 159 7 = some (.aload_n 0, 8, 0, 0, 0) := rfl
theorem xi_159_8 : xm_ins 159 8 = some (.getfield 19, 11, 3, 7, 1) := rfl
theorem xi_159_11 : xm_ins 159 11 = some (.iconst 1, 12, 0, 0, 1) := rfl
theorem xi_159_12 : xm_ins 159 12 = some (.iaload, 13, 0, 0, 0) := rfl
theorem xi_159_13 : xm_ins 159 13 = some (.istore_n 2, 14, 2, 0, 0) := rfl
theorem xi_159_14 : xm_ins 159 14 = some (.aload_n 0, 15, 0, 0, 0) := rfl
theorem xi_159_15 : xm_ins 159 15 = some (.getfield 195, 18, 3, 6, 0) := rfl
theorem xi_159_18 : xm_ins 159 18 = some (.tableswitch 129 104 119 #[83, 129, 129, 129, 90, 129, 78, 129, 116, 129, 129, 96, 129, 109, 129, 123], 96, 0, 0, 0) := rfl
theorem xi_159_96 : xm_ins 159 96 = some (.aload_n 0, 97, 0, 0, 0) := rfl
theorem xi_159_97 : xm_ins 159 97 = some (.invokevirtual 64, 100, 102, 1, 3) := rfl
theorem xi_159_100 : xm_ins 159 100 = some (.ireturn, 101, 0, 0, 0) := rfl
theorem xi_159_101 : xm_ins 159 101 = some (.aload_n 0, 102, 0, 0, 0) := rfl
theorem xi_159_102 : xm_ins 159 102 = some (.iload_n 1, 103, 1, 0, 0) := rfl
theorem xi_159_103 : xm_ins 159 103 = some (.iload_n 2, 104, 2, 0, 0) := rfl
theorem xi_159_104 : xm_ins 159 104 = some (.invokevirtual 79, 107, 105, 3, 3) := rfl
theorem xi_159_107 : xm_ins 159 107 = some (.ireturn, 108, 0, 0, 0) := rfl
theorem xi_159_108 : xm_ins 159 108 = some (.aload_n 0, 109, 0, 0, 0) := rfl
theorem xi_159_109 : xm_ins 159 109 = some (.iload_n 1, 110, 1, 0, 0) := rfl
theorem xi_159_110 : xm_ins 159 110 = some (.invokevirtual 85, 113, 108, 2, 3) := rfl
theorem xi_159_113 : xm_ins 159 113 = some (.ireturn, 114, 0, 0, 0) := rfl
theorem xi_159_114 : xm_ins 159 114 = some (.aload_n 0, 115, 0, 0, 0) := rfl
theorem xi_159_115 : xm_ins 159 115 = some (.iload_n 1, 116, 1, 0, 0) := rfl
theorem xi_159_116 : xm_ins 159 116 = some (.iload_n 2, 117, 2, 0, 0) := rfl
theorem xi_159_117 : xm_ins 159 117 = some (.aload_n 0, 118, 0, 0, 0) := rfl
theorem xi_159_118 : xm_ins 159 118 = some (.getfield 19, 121, 3, 7, 1) := rfl
theorem xi_159_121 : xm_ins 159 121 = some (.iconst 2, 122, 0, 0, 2) := rfl
theorem xi_159_122 : xm_ins 159 122 = some (.iaload, 123, 0, 0, 0) := rfl
theorem xi_159_123 : xm_ins 159 123 = some (.invokevirtual 94, 126, 111, 4, 3) := rfl
theorem xi_159_126 : xm_ins 159 126 = some (.ireturn, 127, 0, 0, 0) := rfl
theorem xi_159_127 : xm_ins 159 127 = some (.aload_n 0, 128, 0, 0, 0) := rfl
theorem xi_159_128 : xm_ins 159 128 = some (.iload_n 1, 129, 1, 0, 0) := rfl
theorem xi_159_129 : xm_ins 159 129 = some (.iload_n 2, 130, 2, 0, 0) := rfl
theorem xi_159_130 : xm_ins 159 130 = some (.invokevirtual 101, 133, 114, 3, 3) := rfl
theorem xi_159_133 : xm_ins 159 133 = some (.ireturn, 134, 0, 0, 0) := rfl
theorem xi_159_134 : xm_ins 159 134 = some (.aload_n 0, 135, 0, 0, 0) := rfl
theorem xi_159_135 : xm_ins 159 135 = some (.iload_n 1, 136, 1, 0, 0) := rfl
theorem xi_159_136 : xm_ins 159 136 = some (.iconst 1, 137, 0, 0, 1) := rfl
theorem xi_159_137 : xm_ins 159 137 = some (.invokevirtual 113, 140, 118, 3, 3) := rfl
theorem xi_159_140 : xm_ins 159 140 = some (.ireturn, 141, 0, 0, 0) := rfl
theorem xi_159_141 : xm_ins 159 141 = some (.aload_n 0, 142, 0, 0, 0) := rfl
theorem xi_159_142 : xm_ins 159 142 = some (.iload_n 1, 143, 1, 0, 0) := rfl
theorem xi_159_143 : xm_ins 159 143 = some (.invokevirtual 159, 146, 133, 2, 3) := rfl
theorem xi_159_146 : xm_ins 159 146 = some (.ireturn, 147, 0, 0, 0) := rfl
theorem xi_159_147 : xm_ins 159 147 = some (.iconst 0, 148, 0, 0, 0) := rfl
theorem xi_159_148 : xm_ins 159 148 = some (.ireturn, 149, 0, 0, 0) := rfl
theorem xn_160 (pc : Nat) : xm_ins 160 pc = xm_find xt_160 pc := rfl
theorem xi_160_0 : xm_ins 160 0 = some (.aload_n 0, 1, 0, 0, 0) := rfl
theorem xi_160_1 : xm_ins 160 1 = some (.getfield 19, 4, 3, 7, 1) := rfl
theorem xi_160_4 : xm_ins 160 4 = some (.iconst 0, 5, 0, 0, 0) := rfl
theorem xi_160_5 : xm_ins 160 5 = some (.iaload, 6, 0, 0, 0) := rfl
theorem xi_160_6 : xm_ins 160 6 = some (.istore_n 1, 7, 1, 0, 0) := rfl
theorem xi_160_7 : xm_ins 160 7 = some (.aload_n 0, 8, 0, 0, 0) := rfl
theorem xi_160_8 : xm_ins 160 8 = some (.getfield 19, 11, 3, 7, 1) := rfl
theorem xi_160_11 : xm_ins 160 11 = some (.iconst 1, 12, 0, 0, 1) := rfl
theorem xi_160_12 : xm_ins 160 12 = some (.iaload, 13, 0, 0, 0) := rfl
theorem xi_160_13 : xm_ins 160 13 = some (.istore_n 2, 14, 2, 0, 0) := rfl
theorem xi_160_14 : xm_ins 160 14 = some (.aload_n 0, 15, 0, 0, 0) := rfl
theorem xi_160_15 : xm_ins 160 15 = some (.getfield 195, 18, 3, 6, 0) := rfl
theorem xi_160_18 : xm_ins 160 18 = some (.tableswitch 150 104 119 #[86, 150, 150, 150, 96, 150, 78, 150, 131, 150, 150, 105, 150, 121, 150, 141], 96, 0, 0, 0) := rfl
theorem xi_160_96 : xm_ins 160 96 = some (.aload_n 0, 97, 0, 0, 0) := rfl
theorem xi_160_97 : xm_ins 160 97 = some (.invokevirtual 72, 100, 103, 1, 3) := rfl
theorem xi_160_100 : xm_ins 160 100 = some (.pop, 101, 0, 0, 0) := rfl
theorem xi_160_101 : xm_ins 160 101 = some (.goto 72, 104, 173, 0, 0) := rfl
theorem xi_160_104 : xm_ins 160 104 = some (.aload_n 0, 105, 0, 0, 0) := rfl
theorem xi_160_105 : xm_ins 160 105 = some (.iload_n 1, 106, 1, 0, 0) := rfl
theorem xi_160_106 : xm_ins 160 106 = some (.iload_n 2, 107, 2, 0, 0) := rfl
theorem xi_160_107 : xm_ins 160 107 = some (.invokevirtual 82, 110, 106, 3, 3) := rfl
theorem xi_160_110 : xm_ins 160 110 = some (.pop, 111, 0, 0, 0) := rfl
theorem xi_160_111 : xm_ins 160 111 = some (.goto 62, 114, 173, 0, 0) := rfl
theorem xi_160_114 : xm_ins 160 114 = some (.aload_n 0, 115, 0, 0, 0) := rfl
theorem xi_160_115 : xm_ins 160 115 = some (.iload_n 1, 116, 1, 0, 0) := rfl
theorem xi_160_116 : xm_ins 160 116 = some (.invokevirtual 88, 119, 109, 2, 3) := rfl
theorem xi_160_119 : xm_ins 160 119 = some (.pop, 120, 0, 0, 0) := rfl
theorem xi_160_120 : xm_ins 160 120 = some (.goto 53, 123, 173, 0, 0) := rfl
theorem xi_160_123 : xm_ins 160 123 = some (.aload_n 0, 124, 0, 0, 0) := rfl
theorem xi_160_124 : xm_ins 160 124 = some (.iload_n 1, 125, 1, 0, 0) := rfl
theorem xi_160_125 : xm_ins 160 125 = some (.iload_n 2, 126, 2, 0, 0) := rfl
theorem xi_160_126 : xm_ins 160 126 = some (.aload_n 0, 127, 0, 0, 0) := rfl
theorem xi_160_127 : xm_ins 160 127 = some (.getfield 19, 130, 3, 7, 1) := rfl
theorem xi_160_130 : xm_ins 160 130 = some (.iconst 2, 131, 0, 0, 2) := rfl
theorem xi_160_131 : xm_ins 160 131 = some (.iaload, 132, 0, 0, 0) := rfl
theorem xi_160_132 : xm_ins 160 132 = some (.invokevirtual 98, 135, 112, 4, 3) := rfl
theorem xi_160_135 : xm_ins 160 135 = some (.pop, 136, 0, 0, 0) := rfl
theorem xi_160_136 : xm_ins 160 136 = some (.goto 37, 139, 173, 0, 0) := rfl
theorem xi_160_139 : xm_ins 160 139 = some (.aload_n 0, 140, 0, 0, 0) := rfl
theorem xi_160_140 : xm_ins 160 140 = some (.iload_n 1, 141, 1, 0, 0) := rfl
theorem xi_160_141 : xm_ins 160 141 = some (.iload_n 2, 142, 2, 0, 0) := rfl
theorem xi_160_142 : xm_ins 160 142 = some (.invokevirtual 104, 145, 115, 3, 3) := rfl
theorem xi_160_145 : xm_ins 160 145 = some (.pop, 146, 0, 0, 0) := rfl
theorem xi_160_146 : xm_ins 160 146 = some (.goto 27, 149, 173, 0, 0) := rfl
theorem xi_160_149 : xm_ins 160 149 = some (.aload_n 0, 150, 0, 0, 0) := rfl
theorem xi_160_150 : xm_ins 160 150 = some (.iload_n 1, 151, 1, 0, 0) := rfl
theorem xi_160_151 : xm_ins 160 151 = some (.iconst 1, 152, 0, 0, 1) := rfl
theorem xi_160_152 : xm_ins 160 152 = some (.invokevirtual 116, 155, 119, 3, 3) := rfl
theorem xi_160_155 : xm_ins 160 155 = some (.pop, 156, 0, 0, 0) := rfl
theorem xi_160_156 : xm_ins 160 156 = some (.goto 17, 159, 173, 0, 0) := rfl
theorem xi_160_159 : xm_ins 160 159 = some (.aload_n 0, 160, 0, 0, 0) := rfl
theorem xi_160_160 : xm_ins 160 160 = some (.iload_n 1, 161, 1, 0, 0) := rfl
theorem xi_160_161 : xm_ins 160 161 = some (.invokevirtual 150, 164, 130, 2, 3) := rfl
theorem xi_160_164 : xm_ins 160 164 = some (.pop, 165, 0, 0, 0) := rfl
theorem xi_160_165 : xm_ins 160 165 = some (.goto 8, 168, 173, 0, 0) := rfl
theorem xi_160_168 : xm_ins 160 168 = some (.aload_n 0, 169, 0, 0, 0) := rfl
theorem xi_160_169 : xm_ins 160 169 = some (.invokevirtual 165, 172, 135, 1, 3) := rfl
theorem xi_160_172 : xm_ins 160 172 = some (.pop, 173, 0, 0, 0) := rfl
theorem xi_160_173 : xm_ins 160 173 = some (.return_, 174, 0, 0, 0) := rfl
theorem xn_161 (pc : Nat) : xm_ins 161 pc = xm_find xt_161 pc := rfl
theorem xi_161_0 : xm_ins 161 0 = some (.aload_n 0, 1, 0, 0, 0) := rfl
theorem xi_161_1 : xm_ins 161 1 = some (.iconst 0, 2, 0, 0, 0) := rfl
theorem xi_161_2 : xm_ins 161 2 = some (.putfield 189, 5, 3, 5, 0) := rfl
theorem xi_161_5 : xm_ins 161 5 = some (.aload_n 0, 6, 0, 0, 0) := rfl
theorem xi_161_6 : xm_ins 161 6 = some (.iconst 0, 7, 0, 0, 0) := rfl
theorem xi_161_7 : xm_ins 161 7 = some (.putfield 207, 10, 3, 9, 0) := rfl
theorem xi_161_10 : xm_ins 161 10 = some (.aload_n 0, 11, 0, 0, 0) := rfl
theorem xi_161_11 : xm_ins 161 11 = some (.iconst 0, 12, 0, 0, 0) := rfl
theorem xi_161_12 : xm_ins 161 12 = some (.putfield 210, 15, 3, 10, 0) := rfl
theorem xi_161_15 : xm_ins 161 15 = some (.aload_n 0, 16, 0, 0, 0) := rfl
theorem xi_161_16 : xm_ins 161 16 = some (.getfield 189, 19, 3, 5, 0) := rfl
theorem xi_161_19 : xm_ins 161 19 = some (.aload_n 0, 20, 0, 0, 0) := rfl
theorem xi_161_20 : xm_ins 161 20 = some (.getfield 186, 23, 3, 3, 0) := rfl
theorem xi_161_23 : xm_ins 161 23 = some (.if_icmp .ge 87, 26, 110, 0, 0) := rfl
theorem xi_161_26 : xm_ins 161 26 = some (.aload_n 0, 27, 0, 0, 0) := rfl
theorem xi_161_27 : xm_ins 161 27 = some (.getfield 207, 30, 3, 9, 0) := rfl
theorem xi_161_30 : xm_ins 161 30 = some (.ifCond .ne 80, 33, 110, 0, 0) := rfl
theorem xi_161_33 : xm_ins 161 33 = some (.aload_n 0, 34, 0, 0, 0) := rfl
theorem xi_161_34 : xm_ins 161 34 = some (.aload_n 0, 35, 0, 0, 0) := rfl
theorem xi_161_35 : xm_ins 161 35 = some (.getfield 189, 38, 3, 5, 0) := rfl
theorem xi_161_38 : xm_ins 161 38 = some (.putfield 213, 41, 3, 8, 0) := rfl
theorem xi_161_41 : xm_ins 161 41 = some (.aload_n 0, 42, 0, 0, 0) := rfl
theorem xi_161_42 : xm_ins 161 42 = some (.invokevirtual 216, 45, 158, 1, 3) := rfl
theorem xi_161_45 : xm_ins 161 45 = some (.istore_n 1, 46, 1, 0, 0) := rfl
theorem xi_161_46 : xm_ins 161 46 = some (.iload_n 1, 47, 1, 0, 0) := rfl
theorem xi_161_47 : xm_ins 161 47 = some (.ifCond .eq 10, 50, 57, 0, 0) := rfl
theorem xi_161_50 : xm_ins 161 50 = some (.aload_n 0, 51, 0, 0, 0) := rfl
theorem xi_161_51 : xm_ins 161 51 = some (.invokevirtual 220, 54, 159, 1, 3) := rfl
theorem xi_161_54 : xm_ins 161 54 = some (.goto 4, 57, 58, 0, 0) := rfl
theorem xi_161_57 : xm_ins 161 57 = some (.iconst 0, 58, 0, 0, 0) := rfl
theorem xi_161_58 : xm_ins 161 58 = some (.istore_n 2, 59, 2, 0, 0) := rfl
theorem xi_161_59 : xm_ins 161 59 = some (.iload_n 1, 60, 1, 0, 0) := rfl
theorem xi_161_60 : xm_ins 161 60 = some (.ifCond .ne 11, 63, 71, 0, 0) := rfl
theorem xi_161_63 : xm_ins 161 63 = some (.aload_n 0, 64, 0, 0, 0) := rfl
theorem xi_161_64 : xm_ins 161 64 = some (.iconst 1, 65, 0, 0, 1) := rfl
theorem xi_161_65 : xm_ins 161 65 = some (.putfield 207, 68, 3, 9, 0) := rfl
theorem xi_161_68 : xm_ins 161 68 = some (.goto 39, 71, 107, 0, 0) := rfl
theorem xi_161_71 : xm_ins 161 71 = some (.iload_n 2, 72, 2, 0, 0) := rfl
theorem xi_161_72 : xm_ins 161 72 = some (.ifCond .eq 21, 75, 93, 0, 0) := rfl
theorem xi_161_75 : xm_ins 161 75 = some (.aload_n 0, 76, 0, 0, 0) := rfl
theorem xi_161_76 : xm_ins 161 76 = some (.iload_n 2, 77, 2, 0, 0) := rfl
theorem xi_161_77 : xm_ins 161 77 = some (.ldc 78, 79, 0, 0, (-1000001)) := rfl
theorem xi_161_79 : xm_ins 161 79 = some (.if_icmp .ne 7, 82, 86, 0, 0) := rfl
theorem xi_161_82 : xm_ins 161 82 = some (.iconst 2, 83, 0, 0, 2) := rfl
theorem xi_161_83 : xm_ins 161 83 = some (.goto 4, 86, 87, 0, 0) := rfl
theorem xi_161_86 : xm_ins 161 86 = some (.iconst 3, 87, 0, 0, 3) := rfl
theorem xi_161_87 : xm_ins 161 87 = some (.putfield 207, 90, 3, 9, 0) := rfl
theorem xi_161_90 : xm_ins 161 90 = some (.goto 17, 93, 107, 0, 0) := rfl
theorem xi_161_93 : xm_ins 161 93 = some (.aload_n 0, 94, 0, 0, 0) := rfl
theorem xi_161_94 : xm_ins 161 94 = some (.invokevirtual 223, 97, 160, 1, 3) := rfl
theorem xi_161_97 : xm_ins 161 97 = some (.aload_n 0, 98, 0, 0, 0) := rfl
theorem xi_161_98 : xm_ins 161 98 = some (.dup, 99, 0, 0, 0) := rfl
theorem xi_161_99 : xm_ins 161 99 = some (.getfield 210, 102, 3, 10, 0) := rfl
theorem xi_161_102 : xm_ins 161 102 = some (.iconst 1, 103, 0, 0, 1) := rfl
theorem xi_161_103 : xm_ins 161 103 = some (.iadd, 104, 0, 0, 0) := rfl
theorem xi_161_104 : xm_ins 161 104 = some (.putfield 210, 107, 3, 10, 0) := rfl
theorem xi_161_107 : xm_ins 161 107 = some (.goto (-92), 110, 15, 0, 0) := rfl
theorem xi_161_110 : xm_ins 161 110 = some (.return_, 111, 0, 0, 0) := rfl
theorem xn_162 (pc : Nat) : xm_ins 162 pc = xm_find xt_162 pc := rfl
theorem xi_162_0 : xm_ins 162 0 = some (.iconst 0, 1, 0, 0, 0) := rfl
theorem xi_162_1 : xm_ins 162 1 = some (.istore_n 1, 2, 1, 0, 0) := rfl
theorem xi_162_2 : xm_ins 162 2 = some (.iload_n 1, 3, 1, 0, 0) := rfl
theorem xi_162_3 : xm_ins 162 3 = some (.sipush 196, 6, 0, 0, 196) := rfl
theorem xi_162_6 : xm_ins 162 6 = some (.if_icmp .ge 21, 9, 27, 0, 0) := rfl
theorem xi_162_9 : xm_ins 162 9 = some (.aload_n 0, 10, 0, 0, 0) := rfl
theorem xi_162_10 : xm_ins 162 10 = some (.getfield 7, 13, 3, 0, 1) := rfl
theorem xi_162_13 : xm_ins 162 13 = some (.iload_n 1, 14, 1, 0, 0) := rfl
theorem xi_162_14 : xm_ins 162 14 = some (.aload_n 0, 15, 0, 0, 0) := rfl
theorem xi_162_15 : xm_ins 162 15 = some (.getfield 22, 18, 3, 11, 1) := rfl
theorem xi_162_18 : xm_ins 162 18 = some (.iload_n 1, 19, 1, 0, 0) := rfl
theorem xi_162_19 : xm_ins 162 19 = some (.iaload, 20, 0, 0, 0) := rfl
theorem xi_162_20 : xm_ins 162 20 = some (.iastore, 21, 0, 0, 0) := rfl
theorem xi_162_21 : xm_ins 162 21 = some (.iinc 1 1, 24, 1, 0, 1) := rfl
theorem xi_162_24 : xm_ins 162 24 = some (.goto (-22), 27, 2, 0, 0) := rfl
theorem xi_162_27 : xm_ins 162 27 = some (.return_, 28, 0, 0, 0) := rfl
theorem xn_163 (pc : Nat) : xm_ins 163 pc = xm_find xt_163 pc := rfl
theorem xi_163_0 : xm_ins 163 0 = some (.iconst 0, 1, 0, 0, 0) := rfl
theorem xi_163_1 : xm_ins 163 1 = some (.istore_n 1, 2, 1, 0, 0) := rfl
theorem xi_163_2 : xm_ins 163 2 = some (.iload_n 1, 3, 1, 0, 0) := rfl
theorem xi_163_3 : xm_ins 163 3 = some (.sipush 196, 6, 0, 0, 196) := rfl
theorem xi_163_6 : xm_ins 163 6 = some (.if_icmp .ge 21, 9, 27, 0, 0) := rfl
theorem xi_163_9 : xm_ins 163 9 = some (.aload_n 0, 10, 0, 0, 0) := rfl
theorem xi_163_10 : xm_ins 163 10 = some (.getfield 22, 13, 3, 11, 1) := rfl
theorem xi_163_13 : xm_ins 163 13 = some (.iload_n 1, 14, 1, 0, 0) := rfl
theorem xi_163_14 : xm_ins 163 14 = some (.aload_n 0, 15, 0, 0, 0) := rfl
theorem xi_163_15 : xm_ins 163 15 = some (.getfield 7, 18, 3, 0, 1) := rfl
theorem xi_163_18 : xm_ins 163 18 = some (.iload_n 1, 19, 1, 0, 0) := rfl
theorem xi_163_19 : xm_ins 163 19 = some (.iaload, 20, 0, 0, 0) := rfl
theorem xi_163_20 : xm_ins 163 20 = some (.iastore, 21, 0, 0, 0) := rfl
theorem xi_163_21 : xm_ins 163 21 = some (.iinc 1 1, 24, 1, 0, 1) := rfl
theorem xi_163_24 : xm_ins 163 24 = some (.goto (-22), 27, 2, 0, 0) := rfl
theorem xi_163_27 : xm_ins 163 27 = some (.return_, 28, 0, 0, 0) := rfl
theorem xn_164 (pc : Nat) : xm_ins 164 pc = xm_find xt_164 pc := rfl
theorem xi_164_0 : xm_ins 164 0 = some (.iload_n 1, 1, 1, 0, 0) := rfl
theorem xi_164_1 : xm_ins 164 1 = some (.iconst 0, 2, 0, 0, 0) := rfl
theorem xi_164_2 : xm_ins 164 2 = some (.iconst 1, 3, 0, 0, 1) := rfl
theorem xi_164_3 : xm_ins 164 3 = some (.invokestatic 25, 6, 85, 3, 3) := rfl
theorem xi_164_6 : xm_ins 164 6 = some (.ifCond .ne 6, 9, 12, 0, 0) := rfl
theorem xi_164_9 : xm_ins 164 9 = some (.ldc 78, 11, 0, 0, (-1000001)) := rfl
theorem xi_164_11 : xm_ins 164 11 = some (.ireturn, 12, 0, 0, 0) := rfl
theorem xi_164_12 : xm_ins 164 12 = some (.aload_n 0, 13, 0, 0, 0) := rfl
theorem xi_164_13 : xm_ins 164 13 = some (.invokevirtual 226, 16, 163, 1, 3) := rfl
theorem xi_164_16 : xm_ins 164 16 = some (.aload_n 0, 17, 0, 0, 0) := rfl
theorem xi_164_17 : xm_ins 164 17 = some (.invokevirtual 229, 20, 161, 1, 3) := rfl
theorem xi_164_20 : xm_ins 164 20 = some (.aload_n 0, 21, 0, 0, 0) := rfl
theorem xi_164_21 : xm_ins 164 21 = some (.invokevirtual 232, 24, 162, 1, 3) := rfl
theorem xi_164_24 : xm_ins 164 24 = some (.aload_n 0, 25, 0, 0, 0) := rfl
theorem xi_164_25 : xm_ins 164 25 = some (.getfield 207, 28, 3, 9, 0) := rfl
theorem xi_164_28 : xm_ins 164 28 = some (.ifCond .ne 8, 31, 36, 0, 0) := rfl
theorem xi_164_31 : xm_ins 164 31 = some (.ldc 53, 33, 0, 0, (-1000004)) := rfl
theorem xi_164_33 : xm_ins 164 33 = some (.goto 18, 36, 51, 0, 0) := rfl
theorem xi_164_36 : xm_ins 164 36 = some (.iload_n 1, 37, 1, 0, 0) := rfl
theorem xi_164_37 : xm_ins 164 37 = some (.ifCond .ne 10, 40, 47, 0, 0) := rfl
theorem xi_164_40 : xm_ins 164 40 = some (.aload_n 0, 41, 0, 0, 0) := rfl
theorem xi_164_41 : xm_ins 164 41 = some (.getfield 213, 44, 3, 8, 0) := rfl
theorem xi_164_44 : xm_ins 164 44 = some (.goto 7, 47, 51, 0, 0) := rfl
theorem xi_164_47 : xm_ins 164 47 = some (.aload_n 0, 48, 0, 0, 0) := rfl
theorem xi_164_48 : xm_ins 164 48 = some (.getfield 207, 51, 3, 9, 0) := rfl
theorem xi_164_51 : xm_ins 164 51 = some (.ireturn, 52, 0, 0, 0) := rfl
theorem xn_165 (pc : Nat) : xm_ins 165 pc = xm_find xt_165 pc := rfl
theorem xi_165_0 : xm_ins 165 0 = some (.aload_n 0, 1, 0, 0, 0) := rfl
theorem xi_165_1 : xm_ins 165 1 = some (.invokevirtual 226, 4, 163, 1, 3) := rfl
theorem xi_165_4 : xm_ins 165 4 = some (.aload_n 0, 5, 0, 0, 0) := rfl
theorem xi_165_5 : xm_ins 165 5 = some (.invokevirtual 229, 8, 161, 1, 3) := rfl
theorem xi_165_8 : xm_ins 165 8 = some (.aload_n 0, 9, 0, 0, 0) := rfl
theorem xi_165_9 : xm_ins 165 9 = some (.invokevirtual 232, 12, 162, 1, 3) := rfl
theorem xi_165_12 : xm_ins 165 12 = some (.aload_n 0, 13, 0, 0, 0) := rfl
theorem xi_165_13 : xm_ins 165 13 = some (.getfield 207, 16, 3, 9, 0) := rfl
theorem xi_165_16 : xm_ins 165 16 = some (.ifCond .eq 6, 19, 22, 0, 0) := rfl
theorem xi_165_19 : xm_ins 165 19 = some (.ldc 41, 21, 0, 0, (-1000002)) := rfl
theorem xi_165_21 : xm_ins 165 21 = some (.ireturn, 22, 0, 0, 0) := rfl
theorem xi_165_22 : xm_ins 165 22 = some (.aload_n 0, 23, 0, 0, 0) := rfl
theorem xi_165_23 : xm_ins 165 23 = some (.iconst 0, 24, 0, 0, 0) := rfl
theorem xi_165_24 : xm_ins 165 24 = some (.invokevirtual 68, 27, 93, 2, 3) := rfl
theorem xi_165_27 : xm_ins 165 27 = some (.aload_n 0, 28, 0, 0, 0) := rfl
theorem xi_165_28 : xm_ins 165 28 = some (.invokevirtual 229, 31, 161, 1, 3) := rfl
theorem xi_165_31 : xm_ins 165 31 = some (.aload_n 0, 32, 0, 0, 0) := rfl
theorem xi_165_32 : xm_ins 165 32 = some (.getfield 210, 35, 3, 10, 0) := rfl
theorem xi_165_35 : xm_ins 165 35 = some (.ireturn, 36, 0, 0, 0) := rfl
theorem xn_166 (pc : Nat) : xm_ins 166 pc = xm_find xt_166 pc := rfl
theorem xi_166_0 : xm_ins 166 0 = some (.iload_n 0, 1, 0, 0, 0) := rfl
theorem xi_166_1 : xm_ins 166 1 = some (.iload_n 0, 2, 0, 0, 0) := rfl
theorem xi_166_2 : xm_ins 166 2 = some (.iconst 1, 3, 0, 0, 1) := rfl
theorem xi_166_3 : xm_ins 166 3 = some (.iushr, 4, 0, 0, 0) := rfl
theorem xi_166_4 : xm_ins 166 4 = some (.ldc_w 265, 7, 0, 0, 1431655765) := rfl
theorem xi_166_7 : xm_ins 166 7 = some (.iand, 8, 0, 0, 0) := rfl
theorem xi_166_8 : xm_ins 166 8 = some (.isub, 9, 0, 0, 0) := rfl
theorem xi_166_9 : xm_ins 166 9 = some (.istore_n 0, 10, 0, 0, 0) := rfl
theorem xi_166_10 : xm_ins 166 10 = some (.iload_n 0, 11, 0, 0, 0) := rfl
theorem xi_166_11 : xm_ins 166 11 = some (.ldc_w 266, 14, 0, 0, 858993459) := rfl
theorem xi_166_14 : xm_ins 166 14 = some (.iand, 15, 0, 0, 0) := rfl
theorem xi_166_15 : xm_ins 166 15 = some (.iload_n 0, 16, 0, 0, 0) := rfl
theorem xi_166_16 : xm_ins 166 16 = some (.iconst 2, 17, 0, 0, 2) := rfl
theorem xi_166_17 : xm_ins 166 17 = some (.iushr, 18, 0, 0, 0) := rfl
theorem xi_166_18 : xm_ins 166 18 = some (.ldc_w 266, 21, 0, 0, 858993459) := rfl
theorem xi_166_21 : xm_ins 166 21 = some (.iand, 22, 0, 0, 0) := rfl
theorem xi_166_22 : xm_ins 166 22 = some (.iadd, 23, 0, 0, 0) := rfl
theorem xi_166_23 : xm_ins 166 23 = some (.istore_n 0, 24, 0, 0, 0) := rfl
theorem xi_166_24 : xm_ins 166 24 = some (.iload_n 0, 25, 0, 0, 0) := rfl
theorem xi_166_25 : xm_ins 166 25 = some (.iload_n 0, 26, 0, 0, 0) := rfl
theorem xi_166_26 : xm_ins 166 26 = some (.iconst 4, 27, 0, 0, 4) := rfl
theorem xi_166_27 : xm_ins 166 27 = some (.iushr, 28, 0, 0, 0) := rfl
theorem xi_166_28 : xm_ins 166 28 = some (.iadd, 29, 0, 0, 0) := rfl
theorem xi_166_29 : xm_ins 166 29 = some (.ldc_w 267, 32, 0, 0, 252645135) := rfl
theorem xi_166_32 : xm_ins 166 32 = some (.iand, 33, 0, 0, 0) := rfl
theorem xi_166_33 : xm_ins 166 33 = some (.istore_n 0, 34, 0, 0, 0) := rfl
theorem xi_166_34 : xm_ins 166 34 = some (.iload_n 0, 35, 0, 0, 0) := rfl
theorem xi_166_35 : xm_ins 166 35 = some (.iload_n 0, 36, 0, 0, 0) := rfl
theorem xi_166_36 : xm_ins 166 36 = some (.bipush 8, 38, 0, 0, 8) := rfl
theorem xi_166_38 : xm_ins 166 38 = some (.iushr, 39, 0, 0, 0) := rfl
theorem xi_166_39 : xm_ins 166 39 = some (.iadd, 40, 0, 0, 0) := rfl
theorem xi_166_40 : xm_ins 166 40 = some (.istore_n 0, 41, 0, 0, 0) := rfl
theorem xi_166_41 : xm_ins 166 41 = some (.iload_n 0, 42, 0, 0, 0) := rfl
theorem xi_166_42 : xm_ins 166 42 = some (.iload_n 0, 43, 0, 0, 0) := rfl
theorem xi_166_43 : xm_ins 166 43 = some (.bipush 16, 45, 0, 0, 16) := rfl
theorem xi_166_45 : xm_ins 166 45 = some (.iushr, 46, 0, 0, 0) := rfl
theorem xi_166_46 : xm_ins 166 46 = some (.iadd, 47, 0, 0, 0) := rfl
theorem xi_166_47 : xm_ins 166 47 = some (.istore_n 0, 48, 0, 0, 0) := rfl
theorem xi_166_48 : xm_ins 166 48 = some (.iload_n 0, 49, 0, 0, 0) := rfl
theorem xi_166_49 : xm_ins 166 49 = some (.bipush 63, 51, 0, 0, 63) := rfl
theorem xi_166_51 : xm_ins 166 51 = some (.iand, 52, 0, 0, 0) := rfl
theorem xi_166_52 : xm_ins 166 52 = some (.ireturn, 53, 0, 0, 0) := rfl
theorem xn_167 (pc : Nat) : xm_ins 167 pc = xm_find xt_167 pc := rfl
theorem xi_167_0 : xm_ins 167 0 = some (.new 7, 3, 2, 4, 0) := rfl
theorem xi_167_3 : xm_ins 167 3 = some (.dup, 4, 0, 0, 0) := rfl
theorem xi_167_4 : xm_ins 167 4 = some (.invokespecial 9, 7, 55, 1, 2) := rfl
theorem xi_167_7 : xm_ins 167 7 = some (.astore_n 1, 8, 1, 0, 0) := rfl
theorem xi_167_8 : xm_ins 167 8 = some (.new 10, 11, 3, 12, 0) := rfl
theorem xi_167_11 : xm_ins 167 11 = some (.dup, 12, 0, 0, 0) := rfl
theorem xi_167_12 : xm_ins 167 12 = some (.invokespecial 12, 15, 84, 1, 3) := rfl
theorem xi_167_15 : xm_ins 167 15 = some (.astore_n 2, 16, 2, 0, 0) := rfl
theorem xi_167_16 : xm_ins 167 16 = some (.iconst 0, 17, 0, 0, 0) := rfl
theorem xi_167_17 : xm_ins 167 17 = some (.istore_n 3, 18, 3, 0, 0) := rfl
theorem xi_167_18 : xm_ins 167 18 = some (.iload_n 3, 19, 3, 0, 0) := rfl
theorem xi_167_19 : xm_ins 167 19 = some (.aload_n 0, 20, 0, 0, 0) := rfl
theorem xi_167_20 : xm_ins 167 20 = some (.arraylength, 21, 0, 0, 0) := rfl
theorem xi_167_21 : xm_ins 167 21 = some (.iconst 4, 22, 0, 0, 4) := rfl
theorem xi_167_22 : xm_ins 167 22 = some (.isub, 23, 0, 0, 0) := rfl
theorem xi_167_23 : xm_ins 167 23 = some (.if_icmp .gt 672, 26, 695, 0, 0) := rfl
theorem xi_167_26 : xm_ins 167 26 = some (.aload_n 0, 27, 0, 0, 0) := rfl
theorem xi_167_27 : xm_ins 167 27 = some (.iload_n 3, 28, 3, 0, 0) := rfl
theorem xi_167_28 : xm_ins 167 28 = some (.iaload, 29, 0, 0, 0) := rfl
theorem xi_167_29 : xm_ins 167 29 = some (.bipush 31, 31, 0, 0, 31) := rfl
theorem xi_167_31 : xm_ins 167 31 = some (.iand, 32, 0, 0, 0) := rfl
theorem xi_167_32 : xm_ins 167 32 = some (.tableswitch 657 0 22 #[108, 121, 154, 177, 220, 253, 276, 299, 322, 335, 368, 401, 424, 447, 470, 503, 526, 549, 572, 585, 608, 621, 644], 140, 0, 0, 0) := rfl
theorem xi_167_140 : xm_ins 167 140 = some (.aload_n 1, 141, 1, 0, 0) := rfl
theorem xi_167_141 : xm_ins 167 141 = some (.invokevirtual 13, 144, 56, 1, 2) := rfl
theorem xi_167_144 : xm_ins 167 144 = some (.aload_n 2, 145, 2, 0, 0) := rfl
theorem xi_167_145 : xm_ins 167 145 = some (.invokevirtual 17, 148, 104, 1, 3) := rfl
theorem xi_167_148 : xm_ins 167 148 = some (.if_icmp .eq 541, 151, 689, 0, 0) := rfl
theorem xi_167_151 : xm_ins 167 151 = some (.iconst 0, 152, 0, 0, 0) := rfl
theorem xi_167_152 : xm_ins 167 152 = some (.ireturn, 153, 0, 0, 0) := rfl
theorem xi_167_153 : xm_ins 167 153 = some (.aload_n 1, 154, 1, 0, 0) := rfl
theorem xi_167_154 : xm_ins 167 154 = some (.aload_n 0, 155, 0, 0, 0) := rfl
theorem xi_167_155 : xm_ins 167 155 = some (.iload_n 3, 156, 3, 0, 0) := rfl
theorem xi_167_156 : xm_ins 167 156 = some (.iconst 1, 157, 0, 0, 1) := rfl
theorem xi_167_157 : xm_ins 167 157 = some (.iadd, 158, 0, 0, 0) := rfl
theorem xi_167_158 : xm_ins 167 158 = some (.iaload, 159, 0, 0, 0) := rfl
theorem xi_167_159 : xm_ins 167 159 = some (.aload_n 0, 160, 0, 0, 0) := rfl
theorem xi_167_160 : xm_ins 167 160 = some (.iload_n 3, 161, 3, 0, 0) := rfl
theorem xi_167_161 : xm_ins 167 161 = some (.iconst 2, 162, 0, 0, 2) := rfl
theorem xi_167_162 : xm_ins 167 162 = some (.iadd, 163, 0, 0, 0) := rfl
theorem xi_167_163 : xm_ins 167 163 = some (.iaload, 164, 0, 0, 0) := rfl
theorem xi_167_164 : xm_ins 167 164 = some (.invokevirtual 18, 167, 57, 3, 2) := rfl
theorem xi_167_167 : xm_ins 167 167 = some (.aload_n 2, 168, 2, 0, 0) := rfl
theorem xi_167_168 : xm_ins 167 168 = some (.aload_n 0, 169, 0, 0, 0) := rfl
theorem xi_167_169 : xm_ins 167 169 = some (.iload_n 3, 170, 3, 0, 0) := rfl
theorem xi_167_170 : xm_ins 167 170 = some (.iconst 1, 171, 0, 0, 1) := rfl
theorem xi_167_171 : xm_ins 167 171 = some (.iadd, 172, 0, 0, 0) := rfl
theorem xi_167_172 : xm_ins 167 172 = some (.iaload, 173, 0, 0, 0) := rfl
theorem xi_167_173 : xm_ins 167 173 = some (.aload_n 0, 174, 0, 0, 0) := rfl
theorem xi_167_174 : xm_ins 167 174 = some (.iload_n 3, 175, 3, 0, 0) := rfl
theorem xi_167_175 : xm_ins 167 175 = some (.iconst 2, 176, 0, 0, 2) := rfl
theorem xi_167_176 : xm_ins 167 176 = some (.iadd, 177, 0, 0, 0) := rfl
theorem xi_167_177 : xm_ins 167 177 = some (.iaload, 178, 0, 0, 0) := rfl
theorem xi_167_178 : xm_ins 167 178 = some (.invokevirtual 22, 181, 107, 3, 3) := rfl
theorem xi_167_181 : xm_ins 167 181 = some (.if_icmp .eq 508, 184, 689, 0, 0) := rfl
theorem xi_167_184 : xm_ins 167 184 = some (.iconst 0, 185, 0, 0, 0) := rfl
theorem xi_167_185 : xm_ins 167 185 = some (.ireturn, 186, 0, 0, 0) := rfl
theorem xi_167_186 : xm_ins 167 186 = some (.aload_n 1, 187, 1, 0, 0) := rfl
theorem xi_167_187 : xm_ins 167 187 = some (.aload_n 0, 188, 0, 0, 0) := rfl
theorem xi_167_188 : xm_ins 167 188 = some (.iload_n 3, 189, 3, 0, 0) := rfl
theorem xi_167_189 : xm_ins 167 189 = some (.iconst 1, 190, 0, 0, 1) := rfl
theorem xi_167_190 : xm_ins 167 190 = some (.iadd, 191, 0, 0, 0) := rfl
theorem xi_167_191 : xm_ins 167 191 = some (.iaload, 192, 0, 0, 0) := rfl
theorem xi_167_192 : xm_ins 167 192 = some (.invokevirtual 23, 195, 58, 2, 2) := rfl
theorem xi_167_195 : xm_ins 167 195 = some (.aload_n 2, 196, 2, 0, 0) := rfl
theorem xi_167_196 : xm_ins 167 196 = some (.aload_n 0, 197, 0, 0, 0) := rfl
theorem xi_167_197 : xm_ins 167 197 = some (.iload_n 3, 198, 3, 0, 0) := rfl
theorem xi_167_198 : xm_ins 167 198 = some (.iconst 1, 199, 0, 0, 1) := rfl
theorem xi_167_199 : xm_ins 167 199 = some (.iadd, 200, 0, 0, 0) := rfl
theorem xi_167_200 : xm_ins 167 200 = some (.iaload, 201, 0, 0, 0) := rfl
theorem xi_167_201 : xm_ins 167 201 = some (.invokevirtual 27, 204, 110, 2, 3) := rfl
theorem xi_167_204 : xm_ins 167 204 = some (.if_icmp .eq 485, 207, 689, 0, 0) := rfl
theorem xi_167_207 : xm_ins 167 207 = some (.iconst 0, 208, 0, 0, 0) := rfl
theorem xi_167_208 : xm_ins 167 208 = some (.ireturn, 209, 0, 0, 0) := rfl
theorem xi_167_209 : xm_ins 167 209 = some (.aload_n 1, 210, 1, 0, 0) := rfl
theorem xi_167_210 : xm_ins 167 210 = some (.aload_n 0, 211, 0, 0, 0) := rfl
theorem xi_167_211 : xm_ins 167 211 = some (.iload_n 3, 212, 3, 0, 0) := rfl
theorem xi_167_212 : xm_ins 167 212 = some (.iconst 1, 213, 0, 0, 1) := rfl
theorem xi_167_213 : xm_ins 167 213 = some (.iadd, 214, 0, 0, 0) := rfl
theorem xi_167_214 : xm_ins 167 214 = some (.iaload, 215, 0, 0, 0) := rfl
theorem xi_167_215 : xm_ins 167 215 = some (.aload_n 0, 216, 0, 0, 0) := rfl
theorem xi_167_216 : xm_ins 167 216 = some (.iload_n 3, 217, 3, 0, 0) := rfl
set_option maxRecDepth 100000 in
theorem xi_167_217 : xm_ins 167 217 = some (.iconst 2, 218, 0, 0, 2) := rfl
set_option maxRecDepth 100000 in
theorem xi_167_218 : xm_ins 167 218 = some (.iadd, 219, 0, 0, 0) := rfl
set_option maxRecDepth 100000 in
theorem xi_167_219 : xm_ins 167 219 = some (.iaload, 220, 0, 0, 0) := rfl
set_option maxRecDepth 100000 in
theorem xi_167_220 : xm_ins 167 220 = some (.aload_n 0, 221, 0, 0, 0) := rfl
set_option maxRecDepth 100000 in
theorem xi_167_221 : xm_ins 167 221 = some (.iload_n 3, 222, 3, 0, 0) := rfl
set_option maxRecDepth 100000 in
theorem xi_167_222 : xm_ins 167 222 = some (.iconst 3, 223, 0, 0, 3) := rfl
set_option maxRecDepth 100000 in
theorem xi_167_223 : xm_ins 167 223 = some (.iadd, 224, 0, 0, 0) := rfl
set_option maxRecDepth 100000 in
theorem xi_167_224 : xm_ins 167 224 = some (.iaload, 225, 0, 0, 0) := rfl
set_option maxRecDepth 100000 in
theorem xi_167_225 : xm_ins 167 225 = some (.invokevirtual 28, 228, 59, 4, 2) := rfl
set_option maxRecDepth 100000 in
theorem xi_167_228 : xm_ins 167 228 = some (.aload_n 2, 229, 2, 0, 0) := rfl
set_option maxRecDepth 100000 in
theorem xi_167_229 : xm_ins 167 229 = some (.aload_n 0, 230, 0, 0, 0) := rfl
set_option maxRecDepth 100000 in
theorem xi_167_230 : xm_ins 167 230 = some (.iload_n 3, 231, 3, 0, 0) := rfl
set_option maxRecDepth 100000 in
theorem xi_167_231 : xm_ins 167 231 = some (.iconst 1, 232, 0, 0, 1) := rfl
set_option maxRecDepth 100000 in
theorem xi_167_232 : xm_ins 167 232 = some (.iadd, 233, 0, 0, 0) := rfl
set_option maxRecDepth 100000 in
theorem xi_167_233 : xm_ins 167 233 = some (.iaload, 234, 0, 0, 0) := rfl
set_option maxRecDepth 100000 in
theorem xi_167_234 : xm_ins 167 234 = some (.aload_n 0, 235, 0, 0, 0) := rfl
set_option maxRecDepth 100000 in
theorem xi_167_235 : xm_ins 167 235 = some (.iload_n 3, 236, 3, 0, 0) := rfl
set_option maxRecDepth 100000 in
theorem xi_167_236 : xm_ins 167 236 = some (.iconst 2, 237, 0, 0, 2) := rfl
set_option maxRecDepth 100000 in
theorem xi_167_237 : xm_ins 167 237 = some (.iadd, 238, 0, 0, 0) := rfl
set_option maxRecDepth 100000 in
theorem xi_167_238 : xm_ins 167 238 = some (.iaload, 239, 0, 0, 0) := rfl
set_option maxRecDepth 100000 in
theorem xi_167_239 : xm_ins 167 239 = some (.aload_n 0, 240, 0, 0, 0) := rfl
set_option maxRecDepth 100000 in
theorem xi_167_240 : xm_ins 167 240 = some (.iload_n 3, 241, 3, 0, 0) := rfl
set_option maxRecDepth 100000 in
theorem xi_167_241 : xm_ins 167 241 = some (.iconst 3, 242, 0, 0, 3) := rfl
set_option maxRecDepth 100000 in
theorem xi_167_242 : xm_ins 167 242 = some (.iadd, 243, 0, 0, 0) := rfl
set_option maxRecDepth 100000 in
theorem xi_167_243 : xm_ins 167 243 = some (.iaload, 244, 0, 0, 0) := rfl
set_option maxRecDepth 100000 in
theorem xi_167_244 : xm_ins 167 244 = some (.invokevirtual 32, 247, 113, 4, 3) := rfl
set_option maxRecDepth 100000 in
theorem xi_167_247 : xm_ins 167 247 = some (.if_icmp .eq 442, 250, 689, 0, 0) := rfl
set_option maxRecDepth 100000 in
theorem xi_167_250 : xm_ins 167 250 = some (.iconst 0, 251, 0, 0, 0) := rfl
set_option maxRecDepth 100000 in
theorem xi_167_251 : xm_ins 167 251 = some (.ireturn, 252, 0, 0, 0) := rfl
set_option maxRecDepth 100000 in
theorem xi_167_252 : xm_ins 167 252 = some (.aload_n 1, 253, 1, 0, 0) := rfl
set_option maxRecDepth 100000 in
theorem xi_167_253 : xm_ins 167 253 = some (.aload_n 0, 254, 0, 0, 0) := rfl
set_option maxRecDepth 100000 in
theorem xi_167_254 : xm_ins 167 254 = some (.iload_n 3, 255, 3, 0, 0) := rfl
set_option maxRecDepth 100000 in
theorem xi_167_255 : xm_ins 167 255 = some (.iconst 1, 256, 0, 0, 1) := rfl
set_option maxRecDepth 100000 in
theorem xi_167_256 : xm_ins 167 256 = some (.iadd, 257, 0, 0, 0) := rfl
set_option maxRecDepth 100000 in
theorem xi_167_257 : xm_ins 167 257 = some (.iaload, 258, 0, 0, 0) := rfl
set_option maxRecDepth 100000 in
theorem xi_167_258 : xm_ins 167 258 = some (.aload_n 0, 259, 0, 0, 0) := rfl
set_option maxRecDepth 100000 in
theorem xi_167_259 : xm_ins 167 259 = some (.iload_n 3, 260, 3, 0, 0) := rfl
set_option maxRecDepth 100000 in
theorem xi_167_260 : xm_ins 167 260 = some (.iconst 2, 261, 0, 0, 2) := rfl
set_option maxRecDepth 100000 in
theorem xi_167_261 : xm_ins 167 261 = some (.iadd, 262, 0, 0, 0) := rfl
set_option maxRecDepth 100000 in
theorem xi_167_262 : xm_ins 167 262 = some (.iaload, 263, 0, 0, 0) := rfl
set_option maxRecDepth 100000 in
theorem xi_167_263 : xm_ins 167 263 = some (.invokevirtual 33, 266, 60, 3, 2) := rfl
set_option maxRecDepth 100000 in
theorem xi_167_266 : xm_ins 167 266 = some (.aload_n 2, 267, 2, 0, 0) := rfl
set_option maxRecDepth 100000 in
theorem xi_167_267 : xm_ins 167 267 = some (.aload_n 0, 268, 0, 0, 0) := rfl
set_option maxRecDepth 100000 in
theorem xi_167_268 : xm_ins 167 268 = some (.iload_n 3, 269, 3, 0, 0) := rfl
set_option maxRecDepth 100000 in
theorem xi_167_269 : xm_ins 167 269 = some (.iconst 1, 270, 0, 0, 1) := rfl
set_option maxRecDepth 100000 in
theorem xi_167_270 : xm_ins 167 270 = some (.iadd, 271, 0, 0, 0) := rfl
set_option maxRecDepth 100000 in
theorem xi_167_271 : xm_ins 167 271 = some (.iaload, 272, 0, 0, 0) := rfl
set_option maxRecDepth 100000 in
theorem xi_167_272 : xm_ins 167 272 = some (.aload_n 0, 273, 0, 0, 0) := rfl
set_option maxRecDepth 100000 in
theorem xi_167_273 : xm_ins 167 273 = some (.iload_n 3, 274, 3, 0, 0) := rfl
set_option maxRecDepth 100000 in
theorem xi_167_274 : xm_ins 167 274 = some (.iconst 2, 275, 0, 0, 2) := rfl
set_option maxRecDepth 100000 in
theorem xi_167_275 : xm_ins 167 275 = some (.iadd, 276, 0, 0, 0) := rfl
set_option maxRecDepth 100000 in
theorem xi_167_276 : xm_ins 167 276 = some (.iaload, 277, 0, 0, 0) := rfl
set_option maxRecDepth 100000 in
theorem xi_167_277 : xm_ins 167 277 = some (.invokevirtual 36, 280, 116, 3, 3) := rfl
set_option maxRecDepth 100000 in
theorem xi_167_280 : xm_ins 167 280 = some (.if_icmp .eq 409, 283, 689, 0, 0) := rfl
set_option maxRecDepth 100000 in
theorem xi_167_283 : xm_ins 167 283 = some (.iconst 0, 284, 0, 0, 0) := rfl
set_option maxRecDepth 100000 in
theorem xi_167_284 : xm_ins 167 284 = some (.ireturn, 285, 0, 0, 0) := rfl
set_option maxRecDepth 100000 in
theorem xi_167_285 : xm_ins 167 285 = some (.aload_n 1, 286, 1, 0, 0) := rfl
set_option maxRecDepth 100000 in
theorem xi_167_286 : xm_ins 167 286 = some (.aload_n 0, 287, 0, 0, 0) := rfl
set_option maxRecDepth 100000 in
theorem xi_167_287 : xm_ins 167 287 = some (.iload_n 3, 288, 3, 0, 0) := rfl
set_option maxRecDepth 100000 in
theorem xi_167_288 : xm_ins 167 288 = some (.iconst 1, 289, 0, 0, 1) := rfl
set_option maxRecDepth 100000 in
theorem xi_167_289 : xm_ins 167 289 = some (.iadd, 290, 0, 0, 0) := rfl
set_option maxRecDepth 100000 in
theorem xi_167_290 : xm_ins 167 290 = some (.iaload, 291, 0, 0, 0) := rfl
set_option maxRecDepth 100000 in
theorem xi_167_291 : xm_ins 167 291 = some (.invokevirtual 37, 294, 61, 2, 2) := rfl
set_option maxRecDepth 100000 in
theorem xi_167_294 : xm_ins 167 294 = some (.aload_n 2, 295, 2, 0, 0) := rfl
set_option maxRecDepth 100000 in
theorem xi_167_295 : xm_ins 167 295 = some (.aload_n 0, 296, 0, 0, 0) := rfl
set_option maxRecDepth 100000 in
theorem xi_167_296 : xm_ins 167 296 = some (.iload_n 3, 297, 3, 0, 0) := rfl
set_option maxRecDepth 100000 in
theorem xi_167_297 : xm_ins 167 297 = some (.iconst 1, 298, 0, 0, 1) := rfl
set_option maxRecDepth 100000 in
theorem xi_167_298 : xm_ins 167 298 = some (.iadd, 299, 0, 0, 0) := rfl
set_option maxRecDepth 100000 in
theorem xi_167_299 : xm_ins 167 299 = some (.iaload, 300, 0, 0, 0) := rfl
set_option maxRecDepth 100000 in
theorem xi_167_300 : xm_ins 167 300 = some (.invokevirtual 40, 303, 120, 2, 3) := rfl
set_option maxRecDepth 100000 in
theorem xi_167_303 : xm_ins 167 303 = some (.if_icmp .eq 386, 306, 689, 0, 0) := rfl
set_option maxRecDepth 100000 in
theorem xi_167_306 : xm_ins 167 306 = some (.iconst 0, 307, 0, 0, 0) := rfl
set_option maxRecDepth 100000 in
theorem xi_167_307 : xm_ins 167 307 = some (.ireturn, 308, 0, 0, 0) := rfl
set_option maxRecDepth 100000 in
theorem xi_167_308 : xm_ins 167 308 = some (.aload_n 1, 309, 1, 0, 0) := rfl
set_option maxRecDepth 100000 in
theorem xi_167_309 : xm_ins 167 309 = some (.aload_n 0, 310, 0, 0, 0) := rfl
set_option maxRecDepth 100000 in
theorem xi_167_310 : xm_ins 167 310 = some (.iload_n 3, 311, 3, 0, 0) := rfl
set_option maxRecDepth 100000 in
theorem xi_167_311 : xm_ins 167 311 = some (.iconst 1, 312, 0, 0, 1) := rfl
set_option maxRecDepth 100000 in
theorem xi_167_312 : xm_ins 167 312 = some (.iadd, 313, 0, 0, 0) := rfl
set_option maxRecDepth 100000 in
theorem xi_167_313 : xm_ins 167 313 = some (.iaload, 314, 0, 0, 0) := rfl
set_option maxRecDepth 100000 in
theorem xi_167_314 : xm_ins 167 314 = some (.invokevirtual 41, 317, 62, 2, 2) := rfl
set_option maxRecDepth 100000 in
theorem xi_167_317 : xm_ins 167 317 = some (.aload_n 2, 318, 2, 0, 0) := rfl
set_option maxRecDepth 100000 in
theorem xi_167_318 : xm_ins 167 318 = some (.aload_n 0, 319, 0, 0, 0) := rfl
set_option maxRecDepth 100000 in
theorem xi_167_319 : xm_ins 167 319 = some (.iload_n 3, 320, 3, 0, 0) := rfl
set_option maxRecDepth 100000 in
theorem xi_167_320 : xm_ins 167 320 = some (.iconst 1, 321, 0, 0, 1) := rfl
set_option maxRecDepth 100000 in
theorem xi_167_321 : xm_ins 167 321 = some (.iadd, 322, 0, 0, 0) := rfl
set_option maxRecDepth 100000 in
theorem xi_167_322 : xm_ins 167 322 = some (.iaload, 323, 0, 0, 0) := rfl
set_option maxRecDepth 100000 in
theorem xi_167_323 : xm_ins 167 323 = some (.invokevirtual 44, 326, 121, 2, 3) := rfl
set_option maxRecDepth 100000 in
theorem xi_167_326 : xm_ins 167 326 = some (.if_icmp .eq 363, 329, 689, 0, 0) := rfl
set_option maxRecDepth 100000 in
theorem xi_167_329 : xm_ins 167 329 = some (.iconst 0, 330, 0, 0, 0) := rfl
set_option maxRecDepth 100000 in
theorem xi_167_330 : xm_ins 167 330 = some (.ireturn, 331, 0, 0, 0) := rfl
set_option maxRecDepth 100000 in
theorem xi_167_331 : xm_ins 167 331 = some (.aload_n 1, 332, 1, 0, 0) := rfl
set_option maxRecDepth 100000 in
theorem xi_167_332 : xm_ins 167 332 = some (.aload_n 0, 333, 0, 0, 0) := rfl
set_option maxRecDepth 100000 in
theorem xi_167_333 : xm_ins 167 333 = some (.iload_n 3, 334, 3, 0, 0) := rfl
set_option maxRecDepth 100000 in
theorem xi_167_334 : xm_ins 167 334 = some (.iconst 1, 335, 0, 0, 1) := rfl
set_option maxRecDepth 100000 in
theorem xi_167_335 : xm_ins 167 335 = some (.iadd, 336, 0, 0, 0) := rfl
set_option maxRecDepth 100000 in
theorem xi_167_336 : xm_ins 167 336 = some (.iaload, 337, 0, 0, 0) := rfl
set_option maxRecDepth 100000 in
theorem xi_167_337 : xm_ins 167 337 = some (.invokevirtual 45, 340, 63, 2, 2) := rfl
set_option maxRecDepth 100000 in
theorem xi_167_340 : xm_ins 167 340 = some (.aload_n 2, 341, 2, 0, 0) := rfl
set_option maxRecDepth 100000 in
theorem xi_167_341 : xm_ins 167 341 = some (.aload_n 0, 342, 0, 0, 0) := rfl
set_option maxRecDepth 100000 in
theorem xi_167_342 : xm_ins 167 342 = some (.iload_n 3, 343, 3, 0, 0) := rfl
set_option maxRecDepth 100000 in
theorem xi_167_343 : xm_ins 167 343 = some (.iconst 1, 344, 0, 0, 1) := rfl
set_option maxRecDepth 100000 in
theorem xi_167_344 : xm_ins 167 344 = some (.iadd, 345, 0, 0, 0) := rfl
set_option maxRecDepth 100000 in
theorem xi_167_345 : xm_ins 167 345 = some (.iaload, 346, 0, 0, 0) := rfl
set_option maxRecDepth 100000 in
theorem xi_167_346 : xm_ins 167 346 = some (.invokevirtual 48, 349, 134, 2, 3) := rfl
set_option maxRecDepth 100000 in
theorem xi_167_349 : xm_ins 167 349 = some (.if_icmp .eq 340, 352, 689, 0, 0) := rfl
set_option maxRecDepth 100000 in
theorem xi_167_352 : xm_ins 167 352 = some (.iconst 0, 353, 0, 0, 0) := rfl
set_option maxRecDepth 100000 in
theorem xi_167_353 : xm_ins 167 353 = some (.ireturn, 354, 0, 0, 0) := rfl
set_option maxRecDepth 100000 in
theorem xi_167_354 : xm_ins 167 354 = some (.aload_n 1, 355, 1, 0, 0) := rfl
set_option maxRecDepth 100000 in
theorem xi_167_355 : xm_ins 167 355 = some (.invokevirtual 49, 358, 64, 1, 2) := rfl
set_option maxRecDepth 100000 in
theorem xi_167_358 : xm_ins 167 358 = some (.aload_n 2, 359, 2, 0, 0) := rfl
set_option maxRecDepth 100000 in
theorem xi_167_359 : xm_ins 167 359 = some (.invokevirtual 52, 362, 136, 1, 3) := rfl
set_option maxRecDepth 100000 in
theorem xi_167_362 : xm_ins 167 362 = some (.if_icmp .eq 327, 365, 689, 0, 0) := rfl
set_option maxRecDepth 100000 in
theorem xi_167_365 : xm_ins 167 365 = some (.iconst 0, 366, 0, 0, 0) := rfl
set_option maxRecDepth 100000 in
theorem xi_167_366 : xm_ins 167 366 = some (.ireturn, 367, 0, 0, 0) := rfl
set_option maxRecDepth 100000 in
theorem xi_167_367 : xm_ins 167 367 = some (.aload_n 1, 368, 1, 0, 0) := rfl
set_option maxRecDepth 100000 in
theorem xi_167_368 : xm_ins 167 368 = some (.aload_n 0, 369, 0, 0, 0) := rfl
set_option maxRecDepth 100000 in
theorem xi_167_369 : xm_ins 167 369 = some (.iload_n 3, 370, 3, 0, 0) := rfl
set_option maxRecDepth 100000 in
theorem xi_167_370 : xm_ins 167 370 = some (.iconst 1, 371, 0, 0, 1) := rfl
set_option maxRecDepth 100000 in
theorem xi_167_371 : xm_ins 167 371 = some (.iadd, 372, 0, 0, 0) := rfl
set_option maxRecDepth 100000 in
theorem xi_167_372 : xm_ins 167 372 = some (.iaload, 373, 0, 0, 0) := rfl
set_option maxRecDepth 100000 in
theorem xi_167_373 : xm_ins 167 373 = some (.aload_n 0, 374, 0, 0, 0) := rfl
set_option maxRecDepth 100000 in
theorem xi_167_374 : xm_ins 167 374 = some (.iload_n 3, 375, 3, 0, 0) := rfl
set_option maxRecDepth 100000 in
theorem xi_167_375 : xm_ins 167 375 = some (.iconst 2, 376, 0, 0, 2) := rfl
set_option maxRecDepth 100000 in
theorem xi_167_376 : xm_ins 167 376 = some (.iadd, 377, 0, 0, 0) := rfl
set_option maxRecDepth 100000 in
theorem xi_167_377 : xm_ins 167 377 = some (.iaload, 378, 0, 0, 0) := rfl
set_option maxRecDepth 100000 in
theorem xi_167_378 : xm_ins 167 378 = some (.invokevirtual 53, 381, 65, 3, 2) := rfl
set_option maxRecDepth 100000 in
theorem xi_167_381 : xm_ins 167 381 = some (.aload_n 2, 382, 2, 0, 0) := rfl
set_option maxRecDepth 100000 in
theorem xi_167_382 : xm_ins 167 382 = some (.aload_n 0, 383, 0, 0, 0) := rfl
set_option maxRecDepth 100000 in
theorem xi_167_383 : xm_ins 167 383 = some (.iload_n 3, 384, 3, 0, 0) := rfl
set_option maxRecDepth 100000 in
theorem xi_167_384 : xm_ins 167 384 = some (.iconst 1, 385, 0, 0, 1) := rfl
set_option maxRecDepth 100000 in
theorem xi_167_385 : xm_ins 167 385 = some (.iadd, 386, 0, 0, 0) := rfl
set_option maxRecDepth 100000 in
theorem xi_167_386 : xm_ins 167 386 = some (.iaload, 387, 0, 0, 0) := rfl
set_option maxRecDepth 100000 in
theorem xi_167_387 : xm_ins 167 387 = some (.aload_n 0, 388, 0, 0, 0) := rfl
set_option maxRecDepth 100000 in
theorem xi_167_388 : xm_ins 167 388 = some (.iload_n 3, 389, 3, 0, 0) := rfl
set_option maxRecDepth 100000 in
theorem xi_167_389 : xm_ins 167 389 = some (.iconst 2, 390, 0, 0, 2) := rfl
set_option maxRecDepth 100000 in
theorem xi_167_390 : xm_ins 167 390 = some (.iadd, 391, 0, 0, 0) := rfl
set_option maxRecDepth 100000 in
theorem xi_167_391 : xm_ins 167 391 = some (.iaload, 392, 0, 0, 0) := rfl
set_option maxRecDepth 100000 in
theorem xi_167_392 : xm_ins 167 392 = some (.invokevirtual 56, 395, 139, 3, 3) := rfl
set_option maxRecDepth 100000 in
theorem xi_167_395 : xm_ins 167 395 = some (.if_icmp .eq 294, 398, 689, 0, 0) := rfl
set_option maxRecDepth 100000 in
theorem xi_167_398 : xm_ins 167 398 = some (.iconst 0, 399, 0, 0, 0) := rfl
set_option maxRecDepth 100000 in
theorem xi_167_399 : xm_ins 167 399 = some (.ireturn, 400, 0, 0, 0) := rfl
set_option maxRecDepth 100000 in
theorem xi_167_400 : xm_ins 167 400 = some (.aload_n 1, 401, 1, 0, 0) := rfl
set_option maxRecDepth 100000 in
theorem xi_167_401 : xm_ins 167 401 = some (.aload_n 0, 402, 0, 0, 0) := rfl
set_option maxRecDepth 100000 in
theorem xi_167_402 : xm_ins 167 402 = some (.iload_n 3, 403, 3, 0, 0) := rfl
set_option maxRecDepth 100000 in
theorem xi_167_403 : xm_ins 167 403 = some (.iconst 1, 404, 0, 0, 1) := rfl
set_option maxRecDepth 100000 in
theorem xi_167_404 : xm_ins 167 404 = some (.iadd, 405, 0, 0, 0) := rfl
set_option maxRecDepth 100000 in
theorem xi_167_405 : xm_ins 167 405 = some (.iaload, 406, 0, 0, 0) := rfl
set_option maxRecDepth 100000 in
theorem xi_167_406 : xm_ins 167 406 = some (.aload_n 0, 407, 0, 0, 0) := rfl
set_option maxRecDepth 100000 in
theorem xi_167_407 : xm_ins 167 407 = some (.iload_n 3, 408, 3, 0, 0) := rfl
set_option maxRecDepth 100000 in
theorem xi_167_408 : xm_ins 167 408 = some (.iconst 2, 409, 0, 0, 2) := rfl
set_option maxRecDepth 100000 in
theorem xi_167_409 : xm_ins 167 409 = some (.iadd, 410, 0, 0, 0) := rfl
set_option maxRecDepth 100000 in
theorem xi_167_410 : xm_ins 167 410 = some (.iaload, 411, 0, 0, 0) := rfl
set_option maxRecDepth 100000 in
theorem xi_167_411 : xm_ins 167 411 = some (.invokevirtual 57, 414, 66, 3, 2) := rfl
set_option maxRecDepth 100000 in
theorem xi_167_414 : xm_ins 167 414 = some (.aload_n 2, 415, 2, 0, 0) := rfl
set_option maxRecDepth 100000 in
theorem xi_167_415 : xm_ins 167 415 = some (.aload_n 0, 416, 0, 0, 0) := rfl
set_option maxRecDepth 100000 in
theorem xi_167_416 : xm_ins 167 416 = some (.iload_n 3, 417, 3, 0, 0) := rfl
set_option maxRecDepth 100000 in
theorem xi_167_417 : xm_ins 167 417 = some (.iconst 1, 418, 0, 0, 1) := rfl
set_option maxRecDepth 100000 in
theorem xi_167_418 : xm_ins 167 418 = some (.iadd, 419, 0, 0, 0) := rfl
set_option maxRecDepth 100000 in
theorem xi_167_419 : xm_ins 167 419 = some (.iaload, 420, 0, 0, 0) := rfl
set_option maxRecDepth 100000 in
theorem xi_167_420 : xm_ins 167 420 = some (.aload_n 0, 421, 0, 0, 0) := rfl
set_option maxRecDepth 100000 in
theorem xi_167_421 : xm_ins 167 421 = some (.iload_n 3, 422, 3, 0, 0) := rfl
set_option maxRecDepth 100000 in
theorem xi_167_422 : xm_ins 167 422 = some (.iconst 2, 423, 0, 0, 2) := rfl
set_option maxRecDepth 100000 in
theorem xi_167_423 : xm_ins 167 423 = some (.iadd, 424, 0, 0, 0) := rfl
set_option maxRecDepth 100000 in
theorem xi_167_424 : xm_ins 167 424 = some (.iaload, 425, 0, 0, 0) := rfl
set_option maxRecDepth 100000 in
theorem xi_167_425 : xm_ins 167 425 = some (.invokevirtual 60, 428, 141, 3, 3) := rfl
set_option maxRecDepth 100000 in
theorem xi_167_428 : xm_ins 167 428 = some (.if_icmp .eq 261, 431, 689, 0, 0) := rfl
set_option maxRecDepth 100000 in
theorem xi_167_431 : xm_ins 167 431 = some (.iconst 0, 432, 0, 0, 0) := rfl
set_option maxRecDepth 100000 in
theorem xi_167_432 : xm_ins 167 432 = some (.ireturn, 433, 0, 0, 0) := rfl
set_option maxRecDepth 100000 in
theorem xi_167_433 : xm_ins 167 433 = some (.aload_n 1, 434, 1, 0, 0) := rfl
set_option maxRecDepth 100000 in
theorem xi_167_434 : xm_ins 167 434 = some (.aload_n 0, 435, 0, 0, 0) := rfl
set_option maxRecDepth 100000 in
theorem xi_167_435 : xm_ins 167 435 = some (.iload_n 3, 436, 3, 0, 0) := rfl
set_option maxRecDepth 100000 in
theorem xi_167_436 : xm_ins 167 436 = some (.iconst 1, 437, 0, 0, 1) := rfl
set_option maxRecDepth 100000 in
theorem xi_167_437 : xm_ins 167 437 = some (.iadd, 438, 0, 0, 0) := rfl
set_option maxRecDepth 100000 in
theorem xi_167_438 : xm_ins 167 438 = some (.iaload, 439, 0, 0, 0) := rfl
set_option maxRecDepth 100000 in
theorem xi_167_439 : xm_ins 167 439 = some (.invokevirtual 61, 442, 67, 2, 2) := rfl
set_option maxRecDepth 100000 in
theorem xi_167_442 : xm_ins 167 442 = some (.aload_n 2, 443, 2, 0, 0) := rfl
set_option maxRecDepth 100000 in
theorem xi_167_443 : xm_ins 167 443 = some (.aload_n 0, 444, 0, 0, 0) := rfl
set_option maxRecDepth 100000 in
theorem xi_167_444 : xm_ins 167 444 = some (.iload_n 3, 445, 3, 0, 0) := rfl
set_option maxRecDepth 100000 in
theorem xi_167_445 : xm_ins 167 445 = some (.iconst 1, 446, 0, 0, 1) := rfl
set_option maxRecDepth 100000 in
theorem xi_167_446 : xm_ins 167 446 = some (.iadd, 447, 0, 0, 0) := rfl
set_option maxRecDepth 100000 in
theorem xi_167_447 : xm_ins 167 447 = some (.iaload, 448, 0, 0, 0) := rfl
set_option maxRecDepth 100000 in
theorem xi_167_448 : xm_ins 167 448 = some (.invokevirtual 64, 451, 142, 2, 3) := rfl
set_option maxRecDepth 100000 in
theorem xi_167_451 : xm_ins 167 451 = some (.if_icmp .eq 238, 454, 689, 0, 0) := rfl
set_option maxRecDepth 100000 in
theorem xi_167_454 : xm_ins 167 454 = some (.iconst 0, 455, 0, 0, 0) := rfl
set_option maxRecDepth 100000 in
theorem xi_167_455 : xm_ins 167 455 = some (.ireturn, 456, 0, 0, 0) := rfl
set_option maxRecDepth 100000 in
theorem xi_167_456 : xm_ins 167 456 = some (.aload_n 1, 457, 1, 0, 0) := rfl
set_option maxRecDepth 100000 in
theorem xi_167_457 : xm_ins 167 457 = some (.aload_n 0, 458, 0, 0, 0) := rfl
set_option maxRecDepth 100000 in
theorem xi_167_458 : xm_ins 167 458 = some (.iload_n 3, 459, 3, 0, 0) := rfl
set_option maxRecDepth 100000 in
theorem xi_167_459 : xm_ins 167 459 = some (.iconst 1, 460, 0, 0, 1) := rfl
set_option maxRecDepth 100000 in
theorem xi_167_460 : xm_ins 167 460 = some (.iadd, 461, 0, 0, 0) := rfl
set_option maxRecDepth 100000 in
theorem xi_167_461 : xm_ins 167 461 = some (.iaload, 462, 0, 0, 0) := rfl
set_option maxRecDepth 100000 in
theorem xi_167_462 : xm_ins 167 462 = some (.invokevirtual 65, 465, 68, 2, 2) := rfl
set_option maxRecDepth 100000 in
theorem xi_167_465 : xm_ins 167 465 = some (.aload_n 2, 466, 2, 0, 0) := rfl
set_option maxRecDepth 100000 in
theorem xi_167_466 : xm_ins 167 466 = some (.aload_n 0, 467, 0, 0, 0) := rfl
set_option maxRecDepth 100000 in
theorem xi_167_467 : xm_ins 167 467 = some (.iload_n 3, 468, 3, 0, 0) := rfl
set_option maxRecDepth 100000 in
theorem xi_167_468 : xm_ins 167 468 = some (.iconst 1, 469, 0, 0, 1) := rfl
set_option maxRecDepth 100000 in
theorem xi_167_469 : xm_ins 167 469 = some (.iadd, 470, 0, 0, 0) := rfl
set_option maxRecDepth 100000 in
theorem xi_167_470 : xm_ins 167 470 = some (.iaload, 471, 0, 0, 0) := rfl
set_option maxRecDepth 100000 in
theorem xi_167_471 : xm_ins 167 471 = some (.invokevirtual 68, 474, 145, 2, 3) := rfl
set_option maxRecDepth 100000 in
theorem xi_167_474 : xm_ins 167 474 = some (.if_icmp .eq 215, 477, 689, 0, 0) := rfl
set_option maxRecDepth 100000 in
theorem xi_167_477 : xm_ins 167 477 = some (.iconst 0, 478, 0, 0, 0) := rfl
set_option maxRecDepth 100000 in
theorem xi_167_478 : xm_ins 167 478 = some (.ireturn, 479, 0, 0, 0) := rfl
set_option maxRecDepth 100000 in
theorem xi_167_479 : xm_ins 167 479 = some (.aload_n 1, 480, 1, 0, 0) := rfl
set_option maxRecDepth 100000 in
theorem xi_167_480 : xm_ins 167 480 = some (.aload_n 0, 481, 0, 0, 0) := rfl
set_option maxRecDepth 100000 in
theorem xi_167_481 : xm_ins 167 481 = some (.iload_n 3, 482, 3, 0, 0) := rfl
set_option maxRecDepth 100000 in
theorem xi_167_482 : xm_ins 167 482 = some (.iconst 1, 483, 0, 0, 1) := rfl
set_option maxRecDepth 100000 in
theorem xi_167_483 : xm_ins 167 483 = some (.iadd, 484, 0, 0, 0) := rfl
set_option maxRecDepth 100000 in
theorem xi_167_484 : xm_ins 167 484 = some (.iaload, 485, 0, 0, 0) := rfl
set_option maxRecDepth 100000 in
theorem xi_167_485 : xm_ins 167 485 = some (.invokevirtual 69, 488, 69, 2, 2) := rfl
set_option maxRecDepth 100000 in
theorem xi_167_488 : xm_ins 167 488 = some (.aload_n 2, 489, 2, 0, 0) := rfl
set_option maxRecDepth 100000 in
theorem xi_167_489 : xm_ins 167 489 = some (.aload_n 0, 490, 0, 0, 0) := rfl
set_option maxRecDepth 100000 in
theorem xi_167_490 : xm_ins 167 490 = some (.iload_n 3, 491, 3, 0, 0) := rfl
set_option maxRecDepth 100000 in
theorem xi_167_491 : xm_ins 167 491 = some (.iconst 1, 492, 0, 0, 1) := rfl
set_option maxRecDepth 100000 in
theorem xi_167_492 : xm_ins 167 492 = some (.iadd, 493, 0, 0, 0) := rfl
set_option maxRecDepth 100000 in
theorem xi_167_493 : xm_ins 167 493 = some (.iaload, 494, 0, 0, 0) := rfl
set_option maxRecDepth 100000 in
theorem xi_167_494 : xm_ins 167 494 = some (.invokevirtual 72, 497, 146, 2, 3) := rfl
set_option maxRecDepth 100000 in
theorem xi_167_497 : xm_ins 167 497 = some (.if_icmp .eq 192, 500, 689, 0, 0) := rfl
set_option maxRecDepth 100000 in
theorem xi_167_500 : xm_ins 167 500 = some (.iconst 0, 501, 0, 0, 0) := rfl
set_option maxRecDepth 100000 in
theorem xi_167_501 : xm_ins 167 501 = some (.ireturn, 502, 0, 0, 0) := rfl
set_option maxRecDepth 100000 in
theorem xi_167_502 : xm_ins 167 502 = some (.aload_n 1, 503, 1, 0, 0) := rfl
set_option maxRecDepth 100000 in
theorem xi_167_503 : xm_ins 167 503 = some (.aload_n 0, 504, 0, 0, 0) := rfl
set_option maxRecDepth 100000 in
theorem xi_167_504 : xm_ins 167 504 = some (.iload_n 3, 505, 3, 0, 0) := rfl
set_option maxRecDepth 100000 in
theorem xi_167_505 : xm_ins 167 505 = some (.iconst 1, 506, 0, 0, 1) := rfl
set_option maxRecDepth 100000 in
theorem xi_167_506 : xm_ins 167 506 = some (.iadd, 507, 0, 0, 0) := rfl
set_option maxRecDepth 100000 in
theorem xi_167_507 : xm_ins 167 507 = some (.iaload, 508, 0, 0, 0) := rfl
set_option maxRecDepth 100000 in
theorem xi_167_508 : xm_ins 167 508 = some (.aload_n 0, 509, 0, 0, 0) := rfl
set_option maxRecDepth 100000 in
theorem xi_167_509 : xm_ins 167 509 = some (.iload_n 3, 510, 3, 0, 0) := rfl
set_option maxRecDepth 100000 in
theorem xi_167_510 : xm_ins 167 510 = some (.iconst 2, 511, 0, 0, 2) := rfl
set_option maxRecDepth 100000 in
theorem xi_167_511 : xm_ins 167 511 = some (.iadd, 512, 0, 0, 0) := rfl
set_option maxRecDepth 100000 in
theorem xi_167_512 : xm_ins 167 512 = some (.iaload, 513, 0, 0, 0) := rfl
set_option maxRecDepth 100000 in
theorem xi_167_513 : xm_ins 167 513 = some (.invokevirtual 73, 516, 70, 3, 2) := rfl
set_option maxRecDepth 100000 in
theorem xi_167_516 : xm_ins 167 516 = some (.aload_n 2, 517, 2, 0, 0) := rfl
set_option maxRecDepth 100000 in
theorem xi_167_517 : xm_ins 167 517 = some (.aload_n 0, 518, 0, 0, 0) := rfl
set_option maxRecDepth 100000 in
theorem xi_167_518 : xm_ins 167 518 = some (.iload_n 3, 519, 3, 0, 0) := rfl
set_option maxRecDepth 100000 in
theorem xi_167_519 : xm_ins 167 519 = some (.iconst 1, 520, 0, 0, 1) := rfl
set_option maxRecDepth 100000 in
theorem xi_167_520 : xm_ins 167 520 = some (.iadd, 521, 0, 0, 0) := rfl
set_option maxRecDepth 100000 in
theorem xi_167_521 : xm_ins 167 521 = some (.iaload, 522, 0, 0, 0) := rfl
set_option maxRecDepth 100000 in
theorem xi_167_522 : xm_ins 167 522 = some (.aload_n 0, 523, 0, 0, 0) := rfl
set_option maxRecDepth 100000 in
theorem xi_167_523 : xm_ins 167 523 = some (.iload_n 3, 524, 3, 0, 0) := rfl
set_option maxRecDepth 100000 in
theorem xi_167_524 : xm_ins 167 524 = some (.iconst 2, 525, 0, 0, 2) := rfl
set_option maxRecDepth 100000 in
theorem xi_167_525 : xm_ins 167 525 = some (.iadd, 526, 0, 0, 0) := rfl
set_option maxRecDepth 100000 in
theorem xi_167_526 : xm_ins 167 526 = some (.iaload, 527, 0, 0, 0) := rfl
set_option maxRecDepth 100000 in
theorem xi_167_527 : xm_ins 167 527 = some (.invokevirtual 76, 530, 147, 3, 3) := rfl
set_option maxRecDepth 100000 in
theorem xi_167_530 : xm_ins 167 530 = some (.if_icmp .eq 159, 533, 689, 0, 0) := rfl
set_option maxRecDepth 100000 in
theorem xi_167_533 : xm_ins 167 533 = some (.iconst 0, 534, 0, 0, 0) := rfl
set_option maxRecDepth 100000 in
theorem xi_167_534 : xm_ins 167 534 = some (.ireturn, 535, 0, 0, 0) := rfl
set_option maxRecDepth 100000 in
theorem xi_167_535 : xm_ins 167 535 = some (.aload_n 1, 536, 1, 0, 0) := rfl
set_option maxRecDepth 100000 in
theorem xi_167_536 : xm_ins 167 536 = some (.aload_n 0, 537, 0, 0, 0) := rfl
set_option maxRecDepth 100000 in
theorem xi_167_537 : xm_ins 167 537 = some (.iload_n 3, 538, 3, 0, 0) := rfl
set_option maxRecDepth 100000 in
theorem xi_167_538 : xm_ins 167 538 = some (.iconst 1, 539, 0, 0, 1) := rfl
set_option maxRecDepth 100000 in
theorem xi_167_539 : xm_ins 167 539 = some (.iadd, 540, 0, 0, 0) := rfl
set_option maxRecDepth 100000 in
theorem xi_167_540 : xm_ins 167 540 = some (.iaload, 541, 0, 0, 0) := rfl
set_option maxRecDepth 100000 in
theorem xi_167_541 : xm_ins 167 541 = some (.invokevirtual 77, 544, 71, 2, 2) := rfl
set_option maxRecDepth 100000 in
theorem xi_167_544 : xm_ins 167 544 = some (.aload_n 2, 545, 2, 0, 0) := rfl
set_option maxRecDepth 100000 in
theorem xi_167_545 : xm_ins 167 545 = some (.aload_n 0, 546, 0, 0, 0) := rfl
set_option maxRecDepth 100000 in
theorem xi_167_546 : xm_ins 167 546 = some (.iload_n 3, 547, 3, 0, 0) := rfl
set_option maxRecDepth 100000 in
theorem xi_167_547 : xm_ins 167 547 = some (.iconst 1, 548, 0, 0, 1) := rfl
set_option maxRecDepth 100000 in
theorem xi_167_548 : xm_ins 167 548 = some (.iadd, 549, 0, 0, 0) := rfl
set_option maxRecDepth 100000 in
theorem xi_167_549 : xm_ins 167 549 = some (.iaload, 550, 0, 0, 0) := rfl
set_option maxRecDepth 100000 in
theorem xi_167_550 : xm_ins 167 550 = some (.invokevirtual 80, 553, 148, 2, 3) := rfl
set_option maxRecDepth 100000 in
theorem xi_167_553 : xm_ins 167 553 = some (.if_icmp .eq 136, 556, 689, 0, 0) := rfl
set_option maxRecDepth 100000 in
theorem xi_167_556 : xm_ins 167 556 = some (.iconst 0, 557, 0, 0, 0) := rfl
set_option maxRecDepth 100000 in
theorem xi_167_557 : xm_ins 167 557 = some (.ireturn, 558, 0, 0, 0) := rfl
set_option maxRecDepth 100000 in
theorem xi_167_558 : xm_ins 167 558 = some (.aload_n 1, 559, 1, 0, 0) := rfl
set_option maxRecDepth 100000 in
theorem xi_167_559 : xm_ins 167 559 = some (.aload_n 0, 560, 0, 0, 0) := rfl
set_option maxRecDepth 100000 in
theorem xi_167_560 : xm_ins 167 560 = some (.iload_n 3, 561, 3, 0, 0) := rfl
set_option maxRecDepth 100000 in
theorem xi_167_561 : xm_ins 167 561 = some (.iconst 1, 562, 0, 0, 1) := rfl
set_option maxRecDepth 100000 in
theorem xi_167_562 : xm_ins 167 562 = some (.iadd, 563, 0, 0, 0) := rfl
set_option maxRecDepth 100000 in
theorem xi_167_563 : xm_ins 167 563 = some (.iaload, 564, 0, 0, 0) := rfl
set_option maxRecDepth 100000 in
theorem xi_167_564 : xm_ins 167 564 = some (.invokevirtual 81, 567, 72, 2, 2) := rfl
set_option maxRecDepth 100000 in
theorem xi_167_567 : xm_ins 167 567 = some (.aload_n 2, 568, 2, 0, 0) := rfl
set_option maxRecDepth 100000 in
theorem xi_167_568 : xm_ins 167 568 = some (.aload_n 0, 569, 0, 0, 0) := rfl
set_option maxRecDepth 100000 in
theorem xi_167_569 : xm_ins 167 569 = some (.iload_n 3, 570, 3, 0, 0) := rfl
set_option maxRecDepth 100000 in
theorem xi_167_570 : xm_ins 167 570 = some (.iconst 1, 571, 0, 0, 1) := rfl
set_option maxRecDepth 100000 in
theorem xi_167_571 : xm_ins 167 571 = some (.iadd, 572, 0, 0, 0) := rfl
set_option maxRecDepth 100000 in
theorem xi_167_572 : xm_ins 167 572 = some (.iaload, 573, 0, 0, 0) := rfl
set_option maxRecDepth 100000 in
theorem xi_167_573 : xm_ins 167 573 = some (.invokevirtual 84, 576, 149, 2, 3) := rfl
set_option maxRecDepth 100000 in
theorem xi_167_576 : xm_ins 167 576 = some (.if_icmp .eq 113, 579, 689, 0, 0) := rfl
set_option maxRecDepth 100000 in
theorem xi_167_579 : xm_ins 167 579 = some (.iconst 0, 580, 0, 0, 0) := rfl
set_option maxRecDepth 100000 in
theorem xi_167_580 : xm_ins 167 580 = some (.ireturn, 581, 0, 0, 0) := rfl
set_option maxRecDepth 100000 in
theorem xi_167_581 : xm_ins 167 581 = some (.aload_n 1, 582, 1, 0, 0) := rfl
set_option maxRecDepth 100000 in
theorem xi_167_582 : xm_ins 167 582 = some (.aload_n 0, 583, 0, 0, 0) := rfl
set_option maxRecDepth 100000 in
theorem xi_167_583 : xm_ins 167 583 = some (.iload_n 3, 584, 3, 0, 0) := rfl
set_option maxRecDepth 100000 in
theorem xi_167_584 : xm_ins 167 584 = some (.iconst 1, 585, 0, 0, 1) := rfl
set_option maxRecDepth 100000 in
theorem xi_167_585 : xm_ins 167 585 = some (.iadd, 586, 0, 0, 0) := rfl
set_option maxRecDepth 100000 in
theorem xi_167_586 : xm_ins 167 586 = some (.iaload, 587, 0, 0, 0) := rfl
set_option maxRecDepth 100000 in
theorem xi_167_587 : xm_ins 167 587 = some (.invokevirtual 85, 590, 73, 2, 2) := rfl
set_option maxRecDepth 100000 in
theorem xi_167_590 : xm_ins 167 590 = some (.aload_n 2, 591, 2, 0, 0) := rfl
set_option maxRecDepth 100000 in
theorem xi_167_591 : xm_ins 167 591 = some (.aload_n 0, 592, 0, 0, 0) := rfl
set_option maxRecDepth 100000 in
theorem xi_167_592 : xm_ins 167 592 = some (.iload_n 3, 593, 3, 0, 0) := rfl
set_option maxRecDepth 100000 in
theorem xi_167_593 : xm_ins 167 593 = some (.iconst 1, 594, 0, 0, 1) := rfl
set_option maxRecDepth 100000 in
theorem xi_167_594 : xm_ins 167 594 = some (.iadd, 595, 0, 0, 0) := rfl
set_option maxRecDepth 100000 in
theorem xi_167_595 : xm_ins 167 595 = some (.iaload, 596, 0, 0, 0) := rfl
set_option maxRecDepth 100000 in
theorem xi_167_596 : xm_ins 167 596 = some (.invokevirtual 88, 599, 151, 2, 3) := rfl
set_option maxRecDepth 100000 in
theorem xi_167_599 : xm_ins 167 599 = some (.if_icmp .eq 90, 602, 689, 0, 0) := rfl
set_option maxRecDepth 100000 in
theorem xi_167_602 : xm_ins 167 602 = some (.iconst 0, 603, 0, 0, 0) := rfl
set_option maxRecDepth 100000 in
theorem xi_167_603 : xm_ins 167 603 = some (.ireturn, 604, 0, 0, 0) := rfl
set_option maxRecDepth 100000 in
theorem xi_167_604 : xm_ins 167 604 = some (.aload_n 1, 605, 1, 0, 0) := rfl
set_option maxRecDepth 100000 in
theorem xi_167_605 : xm_ins 167 605 = some (.invokevirtual 89, 608, 74, 1, 2) := rfl
set_option maxRecDepth 100000 in
theorem xi_167_608 : xm_ins 167 608 = some (.aload_n 2, 609, 2, 0, 0) := rfl
set_option maxRecDepth 100000 in
theorem xi_167_609 : xm_ins 167 609 = some (.invokevirtual 92, 612, 94, 1, 3) := rfl
set_option maxRecDepth 100000 in
theorem xi_167_612 : xm_ins 167 612 = some (.if_icmp .eq 77, 615, 689, 0, 0) := rfl
set_option maxRecDepth 100000 in
theorem xi_167_615 : xm_ins 167 615 = some (.iconst 0, 616, 0, 0, 0) := rfl
set_option maxRecDepth 100000 in
theorem xi_167_616 : xm_ins 167 616 = some (.ireturn, 617, 0, 0, 0) := rfl
set_option maxRecDepth 100000 in
theorem xi_167_617 : xm_ins 167 617 = some (.aload_n 1, 618, 1, 0, 0) := rfl
set_option maxRecDepth 100000 in
theorem xi_167_618 : xm_ins 167 618 = some (.aload_n 0, 619, 0, 0, 0) := rfl
set_option maxRecDepth 100000 in
theorem xi_167_619 : xm_ins 167 619 = some (.iload_n 3, 620, 3, 0, 0) := rfl
set_option maxRecDepth 100000 in
theorem xi_167_620 : xm_ins 167 620 = some (.iconst 1, 621, 0, 0, 1) := rfl
set_option maxRecDepth 100000 in
theorem xi_167_621 : xm_ins 167 621 = some (.iadd, 622, 0, 0, 0) := rfl
set_option maxRecDepth 100000 in
theorem xi_167_622 : xm_ins 167 622 = some (.iaload, 623, 0, 0, 0) := rfl
set_option maxRecDepth 100000 in
theorem xi_167_623 : xm_ins 167 623 = some (.invokevirtual 93, 626, 75, 2, 2) := rfl
set_option maxRecDepth 100000 in
theorem xi_167_626 : xm_ins 167 626 = some (.aload_n 2, 627, 2, 0, 0) := rfl
set_option maxRecDepth 100000 in
theorem xi_167_627 : xm_ins 167 627 = some (.aload_n 0, 628, 0, 0, 0) := rfl
set_option maxRecDepth 100000 in
theorem xi_167_628 : xm_ins 167 628 = some (.iload_n 3, 629, 3, 0, 0) := rfl
set_option maxRecDepth 100000 in
theorem xi_167_629 : xm_ins 167 629 = some (.iconst 1, 630, 0, 0, 1) := rfl
set_option maxRecDepth 100000 in
theorem xi_167_630 : xm_ins 167 630 = some (.iadd, 631, 0, 0, 0) := rfl
set_option maxRecDepth 100000 in
theorem xi_167_631 : xm_ins 167 631 = some (.iaload, 632, 0, 0, 0) := rfl
set_option maxRecDepth 100000 in
theorem xi_167_632 : xm_ins 167 632 = some (.invokevirtual 96, 635, 152, 2, 3) := rfl
set_option maxRecDepth 100000 in
theorem xi_167_635 : xm_ins 167 635 = some (.if_icmp .eq 54, 638, 689, 0, 0) := rfl
set_option maxRecDepth 100000 in
theorem xi_167_638 : xm_ins 167 638 = some (.iconst 0, 639, 0, 0, 0) := rfl
set_option maxRecDepth 100000 in
theorem xi_167_639 : xm_ins 167 639 = some (.ireturn, 640, 0, 0, 0) := rfl
set_option maxRecDepth 100000 in
theorem xi_167_640 : xm_ins 167 640 = some (.aload_n 1, 641, 1, 0, 0) := rfl
set_option maxRecDepth 100000 in
theorem xi_167_641 : xm_ins 167 641 = some (.invokevirtual 97, 644, 76, 1, 2) := rfl
set_option maxRecDepth 100000 in
theorem xi_167_644 : xm_ins 167 644 = some (.aload_n 2, 645, 2, 0, 0) := rfl
set_option maxRecDepth 100000 in
theorem xi_167_645 : xm_ins 167 645 = some (.invokevirtual 100, 648, 153, 1, 3) := rfl
set_option maxRecDepth 100000 in
theorem xi_167_648 : xm_ins 167 648 = some (.if_icmp .eq 41, 651, 689, 0, 0) := rfl
set_option maxRecDepth 100000 in
theorem xi_167_651 : xm_ins 167 651 = some (.iconst 0, 652, 0, 0, 0) := rfl
set_option maxRecDepth 100000 in
theorem xi_167_652 : xm_ins 167 652 = some (.ireturn, 653, 0, 0, 0) := rfl
set_option maxRecDepth 100000 in
theorem xi_167_653 : xm_ins 167 653 = some (.aload_n 1, 654, 1, 0, 0) := rfl
set_option maxRecDepth 100000 in
theorem xi_167_654 : xm_ins 167 654 = some (.aload_n 0, 655, 0, 0, 0) := rfl
set_option maxRecDepth 100000 in
theorem xi_167_655 : xm_ins 167 655 = some (.iload_n 3, 656, 3, 0, 0) := rfl
set_option maxRecDepth 100000 in
theorem xi_167_656 : xm_ins 167 656 = some (.iconst 1, 657, 0, 0, 1) := rfl
set_option maxRecDepth 100000 in
theorem xi_167_657 : xm_ins 167 657 = some (.iadd, 658, 0, 0, 0) := rfl
set_option maxRecDepth 100000 in
theorem xi_167_658 : xm_ins 167 658 = some (.iaload, 659, 0, 0, 0) := rfl
set_option maxRecDepth 100000 in
theorem xi_167_659 : xm_ins 167 659 = some (.invokevirtual 101, 662, 77, 2, 2) := rfl
set_option maxRecDepth 100000 in
theorem xi_167_662 : xm_ins 167 662 = some (.aload_n 2, 663, 2, 0, 0) := rfl
set_option maxRecDepth 100000 in
theorem xi_167_663 : xm_ins 167 663 = some (.aload_n 0, 664, 0, 0, 0) := rfl
set_option maxRecDepth 100000 in
theorem xi_167_664 : xm_ins 167 664 = some (.iload_n 3, 665, 3, 0, 0) := rfl
set_option maxRecDepth 100000 in
theorem xi_167_665 : xm_ins 167 665 = some (.iconst 1, 666, 0, 0, 1) := rfl
set_option maxRecDepth 100000 in
theorem xi_167_666 : xm_ins 167 666 = some (.iadd, 667, 0, 0, 0) := rfl
set_option maxRecDepth 100000 in
theorem xi_167_667 : xm_ins 167 667 = some (.iaload, 668, 0, 0, 0) := rfl
set_option maxRecDepth 100000 in
theorem xi_167_668 : xm_ins 167 668 = some (.invokevirtual 104, 671, 164, 2, 3) := rfl
set_option maxRecDepth 100000 in
theorem xi_167_671 : xm_ins 167 671 = some (.if_icmp .eq 18, 674, 689, 0, 0) := rfl
set_option maxRecDepth 100000 in
theorem xi_167_674 : xm_ins 167 674 = some (.iconst 0, 675, 0, 0, 0) := rfl
set_option maxRecDepth 100000 in
theorem xi_167_675 : xm_ins 167 675 = some (.ireturn, 676, 0, 0, 0) := rfl
set_option maxRecDepth 100000 in
theorem xi_167_676 : xm_ins 167 676 = some (.aload_n 1, 677, 1, 0, 0) := rfl
set_option maxRecDepth 100000 in
theorem xi_167_677 : xm_ins 167 677 = some (.invokevirtual 105, 680, 78, 1, 2) := rfl
set_option maxRecDepth 100000 in
theorem xi_167_680 : xm_ins 167 680 = some (.aload_n 2, 681, 2, 0, 0) := rfl
set_option maxRecDepth 100000 in
theorem xi_167_681 : xm_ins 167 681 = some (.invokevirtual 108, 684, 165, 1, 3) := rfl
set_option maxRecDepth 100000 in
theorem xi_167_684 : xm_ins 167 684 = some (.if_icmp .eq 5, 687, 689, 0, 0) := rfl
set_option maxRecDepth 100000 in
theorem xi_167_687 : xm_ins 167 687 = some (.iconst 0, 688, 0, 0, 0) := rfl
set_option maxRecDepth 100000 in
theorem xi_167_688 : xm_ins 167 688 = some (.ireturn, 689, 0, 0, 0) := rfl
set_option maxRecDepth 100000 in
theorem xi_167_689 : xm_ins 167 689 = some (.iinc 3 4, 692, 3, 0, 4) := rfl
set_option maxRecDepth 100000 in
theorem xi_167_692 : xm_ins 167 692 = some (.goto (-674), 695, 18, 0, 0) := rfl
set_option maxRecDepth 100000 in
theorem xi_167_695 : xm_ins 167 695 = some (.iconst 1, 696, 0, 0, 1) := rfl
set_option maxRecDepth 100000 in
theorem xi_167_696 : xm_ins 167 696 = some (.ireturn, 697, 0, 0, 0) := rfl
