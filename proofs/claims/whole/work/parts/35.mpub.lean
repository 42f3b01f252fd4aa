theorem d_M_area_0 : decode b_M_area 0 = .ok (.aload_n 0, 1) := by decide +kernel
theorem d_M_area_1 : decode b_M_area 1 = .ok (.iconst 0, 1) := by decide +kernel
theorem d_M_area_2 : decode b_M_area 2 = .ok (.putfield 40, 3) := by decide +kernel
theorem d_M_area_5 : decode b_M_area 5 = .ok (.lload_n 1, 1) := by decide +kernel
theorem d_M_area_6 : decode b_M_area 6 = .ok (.lconst 0, 1) := by decide +kernel
theorem d_M_area_7 : decode b_M_area 7 = .ok (.ldc2_w 50, 3) := by decide +kernel
theorem d_M_area_10 : decode b_M_area 10 = .ok (.invokestatic 52, 3) := by decide +kernel
theorem d_M_area_13 : decode b_M_area 13 = .ok (.ifCond .eq 15, 3) := by decide +kernel
theorem d_M_area_16 : decode b_M_area 16 = .ok (.iload_n 3, 1) := by decide +kernel
theorem d_M_area_17 : decode b_M_area 17 = .ok (.i2l, 1) := by decide +kernel
theorem d_M_area_18 : decode b_M_area 18 = .ok (.lconst 0, 1) := by decide +kernel
theorem d_M_area_19 : decode b_M_area 19 = .ok (.ldc2_w 56, 3) := by decide +kernel
theorem d_M_area_22 : decode b_M_area 22 = .ok (.invokestatic 52, 3) := by decide +kernel
theorem d_M_area_25 : decode b_M_area 25 = .ok (.ifCond .ne 6, 3) := by decide +kernel
theorem d_M_area_28 : decode b_M_area 28 = .ok (.bipush (-12), 2) := by decide +kernel
theorem d_M_area_30 : decode b_M_area 30 = .ok (.ireturn, 1) := by decide +kernel
theorem d_M_area_31 : decode b_M_area 31 = .ok (.aload_n 0, 1) := by decide +kernel
theorem d_M_area_32 : decode b_M_area 32 = .ok (.getfield 36, 3) := by decide +kernel
theorem d_M_area_35 : decode b_M_area 35 = .ok (.bipush 30, 2) := by decide +kernel
theorem d_M_area_37 : decode b_M_area 37 = .ok (.if_icmp .ne 6, 3) := by decide +kernel
theorem d_M_area_40 : decode b_M_area 40 = .ok (.bipush (-14), 2) := by decide +kernel
theorem d_M_area_42 : decode b_M_area 42 = .ok (.ireturn, 1) := by decide +kernel
theorem d_M_area_43 : decode b_M_area 43 = .ok (.aload_n 0, 1) := by decide +kernel
theorem d_M_area_44 : decode b_M_area 44 = .ok (.getfield 7, 3) := by decide +kernel
theorem d_M_area_47 : decode b_M_area 47 = .ok (.aload_n 0, 1) := by decide +kernel
theorem d_M_area_48 : decode b_M_area 48 = .ok (.getfield 36, 3) := by decide +kernel
theorem d_M_area_51 : decode b_M_area 51 = .ok (.lload_n 1, 1) := by decide +kernel
theorem d_M_area_52 : decode b_M_area 52 = .ok (.lastore, 1) := by decide +kernel
theorem d_M_area_53 : decode b_M_area 53 = .ok (.aload_n 0, 1) := by decide +kernel
theorem d_M_area_54 : decode b_M_area 54 = .ok (.getfield 13, 3) := by decide +kernel
theorem d_M_area_57 : decode b_M_area 57 = .ok (.aload_n 0, 1) := by decide +kernel
theorem d_M_area_58 : decode b_M_area 58 = .ok (.getfield 36, 3) := by decide +kernel
theorem d_M_area_61 : decode b_M_area 61 = .ok (.iload_n 3, 1) := by decide +kernel
theorem d_M_area_62 : decode b_M_area 62 = .ok (.iastore, 1) := by decide +kernel
theorem d_M_area_63 : decode b_M_area 63 = .ok (.aload_n 0, 1) := by decide +kernel
theorem d_M_area_64 : decode b_M_area 64 = .ok (.dup, 1) := by decide +kernel
theorem d_M_area_65 : decode b_M_area 65 = .ok (.getfield 36, 3) := by decide +kernel
theorem d_M_area_68 : decode b_M_area 68 = .ok (.iconst 1, 1) := by decide +kernel
theorem d_M_area_69 : decode b_M_area 69 = .ok (.iadd, 1) := by decide +kernel
theorem d_M_area_70 : decode b_M_area 70 = .ok (.putfield 36, 3) := by decide +kernel
theorem d_M_area_73 : decode b_M_area 73 = .ok (.aload_n 0, 1) := by decide +kernel
theorem d_M_area_74 : decode b_M_area 74 = .ok (.invokevirtual 58, 3) := by decide +kernel
theorem d_M_area_77 : decode b_M_area 77 = .ok (.aload_n 0, 1) := by decide +kernel
theorem d_M_area_78 : decode b_M_area 78 = .ok (.getfield 36, 3) := by decide +kernel
theorem d_M_area_81 : decode b_M_area 81 = .ok (.ireturn, 1) := by decide +kernel
theorem d_M_joined_0 : decode b_M_joined 0 = .ok (.aload_n 0, 1) := by decide +kernel
theorem d_M_joined_1 : decode b_M_joined 1 = .ok (.iconst 0, 1) := by decide +kernel
theorem d_M_joined_2 : decode b_M_joined 2 = .ok (.putfield 40, 3) := by decide +kernel
theorem d_M_joined_5 : decode b_M_joined 5 = .ok (.aload_n 0, 1) := by decide +kernel
theorem d_M_joined_6 : decode b_M_joined 6 = .ok (.iload_n 1, 1) := by decide +kernel
theorem d_M_joined_7 : decode b_M_joined 7 = .ok (.invokevirtual 61, 3) := by decide +kernel
theorem d_M_joined_10 : decode b_M_joined 10 = .ok (.ifCond .eq 16, 3) := by decide +kernel
theorem d_M_joined_13 : decode b_M_joined 13 = .ok (.aload_n 0, 1) := by decide +kernel
theorem d_M_joined_14 : decode b_M_joined 14 = .ok (.iload_n 2, 1) := by decide +kernel
theorem d_M_joined_15 : decode b_M_joined 15 = .ok (.invokevirtual 61, 3) := by decide +kernel
theorem d_M_joined_18 : decode b_M_joined 18 = .ok (.ifCond .eq 8, 3) := by decide +kernel
theorem d_M_joined_21 : decode b_M_joined 21 = .ok (.iload_n 1, 1) := by decide +kernel
theorem d_M_joined_22 : decode b_M_joined 22 = .ok (.iload_n 2, 1) := by decide +kernel
theorem d_M_joined_23 : decode b_M_joined 23 = .ok (.if_icmp .ne 5, 3) := by decide +kernel
theorem d_M_joined_26 : decode b_M_joined 26 = .ok (.iconst 0, 1) := by decide +kernel
theorem d_M_joined_27 : decode b_M_joined 27 = .ok (.ireturn, 1) := by decide +kernel
theorem d_M_joined_28 : decode b_M_joined 28 = .ok (.aload_n 0, 1) := by decide +kernel
theorem d_M_joined_29 : decode b_M_joined 29 = .ok (.getfield 17, 3) := by decide +kernel
theorem d_M_joined_32 : decode b_M_joined 32 = .ok (.bipush 30, 2) := by decide +kernel
theorem d_M_joined_34 : decode b_M_joined 34 = .ok (.iload_n 1, 1) := by decide +kernel
theorem d_M_joined_35 : decode b_M_joined 35 = .ok (.iconst 1, 1) := by decide +kernel
theorem d_M_joined_36 : decode b_M_joined 36 = .ok (.isub, 1) := by decide +kernel
theorem d_M_joined_37 : decode b_M_joined 37 = .ok (.imul, 1) := by decide +kernel
theorem d_M_joined_38 : decode b_M_joined 38 = .ok (.iload_n 2, 1) := by decide +kernel
theorem d_M_joined_39 : decode b_M_joined 39 = .ok (.iadd, 1) := by decide +kernel
theorem d_M_joined_40 : decode b_M_joined 40 = .ok (.iconst 1, 1) := by decide +kernel
theorem d_M_joined_41 : decode b_M_joined 41 = .ok (.isub, 1) := by decide +kernel
theorem d_M_joined_42 : decode b_M_joined 42 = .ok (.baload, 1) := by decide +kernel
theorem d_M_joined_43 : decode b_M_joined 43 = .ok (.iload_n 3, 1) := by decide +kernel
theorem d_M_joined_44 : decode b_M_joined 44 = .ok (.if_icmp .ne 55, 3) := by decide +kernel
theorem d_M_joined_47 : decode b_M_joined 47 = .ok (.aload_n 0, 1) := by decide +kernel
theorem d_M_joined_48 : decode b_M_joined 48 = .ok (.getfield 17, 3) := by decide +kernel
theorem d_M_joined_51 : decode b_M_joined 51 = .ok (.bipush 30, 2) := by decide +kernel
theorem d_M_joined_53 : decode b_M_joined 53 = .ok (.iload_n 1, 1) := by decide +kernel
theorem d_M_joined_54 : decode b_M_joined 54 = .ok (.iconst 1, 1) := by decide +kernel
theorem d_M_joined_55 : decode b_M_joined 55 = .ok (.isub, 1) := by decide +kernel
theorem d_M_joined_56 : decode b_M_joined 56 = .ok (.imul, 1) := by decide +kernel
theorem d_M_joined_57 : decode b_M_joined 57 = .ok (.iload_n 2, 1) := by decide +kernel
theorem d_M_joined_58 : decode b_M_joined 58 = .ok (.iadd, 1) := by decide +kernel
theorem d_M_joined_59 : decode b_M_joined 59 = .ok (.iconst 1, 1) := by decide +kernel
theorem d_M_joined_60 : decode b_M_joined 60 = .ok (.isub, 1) := by decide +kernel
theorem d_M_joined_61 : decode b_M_joined 61 = .ok (.iload_n 3, 1) := by decide +kernel
theorem d_M_joined_62 : decode b_M_joined 62 = .ok (.ifCond .ne 7, 3) := by decide +kernel
theorem d_M_joined_65 : decode b_M_joined 65 = .ok (.iconst 1, 1) := by decide +kernel
theorem d_M_joined_66 : decode b_M_joined 66 = .ok (.goto 4, 3) := by decide +kernel
theorem d_M_joined_69 : decode b_M_joined 69 = .ok (.iconst 0, 1) := by decide +kernel
theorem d_M_joined_70 : decode b_M_joined 70 = .ok (.bastore, 1) := by decide +kernel
theorem d_M_joined_71 : decode b_M_joined 71 = .ok (.aload_n 0, 1) := by decide +kernel
theorem d_M_joined_72 : decode b_M_joined 72 = .ok (.getfield 17, 3) := by decide +kernel
theorem d_M_joined_75 : decode b_M_joined 75 = .ok (.bipush 30, 2) := by decide +kernel
theorem d_M_joined_77 : decode b_M_joined 77 = .ok (.iload_n 2, 1) := by decide +kernel
theorem d_M_joined_78 : decode b_M_joined 78 = .ok (.iconst 1, 1) := by decide +kernel
theorem d_M_joined_79 : decode b_M_joined 79 = .ok (.isub, 1) := by decide +kernel
theorem d_M_joined_80 : decode b_M_joined 80 = .ok (.imul, 1) := by decide +kernel
theorem d_M_joined_81 : decode b_M_joined 81 = .ok (.iload_n 1, 1) := by decide +kernel
theorem d_M_joined_82 : decode b_M_joined 82 = .ok (.iadd, 1) := by decide +kernel
theorem d_M_joined_83 : decode b_M_joined 83 = .ok (.iconst 1, 1) := by decide +kernel
theorem d_M_joined_84 : decode b_M_joined 84 = .ok (.isub, 1) := by decide +kernel
theorem d_M_joined_85 : decode b_M_joined 85 = .ok (.iload_n 3, 1) := by decide +kernel
theorem d_M_joined_86 : decode b_M_joined 86 = .ok (.ifCond .ne 7, 3) := by decide +kernel
theorem d_M_joined_89 : decode b_M_joined 89 = .ok (.iconst 1, 1) := by decide +kernel
theorem d_M_joined_90 : decode b_M_joined 90 = .ok (.goto 4, 3) := by decide +kernel
theorem d_M_joined_93 : decode b_M_joined 93 = .ok (.iconst 0, 1) := by decide +kernel
theorem d_M_joined_94 : decode b_M_joined 94 = .ok (.bastore, 1) := by decide +kernel
theorem d_M_joined_95 : decode b_M_joined 95 = .ok (.aload_n 0, 1) := by decide +kernel
theorem d_M_joined_96 : decode b_M_joined 96 = .ok (.invokevirtual 58, 3) := by decide +kernel
theorem d_M_joined_99 : decode b_M_joined 99 = .ok (.iload_n 3, 1) := by decide +kernel
theorem d_M_joined_100 : decode b_M_joined 100 = .ok (.ifCond .ne 7, 3) := by decide +kernel
theorem d_M_joined_103 : decode b_M_joined 103 = .ok (.iconst 1, 1) := by decide +kernel
theorem d_M_joined_104 : decode b_M_joined 104 = .ok (.goto 4, 3) := by decide +kernel
theorem d_M_joined_107 : decode b_M_joined 107 = .ok (.iconst 0, 1) := by decide +kernel
theorem d_M_joined_108 : decode b_M_joined 108 = .ok (.ireturn, 1) := by decide +kernel
theorem d_M_carrier_0 : decode b_M_carrier 0 = .ok (.aload_n 0, 1) := by decide +kernel
theorem d_M_carrier_1 : decode b_M_carrier 1 = .ok (.iconst 0, 1) := by decide +kernel
theorem d_M_carrier_2 : decode b_M_carrier 2 = .ok (.putfield 40, 3) := by decide +kernel
theorem d_M_carrier_5 : decode b_M_carrier 5 = .ok (.iload_n 1, 1) := by decide +kernel
theorem d_M_carrier_6 : decode b_M_carrier 6 = .ok (.i2l, 1) := by decide +kernel
theorem d_M_carrier_7 : decode b_M_carrier 7 = .ok (.lconst 0, 1) := by decide +kernel
theorem d_M_carrier_8 : decode b_M_carrier 8 = .ok (.ldc2_w 56, 3) := by decide +kernel
theorem d_M_carrier_11 : decode b_M_carrier 11 = .ok (.invokestatic 52, 3) := by decide +kernel
theorem d_M_carrier_14 : decode b_M_carrier 14 = .ok (.ifCond .eq 14, 3) := by decide +kernel
theorem d_M_carrier_17 : decode b_M_carrier 17 = .ok (.lload_n 2, 1) := by decide +kernel
theorem d_M_carrier_18 : decode b_M_carrier 18 = .ok (.lconst 0, 1) := by decide +kernel
theorem d_M_carrier_19 : decode b_M_carrier 19 = .ok (.ldc2_w 65, 3) := by decide +kernel
theorem d_M_carrier_22 : decode b_M_carrier 22 = .ok (.invokestatic 52, 3) := by decide +kernel
theorem d_M_carrier_25 : decode b_M_carrier 25 = .ok (.ifCond .ne 6, 3) := by decide +kernel
theorem d_M_carrier_28 : decode b_M_carrier 28 = .ok (.bipush (-12), 2) := by decide +kernel
theorem d_M_carrier_30 : decode b_M_carrier 30 = .ok (.ireturn, 1) := by decide +kernel
theorem d_M_carrier_31 : decode b_M_carrier 31 = .ok (.aload_n 0, 1) := by decide +kernel
theorem d_M_carrier_32 : decode b_M_carrier 32 = .ok (.getfield 24, 3) := by decide +kernel
theorem d_M_carrier_35 : decode b_M_carrier 35 = .ok (.iload_n 1, 1) := by decide +kernel
theorem d_M_carrier_36 : decode b_M_carrier 36 = .ok (.laload, 1) := by decide +kernel
theorem d_M_carrier_37 : decode b_M_carrier 37 = .ok (.lstore 4, 2) := by decide +kernel
theorem d_M_carrier_39 : decode b_M_carrier 39 = .ok (.aload_n 0, 1) := by decide +kernel
theorem d_M_carrier_40 : decode b_M_carrier 40 = .ok (.getfield 24, 3) := by decide +kernel
theorem d_M_carrier_43 : decode b_M_carrier 43 = .ok (.iload_n 1, 1) := by decide +kernel
theorem d_M_carrier_44 : decode b_M_carrier 44 = .ok (.lload_n 2, 1) := by decide +kernel
theorem d_M_carrier_45 : decode b_M_carrier 45 = .ok (.lastore, 1) := by decide +kernel
theorem d_M_carrier_46 : decode b_M_carrier 46 = .ok (.lload 4, 2) := by decide +kernel
theorem d_M_carrier_48 : decode b_M_carrier 48 = .ok (.lload_n 2, 1) := by decide +kernel
theorem d_M_carrier_49 : decode b_M_carrier 49 = .ok (.lcmp, 1) := by decide +kernel
theorem d_M_carrier_50 : decode b_M_carrier 50 = .ok (.ifCond .eq 7, 3) := by decide +kernel
theorem d_M_carrier_53 : decode b_M_carrier 53 = .ok (.aload_n 0, 1) := by decide +kernel
theorem d_M_carrier_54 : decode b_M_carrier 54 = .ok (.invokevirtual 58, 3) := by decide +kernel
theorem d_M_carrier_57 : decode b_M_carrier 57 = .ok (.lload 4, 2) := by decide +kernel
theorem d_M_carrier_59 : decode b_M_carrier 59 = .ok (.l2i, 1) := by decide +kernel
theorem d_M_carrier_60 : decode b_M_carrier 60 = .ok (.ireturn, 1) := by decide +kernel
theorem d_M_know_0 : decode b_M_know 0 = .ok (.aload_n 0, 1) := by decide +kernel
theorem d_M_know_1 : decode b_M_know 1 = .ok (.iconst 0, 1) := by decide +kernel
theorem d_M_know_2 : decode b_M_know 2 = .ok (.putfield 40, 3) := by decide +kernel
theorem d_M_know_5 : decode b_M_know 5 = .ok (.aload_n 0, 1) := by decide +kernel
theorem d_M_know_6 : decode b_M_know 6 = .ok (.iload_n 2, 1) := by decide +kernel
theorem d_M_know_7 : decode b_M_know 7 = .ok (.invokevirtual 61, 3) := by decide +kernel
theorem d_M_know_10 : decode b_M_know 10 = .ok (.ifCond .ne 6, 3) := by decide +kernel
theorem d_M_know_13 : decode b_M_know 13 = .ok (.bipush (-11), 2) := by decide +kernel
theorem d_M_know_15 : decode b_M_know 15 = .ok (.ireturn, 1) := by decide +kernel
theorem d_M_know_16 : decode b_M_know 16 = .ok (.iload_n 1, 1) := by decide +kernel
theorem d_M_know_17 : decode b_M_know 17 = .ok (.i2l, 1) := by decide +kernel
theorem d_M_know_18 : decode b_M_know 18 = .ok (.lconst 0, 1) := by decide +kernel
theorem d_M_know_19 : decode b_M_know 19 = .ok (.ldc2_w 56, 3) := by decide +kernel
theorem d_M_know_22 : decode b_M_know 22 = .ok (.invokestatic 52, 3) := by decide +kernel
theorem d_M_know_25 : decode b_M_know 25 = .ok (.ifCond .ne 6, 3) := by decide +kernel
theorem d_M_know_28 : decode b_M_know 28 = .ok (.bipush (-12), 2) := by decide +kernel
theorem d_M_know_30 : decode b_M_know 30 = .ok (.ireturn, 1) := by decide +kernel
theorem d_M_know_31 : decode b_M_know 31 = .ok (.bipush 30, 2) := by decide +kernel
theorem d_M_know_33 : decode b_M_know 33 = .ok (.iload_n 1, 1) := by decide +kernel
theorem d_M_know_34 : decode b_M_know 34 = .ok (.imul, 1) := by decide +kernel
theorem d_M_know_35 : decode b_M_know 35 = .ok (.iload_n 2, 1) := by decide +kernel
theorem d_M_know_36 : decode b_M_know 36 = .ok (.iadd, 1) := by decide +kernel
theorem d_M_know_37 : decode b_M_know 37 = .ok (.iconst 1, 1) := by decide +kernel
theorem d_M_know_38 : decode b_M_know 38 = .ok (.isub, 1) := by decide +kernel
theorem d_M_know_39 : decode b_M_know 39 = .ok (.istore_n 3, 1) := by decide +kernel
theorem d_M_know_40 : decode b_M_know 40 = .ok (.aload_n 0, 1) := by decide +kernel
theorem d_M_know_41 : decode b_M_know 41 = .ok (.getfield 21, 3) := by decide +kernel
theorem d_M_know_44 : decode b_M_know 44 = .ok (.iload_n 3, 1) := by decide +kernel
theorem d_M_know_45 : decode b_M_know 45 = .ok (.baload, 1) := by decide +kernel
theorem d_M_know_46 : decode b_M_know 46 = .ok (.ifCond .eq 5, 3) := by decide +kernel
theorem d_M_know_49 : decode b_M_know 49 = .ok (.iconst 0, 1) := by decide +kernel
theorem d_M_know_50 : decode b_M_know 50 = .ok (.ireturn, 1) := by decide +kernel
theorem d_M_know_51 : decode b_M_know 51 = .ok (.aload_n 0, 1) := by decide +kernel
theorem d_M_know_52 : decode b_M_know 52 = .ok (.getfield 21, 3) := by decide +kernel
theorem d_M_know_55 : decode b_M_know 55 = .ok (.iload_n 3, 1) := by decide +kernel
theorem d_M_know_56 : decode b_M_know 56 = .ok (.iconst 1, 1) := by decide +kernel
theorem d_M_know_57 : decode b_M_know 57 = .ok (.bastore, 1) := by decide +kernel
theorem d_M_know_58 : decode b_M_know 58 = .ok (.aload_n 0, 1) := by decide +kernel
theorem d_M_know_59 : decode b_M_know 59 = .ok (.invokevirtual 58, 3) := by decide +kernel
theorem d_M_know_62 : decode b_M_know 62 = .ok (.iconst 1, 1) := by decide +kernel
theorem d_M_know_63 : decode b_M_know 63 = .ok (.ireturn, 1) := by decide +kernel
theorem d_M_solve_0 : decode b_M_solve 0 = .ok (.aload_n 0, 1) := by decide +kernel
theorem d_M_solve_1 : decode b_M_solve 1 = .ok (.iconst 0, 1) := by decide +kernel
theorem d_M_solve_2 : decode b_M_solve 2 = .ok (.putfield 40, 3) := by decide +kernel
theorem d_M_solve_5 : decode b_M_solve 5 = .ok (.lload_n 1, 1) := by decide +kernel
theorem d_M_solve_6 : decode b_M_solve 6 = .ok (.lconst 0, 1) := by decide +kernel
theorem d_M_solve_7 : decode b_M_solve 7 = .ok (.ldc2_w 103, 3) := by decide +kernel
theorem d_M_solve_10 : decode b_M_solve 10 = .ok (.invokestatic 52, 3) := by decide +kernel
theorem d_M_solve_13 : decode b_M_solve 13 = .ok (.ifCond .ne 7, 3) := by decide +kernel
theorem d_M_solve_16 : decode b_M_solve 16 = .ok (.ldc2_w 105, 3) := by decide +kernel
theorem d_M_solve_19 : decode b_M_solve 19 = .ok (.lreturn, 1) := by decide +kernel
theorem d_M_solve_20 : decode b_M_solve 20 = .ok (.aload_n 0, 1) := by decide +kernel
theorem d_M_solve_21 : decode b_M_solve 21 = .ok (.iconst 1, 1) := by decide +kernel
theorem d_M_solve_22 : decode b_M_solve 22 = .ok (.putfield 43, 3) := by decide +kernel
theorem d_M_solve_25 : decode b_M_solve 25 = .ok (.aload_n 0, 1) := by decide +kernel
theorem d_M_solve_26 : decode b_M_solve 26 = .ok (.aload_n 0, 1) := by decide +kernel
theorem d_M_solve_27 : decode b_M_solve 27 = .ok (.getfield 36, 3) := by decide +kernel
theorem d_M_solve_30 : decode b_M_solve 30 = .ok (.bipush 9, 2) := by decide +kernel
theorem d_M_solve_32 : decode b_M_solve 32 = .ok (.if_icmp .ge 7, 3) := by decide +kernel
theorem d_M_solve_35 : decode b_M_solve 35 = .ok (.iconst 1, 1) := by decide +kernel
theorem d_M_solve_36 : decode b_M_solve 36 = .ok (.goto 4, 3) := by decide +kernel
theorem d_M_solve_39 : decode b_M_solve 39 = .ok (.iconst 0, 1) := by decide +kernel
theorem d_M_solve_40 : decode b_M_solve 40 = .ok (.putfield 47, 3) := by decide +kernel
theorem d_M_solve_43 : decode b_M_solve 43 = .ok (.aload_n 0, 1) := by decide +kernel
theorem d_M_solve_44 : decode b_M_solve 44 = .ok (.getfield 47, 3) := by decide +kernel
theorem d_M_solve_47 : decode b_M_solve 47 = .ok (.ifCond .eq 10, 3) := by decide +kernel
theorem d_M_solve_50 : decode b_M_solve 50 = .ok (.aload_n 0, 1) := by decide +kernel
theorem d_M_solve_51 : decode b_M_solve 51 = .ok (.invokevirtual 107, 3) := by decide +kernel
theorem d_M_solve_54 : decode b_M_solve 54 = .ok (.goto 8, 3) := by decide +kernel
theorem d_M_solve_57 : decode b_M_solve 57 = .ok (.aload_n 0, 1) := by decide +kernel
theorem d_M_solve_58 : decode b_M_solve 58 = .ok (.lload_n 1, 1) := by decide +kernel
theorem d_M_solve_59 : decode b_M_solve 59 = .ok (.invokevirtual 110, 3) := by decide +kernel
theorem d_M_solve_62 : decode b_M_solve 62 = .ok (.aload_n 0, 1) := by decide +kernel
theorem d_M_solve_63 : decode b_M_solve 63 = .ok (.aload_n 0, 1) := by decide +kernel
theorem d_M_solve_64 : decode b_M_solve 64 = .ok (.getfield 27, 3) := by decide +kernel
theorem d_M_solve_67 : decode b_M_solve 67 = .ok (.invokevirtual 91, 3) := by decide +kernel
theorem d_M_solve_70 : decode b_M_solve 70 = .ok (.lreturn, 1) := by decide +kernel
theorem d_M_round_0 : decode b_M_round 0 = .ok (.aload_n 0, 1) := by decide +kernel
theorem d_M_round_1 : decode b_M_round 1 = .ok (.iconst 0, 1) := by decide +kernel
theorem d_M_round_2 : decode b_M_round 2 = .ok (.putfield 40, 3) := by decide +kernel
theorem d_M_round_5 : decode b_M_round 5 = .ok (.aload_n 0, 1) := by decide +kernel
theorem d_M_round_6 : decode b_M_round 6 = .ok (.iload_n 1, 1) := by decide +kernel
theorem d_M_round_7 : decode b_M_round 7 = .ok (.invokevirtual 61, 3) := by decide +kernel
theorem d_M_round_10 : decode b_M_round 10 = .ok (.ifCond .ne 8, 3) := by decide +kernel
theorem d_M_round_13 : decode b_M_round 13 = .ok (.bipush (-11), 2) := by decide +kernel
theorem d_M_round_15 : decode b_M_round 15 = .ok (.goto 23, 3) := by decide +kernel
theorem d_M_round_18 : decode b_M_round 18 = .ok (.aload_n 0, 1) := by decide +kernel
theorem d_M_round_19 : decode b_M_round 19 = .ok (.getfield 43, 3) := by decide +kernel
theorem d_M_round_22 : decode b_M_round 22 = .ok (.ifCond .eq 14, 3) := by decide +kernel
theorem d_M_round_25 : decode b_M_round 25 = .ok (.aload_n 0, 1) := by decide +kernel
theorem d_M_round_26 : decode b_M_round 26 = .ok (.getfield 27, 3) := by decide +kernel
theorem d_M_round_29 : decode b_M_round 29 = .ok (.iload_n 1, 1) := by decide +kernel
theorem d_M_round_30 : decode b_M_round 30 = .ok (.iconst 1, 1) := by decide +kernel
theorem d_M_round_31 : decode b_M_round 31 = .ok (.isub, 1) := by decide +kernel
theorem d_M_round_32 : decode b_M_round 32 = .ok (.iaload, 1) := by decide +kernel
theorem d_M_round_33 : decode b_M_round 33 = .ok (.goto 5, 3) := by decide +kernel
theorem d_M_round_36 : decode b_M_round 36 = .ok (.bipush (-13), 2) := by decide +kernel
theorem d_M_round_38 : decode b_M_round 38 = .ok (.ireturn, 1) := by decide +kernel
theorem d_M_changed_0 : decode b_M_changed 0 = .ok (.aload_n 0, 1) := by decide +kernel
theorem d_M_changed_1 : decode b_M_changed 1 = .ok (.iconst 0, 1) := by decide +kernel
theorem d_M_changed_2 : decode b_M_changed 2 = .ok (.putfield 40, 3) := by decide +kernel
theorem d_M_changed_5 : decode b_M_changed 5 = .ok (.aload_n 0, 1) := by decide +kernel
theorem d_M_changed_6 : decode b_M_changed 6 = .ok (.getfield 43, 3) := by decide +kernel
theorem d_M_changed_9 : decode b_M_changed 9 = .ok (.ifCond .eq 14, 3) := by decide +kernel
theorem d_M_changed_12 : decode b_M_changed 12 = .ok (.aload_n 0, 1) := by decide +kernel
theorem d_M_changed_13 : decode b_M_changed 13 = .ok (.aload_n 0, 1) := by decide +kernel
theorem d_M_changed_14 : decode b_M_changed 14 = .ok (.getfield 27, 3) := by decide +kernel
theorem d_M_changed_17 : decode b_M_changed 17 = .ok (.invokevirtual 95, 3) := by decide +kernel
theorem d_M_changed_20 : decode b_M_changed 20 = .ok (.goto 5, 3) := by decide +kernel
theorem d_M_changed_23 : decode b_M_changed 23 = .ok (.bipush (-13), 2) := by decide +kernel
theorem d_M_changed_25 : decode b_M_changed 25 = .ok (.ireturn, 1) := by decide +kernel
theorem d_M_together_0 : decode b_M_together 0 = .ok (.aload_n 0, 1) := by decide +kernel
theorem d_M_together_1 : decode b_M_together 1 = .ok (.iload_n 1, 1) := by decide +kernel
theorem d_M_together_2 : decode b_M_together 2 = .ok (.i2l, 1) := by decide +kernel
theorem d_M_together_3 : decode b_M_together 3 = .ok (.lconst 0, 1) := by decide +kernel
theorem d_M_together_4 : decode b_M_together 4 = .ok (.ldc2_w 56, 3) := by decide +kernel
theorem d_M_together_7 : decode b_M_together 7 = .ok (.invokestatic 52, 3) := by decide +kernel
theorem d_M_together_10 : decode b_M_together 10 = .ok (.ifCond .ne 7, 3) := by decide +kernel
theorem d_M_together_13 : decode b_M_together 13 = .ok (.iconst 1, 1) := by decide +kernel
theorem d_M_together_14 : decode b_M_together 14 = .ok (.goto 15, 3) := by decide +kernel
theorem d_M_together_17 : decode b_M_together 17 = .ok (.aload_n 0, 1) := by decide +kernel
theorem d_M_together_18 : decode b_M_together 18 = .ok (.getfield 43, 3) := by decide +kernel
theorem d_M_together_21 : decode b_M_together 21 = .ok (.ifCond .ne 7, 3) := by decide +kernel
theorem d_M_together_24 : decode b_M_together 24 = .ok (.iconst 2, 1) := by decide +kernel
theorem d_M_together_25 : decode b_M_together 25 = .ok (.goto 4, 3) := by decide +kernel
theorem d_M_together_28 : decode b_M_together 28 = .ok (.iconst 0, 1) := by decide +kernel
theorem d_M_together_29 : decode b_M_together 29 = .ok (.putfield 40, 3) := by decide +kernel
theorem d_M_together_32 : decode b_M_together 32 = .ok (.aload_n 0, 1) := by decide +kernel
theorem d_M_together_33 : decode b_M_together 33 = .ok (.getfield 40, 3) := by decide +kernel
theorem d_M_together_36 : decode b_M_together 36 = .ok (.ifCond .ne 19, 3) := by decide +kernel
theorem d_M_together_39 : decode b_M_together 39 = .ok (.aload_n 0, 1) := by decide +kernel
theorem d_M_together_40 : decode b_M_together 40 = .ok (.aload_n 0, 1) := by decide +kernel
theorem d_M_together_41 : decode b_M_together 41 = .ok (.getfield 27, 3) := by decide +kernel
theorem d_M_together_44 : decode b_M_together 44 = .ok (.iload_n 1, 1) := by decide +kernel
theorem d_M_together_45 : decode b_M_together 45 = .ok (.invokevirtual 79, 3) := by decide +kernel
theorem d_M_together_48 : decode b_M_together 48 = .ok (.ifCond .eq 7, 3) := by decide +kernel
theorem d_M_together_51 : decode b_M_together 51 = .ok (.iconst 1, 1) := by decide +kernel
theorem d_M_together_52 : decode b_M_together 52 = .ok (.goto 4, 3) := by decide +kernel
theorem d_M_together_55 : decode b_M_together 55 = .ok (.iconst 0, 1) := by decide +kernel
theorem d_M_together_56 : decode b_M_together 56 = .ok (.ireturn, 1) := by decide +kernel
theorem d_M_faults_0 : decode b_M_faults 0 = .ok (.aload_n 0, 1) := by decide +kernel
theorem d_M_faults_1 : decode b_M_faults 1 = .ok (.iconst 0, 1) := by decide +kernel
theorem d_M_faults_2 : decode b_M_faults 2 = .ok (.putfield 40, 3) := by decide +kernel
theorem d_M_faults_5 : decode b_M_faults 5 = .ok (.aload_n 0, 1) := by decide +kernel
theorem d_M_faults_6 : decode b_M_faults 6 = .ok (.getfield 43, 3) := by decide +kernel
theorem d_M_faults_9 : decode b_M_faults 9 = .ok (.ifCond .eq 14, 3) := by decide +kernel
theorem d_M_faults_12 : decode b_M_faults 12 = .ok (.aload_n 0, 1) := by decide +kernel
theorem d_M_faults_13 : decode b_M_faults 13 = .ok (.aload_n 0, 1) := by decide +kernel
theorem d_M_faults_14 : decode b_M_faults 14 = .ok (.getfield 27, 3) := by decide +kernel
theorem d_M_faults_17 : decode b_M_faults 17 = .ok (.invokevirtual 83, 3) := by decide +kernel
theorem d_M_faults_20 : decode b_M_faults 20 = .ok (.goto 5, 3) := by decide +kernel
theorem d_M_faults_23 : decode b_M_faults 23 = .ok (.bipush (-13), 2) := by decide +kernel
theorem d_M_faults_25 : decode b_M_faults 25 = .ok (.ireturn, 1) := by decide +kernel
theorem d_M_exact_0 : decode b_M_exact 0 = .ok (.aload_n 0, 1) := by decide +kernel
theorem d_M_exact_1 : decode b_M_exact 1 = .ok (.iconst 0, 1) := by decide +kernel
theorem d_M_exact_2 : decode b_M_exact 2 = .ok (.putfield 40, 3) := by decide +kernel
theorem d_M_exact_5 : decode b_M_exact 5 = .ok (.aload_n 0, 1) := by decide +kernel
theorem d_M_exact_6 : decode b_M_exact 6 = .ok (.getfield 47, 3) := by decide +kernel
theorem d_M_exact_9 : decode b_M_exact 9 = .ok (.ireturn, 1) := by decide +kernel

theorem bz_ir_l (q : Int32) : decide (0 ≤ q.toInt64 ∧ q.toInt64 ≤ 3) = bz_ir q := by
  apply decide_eq_decide.mpr
  rw [Int64.le_iff_toInt_le, Int64.le_iff_toInt_le, Int32.le_iff_toInt_le, Int32.lt_iff_toInt_lt, Int32.toInt_toInt64]
  show 0 ≤ q.toInt ∧ q.toInt ≤ 3 ↔ 0 ≤ q.toInt ∧ q.toInt < 4
  omega
theorem bz_aA_M (t : bz_T) (x r : Nat) : bz_tM (bz_aA t x r) = (vp_updL (bz_tM t).1 (bz_n t) (lN x), upd (bz_tM t).2.1 (bz_n t) (nI r), (bz_tM t).2.2.1, (bz_tM t).2.2.2.1, (bz_tM t).2.2.2.2.1, nI (bz_n t + 1)) := by
  refine Prod.ext ?_ (Prod.ext ?_ rfl)
  · exact (bz_updL (bz_l t) (bz_n t) x).symm
  · exact (bz_updI (bz_d t) (bz_n t) r).symm
theorem bz_sJ_M (t : bz_T) {a b : Nat} (ha : a < 30) (hb : b < 30) (o : Bool) : bz_tM (bz_sJ t a b o) = ((bz_tM t).1, (bz_tM t).2.1, upd (upd (bz_tM t).2.2.1 (30 * a + b) (bz_i o)) (30 * b + a) (bz_i o), (bz_tM t).2.2.2.1, (bz_tM t).2.2.2.2.1, nI (bz_n t)) := by
  refine Prod.ext rfl (Prod.ext rfl (Prod.ext (funext fun i => ?_) rfl))
  show bz_i (if (i / 30 = a ∧ i % 30 = b) ∨ (i / 30 = b ∧ i % 30 = a) then o else bz_j t (i / 30) (i % 30)) = if i = 30 * b + a then bz_i o else (if i = 30 * a + b then bz_i o else bz_i (bz_j t (i / 30) (i % 30)))
  by_cases e1 : i = 30 * b + a
  · rw [if_pos e1, if_pos (Or.inr ⟨by omega, by omega⟩)]
  · rw [if_neg e1]
    by_cases e2 : i = 30 * a + b
    · rw [if_pos e2, if_pos (Or.inl ⟨by omega, by omega⟩)]
    · rw [if_neg e2, if_neg (by omega)]
theorem bz_sK_M (t : bz_T) {r a : Nat} (ha : a < 30) : bz_tM (bz_sK t r a) = ((bz_tM t).1, (bz_tM t).2.1, (bz_tM t).2.2.1, upd (bz_tM t).2.2.2.1 (30 * r + a) (bz_i true), (bz_tM t).2.2.2.2.1, nI (bz_n t)) := by
  refine Prod.ext rfl (Prod.ext rfl (Prod.ext rfl (Prod.ext (funext fun i => ?_) rfl)))
  show bz_i (va_up (bz_k t) r (fun q => bz_k t r q || decide (q = a)) (i / 30) (i % 30)) = if i = 30 * r + a then bz_i true else bz_i (bz_k t (i / 30) (i % 30))
  by_cases e1 : i / 30 = r
  · rw [e1, bz_up_s]
    by_cases e2 : i % 30 = a
    · rw [if_pos (by omega), e2]
      simp
    · rw [if_neg (by omega)]
      simp [e2]
  · rw [bz_up_n _ _ e1, if_neg (by omega)]
theorem bz_sH_M (t : bz_T) (r x : Nat) : bz_tM (bz_sH t r x) = ((bz_tM t).1, (bz_tM t).2.1, (bz_tM t).2.2.1, (bz_tM t).2.2.2.1, vp_updL (bz_tM t).2.2.2.2.1 r (lN x), nI (bz_n t)) := by
  refine Prod.ext rfl (Prod.ext rfl (Prod.ext rfl (Prod.ext rfl (Prod.ext ?_ rfl))))
  exact (bz_updL (bz_h t) r x).symm
theorem bz_sH_s {t : bz_T} {r x : Nat} (h : bz_h t r = x) : bz_tM t = ((bz_tM t).1, (bz_tM t).2.1, (bz_tM t).2.2.1, (bz_tM t).2.2.2.1, vp_updL (bz_tM t).2.2.2.2.1 r (lN x), nI (bz_n t)) := by
  refine Prod.ext rfl (Prod.ext rfl (Prod.ext rfl (Prod.ext rfl (Prod.ext (funext fun q => ?_) rfl))))
  show lN (bz_h t q) = if q = r then lN x else lN (bz_h t q)
  by_cases e : q = r
  · rw [if_pos e, e, h]
  · rw [if_neg e]

set_option maxHeartbeats 4000000 in
set_option maxRecDepth 100000 in
/-- area, refused -/
theorem c_M_area_o (l : Launch) (dC : Nat → ClassId) (dI : Nat → Nat → Nat) (sz : Nat) (am : Nat → Nat) (cI cL cZ : ClassId) (t : bz_T) (th sv ex : Int32) (S1 S2 S3 : Nat → Int32) (ht : bz_ok t) (z : Int64) (q : Int32) (hz : ¬ (0 ≤ z ∧ z ≤ 1000000 ∧ bz_ir q = true)) : Met l y_M_area w_M_area ({ frames := 1, cells := 0, slots := 0, locals := 25 }) (bz_Pw (dC, dI) [(cI, .int), (cL, .long), (cZ, .boolean)] (bz_wM am cI cL cZ (bz_tM t) (th, sv, ex) (S1, S2, S3)) sz [.ref (am 0), .long z, .int q]) (bz_Qi (dC, dI) [(cI, .int), (cL, .long), (cZ, .boolean)] (va_A (bz_wM am cI cL cZ (bz_tM t) (th, sv, ex) (S1, S2, S3)) sz) ((-12)) (bz_wM am cI cL cZ (bz_tM t) (0, sv, ex) (S1, S2, S3))) 0 0 (va_A (bz_wM am cI cL cZ (bz_tM t) (th, sv, ex) (S1, S2, S3)) sz) := by
  refine Met.ofW (cc := b_M_area) (maxL := 4) (ret := (some .int)) (by decide) rfl ?_
  intro p e s m args below meth c s₁ B hml hv
  obtain ⟨rfl, hsz, hP, hK, hD0, hN⟩ := hv
  have hx := B.exec
  have hb := B.bytes
  have hr := B.returns
  have hts := atoms_spec (ws := w_M_area) B.pre
  have hown : s.vm.findClass R_M = some m.cls := findClass_of_methodNamed B.named
  have htb : ∀ w ∈ bz_tb, w.before _ s = true := fun w h => hts w (List.mem_cons_of_mem _ h)
  have hlocks := B.notSynchronized
  subst hsz
  have hD := hD0.self (sz := s.heap.size)
  generalize hAe : va_A (bz_wM am cI cL cZ (bz_tM t) (th, sv, ex) (S1, S2, S3)) s.heap.size = A at hD ⊢
  have hA : ∀ q : Nat, s.heap.size ≤ q → A q := fun q h => by rw [← hAe]; exact Or.inr h
  have hS : va_S A s.heap s.heap [] := va_S.rf
  have hl := lv_entry ([.ref (am 0), .long z, .int q]) (n := 4) (Nat.le_of_ble_eq_true rfl)
  rw [lg_entry_eq]
  generalize (lg_sl ([.ref (am 0), .long z, .int q]) ++ List.replicate (4 - (lg_sl ([.ref (am 0), .long z, .int q])).length) Slot.unset).toArray = ls at hl ⊢
  have hl : lv_has ls 4 [(0, .ref (am 0)), (1, .long z), (3, .int q)] := hl
  refine lv_aload_n hx hb d_M_area_0 rfl (lv_at hl 0 rfl) ?_
  refine lv_iconst (v := 0) hx hb d_M_area_1 (by decide) ?_
  refine va_put (D := (dC, dI)) (ci := 4) (v := .int 0) (ty := .int) (C := R_M) (T := F_M) (N := 12) hx hb htb in_M tf_M tok_M n_M hown hK hP hD hS 0 rfl rfl 0 (by decide) (htb _ wd_411) (fun _ h9 => h9) rfl (by decide +kernel) rfl rfl (Nat.le_of_ble_eq_true rfl) d_M_area_2 (fun H locs hP hD hS => ?_)
  have hP : va_P (dC, dI) vwCl (bz_wM am cI cL cZ (bz_tM t) (0, sv, ex) (S1, S2, S3)) H := hP
  have hD : va_D A (bz_wM am cI cL cZ (bz_tM t) (0, sv, ex) (S1, S2, S3)) := hD
  refine lv_lload_n hx hb d_M_area_5 rfl (lv_at hl 1 rfl) ?_
  refine lv_lconst (v := 0) hx hb d_M_area_6 (by decide) ?_
  refine lv_ldc2 (v := 1000000) hx hb hown (htb _ wd_457) d_M_area_7 ?_
  refine bz_si (va_runS (As := [.long z, .long 0, .long 1000000]) (rest := []) ⟨hx, hb, hml, hown, htb⟩ (c_M_isIn l dC dI am cI cL cZ (bz_tM t) 0 sv ex S1 S2 S3 _ _ _) (va_cwS 3 htb (bz_gS wd_460 wd_458 wd_459 wd_23) rfl rfl rfl (by decide +kernel) ⟨Nat.le_of_ble_eq_true rfl, Nat.le_of_ble_eq_true rfl⟩) (bz_rs hN hK hP) rfl rfl hl.1 rfl (lv_room (Nat.le_of_ble_eq_true rfl)) d_M_area_10 ⟨Nat.zero_le _, Nat.zero_le _⟩) ?_
  refine lv_if_eq (tgt := 28) hx hb d_M_area_13 (by decide) (fun c_13 => ?_) (fun c_13 => ?_)
  · skip
    refine lv_bipush (v := (-12)) hx hb d_M_area_28 (by decide) ?_
    exact W.iret (v := (-12)) hx hb hr (fun t9 ht9 hW => ⟨⟨(-12), (), rfl, rfl, by rw [ht9]; exact hP, va_K.moved hW.alike hK, hD⟩, hS.F ht9⟩) hS.2.2 d_M_area_30
  · skip
    refine lv_iload_n hx hb d_M_area_16 rfl (lv_at hl 2 rfl) ?_
    refine lv_i2l hx hb d_M_area_17 rfl ?_
    refine lv_lconst (v := 0) hx hb d_M_area_18 (by decide) ?_
    refine lv_ldc2 (v := 3) hx hb hown (htb _ wd_461) d_M_area_19 ?_
    refine bz_si (va_runS (As := [.long q.toInt64, .long 0, .long 3]) (rest := []) ⟨hx, hb, hml, hown, htb⟩ (c_M_isIn l dC dI am cI cL cZ (bz_tM t) 0 sv ex S1 S2 S3 _ _ _) (va_cwS 3 htb (bz_gS wd_460 wd_458 wd_459 wd_23) rfl rfl rfl (by decide +kernel) ⟨Nat.le_of_ble_eq_true rfl, Nat.le_of_ble_eq_true rfl⟩) (bz_rs hN hK hP) rfl rfl hl.1 rfl (lv_room (Nat.le_of_ble_eq_true rfl)) d_M_area_22 ⟨Nat.zero_le _, Nat.zero_le _⟩) ?_
    refine bz_ri (y := bz_i (bz_ir q)) (by rw [bz_ir_l]) ?_
    refine lv_if_ne (tgt := 31) hx hb d_M_area_25 (by decide) (fun c_25 => ?_) (fun c_25 => ?_)
    · skip
      exact absurd (have h1 := of_decide_eq_true (bz_i_ne c_13); ⟨h1.1, h1.2, bz_i_ne c_25⟩) hz
    · skip
      refine lv_bipush (v := (-12)) hx hb d_M_area_28 (by decide) ?_
      exact W.iret (v := (-12)) hx hb hr (fun t9 ht9 hW => ⟨⟨(-12), (), rfl, rfl, by rw [ht9]; exact hP, va_K.moved hW.alike hK, hD⟩, hS.F ht9⟩) hS.2.2 d_M_area_30

set_option maxHeartbeats 4000000 in
set_option maxRecDepth 100000 in
/-- area, no room -/
theorem c_M_area_r (l : Launch) (dC : Nat → ClassId) (dI : Nat → Nat → Nat) (sz : Nat) (am : Nat → Nat) (cI cL cZ : ClassId) (t : bz_T) (th sv ex : Int32) (S1 S2 S3 : Nat → Int32) (ht : bz_ok t) (x r : Nat) (hx0 : x ≤ 1000000) (hr4 : r < 4) (hn : ¬ bz_n t < 30) : Met l y_M_area w_M_area ({ frames := 1, cells := 0, slots := 0, locals := 25 }) (bz_Pw (dC, dI) [(cI, .int), (cL, .long), (cZ, .boolean)] (bz_wM am cI cL cZ (bz_tM t) (th, sv, ex) (S1, S2, S3)) sz [.ref (am 0), .long (lN x), .int (nI r)]) (bz_Qi (dC, dI) [(cI, .int), (cL, .long), (cZ, .boolean)] (va_A (bz_wM am cI cL cZ (bz_tM t) (th, sv, ex) (S1, S2, S3)) sz) ((-14)) (bz_wM am cI cL cZ (bz_tM t) (0, sv, ex) (S1, S2, S3))) 0 0 (va_A (bz_wM am cI cL cZ (bz_tM t) (th, sv, ex) (S1, S2, S3)) sz) := by
  refine Met.ofW (cc := b_M_area) (maxL := 4) (ret := (some .int)) (by decide) rfl ?_
  intro p e s m args below meth c s₁ B hml hv
  obtain ⟨rfl, hsz, hP, hK, hD0, hN⟩ := hv
  have hx := B.exec
  have hb := B.bytes
  have hr := B.returns
  have hts := atoms_spec (ws := w_M_area) B.pre
  have hown : s.vm.findClass R_M = some m.cls := findClass_of_methodNamed B.named
  have htb : ∀ w ∈ bz_tb, w.before _ s = true := fun w h => hts w (List.mem_cons_of_mem _ h)
  have hlocks := B.notSynchronized
  subst hsz
  have hD := hD0.self (sz := s.heap.size)
  generalize hAe : va_A (bz_wM am cI cL cZ (bz_tM t) (th, sv, ex) (S1, S2, S3)) s.heap.size = A at hD ⊢
  have hA : ∀ q : Nat, s.heap.size ≤ q → A q := fun q h => by rw [← hAe]; exact Or.inr h
  have hS : va_S A s.heap s.heap [] := va_S.rf
  have hl := lv_entry ([.ref (am 0), .long (lN x), .int (nI r)]) (n := 4) (Nat.le_of_ble_eq_true rfl)
  rw [lg_entry_eq]
  generalize (lg_sl ([.ref (am 0), .long (lN x), .int (nI r)]) ++ List.replicate (4 - (lg_sl ([.ref (am 0), .long (lN x), .int (nI r)])).length) Slot.unset).toArray = ls at hl ⊢
  have hl : lv_has ls 4 [(0, .ref (am 0)), (1, .long (lN x)), (3, .int (nI r))] := hl
  have hir : bz_ir (nI r) = true := decide_eq_true ⟨nI_pos' (by omega), (nI_ltI (b := 4) (by omega) (by omega)).mpr hr4⟩
  have hlin : decide ((0 : Int64) ≤ lN x ∧ lN x ≤ 1000000) = true := decide_eq_true ⟨(pk_lLE (a := 0) (by omega) (by omega)).mpr (by omega), (pk_lLE (b := 1000000) (by omega) (by omega)).mpr hx0⟩
  have hn30 := ht.1
  refine lv_aload_n hx hb d_M_area_0 rfl (lv_at hl 0 rfl) ?_
  refine lv_iconst (v := 0) hx hb d_M_area_1 (by decide) ?_
  refine va_put (D := (dC, dI)) (ci := 4) (v := .int 0) (ty := .int) (C := R_M) (T := F_M) (N := 12) hx hb htb in_M tf_M tok_M n_M hown hK hP hD hS 0 rfl rfl 0 (by decide) (htb _ wd_411) (fun _ h9 => h9) rfl (by decide +kernel) rfl rfl (Nat.le_of_ble_eq_true rfl) d_M_area_2 (fun H locs hP hD hS => ?_)
  have hP : va_P (dC, dI) vwCl (bz_wM am cI cL cZ (bz_tM t) (0, sv, ex) (S1, S2, S3)) H := hP
  have hD : va_D A (bz_wM am cI cL cZ (bz_tM t) (0, sv, ex) (S1, S2, S3)) := hD
  refine lv_lload_n hx hb d_M_area_5 rfl (lv_at hl 1 rfl) ?_
  refine lv_lconst (v := 0) hx hb d_M_area_6 (by decide) ?_
  refine lv_ldc2 (v := 1000000) hx hb hown (htb _ wd_457) d_M_area_7 ?_
  refine bz_si (va_runS (As := [.long (lN x), .long 0, .long 1000000]) (rest := []) ⟨hx, hb, hml, hown, htb⟩ (c_M_isIn l dC dI am cI cL cZ (bz_tM t) 0 sv ex S1 S2 S3 _ _ _) (va_cwS 3 htb (bz_gS wd_460 wd_458 wd_459 wd_23) rfl rfl rfl (by decide +kernel) ⟨Nat.le_of_ble_eq_true rfl, Nat.le_of_ble_eq_true rfl⟩) (bz_rs hN hK hP) rfl rfl hl.1 rfl (lv_room (Nat.le_of_ble_eq_true rfl)) d_M_area_10 ⟨Nat.zero_le _, Nat.zero_le _⟩) ?_
  refine lv_if_eq (tgt := 28) hx hb d_M_area_13 (by decide) (fun c_13 => ?_) (fun c_13 => ?_)
  · skip
    exact absurd (bz_i_eq c_13) (by rw [hlin]; decide)
  · skip
    refine lv_iload_n hx hb d_M_area_16 rfl (lv_at hl 2 rfl) ?_
    refine lv_i2l hx hb d_M_area_17 rfl ?_
    refine lv_lconst (v := 0) hx hb d_M_area_18 (by decide) ?_
    refine lv_ldc2 (v := 3) hx hb hown (htb _ wd_461) d_M_area_19 ?_
    refine bz_si (va_runS (As := [.long ((nI r).toInt64), .long 0, .long 3]) (rest := []) ⟨hx, hb, hml, hown, htb⟩ (c_M_isIn l dC dI am cI cL cZ (bz_tM t) 0 sv ex S1 S2 S3 _ _ _) (va_cwS 3 htb (bz_gS wd_460 wd_458 wd_459 wd_23) rfl rfl rfl (by decide +kernel) ⟨Nat.le_of_ble_eq_true rfl, Nat.le_of_ble_eq_true rfl⟩) (bz_rs hN hK hP) rfl rfl hl.1 rfl (lv_room (Nat.le_of_ble_eq_true rfl)) d_M_area_22 ⟨Nat.zero_le _, Nat.zero_le _⟩) ?_
    refine bz_ri (y := bz_i (bz_ir (nI r))) (by rw [bz_ir_l]) ?_
    refine lv_if_ne (tgt := 31) hx hb d_M_area_25 (by decide) (fun c_25 => ?_) (fun c_25 => ?_)
    · skip
      refine lv_aload_n hx hb d_M_area_31 rfl (lv_at hl 0 rfl) ?_
      refine va_get (D := (dC, dI)) (ci := 4) (v := .int (nI (bz_n t))) (C := R_M) (T := F_M) (N := 12) hx hb htb in_M hown hK hP 0 rfl rfl 1 (by decide) (htb _ wd_412) (fun _ h9 => h9) rfl d_M_area_32 ?_
      refine lv_bipush (v := 30) hx hb d_M_area_35 (by decide) ?_
      refine lv_icmp_ne (tgt := 43) hx hb d_M_area_37 (by decide) (fun c_37 => ?_) (fun c_37 => ?_)
      · skip
        exact absurd ((nI_eq (b := 30) (by omega) (by omega)).mpr (by omega)) c_37
      · skip
        refine lv_bipush (v := (-14)) hx hb d_M_area_40 (by decide) ?_
        exact W.iret (v := (-14)) hx hb hr (fun t9 ht9 hW => ⟨⟨(-14), (), rfl, rfl, by rw [ht9]; exact hP, va_K.moved hW.alike hK, hD⟩, hS.F ht9⟩) hS.2.2 d_M_area_42
    · skip
      exact absurd (bz_i_eq c_25) (by rw [hir]; decide)

set_option maxHeartbeats 4000000 in
set_option maxRecDepth 100000 in
/-- area -/
theorem c_M_area (l : Launch) (dC : Nat → ClassId) (dI : Nat → Nat → Nat) (sz : Nat) (am : Nat → Nat) (cI cL cZ : ClassId) (t : bz_T) (th sv ex : Int32) (S1 S2 S3 : Nat → Int32) (ht : bz_ok t) (x r : Nat) (hx0 : x ≤ 1000000) (hr4 : r < 4) (hn : bz_n t < 30) : Met l y_M_area w_M_area ({ frames := 1, cells := 0, slots := 0, locals := 25 }) (bz_Pw (dC, dI) [(cI, .int), (cL, .long), (cZ, .boolean)] (bz_wM am cI cL cZ (bz_tM t) (th, sv, ex) (S1, S2, S3)) sz [.ref (am 0), .long (lN x), .int (nI r)]) (bz_Qi (dC, dI) [(cI, .int), (cL, .long), (cZ, .boolean)] (va_A (bz_wM am cI cL cZ (bz_tM t) (th, sv, ex) (S1, S2, S3)) sz) (nI (bz_n t + 1)) (bz_wM am cI cL cZ (bz_tM (bz_aA t x r)) (0, 0, 0) (S1, S2, S3))) 0 0 (va_A (bz_wM am cI cL cZ (bz_tM t) (th, sv, ex) (S1, S2, S3)) sz) := by
  refine Met.ofW (cc := b_M_area) (maxL := 4) (ret := (some .int)) (by decide) rfl ?_
  intro p e s m args below meth c s₁ B hml hv
  obtain ⟨rfl, hsz, hP, hK, hD0, hN⟩ := hv
  have hx := B.exec
  have hb := B.bytes
  have hr := B.returns
  have hts := atoms_spec (ws := w_M_area) B.pre
  have hown : s.vm.findClass R_M = some m.cls := findClass_of_methodNamed B.named
  have htb : ∀ w ∈ bz_tb, w.before _ s = true := fun w h => hts w (List.mem_cons_of_mem _ h)
  have hlocks := B.notSynchronized
  subst hsz
  have hD := hD0.self (sz := s.heap.size)
  generalize hAe : va_A (bz_wM am cI cL cZ (bz_tM t) (th, sv, ex) (S1, S2, S3)) s.heap.size = A at hD ⊢
  have hA : ∀ q : Nat, s.heap.size ≤ q → A q := fun q h => by rw [← hAe]; exact Or.inr h
  have hS : va_S A s.heap s.heap [] := va_S.rf
  have hl := lv_entry ([.ref (am 0), .long (lN x), .int (nI r)]) (n := 4) (Nat.le_of_ble_eq_true rfl)
  rw [lg_entry_eq]
  generalize (lg_sl ([.ref (am 0), .long (lN x), .int (nI r)]) ++ List.replicate (4 - (lg_sl ([.ref (am 0), .long (lN x), .int (nI r)])).length) Slot.unset).toArray = ls at hl ⊢
  have hl : lv_has ls 4 [(0, .ref (am 0)), (1, .long (lN x)), (3, .int (nI r))] := hl
  have hir : bz_ir (nI r) = true := decide_eq_true ⟨nI_pos' (by omega), (nI_ltI (b := 4) (by omega) (by omega)).mpr hr4⟩
  have hlin : decide ((0 : Int64) ≤ lN x ∧ lN x ≤ 1000000) = true := decide_eq_true ⟨(pk_lLE (a := 0) (by omega) (by omega)).mpr (by omega), (pk_lLE (b := 1000000) (by omega) (by omega)).mpr hx0⟩
  have hn30 := ht.1
  refine lv_aload_n hx hb d_M_area_0 rfl (lv_at hl 0 rfl) ?_
  refine lv_iconst (v := 0) hx hb d_M_area_1 (by decide) ?_
  refine va_put (D := (dC, dI)) (ci := 4) (v := .int 0) (ty := .int) (C := R_M) (T := F_M) (N := 12) hx hb htb in_M tf_M tok_M n_M hown hK hP hD hS 0 rfl rfl 0 (by decide) (htb _ wd_411) (fun _ h9 => h9) rfl (by decide +kernel) rfl rfl (Nat.le_of_ble_eq_true rfl) d_M_area_2 (fun H locs hP hD hS => ?_)
  have hP : va_P (dC, dI) vwCl (bz_wM am cI cL cZ (bz_tM t) (0, sv, ex) (S1, S2, S3)) H := hP
  have hD : va_D A (bz_wM am cI cL cZ (bz_tM t) (0, sv, ex) (S1, S2, S3)) := hD
  refine lv_lload_n hx hb d_M_area_5 rfl (lv_at hl 1 rfl) ?_
  refine lv_lconst (v := 0) hx hb d_M_area_6 (by decide) ?_
  refine lv_ldc2 (v := 1000000) hx hb hown (htb _ wd_457) d_M_area_7 ?_
  refine bz_si (va_runS (As := [.long (lN x), .long 0, .long 1000000]) (rest := []) ⟨hx, hb, hml, hown, htb⟩ (c_M_isIn l dC dI am cI cL cZ (bz_tM t) 0 sv ex S1 S2 S3 _ _ _) (va_cwS 3 htb (bz_gS wd_460 wd_458 wd_459 wd_23) rfl rfl rfl (by decide +kernel) ⟨Nat.le_of_ble_eq_true rfl, Nat.le_of_ble_eq_true rfl⟩) (bz_rs hN hK hP) rfl rfl hl.1 rfl (lv_room (Nat.le_of_ble_eq_true rfl)) d_M_area_10 ⟨Nat.zero_le _, Nat.zero_le _⟩) ?_
  refine lv_if_eq (tgt := 28) hx hb d_M_area_13 (by decide) (fun c_13 => ?_) (fun c_13 => ?_)
  · skip
    exact absurd (bz_i_eq c_13) (by rw [hlin]; decide)
  · skip
    refine lv_iload_n hx hb d_M_area_16 rfl (lv_at hl 2 rfl) ?_
    refine lv_i2l hx hb d_M_area_17 rfl ?_
    refine lv_lconst (v := 0) hx hb d_M_area_18 (by decide) ?_
    refine lv_ldc2 (v := 3) hx hb hown (htb _ wd_461) d_M_area_19 ?_
    refine bz_si (va_runS (As := [.long ((nI r).toInt64), .long 0, .long 3]) (rest := []) ⟨hx, hb, hml, hown, htb⟩ (c_M_isIn l dC dI am cI cL cZ (bz_tM t) 0 sv ex S1 S2 S3 _ _ _) (va_cwS 3 htb (bz_gS wd_460 wd_458 wd_459 wd_23) rfl rfl rfl (by decide +kernel) ⟨Nat.le_of_ble_eq_true rfl, Nat.le_of_ble_eq_true rfl⟩) (bz_rs hN hK hP) rfl rfl hl.1 rfl (lv_room (Nat.le_of_ble_eq_true rfl)) d_M_area_22 ⟨Nat.zero_le _, Nat.zero_le _⟩) ?_
    refine bz_ri (y := bz_i (bz_ir (nI r))) (by rw [bz_ir_l]) ?_
    refine lv_if_ne (tgt := 31) hx hb d_M_area_25 (by decide) (fun c_25 => ?_) (fun c_25 => ?_)
    · skip
      refine lv_aload_n hx hb d_M_area_31 rfl (lv_at hl 0 rfl) ?_
      refine va_get (D := (dC, dI)) (ci := 4) (v := .int (nI (bz_n t))) (C := R_M) (T := F_M) (N := 12) hx hb htb in_M hown hK hP 0 rfl rfl 1 (by decide) (htb _ wd_412) (fun _ h9 => h9) rfl d_M_area_32 ?_
      refine lv_bipush (v := 30) hx hb d_M_area_35 (by decide) ?_
      refine lv_icmp_ne (tgt := 43) hx hb d_M_area_37 (by decide) (fun c_37 => ?_) (fun c_37 => ?_)
      · skip
        refine lv_aload_n hx hb d_M_area_43 rfl (lv_at hl 0 rfl) ?_
        refine va_get (D := (dC, dI)) (ci := 4) (v := .ref (am 1)) (C := R_M) (T := F_M) (N := 12) hx hb htb in_M hown hK hP 0 rfl rfl 2 (by decide) (htb _ wd_413) (fun _ h9 => h9) rfl d_M_area_44 ?_
        refine lv_aload_n hx hb d_M_area_47 rfl (lv_at hl 0 rfl) ?_
        refine va_get (D := (dC, dI)) (ci := 4) (v := .int (nI (bz_n t))) (C := R_M) (T := F_M) (N := 12) hx hb htb in_M hown hK hP 0 rfl rfl 1 (by decide) (htb _ wd_412) (fun _ h9 => h9) rfl d_M_area_48 ?_
        refine lv_lload_n hx hb d_M_area_51 rfl (lv_at hl 1 rfl) ?_
        refine bz_last hx hb hK hP hD hS 1 1 rfl rfl (a9 := (bz_n t)) (by omega) (by decide) d_M_area_52 (fun H locs hP hD hS => ?_)
        have hP : va_P (dC, dI) vwCl (bz_wM am cI cL cZ ((vp_updL ((bz_tM t).1) (bz_n t) (lN x)), (bz_tM t).2.1, (bz_tM t).2.2.1, (bz_tM t).2.2.2.1, (bz_tM t).2.2.2.2.1, nI (bz_n t)) (0, sv, ex) (S1, S2, S3)) H := hP
        have hD : va_D A (bz_wM am cI cL cZ ((vp_updL ((bz_tM t).1) (bz_n t) (lN x)), (bz_tM t).2.1, (bz_tM t).2.2.1, (bz_tM t).2.2.2.1, (bz_tM t).2.2.2.2.1, nI (bz_n t)) (0, sv, ex) (S1, S2, S3)) := hD
        refine lv_aload_n hx hb d_M_area_53 rfl (lv_at hl 0 rfl) ?_
        refine va_get (D := (dC, dI)) (ci := 4) (v := .ref (am 2)) (C := R_M) (T := F_M) (N := 12) hx hb htb in_M hown hK hP 0 rfl rfl 3 (by decide) (htb _ wd_414) (fun _ h9 => h9) rfl d_M_area_54 ?_
        refine lv_aload_n hx hb d_M_area_57 rfl (lv_at hl 0 rfl) ?_
        refine va_get (D := (dC, dI)) (ci := 4) (v := .int (nI (bz_n t))) (C := R_M) (T := F_M) (N := 12) hx hb htb in_M hown hK hP 0 rfl rfl 1 (by decide) (htb _ wd_412) (fun _ h9 => h9) rfl d_M_area_58 ?_
        refine lv_iload_n hx hb d_M_area_61 rfl (lv_at hl 2 rfl) ?_
        refine bz_iast hx hb hK hP hD hS 2 0 rfl rfl (a9 := (bz_n t)) (by omega) (by decide) d_M_area_62 (fun H locs hP hD hS => ?_)
        have hP : va_P (dC, dI) vwCl (bz_wM am cI cL cZ ((vp_updL ((bz_tM t).1) (bz_n t) (lN x)), (upd ((bz_tM t).2.1) (bz_n t) (nI r)), (bz_tM t).2.2.1, (bz_tM t).2.2.2.1, (bz_tM t).2.2.2.2.1, nI (bz_n t)) (0, sv, ex) (S1, S2, S3)) H := hP
        have hD : va_D A (bz_wM am cI cL cZ ((vp_updL ((bz_tM t).1) (bz_n t) (lN x)), (upd ((bz_tM t).2.1) (bz_n t) (nI r)), (bz_tM t).2.2.1, (bz_tM t).2.2.2.1, (bz_tM t).2.2.2.2.1, nI (bz_n t)) (0, sv, ex) (S1, S2, S3)) := hD
        refine lv_aload_n hx hb d_M_area_63 rfl (lv_at hl 0 rfl) ?_
        refine lv_dup hx hb d_M_area_64 rfl ?_
        refine va_get (D := (dC, dI)) (ci := 4) (v := .int (nI (bz_n t))) (C := R_M) (T := F_M) (N := 12) hx hb htb in_M hown hK hP 0 rfl rfl 1 (by decide) (htb _ wd_412) (fun _ h9 => h9) rfl d_M_area_65 ?_
        refine lv_iconst (v := 1) hx hb d_M_area_68 (by decide) ?_
        refine lv_iadd hx hb d_M_area_69 ?_
        refine bz_ri (y := nI (bz_n t + 1)) (nI_1 _) ?_
        refine va_put (D := (dC, dI)) (ci := 4) (v := .int (nI (bz_n t + 1))) (ty := .int) (C := R_M) (T := F_M) (N := 12) hx hb htb in_M tf_M tok_M n_M hown hK hP hD hS 0 rfl rfl 1 (by decide) (htb _ wd_412) (fun _ h9 => h9) rfl (by decide +kernel) rfl rfl (Nat.le_of_ble_eq_true rfl) d_M_area_70 (fun H locs hP hD hS => ?_)
        have hP : va_P (dC, dI) vwCl (bz_wM am cI cL cZ ((vp_updL ((bz_tM t).1) (bz_n t) (lN x)), (upd ((bz_tM t).2.1) (bz_n t) (nI r)), (bz_tM t).2.2.1, (bz_tM t).2.2.2.1, (bz_tM t).2.2.2.2.1, nI (bz_n t + 1)) (0, sv, ex) (S1, S2, S3)) H := hP
        have hD : va_D A (bz_wM am cI cL cZ ((vp_updL ((bz_tM t).1) (bz_n t) (lN x)), (upd ((bz_tM t).2.1) (bz_n t) (nI r)), (bz_tM t).2.2.1, (bz_tM t).2.2.2.1, (bz_tM t).2.2.2.2.1, nI (bz_n t + 1)) (0, sv, ex) (S1, S2, S3)) := hD
        refine lv_aload_n hx hb d_M_area_73 rfl (lv_at hl 0 rfl) ?_
        refine bz_cv (va_runV (As := []) (rest := []) ⟨hx, hb, hml, hown, htb⟩ (c_M_changes l dC dI _ am cI cL cZ ((vp_updL ((bz_tM t).1) (bz_n t) (lN x)), (upd ((bz_tM t).2.1) (bz_n t) (nI r)), (bz_tM t).2.2.1, (bz_tM t).2.2.2.1, (bz_tM t).2.2.2.2.1, nI (bz_n t + 1)) 0 sv ex S1 S2 S3) (cwV 0 htb (bz_gV wd_465 wd_462 wd_464 wd_5 wd_23) rfl rfl rfl (by decide +kernel) ⟨Nat.le_of_ble_eq_true rfl, Nat.le_of_ble_eq_true rfl⟩) (bz_wv hN hK hP hD (q0 := 0) rfl rfl) rfl rfl hl.1 rfl (lv_room (Nat.le_of_ble_eq_true rfl)) d_M_area_74 ⟨Nat.zero_le _, Nat.zero_le _⟩) hD hS hA (fun H locs hP hD hS => ?_)
        have hP : va_P (dC, dI) vwCl (bz_wM am cI cL cZ ((vp_updL ((bz_tM t).1) (bz_n t) (lN x)), (upd ((bz_tM t).2.1) (bz_n t) (nI r)), (bz_tM t).2.2.1, (bz_tM t).2.2.2.1, (bz_tM t).2.2.2.2.1, nI (bz_n t + 1)) (0, 0, 0) (S1, S2, S3)) H := hP
        have hD : va_D A (bz_wM am cI cL cZ ((vp_updL ((bz_tM t).1) (bz_n t) (lN x)), (upd ((bz_tM t).2.1) (bz_n t) (nI r)), (bz_tM t).2.2.1, (bz_tM t).2.2.2.1, (bz_tM t).2.2.2.2.1, nI (bz_n t + 1)) (0, 0, 0) (S1, S2, S3)) := hD
        refine lv_aload_n hx hb d_M_area_77 rfl (lv_at hl 0 rfl) ?_
        refine va_get (D := (dC, dI)) (ci := 4) (v := .int (nI (bz_n t + 1))) (C := R_M) (T := F_M) (N := 12) hx hb htb in_M hown hK hP 0 rfl rfl 1 (by decide) (htb _ wd_412) (fun _ h9 => h9) rfl d_M_area_78 ?_
        have e9 : bz_tM (bz_aA t x r) = ((vp_updL ((bz_tM t).1) (bz_n t) (lN x)), (upd ((bz_tM t).2.1) (bz_n t) (nI r)), (bz_tM t).2.2.1, (bz_tM t).2.2.2.1, (bz_tM t).2.2.2.2.1, nI (bz_n t + 1)) := bz_aA_M t x r
        rw [← e9] at hP hD
        exact W.iret (v := nI (bz_n t + 1)) hx hb hr (fun t9 ht9 hW => ⟨⟨nI (bz_n t + 1), (), rfl, rfl, by rw [ht9]; exact hP, va_K.moved hW.alike hK, hD⟩, hS.F ht9⟩) hS.2.2 d_M_area_81
      · skip
        exact absurd ((nI_eq (b := 30) (by omega) (by omega)).mp c_37) (by omega)
    · skip
      exact absurd (bz_i_eq c_25) (by rw [hir]; decide)

set_option maxHeartbeats 4000000 in
set_option maxRecDepth 100000 in
/-- joined, nothing -/
theorem c_M_joined_o (l : Launch) (dC : Nat → ClassId) (dI : Nat → Nat → Nat) (sz : Nat) (am : Nat → Nat) (cI cL cZ : ClassId) (t : bz_T) (th sv ex : Int32) (S1 S2 S3 : Nat → Int32) (ht : bz_ok t) (x y bb : Int32) (hz : ¬ (bz_ia (bz_n t) x = true ∧ bz_ia (bz_n t) y = true ∧ x ≠ y)) : Met l y_M_joined w_M_joined ({ frames := 1, cells := 0, slots := 0, locals := 21 }) (bz_Pw (dC, dI) [(cI, .int), (cL, .long), (cZ, .boolean)] (bz_wM am cI cL cZ (bz_tM t) (th, sv, ex) (S1, S2, S3)) sz [.ref (am 0), .int x, .int y, .int bb]) (bz_Qi (dC, dI) [(cI, .int), (cL, .long), (cZ, .boolean)] (va_A (bz_wM am cI cL cZ (bz_tM t) (th, sv, ex) (S1, S2, S3)) sz) (0) (bz_wM am cI cL cZ (bz_tM t) (0, sv, ex) (S1, S2, S3))) 0 0 (va_A (bz_wM am cI cL cZ (bz_tM t) (th, sv, ex) (S1, S2, S3)) sz) := by
  refine Met.ofW (cc := b_M_joined) (maxL := 4) (ret := (some .boolean)) (by decide) rfl ?_
  intro p e s m args below meth c s₁ B hml hv
  obtain ⟨rfl, hsz, hP, hK, hD0, hN⟩ := hv
  have hx := B.exec
  have hb := B.bytes
  have hr := B.returns
  have hts := atoms_spec (ws := w_M_joined) B.pre
  have hown : s.vm.findClass R_M = some m.cls := findClass_of_methodNamed B.named
  have htb : ∀ w ∈ bz_tb, w.before _ s = true := fun w h => hts w (List.mem_cons_of_mem _ h)
  have hlocks := B.notSynchronized
  subst hsz
  have hD := hD0.self (sz := s.heap.size)
  generalize hAe : va_A (bz_wM am cI cL cZ (bz_tM t) (th, sv, ex) (S1, S2, S3)) s.heap.size = A at hD ⊢
  have hA : ∀ q : Nat, s.heap.size ≤ q → A q := fun q h => by rw [← hAe]; exact Or.inr h
  have hS : va_S A s.heap s.heap [] := va_S.rf
  have hl := lv_entry ([.ref (am 0), .int x, .int y, .int bb]) (n := 4) (Nat.le_of_ble_eq_true rfl)
  rw [lg_entry_eq]
  generalize (lg_sl ([.ref (am 0), .int x, .int y, .int bb]) ++ List.replicate (4 - (lg_sl ([.ref (am 0), .int x, .int y, .int bb])).length) Slot.unset).toArray = ls at hl ⊢
  have hl : lv_has ls 4 [(0, .ref (am 0)), (1, .int x), (2, .int y), (3, .int bb)] := hl
  refine lv_aload_n hx hb d_M_joined_0 rfl (lv_at hl 0 rfl) ?_
  refine lv_iconst (v := 0) hx hb d_M_joined_1 (by decide) ?_
  refine va_put (D := (dC, dI)) (ci := 4) (v := .int 0) (ty := .int) (C := R_M) (T := F_M) (N := 12) hx hb htb in_M tf_M tok_M n_M hown hK hP hD hS 0 rfl rfl 0 (by decide) (htb _ wd_411) (fun _ h9 => h9) rfl (by decide +kernel) rfl rfl (Nat.le_of_ble_eq_true rfl) d_M_joined_2 (fun H locs hP hD hS => ?_)
  have hP : va_P (dC, dI) vwCl (bz_wM am cI cL cZ (bz_tM t) (0, sv, ex) (S1, S2, S3)) H := hP
  have hD : va_D A (bz_wM am cI cL cZ (bz_tM t) (0, sv, ex) (S1, S2, S3)) := hD
  refine lv_aload_n hx hb d_M_joined_5 rfl (lv_at hl 0 rfl) ?_
  refine lv_iload_n hx hb d_M_joined_6 rfl (lv_at hl 1 rfl) ?_
  refine bz_si (va_runV (As := [.int x]) (rest := []) ⟨hx, hb, hml, hown, htb⟩ (c_M_isArea l dC dI am cI cL cZ t 0 sv ex S1 S2 S3 ht _) (cwV 1 htb (bz_gV wd_473 wd_470 wd_472 wd_6 wd_23) rfl rfl rfl (by decide +kernel) ⟨Nat.le_of_ble_eq_true rfl, Nat.le_of_ble_eq_true rfl⟩) (bz_rv hN hK hP (q0 := 0) rfl rfl) rfl rfl hl.1 rfl (lv_room (Nat.le_of_ble_eq_true rfl)) d_M_joined_7 ⟨Nat.zero_le _, Nat.zero_le _⟩) ?_
  refine lv_if_eq (tgt := 26) hx hb d_M_joined_10 (by decide) (fun c_10 => ?_) (fun c_10 => ?_)
  · skip
    refine lv_iconst (v := 0) hx hb d_M_joined_26 (by decide) ?_
    exact W.zret (v := 0) hx hb hr (rfl) (fun t9 ht9 hW => ⟨⟨0, (), rfl, rfl, by rw [ht9]; exact hP, va_K.moved hW.alike hK, hD⟩, hS.F ht9⟩) hS.2.2 d_M_joined_27
  · skip
    refine lv_aload_n hx hb d_M_joined_13 rfl (lv_at hl 0 rfl) ?_
    refine lv_iload_n hx hb d_M_joined_14 rfl (lv_at hl 2 rfl) ?_
    refine bz_si (va_runV (As := [.int y]) (rest := []) ⟨hx, hb, hml, hown, htb⟩ (c_M_isArea l dC dI am cI cL cZ t 0 sv ex S1 S2 S3 ht _) (cwV 1 htb (bz_gV wd_473 wd_470 wd_472 wd_6 wd_23) rfl rfl rfl (by decide +kernel) ⟨Nat.le_of_ble_eq_true rfl, Nat.le_of_ble_eq_true rfl⟩) (bz_rv hN hK hP (q0 := 0) rfl rfl) rfl rfl hl.1 rfl (lv_room (Nat.le_of_ble_eq_true rfl)) d_M_joined_15 ⟨Nat.zero_le _, Nat.zero_le _⟩) ?_
    refine lv_if_eq (tgt := 26) hx hb d_M_joined_18 (by decide) (fun c_18 => ?_) (fun c_18 => ?_)
    · skip
      refine lv_iconst (v := 0) hx hb d_M_joined_26 (by decide) ?_
      exact W.zret (v := 0) hx hb hr (rfl) (fun t9 ht9 hW => ⟨⟨0, (), rfl, rfl, by rw [ht9]; exact hP, va_K.moved hW.alike hK, hD⟩, hS.F ht9⟩) hS.2.2 d_M_joined_27
    · skip
      refine lv_iload_n hx hb d_M_joined_21 rfl (lv_at hl 1 rfl) ?_
      refine lv_iload_n hx hb d_M_joined_22 rfl (lv_at hl 2 rfl) ?_
      refine lv_icmp_ne (tgt := 28) hx hb d_M_joined_23 (by decide) (fun c_23 => ?_) (fun c_23 => ?_)
      · skip
        exact absurd ⟨bz_i_ne c_10, bz_i_ne c_18, c_23⟩ hz
      · skip
        refine lv_iconst (v := 0) hx hb d_M_joined_26 (by decide) ?_
        exact W.zret (v := 0) hx hb hr (rfl) (fun t9 ht9 hW => ⟨⟨0, (), rfl, rfl, by rw [ht9]; exact hP, va_K.moved hW.alike hK, hD⟩, hS.F ht9⟩) hS.2.2 d_M_joined_27

set_option maxHeartbeats 4000000 in
set_option maxRecDepth 100000 in
/-- joined, as before -/
theorem c_M_joined_sT (l : Launch) (dC : Nat → ClassId) (dI : Nat → Nat → Nat) (sz : Nat) (am : Nat → Nat) (cI cL cZ : ClassId) (t : bz_T) (th sv ex : Int32) (S1 S2 S3 : Nat → Int32) (ht : bz_ok t) (a b : Nat) (ha : a < bz_n t) (hbn : b < bz_n t) (hab : a ≠ b) (hj : bz_j t a b = false) : Met l y_M_joined w_M_joined ({ frames := 1, cells := 0, slots := 0, locals := 21 }) (bz_Pw (dC, dI) [(cI, .int), (cL, .long), (cZ, .boolean)] (bz_wM am cI cL cZ (bz_tM t) (th, sv, ex) (S1, S2, S3)) sz [.ref (am 0), .int (nI (a + 1)), .int (nI (b + 1)), .int 1]) (bz_Qi (dC, dI) [(cI, .int), (cL, .long), (cZ, .boolean)] (va_A (bz_wM am cI cL cZ (bz_tM t) (th, sv, ex) (S1, S2, S3)) sz) (0) (bz_wM am cI cL cZ (bz_tM t) (0, sv, ex) (S1, S2, S3))) 0 0 (va_A (bz_wM am cI cL cZ (bz_tM t) (th, sv, ex) (S1, S2, S3)) sz) := by
  refine Met.ofW (cc := b_M_joined) (maxL := 4) (ret := (some .boolean)) (by decide) rfl ?_
  intro p e s m args below meth c s₁ B hml hv
  obtain ⟨rfl, hsz, hP, hK, hD0, hN⟩ := hv
  have hx := B.exec
  have hb := B.bytes
  have hr := B.returns
  have hts := atoms_spec (ws := w_M_joined) B.pre
  have hown : s.vm.findClass R_M = some m.cls := findClass_of_methodNamed B.named
  have htb : ∀ w ∈ bz_tb, w.before _ s = true := fun w h => hts w (List.mem_cons_of_mem _ h)
  have hlocks := B.notSynchronized
  subst hsz
  have hD := hD0.self (sz := s.heap.size)
  generalize hAe : va_A (bz_wM am cI cL cZ (bz_tM t) (th, sv, ex) (S1, S2, S3)) s.heap.size = A at hD ⊢
  have hA : ∀ q : Nat, s.heap.size ≤ q → A q := fun q h => by rw [← hAe]; exact Or.inr h
  have hS : va_S A s.heap s.heap [] := va_S.rf
  have hl := lv_entry ([.ref (am 0), .int (nI (a + 1)), .int (nI (b + 1)), .int 1]) (n := 4) (Nat.le_of_ble_eq_true rfl)
  rw [lg_entry_eq]
  generalize (lg_sl ([.ref (am 0), .int (nI (a + 1)), .int (nI (b + 1)), .int 1]) ++ List.replicate (4 - (lg_sl ([.ref (am 0), .int (nI (a + 1)), .int (nI (b + 1)), .int 1])).length) Slot.unset).toArray = ls at hl ⊢
  have hl : lv_has ls 4 [(0, .ref (am 0)), (1, .int (nI (a + 1))), (2, .int (nI (b + 1))), (3, .int 1)] := hl
  have hn30 := ht.1
  have hia : bz_ia (bz_n t) (nI (a + 1)) = true := decide_eq_true ⟨(nI_leI (a := 1) (by omega) (by omega)).mpr (by omega), (nI_leI (by omega) (by omega)).mpr (by omega)⟩
  have hib : bz_ia (bz_n t) (nI (b + 1)) = true := decide_eq_true ⟨(nI_leI (a := 1) (by omega) (by omega)).mpr (by omega), (nI_leI (by omega) (by omega)).mpr (by omega)⟩
  refine lv_aload_n hx hb d_M_joined_0 rfl (lv_at hl 0 rfl) ?_
  refine lv_iconst (v := 0) hx hb d_M_joined_1 (by decide) ?_
  refine va_put (D := (dC, dI)) (ci := 4) (v := .int 0) (ty := .int) (C := R_M) (T := F_M) (N := 12) hx hb htb in_M tf_M tok_M n_M hown hK hP hD hS 0 rfl rfl 0 (by decide) (htb _ wd_411) (fun _ h9 => h9) rfl (by decide +kernel) rfl rfl (Nat.le_of_ble_eq_true rfl) d_M_joined_2 (fun H locs hP hD hS => ?_)
  have hP : va_P (dC, dI) vwCl (bz_wM am cI cL cZ (bz_tM t) (0, sv, ex) (S1, S2, S3)) H := hP
  have hD : va_D A (bz_wM am cI cL cZ (bz_tM t) (0, sv, ex) (S1, S2, S3)) := hD
  refine lv_aload_n hx hb d_M_joined_5 rfl (lv_at hl 0 rfl) ?_
  refine lv_iload_n hx hb d_M_joined_6 rfl (lv_at hl 1 rfl) ?_
  refine bz_si (va_runV (As := [.int (nI (a + 1))]) (rest := []) ⟨hx, hb, hml, hown, htb⟩ (c_M_isArea l dC dI am cI cL cZ t 0 sv ex S1 S2 S3 ht _) (cwV 1 htb (bz_gV wd_473 wd_470 wd_472 wd_6 wd_23) rfl rfl rfl (by decide +kernel) ⟨Nat.le_of_ble_eq_true rfl, Nat.le_of_ble_eq_true rfl⟩) (bz_rv hN hK hP (q0 := 0) rfl rfl) rfl rfl hl.1 rfl (lv_room (Nat.le_of_ble_eq_true rfl)) d_M_joined_7 ⟨Nat.zero_le _, Nat.zero_le _⟩) ?_
  refine lv_if_eq (tgt := 26) hx hb d_M_joined_10 (by decide) (fun c_10 => ?_) (fun c_10 => ?_)
  · skip
    exact absurd (bz_i_eq c_10) (by rw [hia]; decide)
  · skip
    refine lv_aload_n hx hb d_M_joined_13 rfl (lv_at hl 0 rfl) ?_
    refine lv_iload_n hx hb d_M_joined_14 rfl (lv_at hl 2 rfl) ?_
    refine bz_si (va_runV (As := [.int (nI (b + 1))]) (rest := []) ⟨hx, hb, hml, hown, htb⟩ (c_M_isArea l dC dI am cI cL cZ t 0 sv ex S1 S2 S3 ht _) (cwV 1 htb (bz_gV wd_473 wd_470 wd_472 wd_6 wd_23) rfl rfl rfl (by decide +kernel) ⟨Nat.le_of_ble_eq_true rfl, Nat.le_of_ble_eq_true rfl⟩) (bz_rv hN hK hP (q0 := 0) rfl rfl) rfl rfl hl.1 rfl (lv_room (Nat.le_of_ble_eq_true rfl)) d_M_joined_15 ⟨Nat.zero_le _, Nat.zero_le _⟩) ?_
    refine lv_if_eq (tgt := 26) hx hb d_M_joined_18 (by decide) (fun c_18 => ?_) (fun c_18 => ?_)
    · skip
      exact absurd (bz_i_eq c_18) (by rw [hib]; decide)
    · skip
      refine lv_iload_n hx hb d_M_joined_21 rfl (lv_at hl 1 rfl) ?_
      refine lv_iload_n hx hb d_M_joined_22 rfl (lv_at hl 2 rfl) ?_
      refine lv_icmp_ne (tgt := 28) hx hb d_M_joined_23 (by decide) (fun c_23 => ?_) (fun c_23 => ?_)
      · skip
        refine lv_aload_n hx hb d_M_joined_28 rfl (lv_at hl 0 rfl) ?_
        refine va_get (D := (dC, dI)) (ci := 4) (v := .ref (am 3)) (C := R_M) (T := F_M) (N := 12) hx hb htb in_M hown hK hP 0 rfl rfl 4 (by decide) (htb _ wd_415) (fun _ h9 => h9) rfl d_M_joined_29 ?_
        refine lv_bipush (v := 30) hx hb d_M_joined_32 (by decide) ?_
        refine lv_iload_n hx hb d_M_joined_34 rfl (lv_at hl 1 rfl) ?_
        refine lv_iconst (v := 1) hx hb d_M_joined_35 (by decide) ?_
        refine lv_isub hx hb d_M_joined_36 ?_
        refine bz_ri (y := nI a) (nI_pred a) ?_
        refine lv_imul hx hb d_M_joined_37 ?_
        refine bz_ri (y := nI (30 * a)) (pk_mul 30 _) ?_
        refine lv_iload_n hx hb d_M_joined_38 rfl (lv_at hl 2 rfl) ?_
        refine lv_iadd hx hb d_M_joined_39 ?_
        refine bz_ri (y := nI (30 * a + (b + 1))) (nI_add _ _) ?_
        refine lv_iconst (v := 1) hx hb d_M_joined_40 (by decide) ?_
        refine lv_isub hx hb d_M_joined_41 ?_
        refine bz_ri (y := nI (30 * a + b)) (nI_pred _) ?_
        refine bz_zald (v := bz_i (bz_j t a b)) hx hb hK hP 3 2 rfl rfl (a9 := (30 * a + b)) (by omega) (by decide) (by show bz_i (bz_j t ((30 * a + b) / 30) ((30 * a + b) % 30)) = _; rw [show (30 * a + b) / 30 = a by omega, show (30 * a + b) % 30 = b by omega]) d_M_joined_42 ?_
        refine lv_iload_n hx hb d_M_joined_43 rfl (lv_at hl 3 rfl) ?_
        refine lv_icmp_ne (tgt := 99) hx hb d_M_joined_44 (by decide) (fun c_44 => ?_) (fun c_44 => ?_)
        · skip
          refine lv_iload_n hx hb d_M_joined_99 rfl (lv_at hl 3 rfl) ?_
          refine lv_if_ne (tgt := 107) hx hb d_M_joined_100 (by decide) (fun c_100 => ?_) (fun c_100 => ?_)
          · skip
            refine lv_iconst (v := 0) hx hb d_M_joined_107 (by decide) ?_
            exact W.zret (v := 0) hx hb hr (rfl) (fun t9 ht9 hW => ⟨⟨0, (), rfl, rfl, by rw [ht9]; exact hP, va_K.moved hW.alike hK, hD⟩, hS.F ht9⟩) hS.2.2 d_M_joined_108
          · skip
            exact absurd c_100 (by decide)
        · skip
          exact absurd c_44 (by rw [hj]; decide)
      · skip
        exact absurd ((nI_eq (by omega) (by omega)).mp c_23) (by omega)

set_option maxHeartbeats 4000000 in
set_option maxRecDepth 100000 in
/-- joined -/
theorem c_M_joined_T (l : Launch) (dC : Nat → ClassId) (dI : Nat → Nat → Nat) (sz : Nat) (am : Nat → Nat) (cI cL cZ : ClassId) (t : bz_T) (th sv ex : Int32) (S1 S2 S3 : Nat → Int32) (ht : bz_ok t) (a b : Nat) (ha : a < bz_n t) (hbn : b < bz_n t) (hab : a ≠ b) (hj : bz_j t a b = true) : Met l y_M_joined w_M_joined ({ frames := 1, cells := 0, slots := 0, locals := 21 }) (bz_Pw (dC, dI) [(cI, .int), (cL, .long), (cZ, .boolean)] (bz_wM am cI cL cZ (bz_tM t) (th, sv, ex) (S1, S2, S3)) sz [.ref (am 0), .int (nI (a + 1)), .int (nI (b + 1)), .int 1]) (bz_Qi (dC, dI) [(cI, .int), (cL, .long), (cZ, .boolean)] (va_A (bz_wM am cI cL cZ (bz_tM t) (th, sv, ex) (S1, S2, S3)) sz) (0) (bz_wM am cI cL cZ (bz_tM (bz_sJ t a b false)) (0, 0, 0) (S1, S2, S3))) 0 0 (va_A (bz_wM am cI cL cZ (bz_tM t) (th, sv, ex) (S1, S2, S3)) sz) := by
  refine Met.ofW (cc := b_M_joined) (maxL := 4) (ret := (some .boolean)) (by decide) rfl ?_
  intro p e s m args below meth c s₁ B hml hv
  obtain ⟨rfl, hsz, hP, hK, hD0, hN⟩ := hv
  have hx := B.exec
  have hb := B.bytes
  have hr := B.returns
  have hts := atoms_spec (ws := w_M_joined) B.pre
  have hown : s.vm.findClass R_M = some m.cls := findClass_of_methodNamed B.named
  have htb : ∀ w ∈ bz_tb, w.before _ s = true := fun w h => hts w (List.mem_cons_of_mem _ h)
  have hlocks := B.notSynchronized
  subst hsz
  have hD := hD0.self (sz := s.heap.size)
  generalize hAe : va_A (bz_wM am cI cL cZ (bz_tM t) (th, sv, ex) (S1, S2, S3)) s.heap.size = A at hD ⊢
  have hA : ∀ q : Nat, s.heap.size ≤ q → A q := fun q h => by rw [← hAe]; exact Or.inr h
  have hS : va_S A s.heap s.heap [] := va_S.rf
  have hl := lv_entry ([.ref (am 0), .int (nI (a + 1)), .int (nI (b + 1)), .int 1]) (n := 4) (Nat.le_of_ble_eq_true rfl)
  rw [lg_entry_eq]
  generalize (lg_sl ([.ref (am 0), .int (nI (a + 1)), .int (nI (b + 1)), .int 1]) ++ List.replicate (4 - (lg_sl ([.ref (am 0), .int (nI (a + 1)), .int (nI (b + 1)), .int 1])).length) Slot.unset).toArray = ls at hl ⊢
  have hl : lv_has ls 4 [(0, .ref (am 0)), (1, .int (nI (a + 1))), (2, .int (nI (b + 1))), (3, .int 1)] := hl
  have hn30 := ht.1
  have hia : bz_ia (bz_n t) (nI (a + 1)) = true := decide_eq_true ⟨(nI_leI (a := 1) (by omega) (by omega)).mpr (by omega), (nI_leI (by omega) (by omega)).mpr (by omega)⟩
  have hib : bz_ia (bz_n t) (nI (b + 1)) = true := decide_eq_true ⟨(nI_leI (a := 1) (by omega) (by omega)).mpr (by omega), (nI_leI (by omega) (by omega)).mpr (by omega)⟩
  refine lv_aload_n hx hb d_M_joined_0 rfl (lv_at hl 0 rfl) ?_
  refine lv_iconst (v := 0) hx hb d_M_joined_1 (by decide) ?_
  refine va_put (D := (dC, dI)) (ci := 4) (v := .int 0) (ty := .int) (C := R_M) (T := F_M) (N := 12) hx hb htb in_M tf_M tok_M n_M hown hK hP hD hS 0 rfl rfl 0 (by decide) (htb _ wd_411) (fun _ h9 => h9) rfl (by decide +kernel) rfl rfl (Nat.le_of_ble_eq_true rfl) d_M_joined_2 (fun H locs hP hD hS => ?_)
  have hP : va_P (dC, dI) vwCl (bz_wM am cI cL cZ (bz_tM t) (0, sv, ex) (S1, S2, S3)) H := hP
  have hD : va_D A (bz_wM am cI cL cZ (bz_tM t) (0, sv, ex) (S1, S2, S3)) := hD
  refine lv_aload_n hx hb d_M_joined_5 rfl (lv_at hl 0 rfl) ?_
  refine lv_iload_n hx hb d_M_joined_6 rfl (lv_at hl 1 rfl) ?_
  refine bz_si (va_runV (As := [.int (nI (a + 1))]) (rest := []) ⟨hx, hb, hml, hown, htb⟩ (c_M_isArea l dC dI am cI cL cZ t 0 sv ex S1 S2 S3 ht _) (cwV 1 htb (bz_gV wd_473 wd_470 wd_472 wd_6 wd_23) rfl rfl rfl (by decide +kernel) ⟨Nat.le_of_ble_eq_true rfl, Nat.le_of_ble_eq_true rfl⟩) (bz_rv hN hK hP (q0 := 0) rfl rfl) rfl rfl hl.1 rfl (lv_room (Nat.le_of_ble_eq_true rfl)) d_M_joined_7 ⟨Nat.zero_le _, Nat.zero_le _⟩) ?_
  refine lv_if_eq (tgt := 26) hx hb d_M_joined_10 (by decide) (fun c_10 => ?_) (fun c_10 => ?_)
  · skip
    exact absurd (bz_i_eq c_10) (by rw [hia]; decide)
  · skip
    refine lv_aload_n hx hb d_M_joined_13 rfl (lv_at hl 0 rfl) ?_
    refine lv_iload_n hx hb d_M_joined_14 rfl (lv_at hl 2 rfl) ?_
    refine bz_si (va_runV (As := [.int (nI (b + 1))]) (rest := []) ⟨hx, hb, hml, hown, htb⟩ (c_M_isArea l dC dI am cI cL cZ t 0 sv ex S1 S2 S3 ht _) (cwV 1 htb (bz_gV wd_473 wd_470 wd_472 wd_6 wd_23) rfl rfl rfl (by decide +kernel) ⟨Nat.le_of_ble_eq_true rfl, Nat.le_of_ble_eq_true rfl⟩) (bz_rv hN hK hP (q0 := 0) rfl rfl) rfl rfl hl.1 rfl (lv_room (Nat.le_of_ble_eq_true rfl)) d_M_joined_15 ⟨Nat.zero_le _, Nat.zero_le _⟩) ?_
    refine lv_if_eq (tgt := 26) hx hb d_M_joined_18 (by decide) (fun c_18 => ?_) (fun c_18 => ?_)
    · skip
      exact absurd (bz_i_eq c_18) (by rw [hib]; decide)
    · skip
      refine lv_iload_n hx hb d_M_joined_21 rfl (lv_at hl 1 rfl) ?_
      refine lv_iload_n hx hb d_M_joined_22 rfl (lv_at hl 2 rfl) ?_
      refine lv_icmp_ne (tgt := 28) hx hb d_M_joined_23 (by decide) (fun c_23 => ?_) (fun c_23 => ?_)
      · skip
        refine lv_aload_n hx hb d_M_joined_28 rfl (lv_at hl 0 rfl) ?_
        refine va_get (D := (dC, dI)) (ci := 4) (v := .ref (am 3)) (C := R_M) (T := F_M) (N := 12) hx hb htb in_M hown hK hP 0 rfl rfl 4 (by decide) (htb _ wd_415) (fun _ h9 => h9) rfl d_M_joined_29 ?_
        refine lv_bipush (v := 30) hx hb d_M_joined_32 (by decide) ?_
        refine lv_iload_n hx hb d_M_joined_34 rfl (lv_at hl 1 rfl) ?_
        refine lv_iconst (v := 1) hx hb d_M_joined_35 (by decide) ?_
        refine lv_isub hx hb d_M_joined_36 ?_
        refine bz_ri (y := nI a) (nI_pred a) ?_
        refine lv_imul hx hb d_M_joined_37 ?_
        refine bz_ri (y := nI (30 * a)) (pk_mul 30 _) ?_
        refine lv_iload_n hx hb d_M_joined_38 rfl (lv_at hl 2 rfl) ?_
        refine lv_iadd hx hb d_M_joined_39 ?_
        refine bz_ri (y := nI (30 * a + (b + 1))) (nI_add _ _) ?_
        refine lv_iconst (v := 1) hx hb d_M_joined_40 (by decide) ?_
        refine lv_isub hx hb d_M_joined_41 ?_
        refine bz_ri (y := nI (30 * a + b)) (nI_pred _) ?_
        refine bz_zald (v := bz_i (bz_j t a b)) hx hb hK hP 3 2 rfl rfl (a9 := (30 * a + b)) (by omega) (by decide) (by show bz_i (bz_j t ((30 * a + b) / 30) ((30 * a + b) % 30)) = _; rw [show (30 * a + b) / 30 = a by omega, show (30 * a + b) % 30 = b by omega]) d_M_joined_42 ?_
        refine lv_iload_n hx hb d_M_joined_43 rfl (lv_at hl 3 rfl) ?_
        refine lv_icmp_ne (tgt := 99) hx hb d_M_joined_44 (by decide) (fun c_44 => ?_) (fun c_44 => ?_)
        · skip
          exact absurd (by rw [hj]; rfl) c_44
        · skip
          refine lv_aload_n hx hb d_M_joined_47 rfl (lv_at hl 0 rfl) ?_
          refine va_get (D := (dC, dI)) (ci := 4) (v := .ref (am 3)) (C := R_M) (T := F_M) (N := 12) hx hb htb in_M hown hK hP 0 rfl rfl 4 (by decide) (htb _ wd_415) (fun _ h9 => h9) rfl d_M_joined_48 ?_
          refine lv_bipush (v := 30) hx hb d_M_joined_51 (by decide) ?_
          refine lv_iload_n hx hb d_M_joined_53 rfl (lv_at hl 1 rfl) ?_
          refine lv_iconst (v := 1) hx hb d_M_joined_54 (by decide) ?_
          refine lv_isub hx hb d_M_joined_55 ?_
          refine bz_ri (y := nI a) (nI_pred a) ?_
          refine lv_imul hx hb d_M_joined_56 ?_
          refine bz_ri (y := nI (30 * a)) (pk_mul 30 _) ?_
          refine lv_iload_n hx hb d_M_joined_57 rfl (lv_at hl 2 rfl) ?_
          refine lv_iadd hx hb d_M_joined_58 ?_
          refine bz_ri (y := nI (30 * a + (b + 1))) (nI_add _ _) ?_
          refine lv_iconst (v := 1) hx hb d_M_joined_59 (by decide) ?_
          refine lv_isub hx hb d_M_joined_60 ?_
          refine bz_ri (y := nI (30 * a + b)) (nI_pred _) ?_
          refine lv_iload_n hx hb d_M_joined_61 rfl (lv_at hl 3 rfl) ?_
          refine lv_if_ne (tgt := 69) hx hb d_M_joined_62 (by decide) (fun c_62 => ?_) (fun c_62 => ?_)
          · skip
            refine lv_iconst (v := 0) hx hb d_M_joined_69 (by decide) ?_
            refine bz_zast (b9 := false) hx hb hK hP hD hS 3 2 rfl rfl (a9 := (30 * a + b)) (by omega) (by decide) (rfl) d_M_joined_70 (fun H locs hP hD hS => ?_)
            have hP : va_P (dC, dI) vwCl (bz_wM am cI cL cZ ((bz_tM t).1, (bz_tM t).2.1, (upd ((bz_tM t).2.2.1) (30 * a + b) (bz_i false)), (bz_tM t).2.2.2.1, (bz_tM t).2.2.2.2.1, nI (bz_n t)) (0, sv, ex) (S1, S2, S3)) H := hP
            have hD : va_D A (bz_wM am cI cL cZ ((bz_tM t).1, (bz_tM t).2.1, (upd ((bz_tM t).2.2.1) (30 * a + b) (bz_i false)), (bz_tM t).2.2.2.1, (bz_tM t).2.2.2.2.1, nI (bz_n t)) (0, sv, ex) (S1, S2, S3)) := hD
            refine lv_aload_n hx hb d_M_joined_71 rfl (lv_at hl 0 rfl) ?_
            refine va_get (D := (dC, dI)) (ci := 4) (v := .ref (am 3)) (C := R_M) (T := F_M) (N := 12) hx hb htb in_M hown hK hP 0 rfl rfl 4 (by decide) (htb _ wd_415) (fun _ h9 => h9) rfl d_M_joined_72 ?_
            refine lv_bipush (v := 30) hx hb d_M_joined_75 (by decide) ?_
            refine lv_iload_n hx hb d_M_joined_77 rfl (lv_at hl 2 rfl) ?_
            refine lv_iconst (v := 1) hx hb d_M_joined_78 (by decide) ?_
            refine lv_isub hx hb d_M_joined_79 ?_
            refine bz_ri (y := nI b) (nI_pred b) ?_
            refine lv_imul hx hb d_M_joined_80 ?_
            refine bz_ri (y := nI (30 * b)) (pk_mul 30 _) ?_
            refine lv_iload_n hx hb d_M_joined_81 rfl (lv_at hl 1 rfl) ?_
            refine lv_iadd hx hb d_M_joined_82 ?_
            refine bz_ri (y := nI (30 * b + (a + 1))) (nI_add _ _) ?_
            refine lv_iconst (v := 1) hx hb d_M_joined_83 (by decide) ?_
            refine lv_isub hx hb d_M_joined_84 ?_
            refine bz_ri (y := nI (30 * b + a)) (nI_pred _) ?_
            refine lv_iload_n hx hb d_M_joined_85 rfl (lv_at hl 3 rfl) ?_
            refine lv_if_ne (tgt := 93) hx hb d_M_joined_86 (by decide) (fun c_86 => ?_) (fun c_86 => ?_)
            · skip
              refine lv_iconst (v := 0) hx hb d_M_joined_93 (by decide) ?_
              refine bz_zast (b9 := false) hx hb hK hP hD hS 3 2 rfl rfl (a9 := (30 * b + a)) (by omega) (by decide) (rfl) d_M_joined_94 (fun H locs hP hD hS => ?_)
              have hP : va_P (dC, dI) vwCl (bz_wM am cI cL cZ ((bz_tM t).1, (bz_tM t).2.1, (upd (upd ((bz_tM t).2.2.1) (30 * a + b) (bz_i false)) (30 * b + a) (bz_i false)), (bz_tM t).2.2.2.1, (bz_tM t).2.2.2.2.1, nI (bz_n t)) (0, sv, ex) (S1, S2, S3)) H := hP
              have hD : va_D A (bz_wM am cI cL cZ ((bz_tM t).1, (bz_tM t).2.1, (upd (upd ((bz_tM t).2.2.1) (30 * a + b) (bz_i false)) (30 * b + a) (bz_i false)), (bz_tM t).2.2.2.1, (bz_tM t).2.2.2.2.1, nI (bz_n t)) (0, sv, ex) (S1, S2, S3)) := hD
              refine lv_aload_n hx hb d_M_joined_95 rfl (lv_at hl 0 rfl) ?_
              refine bz_cv (va_runV (As := []) (rest := []) ⟨hx, hb, hml, hown, htb⟩ (c_M_changes l dC dI _ am cI cL cZ ((bz_tM t).1, (bz_tM t).2.1, (upd (upd ((bz_tM t).2.2.1) (30 * a + b) (bz_i false)) (30 * b + a) (bz_i false)), (bz_tM t).2.2.2.1, (bz_tM t).2.2.2.2.1, nI (bz_n t)) 0 sv ex S1 S2 S3) (cwV 0 htb (bz_gV wd_465 wd_462 wd_464 wd_5 wd_23) rfl rfl rfl (by decide +kernel) ⟨Nat.le_of_ble_eq_true rfl, Nat.le_of_ble_eq_true rfl⟩) (bz_wv hN hK hP hD (q0 := 0) rfl rfl) rfl rfl hl.1 rfl (lv_room (Nat.le_of_ble_eq_true rfl)) d_M_joined_96 ⟨Nat.zero_le _, Nat.zero_le _⟩) hD hS hA (fun H locs hP hD hS => ?_)
              have hP : va_P (dC, dI) vwCl (bz_wM am cI cL cZ ((bz_tM t).1, (bz_tM t).2.1, (upd (upd ((bz_tM t).2.2.1) (30 * a + b) (bz_i false)) (30 * b + a) (bz_i false)), (bz_tM t).2.2.2.1, (bz_tM t).2.2.2.2.1, nI (bz_n t)) (0, 0, 0) (S1, S2, S3)) H := hP
              have hD : va_D A (bz_wM am cI cL cZ ((bz_tM t).1, (bz_tM t).2.1, (upd (upd ((bz_tM t).2.2.1) (30 * a + b) (bz_i false)) (30 * b + a) (bz_i false)), (bz_tM t).2.2.2.1, (bz_tM t).2.2.2.2.1, nI (bz_n t)) (0, 0, 0) (S1, S2, S3)) := hD
              refine lv_iload_n hx hb d_M_joined_99 rfl (lv_at hl 3 rfl) ?_
              refine lv_if_ne (tgt := 107) hx hb d_M_joined_100 (by decide) (fun c_100 => ?_) (fun c_100 => ?_)
              · skip
                refine lv_iconst (v := 0) hx hb d_M_joined_107 (by decide) ?_
                have e9 : bz_tM (bz_sJ t a b false) = ((bz_tM t).1, (bz_tM t).2.1, (upd (upd ((bz_tM t).2.2.1) (30 * a + b) (bz_i false)) (30 * b + a) (bz_i false)), (bz_tM t).2.2.2.1, (bz_tM t).2.2.2.2.1, nI (bz_n t)) := bz_sJ_M t (by omega) (by omega) false
                rw [← e9] at hP hD
                exact W.zret (v := 0) hx hb hr (rfl) (fun t9 ht9 hW => ⟨⟨0, (), rfl, rfl, by rw [ht9]; exact hP, va_K.moved hW.alike hK, hD⟩, hS.F ht9⟩) hS.2.2 d_M_joined_108
              · skip
                exact absurd c_100 (by decide)
            · skip
              exact absurd c_86 (by decide)
          · skip
            exact absurd c_62 (by decide)
      · skip
        exact absurd ((nI_eq (by omega) (by omega)).mp c_23) (by omega)

set_option maxHeartbeats 4000000 in
set_option maxRecDepth 100000 in
/-- joined, as before -/
theorem c_M_joined_sF (l : Launch) (dC : Nat → ClassId) (dI : Nat → Nat → Nat) (sz : Nat) (am : Nat → Nat) (cI cL cZ : ClassId) (t : bz_T) (th sv ex : Int32) (S1 S2 S3 : Nat → Int32) (ht : bz_ok t) (a b : Nat) (ha : a < bz_n t) (hbn : b < bz_n t) (hab : a ≠ b) (hj : bz_j t a b = true) : Met l y_M_joined w_M_joined ({ frames := 1, cells := 0, slots := 0, locals := 21 }) (bz_Pw (dC, dI) [(cI, .int), (cL, .long), (cZ, .boolean)] (bz_wM am cI cL cZ (bz_tM t) (th, sv, ex) (S1, S2, S3)) sz [.ref (am 0), .int (nI (a + 1)), .int (nI (b + 1)), .int 0]) (bz_Qi (dC, dI) [(cI, .int), (cL, .long), (cZ, .boolean)] (va_A (bz_wM am cI cL cZ (bz_tM t) (th, sv, ex) (S1, S2, S3)) sz) (1) (bz_wM am cI cL cZ (bz_tM t) (0, sv, ex) (S1, S2, S3))) 0 0 (va_A (bz_wM am cI cL cZ (bz_tM t) (th, sv, ex) (S1, S2, S3)) sz) := by
  refine Met.ofW (cc := b_M_joined) (maxL := 4) (ret := (some .boolean)) (by decide) rfl ?_
  intro p e s m args below meth c s₁ B hml hv
  obtain ⟨rfl, hsz, hP, hK, hD0, hN⟩ := hv
  have hx := B.exec
  have hb := B.bytes
  have hr := B.returns
  have hts := atoms_spec (ws := w_M_joined) B.pre
  have hown : s.vm.findClass R_M = some m.cls := findClass_of_methodNamed B.named
  have htb : ∀ w ∈ bz_tb, w.before _ s = true := fun w h => hts w (List.mem_cons_of_mem _ h)
  have hlocks := B.notSynchronized
  subst hsz
  have hD := hD0.self (sz := s.heap.size)
  generalize hAe : va_A (bz_wM am cI cL cZ (bz_tM t) (th, sv, ex) (S1, S2, S3)) s.heap.size = A at hD ⊢
  have hA : ∀ q : Nat, s.heap.size ≤ q → A q := fun q h => by rw [← hAe]; exact Or.inr h
  have hS : va_S A s.heap s.heap [] := va_S.rf
  have hl := lv_entry ([.ref (am 0), .int (nI (a + 1)), .int (nI (b + 1)), .int 0]) (n := 4) (Nat.le_of_ble_eq_true rfl)
  rw [lg_entry_eq]
  generalize (lg_sl ([.ref (am 0), .int (nI (a + 1)), .int (nI (b + 1)), .int 0]) ++ List.replicate (4 - (lg_sl ([.ref (am 0), .int (nI (a + 1)), .int (nI (b + 1)), .int 0])).length) Slot.unset).toArray = ls at hl ⊢
  have hl : lv_has ls 4 [(0, .ref (am 0)), (1, .int (nI (a + 1))), (2, .int (nI (b + 1))), (3, .int 0)] := hl
  have hn30 := ht.1
  have hia : bz_ia (bz_n t) (nI (a + 1)) = true := decide_eq_true ⟨(nI_leI (a := 1) (by omega) (by omega)).mpr (by omega), (nI_leI (by omega) (by omega)).mpr (by omega)⟩
  have hib : bz_ia (bz_n t) (nI (b + 1)) = true := decide_eq_true ⟨(nI_leI (a := 1) (by omega) (by omega)).mpr (by omega), (nI_leI (by omega) (by omega)).mpr (by omega)⟩
  refine lv_aload_n hx hb d_M_joined_0 rfl (lv_at hl 0 rfl) ?_
  refine lv_iconst (v := 0) hx hb d_M_joined_1 (by decide) ?_
  refine va_put (D := (dC, dI)) (ci := 4) (v := .int 0) (ty := .int) (C := R_M) (T := F_M) (N := 12) hx hb htb in_M tf_M tok_M n_M hown hK hP hD hS 0 rfl rfl 0 (by decide) (htb _ wd_411) (fun _ h9 => h9) rfl (by decide +kernel) rfl rfl (Nat.le_of_ble_eq_true rfl) d_M_joined_2 (fun H locs hP hD hS => ?_)
  have hP : va_P (dC, dI) vwCl (bz_wM am cI cL cZ (bz_tM t) (0, sv, ex) (S1, S2, S3)) H := hP
  have hD : va_D A (bz_wM am cI cL cZ (bz_tM t) (0, sv, ex) (S1, S2, S3)) := hD
  refine lv_aload_n hx hb d_M_joined_5 rfl (lv_at hl 0 rfl) ?_
  refine lv_iload_n hx hb d_M_joined_6 rfl (lv_at hl 1 rfl) ?_
  refine bz_si (va_runV (As := [.int (nI (a + 1))]) (rest := []) ⟨hx, hb, hml, hown, htb⟩ (c_M_isArea l dC dI am cI cL cZ t 0 sv ex S1 S2 S3 ht _) (cwV 1 htb (bz_gV wd_473 wd_470 wd_472 wd_6 wd_23) rfl rfl rfl (by decide +kernel) ⟨Nat.le_of_ble_eq_true rfl, Nat.le_of_ble_eq_true rfl⟩) (bz_rv hN hK hP (q0 := 0) rfl rfl) rfl rfl hl.1 rfl (lv_room (Nat.le_of_ble_eq_true rfl)) d_M_joined_7 ⟨Nat.zero_le _, Nat.zero_le _⟩) ?_
  refine lv_if_eq (tgt := 26) hx hb d_M_joined_10 (by decide) (fun c_10 => ?_) (fun c_10 => ?_)
  · skip
    exact absurd (bz_i_eq c_10) (by rw [hia]; decide)
  · skip
    refine lv_aload_n hx hb d_M_joined_13 rfl (lv_at hl 0 rfl) ?_
    refine lv_iload_n hx hb d_M_joined_14 rfl (lv_at hl 2 rfl) ?_
    refine bz_si (va_runV (As := [.int (nI (b + 1))]) (rest := []) ⟨hx, hb, hml, hown, htb⟩ (c_M_isArea l dC dI am cI cL cZ t 0 sv ex S1 S2 S3 ht _) (cwV 1 htb (bz_gV wd_473 wd_470 wd_472 wd_6 wd_23) rfl rfl rfl (by decide +kernel) ⟨Nat.le_of_ble_eq_true rfl, Nat.le_of_ble_eq_true rfl⟩) (bz_rv hN hK hP (q0 := 0) rfl rfl) rfl rfl hl.1 rfl (lv_room (Nat.le_of_ble_eq_true rfl)) d_M_joined_15 ⟨Nat.zero_le _, Nat.zero_le _⟩) ?_
    refine lv_if_eq (tgt := 26) hx hb d_M_joined_18 (by decide) (fun c_18 => ?_) (fun c_18 => ?_)
    · skip
      exact absurd (bz_i_eq c_18) (by rw [hib]; decide)
    · skip
      refine lv_iload_n hx hb d_M_joined_21 rfl (lv_at hl 1 rfl) ?_
      refine lv_iload_n hx hb d_M_joined_22 rfl (lv_at hl 2 rfl) ?_
      refine lv_icmp_ne (tgt := 28) hx hb d_M_joined_23 (by decide) (fun c_23 => ?_) (fun c_23 => ?_)
      · skip
        refine lv_aload_n hx hb d_M_joined_28 rfl (lv_at hl 0 rfl) ?_
        refine va_get (D := (dC, dI)) (ci := 4) (v := .ref (am 3)) (C := R_M) (T := F_M) (N := 12) hx hb htb in_M hown hK hP 0 rfl rfl 4 (by decide) (htb _ wd_415) (fun _ h9 => h9) rfl d_M_joined_29 ?_
        refine lv_bipush (v := 30) hx hb d_M_joined_32 (by decide) ?_
        refine lv_iload_n hx hb d_M_joined_34 rfl (lv_at hl 1 rfl) ?_
        refine lv_iconst (v := 1) hx hb d_M_joined_35 (by decide) ?_
        refine lv_isub hx hb d_M_joined_36 ?_
        refine bz_ri (y := nI a) (nI_pred a) ?_
        refine lv_imul hx hb d_M_joined_37 ?_
        refine bz_ri (y := nI (30 * a)) (pk_mul 30 _) ?_
        refine lv_iload_n hx hb d_M_joined_38 rfl (lv_at hl 2 rfl) ?_
        refine lv_iadd hx hb d_M_joined_39 ?_
        refine bz_ri (y := nI (30 * a + (b + 1))) (nI_add _ _) ?_
        refine lv_iconst (v := 1) hx hb d_M_joined_40 (by decide) ?_
        refine lv_isub hx hb d_M_joined_41 ?_
        refine bz_ri (y := nI (30 * a + b)) (nI_pred _) ?_
        refine bz_zald (v := bz_i (bz_j t a b)) hx hb hK hP 3 2 rfl rfl (a9 := (30 * a + b)) (by omega) (by decide) (by show bz_i (bz_j t ((30 * a + b) / 30) ((30 * a + b) % 30)) = _; rw [show (30 * a + b) / 30 = a by omega, show (30 * a + b) % 30 = b by omega]) d_M_joined_42 ?_
        refine lv_iload_n hx hb d_M_joined_43 rfl (lv_at hl 3 rfl) ?_
        refine lv_icmp_ne (tgt := 99) hx hb d_M_joined_44 (by decide) (fun c_44 => ?_) (fun c_44 => ?_)
        · skip
          refine lv_iload_n hx hb d_M_joined_99 rfl (lv_at hl 3 rfl) ?_
          refine lv_if_ne (tgt := 107) hx hb d_M_joined_100 (by decide) (fun c_100 => ?_) (fun c_100 => ?_)
          · skip
            exact absurd (by decide) c_100
          · skip
            refine lv_iconst (v := 1) hx hb d_M_joined_103 (by decide) ?_
            refine lv_goto (tgt := 108) hx hb d_M_joined_104 (by decide) ?_
            exact W.zret (v := 1) hx hb hr (rfl) (fun t9 ht9 hW => ⟨⟨1, (), rfl, rfl, by rw [ht9]; exact hP, va_K.moved hW.alike hK, hD⟩, hS.F ht9⟩) hS.2.2 d_M_joined_108
        · skip
          exact absurd c_44 (by rw [hj]; decide)
      · skip
        exact absurd ((nI_eq (by omega) (by omega)).mp c_23) (by omega)

set_option maxHeartbeats 4000000 in
set_option maxRecDepth 100000 in
/-- joined -/
theorem c_M_joined_F (l : Launch) (dC : Nat → ClassId) (dI : Nat → Nat → Nat) (sz : Nat) (am : Nat → Nat) (cI cL cZ : ClassId) (t : bz_T) (th sv ex : Int32) (S1 S2 S3 : Nat → Int32) (ht : bz_ok t) (a b : Nat) (ha : a < bz_n t) (hbn : b < bz_n t) (hab : a ≠ b) (hj : bz_j t a b = false) : Met l y_M_joined w_M_joined ({ frames := 1, cells := 0, slots := 0, locals := 21 }) (bz_Pw (dC, dI) [(cI, .int), (cL, .long), (cZ, .boolean)] (bz_wM am cI cL cZ (bz_tM t) (th, sv, ex) (S1, S2, S3)) sz [.ref (am 0), .int (nI (a + 1)), .int (nI (b + 1)), .int 0]) (bz_Qi (dC, dI) [(cI, .int), (cL, .long), (cZ, .boolean)] (va_A (bz_wM am cI cL cZ (bz_tM t) (th, sv, ex) (S1, S2, S3)) sz) (1) (bz_wM am cI cL cZ (bz_tM (bz_sJ t a b true)) (0, 0, 0) (S1, S2, S3))) 0 0 (va_A (bz_wM am cI cL cZ (bz_tM t) (th, sv, ex) (S1, S2, S3)) sz) := by
  refine Met.ofW (cc := b_M_joined) (maxL := 4) (ret := (some .boolean)) (by decide) rfl ?_
  intro p e s m args below meth c s₁ B hml hv
  obtain ⟨rfl, hsz, hP, hK, hD0, hN⟩ := hv
  have hx := B.exec
  have hb := B.bytes
  have hr := B.returns
  have hts := atoms_spec (ws := w_M_joined) B.pre
  have hown : s.vm.findClass R_M = some m.cls := findClass_of_methodNamed B.named
  have htb : ∀ w ∈ bz_tb, w.before _ s = true := fun w h => hts w (List.mem_cons_of_mem _ h)
  have hlocks := B.notSynchronized
  subst hsz
  have hD := hD0.self (sz := s.heap.size)
  generalize hAe : va_A (bz_wM am cI cL cZ (bz_tM t) (th, sv, ex) (S1, S2, S3)) s.heap.size = A at hD ⊢
  have hA : ∀ q : Nat, s.heap.size ≤ q → A q := fun q h => by rw [← hAe]; exact Or.inr h
  have hS : va_S A s.heap s.heap [] := va_S.rf
  have hl := lv_entry ([.ref (am 0), .int (nI (a + 1)), .int (nI (b + 1)), .int 0]) (n := 4) (Nat.le_of_ble_eq_true rfl)
  rw [lg_entry_eq]
  generalize (lg_sl ([.ref (am 0), .int (nI (a + 1)), .int (nI (b + 1)), .int 0]) ++ List.replicate (4 - (lg_sl ([.ref (am 0), .int (nI (a + 1)), .int (nI (b + 1)), .int 0])).length) Slot.unset).toArray = ls at hl ⊢
  have hl : lv_has ls 4 [(0, .ref (am 0)), (1, .int (nI (a + 1))), (2, .int (nI (b + 1))), (3, .int 0)] := hl
  have hn30 := ht.1
  have hia : bz_ia (bz_n t) (nI (a + 1)) = true := decide_eq_true ⟨(nI_leI (a := 1) (by omega) (by omega)).mpr (by omega), (nI_leI (by omega) (by omega)).mpr (by omega)⟩
  have hib : bz_ia (bz_n t) (nI (b + 1)) = true := decide_eq_true ⟨(nI_leI (a := 1) (by omega) (by omega)).mpr (by omega), (nI_leI (by omega) (by omega)).mpr (by omega)⟩
  refine lv_aload_n hx hb d_M_joined_0 rfl (lv_at hl 0 rfl) ?_
  refine lv_iconst (v := 0) hx hb d_M_joined_1 (by decide) ?_
  refine va_put (D := (dC, dI)) (ci := 4) (v := .int 0) (ty := .int) (C := R_M) (T := F_M) (N := 12) hx hb htb in_M tf_M tok_M n_M hown hK hP hD hS 0 rfl rfl 0 (by decide) (htb _ wd_411) (fun _ h9 => h9) rfl (by decide +kernel) rfl rfl (Nat.le_of_ble_eq_true rfl) d_M_joined_2 (fun H locs hP hD hS => ?_)
  have hP : va_P (dC, dI) vwCl (bz_wM am cI cL cZ (bz_tM t) (0, sv, ex) (S1, S2, S3)) H := hP
  have hD : va_D A (bz_wM am cI cL cZ (bz_tM t) (0, sv, ex) (S1, S2, S3)) := hD
  refine lv_aload_n hx hb d_M_joined_5 rfl (lv_at hl 0 rfl) ?_
  refine lv_iload_n hx hb d_M_joined_6 rfl (lv_at hl 1 rfl) ?_
  refine bz_si (va_runV (As := [.int (nI (a + 1))]) (rest := []) ⟨hx, hb, hml, hown, htb⟩ (c_M_isArea l dC dI am cI cL cZ t 0 sv ex S1 S2 S3 ht _) (cwV 1 htb (bz_gV wd_473 wd_470 wd_472 wd_6 wd_23) rfl rfl rfl (by decide +kernel) ⟨Nat.le_of_ble_eq_true rfl, Nat.le_of_ble_eq_true rfl⟩) (bz_rv hN hK hP (q0 := 0) rfl rfl) rfl rfl hl.1 rfl (lv_room (Nat.le_of_ble_eq_true rfl)) d_M_joined_7 ⟨Nat.zero_le _, Nat.zero_le _⟩) ?_
  refine lv_if_eq (tgt := 26) hx hb d_M_joined_10 (by decide) (fun c_10 => ?_) (fun c_10 => ?_)
  · skip
    exact absurd (bz_i_eq c_10) (by rw [hia]; decide)
  · skip
    refine lv_aload_n hx hb d_M_joined_13 rfl (lv_at hl 0 rfl) ?_
    refine lv_iload_n hx hb d_M_joined_14 rfl (lv_at hl 2 rfl) ?_
    refine bz_si (va_runV (As := [.int (nI (b + 1))]) (rest := []) ⟨hx, hb, hml, hown, htb⟩ (c_M_isArea l dC dI am cI cL cZ t 0 sv ex S1 S2 S3 ht _) (cwV 1 htb (bz_gV wd_473 wd_470 wd_472 wd_6 wd_23) rfl rfl rfl (by decide +kernel) ⟨Nat.le_of_ble_eq_true rfl, Nat.le_of_ble_eq_true rfl⟩) (bz_rv hN hK hP (q0 := 0) rfl rfl) rfl rfl hl.1 rfl (lv_room (Nat.le_of_ble_eq_true rfl)) d_M_joined_15 ⟨Nat.zero_le _, Nat.zero_le _⟩) ?_
    refine lv_if_eq (tgt := 26) hx hb d_M_joined_18 (by decide) (fun c_18 => ?_) (fun c_18 => ?_)
    · skip
      exact absurd (bz_i_eq c_18) (by rw [hib]; decide)
    · skip
      refine lv_iload_n hx hb d_M_joined_21 rfl (lv_at hl 1 rfl) ?_
      refine lv_iload_n hx hb d_M_joined_22 rfl (lv_at hl 2 rfl) ?_
      refine lv_icmp_ne (tgt := 28) hx hb d_M_joined_23 (by decide) (fun c_23 => ?_) (fun c_23 => ?_)
      · skip
        refine lv_aload_n hx hb d_M_joined_28 rfl (lv_at hl 0 rfl) ?_
        refine va_get (D := (dC, dI)) (ci := 4) (v := .ref (am 3)) (C := R_M) (T := F_M) (N := 12) hx hb htb in_M hown hK hP 0 rfl rfl 4 (by decide) (htb _ wd_415) (fun _ h9 => h9) rfl d_M_joined_29 ?_
        refine lv_bipush (v := 30) hx hb d_M_joined_32 (by decide) ?_
        refine lv_iload_n hx hb d_M_joined_34 rfl (lv_at hl 1 rfl) ?_
        refine lv_iconst (v := 1) hx hb d_M_joined_35 (by decide) ?_
        refine lv_isub hx hb d_M_joined_36 ?_
        refine bz_ri (y := nI a) (nI_pred a) ?_
        refine lv_imul hx hb d_M_joined_37 ?_
        refine bz_ri (y := nI (30 * a)) (pk_mul 30 _) ?_
        refine lv_iload_n hx hb d_M_joined_38 rfl (lv_at hl 2 rfl) ?_
        refine lv_iadd hx hb d_M_joined_39 ?_
        refine bz_ri (y := nI (30 * a + (b + 1))) (nI_add _ _) ?_
        refine lv_iconst (v := 1) hx hb d_M_joined_40 (by decide) ?_
        refine lv_isub hx hb d_M_joined_41 ?_
        refine bz_ri (y := nI (30 * a + b)) (nI_pred _) ?_
        refine bz_zald (v := bz_i (bz_j t a b)) hx hb hK hP 3 2 rfl rfl (a9 := (30 * a + b)) (by omega) (by decide) (by show bz_i (bz_j t ((30 * a + b) / 30) ((30 * a + b) % 30)) = _; rw [show (30 * a + b) / 30 = a by omega, show (30 * a + b) % 30 = b by omega]) d_M_joined_42 ?_
        refine lv_iload_n hx hb d_M_joined_43 rfl (lv_at hl 3 rfl) ?_
        refine lv_icmp_ne (tgt := 99) hx hb d_M_joined_44 (by decide) (fun c_44 => ?_) (fun c_44 => ?_)
        · skip
          exact absurd (by rw [hj]; rfl) c_44
        · skip
          refine lv_aload_n hx hb d_M_joined_47 rfl (lv_at hl 0 rfl) ?_
          refine va_get (D := (dC, dI)) (ci := 4) (v := .ref (am 3)) (C := R_M) (T := F_M) (N := 12) hx hb htb in_M hown hK hP 0 rfl rfl 4 (by decide) (htb _ wd_415) (fun _ h9 => h9) rfl d_M_joined_48 ?_
          refine lv_bipush (v := 30) hx hb d_M_joined_51 (by decide) ?_
          refine lv_iload_n hx hb d_M_joined_53 rfl (lv_at hl 1 rfl) ?_
          refine lv_iconst (v := 1) hx hb d_M_joined_54 (by decide) ?_
          refine lv_isub hx hb d_M_joined_55 ?_
          refine bz_ri (y := nI a) (nI_pred a) ?_
          refine lv_imul hx hb d_M_joined_56 ?_
          refine bz_ri (y := nI (30 * a)) (pk_mul 30 _) ?_
          refine lv_iload_n hx hb d_M_joined_57 rfl (lv_at hl 2 rfl) ?_
          refine lv_iadd hx hb d_M_joined_58 ?_
          refine bz_ri (y := nI (30 * a + (b + 1))) (nI_add _ _) ?_
          refine lv_iconst (v := 1) hx hb d_M_joined_59 (by decide) ?_
          refine lv_isub hx hb d_M_joined_60 ?_
          refine bz_ri (y := nI (30 * a + b)) (nI_pred _) ?_
          refine lv_iload_n hx hb d_M_joined_61 rfl (lv_at hl 3 rfl) ?_
          refine lv_if_ne (tgt := 69) hx hb d_M_joined_62 (by decide) (fun c_62 => ?_) (fun c_62 => ?_)
          · skip
            exact absurd (by decide) c_62
          · skip
            refine lv_iconst (v := 1) hx hb d_M_joined_65 (by decide) ?_
            refine lv_goto (tgt := 70) hx hb d_M_joined_66 (by decide) ?_
            refine bz_zast (b9 := true) hx hb hK hP hD hS 3 2 rfl rfl (a9 := (30 * a + b)) (by omega) (by decide) (rfl) d_M_joined_70 (fun H locs hP hD hS => ?_)
            have hP : va_P (dC, dI) vwCl (bz_wM am cI cL cZ ((bz_tM t).1, (bz_tM t).2.1, (upd ((bz_tM t).2.2.1) (30 * a + b) (bz_i true)), (bz_tM t).2.2.2.1, (bz_tM t).2.2.2.2.1, nI (bz_n t)) (0, sv, ex) (S1, S2, S3)) H := hP
            have hD : va_D A (bz_wM am cI cL cZ ((bz_tM t).1, (bz_tM t).2.1, (upd ((bz_tM t).2.2.1) (30 * a + b) (bz_i true)), (bz_tM t).2.2.2.1, (bz_tM t).2.2.2.2.1, nI (bz_n t)) (0, sv, ex) (S1, S2, S3)) := hD
            refine lv_aload_n hx hb d_M_joined_71 rfl (lv_at hl 0 rfl) ?_
            refine va_get (D := (dC, dI)) (ci := 4) (v := .ref (am 3)) (C := R_M) (T := F_M) (N := 12) hx hb htb in_M hown hK hP 0 rfl rfl 4 (by decide) (htb _ wd_415) (fun _ h9 => h9) rfl d_M_joined_72 ?_
            refine lv_bipush (v := 30) hx hb d_M_joined_75 (by decide) ?_
            refine lv_iload_n hx hb d_M_joined_77 rfl (lv_at hl 2 rfl) ?_
            refine lv_iconst (v := 1) hx hb d_M_joined_78 (by decide) ?_
            refine lv_isub hx hb d_M_joined_79 ?_
            refine bz_ri (y := nI b) (nI_pred b) ?_
            refine lv_imul hx hb d_M_joined_80 ?_
            refine bz_ri (y := nI (30 * b)) (pk_mul 30 _) ?_
            refine lv_iload_n hx hb d_M_joined_81 rfl (lv_at hl 1 rfl) ?_
            refine lv_iadd hx hb d_M_joined_82 ?_
            refine bz_ri (y := nI (30 * b + (a + 1))) (nI_add _ _) ?_
            refine lv_iconst (v := 1) hx hb d_M_joined_83 (by decide) ?_
            refine lv_isub hx hb d_M_joined_84 ?_
            refine bz_ri (y := nI (30 * b + a)) (nI_pred _) ?_
            refine lv_iload_n hx hb d_M_joined_85 rfl (lv_at hl 3 rfl) ?_
            refine lv_if_ne (tgt := 93) hx hb d_M_joined_86 (by decide) (fun c_86 => ?_) (fun c_86 => ?_)
            · skip
              exact absurd (by decide) c_86
            · skip
              refine lv_iconst (v := 1) hx hb d_M_joined_89 (by decide) ?_
              refine lv_goto (tgt := 94) hx hb d_M_joined_90 (by decide) ?_
              refine bz_zast (b9 := true) hx hb hK hP hD hS 3 2 rfl rfl (a9 := (30 * b + a)) (by omega) (by decide) (rfl) d_M_joined_94 (fun H locs hP hD hS => ?_)
              have hP : va_P (dC, dI) vwCl (bz_wM am cI cL cZ ((bz_tM t).1, (bz_tM t).2.1, (upd (upd ((bz_tM t).2.2.1) (30 * a + b) (bz_i true)) (30 * b + a) (bz_i true)), (bz_tM t).2.2.2.1, (bz_tM t).2.2.2.2.1, nI (bz_n t)) (0, sv, ex) (S1, S2, S3)) H := hP
              have hD : va_D A (bz_wM am cI cL cZ ((bz_tM t).1, (bz_tM t).2.1, (upd (upd ((bz_tM t).2.2.1) (30 * a + b) (bz_i true)) (30 * b + a) (bz_i true)), (bz_tM t).2.2.2.1, (bz_tM t).2.2.2.2.1, nI (bz_n t)) (0, sv, ex) (S1, S2, S3)) := hD
              refine lv_aload_n hx hb d_M_joined_95 rfl (lv_at hl 0 rfl) ?_
              refine bz_cv (va_runV (As := []) (rest := []) ⟨hx, hb, hml, hown, htb⟩ (c_M_changes l dC dI _ am cI cL cZ ((bz_tM t).1, (bz_tM t).2.1, (upd (upd ((bz_tM t).2.2.1) (30 * a + b) (bz_i true)) (30 * b + a) (bz_i true)), (bz_tM t).2.2.2.1, (bz_tM t).2.2.2.2.1, nI (bz_n t)) 0 sv ex S1 S2 S3) (cwV 0 htb (bz_gV wd_465 wd_462 wd_464 wd_5 wd_23) rfl rfl rfl (by decide +kernel) ⟨Nat.le_of_ble_eq_true rfl, Nat.le_of_ble_eq_true rfl⟩) (bz_wv hN hK hP hD (q0 := 0) rfl rfl) rfl rfl hl.1 rfl (lv_room (Nat.le_of_ble_eq_true rfl)) d_M_joined_96 ⟨Nat.zero_le _, Nat.zero_le _⟩) hD hS hA (fun H locs hP hD hS => ?_)
              have hP : va_P (dC, dI) vwCl (bz_wM am cI cL cZ ((bz_tM t).1, (bz_tM t).2.1, (upd (upd ((bz_tM t).2.2.1) (30 * a + b) (bz_i true)) (30 * b + a) (bz_i true)), (bz_tM t).2.2.2.1, (bz_tM t).2.2.2.2.1, nI (bz_n t)) (0, 0, 0) (S1, S2, S3)) H := hP
              have hD : va_D A (bz_wM am cI cL cZ ((bz_tM t).1, (bz_tM t).2.1, (upd (upd ((bz_tM t).2.2.1) (30 * a + b) (bz_i true)) (30 * b + a) (bz_i true)), (bz_tM t).2.2.2.1, (bz_tM t).2.2.2.2.1, nI (bz_n t)) (0, 0, 0) (S1, S2, S3)) := hD
              refine lv_iload_n hx hb d_M_joined_99 rfl (lv_at hl 3 rfl) ?_
              refine lv_if_ne (tgt := 107) hx hb d_M_joined_100 (by decide) (fun c_100 => ?_) (fun c_100 => ?_)
              · skip
                exact absurd (by decide) c_100
              · skip
                refine lv_iconst (v := 1) hx hb d_M_joined_103 (by decide) ?_
                refine lv_goto (tgt := 108) hx hb d_M_joined_104 (by decide) ?_
                have e9 : bz_tM (bz_sJ t a b true) = ((bz_tM t).1, (bz_tM t).2.1, (upd (upd ((bz_tM t).2.2.1) (30 * a + b) (bz_i true)) (30 * b + a) (bz_i true)), (bz_tM t).2.2.2.1, (bz_tM t).2.2.2.2.1, nI (bz_n t)) := bz_sJ_M t (by omega) (by omega) true
                rw [← e9] at hP hD
                exact W.zret (v := 1) hx hb hr (rfl) (fun t9 ht9 hW => ⟨⟨1, (), rfl, rfl, by rw [ht9]; exact hP, va_K.moved hW.alike hK, hD⟩, hS.F ht9⟩) hS.2.2 d_M_joined_108
      · skip
        exact absurd ((nI_eq (by omega) (by omega)).mp c_23) (by omega)

set_option maxHeartbeats 4000000 in
set_option maxRecDepth 100000 in
/-- carrier, refused -/
theorem c_M_carrier_o (l : Launch) (dC : Nat → ClassId) (dI : Nat → Nat → Nat) (sz : Nat) (am : Nat → Nat) (cI cL cZ : ClassId) (t : bz_T) (th sv ex : Int32) (S1 S2 S3 : Nat → Int32) (ht : bz_ok t) (q : Int32) (z : Int64) (hz : ¬ (bz_ir q = true ∧ 0 ≤ z ∧ z ≤ 1000000000)) : Met l y_M_carrier w_M_carrier ({ frames := 1, cells := 0, slots := 0, locals := 25 }) (bz_Pw (dC, dI) [(cI, .int), (cL, .long), (cZ, .boolean)] (bz_wM am cI cL cZ (bz_tM t) (th, sv, ex) (S1, S2, S3)) sz [.ref (am 0), .int q, .long z]) (bz_Qi (dC, dI) [(cI, .int), (cL, .long), (cZ, .boolean)] (va_A (bz_wM am cI cL cZ (bz_tM t) (th, sv, ex) (S1, S2, S3)) sz) ((-12)) (bz_wM am cI cL cZ (bz_tM t) (0, sv, ex) (S1, S2, S3))) 0 0 (va_A (bz_wM am cI cL cZ (bz_tM t) (th, sv, ex) (S1, S2, S3)) sz) := by
  refine Met.ofW (cc := b_M_carrier) (maxL := 6) (ret := (some .int)) (by decide) rfl ?_
  intro p e s m args below meth c s₁ B hml hv
  obtain ⟨rfl, hsz, hP, hK, hD0, hN⟩ := hv
  have hx := B.exec
  have hb := B.bytes
  have hr := B.returns
  have hts := atoms_spec (ws := w_M_carrier) B.pre
  have hown : s.vm.findClass R_M = some m.cls := findClass_of_methodNamed B.named
  have htb : ∀ w ∈ bz_tb, w.before _ s = true := fun w h => hts w (List.mem_cons_of_mem _ h)
  have hlocks := B.notSynchronized
  subst hsz
  have hD := hD0.self (sz := s.heap.size)
  generalize hAe : va_A (bz_wM am cI cL cZ (bz_tM t) (th, sv, ex) (S1, S2, S3)) s.heap.size = A at hD ⊢
  have hA : ∀ q : Nat, s.heap.size ≤ q → A q := fun q h => by rw [← hAe]; exact Or.inr h
  have hS : va_S A s.heap s.heap [] := va_S.rf
  have hl := lv_entry ([.ref (am 0), .int q, .long z]) (n := 6) (Nat.le_of_ble_eq_true rfl)
  rw [lg_entry_eq]
  generalize (lg_sl ([.ref (am 0), .int q, .long z]) ++ List.replicate (6 - (lg_sl ([.ref (am 0), .int q, .long z])).length) Slot.unset).toArray = ls at hl ⊢
  have hl : lv_has ls 6 [(0, .ref (am 0)), (1, .int q), (2, .long z)] := hl
  refine lv_aload_n hx hb d_M_carrier_0 rfl (lv_at hl 0 rfl) ?_
  refine lv_iconst (v := 0) hx hb d_M_carrier_1 (by decide) ?_
  refine va_put (D := (dC, dI)) (ci := 4) (v := .int 0) (ty := .int) (C := R_M) (T := F_M) (N := 12) hx hb htb in_M tf_M tok_M n_M hown hK hP hD hS 0 rfl rfl 0 (by decide) (htb _ wd_411) (fun _ h9 => h9) rfl (by decide +kernel) rfl rfl (Nat.le_of_ble_eq_true rfl) d_M_carrier_2 (fun H locs hP hD hS => ?_)
  have hP : va_P (dC, dI) vwCl (bz_wM am cI cL cZ (bz_tM t) (0, sv, ex) (S1, S2, S3)) H := hP
  have hD : va_D A (bz_wM am cI cL cZ (bz_tM t) (0, sv, ex) (S1, S2, S3)) := hD
  refine lv_iload_n hx hb d_M_carrier_5 rfl (lv_at hl 1 rfl) ?_
  refine lv_i2l hx hb d_M_carrier_6 rfl ?_
  refine lv_lconst (v := 0) hx hb d_M_carrier_7 (by decide) ?_
  refine lv_ldc2 (v := 3) hx hb hown (htb _ wd_461) d_M_carrier_8 ?_
  refine bz_si (va_runS (As := [.long q.toInt64, .long 0, .long 3]) (rest := []) ⟨hx, hb, hml, hown, htb⟩ (c_M_isIn l dC dI am cI cL cZ (bz_tM t) 0 sv ex S1 S2 S3 _ _ _) (va_cwS 3 htb (bz_gS wd_460 wd_458 wd_459 wd_23) rfl rfl rfl (by decide +kernel) ⟨Nat.le_of_ble_eq_true rfl, Nat.le_of_ble_eq_true rfl⟩) (bz_rs hN hK hP) rfl rfl hl.1 rfl (lv_room (Nat.le_of_ble_eq_true rfl)) d_M_carrier_11 ⟨Nat.zero_le _, Nat.zero_le _⟩) ?_
  refine bz_ri (y := bz_i (bz_ir q)) (by rw [bz_ir_l]) ?_
  refine lv_if_eq (tgt := 28) hx hb d_M_carrier_14 (by decide) (fun c_14 => ?_) (fun c_14 => ?_)
  · skip
    refine lv_bipush (v := (-12)) hx hb d_M_carrier_28 (by decide) ?_
    exact W.iret (v := (-12)) hx hb hr (fun t9 ht9 hW => ⟨⟨(-12), (), rfl, rfl, by rw [ht9]; exact hP, va_K.moved hW.alike hK, hD⟩, hS.F ht9⟩) hS.2.2 d_M_carrier_30
  · skip
    refine lv_lload_n hx hb d_M_carrier_17 rfl (lv_at hl 2 rfl) ?_
    refine lv_lconst (v := 0) hx hb d_M_carrier_18 (by decide) ?_
    refine lv_ldc2 (v := 1000000000) hx hb hown (htb _ wd_478) d_M_carrier_19 ?_
    refine bz_si (va_runS (As := [.long z, .long 0, .long 1000000000]) (rest := []) ⟨hx, hb, hml, hown, htb⟩ (c_M_isIn l dC dI am cI cL cZ (bz_tM t) 0 sv ex S1 S2 S3 _ _ _) (va_cwS 3 htb (bz_gS wd_460 wd_458 wd_459 wd_23) rfl rfl rfl (by decide +kernel) ⟨Nat.le_of_ble_eq_true rfl, Nat.le_of_ble_eq_true rfl⟩) (bz_rs hN hK hP) rfl rfl hl.1 rfl (lv_room (Nat.le_of_ble_eq_true rfl)) d_M_carrier_22 ⟨Nat.zero_le _, Nat.zero_le _⟩) ?_
    refine lv_if_ne (tgt := 31) hx hb d_M_carrier_25 (by decide) (fun c_25 => ?_) (fun c_25 => ?_)
    · skip
      exact absurd ⟨bz_i_ne c_14, of_decide_eq_true (bz_i_ne c_25)⟩ hz
    · skip
      refine lv_bipush (v := (-12)) hx hb d_M_carrier_28 (by decide) ?_
      exact W.iret (v := (-12)) hx hb hr (fun t9 ht9 hW => ⟨⟨(-12), (), rfl, rfl, by rw [ht9]; exact hP, va_K.moved hW.alike hK, hD⟩, hS.F ht9⟩) hS.2.2 d_M_carrier_30

set_option maxHeartbeats 4000000 in
set_option maxRecDepth 100000 in
/-- carrier, the same -/
theorem c_M_carrier_s (l : Launch) (dC : Nat → ClassId) (dI : Nat → Nat → Nat) (sz : Nat) (am : Nat → Nat) (cI cL cZ : ClassId) (t : bz_T) (th sv ex : Int32) (S1 S2 S3 : Nat → Int32) (ht : bz_ok t) (r x : Nat) (hr4 : r < 4) (hx0 : x ≤ 1000000000) (hh : bz_h t r = x) : Met l y_M_carrier w_M_carrier ({ frames := 1, cells := 0, slots := 0, locals := 25 }) (bz_Pw (dC, dI) [(cI, .int), (cL, .long), (cZ, .boolean)] (bz_wM am cI cL cZ (bz_tM t) (th, sv, ex) (S1, S2, S3)) sz [.ref (am 0), .int (nI r), .long (lN x)]) (bz_Qi (dC, dI) [(cI, .int), (cL, .long), (cZ, .boolean)] (va_A (bz_wM am cI cL cZ (bz_tM t) (th, sv, ex) (S1, S2, S3)) sz) (nI (bz_h t r)) (bz_wM am cI cL cZ (bz_tM t) (0, sv, ex) (S1, S2, S3))) 0 0 (va_A (bz_wM am cI cL cZ (bz_tM t) (th, sv, ex) (S1, S2, S3)) sz) := by
  refine Met.ofW (cc := b_M_carrier) (maxL := 6) (ret := (some .int)) (by decide) rfl ?_
  intro p e s m args below meth c s₁ B hml hv
  obtain ⟨rfl, hsz, hP, hK, hD0, hN⟩ := hv
  have hx := B.exec
  have hb := B.bytes
  have hr := B.returns
  have hts := atoms_spec (ws := w_M_carrier) B.pre
  have hown : s.vm.findClass R_M = some m.cls := findClass_of_methodNamed B.named
  have htb : ∀ w ∈ bz_tb, w.before _ s = true := fun w h => hts w (List.mem_cons_of_mem _ h)
  have hlocks := B.notSynchronized
  subst hsz
  have hD := hD0.self (sz := s.heap.size)
  generalize hAe : va_A (bz_wM am cI cL cZ (bz_tM t) (th, sv, ex) (S1, S2, S3)) s.heap.size = A at hD ⊢
  have hA : ∀ q : Nat, s.heap.size ≤ q → A q := fun q h => by rw [← hAe]; exact Or.inr h
  have hS : va_S A s.heap s.heap [] := va_S.rf
  have hl := lv_entry ([.ref (am 0), .int (nI r), .long (lN x)]) (n := 6) (Nat.le_of_ble_eq_true rfl)
  rw [lg_entry_eq]
  generalize (lg_sl ([.ref (am 0), .int (nI r), .long (lN x)]) ++ List.replicate (6 - (lg_sl ([.ref (am 0), .int (nI r), .long (lN x)])).length) Slot.unset).toArray = ls at hl ⊢
  have hl : lv_has ls 6 [(0, .ref (am 0)), (1, .int (nI r)), (2, .long (lN x))] := hl
  have hir : bz_ir (nI r) = true := decide_eq_true ⟨nI_pos' (by omega), (nI_ltI (b := 4) (by omega) (by omega)).mpr hr4⟩
  have hlin : decide ((0 : Int64) ≤ lN x ∧ lN x ≤ 1000000000) = true := decide_eq_true ⟨(pk_lLE (a := 0) (by omega) (by omega)).mpr (by omega), (pk_lLE (b := 1000000000) (by omega) (by omega)).mpr hx0⟩
  have hhr := ht.2.2.2.2.2.2 r
  refine lv_aload_n hx hb d_M_carrier_0 rfl (lv_at hl 0 rfl) ?_
  refine lv_iconst (v := 0) hx hb d_M_carrier_1 (by decide) ?_
  refine va_put (D := (dC, dI)) (ci := 4) (v := .int 0) (ty := .int) (C := R_M) (T := F_M) (N := 12) hx hb htb in_M tf_M tok_M n_M hown hK hP hD hS 0 rfl rfl 0 (by decide) (htb _ wd_411) (fun _ h9 => h9) rfl (by decide +kernel) rfl rfl (Nat.le_of_ble_eq_true rfl) d_M_carrier_2 (fun H locs hP hD hS => ?_)
  have hP : va_P (dC, dI) vwCl (bz_wM am cI cL cZ (bz_tM t) (0, sv, ex) (S1, S2, S3)) H := hP
  have hD : va_D A (bz_wM am cI cL cZ (bz_tM t) (0, sv, ex) (S1, S2, S3)) := hD
  refine lv_iload_n hx hb d_M_carrier_5 rfl (lv_at hl 1 rfl) ?_
  refine lv_i2l hx hb d_M_carrier_6 rfl ?_
  refine lv_lconst (v := 0) hx hb d_M_carrier_7 (by decide) ?_
  refine lv_ldc2 (v := 3) hx hb hown (htb _ wd_461) d_M_carrier_8 ?_
  refine bz_si (va_runS (As := [.long ((nI r).toInt64), .long 0, .long 3]) (rest := []) ⟨hx, hb, hml, hown, htb⟩ (c_M_isIn l dC dI am cI cL cZ (bz_tM t) 0 sv ex S1 S2 S3 _ _ _) (va_cwS 3 htb (bz_gS wd_460 wd_458 wd_459 wd_23) rfl rfl rfl (by decide +kernel) ⟨Nat.le_of_ble_eq_true rfl, Nat.le_of_ble_eq_true rfl⟩) (bz_rs hN hK hP) rfl rfl hl.1 rfl (lv_room (Nat.le_of_ble_eq_true rfl)) d_M_carrier_11 ⟨Nat.zero_le _, Nat.zero_le _⟩) ?_
  refine bz_ri (y := bz_i (bz_ir (nI r))) (by rw [bz_ir_l]) ?_
  refine lv_if_eq (tgt := 28) hx hb d_M_carrier_14 (by decide) (fun c_14 => ?_) (fun c_14 => ?_)
  · skip
    exact absurd (bz_i_eq c_14) (by rw [hir]; decide)
  · skip
    refine lv_lload_n hx hb d_M_carrier_17 rfl (lv_at hl 2 rfl) ?_
    refine lv_lconst (v := 0) hx hb d_M_carrier_18 (by decide) ?_
    refine lv_ldc2 (v := 1000000000) hx hb hown (htb _ wd_478) d_M_carrier_19 ?_
    refine bz_si (va_runS (As := [.long (lN x), .long 0, .long 1000000000]) (rest := []) ⟨hx, hb, hml, hown, htb⟩ (c_M_isIn l dC dI am cI cL cZ (bz_tM t) 0 sv ex S1 S2 S3 _ _ _) (va_cwS 3 htb (bz_gS wd_460 wd_458 wd_459 wd_23) rfl rfl rfl (by decide +kernel) ⟨Nat.le_of_ble_eq_true rfl, Nat.le_of_ble_eq_true rfl⟩) (bz_rs hN hK hP) rfl rfl hl.1 rfl (lv_room (Nat.le_of_ble_eq_true rfl)) d_M_carrier_22 ⟨Nat.zero_le _, Nat.zero_le _⟩) ?_
    refine lv_if_ne (tgt := 31) hx hb d_M_carrier_25 (by decide) (fun c_25 => ?_) (fun c_25 => ?_)
    · skip
      refine lv_aload_n hx hb d_M_carrier_31 rfl (lv_at hl 0 rfl) ?_
      refine va_get (D := (dC, dI)) (ci := 4) (v := .ref (am 5)) (C := R_M) (T := F_M) (N := 12) hx hb htb in_M hown hK hP 0 rfl rfl 6 (by decide) (htb _ wd_417) (fun _ h9 => h9) rfl d_M_carrier_32 ?_
      refine lv_iload_n hx hb d_M_carrier_35 rfl (lv_at hl 1 rfl) ?_
      refine bz_lald (v := lN (bz_h t r)) hx hb hK hP 5 1 rfl rfl (a9 := r) (by omega) (by decide) (rfl) d_M_carrier_36 ?_
      refine lv_lstore (lv' := [(4, .long (lN (bz_h t r))), (0, .ref (am 0)), (1, .int (nI r)), (2, .long (lN x))]) hx hb d_M_carrier_37 hl (by decide) rfl (fun ls hl => ?_)
      refine lv_aload_n hx hb d_M_carrier_39 rfl (lv_at hl 1 rfl) ?_
      refine va_get (D := (dC, dI)) (ci := 4) (v := .ref (am 5)) (C := R_M) (T := F_M) (N := 12) hx hb htb in_M hown hK hP 0 rfl rfl 6 (by decide) (htb _ wd_417) (fun _ h9 => h9) rfl d_M_carrier_40 ?_
      refine lv_iload_n hx hb d_M_carrier_43 rfl (lv_at hl 2 rfl) ?_
      refine lv_lload_n hx hb d_M_carrier_44 rfl (lv_at hl 3 rfl) ?_
      refine bz_last hx hb hK hP hD hS 5 1 rfl rfl (a9 := r) (by omega) (by decide) d_M_carrier_45 (fun H locs hP hD hS => ?_)
      have hP : va_P (dC, dI) vwCl (bz_wM am cI cL cZ ((bz_tM t).1, (bz_tM t).2.1, (bz_tM t).2.2.1, (bz_tM t).2.2.2.1, (vp_updL ((bz_tM t).2.2.2.2.1) r (lN x)), nI (bz_n t)) (0, sv, ex) (S1, S2, S3)) H := hP
      have hD : va_D A (bz_wM am cI cL cZ ((bz_tM t).1, (bz_tM t).2.1, (bz_tM t).2.2.1, (bz_tM t).2.2.2.1, (vp_updL ((bz_tM t).2.2.2.2.1) r (lN x)), nI (bz_n t)) (0, sv, ex) (S1, S2, S3)) := hD
      refine lv_lload hx hb d_M_carrier_46 (lv_at hl 0 rfl) ?_
      refine lv_lload_n hx hb d_M_carrier_48 rfl (lv_at hl 3 rfl) ?_
      refine W.lcmp hx hb d_M_carrier_49 ?_
      refine lv_if_eq (tgt := 57) hx hb d_M_carrier_50 (by decide) (fun c_50 => ?_) (fun c_50 => ?_)
      · skip
        refine lv_lload hx hb d_M_carrier_57 (lv_at hl 0 rfl) ?_
        refine lv_l2i hx hb d_M_carrier_59 rfl ?_
        refine bz_ri (y := nI (bz_h t r)) (lN_i _) ?_
        have e9 : bz_tM t = ((bz_tM t).1, (bz_tM t).2.1, (bz_tM t).2.2.1, (bz_tM t).2.2.2.1, (vp_updL ((bz_tM t).2.2.2.2.1) r (lN x)), nI (bz_n t)) := bz_sH_s hh
        rw [← e9] at hP hD
        exact W.iret (v := nI (bz_h t r)) hx hb hr (fun t9 ht9 hW => ⟨⟨nI (bz_h t r), (), rfl, rfl, by rw [ht9]; exact hP, va_K.moved hW.alike hK, hD⟩, hS.F ht9⟩) hS.2.2 d_M_carrier_60
      · skip
        exact absurd ((bz_lc_eq (by omega) (by omega)).mpr hh) c_50
    · skip
      exact absurd (bz_i_eq c_25) (by rw [hlin]; decide)

set_option maxHeartbeats 4000000 in
set_option maxRecDepth 100000 in
/-- carrier -/
theorem c_M_carrier (l : Launch) (dC : Nat → ClassId) (dI : Nat → Nat → Nat) (sz : Nat) (am : Nat → Nat) (cI cL cZ : ClassId) (t : bz_T) (th sv ex : Int32) (S1 S2 S3 : Nat → Int32) (ht : bz_ok t) (r x : Nat) (hr4 : r < 4) (hx0 : x ≤ 1000000000) (hh : ¬ bz_h t r = x) : Met l y_M_carrier w_M_carrier ({ frames := 1, cells := 0, slots := 0, locals := 25 }) (bz_Pw (dC, dI) [(cI, .int), (cL, .long), (cZ, .boolean)] (bz_wM am cI cL cZ (bz_tM t) (th, sv, ex) (S1, S2, S3)) sz [.ref (am 0), .int (nI r), .long (lN x)]) (bz_Qi (dC, dI) [(cI, .int), (cL, .long), (cZ, .boolean)] (va_A (bz_wM am cI cL cZ (bz_tM t) (th, sv, ex) (S1, S2, S3)) sz) (nI (bz_h t r)) (bz_wM am cI cL cZ (bz_tM (bz_sH t r x)) (0, 0, 0) (S1, S2, S3))) 0 0 (va_A (bz_wM am cI cL cZ (bz_tM t) (th, sv, ex) (S1, S2, S3)) sz) := by
  refine Met.ofW (cc := b_M_carrier) (maxL := 6) (ret := (some .int)) (by decide) rfl ?_
  intro p e s m args below meth c s₁ B hml hv
  obtain ⟨rfl, hsz, hP, hK, hD0, hN⟩ := hv
  have hx := B.exec
  have hb := B.bytes
  have hr := B.returns
  have hts := atoms_spec (ws := w_M_carrier) B.pre
  have hown : s.vm.findClass R_M = some m.cls := findClass_of_methodNamed B.named
  have htb : ∀ w ∈ bz_tb, w.before _ s = true := fun w h => hts w (List.mem_cons_of_mem _ h)
  have hlocks := B.notSynchronized
  subst hsz
  have hD := hD0.self (sz := s.heap.size)
  generalize hAe : va_A (bz_wM am cI cL cZ (bz_tM t) (th, sv, ex) (S1, S2, S3)) s.heap.size = A at hD ⊢
  have hA : ∀ q : Nat, s.heap.size ≤ q → A q := fun q h => by rw [← hAe]; exact Or.inr h
  have hS : va_S A s.heap s.heap [] := va_S.rf
  have hl := lv_entry ([.ref (am 0), .int (nI r), .long (lN x)]) (n := 6) (Nat.le_of_ble_eq_true rfl)
  rw [lg_entry_eq]
  generalize (lg_sl ([.ref (am 0), .int (nI r), .long (lN x)]) ++ List.replicate (6 - (lg_sl ([.ref (am 0), .int (nI r), .long (lN x)])).length) Slot.unset).toArray = ls at hl ⊢
  have hl : lv_has ls 6 [(0, .ref (am 0)), (1, .int (nI r)), (2, .long (lN x))] := hl
  have hir : bz_ir (nI r) = true := decide_eq_true ⟨nI_pos' (by omega), (nI_ltI (b := 4) (by omega) (by omega)).mpr hr4⟩
  have hlin : decide ((0 : Int64) ≤ lN x ∧ lN x ≤ 1000000000) = true := decide_eq_true ⟨(pk_lLE (a := 0) (by omega) (by omega)).mpr (by omega), (pk_lLE (b := 1000000000) (by omega) (by omega)).mpr hx0⟩
  have hhr := ht.2.2.2.2.2.2 r
  refine lv_aload_n hx hb d_M_carrier_0 rfl (lv_at hl 0 rfl) ?_
  refine lv_iconst (v := 0) hx hb d_M_carrier_1 (by decide) ?_
  refine va_put (D := (dC, dI)) (ci := 4) (v := .int 0) (ty := .int) (C := R_M) (T := F_M) (N := 12) hx hb htb in_M tf_M tok_M n_M hown hK hP hD hS 0 rfl rfl 0 (by decide) (htb _ wd_411) (fun _ h9 => h9) rfl (by decide +kernel) rfl rfl (Nat.le_of_ble_eq_true rfl) d_M_carrier_2 (fun H locs hP hD hS => ?_)
  have hP : va_P (dC, dI) vwCl (bz_wM am cI cL cZ (bz_tM t) (0, sv, ex) (S1, S2, S3)) H := hP
  have hD : va_D A (bz_wM am cI cL cZ (bz_tM t) (0, sv, ex) (S1, S2, S3)) := hD
  refine lv_iload_n hx hb d_M_carrier_5 rfl (lv_at hl 1 rfl) ?_
  refine lv_i2l hx hb d_M_carrier_6 rfl ?_
  refine lv_lconst (v := 0) hx hb d_M_carrier_7 (by decide) ?_
  refine lv_ldc2 (v := 3) hx hb hown (htb _ wd_461) d_M_carrier_8 ?_
  refine bz_si (va_runS (As := [.long ((nI r).toInt64), .long 0, .long 3]) (rest := []) ⟨hx, hb, hml, hown, htb⟩ (c_M_isIn l dC dI am cI cL cZ (bz_tM t) 0 sv ex S1 S2 S3 _ _ _) (va_cwS 3 htb (bz_gS wd_460 wd_458 wd_459 wd_23) rfl rfl rfl (by decide +kernel) ⟨Nat.le_of_ble_eq_true rfl, Nat.le_of_ble_eq_true rfl⟩) (bz_rs hN hK hP) rfl rfl hl.1 rfl (lv_room (Nat.le_of_ble_eq_true rfl)) d_M_carrier_11 ⟨Nat.zero_le _, Nat.zero_le _⟩) ?_
  refine bz_ri (y := bz_i (bz_ir (nI r))) (by rw [bz_ir_l]) ?_
  refine lv_if_eq (tgt := 28) hx hb d_M_carrier_14 (by decide) (fun c_14 => ?_) (fun c_14 => ?_)
  · skip
    exact absurd (bz_i_eq c_14) (by rw [hir]; decide)
  · skip
    refine lv_lload_n hx hb d_M_carrier_17 rfl (lv_at hl 2 rfl) ?_
    refine lv_lconst (v := 0) hx hb d_M_carrier_18 (by decide) ?_
    refine lv_ldc2 (v := 1000000000) hx hb hown (htb _ wd_478) d_M_carrier_19 ?_
    refine bz_si (va_runS (As := [.long (lN x), .long 0, .long 1000000000]) (rest := []) ⟨hx, hb, hml, hown, htb⟩ (c_M_isIn l dC dI am cI cL cZ (bz_tM t) 0 sv ex S1 S2 S3 _ _ _) (va_cwS 3 htb (bz_gS wd_460 wd_458 wd_459 wd_23) rfl rfl rfl (by decide +kernel) ⟨Nat.le_of_ble_eq_true rfl, Nat.le_of_ble_eq_true rfl⟩) (bz_rs hN hK hP) rfl rfl hl.1 rfl (lv_room (Nat.le_of_ble_eq_true rfl)) d_M_carrier_22 ⟨Nat.zero_le _, Nat.zero_le _⟩) ?_
    refine lv_if_ne (tgt := 31) hx hb d_M_carrier_25 (by decide) (fun c_25 => ?_) (fun c_25 => ?_)
    · skip
      refine lv_aload_n hx hb d_M_carrier_31 rfl (lv_at hl 0 rfl) ?_
      refine va_get (D := (dC, dI)) (ci := 4) (v := .ref (am 5)) (C := R_M) (T := F_M) (N := 12) hx hb htb in_M hown hK hP 0 rfl rfl 6 (by decide) (htb _ wd_417) (fun _ h9 => h9) rfl d_M_carrier_32 ?_
      refine lv_iload_n hx hb d_M_carrier_35 rfl (lv_at hl 1 rfl) ?_
      refine bz_lald (v := lN (bz_h t r)) hx hb hK hP 5 1 rfl rfl (a9 := r) (by omega) (by decide) (rfl) d_M_carrier_36 ?_
      refine lv_lstore (lv' := [(4, .long (lN (bz_h t r))), (0, .ref (am 0)), (1, .int (nI r)), (2, .long (lN x))]) hx hb d_M_carrier_37 hl (by decide) rfl (fun ls hl => ?_)
      refine lv_aload_n hx hb d_M_carrier_39 rfl (lv_at hl 1 rfl) ?_
      refine va_get (D := (dC, dI)) (ci := 4) (v := .ref (am 5)) (C := R_M) (T := F_M) (N := 12) hx hb htb in_M hown hK hP 0 rfl rfl 6 (by decide) (htb _ wd_417) (fun _ h9 => h9) rfl d_M_carrier_40 ?_
      refine lv_iload_n hx hb d_M_carrier_43 rfl (lv_at hl 2 rfl) ?_
      refine lv_lload_n hx hb d_M_carrier_44 rfl (lv_at hl 3 rfl) ?_
      refine bz_last hx hb hK hP hD hS 5 1 rfl rfl (a9 := r) (by omega) (by decide) d_M_carrier_45 (fun H locs hP hD hS => ?_)
      have hP : va_P (dC, dI) vwCl (bz_wM am cI cL cZ ((bz_tM t).1, (bz_tM t).2.1, (bz_tM t).2.2.1, (bz_tM t).2.2.2.1, (vp_updL ((bz_tM t).2.2.2.2.1) r (lN x)), nI (bz_n t)) (0, sv, ex) (S1, S2, S3)) H := hP
      have hD : va_D A (bz_wM am cI cL cZ ((bz_tM t).1, (bz_tM t).2.1, (bz_tM t).2.2.1, (bz_tM t).2.2.2.1, (vp_updL ((bz_tM t).2.2.2.2.1) r (lN x)), nI (bz_n t)) (0, sv, ex) (S1, S2, S3)) := hD
      refine lv_lload hx hb d_M_carrier_46 (lv_at hl 0 rfl) ?_
      refine lv_lload_n hx hb d_M_carrier_48 rfl (lv_at hl 3 rfl) ?_
      refine W.lcmp hx hb d_M_carrier_49 ?_
      refine lv_if_eq (tgt := 57) hx hb d_M_carrier_50 (by decide) (fun c_50 => ?_) (fun c_50 => ?_)
      · skip
        exact absurd ((bz_lc_eq (by omega) (by omega)).mp c_50) hh
      · skip
        refine lv_aload_n hx hb d_M_carrier_53 rfl (lv_at hl 1 rfl) ?_
        refine bz_cv (va_runV (As := []) (rest := []) ⟨hx, hb, hml, hown, htb⟩ (c_M_changes l dC dI _ am cI cL cZ ((bz_tM t).1, (bz_tM t).2.1, (bz_tM t).2.2.1, (bz_tM t).2.2.2.1, (vp_updL ((bz_tM t).2.2.2.2.1) r (lN x)), nI (bz_n t)) 0 sv ex S1 S2 S3) (cwV 0 htb (bz_gV wd_465 wd_462 wd_464 wd_5 wd_23) rfl rfl rfl (by decide +kernel) ⟨Nat.le_of_ble_eq_true rfl, Nat.le_of_ble_eq_true rfl⟩) (bz_wv hN hK hP hD (q0 := 0) rfl rfl) rfl rfl hl.1 rfl (lv_room (Nat.le_of_ble_eq_true rfl)) d_M_carrier_54 ⟨Nat.zero_le _, Nat.zero_le _⟩) hD hS hA (fun H locs hP hD hS => ?_)
        have hP : va_P (dC, dI) vwCl (bz_wM am cI cL cZ ((bz_tM t).1, (bz_tM t).2.1, (bz_tM t).2.2.1, (bz_tM t).2.2.2.1, (vp_updL ((bz_tM t).2.2.2.2.1) r (lN x)), nI (bz_n t)) (0, 0, 0) (S1, S2, S3)) H := hP
        have hD : va_D A (bz_wM am cI cL cZ ((bz_tM t).1, (bz_tM t).2.1, (bz_tM t).2.2.1, (bz_tM t).2.2.2.1, (vp_updL ((bz_tM t).2.2.2.2.1) r (lN x)), nI (bz_n t)) (0, 0, 0) (S1, S2, S3)) := hD
        refine lv_lload hx hb d_M_carrier_57 (lv_at hl 0 rfl) ?_
        refine lv_l2i hx hb d_M_carrier_59 rfl ?_
        refine bz_ri (y := nI (bz_h t r)) (lN_i _) ?_
        have e9 : bz_tM (bz_sH t r x) = ((bz_tM t).1, (bz_tM t).2.1, (bz_tM t).2.2.1, (bz_tM t).2.2.2.1, (vp_updL ((bz_tM t).2.2.2.2.1) r (lN x)), nI (bz_n t)) := bz_sH_M t r x
        rw [← e9] at hP hD
        exact W.iret (v := nI (bz_h t r)) hx hb hr (fun t9 ht9 hW => ⟨⟨nI (bz_h t r), (), rfl, rfl, by rw [ht9]; exact hP, va_K.moved hW.alike hK, hD⟩, hS.F ht9⟩) hS.2.2 d_M_carrier_60
    · skip
      exact absurd (bz_i_eq c_25) (by rw [hlin]; decide)

set_option maxHeartbeats 4000000 in
set_option maxRecDepth 100000 in
/-- know, no such area -/
theorem c_M_know_u (l : Launch) (dC : Nat → ClassId) (dI : Nat → Nat → Nat) (sz : Nat) (am : Nat → Nat) (cI cL cZ : ClassId) (t : bz_T) (th sv ex : Int32) (S1 S2 S3 : Nat → Int32) (ht : bz_ok t) (q x : Int32) (hz : bz_ia (bz_n t) x = false) : Met l y_M_know w_M_know ({ frames := 1, cells := 0, slots := 0, locals := 25 }) (bz_Pw (dC, dI) [(cI, .int), (cL, .long), (cZ, .boolean)] (bz_wM am cI cL cZ (bz_tM t) (th, sv, ex) (S1, S2, S3)) sz [.ref (am 0), .int q, .int x]) (bz_Qi (dC, dI) [(cI, .int), (cL, .long), (cZ, .boolean)] (va_A (bz_wM am cI cL cZ (bz_tM t) (th, sv, ex) (S1, S2, S3)) sz) ((-11)) (bz_wM am cI cL cZ (bz_tM t) (0, sv, ex) (S1, S2, S3))) 0 0 (va_A (bz_wM am cI cL cZ (bz_tM t) (th, sv, ex) (S1, S2, S3)) sz) := by
  refine Met.ofW (cc := b_M_know) (maxL := 4) (ret := (some .int)) (by decide) rfl ?_
  intro p e s m args below meth c s₁ B hml hv
  obtain ⟨rfl, hsz, hP, hK, hD0, hN⟩ := hv
  have hx := B.exec
  have hb := B.bytes
  have hr := B.returns
  have hts := atoms_spec (ws := w_M_know) B.pre
  have hown : s.vm.findClass R_M = some m.cls := findClass_of_methodNamed B.named
  have htb : ∀ w ∈ bz_tb, w.before _ s = true := fun w h => hts w (List.mem_cons_of_mem _ h)
  have hlocks := B.notSynchronized
  subst hsz
  have hD := hD0.self (sz := s.heap.size)
  generalize hAe : va_A (bz_wM am cI cL cZ (bz_tM t) (th, sv, ex) (S1, S2, S3)) s.heap.size = A at hD ⊢
  have hA : ∀ q : Nat, s.heap.size ≤ q → A q := fun q h => by rw [← hAe]; exact Or.inr h
  have hS : va_S A s.heap s.heap [] := va_S.rf
  have hl := lv_entry ([.ref (am 0), .int q, .int x]) (n := 4) (Nat.le_of_ble_eq_true rfl)
  rw [lg_entry_eq]
  generalize (lg_sl ([.ref (am 0), .int q, .int x]) ++ List.replicate (4 - (lg_sl ([.ref (am 0), .int q, .int x])).length) Slot.unset).toArray = ls at hl ⊢
  have hl : lv_has ls 4 [(0, .ref (am 0)), (1, .int q), (2, .int x)] := hl
  refine lv_aload_n hx hb d_M_know_0 rfl (lv_at hl 0 rfl) ?_
  refine lv_iconst (v := 0) hx hb d_M_know_1 (by decide) ?_
  refine va_put (D := (dC, dI)) (ci := 4) (v := .int 0) (ty := .int) (C := R_M) (T := F_M) (N := 12) hx hb htb in_M tf_M tok_M n_M hown hK hP hD hS 0 rfl rfl 0 (by decide) (htb _ wd_411) (fun _ h9 => h9) rfl (by decide +kernel) rfl rfl (Nat.le_of_ble_eq_true rfl) d_M_know_2 (fun H locs hP hD hS => ?_)
  have hP : va_P (dC, dI) vwCl (bz_wM am cI cL cZ (bz_tM t) (0, sv, ex) (S1, S2, S3)) H := hP
  have hD : va_D A (bz_wM am cI cL cZ (bz_tM t) (0, sv, ex) (S1, S2, S3)) := hD
  refine lv_aload_n hx hb d_M_know_5 rfl (lv_at hl 0 rfl) ?_
  refine lv_iload_n hx hb d_M_know_6 rfl (lv_at hl 2 rfl) ?_
  refine bz_si (va_runV (As := [.int x]) (rest := []) ⟨hx, hb, hml, hown, htb⟩ (c_M_isArea l dC dI am cI cL cZ t 0 sv ex S1 S2 S3 ht _) (cwV 1 htb (bz_gV wd_473 wd_470 wd_472 wd_6 wd_23) rfl rfl rfl (by decide +kernel) ⟨Nat.le_of_ble_eq_true rfl, Nat.le_of_ble_eq_true rfl⟩) (bz_rv hN hK hP (q0 := 0) rfl rfl) rfl rfl hl.1 rfl (lv_room (Nat.le_of_ble_eq_true rfl)) d_M_know_7 ⟨Nat.zero_le _, Nat.zero_le _⟩) ?_
  refine lv_if_ne (tgt := 16) hx hb d_M_know_10 (by decide) (fun c_10 => ?_) (fun c_10 => ?_)
  · skip
    exact absurd (bz_i_ne c_10) (by rw [hz]; decide)
  · skip
    refine lv_bipush (v := (-11)) hx hb d_M_know_13 (by decide) ?_
    exact W.iret (v := (-11)) hx hb hr (fun t9 ht9 hW => ⟨⟨(-11), (), rfl, rfl, by rw [ht9]; exact hP, va_K.moved hW.alike hK, hD⟩, hS.F ht9⟩) hS.2.2 d_M_know_15

set_option maxHeartbeats 4000000 in
set_option maxRecDepth 100000 in
/-- know, outside -/
theorem c_M_know_o (l : Launch) (dC : Nat → ClassId) (dI : Nat → Nat → Nat) (sz : Nat) (am : Nat → Nat) (cI cL cZ : ClassId) (t : bz_T) (th sv ex : Int32) (S1 S2 S3 : Nat → Int32) (ht : bz_ok t) (q x : Int32) (hz : bz_ia (bz_n t) x = true) (hq : bz_ir q = false) : Met l y_M_know w_M_know ({ frames := 1, cells := 0, slots := 0, locals := 25 }) (bz_Pw (dC, dI) [(cI, .int), (cL, .long), (cZ, .boolean)] (bz_wM am cI cL cZ (bz_tM t) (th, sv, ex) (S1, S2, S3)) sz [.ref (am 0), .int q, .int x]) (bz_Qi (dC, dI) [(cI, .int), (cL, .long), (cZ, .boolean)] (va_A (bz_wM am cI cL cZ (bz_tM t) (th, sv, ex) (S1, S2, S3)) sz) ((-12)) (bz_wM am cI cL cZ (bz_tM t) (0, sv, ex) (S1, S2, S3))) 0 0 (va_A (bz_wM am cI cL cZ (bz_tM t) (th, sv, ex) (S1, S2, S3)) sz) := by
  refine Met.ofW (cc := b_M_know) (maxL := 4) (ret := (some .int)) (by decide) rfl ?_
  intro p e s m args below meth c s₁ B hml hv
  obtain ⟨rfl, hsz, hP, hK, hD0, hN⟩ := hv
  have hx := B.exec
  have hb := B.bytes
  have hr := B.returns
  have hts := atoms_spec (ws := w_M_know) B.pre
  have hown : s.vm.findClass R_M = some m.cls := findClass_of_methodNamed B.named
  have htb : ∀ w ∈ bz_tb, w.before _ s = true := fun w h => hts w (List.mem_cons_of_mem _ h)
  have hlocks := B.notSynchronized
  subst hsz
  have hD := hD0.self (sz := s.heap.size)
  generalize hAe : va_A (bz_wM am cI cL cZ (bz_tM t) (th, sv, ex) (S1, S2, S3)) s.heap.size = A at hD ⊢
  have hA : ∀ q : Nat, s.heap.size ≤ q → A q := fun q h => by rw [← hAe]; exact Or.inr h
  have hS : va_S A s.heap s.heap [] := va_S.rf
  have hl := lv_entry ([.ref (am 0), .int q, .int x]) (n := 4) (Nat.le_of_ble_eq_true rfl)
  rw [lg_entry_eq]
  generalize (lg_sl ([.ref (am 0), .int q, .int x]) ++ List.replicate (4 - (lg_sl ([.ref (am 0), .int q, .int x])).length) Slot.unset).toArray = ls at hl ⊢
  have hl : lv_has ls 4 [(0, .ref (am 0)), (1, .int q), (2, .int x)] := hl
  refine lv_aload_n hx hb d_M_know_0 rfl (lv_at hl 0 rfl) ?_
  refine lv_iconst (v := 0) hx hb d_M_know_1 (by decide) ?_
  refine va_put (D := (dC, dI)) (ci := 4) (v := .int 0) (ty := .int) (C := R_M) (T := F_M) (N := 12) hx hb htb in_M tf_M tok_M n_M hown hK hP hD hS 0 rfl rfl 0 (by decide) (htb _ wd_411) (fun _ h9 => h9) rfl (by decide +kernel) rfl rfl (Nat.le_of_ble_eq_true rfl) d_M_know_2 (fun H locs hP hD hS => ?_)
  have hP : va_P (dC, dI) vwCl (bz_wM am cI cL cZ (bz_tM t) (0, sv, ex) (S1, S2, S3)) H := hP
  have hD : va_D A (bz_wM am cI cL cZ (bz_tM t) (0, sv, ex) (S1, S2, S3)) := hD
  refine lv_aload_n hx hb d_M_know_5 rfl (lv_at hl 0 rfl) ?_
  refine lv_iload_n hx hb d_M_know_6 rfl (lv_at hl 2 rfl) ?_
  refine bz_si (va_runV (As := [.int x]) (rest := []) ⟨hx, hb, hml, hown, htb⟩ (c_M_isArea l dC dI am cI cL cZ t 0 sv ex S1 S2 S3 ht _) (cwV 1 htb (bz_gV wd_473 wd_470 wd_472 wd_6 wd_23) rfl rfl rfl (by decide +kernel) ⟨Nat.le_of_ble_eq_true rfl, Nat.le_of_ble_eq_true rfl⟩) (bz_rv hN hK hP (q0 := 0) rfl rfl) rfl rfl hl.1 rfl (lv_room (Nat.le_of_ble_eq_true rfl)) d_M_know_7 ⟨Nat.zero_le _, Nat.zero_le _⟩) ?_
  refine lv_if_ne (tgt := 16) hx hb d_M_know_10 (by decide) (fun c_10 => ?_) (fun c_10 => ?_)
  · skip
    refine lv_iload_n hx hb d_M_know_16 rfl (lv_at hl 1 rfl) ?_
    refine lv_i2l hx hb d_M_know_17 rfl ?_
    refine lv_lconst (v := 0) hx hb d_M_know_18 (by decide) ?_
    refine lv_ldc2 (v := 3) hx hb hown (htb _ wd_461) d_M_know_19 ?_
    refine bz_si (va_runS (As := [.long q.toInt64, .long 0, .long 3]) (rest := []) ⟨hx, hb, hml, hown, htb⟩ (c_M_isIn l dC dI am cI cL cZ (bz_tM t) 0 sv ex S1 S2 S3 _ _ _) (va_cwS 3 htb (bz_gS wd_460 wd_458 wd_459 wd_23) rfl rfl rfl (by decide +kernel) ⟨Nat.le_of_ble_eq_true rfl, Nat.le_of_ble_eq_true rfl⟩) (bz_rs hN hK hP) rfl rfl hl.1 rfl (lv_room (Nat.le_of_ble_eq_true rfl)) d_M_know_22 ⟨Nat.zero_le _, Nat.zero_le _⟩) ?_
    refine bz_ri (y := bz_i (bz_ir q)) (by rw [bz_ir_l]) ?_
    refine lv_if_ne (tgt := 31) hx hb d_M_know_25 (by decide) (fun c_25 => ?_) (fun c_25 => ?_)
    · skip
      exact absurd (bz_i_ne c_25) (by rw [hq]; decide)
    · skip
      refine lv_bipush (v := (-12)) hx hb d_M_know_28 (by decide) ?_
      exact W.iret (v := (-12)) hx hb hr (fun t9 ht9 hW => ⟨⟨(-12), (), rfl, rfl, by rw [ht9]; exact hP, va_K.moved hW.alike hK, hD⟩, hS.F ht9⟩) hS.2.2 d_M_know_30
  · skip
    exact absurd (bz_i_eq c_10) (by rw [hz]; decide)

set_option maxHeartbeats 4000000 in
set_option maxRecDepth 100000 in
/-- know, as before -/
theorem c_M_know_s (l : Launch) (dC : Nat → ClassId) (dI : Nat → Nat → Nat) (sz : Nat) (am : Nat → Nat) (cI cL cZ : ClassId) (t : bz_T) (th sv ex : Int32) (S1 S2 S3 : Nat → Int32) (ht : bz_ok t) (r a : Nat) (hr4 : r < 4) (ha : a < bz_n t) (hk : bz_k t r a = true) : Met l y_M_know w_M_know ({ frames := 1, cells := 0, slots := 0, locals := 25 }) (bz_Pw (dC, dI) [(cI, .int), (cL, .long), (cZ, .boolean)] (bz_wM am cI cL cZ (bz_tM t) (th, sv, ex) (S1, S2, S3)) sz [.ref (am 0), .int (nI r), .int (nI (a + 1))]) (bz_Qi (dC, dI) [(cI, .int), (cL, .long), (cZ, .boolean)] (va_A (bz_wM am cI cL cZ (bz_tM t) (th, sv, ex) (S1, S2, S3)) sz) (0) (bz_wM am cI cL cZ (bz_tM t) (0, sv, ex) (S1, S2, S3))) 0 0 (va_A (bz_wM am cI cL cZ (bz_tM t) (th, sv, ex) (S1, S2, S3)) sz) := by
  refine Met.ofW (cc := b_M_know) (maxL := 4) (ret := (some .int)) (by decide) rfl ?_
  intro p e s m args below meth c s₁ B hml hv
  obtain ⟨rfl, hsz, hP, hK, hD0, hN⟩ := hv
  have hx := B.exec
  have hb := B.bytes
  have hr := B.returns
  have hts := atoms_spec (ws := w_M_know) B.pre
  have hown : s.vm.findClass R_M = some m.cls := findClass_of_methodNamed B.named
  have htb : ∀ w ∈ bz_tb, w.before _ s = true := fun w h => hts w (List.mem_cons_of_mem _ h)
  have hlocks := B.notSynchronized
  subst hsz
  have hD := hD0.self (sz := s.heap.size)
  generalize hAe : va_A (bz_wM am cI cL cZ (bz_tM t) (th, sv, ex) (S1, S2, S3)) s.heap.size = A at hD ⊢
  have hA : ∀ q : Nat, s.heap.size ≤ q → A q := fun q h => by rw [← hAe]; exact Or.inr h
  have hS : va_S A s.heap s.heap [] := va_S.rf
  have hl := lv_entry ([.ref (am 0), .int (nI r), .int (nI (a + 1))]) (n := 4) (Nat.le_of_ble_eq_true rfl)
  rw [lg_entry_eq]
  generalize (lg_sl ([.ref (am 0), .int (nI r), .int (nI (a + 1))]) ++ List.replicate (4 - (lg_sl ([.ref (am 0), .int (nI r), .int (nI (a + 1))])).length) Slot.unset).toArray = ls at hl ⊢
  have hl : lv_has ls 4 [(0, .ref (am 0)), (1, .int (nI r)), (2, .int (nI (a + 1)))] := hl
  have hn30 := ht.1
  have hir : bz_ir (nI r) = true := decide_eq_true ⟨nI_pos' (by omega), (nI_ltI (b := 4) (by omega) (by omega)).mpr hr4⟩
  have hia : bz_ia (bz_n t) (nI (a + 1)) = true := decide_eq_true ⟨(nI_leI (a := 1) (by omega) (by omega)).mpr (by omega), (nI_leI (by omega) (by omega)).mpr (by omega)⟩
  refine lv_aload_n hx hb d_M_know_0 rfl (lv_at hl 0 rfl) ?_
  refine lv_iconst (v := 0) hx hb d_M_know_1 (by decide) ?_
  refine va_put (D := (dC, dI)) (ci := 4) (v := .int 0) (ty := .int) (C := R_M) (T := F_M) (N := 12) hx hb htb in_M tf_M tok_M n_M hown hK hP hD hS 0 rfl rfl 0 (by decide) (htb _ wd_411) (fun _ h9 => h9) rfl (by decide +kernel) rfl rfl (Nat.le_of_ble_eq_true rfl) d_M_know_2 (fun H locs hP hD hS => ?_)
  have hP : va_P (dC, dI) vwCl (bz_wM am cI cL cZ (bz_tM t) (0, sv, ex) (S1, S2, S3)) H := hP
  have hD : va_D A (bz_wM am cI cL cZ (bz_tM t) (0, sv, ex) (S1, S2, S3)) := hD
  refine lv_aload_n hx hb d_M_know_5 rfl (lv_at hl 0 rfl) ?_
  refine lv_iload_n hx hb d_M_know_6 rfl (lv_at hl 2 rfl) ?_
  refine bz_si (va_runV (As := [.int (nI (a + 1))]) (rest := []) ⟨hx, hb, hml, hown, htb⟩ (c_M_isArea l dC dI am cI cL cZ t 0 sv ex S1 S2 S3 ht _) (cwV 1 htb (bz_gV wd_473 wd_470 wd_472 wd_6 wd_23) rfl rfl rfl (by decide +kernel) ⟨Nat.le_of_ble_eq_true rfl, Nat.le_of_ble_eq_true rfl⟩) (bz_rv hN hK hP (q0 := 0) rfl rfl) rfl rfl hl.1 rfl (lv_room (Nat.le_of_ble_eq_true rfl)) d_M_know_7 ⟨Nat.zero_le _, Nat.zero_le _⟩) ?_
  refine lv_if_ne (tgt := 16) hx hb d_M_know_10 (by decide) (fun c_10 => ?_) (fun c_10 => ?_)
  · skip
    refine lv_iload_n hx hb d_M_know_16 rfl (lv_at hl 1 rfl) ?_
    refine lv_i2l hx hb d_M_know_17 rfl ?_
    refine lv_lconst (v := 0) hx hb d_M_know_18 (by decide) ?_
    refine lv_ldc2 (v := 3) hx hb hown (htb _ wd_461) d_M_know_19 ?_
    refine bz_si (va_runS (As := [.long ((nI r).toInt64), .long 0, .long 3]) (rest := []) ⟨hx, hb, hml, hown, htb⟩ (c_M_isIn l dC dI am cI cL cZ (bz_tM t) 0 sv ex S1 S2 S3 _ _ _) (va_cwS 3 htb (bz_gS wd_460 wd_458 wd_459 wd_23) rfl rfl rfl (by decide +kernel) ⟨Nat.le_of_ble_eq_true rfl, Nat.le_of_ble_eq_true rfl⟩) (bz_rs hN hK hP) rfl rfl hl.1 rfl (lv_room (Nat.le_of_ble_eq_true rfl)) d_M_know_22 ⟨Nat.zero_le _, Nat.zero_le _⟩) ?_
    refine bz_ri (y := bz_i (bz_ir (nI r))) (by rw [bz_ir_l]) ?_
    refine lv_if_ne (tgt := 31) hx hb d_M_know_25 (by decide) (fun c_25 => ?_) (fun c_25 => ?_)
    · skip
      refine lv_bipush (v := 30) hx hb d_M_know_31 (by decide) ?_
      refine lv_iload_n hx hb d_M_know_33 rfl (lv_at hl 1 rfl) ?_
      refine lv_imul hx hb d_M_know_34 ?_
      refine bz_ri (y := nI (30 * r)) (pk_mul 30 _) ?_
      refine lv_iload_n hx hb d_M_know_35 rfl (lv_at hl 2 rfl) ?_
      refine lv_iadd hx hb d_M_know_36 ?_
      refine bz_ri (y := nI (30 * r + (a + 1))) (nI_add _ _) ?_
      refine lv_iconst (v := 1) hx hb d_M_know_37 (by decide) ?_
      refine lv_isub hx hb d_M_know_38 ?_
      refine bz_ri (y := nI (30 * r + a)) (nI_pred _) ?_
      refine lv_istore_n (lv' := [(3, .int (nI (30 * r + a))), (0, .ref (am 0)), (1, .int (nI r)), (2, .int (nI (a + 1)))]) hx hb d_M_know_39 rfl hl (by decide) rfl (fun ls hl => ?_)
      refine lv_aload_n hx hb d_M_know_40 rfl (lv_at hl 1 rfl) ?_
      refine va_get (D := (dC, dI)) (ci := 4) (v := .ref (am 4)) (C := R_M) (T := F_M) (N := 12) hx hb htb in_M hown hK hP 0 rfl rfl 5 (by decide) (htb _ wd_416) (fun _ h9 => h9) rfl d_M_know_41 ?_
      refine lv_iload_n hx hb d_M_know_44 rfl (lv_at hl 0 rfl) ?_
      refine bz_zald (v := bz_i (bz_k t r a)) hx hb hK hP 4 2 rfl rfl (a9 := (30 * r + a)) (by omega) (by decide) (by show bz_i (bz_k t ((30 * r + a) / 30) ((30 * r + a) % 30)) = _; rw [show (30 * r + a) / 30 = r by omega, show (30 * r + a) % 30 = a by omega]) d_M_know_45 ?_
      refine lv_if_eq (tgt := 51) hx hb d_M_know_46 (by decide) (fun c_46 => ?_) (fun c_46 => ?_)
      · skip
        exact absurd (bz_i_eq c_46) (by rw [hk]; decide)
      · skip
        refine lv_iconst (v := 0) hx hb d_M_know_49 (by decide) ?_
        exact W.iret (v := 0) hx hb hr (fun t9 ht9 hW => ⟨⟨0, (), rfl, rfl, by rw [ht9]; exact hP, va_K.moved hW.alike hK, hD⟩, hS.F ht9⟩) hS.2.2 d_M_know_50
    · skip
      exact absurd (bz_i_eq c_25) (by rw [hir]; decide)
  · skip
    exact absurd (bz_i_eq c_10) (by rw [hia]; decide)

set_option maxHeartbeats 4000000 in
set_option maxRecDepth 100000 in
/-- know -/
theorem c_M_know (l : Launch) (dC : Nat → ClassId) (dI : Nat → Nat → Nat) (sz : Nat) (am : Nat → Nat) (cI cL cZ : ClassId) (t : bz_T) (th sv ex : Int32) (S1 S2 S3 : Nat → Int32) (ht : bz_ok t) (r a : Nat) (hr4 : r < 4) (ha : a < bz_n t) (hk : bz_k t r a = false) : Met l y_M_know w_M_know ({ frames := 1, cells := 0, slots := 0, locals := 25 }) (bz_Pw (dC, dI) [(cI, .int), (cL, .long), (cZ, .boolean)] (bz_wM am cI cL cZ (bz_tM t) (th, sv, ex) (S1, S2, S3)) sz [.ref (am 0), .int (nI r), .int (nI (a + 1))]) (bz_Qi (dC, dI) [(cI, .int), (cL, .long), (cZ, .boolean)] (va_A (bz_wM am cI cL cZ (bz_tM t) (th, sv, ex) (S1, S2, S3)) sz) (1) (bz_wM am cI cL cZ (bz_tM (bz_sK t r a)) (0, 0, 0) (S1, S2, S3))) 0 0 (va_A (bz_wM am cI cL cZ (bz_tM t) (th, sv, ex) (S1, S2, S3)) sz) := by
  refine Met.ofW (cc := b_M_know) (maxL := 4) (ret := (some .int)) (by decide) rfl ?_
  intro p e s m args below meth c s₁ B hml hv
  obtain ⟨rfl, hsz, hP, hK, hD0, hN⟩ := hv
  have hx := B.exec
  have hb := B.bytes
  have hr := B.returns
  have hts := atoms_spec (ws := w_M_know) B.pre
  have hown : s.vm.findClass R_M = some m.cls := findClass_of_methodNamed B.named
  have htb : ∀ w ∈ bz_tb, w.before _ s = true := fun w h => hts w (List.mem_cons_of_mem _ h)
  have hlocks := B.notSynchronized
  subst hsz
  have hD := hD0.self (sz := s.heap.size)
  generalize hAe : va_A (bz_wM am cI cL cZ (bz_tM t) (th, sv, ex) (S1, S2, S3)) s.heap.size = A at hD ⊢
  have hA : ∀ q : Nat, s.heap.size ≤ q → A q := fun q h => by rw [← hAe]; exact Or.inr h
  have hS : va_S A s.heap s.heap [] := va_S.rf
  have hl := lv_entry ([.ref (am 0), .int (nI r), .int (nI (a + 1))]) (n := 4) (Nat.le_of_ble_eq_true rfl)
  rw [lg_entry_eq]
  generalize (lg_sl ([.ref (am 0), .int (nI r), .int (nI (a + 1))]) ++ List.replicate (4 - (lg_sl ([.ref (am 0), .int (nI r), .int (nI (a + 1))])).length) Slot.unset).toArray = ls at hl ⊢
  have hl : lv_has ls 4 [(0, .ref (am 0)), (1, .int (nI r)), (2, .int (nI (a + 1)))] := hl
  have hn30 := ht.1
  have hir : bz_ir (nI r) = true := decide_eq_true ⟨nI_pos' (by omega), (nI_ltI (b := 4) (by omega) (by omega)).mpr hr4⟩
  have hia : bz_ia (bz_n t) (nI (a + 1)) = true := decide_eq_true ⟨(nI_leI (a := 1) (by omega) (by omega)).mpr (by omega), (nI_leI (by omega) (by omega)).mpr (by omega)⟩
  refine lv_aload_n hx hb d_M_know_0 rfl (lv_at hl 0 rfl) ?_
  refine lv_iconst (v := 0) hx hb d_M_know_1 (by decide) ?_
  refine va_put (D := (dC, dI)) (ci := 4) (v := .int 0) (ty := .int) (C := R_M) (T := F_M) (N := 12) hx hb htb in_M tf_M tok_M n_M hown hK hP hD hS 0 rfl rfl 0 (by decide) (htb _ wd_411) (fun _ h9 => h9) rfl (by decide +kernel) rfl rfl (Nat.le_of_ble_eq_true rfl) d_M_know_2 (fun H locs hP hD hS => ?_)
  have hP : va_P (dC, dI) vwCl (bz_wM am cI cL cZ (bz_tM t) (0, sv, ex) (S1, S2, S3)) H := hP
  have hD : va_D A (bz_wM am cI cL cZ (bz_tM t) (0, sv, ex) (S1, S2, S3)) := hD
  refine lv_aload_n hx hb d_M_know_5 rfl (lv_at hl 0 rfl) ?_
  refine lv_iload_n hx hb d_M_know_6 rfl (lv_at hl 2 rfl) ?_
  refine bz_si (va_runV (As := [.int (nI (a + 1))]) (rest := []) ⟨hx, hb, hml, hown, htb⟩ (c_M_isArea l dC dI am cI cL cZ t 0 sv ex S1 S2 S3 ht _) (cwV 1 htb (bz_gV wd_473 wd_470 wd_472 wd_6 wd_23) rfl rfl rfl (by decide +kernel) ⟨Nat.le_of_ble_eq_true rfl, Nat.le_of_ble_eq_true rfl⟩) (bz_rv hN hK hP (q0 := 0) rfl rfl) rfl rfl hl.1 rfl (lv_room (Nat.le_of_ble_eq_true rfl)) d_M_know_7 ⟨Nat.zero_le _, Nat.zero_le _⟩) ?_
  refine lv_if_ne (tgt := 16) hx hb d_M_know_10 (by decide) (fun c_10 => ?_) (fun c_10 => ?_)
  · skip
    refine lv_iload_n hx hb d_M_know_16 rfl (lv_at hl 1 rfl) ?_
    refine lv_i2l hx hb d_M_know_17 rfl ?_
    refine lv_lconst (v := 0) hx hb d_M_know_18 (by decide) ?_
    refine lv_ldc2 (v := 3) hx hb hown (htb _ wd_461) d_M_know_19 ?_
    refine bz_si (va_runS (As := [.long ((nI r).toInt64), .long 0, .long 3]) (rest := []) ⟨hx, hb, hml, hown, htb⟩ (c_M_isIn l dC dI am cI cL cZ (bz_tM t) 0 sv ex S1 S2 S3 _ _ _) (va_cwS 3 htb (bz_gS wd_460 wd_458 wd_459 wd_23) rfl rfl rfl (by decide +kernel) ⟨Nat.le_of_ble_eq_true rfl, Nat.le_of_ble_eq_true rfl⟩) (bz_rs hN hK hP) rfl rfl hl.1 rfl (lv_room (Nat.le_of_ble_eq_true rfl)) d_M_know_22 ⟨Nat.zero_le _, Nat.zero_le _⟩) ?_
    refine bz_ri (y := bz_i (bz_ir (nI r))) (by rw [bz_ir_l]) ?_
    refine lv_if_ne (tgt := 31) hx hb d_M_know_25 (by decide) (fun c_25 => ?_) (fun c_25 => ?_)
    · skip
      refine lv_bipush (v := 30) hx hb d_M_know_31 (by decide) ?_
      refine lv_iload_n hx hb d_M_know_33 rfl (lv_at hl 1 rfl) ?_
      refine lv_imul hx hb d_M_know_34 ?_
      refine bz_ri (y := nI (30 * r)) (pk_mul 30 _) ?_
      refine lv_iload_n hx hb d_M_know_35 rfl (lv_at hl 2 rfl) ?_
      refine lv_iadd hx hb d_M_know_36 ?_
      refine bz_ri (y := nI (30 * r + (a + 1))) (nI_add _ _) ?_
      refine lv_iconst (v := 1) hx hb d_M_know_37 (by decide) ?_
      refine lv_isub hx hb d_M_know_38 ?_
      refine bz_ri (y := nI (30 * r + a)) (nI_pred _) ?_
      refine lv_istore_n (lv' := [(3, .int (nI (30 * r + a))), (0, .ref (am 0)), (1, .int (nI r)), (2, .int (nI (a + 1)))]) hx hb d_M_know_39 rfl hl (by decide) rfl (fun ls hl => ?_)
      refine lv_aload_n hx hb d_M_know_40 rfl (lv_at hl 1 rfl) ?_
      refine va_get (D := (dC, dI)) (ci := 4) (v := .ref (am 4)) (C := R_M) (T := F_M) (N := 12) hx hb htb in_M hown hK hP 0 rfl rfl 5 (by decide) (htb _ wd_416) (fun _ h9 => h9) rfl d_M_know_41 ?_
      refine lv_iload_n hx hb d_M_know_44 rfl (lv_at hl 0 rfl) ?_
      refine bz_zald (v := bz_i (bz_k t r a)) hx hb hK hP 4 2 rfl rfl (a9 := (30 * r + a)) (by omega) (by decide) (by show bz_i (bz_k t ((30 * r + a) / 30) ((30 * r + a) % 30)) = _; rw [show (30 * r + a) / 30 = r by omega, show (30 * r + a) % 30 = a by omega]) d_M_know_45 ?_
      refine lv_if_eq (tgt := 51) hx hb d_M_know_46 (by decide) (fun c_46 => ?_) (fun c_46 => ?_)
      · skip
        refine lv_aload_n hx hb d_M_know_51 rfl (lv_at hl 1 rfl) ?_
        refine va_get (D := (dC, dI)) (ci := 4) (v := .ref (am 4)) (C := R_M) (T := F_M) (N := 12) hx hb htb in_M hown hK hP 0 rfl rfl 5 (by decide) (htb _ wd_416) (fun _ h9 => h9) rfl d_M_know_52 ?_
        refine lv_iload_n hx hb d_M_know_55 rfl (lv_at hl 0 rfl) ?_
        refine lv_iconst (v := 1) hx hb d_M_know_56 (by decide) ?_
        refine bz_zast (b9 := true) hx hb hK hP hD hS 4 2 rfl rfl (a9 := (30 * r + a)) (by omega) (by decide) (rfl) d_M_know_57 (fun H locs hP hD hS => ?_)
        have hP : va_P (dC, dI) vwCl (bz_wM am cI cL cZ ((bz_tM t).1, (bz_tM t).2.1, (bz_tM t).2.2.1, (upd ((bz_tM t).2.2.2.1) (30 * r + a) (bz_i true)), (bz_tM t).2.2.2.2.1, nI (bz_n t)) (0, sv, ex) (S1, S2, S3)) H := hP
        have hD : va_D A (bz_wM am cI cL cZ ((bz_tM t).1, (bz_tM t).2.1, (bz_tM t).2.2.1, (upd ((bz_tM t).2.2.2.1) (30 * r + a) (bz_i true)), (bz_tM t).2.2.2.2.1, nI (bz_n t)) (0, sv, ex) (S1, S2, S3)) := hD
        refine lv_aload_n hx hb d_M_know_58 rfl (lv_at hl 1 rfl) ?_
        refine bz_cv (va_runV (As := []) (rest := []) ⟨hx, hb, hml, hown, htb⟩ (c_M_changes l dC dI _ am cI cL cZ ((bz_tM t).1, (bz_tM t).2.1, (bz_tM t).2.2.1, (upd ((bz_tM t).2.2.2.1) (30 * r + a) (bz_i true)), (bz_tM t).2.2.2.2.1, nI (bz_n t)) 0 sv ex S1 S2 S3) (cwV 0 htb (bz_gV wd_465 wd_462 wd_464 wd_5 wd_23) rfl rfl rfl (by decide +kernel) ⟨Nat.le_of_ble_eq_true rfl, Nat.le_of_ble_eq_true rfl⟩) (bz_wv hN hK hP hD (q0 := 0) rfl rfl) rfl rfl hl.1 rfl (lv_room (Nat.le_of_ble_eq_true rfl)) d_M_know_59 ⟨Nat.zero_le _, Nat.zero_le _⟩) hD hS hA (fun H locs hP hD hS => ?_)
        have hP : va_P (dC, dI) vwCl (bz_wM am cI cL cZ ((bz_tM t).1, (bz_tM t).2.1, (bz_tM t).2.2.1, (upd ((bz_tM t).2.2.2.1) (30 * r + a) (bz_i true)), (bz_tM t).2.2.2.2.1, nI (bz_n t)) (0, 0, 0) (S1, S2, S3)) H := hP
        have hD : va_D A (bz_wM am cI cL cZ ((bz_tM t).1, (bz_tM t).2.1, (bz_tM t).2.2.1, (upd ((bz_tM t).2.2.2.1) (30 * r + a) (bz_i true)), (bz_tM t).2.2.2.2.1, nI (bz_n t)) (0, 0, 0) (S1, S2, S3)) := hD
        refine lv_iconst (v := 1) hx hb d_M_know_62 (by decide) ?_
        have e9 : bz_tM (bz_sK t r a) = ((bz_tM t).1, (bz_tM t).2.1, (bz_tM t).2.2.1, (upd ((bz_tM t).2.2.2.1) (30 * r + a) (bz_i true)), (bz_tM t).2.2.2.2.1, nI (bz_n t)) := bz_sK_M t (by omega)
        rw [← e9] at hP hD
        exact W.iret (v := 1) hx hb hr (fun t9 ht9 hW => ⟨⟨1, (), rfl, rfl, by rw [ht9]; exact hP, va_K.moved hW.alike hK, hD⟩, hS.F ht9⟩) hS.2.2 d_M_know_63
      · skip
        exact absurd (bz_i_ne c_46) (by rw [hk]; decide)
    · skip
      exact absurd (bz_i_eq c_25) (by rw [hir]; decide)
  · skip
    exact absurd (bz_i_eq c_10) (by rw [hia]; decide)

set_option maxHeartbeats 4000000 in
set_option maxRecDepth 100000 in
/-- solve, refused -/
theorem c_M_solve_o (l : Launch) (dC : Nat → ClassId) (dI : Nat → Nat → Nat) (sz : Nat) (am : Nat → Nat) (cI cL cZ : ClassId) (t : bz_T) (th sv ex : Int32) (S1 S2 S3 : Nat → Int32) (ht : bz_ok t) (z : Int64) (hz : ¬ (0 ≤ z ∧ z ≤ 100000)) : Met l y_M_solve w_M_solve ({ frames := 5, cells := 0, slots := 0, locals := 128 }) (bz_Pw (dC, dI) [(cI, .int), (cL, .long), (cZ, .boolean)] (bz_wM am cI cL cZ (bz_tM t) (th, sv, ex) (S1, S2, S3)) sz [.ref (am 0), .long z]) (bz_Ql (dC, dI) [(cI, .int), (cL, .long), (cZ, .boolean)] (va_A (bz_wM am cI cL cZ (bz_tM t) (th, sv, ex) (S1, S2, S3)) sz) ((-12)) (bz_wM am cI cL cZ (bz_tM t) (0, sv, ex) (S1, S2, S3))) 0 0 (va_A (bz_wM am cI cL cZ (bz_tM t) (th, sv, ex) (S1, S2, S3)) sz) := by
  refine Met.ofW (cc := b_M_solve) (maxL := 3) (ret := (some .long)) (by decide) rfl ?_
  intro p e s m args below meth c s₁ B hml hv
  obtain ⟨rfl, hsz, hP, hK, hD0, hN⟩ := hv
  have hx := B.exec
  have hb := B.bytes
  have hr := B.returns
  have hts := atoms_spec (ws := w_M_solve) B.pre
  have hown : s.vm.findClass R_M = some m.cls := findClass_of_methodNamed B.named
  have htb : ∀ w ∈ bz_tb, w.before _ s = true := fun w h => hts w (List.mem_cons_of_mem _ h)
  have hlocks := B.notSynchronized
  subst hsz
  have hD := hD0.self (sz := s.heap.size)
  generalize hAe : va_A (bz_wM am cI cL cZ (bz_tM t) (th, sv, ex) (S1, S2, S3)) s.heap.size = A at hD ⊢
  have hA : ∀ q : Nat, s.heap.size ≤ q → A q := fun q h => by rw [← hAe]; exact Or.inr h
  have hS : va_S A s.heap s.heap [] := va_S.rf
  have hl := lv_entry ([.ref (am 0), .long z]) (n := 3) (Nat.le_of_ble_eq_true rfl)
  rw [lg_entry_eq]
  generalize (lg_sl ([.ref (am 0), .long z]) ++ List.replicate (3 - (lg_sl ([.ref (am 0), .long z])).length) Slot.unset).toArray = ls at hl ⊢
  have hl : lv_has ls 3 [(0, .ref (am 0)), (1, .long z)] := hl
  refine lv_aload_n hx hb d_M_solve_0 rfl (lv_at hl 0 rfl) ?_
  refine lv_iconst (v := 0) hx hb d_M_solve_1 (by decide) ?_
  refine va_put (D := (dC, dI)) (ci := 4) (v := .int 0) (ty := .int) (C := R_M) (T := F_M) (N := 12) hx hb htb in_M tf_M tok_M n_M hown hK hP hD hS 0 rfl rfl 0 (by decide) (htb _ wd_411) (fun _ h9 => h9) rfl (by decide +kernel) rfl rfl (Nat.le_of_ble_eq_true rfl) d_M_solve_2 (fun H locs hP hD hS => ?_)
  have hP : va_P (dC, dI) vwCl (bz_wM am cI cL cZ (bz_tM t) (0, sv, ex) (S1, S2, S3)) H := hP
  have hD : va_D A (bz_wM am cI cL cZ (bz_tM t) (0, sv, ex) (S1, S2, S3)) := hD
  refine lv_lload_n hx hb d_M_solve_5 rfl (lv_at hl 1 rfl) ?_
  refine lv_lconst (v := 0) hx hb d_M_solve_6 (by decide) ?_
  refine lv_ldc2 (v := 100000) hx hb hown (htb _ wd_487) d_M_solve_7 ?_
  refine bz_si (va_runS (As := [.long z, .long 0, .long 100000]) (rest := []) ⟨hx, hb, hml, hown, htb⟩ (c_M_isIn l dC dI am cI cL cZ (bz_tM t) 0 sv ex S1 S2 S3 _ _ _) (va_cwS 3 htb (bz_gS wd_460 wd_458 wd_459 wd_23) rfl rfl rfl (by decide +kernel) ⟨Nat.le_of_ble_eq_true rfl, Nat.le_of_ble_eq_true rfl⟩) (bz_rs hN hK hP) rfl rfl hl.1 rfl (lv_room (Nat.le_of_ble_eq_true rfl)) d_M_solve_10 ⟨Nat.zero_le _, Nat.zero_le _⟩) ?_
  refine lv_if_ne (tgt := 20) hx hb d_M_solve_13 (by decide) (fun c_13 => ?_) (fun c_13 => ?_)
  · skip
    exact absurd (of_decide_eq_true (bz_i_ne c_13)) hz
  · skip
    refine lv_ldc2 (v := (-12)) hx hb hown (htb _ wd_488) d_M_solve_16 ?_
    exact W.lret (v := (-12)) hx hb hr (fun t9 ht9 hW => ⟨⟨(-12), (), rfl, rfl, by rw [ht9]; exact hP, va_K.moved hW.alike hK, hD⟩, hS.F ht9⟩) hS.2.2 d_M_solve_19

set_option maxHeartbeats 4000000 in
set_option maxRecDepth 100000 in
/-- solve -/
theorem c_M_solve (l : Launch) (dC : Nat → ClassId) (dI : Nat → Nat → Nat) (sz : Nat) (am : Nat → Nat) (cI cL cZ : ClassId) (t : bz_T) (th sv ex : Int32) (g0 tr0 : Nat → Nat) (S3 : Nat → Int32) (ht : bz_ok t) (K : Nat) (hK0 : K ≤ 100000) : Met l y_M_solve w_M_solve ({ frames := 5, cells := 0, slots := 0, locals := 128 }) (bz_Pw (dC, dI) [(cI, .int), (cL, .long), (cZ, .boolean)] (bz_wM am cI cL cZ (bz_tM t) (th, sv, ex) ((fun a => nI (g0 a)), (fun a => nI (tr0 a)), S3)) sz [.ref (am 0), .long (lN K)]) (bz_Qxl (dC, dI) [(cI, .int), (cL, .long), (cZ, .boolean)] (va_A (bz_wM am cI cL cZ (bz_tM t) (th, sv, ex) ((fun a => nI (g0 a)), (fun a => nI (tr0 a)), S3)) sz) (fun r9 (u : (Nat → Nat) × (Nat → Nat) × (Nat → Int32)) => r9 = lN (bz_gl t (bz_fu u.1)) ∧ bz_so t K u.1) (fun u : (Nat → Nat) × (Nat → Nat) × (Nat → Int32) => bz_wM am cI cL cZ (bz_tM t) (0, 1, bz_i (decide (bz_n t ≤ 8))) ((fun a => nI (u.1 a)), (fun a => nI (u.2.1 a)), u.2.2))) 0 0 (va_A (bz_wM am cI cL cZ (bz_tM t) (th, sv, ex) ((fun a => nI (g0 a)), (fun a => nI (tr0 a)), S3)) sz) := by
  refine Met.ofW (cc := b_M_solve) (maxL := 3) (ret := (some .long)) (by decide) rfl ?_
  intro p e s m args below meth c s₁ B hml hv
  obtain ⟨rfl, hsz, hP, hK, hD0, hN⟩ := hv
  have hx := B.exec
  have hb := B.bytes
  have hr := B.returns
  have hts := atoms_spec (ws := w_M_solve) B.pre
  have hown : s.vm.findClass R_M = some m.cls := findClass_of_methodNamed B.named
  have htb : ∀ w ∈ bz_tb, w.before _ s = true := fun w h => hts w (List.mem_cons_of_mem _ h)
  have hlocks := B.notSynchronized
  subst hsz
  have hD := hD0.self (sz := s.heap.size)
  generalize hAe : va_A (bz_wM am cI cL cZ (bz_tM t) (th, sv, ex) ((fun a => nI (g0 a)), (fun a => nI (tr0 a)), S3)) s.heap.size = A at hD ⊢
  have hA : ∀ q : Nat, s.heap.size ≤ q → A q := fun q h => by rw [← hAe]; exact Or.inr h
  have hS : va_S A s.heap s.heap [] := va_S.rf
  have hl := lv_entry ([.ref (am 0), .long (lN K)]) (n := 3) (Nat.le_of_ble_eq_true rfl)
  rw [lg_entry_eq]
  generalize (lg_sl ([.ref (am 0), .long (lN K)]) ++ List.replicate (3 - (lg_sl ([.ref (am 0), .long (lN K)])).length) Slot.unset).toArray = ls at hl ⊢
  have hl : lv_has ls 3 [(0, .ref (am 0)), (1, .long (lN K))] := hl
  have hn30 := ht.1
  have hlin : decide ((0 : Int64) ≤ lN K ∧ lN K ≤ 100000) = true := decide_eq_true ⟨(pk_lLE (a := 0) (by omega) (by omega)).mpr (by omega), (pk_lLE (b := 100000) (by omega) (by omega)).mpr hK0⟩
  refine lv_aload_n hx hb d_M_solve_0 rfl (lv_at hl 0 rfl) ?_
  refine lv_iconst (v := 0) hx hb d_M_solve_1 (by decide) ?_
  refine va_put (D := (dC, dI)) (ci := 4) (v := .int 0) (ty := .int) (C := R_M) (T := F_M) (N := 12) hx hb htb in_M tf_M tok_M n_M hown hK hP hD hS 0 rfl rfl 0 (by decide) (htb _ wd_411) (fun _ h9 => h9) rfl (by decide +kernel) rfl rfl (Nat.le_of_ble_eq_true rfl) d_M_solve_2 (fun H locs hP hD hS => ?_)
  have hP : va_P (dC, dI) vwCl (bz_wM am cI cL cZ (bz_tM t) (0, sv, ex) ((fun a => nI (g0 a)), (fun a => nI (tr0 a)), S3)) H := hP
  have hD : va_D A (bz_wM am cI cL cZ (bz_tM t) (0, sv, ex) ((fun a => nI (g0 a)), (fun a => nI (tr0 a)), S3)) := hD
  refine lv_lload_n hx hb d_M_solve_5 rfl (lv_at hl 1 rfl) ?_
  refine lv_lconst (v := 0) hx hb d_M_solve_6 (by decide) ?_
  refine lv_ldc2 (v := 100000) hx hb hown (htb _ wd_487) d_M_solve_7 ?_
  refine bz_si (va_runS (As := [.long (lN K), .long 0, .long 100000]) (rest := []) ⟨hx, hb, hml, hown, htb⟩ (c_M_isIn l dC dI am cI cL cZ (bz_tM t) 0 sv ex (fun a => nI (g0 a)) (fun a => nI (tr0 a)) S3 _ _ _) (va_cwS 3 htb (bz_gS wd_460 wd_458 wd_459 wd_23) rfl rfl rfl (by decide +kernel) ⟨Nat.le_of_ble_eq_true rfl, Nat.le_of_ble_eq_true rfl⟩) (bz_rs hN hK hP) rfl rfl hl.1 rfl (lv_room (Nat.le_of_ble_eq_true rfl)) d_M_solve_10 ⟨Nat.zero_le _, Nat.zero_le _⟩) ?_
  refine lv_if_ne (tgt := 20) hx hb d_M_solve_13 (by decide) (fun c_13 => ?_) (fun c_13 => ?_)
  · skip
    refine lv_aload_n hx hb d_M_solve_20 rfl (lv_at hl 0 rfl) ?_
    refine lv_iconst (v := 1) hx hb d_M_solve_21 (by decide) ?_
    refine va_put (D := (dC, dI)) (ci := 4) (v := .int 1) (ty := .boolean) (C := R_M) (T := F_M) (N := 12) hx hb htb in_M tf_M tok_M n_M hown hK hP hD hS 0 rfl rfl 7 (by decide) (htb _ wd_418) (fun _ h9 => h9) rfl (by decide +kernel) rfl rfl (Nat.le_of_ble_eq_true rfl) d_M_solve_22 (fun H locs hP hD hS => ?_)
    have hP : va_P (dC, dI) vwCl (bz_wM am cI cL cZ (bz_tM t) (0, 1, ex) ((fun a => nI (g0 a)), (fun a => nI (tr0 a)), S3)) H := hP
    have hD : va_D A (bz_wM am cI cL cZ (bz_tM t) (0, 1, ex) ((fun a => nI (g0 a)), (fun a => nI (tr0 a)), S3)) := hD
    refine lv_aload_n hx hb d_M_solve_25 rfl (lv_at hl 0 rfl) ?_
    refine lv_aload_n hx hb d_M_solve_26 rfl (lv_at hl 0 rfl) ?_
    refine va_get (D := (dC, dI)) (ci := 4) (v := .int (nI (bz_n t))) (C := R_M) (T := F_M) (N := 12) hx hb htb in_M hown hK hP 0 rfl rfl 1 (by decide) (htb _ wd_412) (fun _ h9 => h9) rfl d_M_solve_27 ?_
    refine lv_bipush (v := 9) hx hb d_M_solve_30 (by decide) ?_
    refine lv_icmp_ge (tgt := 39) hx hb d_M_solve_32 (by decide) (fun c_32 => ?_) (fun c_32 => ?_)
    · skip
      have hn8 : ¬ bz_n t ≤ 8 := by have := (nI_leI (a := 9) (by omega) (by omega)).mp c_32; omega
      refine lv_iconst (v := 0) hx hb d_M_solve_39 (by decide) ?_
      refine va_put (D := (dC, dI)) (ci := 4) (v := .int 0) (ty := .boolean) (C := R_M) (T := F_M) (N := 12) hx hb htb in_M tf_M tok_M n_M hown hK hP hD hS 0 rfl rfl 8 (by decide) (htb _ wd_419) (fun _ h9 => h9) rfl (by decide +kernel) rfl rfl (Nat.le_of_ble_eq_true rfl) d_M_solve_40 (fun H locs hP hD hS => ?_)
      have hP : va_P (dC, dI) vwCl (bz_wM am cI cL cZ (bz_tM t) (0, 1, 0) ((fun a => nI (g0 a)), (fun a => nI (tr0 a)), S3)) H := hP
      have hD : va_D A (bz_wM am cI cL cZ (bz_tM t) (0, 1, 0) ((fun a => nI (g0 a)), (fun a => nI (tr0 a)), S3)) := hD
      refine lv_aload_n hx hb d_M_solve_43 rfl (lv_at hl 0 rfl) ?_
      refine va_get (D := (dC, dI)) (ci := 4) (v := .int 0) (C := R_M) (T := F_M) (N := 12) hx hb htb in_M hown hK hP 0 rfl rfl 8 (by decide) (htb _ wd_419) (fun _ h9 => h9) rfl d_M_solve_44 ?_
      refine lv_if_eq (tgt := 57) hx hb d_M_solve_47 (by decide) (fun c_47 => ?_) (fun c_47 => ?_)
      · skip
        refine lv_aload_n hx hb d_M_solve_57 rfl (lv_at hl 0 rfl) ?_
        refine lv_lload_n hx hb d_M_solve_58 rfl (lv_at hl 1 rfl) ?_
        refine bz_cx (va_runV (As := [.long (lN K)]) (rest := []) ⟨hx, hb, hml, hown, htb⟩ (c_M_tryMoves l dC dI _ am cI cL cZ t 0 1 0 g0 (fun a => nI (tr0 a)) S3 ht K hK0) (cwV 1 htb (bz_gV wd_529 wd_526 wd_528 wd_15 wd_23) rfl rfl rfl (by decide +kernel) ⟨Nat.le_of_ble_eq_true rfl, Nat.le_of_ble_eq_true rfl⟩) (bz_wv hN hK hP hD (q0 := 0) rfl rfl) rfl rfl hl.1 rfl (lv_room (Nat.le_of_ble_eq_true rfl)) d_M_solve_59 ⟨Nat.zero_le _, Nat.zero_le _⟩) hD hS hA (fun u hu H locs hP hD hS => ?_)
        have hso : bz_so t K u.1 := ⟨hu.1, fun z => absurd z hn8, fun _ => hu.2⟩
        have hf := hso.1
        have hP : va_P (dC, dI) vwCl (bz_wM am cI cL cZ (bz_tM t) (0, 1, 0) ((fun a => nI (u.1 a)), (fun a => nI (tr0 a)), u.2)) H := hP
        have hD : va_D A (bz_wM am cI cL cZ (bz_tM t) (0, 1, 0) ((fun a => nI (u.1 a)), (fun a => nI (tr0 a)), u.2)) := hD
        refine lv_aload_n hx hb d_M_solve_62 rfl (lv_at hl 0 rfl) ?_
        refine lv_aload_n hx hb d_M_solve_63 rfl (lv_at hl 0 rfl) ?_
        refine va_get (D := (dC, dI)) (ci := 4) (v := .ref (am 6)) (C := R_M) (T := F_M) (N := 12) hx hb htb in_M hown hK hP 0 rfl rfl 9 (by decide) (htb _ wd_420) (fun _ h9 => h9) rfl d_M_solve_64 ?_
        refine bz_sl (va_runV (As := [.ref (am 6)]) (rest := []) ⟨hx, hb, hml, hown, htb⟩ (c_M_greatest_share l dC dI am cI cL cZ t 0 1 0 u.1 (fun a => nI (tr0 a)) u.2 ht hf) (cwV 1 htb (bz_gV wd_521 wd_518 wd_520 wd_13 wd_23) rfl rfl rfl (by decide +kernel) ⟨Nat.le_of_ble_eq_true rfl, Nat.le_of_ble_eq_true rfl⟩) (bz_rv hN hK hP (q0 := 0) rfl rfl) rfl rfl hl.1 rfl (lv_room (Nat.le_of_ble_eq_true rfl)) d_M_solve_67 ⟨Nat.zero_le _, Nat.zero_le _⟩) ?_
        have e8 : bz_i (decide (bz_n t ≤ 8)) = 0 := by rw [decide_eq_false hn8]; rfl
        have hP : va_P (dC, dI) vwCl (bz_wM am cI cL cZ (bz_tM t) (0, 1, bz_i (decide (bz_n t ≤ 8))) ((fun a => nI (u.1 a)), (fun a => nI (tr0 a)), u.2)) H := by rw [e8]; exact hP
        have hD : va_D A (bz_wM am cI cL cZ (bz_tM t) (0, 1, bz_i (decide (bz_n t ≤ 8))) ((fun a => nI (u.1 a)), (fun a => nI (tr0 a)), u.2)) := by rw [e8]; exact hD
        exact W.lret (v := lN (bz_gl t (bz_fu u.1))) hx hb hr (fun t9 ht9 hW => ⟨⟨_, (u.1, tr0, u.2), rfl, ⟨rfl, hso⟩, by rw [ht9]; exact hP, va_K.moved hW.alike hK, hD⟩, hS.F ht9⟩) hS.2.2 d_M_solve_70
      · skip
        exact absurd (by decide) c_47
    · skip
      have hn8 : bz_n t ≤ 8 := by have : bz_n t < 9 := Nat.lt_of_not_le fun z => c_32 ((nI_leI (a := 9) (b := bz_n t) (by omega) (by omega)).mpr z); omega
      refine lv_iconst (v := 1) hx hb d_M_solve_35 (by decide) ?_
      refine lv_goto (tgt := 40) hx hb d_M_solve_36 (by decide) ?_
      refine va_put (D := (dC, dI)) (ci := 4) (v := .int 1) (ty := .boolean) (C := R_M) (T := F_M) (N := 12) hx hb htb in_M tf_M tok_M n_M hown hK hP hD hS 0 rfl rfl 8 (by decide) (htb _ wd_419) (fun _ h9 => h9) rfl (by decide +kernel) rfl rfl (Nat.le_of_ble_eq_true rfl) d_M_solve_40 (fun H locs hP hD hS => ?_)
      have hP : va_P (dC, dI) vwCl (bz_wM am cI cL cZ (bz_tM t) (0, 1, 1) ((fun a => nI (g0 a)), (fun a => nI (tr0 a)), S3)) H := hP
      have hD : va_D A (bz_wM am cI cL cZ (bz_tM t) (0, 1, 1) ((fun a => nI (g0 a)), (fun a => nI (tr0 a)), S3)) := hD
      refine lv_aload_n hx hb d_M_solve_43 rfl (lv_at hl 0 rfl) ?_
      refine va_get (D := (dC, dI)) (ci := 4) (v := .int 1) (C := R_M) (T := F_M) (N := 12) hx hb htb in_M hown hK hP 0 rfl rfl 8 (by decide) (htb _ wd_419) (fun _ h9 => h9) rfl d_M_solve_44 ?_
      refine lv_if_eq (tgt := 57) hx hb d_M_solve_47 (by decide) (fun c_47 => ?_) (fun c_47 => ?_)
      · skip
        exact absurd c_47 (by decide)
      · skip
        refine lv_aload_n hx hb d_M_solve_50 rfl (lv_at hl 0 rfl) ?_
        refine bz_cx (va_runV (As := []) (rest := []) ⟨hx, hb, hml, hown, htb⟩ (c_M_tryAll l dC dI _ am cI cL cZ t 0 1 1 g0 tr0 S3 ht hn8) (cwV 0 htb (bz_gV wd_492 wd_489 wd_491 wd_7 wd_23) rfl rfl rfl (by decide +kernel) ⟨Nat.le_of_ble_eq_true rfl, Nat.le_of_ble_eq_true rfl⟩) (bz_wv hN hK hP hD (q0 := 0) rfl rfl) rfl rfl hl.1 rfl (lv_room (Nat.le_of_ble_eq_true rfl)) d_M_solve_51 ⟨Nat.zero_le _, Nat.zero_le _⟩) hD hS hA (fun u hu H locs hP hD hS => ?_)
        have hso : bz_so t K u.1 := ⟨hu.1, fun _ => hu, fun z => absurd hn8 z⟩
        have hf := hso.1
        have hP : va_P (dC, dI) vwCl (bz_wM am cI cL cZ (bz_tM t) (0, 1, 1) ((fun a => nI (u.1 a)), (fun a => nI (u.2.1 a)), u.2.2)) H := hP
        have hD : va_D A (bz_wM am cI cL cZ (bz_tM t) (0, 1, 1) ((fun a => nI (u.1 a)), (fun a => nI (u.2.1 a)), u.2.2)) := hD
        refine lv_goto (tgt := 62) hx hb d_M_solve_54 (by decide) ?_
        refine lv_aload_n hx hb d_M_solve_62 rfl (lv_at hl 0 rfl) ?_
        refine lv_aload_n hx hb d_M_solve_63 rfl (lv_at hl 0 rfl) ?_
        refine va_get (D := (dC, dI)) (ci := 4) (v := .ref (am 6)) (C := R_M) (T := F_M) (N := 12) hx hb htb in_M hown hK hP 0 rfl rfl 9 (by decide) (htb _ wd_420) (fun _ h9 => h9) rfl d_M_solve_64 ?_
        refine bz_sl (va_runV (As := [.ref (am 6)]) (rest := []) ⟨hx, hb, hml, hown, htb⟩ (c_M_greatest_share l dC dI am cI cL cZ t 0 1 1 u.1 (fun a => nI (u.2.1 a)) u.2.2 ht hf) (cwV 1 htb (bz_gV wd_521 wd_518 wd_520 wd_13 wd_23) rfl rfl rfl (by decide +kernel) ⟨Nat.le_of_ble_eq_true rfl, Nat.le_of_ble_eq_true rfl⟩) (bz_rv hN hK hP (q0 := 0) rfl rfl) rfl rfl hl.1 rfl (lv_room (Nat.le_of_ble_eq_true rfl)) d_M_solve_67 ⟨Nat.zero_le _, Nat.zero_le _⟩) ?_
        have e8 : bz_i (decide (bz_n t ≤ 8)) = 1 := by rw [decide_eq_true hn8]; rfl
        have hP : va_P (dC, dI) vwCl (bz_wM am cI cL cZ (bz_tM t) (0, 1, bz_i (decide (bz_n t ≤ 8))) ((fun a => nI (u.1 a)), (fun a => nI (u.2.1 a)), u.2.2)) H := by rw [e8]; exact hP
        have hD : va_D A (bz_wM am cI cL cZ (bz_tM t) (0, 1, bz_i (decide (bz_n t ≤ 8))) ((fun a => nI (u.1 a)), (fun a => nI (u.2.1 a)), u.2.2)) := by rw [e8]; exact hD
        exact W.lret (v := lN (bz_gl t (bz_fu u.1))) hx hb hr (fun t9 ht9 hW => ⟨⟨_, u, rfl, ⟨rfl, hso⟩, by rw [ht9]; exact hP, va_K.moved hW.alike hK, hD⟩, hS.F ht9⟩) hS.2.2 d_M_solve_70
  · skip
    exact absurd (bz_i_eq c_13) (by rw [hlin]; decide)

set_option maxHeartbeats 4000000 in
set_option maxRecDepth 100000 in
/-- round, no such area -/
theorem c_M_round_u (l : Launch) (dC : Nat → ClassId) (dI : Nat → Nat → Nat) (sz : Nat) (am : Nat → Nat) (cI cL cZ : ClassId) (t : bz_T) (th sv ex : Int32) (S1 S2 S3 : Nat → Int32) (ht : bz_ok t) (x : Int32) (hz : bz_ia (bz_n t) x = false) : Met l y_M_round w_M_round ({ frames := 1, cells := 0, slots := 0, locals := 21 }) (bz_Pw (dC, dI) [(cI, .int), (cL, .long), (cZ, .boolean)] (bz_wM am cI cL cZ (bz_tM t) (th, sv, ex) (S1, S2, S3)) sz [.ref (am 0), .int x]) (bz_Qi (dC, dI) [(cI, .int), (cL, .long), (cZ, .boolean)] (va_A (bz_wM am cI cL cZ (bz_tM t) (th, sv, ex) (S1, S2, S3)) sz) ((-11)) (bz_wM am cI cL cZ (bz_tM t) (0, sv, ex) (S1, S2, S3))) 0 0 (va_A (bz_wM am cI cL cZ (bz_tM t) (th, sv, ex) (S1, S2, S3)) sz) := by
  refine Met.ofW (cc := b_M_round) (maxL := 2) (ret := (some .int)) (by decide) rfl ?_
  intro p e s m args below meth c s₁ B hml hv
  obtain ⟨rfl, hsz, hP, hK, hD0, hN⟩ := hv
  have hx := B.exec
  have hb := B.bytes
  have hr := B.returns
  have hts := atoms_spec (ws := w_M_round) B.pre
  have hown : s.vm.findClass R_M = some m.cls := findClass_of_methodNamed B.named
  have htb : ∀ w ∈ bz_tb, w.before _ s = true := fun w h => hts w (List.mem_cons_of_mem _ h)
  have hlocks := B.notSynchronized
  subst hsz
  have hD := hD0.self (sz := s.heap.size)
  generalize hAe : va_A (bz_wM am cI cL cZ (bz_tM t) (th, sv, ex) (S1, S2, S3)) s.heap.size = A at hD ⊢
  have hA : ∀ q : Nat, s.heap.size ≤ q → A q := fun q h => by rw [← hAe]; exact Or.inr h
  have hS : va_S A s.heap s.heap [] := va_S.rf
  have hl := lv_entry ([.ref (am 0), .int x]) (n := 2) (Nat.le_of_ble_eq_true rfl)
  rw [lg_entry_eq]
  generalize (lg_sl ([.ref (am 0), .int x]) ++ List.replicate (2 - (lg_sl ([.ref (am 0), .int x])).length) Slot.unset).toArray = ls at hl ⊢
  have hl : lv_has ls 2 [(0, .ref (am 0)), (1, .int x)] := hl
  refine lv_aload_n hx hb d_M_round_0 rfl (lv_at hl 0 rfl) ?_
  refine lv_iconst (v := 0) hx hb d_M_round_1 (by decide) ?_
  refine va_put (D := (dC, dI)) (ci := 4) (v := .int 0) (ty := .int) (C := R_M) (T := F_M) (N := 12) hx hb htb in_M tf_M tok_M n_M hown hK hP hD hS 0 rfl rfl 0 (by decide) (htb _ wd_411) (fun _ h9 => h9) rfl (by decide +kernel) rfl rfl (Nat.le_of_ble_eq_true rfl) d_M_round_2 (fun H locs hP hD hS => ?_)
  have hP : va_P (dC, dI) vwCl (bz_wM am cI cL cZ (bz_tM t) (0, sv, ex) (S1, S2, S3)) H := hP
  have hD : va_D A (bz_wM am cI cL cZ (bz_tM t) (0, sv, ex) (S1, S2, S3)) := hD
  refine lv_aload_n hx hb d_M_round_5 rfl (lv_at hl 0 rfl) ?_
  refine lv_iload_n hx hb d_M_round_6 rfl (lv_at hl 1 rfl) ?_
  refine bz_si (va_runV (As := [.int x]) (rest := []) ⟨hx, hb, hml, hown, htb⟩ (c_M_isArea l dC dI am cI cL cZ t 0 sv ex S1 S2 S3 ht _) (cwV 1 htb (bz_gV wd_473 wd_470 wd_472 wd_6 wd_23) rfl rfl rfl (by decide +kernel) ⟨Nat.le_of_ble_eq_true rfl, Nat.le_of_ble_eq_true rfl⟩) (bz_rv hN hK hP (q0 := 0) rfl rfl) rfl rfl hl.1 rfl (lv_room (Nat.le_of_ble_eq_true rfl)) d_M_round_7 ⟨Nat.zero_le _, Nat.zero_le _⟩) ?_
  refine lv_if_ne (tgt := 18) hx hb d_M_round_10 (by decide) (fun c_10 => ?_) (fun c_10 => ?_)
  · skip
    exact absurd (bz_i_ne c_10) (by rw [hz]; decide)
  · skip
    refine lv_bipush (v := (-11)) hx hb d_M_round_13 (by decide) ?_
    refine lv_goto (tgt := 38) hx hb d_M_round_15 (by decide) ?_
    exact W.iret (v := (-11)) hx hb hr (fun t9 ht9 hW => ⟨⟨(-11), (), rfl, rfl, by rw [ht9]; exact hP, va_K.moved hW.alike hK, hD⟩, hS.F ht9⟩) hS.2.2 d_M_round_38

set_option maxHeartbeats 4000000 in
set_option maxRecDepth 100000 in
/-- round, not solved -/
theorem c_M_round_s (l : Launch) (dC : Nat → ClassId) (dI : Nat → Nat → Nat) (sz : Nat) (am : Nat → Nat) (cI cL cZ : ClassId) (t : bz_T) (th ex : Int32) (S1 S2 S3 : Nat → Int32) (ht : bz_ok t) (x : Int32) (hz : bz_ia (bz_n t) x = true) : Met l y_M_round w_M_round ({ frames := 1, cells := 0, slots := 0, locals := 21 }) (bz_Pw (dC, dI) [(cI, .int), (cL, .long), (cZ, .boolean)] (bz_wM am cI cL cZ (bz_tM t) (th, 0, ex) (S1, S2, S3)) sz [.ref (am 0), .int x]) (bz_Qi (dC, dI) [(cI, .int), (cL, .long), (cZ, .boolean)] (va_A (bz_wM am cI cL cZ (bz_tM t) (th, 0, ex) (S1, S2, S3)) sz) ((-13)) (bz_wM am cI cL cZ (bz_tM t) (0, 0, ex) (S1, S2, S3))) 0 0 (va_A (bz_wM am cI cL cZ (bz_tM t) (th, 0, ex) (S1, S2, S3)) sz) := by
  refine Met.ofW (cc := b_M_round) (maxL := 2) (ret := (some .int)) (by decide) rfl ?_
  intro p e s m args below meth c s₁ B hml hv
  obtain ⟨rfl, hsz, hP, hK, hD0, hN⟩ := hv
  have hx := B.exec
  have hb := B.bytes
  have hr := B.returns
  have hts := atoms_spec (ws := w_M_round) B.pre
  have hown : s.vm.findClass R_M = some m.cls := findClass_of_methodNamed B.named
  have htb : ∀ w ∈ bz_tb, w.before _ s = true := fun w h => hts w (List.mem_cons_of_mem _ h)
  have hlocks := B.notSynchronized
  subst hsz
  have hD := hD0.self (sz := s.heap.size)
  generalize hAe : va_A (bz_wM am cI cL cZ (bz_tM t) (th, 0, ex) (S1, S2, S3)) s.heap.size = A at hD ⊢
  have hA : ∀ q : Nat, s.heap.size ≤ q → A q := fun q h => by rw [← hAe]; exact Or.inr h
  have hS : va_S A s.heap s.heap [] := va_S.rf
  have hl := lv_entry ([.ref (am 0), .int x]) (n := 2) (Nat.le_of_ble_eq_true rfl)
  rw [lg_entry_eq]
  generalize (lg_sl ([.ref (am 0), .int x]) ++ List.replicate (2 - (lg_sl ([.ref (am 0), .int x])).length) Slot.unset).toArray = ls at hl ⊢
  have hl : lv_has ls 2 [(0, .ref (am 0)), (1, .int x)] := hl
  refine lv_aload_n hx hb d_M_round_0 rfl (lv_at hl 0 rfl) ?_
  refine lv_iconst (v := 0) hx hb d_M_round_1 (by decide) ?_
  refine va_put (D := (dC, dI)) (ci := 4) (v := .int 0) (ty := .int) (C := R_M) (T := F_M) (N := 12) hx hb htb in_M tf_M tok_M n_M hown hK hP hD hS 0 rfl rfl 0 (by decide) (htb _ wd_411) (fun _ h9 => h9) rfl (by decide +kernel) rfl rfl (Nat.le_of_ble_eq_true rfl) d_M_round_2 (fun H locs hP hD hS => ?_)
  have hP : va_P (dC, dI) vwCl (bz_wM am cI cL cZ (bz_tM t) (0, 0, ex) (S1, S2, S3)) H := hP
  have hD : va_D A (bz_wM am cI cL cZ (bz_tM t) (0, 0, ex) (S1, S2, S3)) := hD
  refine lv_aload_n hx hb d_M_round_5 rfl (lv_at hl 0 rfl) ?_
  refine lv_iload_n hx hb d_M_round_6 rfl (lv_at hl 1 rfl) ?_
  refine bz_si (va_runV (As := [.int x]) (rest := []) ⟨hx, hb, hml, hown, htb⟩ (c_M_isArea l dC dI am cI cL cZ t 0 0 ex S1 S2 S3 ht _) (cwV 1 htb (bz_gV wd_473 wd_470 wd_472 wd_6 wd_23) rfl rfl rfl (by decide +kernel) ⟨Nat.le_of_ble_eq_true rfl, Nat.le_of_ble_eq_true rfl⟩) (bz_rv hN hK hP (q0 := 0) rfl rfl) rfl rfl hl.1 rfl (lv_room (Nat.le_of_ble_eq_true rfl)) d_M_round_7 ⟨Nat.zero_le _, Nat.zero_le _⟩) ?_
  refine lv_if_ne (tgt := 18) hx hb d_M_round_10 (by decide) (fun c_10 => ?_) (fun c_10 => ?_)
  · skip
    refine lv_aload_n hx hb d_M_round_18 rfl (lv_at hl 0 rfl) ?_
    refine va_get (D := (dC, dI)) (ci := 4) (v := .int 0) (C := R_M) (T := F_M) (N := 12) hx hb htb in_M hown hK hP 0 rfl rfl 7 (by decide) (htb _ wd_418) (fun _ h9 => h9) rfl d_M_round_19 ?_
    refine lv_if_eq (tgt := 36) hx hb d_M_round_22 (by decide) (fun c_22 => ?_) (fun c_22 => ?_)
    · skip
      refine lv_bipush (v := (-13)) hx hb d_M_round_36 (by decide) ?_
      exact W.iret (v := (-13)) hx hb hr (fun t9 ht9 hW => ⟨⟨(-13), (), rfl, rfl, by rw [ht9]; exact hP, va_K.moved hW.alike hK, hD⟩, hS.F ht9⟩) hS.2.2 d_M_round_38
    · skip
      exact absurd (by decide) c_22
  · skip
    exact absurd (bz_i_eq c_10) (by rw [hz]; decide)

set_option maxHeartbeats 4000000 in
set_option maxRecDepth 100000 in
/-- round -/
theorem c_M_round (l : Launch) (dC : Nat → ClassId) (dI : Nat → Nat → Nat) (sz : Nat) (am : Nat → Nat) (cI cL cZ : ClassId) (t : bz_T) (th ex : Int32) (f : Nat → Nat) (S2 S3 : Nat → Int32) (ht : bz_ok t) (a : Nat) (ha : a < bz_n t) : Met l y_M_round w_M_round ({ frames := 1, cells := 0, slots := 0, locals := 21 }) (bz_Pw (dC, dI) [(cI, .int), (cL, .long), (cZ, .boolean)] (bz_wM am cI cL cZ (bz_tM t) (th, 1, ex) ((fun a => nI (f a)), S2, S3)) sz [.ref (am 0), .int (nI (a + 1))]) (bz_Qi (dC, dI) [(cI, .int), (cL, .long), (cZ, .boolean)] (va_A (bz_wM am cI cL cZ (bz_tM t) (th, 1, ex) ((fun a => nI (f a)), S2, S3)) sz) (nI (f a)) (bz_wM am cI cL cZ (bz_tM t) (0, 1, ex) ((fun a => nI (f a)), S2, S3))) 0 0 (va_A (bz_wM am cI cL cZ (bz_tM t) (th, 1, ex) ((fun a => nI (f a)), S2, S3)) sz) := by
  refine Met.ofW (cc := b_M_round) (maxL := 2) (ret := (some .int)) (by decide) rfl ?_
  intro p e s m args below meth c s₁ B hml hv
  obtain ⟨rfl, hsz, hP, hK, hD0, hN⟩ := hv
  have hx := B.exec
  have hb := B.bytes
  have hr := B.returns
  have hts := atoms_spec (ws := w_M_round) B.pre
  have hown : s.vm.findClass R_M = some m.cls := findClass_of_methodNamed B.named
  have htb : ∀ w ∈ bz_tb, w.before _ s = true := fun w h => hts w (List.mem_cons_of_mem _ h)
  have hlocks := B.notSynchronized
  subst hsz
  have hD := hD0.self (sz := s.heap.size)
  generalize hAe : va_A (bz_wM am cI cL cZ (bz_tM t) (th, 1, ex) ((fun a => nI (f a)), S2, S3)) s.heap.size = A at hD ⊢
  have hA : ∀ q : Nat, s.heap.size ≤ q → A q := fun q h => by rw [← hAe]; exact Or.inr h
  have hS : va_S A s.heap s.heap [] := va_S.rf
  have hl := lv_entry ([.ref (am 0), .int (nI (a + 1))]) (n := 2) (Nat.le_of_ble_eq_true rfl)
  rw [lg_entry_eq]
  generalize (lg_sl ([.ref (am 0), .int (nI (a + 1))]) ++ List.replicate (2 - (lg_sl ([.ref (am 0), .int (nI (a + 1))])).length) Slot.unset).toArray = ls at hl ⊢
  have hl : lv_has ls 2 [(0, .ref (am 0)), (1, .int (nI (a + 1)))] := hl
  have hn30 := ht.1
  have hia : bz_ia (bz_n t) (nI (a + 1)) = true := decide_eq_true ⟨(nI_leI (a := 1) (by omega) (by omega)).mpr (by omega), (nI_leI (by omega) (by omega)).mpr (by omega)⟩
  refine lv_aload_n hx hb d_M_round_0 rfl (lv_at hl 0 rfl) ?_
  refine lv_iconst (v := 0) hx hb d_M_round_1 (by decide) ?_
  refine va_put (D := (dC, dI)) (ci := 4) (v := .int 0) (ty := .int) (C := R_M) (T := F_M) (N := 12) hx hb htb in_M tf_M tok_M n_M hown hK hP hD hS 0 rfl rfl 0 (by decide) (htb _ wd_411) (fun _ h9 => h9) rfl (by decide +kernel) rfl rfl (Nat.le_of_ble_eq_true rfl) d_M_round_2 (fun H locs hP hD hS => ?_)
  have hP : va_P (dC, dI) vwCl (bz_wM am cI cL cZ (bz_tM t) (0, 1, ex) ((fun a => nI (f a)), S2, S3)) H := hP
  have hD : va_D A (bz_wM am cI cL cZ (bz_tM t) (0, 1, ex) ((fun a => nI (f a)), S2, S3)) := hD
  refine lv_aload_n hx hb d_M_round_5 rfl (lv_at hl 0 rfl) ?_
  refine lv_iload_n hx hb d_M_round_6 rfl (lv_at hl 1 rfl) ?_
  refine bz_si (va_runV (As := [.int (nI (a + 1))]) (rest := []) ⟨hx, hb, hml, hown, htb⟩ (c_M_isArea l dC dI am cI cL cZ t 0 1 ex (fun a => nI (f a)) S2 S3 ht _) (cwV 1 htb (bz_gV wd_473 wd_470 wd_472 wd_6 wd_23) rfl rfl rfl (by decide +kernel) ⟨Nat.le_of_ble_eq_true rfl, Nat.le_of_ble_eq_true rfl⟩) (bz_rv hN hK hP (q0 := 0) rfl rfl) rfl rfl hl.1 rfl (lv_room (Nat.le_of_ble_eq_true rfl)) d_M_round_7 ⟨Nat.zero_le _, Nat.zero_le _⟩) ?_
  refine lv_if_ne (tgt := 18) hx hb d_M_round_10 (by decide) (fun c_10 => ?_) (fun c_10 => ?_)
  · skip
    refine lv_aload_n hx hb d_M_round_18 rfl (lv_at hl 0 rfl) ?_
    refine va_get (D := (dC, dI)) (ci := 4) (v := .int 1) (C := R_M) (T := F_M) (N := 12) hx hb htb in_M hown hK hP 0 rfl rfl 7 (by decide) (htb _ wd_418) (fun _ h9 => h9) rfl d_M_round_19 ?_
    refine lv_if_eq (tgt := 36) hx hb d_M_round_22 (by decide) (fun c_22 => ?_) (fun c_22 => ?_)
    · skip
      exact absurd c_22 (by decide)
    · skip
      refine lv_aload_n hx hb d_M_round_25 rfl (lv_at hl 0 rfl) ?_
      refine va_get (D := (dC, dI)) (ci := 4) (v := .ref (am 6)) (C := R_M) (T := F_M) (N := 12) hx hb htb in_M hown hK hP 0 rfl rfl 9 (by decide) (htb _ wd_420) (fun _ h9 => h9) rfl d_M_round_26 ?_
      refine lv_iload_n hx hb d_M_round_29 rfl (lv_at hl 1 rfl) ?_
      refine lv_iconst (v := 1) hx hb d_M_round_30 (by decide) ?_
      refine lv_isub hx hb d_M_round_31 ?_
      refine bz_ri (y := nI a) (nI_pred a) ?_
      refine bz_iald (v := nI (f a)) hx hb hK hP 6 0 rfl rfl (a9 := a) (by omega) (by decide) (rfl) d_M_round_32 ?_
      refine lv_goto (tgt := 38) hx hb d_M_round_33 (by decide) ?_
      exact W.iret (v := nI (f a)) hx hb hr (fun t9 ht9 hW => ⟨⟨nI (f a), (), rfl, rfl, by rw [ht9]; exact hP, va_K.moved hW.alike hK, hD⟩, hS.F ht9⟩) hS.2.2 d_M_round_38
  · skip
    exact absurd (bz_i_eq c_10) (by rw [hia]; decide)

set_option maxHeartbeats 4000000 in
set_option maxRecDepth 100000 in
/-- changed, not solved -/
theorem c_M_changed_s (l : Launch) (dC : Nat → ClassId) (dI : Nat → Nat → Nat) (sz : Nat) (am : Nat → Nat) (cI cL cZ : ClassId) (t : bz_T) (th ex : Int32) (S1 S2 S3 : Nat → Int32) (ht : bz_ok t) : Met l y_M_changed w_M_changed ({ frames := 1, cells := 0, slots := 0, locals := 23 }) (bz_Pw (dC, dI) [(cI, .int), (cL, .long), (cZ, .boolean)] (bz_wM am cI cL cZ (bz_tM t) (th, 0, ex) (S1, S2, S3)) sz [.ref (am 0)]) (bz_Qi (dC, dI) [(cI, .int), (cL, .long), (cZ, .boolean)] (va_A (bz_wM am cI cL cZ (bz_tM t) (th, 0, ex) (S1, S2, S3)) sz) ((-13)) (bz_wM am cI cL cZ (bz_tM t) (0, 0, ex) (S1, S2, S3))) 0 0 (va_A (bz_wM am cI cL cZ (bz_tM t) (th, 0, ex) (S1, S2, S3)) sz) := by
  refine Met.ofW (cc := b_M_changed) (maxL := 1) (ret := (some .int)) (by decide) rfl ?_
  intro p e s m args below meth c s₁ B hml hv
  obtain ⟨rfl, hsz, hP, hK, hD0, hN⟩ := hv
  have hx := B.exec
  have hb := B.bytes
  have hr := B.returns
  have hts := atoms_spec (ws := w_M_changed) B.pre
  have hown : s.vm.findClass R_M = some m.cls := findClass_of_methodNamed B.named
  have htb : ∀ w ∈ bz_tb, w.before _ s = true := fun w h => hts w (List.mem_cons_of_mem _ h)
  have hlocks := B.notSynchronized
  subst hsz
  have hD := hD0.self (sz := s.heap.size)
  generalize hAe : va_A (bz_wM am cI cL cZ (bz_tM t) (th, 0, ex) (S1, S2, S3)) s.heap.size = A at hD ⊢
  have hA : ∀ q : Nat, s.heap.size ≤ q → A q := fun q h => by rw [← hAe]; exact Or.inr h
  have hS : va_S A s.heap s.heap [] := va_S.rf
  have hl := lv_entry ([.ref (am 0)]) (n := 1) (Nat.le_of_ble_eq_true rfl)
  rw [lg_entry_eq]
  generalize (lg_sl ([.ref (am 0)]) ++ List.replicate (1 - (lg_sl ([.ref (am 0)])).length) Slot.unset).toArray = ls at hl ⊢
  have hl : lv_has ls 1 [(0, .ref (am 0))] := hl
  refine lv_aload_n hx hb d_M_changed_0 rfl (lv_at hl 0 rfl) ?_
  refine lv_iconst (v := 0) hx hb d_M_changed_1 (by decide) ?_
  refine va_put (D := (dC, dI)) (ci := 4) (v := .int 0) (ty := .int) (C := R_M) (T := F_M) (N := 12) hx hb htb in_M tf_M tok_M n_M hown hK hP hD hS 0 rfl rfl 0 (by decide) (htb _ wd_411) (fun _ h9 => h9) rfl (by decide +kernel) rfl rfl (Nat.le_of_ble_eq_true rfl) d_M_changed_2 (fun H locs hP hD hS => ?_)
  have hP : va_P (dC, dI) vwCl (bz_wM am cI cL cZ (bz_tM t) (0, 0, ex) (S1, S2, S3)) H := hP
  have hD : va_D A (bz_wM am cI cL cZ (bz_tM t) (0, 0, ex) (S1, S2, S3)) := hD
  refine lv_aload_n hx hb d_M_changed_5 rfl (lv_at hl 0 rfl) ?_
  refine va_get (D := (dC, dI)) (ci := 4) (v := .int 0) (C := R_M) (T := F_M) (N := 12) hx hb htb in_M hown hK hP 0 rfl rfl 7 (by decide) (htb _ wd_418) (fun _ h9 => h9) rfl d_M_changed_6 ?_
  refine lv_if_eq (tgt := 23) hx hb d_M_changed_9 (by decide) (fun c_9 => ?_) (fun c_9 => ?_)
  · skip
    refine lv_bipush (v := (-13)) hx hb d_M_changed_23 (by decide) ?_
    exact W.iret (v := (-13)) hx hb hr (fun t9 ht9 hW => ⟨⟨(-13), (), rfl, rfl, by rw [ht9]; exact hP, va_K.moved hW.alike hK, hD⟩, hS.F ht9⟩) hS.2.2 d_M_changed_25
  · skip
    exact absurd (by decide) c_9

set_option maxHeartbeats 4000000 in
set_option maxRecDepth 100000 in
/-- changed -/
theorem c_M_changed (l : Launch) (dC : Nat → ClassId) (dI : Nat → Nat → Nat) (sz : Nat) (am : Nat → Nat) (cI cL cZ : ClassId) (t : bz_T) (th ex : Int32) (f : Nat → Nat) (S2 S3 : Nat → Int32) (ht : bz_ok t) (hf : ∀ a, a < bz_n t → f a < 4) : Met l y_M_changed w_M_changed ({ frames := 1, cells := 0, slots := 0, locals := 23 }) (bz_Pw (dC, dI) [(cI, .int), (cL, .long), (cZ, .boolean)] (bz_wM am cI cL cZ (bz_tM t) (th, 1, ex) ((fun a => nI (f a)), S2, S3)) sz [.ref (am 0)]) (bz_Qi (dC, dI) [(cI, .int), (cL, .long), (cZ, .boolean)] (va_A (bz_wM am cI cL cZ (bz_tM t) (th, 1, ex) ((fun a => nI (f a)), S2, S3)) sz) (nI (bz_ch t (bz_fu f))) (bz_wM am cI cL cZ (bz_tM t) (0, 1, ex) ((fun a => nI (f a)), S2, S3))) 0 0 (va_A (bz_wM am cI cL cZ (bz_tM t) (th, 1, ex) ((fun a => nI (f a)), S2, S3)) sz) := by
  refine Met.ofW (cc := b_M_changed) (maxL := 1) (ret := (some .int)) (by decide) rfl ?_
  intro p e s m args below meth c s₁ B hml hv
  obtain ⟨rfl, hsz, hP, hK, hD0, hN⟩ := hv
  have hx := B.exec
  have hb := B.bytes
  have hr := B.returns
  have hts := atoms_spec (ws := w_M_changed) B.pre
  have hown : s.vm.findClass R_M = some m.cls := findClass_of_methodNamed B.named
  have htb : ∀ w ∈ bz_tb, w.before _ s = true := fun w h => hts w (List.mem_cons_of_mem _ h)
  have hlocks := B.notSynchronized
  subst hsz
  have hD := hD0.self (sz := s.heap.size)
  generalize hAe : va_A (bz_wM am cI cL cZ (bz_tM t) (th, 1, ex) ((fun a => nI (f a)), S2, S3)) s.heap.size = A at hD ⊢
  have hA : ∀ q : Nat, s.heap.size ≤ q → A q := fun q h => by rw [← hAe]; exact Or.inr h
  have hS : va_S A s.heap s.heap [] := va_S.rf
  have hl := lv_entry ([.ref (am 0)]) (n := 1) (Nat.le_of_ble_eq_true rfl)
  rw [lg_entry_eq]
  generalize (lg_sl ([.ref (am 0)]) ++ List.replicate (1 - (lg_sl ([.ref (am 0)])).length) Slot.unset).toArray = ls at hl ⊢
  have hl : lv_has ls 1 [(0, .ref (am 0))] := hl
  refine lv_aload_n hx hb d_M_changed_0 rfl (lv_at hl 0 rfl) ?_
  refine lv_iconst (v := 0) hx hb d_M_changed_1 (by decide) ?_
  refine va_put (D := (dC, dI)) (ci := 4) (v := .int 0) (ty := .int) (C := R_M) (T := F_M) (N := 12) hx hb htb in_M tf_M tok_M n_M hown hK hP hD hS 0 rfl rfl 0 (by decide) (htb _ wd_411) (fun _ h9 => h9) rfl (by decide +kernel) rfl rfl (Nat.le_of_ble_eq_true rfl) d_M_changed_2 (fun H locs hP hD hS => ?_)
  have hP : va_P (dC, dI) vwCl (bz_wM am cI cL cZ (bz_tM t) (0, 1, ex) ((fun a => nI (f a)), S2, S3)) H := hP
  have hD : va_D A (bz_wM am cI cL cZ (bz_tM t) (0, 1, ex) ((fun a => nI (f a)), S2, S3)) := hD
  refine lv_aload_n hx hb d_M_changed_5 rfl (lv_at hl 0 rfl) ?_
  refine va_get (D := (dC, dI)) (ci := 4) (v := .int 1) (C := R_M) (T := F_M) (N := 12) hx hb htb in_M hown hK hP 0 rfl rfl 7 (by decide) (htb _ wd_418) (fun _ h9 => h9) rfl d_M_changed_6 ?_
  refine lv_if_eq (tgt := 23) hx hb d_M_changed_9 (by decide) (fun c_9 => ?_) (fun c_9 => ?_)
  · skip
    exact absurd c_9 (by decide)
  · skip
    refine lv_aload_n hx hb d_M_changed_12 rfl (lv_at hl 0 rfl) ?_
    refine lv_aload_n hx hb d_M_changed_13 rfl (lv_at hl 0 rfl) ?_
    refine va_get (D := (dC, dI)) (ci := 4) (v := .ref (am 6)) (C := R_M) (T := F_M) (N := 12) hx hb htb in_M hown hK hP 0 rfl rfl 9 (by decide) (htb _ wd_420) (fun _ h9 => h9) rfl d_M_changed_14 ?_
    refine bz_si (va_runV (As := [.ref (am 6)]) (rest := []) ⟨hx, hb, hml, hown, htb⟩ (c_M_changedIn_share l dC dI am cI cL cZ t 0 1 ex f S2 S3 ht hf) (cwV 1 htb (bz_gV wd_525 wd_522 wd_524 wd_14 wd_23) rfl rfl rfl (by decide +kernel) ⟨Nat.le_of_ble_eq_true rfl, Nat.le_of_ble_eq_true rfl⟩) (bz_rv hN hK hP (q0 := 0) rfl rfl) rfl rfl hl.1 rfl (lv_room (Nat.le_of_ble_eq_true rfl)) d_M_changed_17 ⟨Nat.zero_le _, Nat.zero_le _⟩) ?_
    refine lv_goto (tgt := 25) hx hb d_M_changed_20 (by decide) ?_
    exact W.iret (v := nI (bz_ch t (bz_fu f))) hx hb hr (fun t9 ht9 hW => ⟨⟨nI (bz_ch t (bz_fu f)), (), rfl, rfl, by rw [ht9]; exact hP, va_K.moved hW.alike hK, hD⟩, hS.F ht9⟩) hS.2.2 d_M_changed_25

set_option maxHeartbeats 4000000 in
set_option maxRecDepth 100000 in
/-- faults, not solved -/
theorem c_M_faults_s (l : Launch) (dC : Nat → ClassId) (dI : Nat → Nat → Nat) (sz : Nat) (am : Nat → Nat) (cI cL cZ : ClassId) (t : bz_T) (th ex : Int32) (S1 S2 S3 : Nat → Int32) (ht : bz_ok t) : Met l y_M_faults w_M_faults ({ frames := 3, cells := 0, slots := 0, locals := 72 }) (bz_Pw (dC, dI) [(cI, .int), (cL, .long), (cZ, .boolean)] (bz_wM am cI cL cZ (bz_tM t) (th, 0, ex) (S1, S2, S3)) sz [.ref (am 0)]) (bz_Qi (dC, dI) [(cI, .int), (cL, .long), (cZ, .boolean)] (va_A (bz_wM am cI cL cZ (bz_tM t) (th, 0, ex) (S1, S2, S3)) sz) ((-13)) (bz_wM am cI cL cZ (bz_tM t) (0, 0, ex) (S1, S2, S3))) 0 0 (va_A (bz_wM am cI cL cZ (bz_tM t) (th, 0, ex) (S1, S2, S3)) sz) := by
  refine Met.ofW (cc := b_M_faults) (maxL := 1) (ret := (some .int)) (by decide) rfl ?_
  intro p e s m args below meth c s₁ B hml hv
  obtain ⟨rfl, hsz, hP, hK, hD0, hN⟩ := hv
  have hx := B.exec
  have hb := B.bytes
  have hr := B.returns
  have hts := atoms_spec (ws := w_M_faults) B.pre
  have hown : s.vm.findClass R_M = some m.cls := findClass_of_methodNamed B.named
  have htb : ∀ w ∈ bz_tb, w.before _ s = true := fun w h => hts w (List.mem_cons_of_mem _ h)
  have hlocks := B.notSynchronized
  subst hsz
  have hD := hD0.self (sz := s.heap.size)
  generalize hAe : va_A (bz_wM am cI cL cZ (bz_tM t) (th, 0, ex) (S1, S2, S3)) s.heap.size = A at hD ⊢
  have hA : ∀ q : Nat, s.heap.size ≤ q → A q := fun q h => by rw [← hAe]; exact Or.inr h
  have hS : va_S A s.heap s.heap [] := va_S.rf
  have hl := lv_entry ([.ref (am 0)]) (n := 1) (Nat.le_of_ble_eq_true rfl)
  rw [lg_entry_eq]
  generalize (lg_sl ([.ref (am 0)]) ++ List.replicate (1 - (lg_sl ([.ref (am 0)])).length) Slot.unset).toArray = ls at hl ⊢
  have hl : lv_has ls 1 [(0, .ref (am 0))] := hl
  refine lv_aload_n hx hb d_M_faults_0 rfl (lv_at hl 0 rfl) ?_
  refine lv_iconst (v := 0) hx hb d_M_faults_1 (by decide) ?_
  refine va_put (D := (dC, dI)) (ci := 4) (v := .int 0) (ty := .int) (C := R_M) (T := F_M) (N := 12) hx hb htb in_M tf_M tok_M n_M hown hK hP hD hS 0 rfl rfl 0 (by decide) (htb _ wd_411) (fun _ h9 => h9) rfl (by decide +kernel) rfl rfl (Nat.le_of_ble_eq_true rfl) d_M_faults_2 (fun H locs hP hD hS => ?_)
  have hP : va_P (dC, dI) vwCl (bz_wM am cI cL cZ (bz_tM t) (0, 0, ex) (S1, S2, S3)) H := hP
  have hD : va_D A (bz_wM am cI cL cZ (bz_tM t) (0, 0, ex) (S1, S2, S3)) := hD
  refine lv_aload_n hx hb d_M_faults_5 rfl (lv_at hl 0 rfl) ?_
  refine va_get (D := (dC, dI)) (ci := 4) (v := .int 0) (C := R_M) (T := F_M) (N := 12) hx hb htb in_M hown hK hP 0 rfl rfl 7 (by decide) (htb _ wd_418) (fun _ h9 => h9) rfl d_M_faults_6 ?_
  refine lv_if_eq (tgt := 23) hx hb d_M_faults_9 (by decide) (fun c_9 => ?_) (fun c_9 => ?_)
  · skip
    refine lv_bipush (v := (-13)) hx hb d_M_faults_23 (by decide) ?_
    exact W.iret (v := (-13)) hx hb hr (fun t9 ht9 hW => ⟨⟨(-13), (), rfl, rfl, by rw [ht9]; exact hP, va_K.moved hW.alike hK, hD⟩, hS.F ht9⟩) hS.2.2 d_M_faults_25
  · skip
    exact absurd (by decide) c_9

set_option maxHeartbeats 4000000 in
set_option maxRecDepth 100000 in
/-- faults -/
theorem c_M_faults (l : Launch) (dC : Nat → ClassId) (dI : Nat → Nat → Nat) (sz : Nat) (am : Nat → Nat) (cI cL cZ : ClassId) (t : bz_T) (th ex : Int32) (f : Nat → Nat) (S2 S3 : Nat → Int32) (ht : bz_ok t) (hf : ∀ a, a < bz_n t → f a < 4) : Met l y_M_faults w_M_faults ({ frames := 3, cells := 0, slots := 0, locals := 72 }) (bz_Pw (dC, dI) [(cI, .int), (cL, .long), (cZ, .boolean)] (bz_wM am cI cL cZ (bz_tM t) (th, 1, ex) ((fun a => nI (f a)), S2, S3)) sz [.ref (am 0)]) (bz_Qxi (dC, dI) [(cI, .int), (cL, .long), (cZ, .boolean)] (va_A (bz_wM am cI cL cZ (bz_tM t) (th, 1, ex) ((fun a => nI (f a)), S2, S3)) sz) (fun r9 (u : Nat → Int32) => r9 = nI (bz_ft t (bz_fu f))) (fun u : Nat → Int32 => bz_wM am cI cL cZ (bz_tM t) (0, 1, ex) ((fun a => nI (f a)), S2, u))) 0 0 (va_A (bz_wM am cI cL cZ (bz_tM t) (th, 1, ex) ((fun a => nI (f a)), S2, S3)) sz) := by
  refine Met.ofW (cc := b_M_faults) (maxL := 1) (ret := (some .int)) (by decide) rfl ?_
  intro p e s m args below meth c s₁ B hml hv
  obtain ⟨rfl, hsz, hP, hK, hD0, hN⟩ := hv
  have hx := B.exec
  have hb := B.bytes
  have hr := B.returns
  have hts := atoms_spec (ws := w_M_faults) B.pre
  have hown : s.vm.findClass R_M = some m.cls := findClass_of_methodNamed B.named
  have htb : ∀ w ∈ bz_tb, w.before _ s = true := fun w h => hts w (List.mem_cons_of_mem _ h)
  have hlocks := B.notSynchronized
  subst hsz
  have hD := hD0.self (sz := s.heap.size)
  generalize hAe : va_A (bz_wM am cI cL cZ (bz_tM t) (th, 1, ex) ((fun a => nI (f a)), S2, S3)) s.heap.size = A at hD ⊢
  have hA : ∀ q : Nat, s.heap.size ≤ q → A q := fun q h => by rw [← hAe]; exact Or.inr h
  have hS : va_S A s.heap s.heap [] := va_S.rf
  have hl := lv_entry ([.ref (am 0)]) (n := 1) (Nat.le_of_ble_eq_true rfl)
  rw [lg_entry_eq]
  generalize (lg_sl ([.ref (am 0)]) ++ List.replicate (1 - (lg_sl ([.ref (am 0)])).length) Slot.unset).toArray = ls at hl ⊢
  have hl : lv_has ls 1 [(0, .ref (am 0))] := hl
  refine lv_aload_n hx hb d_M_faults_0 rfl (lv_at hl 0 rfl) ?_
  refine lv_iconst (v := 0) hx hb d_M_faults_1 (by decide) ?_
  refine va_put (D := (dC, dI)) (ci := 4) (v := .int 0) (ty := .int) (C := R_M) (T := F_M) (N := 12) hx hb htb in_M tf_M tok_M n_M hown hK hP hD hS 0 rfl rfl 0 (by decide) (htb _ wd_411) (fun _ h9 => h9) rfl (by decide +kernel) rfl rfl (Nat.le_of_ble_eq_true rfl) d_M_faults_2 (fun H locs hP hD hS => ?_)
  have hP : va_P (dC, dI) vwCl (bz_wM am cI cL cZ (bz_tM t) (0, 1, ex) ((fun a => nI (f a)), S2, S3)) H := hP
  have hD : va_D A (bz_wM am cI cL cZ (bz_tM t) (0, 1, ex) ((fun a => nI (f a)), S2, S3)) := hD
  refine lv_aload_n hx hb d_M_faults_5 rfl (lv_at hl 0 rfl) ?_
  refine va_get (D := (dC, dI)) (ci := 4) (v := .int 1) (C := R_M) (T := F_M) (N := 12) hx hb htb in_M hown hK hP 0 rfl rfl 7 (by decide) (htb _ wd_418) (fun _ h9 => h9) rfl d_M_faults_6 ?_
  refine lv_if_eq (tgt := 23) hx hb d_M_faults_9 (by decide) (fun c_9 => ?_) (fun c_9 => ?_)
  · skip
    exact absurd c_9 (by decide)
  · skip
    refine lv_aload_n hx hb d_M_faults_12 rfl (lv_at hl 0 rfl) ?_
    refine lv_aload_n hx hb d_M_faults_13 rfl (lv_at hl 0 rfl) ?_
    refine va_get (D := (dC, dI)) (ci := 4) (v := .ref (am 6)) (C := R_M) (T := F_M) (N := 12) hx hb htb in_M hown hK hP 0 rfl rfl 9 (by decide) (htb _ wd_420) (fun _ h9 => h9) rfl d_M_faults_14 ?_
    refine bz_cxi (va_runV (As := [.ref (am 6)]) (rest := []) ⟨hx, hb, hml, hown, htb⟩ (c_M_faultsOf_share l dC dI _ am cI cL cZ t 0 1 ex f S2 S3 ht hf) (cwV 1 htb (bz_gV wd_501 wd_498 wd_500 wd_9 wd_23) rfl rfl rfl (by decide +kernel) ⟨Nat.le_of_ble_eq_true rfl, Nat.le_of_ble_eq_true rfl⟩) (bz_wv hN hK hP hD (q0 := 0) rfl rfl) rfl rfl hl.1 rfl (lv_room (Nat.le_of_ble_eq_true rfl)) d_M_faults_17 ⟨Nat.zero_le _, Nat.zero_le _⟩) hD hS hA (fun r9 u hu H locs hP hD hS => ?_)
    obtain rfl : r9 = nI (bz_ft t (bz_fu f)) := hu
    have hP : va_P (dC, dI) vwCl (bz_wM am cI cL cZ (bz_tM t) (0, 1, ex) ((fun a => nI (f a)), S2, u)) H := hP
    have hD : va_D A (bz_wM am cI cL cZ (bz_tM t) (0, 1, ex) ((fun a => nI (f a)), S2, u)) := hD
    refine lv_goto (tgt := 25) hx hb d_M_faults_20 (by decide) ?_
    exact W.iret (v := nI (bz_ft t (bz_fu f))) hx hb hr (fun t9 ht9 hW => ⟨⟨_, u, rfl, rfl, by rw [ht9]; exact hP, va_K.moved hW.alike hK, hD⟩, hS.F ht9⟩) hS.2.2 d_M_faults_25

set_option maxHeartbeats 4000000 in
set_option maxRecDepth 100000 in
/-- exact -/
theorem c_M_exact (l : Launch) (dC : Nat → ClassId) (dI : Nat → Nat → Nat) (sz : Nat) (am : Nat → Nat) (cI cL cZ : ClassId) (t : bz_T) (th sv : Int32) (eb : Bool) (S1 S2 S3 : Nat → Int32) (ht : bz_ok t) : Met l y_M_exact w_M_exact ({ frames := 0, cells := 0, slots := 0, locals := 0 }) (bz_Pw (dC, dI) [(cI, .int), (cL, .long), (cZ, .boolean)] (bz_wM am cI cL cZ (bz_tM t) (th, sv, bz_i eb) (S1, S2, S3)) sz [.ref (am 0)]) (bz_Qi (dC, dI) [(cI, .int), (cL, .long), (cZ, .boolean)] (va_A (bz_wM am cI cL cZ (bz_tM t) (th, sv, bz_i eb) (S1, S2, S3)) sz) (bz_i eb) (bz_wM am cI cL cZ (bz_tM t) (0, sv, bz_i eb) (S1, S2, S3))) 0 0 (va_A (bz_wM am cI cL cZ (bz_tM t) (th, sv, bz_i eb) (S1, S2, S3)) sz) := by
  refine Met.ofW (cc := b_M_exact) (maxL := 1) (ret := (some .boolean)) (by decide) rfl ?_
  intro p e s m args below meth c s₁ B hml hv
  obtain ⟨rfl, hsz, hP, hK, hD0, hN⟩ := hv
  have hx := B.exec
  have hb := B.bytes
  have hr := B.returns
  have hts := atoms_spec (ws := w_M_exact) B.pre
  have hown : s.vm.findClass R_M = some m.cls := findClass_of_methodNamed B.named
  have htb : ∀ w ∈ bz_tb, w.before _ s = true := fun w h => hts w (List.mem_cons_of_mem _ h)
  have hlocks := B.notSynchronized
  subst hsz
  have hD := hD0.self (sz := s.heap.size)
  generalize hAe : va_A (bz_wM am cI cL cZ (bz_tM t) (th, sv, bz_i eb) (S1, S2, S3)) s.heap.size = A at hD ⊢
  have hA : ∀ q : Nat, s.heap.size ≤ q → A q := fun q h => by rw [← hAe]; exact Or.inr h
  have hS : va_S A s.heap s.heap [] := va_S.rf
  have hl := lv_entry ([.ref (am 0)]) (n := 1) (Nat.le_of_ble_eq_true rfl)
  rw [lg_entry_eq]
  generalize (lg_sl ([.ref (am 0)]) ++ List.replicate (1 - (lg_sl ([.ref (am 0)])).length) Slot.unset).toArray = ls at hl ⊢
  have hl : lv_has ls 1 [(0, .ref (am 0))] := hl
  refine lv_aload_n hx hb d_M_exact_0 rfl (lv_at hl 0 rfl) ?_
  refine lv_iconst (v := 0) hx hb d_M_exact_1 (by decide) ?_
  refine va_put (D := (dC, dI)) (ci := 4) (v := .int 0) (ty := .int) (C := R_M) (T := F_M) (N := 12) hx hb htb in_M tf_M tok_M n_M hown hK hP hD hS 0 rfl rfl 0 (by decide) (htb _ wd_411) (fun _ h9 => h9) rfl (by decide +kernel) rfl rfl (Nat.le_of_ble_eq_true rfl) d_M_exact_2 (fun H locs hP hD hS => ?_)
  have hP : va_P (dC, dI) vwCl (bz_wM am cI cL cZ (bz_tM t) (0, sv, bz_i eb) (S1, S2, S3)) H := hP
  have hD : va_D A (bz_wM am cI cL cZ (bz_tM t) (0, sv, bz_i eb) (S1, S2, S3)) := hD
  refine lv_aload_n hx hb d_M_exact_5 rfl (lv_at hl 0 rfl) ?_
  refine va_get (D := (dC, dI)) (ci := 4) (v := .int (bz_i eb)) (C := R_M) (T := F_M) (N := 12) hx hb htb in_M hown hK hP 0 rfl rfl 8 (by decide) (htb _ wd_419) (fun _ h9 => h9) rfl d_M_exact_6 ?_
  exact W.zret (v := bz_i eb) hx hb hr (bz_nari _) (fun t9 ht9 hW => ⟨⟨bz_i eb, (), rfl, rfl, by rw [ht9]; exact hP, va_K.moved hW.alike hK, hD⟩, hS.F ht9⟩) hS.2.2 d_M_exact_9

set_option maxHeartbeats 4000000 in
set_option maxRecDepth 100000 in
/-- together, outside -/
theorem c_M_together_o (l : Launch) (dC : Nat → ClassId) (dI : Nat → Nat → Nat) (sz : Nat) (am : Nat → Nat) (cI cL cZ : ClassId) (t : bz_T) (th sv ex : Int32) (S1 S2 S3 : Nat → Int32) (ht : bz_ok t) (q : Int32) (hq : bz_ir q = false) : Met l y_M_together w_M_together ({ frames := 1, cells := 0, slots := 0, locals := 26 }) (bz_Pw (dC, dI) [(cI, .int), (cL, .long), (cZ, .boolean)] (bz_wM am cI cL cZ (bz_tM t) (th, sv, ex) (S1, S2, S3)) sz [.ref (am 0), .int q]) (bz_Qi (dC, dI) [(cI, .int), (cL, .long), (cZ, .boolean)] (va_A (bz_wM am cI cL cZ (bz_tM t) (th, sv, ex) (S1, S2, S3)) sz) (0) (bz_wM am cI cL cZ (bz_tM t) (1, sv, ex) (S1, S2, S3))) 0 0 (va_A (bz_wM am cI cL cZ (bz_tM t) (th, sv, ex) (S1, S2, S3)) sz) := by
  refine Met.ofW (cc := b_M_together) (maxL := 2) (ret := (some .boolean)) (by decide) rfl ?_
  intro p e s m args below meth c s₁ B hml hv
  obtain ⟨rfl, hsz, hP, hK, hD0, hN⟩ := hv
  have hx := B.exec
  have hb := B.bytes
  have hr := B.returns
  have hts := atoms_spec (ws := w_M_together) B.pre
  have hown : s.vm.findClass R_M = some m.cls := findClass_of_methodNamed B.named
  have htb : ∀ w ∈ bz_tb, w.before _ s = true := fun w h => hts w (List.mem_cons_of_mem _ h)
  have hlocks := B.notSynchronized
  subst hsz
  have hD := hD0.self (sz := s.heap.size)
  generalize hAe : va_A (bz_wM am cI cL cZ (bz_tM t) (th, sv, ex) (S1, S2, S3)) s.heap.size = A at hD ⊢
  have hA : ∀ q : Nat, s.heap.size ≤ q → A q := fun q h => by rw [← hAe]; exact Or.inr h
  have hS : va_S A s.heap s.heap [] := va_S.rf
  have hl := lv_entry ([.ref (am 0), .int q]) (n := 2) (Nat.le_of_ble_eq_true rfl)
  rw [lg_entry_eq]
  generalize (lg_sl ([.ref (am 0), .int q]) ++ List.replicate (2 - (lg_sl ([.ref (am 0), .int q])).length) Slot.unset).toArray = ls at hl ⊢
  have hl : lv_has ls 2 [(0, .ref (am 0)), (1, .int q)] := hl
  refine lv_aload_n hx hb d_M_together_0 rfl (lv_at hl 0 rfl) ?_
  refine lv_iload_n hx hb d_M_together_1 rfl (lv_at hl 1 rfl) ?_
  refine lv_i2l hx hb d_M_together_2 rfl ?_
  refine lv_lconst (v := 0) hx hb d_M_together_3 (by decide) ?_
  refine lv_ldc2 (v := 3) hx hb hown (htb _ wd_461) d_M_together_4 ?_
  refine bz_si (va_runS (As := [.long q.toInt64, .long 0, .long 3]) (rest := [.ref (am 0)]) ⟨hx, hb, hml, hown, htb⟩ (c_M_isIn l dC dI am cI cL cZ (bz_tM t) th sv ex S1 S2 S3 _ _ _) (va_cwS 3 htb (bz_gS wd_460 wd_458 wd_459 wd_23) rfl rfl rfl (by decide +kernel) ⟨Nat.le_of_ble_eq_true rfl, Nat.le_of_ble_eq_true rfl⟩) (bz_rs hN hK hP) rfl rfl hl.1 rfl (lv_room (Nat.le_of_ble_eq_true rfl)) d_M_together_7 ⟨Nat.zero_le _, Nat.zero_le _⟩) ?_
  refine bz_ri (y := bz_i (bz_ir q)) (by rw [bz_ir_l]) ?_
  refine lv_if_ne (tgt := 17) hx hb d_M_together_10 (by decide) (fun c_10 => ?_) (fun c_10 => ?_)
  · skip
    exact absurd (bz_i_ne c_10) (by rw [hq]; decide)
  · skip
    refine lv_iconst (v := 1) hx hb d_M_together_13 (by decide) ?_
    refine lv_goto (tgt := 29) hx hb d_M_together_14 (by decide) ?_
    refine va_put (D := (dC, dI)) (ci := 4) (v := .int 1) (ty := .int) (C := R_M) (T := F_M) (N := 12) hx hb htb in_M tf_M tok_M n_M hown hK hP hD hS 0 rfl rfl 0 (by decide) (htb _ wd_411) (fun _ h9 => h9) rfl (by decide +kernel) rfl rfl (Nat.le_of_ble_eq_true rfl) d_M_together_29 (fun H locs hP hD hS => ?_)
    have hP : va_P (dC, dI) vwCl (bz_wM am cI cL cZ (bz_tM t) (1, sv, ex) (S1, S2, S3)) H := hP
    have hD : va_D A (bz_wM am cI cL cZ (bz_tM t) (1, sv, ex) (S1, S2, S3)) := hD
    refine lv_aload_n hx hb d_M_together_32 rfl (lv_at hl 0 rfl) ?_
    refine va_get (D := (dC, dI)) (ci := 4) (v := .int 1) (C := R_M) (T := F_M) (N := 12) hx hb htb in_M hown hK hP 0 rfl rfl 0 (by decide) (htb _ wd_411) (fun _ h9 => h9) rfl d_M_together_33 ?_
    refine lv_if_ne (tgt := 55) hx hb d_M_together_36 (by decide) (fun c_36 => ?_) (fun c_36 => ?_)
    · skip
      refine lv_iconst (v := 0) hx hb d_M_together_55 (by decide) ?_
      exact W.zret (v := 0) hx hb hr (rfl) (fun t9 ht9 hW => ⟨⟨0, (), rfl, rfl, by rw [ht9]; exact hP, va_K.moved hW.alike hK, hD⟩, hS.F ht9⟩) hS.2.2 d_M_together_56
    · skip
      exact absurd c_36 (by decide)

set_option maxHeartbeats 4000000 in
set_option maxRecDepth 100000 in
/-- together, not solved -/
theorem c_M_together_s (l : Launch) (dC : Nat → ClassId) (dI : Nat → Nat → Nat) (sz : Nat) (am : Nat → Nat) (cI cL cZ : ClassId) (t : bz_T) (th ex : Int32) (S1 S2 S3 : Nat → Int32) (ht : bz_ok t) (q : Int32) (hq : bz_ir q = true) : Met l y_M_together w_M_together ({ frames := 1, cells := 0, slots := 0, locals := 26 }) (bz_Pw (dC, dI) [(cI, .int), (cL, .long), (cZ, .boolean)] (bz_wM am cI cL cZ (bz_tM t) (th, 0, ex) (S1, S2, S3)) sz [.ref (am 0), .int q]) (bz_Qi (dC, dI) [(cI, .int), (cL, .long), (cZ, .boolean)] (va_A (bz_wM am cI cL cZ (bz_tM t) (th, 0, ex) (S1, S2, S3)) sz) (0) (bz_wM am cI cL cZ (bz_tM t) (2, 0, ex) (S1, S2, S3))) 0 0 (va_A (bz_wM am cI cL cZ (bz_tM t) (th, 0, ex) (S1, S2, S3)) sz) := by
  refine Met.ofW (cc := b_M_together) (maxL := 2) (ret := (some .boolean)) (by decide) rfl ?_
  intro p e s m args below meth c s₁ B hml hv
  obtain ⟨rfl, hsz, hP, hK, hD0, hN⟩ := hv
  have hx := B.exec
  have hb := B.bytes
  have hr := B.returns
  have hts := atoms_spec (ws := w_M_together) B.pre
  have hown : s.vm.findClass R_M = some m.cls := findClass_of_methodNamed B.named
  have htb : ∀ w ∈ bz_tb, w.before _ s = true := fun w h => hts w (List.mem_cons_of_mem _ h)
  have hlocks := B.notSynchronized
  subst hsz
  have hD := hD0.self (sz := s.heap.size)
  generalize hAe : va_A (bz_wM am cI cL cZ (bz_tM t) (th, 0, ex) (S1, S2, S3)) s.heap.size = A at hD ⊢
  have hA : ∀ q : Nat, s.heap.size ≤ q → A q := fun q h => by rw [← hAe]; exact Or.inr h
  have hS : va_S A s.heap s.heap [] := va_S.rf
  have hl := lv_entry ([.ref (am 0), .int q]) (n := 2) (Nat.le_of_ble_eq_true rfl)
  rw [lg_entry_eq]
  generalize (lg_sl ([.ref (am 0), .int q]) ++ List.replicate (2 - (lg_sl ([.ref (am 0), .int q])).length) Slot.unset).toArray = ls at hl ⊢
  have hl : lv_has ls 2 [(0, .ref (am 0)), (1, .int q)] := hl
  refine lv_aload_n hx hb d_M_together_0 rfl (lv_at hl 0 rfl) ?_
  refine lv_iload_n hx hb d_M_together_1 rfl (lv_at hl 1 rfl) ?_
  refine lv_i2l hx hb d_M_together_2 rfl ?_
  refine lv_lconst (v := 0) hx hb d_M_together_3 (by decide) ?_
  refine lv_ldc2 (v := 3) hx hb hown (htb _ wd_461) d_M_together_4 ?_
  refine bz_si (va_runS (As := [.long q.toInt64, .long 0, .long 3]) (rest := [.ref (am 0)]) ⟨hx, hb, hml, hown, htb⟩ (c_M_isIn l dC dI am cI cL cZ (bz_tM t) th 0 ex S1 S2 S3 _ _ _) (va_cwS 3 htb (bz_gS wd_460 wd_458 wd_459 wd_23) rfl rfl rfl (by decide +kernel) ⟨Nat.le_of_ble_eq_true rfl, Nat.le_of_ble_eq_true rfl⟩) (bz_rs hN hK hP) rfl rfl hl.1 rfl (lv_room (Nat.le_of_ble_eq_true rfl)) d_M_together_7 ⟨Nat.zero_le _, Nat.zero_le _⟩) ?_
  refine bz_ri (y := bz_i (bz_ir q)) (by rw [bz_ir_l]) ?_
  refine lv_if_ne (tgt := 17) hx hb d_M_together_10 (by decide) (fun c_10 => ?_) (fun c_10 => ?_)
  · skip
    refine lv_aload_n hx hb d_M_together_17 rfl (lv_at hl 0 rfl) ?_
    refine va_get (D := (dC, dI)) (ci := 4) (v := .int 0) (C := R_M) (T := F_M) (N := 12) hx hb htb in_M hown hK hP 0 rfl rfl 7 (by decide) (htb _ wd_418) (fun _ h9 => h9) rfl d_M_together_18 ?_
    refine lv_if_ne (tgt := 28) hx hb d_M_together_21 (by decide) (fun c_21 => ?_) (fun c_21 => ?_)
    · skip
      exact absurd (by decide) c_21
    · skip
      refine lv_iconst (v := 2) hx hb d_M_together_24 (by decide) ?_
      refine lv_goto (tgt := 29) hx hb d_M_together_25 (by decide) ?_
      refine va_put (D := (dC, dI)) (ci := 4) (v := .int 2) (ty := .int) (C := R_M) (T := F_M) (N := 12) hx hb htb in_M tf_M tok_M n_M hown hK hP hD hS 0 rfl rfl 0 (by decide) (htb _ wd_411) (fun _ h9 => h9) rfl (by decide +kernel) rfl rfl (Nat.le_of_ble_eq_true rfl) d_M_together_29 (fun H locs hP hD hS => ?_)
      have hP : va_P (dC, dI) vwCl (bz_wM am cI cL cZ (bz_tM t) (2, 0, ex) (S1, S2, S3)) H := hP
      have hD : va_D A (bz_wM am cI cL cZ (bz_tM t) (2, 0, ex) (S1, S2, S3)) := hD
      refine lv_aload_n hx hb d_M_together_32 rfl (lv_at hl 0 rfl) ?_
      refine va_get (D := (dC, dI)) (ci := 4) (v := .int 2) (C := R_M) (T := F_M) (N := 12) hx hb htb in_M hown hK hP 0 rfl rfl 0 (by decide) (htb _ wd_411) (fun _ h9 => h9) rfl d_M_together_33 ?_
      refine lv_if_ne (tgt := 55) hx hb d_M_together_36 (by decide) (fun c_36 => ?_) (fun c_36 => ?_)
      · skip
        refine lv_iconst (v := 0) hx hb d_M_together_55 (by decide) ?_
        exact W.zret (v := 0) hx hb hr (rfl) (fun t9 ht9 hW => ⟨⟨0, (), rfl, rfl, by rw [ht9]; exact hP, va_K.moved hW.alike hK, hD⟩, hS.F ht9⟩) hS.2.2 d_M_together_56
      · skip
        exact absurd c_36 (by decide)
  · skip
    exact absurd (bz_i_eq c_10) (by rw [hq]; decide)

set_option maxHeartbeats 4000000 in
set_option maxRecDepth 100000 in
/-- together -/
theorem c_M_together (l : Launch) (dC : Nat → ClassId) (dI : Nat → Nat → Nat) (sz : Nat) (am : Nat → Nat) (cI cL cZ : ClassId) (t : bz_T) (th ex : Int32) (f : Nat → Nat) (S2 S3 : Nat → Int32) (ht : bz_ok t) (hf : ∀ a, a < bz_n t → f a < 4) (r : Nat) (hr4 : r < 4) : Met l y_M_together w_M_together ({ frames := 1, cells := 0, slots := 0, locals := 26 }) (bz_Pw (dC, dI) [(cI, .int), (cL, .long), (cZ, .boolean)] (bz_wM am cI cL cZ (bz_tM t) (th, 1, ex) ((fun a => nI (f a)), S2, S3)) sz [.ref (am 0), .int (nI r)]) (bz_Qxi (dC, dI) [(cI, .int), (cL, .long), (cZ, .boolean)] (va_A (bz_wM am cI cL cZ (bz_tM t) (th, 1, ex) ((fun a => nI (f a)), S2, S3)) sz) (fun r9 (u : Nat → Int32) => r9 = nI (bz_b (bz_ht t (bz_fu f) r))) (fun u : Nat → Int32 => bz_wM am cI cL cZ (bz_tM t) (0, 1, ex) ((fun a => nI (f a)), S2, u))) 0 0 (va_A (bz_wM am cI cL cZ (bz_tM t) (th, 1, ex) ((fun a => nI (f a)), S2, S3)) sz) := by
  refine Met.ofW (cc := b_M_together) (maxL := 2) (ret := (some .boolean)) (by decide) rfl ?_
  intro p e s m args below meth c s₁ B hml hv
  obtain ⟨rfl, hsz, hP, hK, hD0, hN⟩ := hv
  have hx := B.exec
  have hb := B.bytes
  have hr := B.returns
  have hts := atoms_spec (ws := w_M_together) B.pre
  have hown : s.vm.findClass R_M = some m.cls := findClass_of_methodNamed B.named
  have htb : ∀ w ∈ bz_tb, w.before _ s = true := fun w h => hts w (List.mem_cons_of_mem _ h)
  have hlocks := B.notSynchronized
  subst hsz
  have hD := hD0.self (sz := s.heap.size)
  generalize hAe : va_A (bz_wM am cI cL cZ (bz_tM t) (th, 1, ex) ((fun a => nI (f a)), S2, S3)) s.heap.size = A at hD ⊢
  have hA : ∀ q : Nat, s.heap.size ≤ q → A q := fun q h => by rw [← hAe]; exact Or.inr h
  have hS : va_S A s.heap s.heap [] := va_S.rf
  have hl := lv_entry ([.ref (am 0), .int (nI r)]) (n := 2) (Nat.le_of_ble_eq_true rfl)
  rw [lg_entry_eq]
  generalize (lg_sl ([.ref (am 0), .int (nI r)]) ++ List.replicate (2 - (lg_sl ([.ref (am 0), .int (nI r)])).length) Slot.unset).toArray = ls at hl ⊢
  have hl : lv_has ls 2 [(0, .ref (am 0)), (1, .int (nI r))] := hl
  have hir : bz_ir (nI r) = true := decide_eq_true ⟨nI_pos' (by omega), (nI_ltI (b := 4) (by omega) (by omega)).mpr hr4⟩
  refine lv_aload_n hx hb d_M_together_0 rfl (lv_at hl 0 rfl) ?_
  refine lv_iload_n hx hb d_M_together_1 rfl (lv_at hl 1 rfl) ?_
  refine lv_i2l hx hb d_M_together_2 rfl ?_
  refine lv_lconst (v := 0) hx hb d_M_together_3 (by decide) ?_
  refine lv_ldc2 (v := 3) hx hb hown (htb _ wd_461) d_M_together_4 ?_
  refine bz_si (va_runS (As := [.long ((nI r).toInt64), .long 0, .long 3]) (rest := [.ref (am 0)]) ⟨hx, hb, hml, hown, htb⟩ (c_M_isIn l dC dI am cI cL cZ (bz_tM t) th 1 ex (fun a => nI (f a)) S2 S3 _ _ _) (va_cwS 3 htb (bz_gS wd_460 wd_458 wd_459 wd_23) rfl rfl rfl (by decide +kernel) ⟨Nat.le_of_ble_eq_true rfl, Nat.le_of_ble_eq_true rfl⟩) (bz_rs hN hK hP) rfl rfl hl.1 rfl (lv_room (Nat.le_of_ble_eq_true rfl)) d_M_together_7 ⟨Nat.zero_le _, Nat.zero_le _⟩) ?_
  refine bz_ri (y := bz_i (bz_ir (nI r))) (by rw [bz_ir_l]) ?_
  refine lv_if_ne (tgt := 17) hx hb d_M_together_10 (by decide) (fun c_10 => ?_) (fun c_10 => ?_)
  · skip
    refine lv_aload_n hx hb d_M_together_17 rfl (lv_at hl 0 rfl) ?_
    refine va_get (D := (dC, dI)) (ci := 4) (v := .int 1) (C := R_M) (T := F_M) (N := 12) hx hb htb in_M hown hK hP 0 rfl rfl 7 (by decide) (htb _ wd_418) (fun _ h9 => h9) rfl d_M_together_18 ?_
    refine lv_if_ne (tgt := 28) hx hb d_M_together_21 (by decide) (fun c_21 => ?_) (fun c_21 => ?_)
    · skip
      refine lv_iconst (v := 0) hx hb d_M_together_28 (by decide) ?_
      refine va_put (D := (dC, dI)) (ci := 4) (v := .int 0) (ty := .int) (C := R_M) (T := F_M) (N := 12) hx hb htb in_M tf_M tok_M n_M hown hK hP hD hS 0 rfl rfl 0 (by decide) (htb _ wd_411) (fun _ h9 => h9) rfl (by decide +kernel) rfl rfl (Nat.le_of_ble_eq_true rfl) d_M_together_29 (fun H locs hP hD hS => ?_)
      have hP : va_P (dC, dI) vwCl (bz_wM am cI cL cZ (bz_tM t) (0, 1, ex) ((fun a => nI (f a)), S2, S3)) H := hP
      have hD : va_D A (bz_wM am cI cL cZ (bz_tM t) (0, 1, ex) ((fun a => nI (f a)), S2, S3)) := hD
      refine lv_aload_n hx hb d_M_together_32 rfl (lv_at hl 0 rfl) ?_
      refine va_get (D := (dC, dI)) (ci := 4) (v := .int 0) (C := R_M) (T := F_M) (N := 12) hx hb htb in_M hown hK hP 0 rfl rfl 0 (by decide) (htb _ wd_411) (fun _ h9 => h9) rfl d_M_together_33 ?_
      refine lv_if_ne (tgt := 55) hx hb d_M_together_36 (by decide) (fun c_36 => ?_) (fun c_36 => ?_)
      · skip
        exact absurd (by decide) c_36
      · skip
        refine lv_aload_n hx hb d_M_together_39 rfl (lv_at hl 0 rfl) ?_
        refine lv_aload_n hx hb d_M_together_40 rfl (lv_at hl 0 rfl) ?_
        refine va_get (D := (dC, dI)) (ci := 4) (v := .ref (am 6)) (C := R_M) (T := F_M) (N := 12) hx hb htb in_M hown hK hP 0 rfl rfl 9 (by decide) (htb _ wd_420) (fun _ h9 => h9) rfl d_M_together_41 ?_
        refine lv_iload_n hx hb d_M_together_44 rfl (lv_at hl 1 rfl) ?_
        refine bz_cxi (va_runV (As := [.ref (am 6), .int (nI r)]) (rest := []) ⟨hx, hb, hml, hown, htb⟩ (c_M_hangs_share l dC dI _ am cI cL cZ t 0 1 ex f S2 S3 ht _ (by omega) hf) (cwV 2 htb (bz_gV wd_515 wd_512 wd_514 wd_12 wd_23) rfl rfl rfl (by decide +kernel) ⟨Nat.le_of_ble_eq_true rfl, Nat.le_of_ble_eq_true rfl⟩) (bz_wv hN hK hP hD (q0 := 0) rfl rfl) rfl rfl hl.1 rfl (lv_room (Nat.le_of_ble_eq_true rfl)) d_M_together_45 ⟨Nat.zero_le _, Nat.zero_le _⟩) hD hS hA (fun r9 u hu H locs hP hD hS => ?_)
        obtain rfl : r9 = nI (bz_b (bz_ht t (bz_fu f) r)) := hu
        have hP : va_P (dC, dI) vwCl (bz_wM am cI cL cZ (bz_tM t) (0, 1, ex) ((fun a => nI (f a)), S2, u)) H := hP
        have hD : va_D A (bz_wM am cI cL cZ (bz_tM t) (0, 1, ex) ((fun a => nI (f a)), S2, u)) := hD
        refine lv_if_eq (tgt := 55) hx hb d_M_together_48 (by decide) (fun c_48 => ?_) (fun c_48 => ?_)
        · skip
          have hh5 := bz_bI0 c_48
          refine lv_iconst (v := 0) hx hb d_M_together_55 (by decide) ?_
          exact W.zret (v := 0) hx hb hr rfl (fun t9 ht9 hW => ⟨⟨_, u, rfl, by rw [bz_b0 hh5]; rfl, by rw [ht9]; exact hP, va_K.moved hW.alike hK, hD⟩, hS.F ht9⟩) hS.2.2 d_M_together_56
        · skip
          have hh5 := bz_bI1 c_48
          refine lv_iconst (v := 1) hx hb d_M_together_51 (by decide) ?_
          refine lv_goto (tgt := 56) hx hb d_M_together_52 (by decide) ?_
          exact W.zret (v := 1) hx hb hr rfl (fun t9 ht9 hW => ⟨⟨_, u, rfl, by rw [bz_b1 hh5]; rfl, by rw [ht9]; exact hP, va_K.moved hW.alike hK, hD⟩, hS.F ht9⟩) hS.2.2 d_M_together_56
    · skip
      exact absurd c_21 (by decide)
  · skip
    exact absurd (bz_i_eq c_10) (by rw [hir]; decide)
