theorem d_M_faultsOf_0 : decode b_M_faultsOf 0 = .ok (.iconst 0, 1) := by decide +kernel
theorem d_M_faultsOf_1 : decode b_M_faultsOf 1 = .ok (.istore_n 2, 1) := by decide +kernel
theorem d_M_faultsOf_2 : decode b_M_faultsOf 2 = .ok (.iconst 0, 1) := by decide +kernel
theorem d_M_faultsOf_3 : decode b_M_faultsOf 3 = .ok (.istore_n 3, 1) := by decide +kernel
theorem d_M_faultsOf_4 : decode b_M_faultsOf 4 = .ok (.iload_n 3, 1) := by decide +kernel
theorem d_M_faultsOf_5 : decode b_M_faultsOf 5 = .ok (.aload_n 0, 1) := by decide +kernel
theorem d_M_faultsOf_6 : decode b_M_faultsOf 6 = .ok (.getfield 36, 3) := by decide +kernel
theorem d_M_faultsOf_9 : decode b_M_faultsOf 9 = .ok (.if_icmp .ge 30, 3) := by decide +kernel
theorem d_M_faultsOf_12 : decode b_M_faultsOf 12 = .ok (.aload_n 0, 1) := by decide +kernel
theorem d_M_faultsOf_13 : decode b_M_faultsOf 13 = .ok (.getfield 24, 3) := by decide +kernel
theorem d_M_faultsOf_16 : decode b_M_faultsOf 16 = .ok (.aload_n 1, 1) := by decide +kernel
theorem d_M_faultsOf_17 : decode b_M_faultsOf 17 = .ok (.iload_n 3, 1) := by decide +kernel
theorem d_M_faultsOf_18 : decode b_M_faultsOf 18 = .ok (.iaload, 1) := by decide +kernel
theorem d_M_faultsOf_19 : decode b_M_faultsOf 19 = .ok (.laload, 1) := by decide +kernel
theorem d_M_faultsOf_20 : decode b_M_faultsOf 20 = .ok (.lconst 0, 1) := by decide +kernel
theorem d_M_faultsOf_21 : decode b_M_faultsOf 21 = .ok (.lcmp, 1) := by decide +kernel
theorem d_M_faultsOf_22 : decode b_M_faultsOf 22 = .ok (.ifCond .ne 9, 3) := by decide +kernel
theorem d_M_faultsOf_25 : decode b_M_faultsOf 25 = .ok (.iload_n 2, 1) := by decide +kernel
theorem d_M_faultsOf_26 : decode b_M_faultsOf 26 = .ok (.iconst 1, 1) := by decide +kernel
theorem d_M_faultsOf_27 : decode b_M_faultsOf 27 = .ok (.iadd, 1) := by decide +kernel
theorem d_M_faultsOf_28 : decode b_M_faultsOf 28 = .ok (.goto 4, 3) := by decide +kernel
theorem d_M_faultsOf_31 : decode b_M_faultsOf 31 = .ok (.iload_n 2, 1) := by decide +kernel
theorem d_M_faultsOf_32 : decode b_M_faultsOf 32 = .ok (.istore_n 2, 1) := by decide +kernel
theorem d_M_faultsOf_33 : decode b_M_faultsOf 33 = .ok (.iinc 3 1, 3) := by decide +kernel
theorem d_M_faultsOf_36 : decode b_M_faultsOf 36 = .ok (.goto (-32), 3) := by decide +kernel
theorem d_M_faultsOf_39 : decode b_M_faultsOf 39 = .ok (.iconst 0, 1) := by decide +kernel
theorem d_M_faultsOf_40 : decode b_M_faultsOf 40 = .ok (.istore_n 3, 1) := by decide +kernel
theorem d_M_faultsOf_41 : decode b_M_faultsOf 41 = .ok (.iload_n 3, 1) := by decide +kernel
theorem d_M_faultsOf_42 : decode b_M_faultsOf 42 = .ok (.iconst 4, 1) := by decide +kernel
theorem d_M_faultsOf_43 : decode b_M_faultsOf 43 = .ok (.if_icmp .ge 61, 3) := by decide +kernel
theorem d_M_faultsOf_46 : decode b_M_faultsOf 46 = .ok (.aload_n 0, 1) := by decide +kernel
theorem d_M_faultsOf_47 : decode b_M_faultsOf 47 = .ok (.getfield 24, 3) := by decide +kernel
theorem d_M_faultsOf_50 : decode b_M_faultsOf 50 = .ok (.iload_n 3, 1) := by decide +kernel
theorem d_M_faultsOf_51 : decode b_M_faultsOf 51 = .ok (.laload, 1) := by decide +kernel
theorem d_M_faultsOf_52 : decode b_M_faultsOf 52 = .ok (.lconst 0, 1) := by decide +kernel
theorem d_M_faultsOf_53 : decode b_M_faultsOf 53 = .ok (.lcmp, 1) := by decide +kernel
theorem d_M_faultsOf_54 : decode b_M_faultsOf 54 = .ok (.ifCond .le 25, 3) := by decide +kernel
theorem d_M_faultsOf_57 : decode b_M_faultsOf 57 = .ok (.aload_n 0, 1) := by decide +kernel
theorem d_M_faultsOf_58 : decode b_M_faultsOf 58 = .ok (.aload_n 1, 1) := by decide +kernel
theorem d_M_faultsOf_59 : decode b_M_faultsOf 59 = .ok (.iload_n 3, 1) := by decide +kernel
theorem d_M_faultsOf_60 : decode b_M_faultsOf 60 = .ok (.invokevirtual 75, 3) := by decide +kernel
theorem d_M_faultsOf_63 : decode b_M_faultsOf 63 = .ok (.aload_n 0, 1) := by decide +kernel
theorem d_M_faultsOf_64 : decode b_M_faultsOf 64 = .ok (.getfield 24, 3) := by decide +kernel
theorem d_M_faultsOf_67 : decode b_M_faultsOf 67 = .ok (.iload_n 3, 1) := by decide +kernel
theorem d_M_faultsOf_68 : decode b_M_faultsOf 68 = .ok (.laload, 1) := by decide +kernel
theorem d_M_faultsOf_69 : decode b_M_faultsOf 69 = .ok (.lcmp, 1) := by decide +kernel
theorem d_M_faultsOf_70 : decode b_M_faultsOf 70 = .ok (.ifCond .le 9, 3) := by decide +kernel
theorem d_M_faultsOf_73 : decode b_M_faultsOf 73 = .ok (.iload_n 2, 1) := by decide +kernel
theorem d_M_faultsOf_74 : decode b_M_faultsOf 74 = .ok (.iconst 1, 1) := by decide +kernel
theorem d_M_faultsOf_75 : decode b_M_faultsOf 75 = .ok (.iadd, 1) := by decide +kernel
theorem d_M_faultsOf_76 : decode b_M_faultsOf 76 = .ok (.goto 4, 3) := by decide +kernel
theorem d_M_faultsOf_79 : decode b_M_faultsOf 79 = .ok (.iload_n 2, 1) := by decide +kernel
theorem d_M_faultsOf_80 : decode b_M_faultsOf 80 = .ok (.istore_n 2, 1) := by decide +kernel
theorem d_M_faultsOf_81 : decode b_M_faultsOf 81 = .ok (.aload_n 0, 1) := by decide +kernel
theorem d_M_faultsOf_82 : decode b_M_faultsOf 82 = .ok (.aload_n 1, 1) := by decide +kernel
theorem d_M_faultsOf_83 : decode b_M_faultsOf 83 = .ok (.iload_n 3, 1) := by decide +kernel
theorem d_M_faultsOf_84 : decode b_M_faultsOf 84 = .ok (.invokevirtual 79, 3) := by decide +kernel
theorem d_M_faultsOf_87 : decode b_M_faultsOf 87 = .ok (.ifCond .eq 7, 3) := by decide +kernel
theorem d_M_faultsOf_90 : decode b_M_faultsOf 90 = .ok (.iload_n 2, 1) := by decide +kernel
theorem d_M_faultsOf_91 : decode b_M_faultsOf 91 = .ok (.goto 6, 3) := by decide +kernel
theorem d_M_faultsOf_94 : decode b_M_faultsOf 94 = .ok (.iload_n 2, 1) := by decide +kernel
theorem d_M_faultsOf_95 : decode b_M_faultsOf 95 = .ok (.iconst 1, 1) := by decide +kernel
theorem d_M_faultsOf_96 : decode b_M_faultsOf 96 = .ok (.iadd, 1) := by decide +kernel
theorem d_M_faultsOf_97 : decode b_M_faultsOf 97 = .ok (.istore_n 2, 1) := by decide +kernel
theorem d_M_faultsOf_98 : decode b_M_faultsOf 98 = .ok (.iinc 3 1, 3) := by decide +kernel
theorem d_M_faultsOf_101 : decode b_M_faultsOf 101 = .ok (.goto (-60), 3) := by decide +kernel
theorem d_M_faultsOf_104 : decode b_M_faultsOf 104 = .ok (.iload_n 2, 1) := by decide +kernel
theorem d_M_faultsOf_105 : decode b_M_faultsOf 105 = .ok (.ireturn, 1) := by decide +kernel
theorem d_M_cost_0 : decode b_M_cost 0 = .ok (.aload_n 0, 1) := by decide +kernel
theorem d_M_cost_1 : decode b_M_cost 1 = .ok (.aload_n 1, 1) := by decide +kernel
theorem d_M_cost_2 : decode b_M_cost 2 = .ok (.invokevirtual 83, 3) := by decide +kernel
theorem d_M_cost_5 : decode b_M_cost 5 = .ok (.i2l, 1) := by decide +kernel
theorem d_M_cost_6 : decode b_M_cost 6 = .ok (.ldc2_w 87, 3) := by decide +kernel
theorem d_M_cost_9 : decode b_M_cost 9 = .ok (.lmul, 1) := by decide +kernel
theorem d_M_cost_10 : decode b_M_cost 10 = .ok (.ldc2_w 89, 3) := by decide +kernel
theorem d_M_cost_13 : decode b_M_cost 13 = .ok (.aload_n 0, 1) := by decide +kernel
theorem d_M_cost_14 : decode b_M_cost 14 = .ok (.aload_n 1, 1) := by decide +kernel
theorem d_M_cost_15 : decode b_M_cost 15 = .ok (.invokevirtual 91, 3) := by decide +kernel
theorem d_M_cost_18 : decode b_M_cost 18 = .ok (.lmul, 1) := by decide +kernel
theorem d_M_cost_19 : decode b_M_cost 19 = .ok (.ladd, 1) := by decide +kernel
theorem d_M_cost_20 : decode b_M_cost 20 = .ok (.aload_n 0, 1) := by decide +kernel
theorem d_M_cost_21 : decode b_M_cost 21 = .ok (.aload_n 1, 1) := by decide +kernel
theorem d_M_cost_22 : decode b_M_cost 22 = .ok (.invokevirtual 95, 3) := by decide +kernel
theorem d_M_cost_25 : decode b_M_cost 25 = .ok (.i2l, 1) := by decide +kernel
theorem d_M_cost_26 : decode b_M_cost 26 = .ok (.ladd, 1) := by decide +kernel
theorem d_M_cost_27 : decode b_M_cost 27 = .ok (.lreturn, 1) := by decide +kernel
theorem d_M_tryMoves_0 : decode b_M_tryMoves 0 = .ok (.iconst 0, 1) := by decide +kernel
theorem d_M_tryMoves_1 : decode b_M_tryMoves 1 = .ok (.istore_n 3, 1) := by decide +kernel
theorem d_M_tryMoves_2 : decode b_M_tryMoves 2 = .ok (.iload_n 3, 1) := by decide +kernel
theorem d_M_tryMoves_3 : decode b_M_tryMoves 3 = .ok (.aload_n 0, 1) := by decide +kernel
theorem d_M_tryMoves_4 : decode b_M_tryMoves 4 = .ok (.getfield 36, 3) := by decide +kernel
theorem d_M_tryMoves_7 : decode b_M_tryMoves 7 = .ok (.if_icmp .ge 21, 3) := by decide +kernel
theorem d_M_tryMoves_10 : decode b_M_tryMoves 10 = .ok (.aload_n 0, 1) := by decide +kernel
theorem d_M_tryMoves_11 : decode b_M_tryMoves 11 = .ok (.getfield 27, 3) := by decide +kernel
theorem d_M_tryMoves_14 : decode b_M_tryMoves 14 = .ok (.iload_n 3, 1) := by decide +kernel
theorem d_M_tryMoves_15 : decode b_M_tryMoves 15 = .ok (.aload_n 0, 1) := by decide +kernel
theorem d_M_tryMoves_16 : decode b_M_tryMoves 16 = .ok (.getfield 13, 3) := by decide +kernel
theorem d_M_tryMoves_19 : decode b_M_tryMoves 19 = .ok (.iload_n 3, 1) := by decide +kernel
theorem d_M_tryMoves_20 : decode b_M_tryMoves 20 = .ok (.iaload, 1) := by decide +kernel
theorem d_M_tryMoves_21 : decode b_M_tryMoves 21 = .ok (.iastore, 1) := by decide +kernel
theorem d_M_tryMoves_22 : decode b_M_tryMoves 22 = .ok (.iinc 3 1, 3) := by decide +kernel
theorem d_M_tryMoves_25 : decode b_M_tryMoves 25 = .ok (.goto (-23), 3) := by decide +kernel
theorem d_M_tryMoves_28 : decode b_M_tryMoves 28 = .ok (.aload_n 0, 1) := by decide +kernel
theorem d_M_tryMoves_29 : decode b_M_tryMoves 29 = .ok (.aload_n 0, 1) := by decide +kernel
theorem d_M_tryMoves_30 : decode b_M_tryMoves 30 = .ok (.getfield 27, 3) := by decide +kernel
theorem d_M_tryMoves_33 : decode b_M_tryMoves 33 = .ok (.invokevirtual 100, 3) := by decide +kernel
theorem d_M_tryMoves_36 : decode b_M_tryMoves 36 = .ok (.lstore_n 3, 1) := by decide +kernel
theorem d_M_tryMoves_37 : decode b_M_tryMoves 37 = .ok (.lload_n 1, 1) := by decide +kernel
theorem d_M_tryMoves_38 : decode b_M_tryMoves 38 = .ok (.lstore 5, 2) := by decide +kernel
theorem d_M_tryMoves_40 : decode b_M_tryMoves 40 = .ok (.iconst 0, 1) := by decide +kernel
theorem d_M_tryMoves_41 : decode b_M_tryMoves 41 = .ok (.istore 7, 2) := by decide +kernel
theorem d_M_tryMoves_43 : decode b_M_tryMoves 43 = .ok (.iconst 0, 1) := by decide +kernel
theorem d_M_tryMoves_44 : decode b_M_tryMoves 44 = .ok (.istore 8, 2) := by decide +kernel
theorem d_M_tryMoves_46 : decode b_M_tryMoves 46 = .ok (.iload 7, 2) := by decide +kernel
theorem d_M_tryMoves_48 : decode b_M_tryMoves 48 = .ok (.aload_n 0, 1) := by decide +kernel
theorem d_M_tryMoves_49 : decode b_M_tryMoves 49 = .ok (.getfield 36, 3) := by decide +kernel
theorem d_M_tryMoves_52 : decode b_M_tryMoves 52 = .ok (.if_icmp .ge 150, 3) := by decide +kernel
theorem d_M_tryMoves_55 : decode b_M_tryMoves 55 = .ok (.lload 5, 2) := by decide +kernel
theorem d_M_tryMoves_57 : decode b_M_tryMoves 57 = .ok (.lconst 0, 1) := by decide +kernel
theorem d_M_tryMoves_58 : decode b_M_tryMoves 58 = .ok (.lcmp, 1) := by decide +kernel
theorem d_M_tryMoves_59 : decode b_M_tryMoves 59 = .ok (.ifCond .le 143, 3) := by decide +kernel
theorem d_M_tryMoves_62 : decode b_M_tryMoves 62 = .ok (.aload_n 0, 1) := by decide +kernel
theorem d_M_tryMoves_63 : decode b_M_tryMoves 63 = .ok (.getfield 27, 3) := by decide +kernel
theorem d_M_tryMoves_66 : decode b_M_tryMoves 66 = .ok (.iload 7, 2) := by decide +kernel
theorem d_M_tryMoves_68 : decode b_M_tryMoves 68 = .ok (.iaload, 1) := by decide +kernel
theorem d_M_tryMoves_69 : decode b_M_tryMoves 69 = .ok (.istore 9, 2) := by decide +kernel
theorem d_M_tryMoves_71 : decode b_M_tryMoves 71 = .ok (.iconst 0, 1) := by decide +kernel
theorem d_M_tryMoves_72 : decode b_M_tryMoves 72 = .ok (.istore 10, 2) := by decide +kernel
theorem d_M_tryMoves_74 : decode b_M_tryMoves 74 = .ok (.iload 8, 2) := by decide +kernel
theorem d_M_tryMoves_76 : decode b_M_tryMoves 76 = .ok (.iload 9, 2) := by decide +kernel
theorem d_M_tryMoves_78 : decode b_M_tryMoves 78 = .ok (.if_icmp .eq 73, 3) := by decide +kernel
theorem d_M_tryMoves_81 : decode b_M_tryMoves 81 = .ok (.lload 5, 2) := by decide +kernel
theorem d_M_tryMoves_83 : decode b_M_tryMoves 83 = .ok (.lconst 1, 1) := by decide +kernel
theorem d_M_tryMoves_84 : decode b_M_tryMoves 84 = .ok (.lsub, 1) := by decide +kernel
theorem d_M_tryMoves_85 : decode b_M_tryMoves 85 = .ok (.lstore 5, 2) := by decide +kernel
theorem d_M_tryMoves_87 : decode b_M_tryMoves 87 = .ok (.aload_n 0, 1) := by decide +kernel
theorem d_M_tryMoves_88 : decode b_M_tryMoves 88 = .ok (.getfield 27, 3) := by decide +kernel
theorem d_M_tryMoves_91 : decode b_M_tryMoves 91 = .ok (.iload 7, 2) := by decide +kernel
theorem d_M_tryMoves_93 : decode b_M_tryMoves 93 = .ok (.iload 8, 2) := by decide +kernel
theorem d_M_tryMoves_95 : decode b_M_tryMoves 95 = .ok (.iastore, 1) := by decide +kernel
theorem d_M_tryMoves_96 : decode b_M_tryMoves 96 = .ok (.aload_n 0, 1) := by decide +kernel
theorem d_M_tryMoves_97 : decode b_M_tryMoves 97 = .ok (.aload_n 0, 1) := by decide +kernel
theorem d_M_tryMoves_98 : decode b_M_tryMoves 98 = .ok (.getfield 27, 3) := by decide +kernel
theorem d_M_tryMoves_101 : decode b_M_tryMoves 101 = .ok (.invokevirtual 100, 3) := by decide +kernel
theorem d_M_tryMoves_104 : decode b_M_tryMoves 104 = .ok (.lstore 11, 2) := by decide +kernel
theorem d_M_tryMoves_106 : decode b_M_tryMoves 106 = .ok (.lload 11, 2) := by decide +kernel
theorem d_M_tryMoves_108 : decode b_M_tryMoves 108 = .ok (.lload_n 3, 1) := by decide +kernel
theorem d_M_tryMoves_109 : decode b_M_tryMoves 109 = .ok (.lcmp, 1) := by decide +kernel
theorem d_M_tryMoves_110 : decode b_M_tryMoves 110 = .ok (.ifCond .ge 7, 3) := by decide +kernel
theorem d_M_tryMoves_113 : decode b_M_tryMoves 113 = .ok (.iconst 1, 1) := by decide +kernel
theorem d_M_tryMoves_114 : decode b_M_tryMoves 114 = .ok (.goto 4, 3) := by decide +kernel
theorem d_M_tryMoves_117 : decode b_M_tryMoves 117 = .ok (.iconst 0, 1) := by decide +kernel
theorem d_M_tryMoves_118 : decode b_M_tryMoves 118 = .ok (.istore 10, 2) := by decide +kernel
theorem d_M_tryMoves_120 : decode b_M_tryMoves 120 = .ok (.iload 10, 2) := by decide +kernel
theorem d_M_tryMoves_122 : decode b_M_tryMoves 122 = .ok (.ifCond .eq 8, 3) := by decide +kernel
theorem d_M_tryMoves_125 : decode b_M_tryMoves 125 = .ok (.lload 11, 2) := by decide +kernel
theorem d_M_tryMoves_127 : decode b_M_tryMoves 127 = .ok (.goto 4, 3) := by decide +kernel
theorem d_M_tryMoves_130 : decode b_M_tryMoves 130 = .ok (.lload_n 3, 1) := by decide +kernel
theorem d_M_tryMoves_131 : decode b_M_tryMoves 131 = .ok (.lstore_n 3, 1) := by decide +kernel
theorem d_M_tryMoves_132 : decode b_M_tryMoves 132 = .ok (.aload_n 0, 1) := by decide +kernel
theorem d_M_tryMoves_133 : decode b_M_tryMoves 133 = .ok (.getfield 27, 3) := by decide +kernel
theorem d_M_tryMoves_136 : decode b_M_tryMoves 136 = .ok (.iload 7, 2) := by decide +kernel
theorem d_M_tryMoves_138 : decode b_M_tryMoves 138 = .ok (.iload 10, 2) := by decide +kernel
theorem d_M_tryMoves_140 : decode b_M_tryMoves 140 = .ok (.ifCond .eq 8, 3) := by decide +kernel
theorem d_M_tryMoves_143 : decode b_M_tryMoves 143 = .ok (.iload 8, 2) := by decide +kernel
theorem d_M_tryMoves_145 : decode b_M_tryMoves 145 = .ok (.goto 5, 3) := by decide +kernel
theorem d_M_tryMoves_148 : decode b_M_tryMoves 148 = .ok (.iload 9, 2) := by decide +kernel
theorem d_M_tryMoves_150 : decode b_M_tryMoves 150 = .ok (.iastore, 1) := by decide +kernel
theorem d_M_tryMoves_151 : decode b_M_tryMoves 151 = .ok (.iinc 8 1, 3) := by decide +kernel
theorem d_M_tryMoves_154 : decode b_M_tryMoves 154 = .ok (.iload 10, 2) := by decide +kernel
theorem d_M_tryMoves_156 : decode b_M_tryMoves 156 = .ok (.ifCond .eq 7, 3) := by decide +kernel
theorem d_M_tryMoves_159 : decode b_M_tryMoves 159 = .ok (.iconst 0, 1) := by decide +kernel
theorem d_M_tryMoves_160 : decode b_M_tryMoves 160 = .ok (.goto 18, 3) := by decide +kernel
theorem d_M_tryMoves_163 : decode b_M_tryMoves 163 = .ok (.iload 8, 2) := by decide +kernel
theorem d_M_tryMoves_165 : decode b_M_tryMoves 165 = .ok (.iconst 4, 1) := by decide +kernel
theorem d_M_tryMoves_166 : decode b_M_tryMoves 166 = .ok (.if_icmp .ne 10, 3) := by decide +kernel
theorem d_M_tryMoves_169 : decode b_M_tryMoves 169 = .ok (.iload 7, 2) := by decide +kernel
theorem d_M_tryMoves_171 : decode b_M_tryMoves 171 = .ok (.iconst 1, 1) := by decide +kernel
theorem d_M_tryMoves_172 : decode b_M_tryMoves 172 = .ok (.iadd, 1) := by decide +kernel
theorem d_M_tryMoves_173 : decode b_M_tryMoves 173 = .ok (.goto 5, 3) := by decide +kernel
theorem d_M_tryMoves_176 : decode b_M_tryMoves 176 = .ok (.iload 7, 2) := by decide +kernel
theorem d_M_tryMoves_178 : decode b_M_tryMoves 178 = .ok (.istore 7, 2) := by decide +kernel
theorem d_M_tryMoves_180 : decode b_M_tryMoves 180 = .ok (.iload 10, 2) := by decide +kernel
theorem d_M_tryMoves_182 : decode b_M_tryMoves 182 = .ok (.ifCond .ne 9, 3) := by decide +kernel
theorem d_M_tryMoves_185 : decode b_M_tryMoves 185 = .ok (.iload 8, 2) := by decide +kernel
theorem d_M_tryMoves_187 : decode b_M_tryMoves 187 = .ok (.iconst 4, 1) := by decide +kernel
theorem d_M_tryMoves_188 : decode b_M_tryMoves 188 = .ok (.if_icmp .ne 7, 3) := by decide +kernel
theorem d_M_tryMoves_191 : decode b_M_tryMoves 191 = .ok (.iconst 0, 1) := by decide +kernel
theorem d_M_tryMoves_192 : decode b_M_tryMoves 192 = .ok (.goto 5, 3) := by decide +kernel
theorem d_M_tryMoves_195 : decode b_M_tryMoves 195 = .ok (.iload 8, 2) := by decide +kernel
theorem d_M_tryMoves_197 : decode b_M_tryMoves 197 = .ok (.istore 8, 2) := by decide +kernel
theorem d_M_tryMoves_199 : decode b_M_tryMoves 199 = .ok (.goto (-153), 3) := by decide +kernel
theorem d_M_tryMoves_202 : decode b_M_tryMoves 202 = .ok (.return_, 1) := by decide +kernel

noncomputable def bz_g1 (t : bz_T) (f : Nat → Nat) (r : Nat) : Nat := if bz_h t r = 0 then 0 else bz_b (bz_h t r < bz_ld t (bz_fu f) r)
noncomputable def bz_gr (t : bz_T) (f : Nat → Nat) (r : Nat) : Nat := bz_g1 t f r + bz_b (¬ bz_ht t (bz_fu f) r)
def bz_zc (t : bz_T) (f : Nat → Nat) (a : Nat) : Bool := decide (bz_h t (f a) = 0)
theorem bz_sm_add (f g : Nat → Nat) : ∀ n, bz_sm (fun i => f i + g i) n = bz_sm f n + bz_sm g n
  | 0 => rfl
  | n + 1 => by
    show bz_sm (fun i => f i + g i) n + (f n + g n) = bz_sm f n + f n + (bz_sm g n + g n)
    rw [bz_sm_add f g n]
    omega
theorem bz_zc_eq {t : bz_T} {f : Nat → Nat} : ∀ {k : Nat}, k ≤ bz_n t → (∀ a, a < bz_n t → f a < 4) → bz_ct (bz_zc t f) k = bz_sm (fun r => if bz_h t r = 0 then bz_ct (bz_in t (bz_fu f) r) k else 0) 4
  | 0, _, _ => by
    have e : ∀ r, (if bz_h t r = 0 then bz_ct (bz_in t (bz_fu f) r) 0 else 0) = 0 := fun r => by split <;> rfl
    rw [bz_sm_ext (n := 4) (g := fun _ => 0) (fun r _ => e r)]
    rfl
  | k + 1, hk, hf => by
    have ih := bz_zc_eq (t := t) (f := f) (k := k) (by omega) hf
    have hs : ∀ r, (if bz_h t r = 0 then bz_ct (bz_in t (bz_fu f) r) (k + 1) else 0) = (if bz_h t r = 0 then bz_ct (bz_in t (bz_fu f) r) k else 0) + (if bz_h t r = 0 ∧ f k = r then 1 else 0) := by
      intro r
      by_cases h0 : bz_h t r = 0
      · rw [if_pos h0, if_pos h0]
        by_cases h1 : f k = r
        · rw [if_pos ⟨h0, h1⟩, bz_ct_1 (by rw [bz_inf (by omega)]; exact decide_eq_true h1)]
        · rw [if_neg (fun z => h1 z.2), bz_ct_0 (by rw [bz_inf (by omega)]; exact decide_eq_false h1)]
          rfl
      · rw [if_neg h0, if_neg h0, if_neg (fun z => h0 z.1)]
    have hsum : bz_sm (fun r => if bz_h t r = 0 then bz_ct (bz_in t (bz_fu f) r) (k + 1) else 0) 4 = bz_sm (fun r => if bz_h t r = 0 then bz_ct (bz_in t (bz_fu f) r) k else 0) 4 + bz_sm (fun r => if bz_h t r = 0 ∧ f k = r then 1 else 0) 4 := by
      rw [← bz_sm_add]
      exact bz_sm_ext fun r _ => hs r
    have hone : bz_sm (fun r => if bz_h t r = 0 ∧ f k = r then 1 else 0) 4 = if bz_h t (f k) = 0 then 1 else 0 := by
      have h4 := hf k (by omega)
      show 0 + (if bz_h t 0 = 0 ∧ f k = 0 then 1 else 0) + (if bz_h t 1 = 0 ∧ f k = 1 then 1 else 0) + (if bz_h t 2 = 0 ∧ f k = 2 then 1 else 0) + (if bz_h t 3 = 0 ∧ f k = 3 then 1 else 0) = _
      rcases (show f k = 0 ∨ f k = 1 ∨ f k = 2 ∨ f k = 3 by omega) with e | e | e | e
      all_goals (rw [e]; simp)
    rw [hsum, hone, ← ih]
    by_cases h0 : bz_h t (f k) = 0
    · rw [if_pos h0, bz_ct_1 (by unfold bz_zc; exact decide_eq_true h0)]
    · rw [if_neg h0, bz_ct_0 (by unfold bz_zc; exact decide_eq_false h0)]
      rfl
theorem bz_ft_eq {t : bz_T} {f : Nat → Nat} (hf : ∀ a, a < bz_n t → f a < 4) : bz_ct (bz_zc t f) (bz_n t) + bz_sm (bz_gr t f) 4 = bz_ft t (bz_fu f) := by
  rw [bz_zc_eq (Nat.le_refl _) hf, ← bz_sm_add]
  unfold bz_ft
  rw [bz_fo_fu, Nat.zero_add]
  refine bz_sm_ext fun r _ => ?_
  show (if bz_h t r = 0 then bz_ct (bz_in t (bz_fu f) r) (bz_n t) else 0) + (bz_g1 t f r + bz_b (¬ bz_ht t (bz_fu f) r)) = bz_fr t (bz_fu f) r
  by_cases h0 : bz_h t r = 0
  · rw [if_pos h0, bz_fr_h0 h0, show bz_g1 t f r = 0 by unfold bz_g1; rw [if_pos h0]]
    omega
  · rw [if_neg h0, bz_fr_h1 h0, show bz_g1 t f r = bz_b (bz_h t r < bz_ld t (bz_fu f) r) by unfold bz_g1; rw [if_neg h0]]
    omega
theorem bz_g1_0 {t : bz_T} {f : Nat → Nat} {r : Nat} (h : bz_h t r ≤ 0 ∨ bz_ld t (bz_fu f) r ≤ bz_h t r) : bz_g1 t f r = 0 := by
  unfold bz_g1
  by_cases h0 : bz_h t r = 0
  · rw [if_pos h0]
  · rw [if_neg h0, bz_b0 (by omega)]
theorem bz_g1_1 {t : bz_T} {f : Nat → Nat} {r : Nat} (h : 0 < bz_h t r) (h2 : bz_h t r < bz_ld t (bz_fu f) r) : bz_g1 t f r = 1 := by
  unfold bz_g1
  rw [if_neg (by omega), bz_b1 h2]
theorem bz_cost_m {t : bz_T} (s : bz_S) : lN (bz_ft t s) * (1000000000000 : Int64) + 100 * lN (bz_gl t s) + lN (bz_ch t s) = lN (bz_co t s) := by
  rw [show (1000000000000 : Int64) = lN 1000000000000 from rfl, show (100 : Int64) = lN 100 from rfl, lN_mul, lN_mul, lN_add, lN_add, Nat.mul_comm (bz_ft t s)]
  rfl
def bz_cp (f x : Nat → Nat) (i a : Nat) : Nat := if a < i then f a else x a
theorem bz_cp_0 (f x : Nat → Nat) : bz_cp f x 0 = x := funext fun a => if_neg (by omega)
theorem bz_cp_1 (f x : Nat → Nat) (i : Nat) : (fun a => nI (bz_cp f x (i + 1) a)) = upd (fun a => nI (bz_cp f x i a)) i (nI (f i)) := funext fun a => by
  show nI (if a < i + 1 then f a else x a) = if a = i then nI (f i) else nI (if a < i then f a else x a)
  by_cases e : a = i
  · subst e
    rw [if_pos rfl, if_pos (by omega)]
  · rw [if_neg e]
    by_cases h : a < i
    · rw [if_pos h, if_pos (by omega)]
    · rw [if_neg h, if_neg (by omega)]
theorem bz_cp_lo {f x : Nat → Nat} {i a : Nat} (h : a < i) : bz_cp f x i a = f a := if_pos h
def bz_mr (r x : Nat) : Nat := if r ≤ x then r else r - 1
theorem bz_mr_lt {r x : Nat} (hr : r < 4) (hx : x < 4) (h : r ≠ x) : bz_mr r x < 3 := by
  unfold bz_mr
  split <;> omega
theorem bz_mr_ot {r x : Nat} (h : r ≠ x) : bz_ot x (bz_mr r x) = r := by
  unfold bz_ot bz_mr
  split <;> split <;> omega
theorem bz_mr_s {r x : Nat} (h : r ≠ x) : bz_mr (r + 1) x = bz_mr r x + 1 := by
  unfold bz_mr
  split <;> split <;> omega
theorem bz_mr_e (x : Nat) : bz_mr (x + 1) x = bz_mr x x := by
  unfold bz_mr
  split <;> split <;> omega
theorem bz_mr_0 (x : Nat) : bz_mr 0 x = 0 := by
  unfold bz_mr
  split <;> omega
theorem bz_mr_4 {x : Nat} (h : x < 4) : bz_mr 4 x = 3 := by
  unfold bz_mr
  split <;> omega
theorem bz_mr_do {t : bz_T} {lf a r : Nat} {g : Nat → Nat} (hlf : 0 < lf) (ha : a < bz_n t) (hr : r < 4) (hx : g a < 4) (h : r ≠ g a) (hc : bz_co t (bz_fu (va_up g a r)) < bz_co t (bz_fu g)) : bz_mv t lf (3 * a + bz_mr r (g a)) g = bz_mv t (lf - 1) 0 (va_up g a r) := by
  have h3 := bz_mr_lt hr hx h
  have e1 : (3 * a + bz_mr r (g a)) / 3 = a := by omega
  have e2 : (3 * a + bz_mr r (g a)) % 3 = bz_mr r (g a) := by omega
  obtain ⟨k, rfl⟩ : ∃ k, lf = k + 1 := ⟨lf - 1, by omega⟩
  rw [bz_mv_do (by omega) (by rw [e1, e2, bz_mr_ot h]; exact hc), e1, e2, bz_mr_ot h]
  rfl
theorem bz_mr_no {t : bz_T} {lf a r : Nat} {g : Nat → Nat} (hlf : 0 < lf) (ha : a < bz_n t) (hr : r < 4) (hx : g a < 4) (h : r ≠ g a) (hc : ¬ bz_co t (bz_fu (va_up g a r)) < bz_co t (bz_fu g)) : bz_mv t lf (3 * a + bz_mr r (g a)) g = bz_mv t (lf - 1) (3 * a + bz_mr (r + 1) (g a)) g := by
  have h3 := bz_mr_lt hr hx h
  have e1 : (3 * a + bz_mr r (g a)) / 3 = a := by omega
  have e2 : (3 * a + bz_mr r (g a)) % 3 = bz_mr r (g a) := by omega
  obtain ⟨k, rfl⟩ : ∃ k, lf = k + 1 := ⟨lf - 1, by omega⟩
  rw [bz_mv_no (by omega) (by rw [e1, e2, bz_mr_ot h]; exact hc), bz_mr_s h]
  rfl
theorem bz_up_same (g : Nat → Nat) (a r : Nat) : va_up (va_up g a r) a r = va_up g a r := bx_uu _ _ _ _

set_option maxHeartbeats 4000000 in
set_option maxRecDepth 100000 in
/-- faultsOf share -/
theorem c_M_faultsOf_share (l : Launch) (dC : Nat → ClassId) (dI : Nat → Nat → Nat) (sz : Nat) (am : Nat → Nat) (cI cL cZ : ClassId) (t : bz_T) (th sv ex : Int32) (f : Nat → Nat) (S2 S3 : Nat → Int32) (ht : bz_ok t) (hf : ∀ a, a < bz_n t → f a < 4) : Met l y_M_faultsOf w_M_faultsOf ({ frames := 2, cells := 0, slots := 0, locals := 49 }) (bz_Pw (dC, dI) [(cI, .int), (cL, .long), (cZ, .boolean)] (bz_wM am cI cL cZ (bz_tM t) (th, sv, ex) ((fun a => nI (f a)), S2, S3)) sz [.ref (am 0), .ref (am 6)]) (bz_Qxi (dC, dI) [(cI, .int), (cL, .long), (cZ, .boolean)] (va_A (bz_wM am cI cL cZ (bz_tM t) (th, sv, ex) ((fun a => nI (f a)), S2, S3)) sz) (fun r9 (u : Nat → Int32) => r9 = nI (bz_ft t (bz_fu f))) (fun u : Nat → Int32 => bz_wM am cI cL cZ (bz_tM t) (th, sv, ex) ((fun a => nI (f a)), S2, u))) 0 0 (va_A (bz_wM am cI cL cZ (bz_tM t) (th, sv, ex) ((fun a => nI (f a)), S2, S3)) sz) := by
  refine Met.ofW (cc := b_M_faultsOf) (maxL := 4) (ret := (some .int)) (by decide) rfl ?_
  intro p e s m args below meth c s₁ B hml hv
  obtain ⟨rfl, hsz, hP, hK, hD0, hN⟩ := hv
  have hx := B.exec
  have hb := B.bytes
  have hr := B.returns
  have hts := atoms_spec (ws := w_M_faultsOf) B.pre
  have hown : s.vm.findClass R_M = some m.cls := findClass_of_methodNamed B.named
  have htb : ∀ w ∈ bz_tb, w.before _ s = true := fun w h => hts w (List.mem_cons_of_mem _ h)
  have hlocks := B.notSynchronized
  subst hsz
  have hD := hD0.self (sz := s.heap.size)
  generalize hAe : va_A (bz_wM am cI cL cZ (bz_tM t) (th, sv, ex) ((fun a => nI (f a)), S2, S3)) s.heap.size = A at hD ⊢
  have hA : ∀ q : Nat, s.heap.size ≤ q → A q := fun q h => by rw [← hAe]; exact Or.inr h
  have hS : va_S A s.heap s.heap [] := va_S.rf
  have hl := lv_entry ([.ref (am 0), .ref (am 6)]) (n := 4) (Nat.le_of_ble_eq_true rfl)
  rw [lg_entry_eq]
  generalize (lg_sl ([.ref (am 0), .ref (am 6)]) ++ List.replicate (4 - (lg_sl ([.ref (am 0), .ref (am 6)])).length) Slot.unset).toArray = ls at hl ⊢
  have hl : lv_has ls 4 [(0, .ref (am 0)), (1, .ref (am 6))] := hl
  have hn30 := ht.1
  refine lv_iconst (v := nI 0) hx hb d_M_faultsOf_0 (by decide) ?_
  refine lv_istore_n (lv' := [(2, .int (nI 0)), (0, .ref (am 0)), (1, .ref (am 6))]) hx hb d_M_faultsOf_1 rfl hl (by decide) rfl (fun ls hl => ?_)
  refine lv_iconst (v := nI 0) hx hb d_M_faultsOf_2 (by decide) ?_
  refine lv_istore_n (lv' := [(3, .int (nI 0)), (2, .int (nI 0)), (0, .ref (am 0)), (1, .ref (am 6))]) hx hb d_M_faultsOf_3 rfl hl (by decide) rfl (fun ls hl => ?_)
  have lpa : ∀ (k9 : Nat) (i : Nat), bz_n t - i < k9 → (i ≤ bz_n t) → ∀ (H : Heap) (locs : List Loc), va_P (dC, dI) vwCl (bz_wM am cI cL cZ (bz_tM t) (th, sv, ex) ((fun a => nI (f a)), S2, S3)) H → va_D A (bz_wM am cI cL cZ (bz_tM t) (th, sv, ex) ((fun a => nI (f a)), S2, S3)) → va_S A s.heap H locs → ∀ (ls : Array Slot), lv_has ls 4 [(0, .ref (am 0)), (1, .ref (am 6)), (2, .int (nI (bz_ct (bz_zc t f) i))), (3, .int (nI i))] → W p l e (headSpec w_M_faultsOf ({ frames := 2, cells := 0, slots := 0, locals := 49 })).room s m ([.ref (am 0), .ref (am 6)]).toArray below meth c H locs 0 0 (MQ below (bz_Qxi (dC, dI) [(cI, .int), (cL, .long), (cZ, .boolean)] A (fun r9 (u : Nat → Int32) => r9 = nI (bz_ft t (bz_fu f))) (fun u : Nat → Int32 => bz_wM am cI cL cZ (bz_tM t) (th, sv, ex) ((fun a => nI (f a)), S2, u))) ([.ref (am 0), .ref (am 6)]).toArray s 0 0 (A)) (F0 m 4 ls []) := by
    intro k9
    induction k9 with
    | zero =>
      intro i h9
      exact absurd h9 (Nat.not_lt_zero _)
    | succ k9 ihlpa =>
      intro i h9_lpa hi H locs hP hD hS ls hl
      refine lv_iload_n hx hb d_M_faultsOf_4 rfl (lv_at hl 3 rfl) ?_
      refine lv_aload_n hx hb d_M_faultsOf_5 rfl (lv_at hl 0 rfl) ?_
      refine va_get (D := (dC, dI)) (ci := 4) (v := .int (nI (bz_n t))) (C := R_M) (T := F_M) (N := 12) hx hb htb in_M hown hK hP 0 rfl rfl 1 (by decide) (htb _ wd_412) (fun _ h9 => h9) rfl d_M_faultsOf_6 ?_
      refine lv_icmp_ge (tgt := 39) hx hb d_M_faultsOf_9 (by decide) (fun c_9 => ?_) (fun c_9 => ?_)
      · skip
        have hin : i = bz_n t := by have := (nI_leI (by omega) (by omega)).mp c_9; omega
        have hl : lv_has ls 4 [(0, .ref (am 0)), (1, .ref (am 6)), (2, .int (nI (bz_ct (bz_zc t f) (bz_n t) + bz_sm (bz_gr t f) 0))), (3, .int (nI i))] := by rw [show nI (bz_ct (bz_zc t f) (bz_n t) + bz_sm (bz_gr t f) 0) = nI (bz_ct (bz_zc t f) i) from by rw [hin]; rfl]; exact hl
        refine lv_iconst (v := nI 0) hx hb d_M_faultsOf_39 (by decide) ?_
        refine lv_istore_n (lv' := [(3, .int (nI 0)), (0, .ref (am 0)), (1, .ref (am 6)), (2, .int (nI (bz_ct (bz_zc t f) (bz_n t) + bz_sm (bz_gr t f) 0)))]) hx hb d_M_faultsOf_40 rfl hl (by decide) rfl (fun ls hl => ?_)
        have lpb : ∀ (k9 : Nat) (i : Nat) (u : Nat → Int32), 4 - i < k9 → (i ≤ 4) → ∀ (H : Heap) (locs : List Loc), va_P (dC, dI) vwCl (bz_wM am cI cL cZ (bz_tM t) (th, sv, ex) ((fun a => nI (f a)), S2, u)) H → va_D A (bz_wM am cI cL cZ (bz_tM t) (th, sv, ex) ((fun a => nI (f a)), S2, u)) → va_S A s.heap H locs → ∀ (ls : Array Slot), lv_has ls 4 [(0, .ref (am 0)), (1, .ref (am 6)), (2, .int (nI (bz_ct (bz_zc t f) (bz_n t) + bz_sm (bz_gr t f) i))), (3, .int (nI i))] → W p l e (headSpec w_M_faultsOf ({ frames := 2, cells := 0, slots := 0, locals := 49 })).room s m ([.ref (am 0), .ref (am 6)]).toArray below meth c H locs 0 0 (MQ below (bz_Qxi (dC, dI) [(cI, .int), (cL, .long), (cZ, .boolean)] A (fun r9 (u : Nat → Int32) => r9 = nI (bz_ft t (bz_fu f))) (fun u : Nat → Int32 => bz_wM am cI cL cZ (bz_tM t) (th, sv, ex) ((fun a => nI (f a)), S2, u))) ([.ref (am 0), .ref (am 6)]).toArray s 0 0 (A)) (F0 m 41 ls []) := by
          intro k9
          induction k9 with
          | zero =>
            intro i u h9
            exact absurd h9 (Nat.not_lt_zero _)
          | succ k9 ihlpb =>
            intro i u h9_lpb hi H locs hP hD hS ls hl
            refine lv_iload_n hx hb d_M_faultsOf_41 rfl (lv_at hl 3 rfl) ?_
            refine lv_iconst (v := 4) hx hb d_M_faultsOf_42 (by decide) ?_
            refine lv_icmp_ge (tgt := 104) hx hb d_M_faultsOf_43 (by decide) (fun c_43 => ?_) (fun c_43 => ?_)
            · skip
              have hi4 : i = 4 := by have := (nI_leI (a := 4) (by omega) (by omega)).mp c_43; omega
              refine lv_iload_n hx hb d_M_faultsOf_104 rfl (lv_at hl 2 rfl) ?_
              exact W.iret (v := nI (bz_ct (bz_zc t f) (bz_n t) + bz_sm (bz_gr t f) i)) hx hb hr (fun t9 ht9 hW => ⟨⟨_, u, rfl, by rw [hi4, bz_ft_eq hf], by rw [ht9]; exact hP, va_K.moved hW.alike hK, hD⟩, hS.F ht9⟩) hS.2.2 d_M_faultsOf_105
            · skip
              have hi4 : i < 4 := Nat.lt_of_not_le fun z => c_43 ((nI_leI (a := 4) (b := i) (by omega) (by omega)).mpr z)
              have hhi := ht.2.2.2.2.2.2 i
              have hld := bz_ld_le ht (bz_fu f) i
              refine lv_aload_n hx hb d_M_faultsOf_46 rfl (lv_at hl 0 rfl) ?_
              refine va_get (D := (dC, dI)) (ci := 4) (v := .ref (am 5)) (C := R_M) (T := F_M) (N := 12) hx hb htb in_M hown hK hP 0 rfl rfl 6 (by decide) (htb _ wd_417) (fun _ h9 => h9) rfl d_M_faultsOf_47 ?_
              refine lv_iload_n hx hb d_M_faultsOf_50 rfl (lv_at hl 3 rfl) ?_
              refine bz_lald (v := lN (bz_h t i)) hx hb hK hP 5 1 rfl rfl (a9 := i) (by omega) (by decide) (rfl) d_M_faultsOf_51 ?_
              refine lv_lconst (v := 0) hx hb d_M_faultsOf_52 (by decide) ?_
              refine W.lcmp hx hb d_M_faultsOf_53 ?_
              refine lv_if_le (tgt := 79) hx hb d_M_faultsOf_54 (by decide) (fun c_54 => ?_) (fun c_54 => ?_)
              · skip
                have hg1 := bz_g1_0 (f := f) (Or.inl ((bz_lc_le (b := 0) (by omega) (by omega)).mp c_54))
                refine lv_iload_n hx hb d_M_faultsOf_79 rfl (lv_at hl 2 rfl) ?_
                refine bz_ri (y := nI (bz_ct (bz_zc t f) (bz_n t) + bz_sm (bz_gr t f) i + bz_g1 t f i)) (by rw [hg1]; rfl) ?_
                refine lv_istore_n (lv' := [(2, .int (nI (bz_ct (bz_zc t f) (bz_n t) + bz_sm (bz_gr t f) i + bz_g1 t f i))), (0, .ref (am 0)), (1, .ref (am 6)), (3, .int (nI i))]) hx hb d_M_faultsOf_80 rfl hl (by decide) rfl (fun ls hl => ?_)
                refine lv_aload_n hx hb d_M_faultsOf_81 rfl (lv_at hl 1 rfl) ?_
                refine lv_aload_n hx hb d_M_faultsOf_82 rfl (lv_at hl 2 rfl) ?_
                refine lv_iload_n hx hb d_M_faultsOf_83 rfl (lv_at hl 3 rfl) ?_
                refine bz_cxi (va_runV (As := [.ref (am 6), .int (nI i)]) (rest := []) ⟨hx, hb, hml, hown, htb⟩ (c_M_hangs_share l dC dI _ am cI cL cZ t th sv ex f S2 u ht _ (by omega) hf) (cwV 2 htb (bz_gV wd_515 wd_512 wd_514 wd_12 wd_23) rfl rfl rfl (by decide +kernel) ⟨Nat.le_of_ble_eq_true rfl, Nat.le_of_ble_eq_true rfl⟩) (bz_wv hN hK hP hD (q0 := 0) rfl rfl) rfl rfl hl.1 rfl (lv_room (Nat.le_of_ble_eq_true rfl)) d_M_faultsOf_84 ⟨Nat.zero_le _, Nat.zero_le _⟩) hD hS hA (fun r9 u hu H locs hP hD hS => ?_)
                obtain rfl : r9 = nI (bz_b (bz_ht t (bz_fu f) i)) := hu
                have hP : va_P (dC, dI) vwCl (bz_wM am cI cL cZ (bz_tM t) (th, sv, ex) ((fun a => nI (f a)), S2, u)) H := hP
                have hD : va_D A (bz_wM am cI cL cZ (bz_tM t) (th, sv, ex) ((fun a => nI (f a)), S2, u)) := hD
                refine lv_if_eq (tgt := 94) hx hb d_M_faultsOf_87 (by decide) (fun c_87 => ?_) (fun c_87 => ?_)
                · skip
                  have hh5 := bz_bI0 c_87
                  refine lv_iload_n hx hb d_M_faultsOf_94 rfl (lv_at hl 0 rfl) ?_
                  refine lv_iconst (v := 1) hx hb d_M_faultsOf_95 (by decide) ?_
                  refine lv_iadd hx hb d_M_faultsOf_96 ?_
                  refine bz_ri (y := nI (bz_ct (bz_zc t f) (bz_n t) + bz_sm (bz_gr t f) (i + 1))) (by show _ = nI (_ + (bz_sm (bz_gr t f) i + (bz_g1 t f i + bz_b (¬ bz_ht t (bz_fu f) i)))); rw [bz_b1 hh5, show (1 : Int32) = nI 1 from rfl, nI_add]; congr 1; omega) ?_
                  refine lv_istore_n (lv' := [(2, .int (nI (bz_ct (bz_zc t f) (bz_n t) + bz_sm (bz_gr t f) (i + 1)))), (0, .ref (am 0)), (1, .ref (am 6)), (3, .int (nI i))]) hx hb d_M_faultsOf_97 rfl hl (by decide) rfl (fun ls hl => ?_)
                  refine lv_iinc (v := nI (i + 1)) (lv' := [(3, .int (nI (i + 1))), (2, .int (nI (bz_ct (bz_zc t f) (bz_n t) + bz_sm (bz_gr t f) (i + 1)))), (0, .ref (am 0)), (1, .ref (am 6))]) hx hb d_M_faultsOf_98 hl (k := 3) rfl (nI_1 _) (by decide) rfl (fun ls hl => ?_)
                  refine lv_goto (tgt := 41) hx hb d_M_faultsOf_101 (by decide) ?_
                  exact ihlpb (i + 1) u (by omega) (by omega) _ _ hP hD hS ls (lv_sub hl [2, 3, 1, 0] rfl)
                · skip
                  have hh5 := bz_bI1 c_87
                  refine lv_iload_n hx hb d_M_faultsOf_90 rfl (lv_at hl 0 rfl) ?_
                  refine bz_ri (y := nI (bz_ct (bz_zc t f) (bz_n t) + bz_sm (bz_gr t f) (i + 1))) (by show _ = nI (_ + (bz_sm (bz_gr t f) i + (bz_g1 t f i + bz_b (¬ bz_ht t (bz_fu f) i)))); rw [bz_b0 (fun z => z hh5)]; congr 1; omega) ?_
                  refine lv_goto (tgt := 97) hx hb d_M_faultsOf_91 (by decide) ?_
                  refine lv_istore_n (lv' := [(2, .int (nI (bz_ct (bz_zc t f) (bz_n t) + bz_sm (bz_gr t f) (i + 1)))), (0, .ref (am 0)), (1, .ref (am 6)), (3, .int (nI i))]) hx hb d_M_faultsOf_97 rfl hl (by decide) rfl (fun ls hl => ?_)
                  refine lv_iinc (v := nI (i + 1)) (lv' := [(3, .int (nI (i + 1))), (2, .int (nI (bz_ct (bz_zc t f) (bz_n t) + bz_sm (bz_gr t f) (i + 1)))), (0, .ref (am 0)), (1, .ref (am 6))]) hx hb d_M_faultsOf_98 hl (k := 3) rfl (nI_1 _) (by decide) rfl (fun ls hl => ?_)
                  refine lv_goto (tgt := 41) hx hb d_M_faultsOf_101 (by decide) ?_
                  exact ihlpb (i + 1) u (by omega) (by omega) _ _ hP hD hS ls (lv_sub hl [2, 3, 1, 0] rfl)
              · skip
                have hh0 : 0 < bz_h t i := Nat.lt_of_not_le fun z => c_54 ((bz_lc_le (b := 0) (by omega) (by omega)).mpr z)
                refine lv_aload_n hx hb d_M_faultsOf_57 rfl (lv_at hl 0 rfl) ?_
                refine lv_aload_n hx hb d_M_faultsOf_58 rfl (lv_at hl 1 rfl) ?_
                refine lv_iload_n hx hb d_M_faultsOf_59 rfl (lv_at hl 3 rfl) ?_
                refine bz_sl (va_runV (As := [.ref (am 6), .int (nI i)]) (rest := []) ⟨hx, hb, hml, hown, htb⟩ (c_M_roundLoad_share l dC dI am cI cL cZ t th sv ex f S2 u ht _ (by omega) hf) (cwV 2 htb (bz_gV wd_505 wd_502 wd_504 wd_10 wd_23) rfl rfl rfl (by decide +kernel) ⟨Nat.le_of_ble_eq_true rfl, Nat.le_of_ble_eq_true rfl⟩) (bz_rv hN hK hP (q0 := 0) rfl rfl) rfl rfl hl.1 rfl (lv_room (Nat.le_of_ble_eq_true rfl)) d_M_faultsOf_60 ⟨Nat.zero_le _, Nat.zero_le _⟩) ?_
                refine lv_aload_n hx hb d_M_faultsOf_63 rfl (lv_at hl 0 rfl) ?_
                refine va_get (D := (dC, dI)) (ci := 4) (v := .ref (am 5)) (C := R_M) (T := F_M) (N := 12) hx hb htb in_M hown hK hP 0 rfl rfl 6 (by decide) (htb _ wd_417) (fun _ h9 => h9) rfl d_M_faultsOf_64 ?_
                refine lv_iload_n hx hb d_M_faultsOf_67 rfl (lv_at hl 3 rfl) ?_
                refine bz_lald (v := lN (bz_h t i)) hx hb hK hP 5 1 rfl rfl (a9 := i) (by omega) (by decide) (rfl) d_M_faultsOf_68 ?_
                refine W.lcmp hx hb d_M_faultsOf_69 ?_
                refine lv_if_le (tgt := 79) hx hb d_M_faultsOf_70 (by decide) (fun c_70 => ?_) (fun c_70 => ?_)
                · skip
                  have hg1 := bz_g1_0 (f := f) (Or.inr ((bz_lc_le (by omega) (by omega)).mp c_70))
                  refine lv_iload_n hx hb d_M_faultsOf_79 rfl (lv_at hl 2 rfl) ?_
                  refine bz_ri (y := nI (bz_ct (bz_zc t f) (bz_n t) + bz_sm (bz_gr t f) i + bz_g1 t f i)) (by rw [hg1]; rfl) ?_
                  refine lv_istore_n (lv' := [(2, .int (nI (bz_ct (bz_zc t f) (bz_n t) + bz_sm (bz_gr t f) i + bz_g1 t f i))), (0, .ref (am 0)), (1, .ref (am 6)), (3, .int (nI i))]) hx hb d_M_faultsOf_80 rfl hl (by decide) rfl (fun ls hl => ?_)
                  refine lv_aload_n hx hb d_M_faultsOf_81 rfl (lv_at hl 1 rfl) ?_
                  refine lv_aload_n hx hb d_M_faultsOf_82 rfl (lv_at hl 2 rfl) ?_
                  refine lv_iload_n hx hb d_M_faultsOf_83 rfl (lv_at hl 3 rfl) ?_
                  refine bz_cxi (va_runV (As := [.ref (am 6), .int (nI i)]) (rest := []) ⟨hx, hb, hml, hown, htb⟩ (c_M_hangs_share l dC dI _ am cI cL cZ t th sv ex f S2 u ht _ (by omega) hf) (cwV 2 htb (bz_gV wd_515 wd_512 wd_514 wd_12 wd_23) rfl rfl rfl (by decide +kernel) ⟨Nat.le_of_ble_eq_true rfl, Nat.le_of_ble_eq_true rfl⟩) (bz_wv hN hK hP hD (q0 := 0) rfl rfl) rfl rfl hl.1 rfl (lv_room (Nat.le_of_ble_eq_true rfl)) d_M_faultsOf_84 ⟨Nat.zero_le _, Nat.zero_le _⟩) hD hS hA (fun r9 u hu H locs hP hD hS => ?_)
                  obtain rfl : r9 = nI (bz_b (bz_ht t (bz_fu f) i)) := hu
                  have hP : va_P (dC, dI) vwCl (bz_wM am cI cL cZ (bz_tM t) (th, sv, ex) ((fun a => nI (f a)), S2, u)) H := hP
                  have hD : va_D A (bz_wM am cI cL cZ (bz_tM t) (th, sv, ex) ((fun a => nI (f a)), S2, u)) := hD
                  refine lv_if_eq (tgt := 94) hx hb d_M_faultsOf_87 (by decide) (fun c_87 => ?_) (fun c_87 => ?_)
                  · skip
                    have hh5 := bz_bI0 c_87
                    refine lv_iload_n hx hb d_M_faultsOf_94 rfl (lv_at hl 0 rfl) ?_
                    refine lv_iconst (v := 1) hx hb d_M_faultsOf_95 (by decide) ?_
                    refine lv_iadd hx hb d_M_faultsOf_96 ?_
                    refine bz_ri (y := nI (bz_ct (bz_zc t f) (bz_n t) + bz_sm (bz_gr t f) (i + 1))) (by show _ = nI (_ + (bz_sm (bz_gr t f) i + (bz_g1 t f i + bz_b (¬ bz_ht t (bz_fu f) i)))); rw [bz_b1 hh5, show (1 : Int32) = nI 1 from rfl, nI_add]; congr 1; omega) ?_
                    refine lv_istore_n (lv' := [(2, .int (nI (bz_ct (bz_zc t f) (bz_n t) + bz_sm (bz_gr t f) (i + 1)))), (0, .ref (am 0)), (1, .ref (am 6)), (3, .int (nI i))]) hx hb d_M_faultsOf_97 rfl hl (by decide) rfl (fun ls hl => ?_)
                    refine lv_iinc (v := nI (i + 1)) (lv' := [(3, .int (nI (i + 1))), (2, .int (nI (bz_ct (bz_zc t f) (bz_n t) + bz_sm (bz_gr t f) (i + 1)))), (0, .ref (am 0)), (1, .ref (am 6))]) hx hb d_M_faultsOf_98 hl (k := 3) rfl (nI_1 _) (by decide) rfl (fun ls hl => ?_)
                    refine lv_goto (tgt := 41) hx hb d_M_faultsOf_101 (by decide) ?_
                    exact ihlpb (i + 1) u (by omega) (by omega) _ _ hP hD hS ls (lv_sub hl [2, 3, 1, 0] rfl)
                  · skip
                    have hh5 := bz_bI1 c_87
                    refine lv_iload_n hx hb d_M_faultsOf_90 rfl (lv_at hl 0 rfl) ?_
                    refine bz_ri (y := nI (bz_ct (bz_zc t f) (bz_n t) + bz_sm (bz_gr t f) (i + 1))) (by show _ = nI (_ + (bz_sm (bz_gr t f) i + (bz_g1 t f i + bz_b (¬ bz_ht t (bz_fu f) i)))); rw [bz_b0 (fun z => z hh5)]; congr 1; omega) ?_
                    refine lv_goto (tgt := 97) hx hb d_M_faultsOf_91 (by decide) ?_
                    refine lv_istore_n (lv' := [(2, .int (nI (bz_ct (bz_zc t f) (bz_n t) + bz_sm (bz_gr t f) (i + 1)))), (0, .ref (am 0)), (1, .ref (am 6)), (3, .int (nI i))]) hx hb d_M_faultsOf_97 rfl hl (by decide) rfl (fun ls hl => ?_)
                    refine lv_iinc (v := nI (i + 1)) (lv' := [(3, .int (nI (i + 1))), (2, .int (nI (bz_ct (bz_zc t f) (bz_n t) + bz_sm (bz_gr t f) (i + 1)))), (0, .ref (am 0)), (1, .ref (am 6))]) hx hb d_M_faultsOf_98 hl (k := 3) rfl (nI_1 _) (by decide) rfl (fun ls hl => ?_)
                    refine lv_goto (tgt := 41) hx hb d_M_faultsOf_101 (by decide) ?_
                    exact ihlpb (i + 1) u (by omega) (by omega) _ _ hP hD hS ls (lv_sub hl [2, 3, 1, 0] rfl)
                · skip
                  have hg1 := bz_g1_1 (f := f) hh0 (Nat.lt_of_not_le fun z => c_70 ((bz_lc_le (by omega) (by omega)).mpr z))
                  refine lv_iload_n hx hb d_M_faultsOf_73 rfl (lv_at hl 2 rfl) ?_
                  refine lv_iconst (v := 1) hx hb d_M_faultsOf_74 (by decide) ?_
                  refine lv_iadd hx hb d_M_faultsOf_75 ?_
                  refine bz_ri (y := nI (bz_ct (bz_zc t f) (bz_n t) + bz_sm (bz_gr t f) i + bz_g1 t f i)) (by rw [hg1]; exact nI_1 _) ?_
                  refine lv_goto (tgt := 80) hx hb d_M_faultsOf_76 (by decide) ?_
                  refine lv_istore_n (lv' := [(2, .int (nI (bz_ct (bz_zc t f) (bz_n t) + bz_sm (bz_gr t f) i + bz_g1 t f i))), (0, .ref (am 0)), (1, .ref (am 6)), (3, .int (nI i))]) hx hb d_M_faultsOf_80 rfl hl (by decide) rfl (fun ls hl => ?_)
                  refine lv_aload_n hx hb d_M_faultsOf_81 rfl (lv_at hl 1 rfl) ?_
                  refine lv_aload_n hx hb d_M_faultsOf_82 rfl (lv_at hl 2 rfl) ?_
                  refine lv_iload_n hx hb d_M_faultsOf_83 rfl (lv_at hl 3 rfl) ?_
                  refine bz_cxi (va_runV (As := [.ref (am 6), .int (nI i)]) (rest := []) ⟨hx, hb, hml, hown, htb⟩ (c_M_hangs_share l dC dI _ am cI cL cZ t th sv ex f S2 u ht _ (by omega) hf) (cwV 2 htb (bz_gV wd_515 wd_512 wd_514 wd_12 wd_23) rfl rfl rfl (by decide +kernel) ⟨Nat.le_of_ble_eq_true rfl, Nat.le_of_ble_eq_true rfl⟩) (bz_wv hN hK hP hD (q0 := 0) rfl rfl) rfl rfl hl.1 rfl (lv_room (Nat.le_of_ble_eq_true rfl)) d_M_faultsOf_84 ⟨Nat.zero_le _, Nat.zero_le _⟩) hD hS hA (fun r9 u hu H locs hP hD hS => ?_)
                  obtain rfl : r9 = nI (bz_b (bz_ht t (bz_fu f) i)) := hu
                  have hP : va_P (dC, dI) vwCl (bz_wM am cI cL cZ (bz_tM t) (th, sv, ex) ((fun a => nI (f a)), S2, u)) H := hP
                  have hD : va_D A (bz_wM am cI cL cZ (bz_tM t) (th, sv, ex) ((fun a => nI (f a)), S2, u)) := hD
                  refine lv_if_eq (tgt := 94) hx hb d_M_faultsOf_87 (by decide) (fun c_87 => ?_) (fun c_87 => ?_)
                  · skip
                    have hh5 := bz_bI0 c_87
                    refine lv_iload_n hx hb d_M_faultsOf_94 rfl (lv_at hl 0 rfl) ?_
                    refine lv_iconst (v := 1) hx hb d_M_faultsOf_95 (by decide) ?_
                    refine lv_iadd hx hb d_M_faultsOf_96 ?_
                    refine bz_ri (y := nI (bz_ct (bz_zc t f) (bz_n t) + bz_sm (bz_gr t f) (i + 1))) (by show _ = nI (_ + (bz_sm (bz_gr t f) i + (bz_g1 t f i + bz_b (¬ bz_ht t (bz_fu f) i)))); rw [bz_b1 hh5, show (1 : Int32) = nI 1 from rfl, nI_add]; congr 1; omega) ?_
                    refine lv_istore_n (lv' := [(2, .int (nI (bz_ct (bz_zc t f) (bz_n t) + bz_sm (bz_gr t f) (i + 1)))), (0, .ref (am 0)), (1, .ref (am 6)), (3, .int (nI i))]) hx hb d_M_faultsOf_97 rfl hl (by decide) rfl (fun ls hl => ?_)
                    refine lv_iinc (v := nI (i + 1)) (lv' := [(3, .int (nI (i + 1))), (2, .int (nI (bz_ct (bz_zc t f) (bz_n t) + bz_sm (bz_gr t f) (i + 1)))), (0, .ref (am 0)), (1, .ref (am 6))]) hx hb d_M_faultsOf_98 hl (k := 3) rfl (nI_1 _) (by decide) rfl (fun ls hl => ?_)
                    refine lv_goto (tgt := 41) hx hb d_M_faultsOf_101 (by decide) ?_
                    exact ihlpb (i + 1) u (by omega) (by omega) _ _ hP hD hS ls (lv_sub hl [2, 3, 1, 0] rfl)
                  · skip
                    have hh5 := bz_bI1 c_87
                    refine lv_iload_n hx hb d_M_faultsOf_90 rfl (lv_at hl 0 rfl) ?_
                    refine bz_ri (y := nI (bz_ct (bz_zc t f) (bz_n t) + bz_sm (bz_gr t f) (i + 1))) (by show _ = nI (_ + (bz_sm (bz_gr t f) i + (bz_g1 t f i + bz_b (¬ bz_ht t (bz_fu f) i)))); rw [bz_b0 (fun z => z hh5)]; congr 1; omega) ?_
                    refine lv_goto (tgt := 97) hx hb d_M_faultsOf_91 (by decide) ?_
                    refine lv_istore_n (lv' := [(2, .int (nI (bz_ct (bz_zc t f) (bz_n t) + bz_sm (bz_gr t f) (i + 1)))), (0, .ref (am 0)), (1, .ref (am 6)), (3, .int (nI i))]) hx hb d_M_faultsOf_97 rfl hl (by decide) rfl (fun ls hl => ?_)
                    refine lv_iinc (v := nI (i + 1)) (lv' := [(3, .int (nI (i + 1))), (2, .int (nI (bz_ct (bz_zc t f) (bz_n t) + bz_sm (bz_gr t f) (i + 1)))), (0, .ref (am 0)), (1, .ref (am 6))]) hx hb d_M_faultsOf_98 hl (k := 3) rfl (nI_1 _) (by decide) rfl (fun ls hl => ?_)
                    refine lv_goto (tgt := 41) hx hb d_M_faultsOf_101 (by decide) ?_
                    exact ihlpb (i + 1) u (by omega) (by omega) _ _ hP hD hS ls (lv_sub hl [2, 3, 1, 0] rfl)
        exact lpb _ 0 S3 (Nat.lt_succ_self _) (by omega) _ _ hP hD hS ls (lv_sub hl [1, 2, 3, 0] rfl)
      · skip
        have hin : i < bz_n t := Nat.lt_of_not_le fun z => c_9 ((nI_leI (by omega) (by omega)).mpr z)
        have hfi := hf i hin
        have hhf := ht.2.2.2.2.2.2 (f i)
        refine lv_aload_n hx hb d_M_faultsOf_12 rfl (lv_at hl 0 rfl) ?_
        refine va_get (D := (dC, dI)) (ci := 4) (v := .ref (am 5)) (C := R_M) (T := F_M) (N := 12) hx hb htb in_M hown hK hP 0 rfl rfl 6 (by decide) (htb _ wd_417) (fun _ h9 => h9) rfl d_M_faultsOf_13 ?_
        refine lv_aload_n hx hb d_M_faultsOf_16 rfl (lv_at hl 1 rfl) ?_
        refine lv_iload_n hx hb d_M_faultsOf_17 rfl (lv_at hl 3 rfl) ?_
        refine bz_iald (v := nI (f i)) hx hb hK hP 6 0 rfl rfl (a9 := i) (by omega) (by decide) (rfl) d_M_faultsOf_18 ?_
        refine bz_lald (v := lN (bz_h t (f i))) hx hb hK hP 5 1 rfl rfl (a9 := (f i)) (hf i hin) (by decide) (rfl) d_M_faultsOf_19 ?_
        refine lv_lconst (v := 0) hx hb d_M_faultsOf_20 (by decide) ?_
        refine W.lcmp hx hb d_M_faultsOf_21 ?_
        refine lv_if_ne (tgt := 31) hx hb d_M_faultsOf_22 (by decide) (fun c_22 => ?_) (fun c_22 => ?_)
        · skip
          have hq : bz_zc t f i = false := decide_eq_false fun z => c_22 ((bz_lc_eq (b := 0) (by omega) (by omega)).mpr z)
          refine lv_iload_n hx hb d_M_faultsOf_31 rfl (lv_at hl 2 rfl) ?_
          refine bz_ri (y := nI (bz_ct (bz_zc t f) (i + 1))) (by rw [bz_ct_0 hq]) ?_
          refine lv_istore_n (lv' := [(2, .int (nI (bz_ct (bz_zc t f) (i + 1)))), (0, .ref (am 0)), (1, .ref (am 6)), (3, .int (nI i))]) hx hb d_M_faultsOf_32 rfl hl (by decide) rfl (fun ls hl => ?_)
          refine lv_iinc (v := nI (i + 1)) (lv' := [(3, .int (nI (i + 1))), (2, .int (nI (bz_ct (bz_zc t f) (i + 1)))), (0, .ref (am 0)), (1, .ref (am 6))]) hx hb d_M_faultsOf_33 hl (k := 3) rfl (nI_1 _) (by decide) rfl (fun ls hl => ?_)
          refine lv_goto (tgt := 4) hx hb d_M_faultsOf_36 (by decide) ?_
          exact ihlpa (i + 1) (by omega) (by omega) _ _ hP hD hS ls (lv_sub hl [2, 3, 1, 0] rfl)
        · skip
          have hq : bz_zc t f i = true := decide_eq_true ((bz_lc_eq (b := 0) (by omega) (by omega)).mp c_22)
          refine lv_iload_n hx hb d_M_faultsOf_25 rfl (lv_at hl 2 rfl) ?_
          refine lv_iconst (v := 1) hx hb d_M_faultsOf_26 (by decide) ?_
          refine lv_iadd hx hb d_M_faultsOf_27 ?_
          refine bz_ri (y := nI (bz_ct (bz_zc t f) (i + 1))) (by rw [bz_ct_1 hq]; exact nI_1 _) ?_
          refine lv_goto (tgt := 32) hx hb d_M_faultsOf_28 (by decide) ?_
          refine lv_istore_n (lv' := [(2, .int (nI (bz_ct (bz_zc t f) (i + 1)))), (0, .ref (am 0)), (1, .ref (am 6)), (3, .int (nI i))]) hx hb d_M_faultsOf_32 rfl hl (by decide) rfl (fun ls hl => ?_)
          refine lv_iinc (v := nI (i + 1)) (lv' := [(3, .int (nI (i + 1))), (2, .int (nI (bz_ct (bz_zc t f) (i + 1)))), (0, .ref (am 0)), (1, .ref (am 6))]) hx hb d_M_faultsOf_33 hl (k := 3) rfl (nI_1 _) (by decide) rfl (fun ls hl => ?_)
          refine lv_goto (tgt := 4) hx hb d_M_faultsOf_36 (by decide) ?_
          exact ihlpa (i + 1) (by omega) (by omega) _ _ hP hD hS ls (lv_sub hl [2, 3, 1, 0] rfl)
  exact lpa _ 0 (Nat.lt_succ_self _) (by omega) _ _ hP hD hS ls (lv_sub hl [2, 3, 1, 0] rfl)

set_option maxHeartbeats 4000000 in
set_option maxRecDepth 100000 in
/-- faultsOf tried -/
theorem c_M_faultsOf_tried (l : Launch) (dC : Nat → ClassId) (dI : Nat → Nat → Nat) (sz : Nat) (am : Nat → Nat) (cI cL cZ : ClassId) (t : bz_T) (th sv ex : Int32) (f : Nat → Nat) (S2 S3 : Nat → Int32) (ht : bz_ok t) (hf : ∀ a, a < bz_n t → f a < 4) : Met l y_M_faultsOf w_M_faultsOf ({ frames := 2, cells := 0, slots := 0, locals := 49 }) (bz_Pw (dC, dI) [(cI, .int), (cL, .long), (cZ, .boolean)] (bz_wM am cI cL cZ (bz_tM t) (th, sv, ex) (S2, (fun a => nI (f a)), S3)) sz [.ref (am 0), .ref (am 7)]) (bz_Qxi (dC, dI) [(cI, .int), (cL, .long), (cZ, .boolean)] (va_A (bz_wM am cI cL cZ (bz_tM t) (th, sv, ex) (S2, (fun a => nI (f a)), S3)) sz) (fun r9 (u : Nat → Int32) => r9 = nI (bz_ft t (bz_fu f))) (fun u : Nat → Int32 => bz_wM am cI cL cZ (bz_tM t) (th, sv, ex) (S2, (fun a => nI (f a)), u))) 0 0 (va_A (bz_wM am cI cL cZ (bz_tM t) (th, sv, ex) (S2, (fun a => nI (f a)), S3)) sz) := by
  refine Met.ofW (cc := b_M_faultsOf) (maxL := 4) (ret := (some .int)) (by decide) rfl ?_
  intro p e s m args below meth c s₁ B hml hv
  obtain ⟨rfl, hsz, hP, hK, hD0, hN⟩ := hv
  have hx := B.exec
  have hb := B.bytes
  have hr := B.returns
  have hts := atoms_spec (ws := w_M_faultsOf) B.pre
  have hown : s.vm.findClass R_M = some m.cls := findClass_of_methodNamed B.named
  have htb : ∀ w ∈ bz_tb, w.before _ s = true := fun w h => hts w (List.mem_cons_of_mem _ h)
  have hlocks := B.notSynchronized
  subst hsz
  have hD := hD0.self (sz := s.heap.size)
  generalize hAe : va_A (bz_wM am cI cL cZ (bz_tM t) (th, sv, ex) (S2, (fun a => nI (f a)), S3)) s.heap.size = A at hD ⊢
  have hA : ∀ q : Nat, s.heap.size ≤ q → A q := fun q h => by rw [← hAe]; exact Or.inr h
  have hS : va_S A s.heap s.heap [] := va_S.rf
  have hl := lv_entry ([.ref (am 0), .ref (am 7)]) (n := 4) (Nat.le_of_ble_eq_true rfl)
  rw [lg_entry_eq]
  generalize (lg_sl ([.ref (am 0), .ref (am 7)]) ++ List.replicate (4 - (lg_sl ([.ref (am 0), .ref (am 7)])).length) Slot.unset).toArray = ls at hl ⊢
  have hl : lv_has ls 4 [(0, .ref (am 0)), (1, .ref (am 7))] := hl
  have hn30 := ht.1
  refine lv_iconst (v := nI 0) hx hb d_M_faultsOf_0 (by decide) ?_
  refine lv_istore_n (lv' := [(2, .int (nI 0)), (0, .ref (am 0)), (1, .ref (am 7))]) hx hb d_M_faultsOf_1 rfl hl (by decide) rfl (fun ls hl => ?_)
  refine lv_iconst (v := nI 0) hx hb d_M_faultsOf_2 (by decide) ?_
  refine lv_istore_n (lv' := [(3, .int (nI 0)), (2, .int (nI 0)), (0, .ref (am 0)), (1, .ref (am 7))]) hx hb d_M_faultsOf_3 rfl hl (by decide) rfl (fun ls hl => ?_)
  have lpa : ∀ (k9 : Nat) (i : Nat), bz_n t - i < k9 → (i ≤ bz_n t) → ∀ (H : Heap) (locs : List Loc), va_P (dC, dI) vwCl (bz_wM am cI cL cZ (bz_tM t) (th, sv, ex) (S2, (fun a => nI (f a)), S3)) H → va_D A (bz_wM am cI cL cZ (bz_tM t) (th, sv, ex) (S2, (fun a => nI (f a)), S3)) → va_S A s.heap H locs → ∀ (ls : Array Slot), lv_has ls 4 [(0, .ref (am 0)), (1, .ref (am 7)), (2, .int (nI (bz_ct (bz_zc t f) i))), (3, .int (nI i))] → W p l e (headSpec w_M_faultsOf ({ frames := 2, cells := 0, slots := 0, locals := 49 })).room s m ([.ref (am 0), .ref (am 7)]).toArray below meth c H locs 0 0 (MQ below (bz_Qxi (dC, dI) [(cI, .int), (cL, .long), (cZ, .boolean)] A (fun r9 (u : Nat → Int32) => r9 = nI (bz_ft t (bz_fu f))) (fun u : Nat → Int32 => bz_wM am cI cL cZ (bz_tM t) (th, sv, ex) (S2, (fun a => nI (f a)), u))) ([.ref (am 0), .ref (am 7)]).toArray s 0 0 (A)) (F0 m 4 ls []) := by
    intro k9
    induction k9 with
    | zero =>
      intro i h9
      exact absurd h9 (Nat.not_lt_zero _)
    | succ k9 ihlpa =>
      intro i h9_lpa hi H locs hP hD hS ls hl
      refine lv_iload_n hx hb d_M_faultsOf_4 rfl (lv_at hl 3 rfl) ?_
      refine lv_aload_n hx hb d_M_faultsOf_5 rfl (lv_at hl 0 rfl) ?_
      refine va_get (D := (dC, dI)) (ci := 4) (v := .int (nI (bz_n t))) (C := R_M) (T := F_M) (N := 12) hx hb htb in_M hown hK hP 0 rfl rfl 1 (by decide) (htb _ wd_412) (fun _ h9 => h9) rfl d_M_faultsOf_6 ?_
      refine lv_icmp_ge (tgt := 39) hx hb d_M_faultsOf_9 (by decide) (fun c_9 => ?_) (fun c_9 => ?_)
      · skip
        have hin : i = bz_n t := by have := (nI_leI (by omega) (by omega)).mp c_9; omega
        have hl : lv_has ls 4 [(0, .ref (am 0)), (1, .ref (am 7)), (2, .int (nI (bz_ct (bz_zc t f) (bz_n t) + bz_sm (bz_gr t f) 0))), (3, .int (nI i))] := by rw [show nI (bz_ct (bz_zc t f) (bz_n t) + bz_sm (bz_gr t f) 0) = nI (bz_ct (bz_zc t f) i) from by rw [hin]; rfl]; exact hl
        refine lv_iconst (v := nI 0) hx hb d_M_faultsOf_39 (by decide) ?_
        refine lv_istore_n (lv' := [(3, .int (nI 0)), (0, .ref (am 0)), (1, .ref (am 7)), (2, .int (nI (bz_ct (bz_zc t f) (bz_n t) + bz_sm (bz_gr t f) 0)))]) hx hb d_M_faultsOf_40 rfl hl (by decide) rfl (fun ls hl => ?_)
        have lpb : ∀ (k9 : Nat) (i : Nat) (u : Nat → Int32), 4 - i < k9 → (i ≤ 4) → ∀ (H : Heap) (locs : List Loc), va_P (dC, dI) vwCl (bz_wM am cI cL cZ (bz_tM t) (th, sv, ex) (S2, (fun a => nI (f a)), u)) H → va_D A (bz_wM am cI cL cZ (bz_tM t) (th, sv, ex) (S2, (fun a => nI (f a)), u)) → va_S A s.heap H locs → ∀ (ls : Array Slot), lv_has ls 4 [(0, .ref (am 0)), (1, .ref (am 7)), (2, .int (nI (bz_ct (bz_zc t f) (bz_n t) + bz_sm (bz_gr t f) i))), (3, .int (nI i))] → W p l e (headSpec w_M_faultsOf ({ frames := 2, cells := 0, slots := 0, locals := 49 })).room s m ([.ref (am 0), .ref (am 7)]).toArray below meth c H locs 0 0 (MQ below (bz_Qxi (dC, dI) [(cI, .int), (cL, .long), (cZ, .boolean)] A (fun r9 (u : Nat → Int32) => r9 = nI (bz_ft t (bz_fu f))) (fun u : Nat → Int32 => bz_wM am cI cL cZ (bz_tM t) (th, sv, ex) (S2, (fun a => nI (f a)), u))) ([.ref (am 0), .ref (am 7)]).toArray s 0 0 (A)) (F0 m 41 ls []) := by
          intro k9
          induction k9 with
          | zero =>
            intro i u h9
            exact absurd h9 (Nat.not_lt_zero _)
          | succ k9 ihlpb =>
            intro i u h9_lpb hi H locs hP hD hS ls hl
            refine lv_iload_n hx hb d_M_faultsOf_41 rfl (lv_at hl 3 rfl) ?_
            refine lv_iconst (v := 4) hx hb d_M_faultsOf_42 (by decide) ?_
            refine lv_icmp_ge (tgt := 104) hx hb d_M_faultsOf_43 (by decide) (fun c_43 => ?_) (fun c_43 => ?_)
            · skip
              have hi4 : i = 4 := by have := (nI_leI (a := 4) (by omega) (by omega)).mp c_43; omega
              refine lv_iload_n hx hb d_M_faultsOf_104 rfl (lv_at hl 2 rfl) ?_
              exact W.iret (v := nI (bz_ct (bz_zc t f) (bz_n t) + bz_sm (bz_gr t f) i)) hx hb hr (fun t9 ht9 hW => ⟨⟨_, u, rfl, by rw [hi4, bz_ft_eq hf], by rw [ht9]; exact hP, va_K.moved hW.alike hK, hD⟩, hS.F ht9⟩) hS.2.2 d_M_faultsOf_105
            · skip
              have hi4 : i < 4 := Nat.lt_of_not_le fun z => c_43 ((nI_leI (a := 4) (b := i) (by omega) (by omega)).mpr z)
              have hhi := ht.2.2.2.2.2.2 i
              have hld := bz_ld_le ht (bz_fu f) i
              refine lv_aload_n hx hb d_M_faultsOf_46 rfl (lv_at hl 0 rfl) ?_
              refine va_get (D := (dC, dI)) (ci := 4) (v := .ref (am 5)) (C := R_M) (T := F_M) (N := 12) hx hb htb in_M hown hK hP 0 rfl rfl 6 (by decide) (htb _ wd_417) (fun _ h9 => h9) rfl d_M_faultsOf_47 ?_
              refine lv_iload_n hx hb d_M_faultsOf_50 rfl (lv_at hl 3 rfl) ?_
              refine bz_lald (v := lN (bz_h t i)) hx hb hK hP 5 1 rfl rfl (a9 := i) (by omega) (by decide) (rfl) d_M_faultsOf_51 ?_
              refine lv_lconst (v := 0) hx hb d_M_faultsOf_52 (by decide) ?_
              refine W.lcmp hx hb d_M_faultsOf_53 ?_
              refine lv_if_le (tgt := 79) hx hb d_M_faultsOf_54 (by decide) (fun c_54 => ?_) (fun c_54 => ?_)
              · skip
                have hg1 := bz_g1_0 (f := f) (Or.inl ((bz_lc_le (b := 0) (by omega) (by omega)).mp c_54))
                refine lv_iload_n hx hb d_M_faultsOf_79 rfl (lv_at hl 2 rfl) ?_
                refine bz_ri (y := nI (bz_ct (bz_zc t f) (bz_n t) + bz_sm (bz_gr t f) i + bz_g1 t f i)) (by rw [hg1]; rfl) ?_
                refine lv_istore_n (lv' := [(2, .int (nI (bz_ct (bz_zc t f) (bz_n t) + bz_sm (bz_gr t f) i + bz_g1 t f i))), (0, .ref (am 0)), (1, .ref (am 7)), (3, .int (nI i))]) hx hb d_M_faultsOf_80 rfl hl (by decide) rfl (fun ls hl => ?_)
                refine lv_aload_n hx hb d_M_faultsOf_81 rfl (lv_at hl 1 rfl) ?_
                refine lv_aload_n hx hb d_M_faultsOf_82 rfl (lv_at hl 2 rfl) ?_
                refine lv_iload_n hx hb d_M_faultsOf_83 rfl (lv_at hl 3 rfl) ?_
                refine bz_cxi (va_runV (As := [.ref (am 7), .int (nI i)]) (rest := []) ⟨hx, hb, hml, hown, htb⟩ (c_M_hangs_tried l dC dI _ am cI cL cZ t th sv ex f S2 u ht _ (by omega) hf) (cwV 2 htb (bz_gV wd_515 wd_512 wd_514 wd_12 wd_23) rfl rfl rfl (by decide +kernel) ⟨Nat.le_of_ble_eq_true rfl, Nat.le_of_ble_eq_true rfl⟩) (bz_wv hN hK hP hD (q0 := 0) rfl rfl) rfl rfl hl.1 rfl (lv_room (Nat.le_of_ble_eq_true rfl)) d_M_faultsOf_84 ⟨Nat.zero_le _, Nat.zero_le _⟩) hD hS hA (fun r9 u hu H locs hP hD hS => ?_)
                obtain rfl : r9 = nI (bz_b (bz_ht t (bz_fu f) i)) := hu
                have hP : va_P (dC, dI) vwCl (bz_wM am cI cL cZ (bz_tM t) (th, sv, ex) (S2, (fun a => nI (f a)), u)) H := hP
                have hD : va_D A (bz_wM am cI cL cZ (bz_tM t) (th, sv, ex) (S2, (fun a => nI (f a)), u)) := hD
                refine lv_if_eq (tgt := 94) hx hb d_M_faultsOf_87 (by decide) (fun c_87 => ?_) (fun c_87 => ?_)
                · skip
                  have hh5 := bz_bI0 c_87
                  refine lv_iload_n hx hb d_M_faultsOf_94 rfl (lv_at hl 0 rfl) ?_
                  refine lv_iconst (v := 1) hx hb d_M_faultsOf_95 (by decide) ?_
                  refine lv_iadd hx hb d_M_faultsOf_96 ?_
                  refine bz_ri (y := nI (bz_ct (bz_zc t f) (bz_n t) + bz_sm (bz_gr t f) (i + 1))) (by show _ = nI (_ + (bz_sm (bz_gr t f) i + (bz_g1 t f i + bz_b (¬ bz_ht t (bz_fu f) i)))); rw [bz_b1 hh5, show (1 : Int32) = nI 1 from rfl, nI_add]; congr 1; omega) ?_
                  refine lv_istore_n (lv' := [(2, .int (nI (bz_ct (bz_zc t f) (bz_n t) + bz_sm (bz_gr t f) (i + 1)))), (0, .ref (am 0)), (1, .ref (am 7)), (3, .int (nI i))]) hx hb d_M_faultsOf_97 rfl hl (by decide) rfl (fun ls hl => ?_)
                  refine lv_iinc (v := nI (i + 1)) (lv' := [(3, .int (nI (i + 1))), (2, .int (nI (bz_ct (bz_zc t f) (bz_n t) + bz_sm (bz_gr t f) (i + 1)))), (0, .ref (am 0)), (1, .ref (am 7))]) hx hb d_M_faultsOf_98 hl (k := 3) rfl (nI_1 _) (by decide) rfl (fun ls hl => ?_)
                  refine lv_goto (tgt := 41) hx hb d_M_faultsOf_101 (by decide) ?_
                  exact ihlpb (i + 1) u (by omega) (by omega) _ _ hP hD hS ls (lv_sub hl [2, 3, 1, 0] rfl)
                · skip
                  have hh5 := bz_bI1 c_87
                  refine lv_iload_n hx hb d_M_faultsOf_90 rfl (lv_at hl 0 rfl) ?_
                  refine bz_ri (y := nI (bz_ct (bz_zc t f) (bz_n t) + bz_sm (bz_gr t f) (i + 1))) (by show _ = nI (_ + (bz_sm (bz_gr t f) i + (bz_g1 t f i + bz_b (¬ bz_ht t (bz_fu f) i)))); rw [bz_b0 (fun z => z hh5)]; congr 1; omega) ?_
                  refine lv_goto (tgt := 97) hx hb d_M_faultsOf_91 (by decide) ?_
                  refine lv_istore_n (lv' := [(2, .int (nI (bz_ct (bz_zc t f) (bz_n t) + bz_sm (bz_gr t f) (i + 1)))), (0, .ref (am 0)), (1, .ref (am 7)), (3, .int (nI i))]) hx hb d_M_faultsOf_97 rfl hl (by decide) rfl (fun ls hl => ?_)
                  refine lv_iinc (v := nI (i + 1)) (lv' := [(3, .int (nI (i + 1))), (2, .int (nI (bz_ct (bz_zc t f) (bz_n t) + bz_sm (bz_gr t f) (i + 1)))), (0, .ref (am 0)), (1, .ref (am 7))]) hx hb d_M_faultsOf_98 hl (k := 3) rfl (nI_1 _) (by decide) rfl (fun ls hl => ?_)
                  refine lv_goto (tgt := 41) hx hb d_M_faultsOf_101 (by decide) ?_
                  exact ihlpb (i + 1) u (by omega) (by omega) _ _ hP hD hS ls (lv_sub hl [2, 3, 1, 0] rfl)
              · skip
                have hh0 : 0 < bz_h t i := Nat.lt_of_not_le fun z => c_54 ((bz_lc_le (b := 0) (by omega) (by omega)).mpr z)
                refine lv_aload_n hx hb d_M_faultsOf_57 rfl (lv_at hl 0 rfl) ?_
                refine lv_aload_n hx hb d_M_faultsOf_58 rfl (lv_at hl 1 rfl) ?_
                refine lv_iload_n hx hb d_M_faultsOf_59 rfl (lv_at hl 3 rfl) ?_
                refine bz_sl (va_runV (As := [.ref (am 7), .int (nI i)]) (rest := []) ⟨hx, hb, hml, hown, htb⟩ (c_M_roundLoad_tried l dC dI am cI cL cZ t th sv ex f S2 u ht _ (by omega) hf) (cwV 2 htb (bz_gV wd_505 wd_502 wd_504 wd_10 wd_23) rfl rfl rfl (by decide +kernel) ⟨Nat.le_of_ble_eq_true rfl, Nat.le_of_ble_eq_true rfl⟩) (bz_rv hN hK hP (q0 := 0) rfl rfl) rfl rfl hl.1 rfl (lv_room (Nat.le_of_ble_eq_true rfl)) d_M_faultsOf_60 ⟨Nat.zero_le _, Nat.zero_le _⟩) ?_
                refine lv_aload_n hx hb d_M_faultsOf_63 rfl (lv_at hl 0 rfl) ?_
                refine va_get (D := (dC, dI)) (ci := 4) (v := .ref (am 5)) (C := R_M) (T := F_M) (N := 12) hx hb htb in_M hown hK hP 0 rfl rfl 6 (by decide) (htb _ wd_417) (fun _ h9 => h9) rfl d_M_faultsOf_64 ?_
                refine lv_iload_n hx hb d_M_faultsOf_67 rfl (lv_at hl 3 rfl) ?_
                refine bz_lald (v := lN (bz_h t i)) hx hb hK hP 5 1 rfl rfl (a9 := i) (by omega) (by decide) (rfl) d_M_faultsOf_68 ?_
                refine W.lcmp hx hb d_M_faultsOf_69 ?_
                refine lv_if_le (tgt := 79) hx hb d_M_faultsOf_70 (by decide) (fun c_70 => ?_) (fun c_70 => ?_)
                · skip
                  have hg1 := bz_g1_0 (f := f) (Or.inr ((bz_lc_le (by omega) (by omega)).mp c_70))
                  refine lv_iload_n hx hb d_M_faultsOf_79 rfl (lv_at hl 2 rfl) ?_
                  refine bz_ri (y := nI (bz_ct (bz_zc t f) (bz_n t) + bz_sm (bz_gr t f) i + bz_g1 t f i)) (by rw [hg1]; rfl) ?_
                  refine lv_istore_n (lv' := [(2, .int (nI (bz_ct (bz_zc t f) (bz_n t) + bz_sm (bz_gr t f) i + bz_g1 t f i))), (0, .ref (am 0)), (1, .ref (am 7)), (3, .int (nI i))]) hx hb d_M_faultsOf_80 rfl hl (by decide) rfl (fun ls hl => ?_)
                  refine lv_aload_n hx hb d_M_faultsOf_81 rfl (lv_at hl 1 rfl) ?_
                  refine lv_aload_n hx hb d_M_faultsOf_82 rfl (lv_at hl 2 rfl) ?_
                  refine lv_iload_n hx hb d_M_faultsOf_83 rfl (lv_at hl 3 rfl) ?_
                  refine bz_cxi (va_runV (As := [.ref (am 7), .int (nI i)]) (rest := []) ⟨hx, hb, hml, hown, htb⟩ (c_M_hangs_tried l dC dI _ am cI cL cZ t th sv ex f S2 u ht _ (by omega) hf) (cwV 2 htb (bz_gV wd_515 wd_512 wd_514 wd_12 wd_23) rfl rfl rfl (by decide +kernel) ⟨Nat.le_of_ble_eq_true rfl, Nat.le_of_ble_eq_true rfl⟩) (bz_wv hN hK hP hD (q0 := 0) rfl rfl) rfl rfl hl.1 rfl (lv_room (Nat.le_of_ble_eq_true rfl)) d_M_faultsOf_84 ⟨Nat.zero_le _, Nat.zero_le _⟩) hD hS hA (fun r9 u hu H locs hP hD hS => ?_)
                  obtain rfl : r9 = nI (bz_b (bz_ht t (bz_fu f) i)) := hu
                  have hP : va_P (dC, dI) vwCl (bz_wM am cI cL cZ (bz_tM t) (th, sv, ex) (S2, (fun a => nI (f a)), u)) H := hP
                  have hD : va_D A (bz_wM am cI cL cZ (bz_tM t) (th, sv, ex) (S2, (fun a => nI (f a)), u)) := hD
                  refine lv_if_eq (tgt := 94) hx hb d_M_faultsOf_87 (by decide) (fun c_87 => ?_) (fun c_87 => ?_)
                  · skip
                    have hh5 := bz_bI0 c_87
                    refine lv_iload_n hx hb d_M_faultsOf_94 rfl (lv_at hl 0 rfl) ?_
                    refine lv_iconst (v := 1) hx hb d_M_faultsOf_95 (by decide) ?_
                    refine lv_iadd hx hb d_M_faultsOf_96 ?_
                    refine bz_ri (y := nI (bz_ct (bz_zc t f) (bz_n t) + bz_sm (bz_gr t f) (i + 1))) (by show _ = nI (_ + (bz_sm (bz_gr t f) i + (bz_g1 t f i + bz_b (¬ bz_ht t (bz_fu f) i)))); rw [bz_b1 hh5, show (1 : Int32) = nI 1 from rfl, nI_add]; congr 1; omega) ?_
                    refine lv_istore_n (lv' := [(2, .int (nI (bz_ct (bz_zc t f) (bz_n t) + bz_sm (bz_gr t f) (i + 1)))), (0, .ref (am 0)), (1, .ref (am 7)), (3, .int (nI i))]) hx hb d_M_faultsOf_97 rfl hl (by decide) rfl (fun ls hl => ?_)
                    refine lv_iinc (v := nI (i + 1)) (lv' := [(3, .int (nI (i + 1))), (2, .int (nI (bz_ct (bz_zc t f) (bz_n t) + bz_sm (bz_gr t f) (i + 1)))), (0, .ref (am 0)), (1, .ref (am 7))]) hx hb d_M_faultsOf_98 hl (k := 3) rfl (nI_1 _) (by decide) rfl (fun ls hl => ?_)
                    refine lv_goto (tgt := 41) hx hb d_M_faultsOf_101 (by decide) ?_
                    exact ihlpb (i + 1) u (by omega) (by omega) _ _ hP hD hS ls (lv_sub hl [2, 3, 1, 0] rfl)
                  · skip
                    have hh5 := bz_bI1 c_87
                    refine lv_iload_n hx hb d_M_faultsOf_90 rfl (lv_at hl 0 rfl) ?_
                    refine bz_ri (y := nI (bz_ct (bz_zc t f) (bz_n t) + bz_sm (bz_gr t f) (i + 1))) (by show _ = nI (_ + (bz_sm (bz_gr t f) i + (bz_g1 t f i + bz_b (¬ bz_ht t (bz_fu f) i)))); rw [bz_b0 (fun z => z hh5)]; congr 1; omega) ?_
                    refine lv_goto (tgt := 97) hx hb d_M_faultsOf_91 (by decide) ?_
                    refine lv_istore_n (lv' := [(2, .int (nI (bz_ct (bz_zc t f) (bz_n t) + bz_sm (bz_gr t f) (i + 1)))), (0, .ref (am 0)), (1, .ref (am 7)), (3, .int (nI i))]) hx hb d_M_faultsOf_97 rfl hl (by decide) rfl (fun ls hl => ?_)
                    refine lv_iinc (v := nI (i + 1)) (lv' := [(3, .int (nI (i + 1))), (2, .int (nI (bz_ct (bz_zc t f) (bz_n t) + bz_sm (bz_gr t f) (i + 1)))), (0, .ref (am 0)), (1, .ref (am 7))]) hx hb d_M_faultsOf_98 hl (k := 3) rfl (nI_1 _) (by decide) rfl (fun ls hl => ?_)
                    refine lv_goto (tgt := 41) hx hb d_M_faultsOf_101 (by decide) ?_
                    exact ihlpb (i + 1) u (by omega) (by omega) _ _ hP hD hS ls (lv_sub hl [2, 3, 1, 0] rfl)
                · skip
                  have hg1 := bz_g1_1 (f := f) hh0 (Nat.lt_of_not_le fun z => c_70 ((bz_lc_le (by omega) (by omega)).mpr z))
                  refine lv_iload_n hx hb d_M_faultsOf_73 rfl (lv_at hl 2 rfl) ?_
                  refine lv_iconst (v := 1) hx hb d_M_faultsOf_74 (by decide) ?_
                  refine lv_iadd hx hb d_M_faultsOf_75 ?_
                  refine bz_ri (y := nI (bz_ct (bz_zc t f) (bz_n t) + bz_sm (bz_gr t f) i + bz_g1 t f i)) (by rw [hg1]; exact nI_1 _) ?_
                  refine lv_goto (tgt := 80) hx hb d_M_faultsOf_76 (by decide) ?_
                  refine lv_istore_n (lv' := [(2, .int (nI (bz_ct (bz_zc t f) (bz_n t) + bz_sm (bz_gr t f) i + bz_g1 t f i))), (0, .ref (am 0)), (1, .ref (am 7)), (3, .int (nI i))]) hx hb d_M_faultsOf_80 rfl hl (by decide) rfl (fun ls hl => ?_)
                  refine lv_aload_n hx hb d_M_faultsOf_81 rfl (lv_at hl 1 rfl) ?_
                  refine lv_aload_n hx hb d_M_faultsOf_82 rfl (lv_at hl 2 rfl) ?_
                  refine lv_iload_n hx hb d_M_faultsOf_83 rfl (lv_at hl 3 rfl) ?_
                  refine bz_cxi (va_runV (As := [.ref (am 7), .int (nI i)]) (rest := []) ⟨hx, hb, hml, hown, htb⟩ (c_M_hangs_tried l dC dI _ am cI cL cZ t th sv ex f S2 u ht _ (by omega) hf) (cwV 2 htb (bz_gV wd_515 wd_512 wd_514 wd_12 wd_23) rfl rfl rfl (by decide +kernel) ⟨Nat.le_of_ble_eq_true rfl, Nat.le_of_ble_eq_true rfl⟩) (bz_wv hN hK hP hD (q0 := 0) rfl rfl) rfl rfl hl.1 rfl (lv_room (Nat.le_of_ble_eq_true rfl)) d_M_faultsOf_84 ⟨Nat.zero_le _, Nat.zero_le _⟩) hD hS hA (fun r9 u hu H locs hP hD hS => ?_)
                  obtain rfl : r9 = nI (bz_b (bz_ht t (bz_fu f) i)) := hu
                  have hP : va_P (dC, dI) vwCl (bz_wM am cI cL cZ (bz_tM t) (th, sv, ex) (S2, (fun a => nI (f a)), u)) H := hP
                  have hD : va_D A (bz_wM am cI cL cZ (bz_tM t) (th, sv, ex) (S2, (fun a => nI (f a)), u)) := hD
                  refine lv_if_eq (tgt := 94) hx hb d_M_faultsOf_87 (by decide) (fun c_87 => ?_) (fun c_87 => ?_)
                  · skip
                    have hh5 := bz_bI0 c_87
                    refine lv_iload_n hx hb d_M_faultsOf_94 rfl (lv_at hl 0 rfl) ?_
                    refine lv_iconst (v := 1) hx hb d_M_faultsOf_95 (by decide) ?_
                    refine lv_iadd hx hb d_M_faultsOf_96 ?_
                    refine bz_ri (y := nI (bz_ct (bz_zc t f) (bz_n t) + bz_sm (bz_gr t f) (i + 1))) (by show _ = nI (_ + (bz_sm (bz_gr t f) i + (bz_g1 t f i + bz_b (¬ bz_ht t (bz_fu f) i)))); rw [bz_b1 hh5, show (1 : Int32) = nI 1 from rfl, nI_add]; congr 1; omega) ?_
                    refine lv_istore_n (lv' := [(2, .int (nI (bz_ct (bz_zc t f) (bz_n t) + bz_sm (bz_gr t f) (i + 1)))), (0, .ref (am 0)), (1, .ref (am 7)), (3, .int (nI i))]) hx hb d_M_faultsOf_97 rfl hl (by decide) rfl (fun ls hl => ?_)
                    refine lv_iinc (v := nI (i + 1)) (lv' := [(3, .int (nI (i + 1))), (2, .int (nI (bz_ct (bz_zc t f) (bz_n t) + bz_sm (bz_gr t f) (i + 1)))), (0, .ref (am 0)), (1, .ref (am 7))]) hx hb d_M_faultsOf_98 hl (k := 3) rfl (nI_1 _) (by decide) rfl (fun ls hl => ?_)
                    refine lv_goto (tgt := 41) hx hb d_M_faultsOf_101 (by decide) ?_
                    exact ihlpb (i + 1) u (by omega) (by omega) _ _ hP hD hS ls (lv_sub hl [2, 3, 1, 0] rfl)
                  · skip
                    have hh5 := bz_bI1 c_87
                    refine lv_iload_n hx hb d_M_faultsOf_90 rfl (lv_at hl 0 rfl) ?_
                    refine bz_ri (y := nI (bz_ct (bz_zc t f) (bz_n t) + bz_sm (bz_gr t f) (i + 1))) (by show _ = nI (_ + (bz_sm (bz_gr t f) i + (bz_g1 t f i + bz_b (¬ bz_ht t (bz_fu f) i)))); rw [bz_b0 (fun z => z hh5)]; congr 1; omega) ?_
                    refine lv_goto (tgt := 97) hx hb d_M_faultsOf_91 (by decide) ?_
                    refine lv_istore_n (lv' := [(2, .int (nI (bz_ct (bz_zc t f) (bz_n t) + bz_sm (bz_gr t f) (i + 1)))), (0, .ref (am 0)), (1, .ref (am 7)), (3, .int (nI i))]) hx hb d_M_faultsOf_97 rfl hl (by decide) rfl (fun ls hl => ?_)
                    refine lv_iinc (v := nI (i + 1)) (lv' := [(3, .int (nI (i + 1))), (2, .int (nI (bz_ct (bz_zc t f) (bz_n t) + bz_sm (bz_gr t f) (i + 1)))), (0, .ref (am 0)), (1, .ref (am 7))]) hx hb d_M_faultsOf_98 hl (k := 3) rfl (nI_1 _) (by decide) rfl (fun ls hl => ?_)
                    refine lv_goto (tgt := 41) hx hb d_M_faultsOf_101 (by decide) ?_
                    exact ihlpb (i + 1) u (by omega) (by omega) _ _ hP hD hS ls (lv_sub hl [2, 3, 1, 0] rfl)
        exact lpb _ 0 S3 (Nat.lt_succ_self _) (by omega) _ _ hP hD hS ls (lv_sub hl [1, 2, 3, 0] rfl)
      · skip
        have hin : i < bz_n t := Nat.lt_of_not_le fun z => c_9 ((nI_leI (by omega) (by omega)).mpr z)
        have hfi := hf i hin
        have hhf := ht.2.2.2.2.2.2 (f i)
        refine lv_aload_n hx hb d_M_faultsOf_12 rfl (lv_at hl 0 rfl) ?_
        refine va_get (D := (dC, dI)) (ci := 4) (v := .ref (am 5)) (C := R_M) (T := F_M) (N := 12) hx hb htb in_M hown hK hP 0 rfl rfl 6 (by decide) (htb _ wd_417) (fun _ h9 => h9) rfl d_M_faultsOf_13 ?_
        refine lv_aload_n hx hb d_M_faultsOf_16 rfl (lv_at hl 1 rfl) ?_
        refine lv_iload_n hx hb d_M_faultsOf_17 rfl (lv_at hl 3 rfl) ?_
        refine bz_iald (v := nI (f i)) hx hb hK hP 7 0 rfl rfl (a9 := i) (by omega) (by decide) (rfl) d_M_faultsOf_18 ?_
        refine bz_lald (v := lN (bz_h t (f i))) hx hb hK hP 5 1 rfl rfl (a9 := (f i)) (hf i hin) (by decide) (rfl) d_M_faultsOf_19 ?_
        refine lv_lconst (v := 0) hx hb d_M_faultsOf_20 (by decide) ?_
        refine W.lcmp hx hb d_M_faultsOf_21 ?_
        refine lv_if_ne (tgt := 31) hx hb d_M_faultsOf_22 (by decide) (fun c_22 => ?_) (fun c_22 => ?_)
        · skip
          have hq : bz_zc t f i = false := decide_eq_false fun z => c_22 ((bz_lc_eq (b := 0) (by omega) (by omega)).mpr z)
          refine lv_iload_n hx hb d_M_faultsOf_31 rfl (lv_at hl 2 rfl) ?_
          refine bz_ri (y := nI (bz_ct (bz_zc t f) (i + 1))) (by rw [bz_ct_0 hq]) ?_
          refine lv_istore_n (lv' := [(2, .int (nI (bz_ct (bz_zc t f) (i + 1)))), (0, .ref (am 0)), (1, .ref (am 7)), (3, .int (nI i))]) hx hb d_M_faultsOf_32 rfl hl (by decide) rfl (fun ls hl => ?_)
          refine lv_iinc (v := nI (i + 1)) (lv' := [(3, .int (nI (i + 1))), (2, .int (nI (bz_ct (bz_zc t f) (i + 1)))), (0, .ref (am 0)), (1, .ref (am 7))]) hx hb d_M_faultsOf_33 hl (k := 3) rfl (nI_1 _) (by decide) rfl (fun ls hl => ?_)
          refine lv_goto (tgt := 4) hx hb d_M_faultsOf_36 (by decide) ?_
          exact ihlpa (i + 1) (by omega) (by omega) _ _ hP hD hS ls (lv_sub hl [2, 3, 1, 0] rfl)
        · skip
          have hq : bz_zc t f i = true := decide_eq_true ((bz_lc_eq (b := 0) (by omega) (by omega)).mp c_22)
          refine lv_iload_n hx hb d_M_faultsOf_25 rfl (lv_at hl 2 rfl) ?_
          refine lv_iconst (v := 1) hx hb d_M_faultsOf_26 (by decide) ?_
          refine lv_iadd hx hb d_M_faultsOf_27 ?_
          refine bz_ri (y := nI (bz_ct (bz_zc t f) (i + 1))) (by rw [bz_ct_1 hq]; exact nI_1 _) ?_
          refine lv_goto (tgt := 32) hx hb d_M_faultsOf_28 (by decide) ?_
          refine lv_istore_n (lv' := [(2, .int (nI (bz_ct (bz_zc t f) (i + 1)))), (0, .ref (am 0)), (1, .ref (am 7)), (3, .int (nI i))]) hx hb d_M_faultsOf_32 rfl hl (by decide) rfl (fun ls hl => ?_)
          refine lv_iinc (v := nI (i + 1)) (lv' := [(3, .int (nI (i + 1))), (2, .int (nI (bz_ct (bz_zc t f) (i + 1)))), (0, .ref (am 0)), (1, .ref (am 7))]) hx hb d_M_faultsOf_33 hl (k := 3) rfl (nI_1 _) (by decide) rfl (fun ls hl => ?_)
          refine lv_goto (tgt := 4) hx hb d_M_faultsOf_36 (by decide) ?_
          exact ihlpa (i + 1) (by omega) (by omega) _ _ hP hD hS ls (lv_sub hl [2, 3, 1, 0] rfl)
  exact lpa _ 0 (Nat.lt_succ_self _) (by omega) _ _ hP hD hS ls (lv_sub hl [2, 3, 1, 0] rfl)

set_option maxHeartbeats 4000000 in
set_option maxRecDepth 100000 in
/-- cost of share -/
theorem c_M_cost_share (l : Launch) (dC : Nat → ClassId) (dI : Nat → Nat → Nat) (sz : Nat) (am : Nat → Nat) (cI cL cZ : ClassId) (t : bz_T) (th sv ex : Int32) (f : Nat → Nat) (S2 S3 : Nat → Int32) (ht : bz_ok t) (hf : ∀ a, a < bz_n t → f a < 4) : Met l y_M_cost w_M_cost ({ frames := 3, cells := 0, slots := 0, locals := 75 }) (bz_Pw (dC, dI) [(cI, .int), (cL, .long), (cZ, .boolean)] (bz_wM am cI cL cZ (bz_tM t) (th, sv, ex) ((fun a => nI (f a)), S2, S3)) sz [.ref (am 0), .ref (am 6)]) (bz_Qxl (dC, dI) [(cI, .int), (cL, .long), (cZ, .boolean)] (va_A (bz_wM am cI cL cZ (bz_tM t) (th, sv, ex) ((fun a => nI (f a)), S2, S3)) sz) (fun r9 (u : Nat → Int32) => r9 = lN (bz_co t (bz_fu f))) (fun u : Nat → Int32 => bz_wM am cI cL cZ (bz_tM t) (th, sv, ex) ((fun a => nI (f a)), S2, u))) 0 0 (va_A (bz_wM am cI cL cZ (bz_tM t) (th, sv, ex) ((fun a => nI (f a)), S2, S3)) sz) := by
  refine Met.ofW (cc := b_M_cost) (maxL := 2) (ret := (some .long)) (by decide) rfl ?_
  intro p e s m args below meth c s₁ B hml hv
  obtain ⟨rfl, hsz, hP, hK, hD0, hN⟩ := hv
  have hx := B.exec
  have hb := B.bytes
  have hr := B.returns
  have hts := atoms_spec (ws := w_M_cost) B.pre
  have hown : s.vm.findClass R_M = some m.cls := findClass_of_methodNamed B.named
  have htb : ∀ w ∈ bz_tb, w.before _ s = true := fun w h => hts w (List.mem_cons_of_mem _ h)
  have hlocks := B.notSynchronized
  subst hsz
  have hD := hD0.self (sz := s.heap.size)
  generalize hAe : va_A (bz_wM am cI cL cZ (bz_tM t) (th, sv, ex) ((fun a => nI (f a)), S2, S3)) s.heap.size = A at hD ⊢
  have hA : ∀ q : Nat, s.heap.size ≤ q → A q := fun q h => by rw [← hAe]; exact Or.inr h
  have hS : va_S A s.heap s.heap [] := va_S.rf
  have hl := lv_entry ([.ref (am 0), .ref (am 6)]) (n := 2) (Nat.le_of_ble_eq_true rfl)
  rw [lg_entry_eq]
  generalize (lg_sl ([.ref (am 0), .ref (am 6)]) ++ List.replicate (2 - (lg_sl ([.ref (am 0), .ref (am 6)])).length) Slot.unset).toArray = ls at hl ⊢
  have hl : lv_has ls 2 [(0, .ref (am 0)), (1, .ref (am 6))] := hl
  refine lv_aload_n hx hb d_M_cost_0 rfl (lv_at hl 0 rfl) ?_
  refine lv_aload_n hx hb d_M_cost_1 rfl (lv_at hl 1 rfl) ?_
  refine bz_cxi (va_runV (As := [.ref (am 6)]) (rest := []) ⟨hx, hb, hml, hown, htb⟩ (c_M_faultsOf_share l dC dI _ am cI cL cZ t th sv ex f S2 S3 ht hf) (cwV 1 htb (bz_gV wd_501 wd_498 wd_500 wd_9 wd_23) rfl rfl rfl (by decide +kernel) ⟨Nat.le_of_ble_eq_true rfl, Nat.le_of_ble_eq_true rfl⟩) (bz_wv hN hK hP hD (q0 := 0) rfl rfl) rfl rfl hl.1 rfl (lv_room (Nat.le_of_ble_eq_true rfl)) d_M_cost_2 ⟨Nat.zero_le _, Nat.zero_le _⟩) hD hS hA (fun r9 u hu H locs hP hD hS => ?_)
  obtain rfl : r9 = nI (bz_ft t (bz_fu f)) := hu
  have hP : va_P (dC, dI) vwCl (bz_wM am cI cL cZ (bz_tM t) (th, sv, ex) ((fun a => nI (f a)), S2, u)) H := hP
  have hD : va_D A (bz_wM am cI cL cZ (bz_tM t) (th, sv, ex) ((fun a => nI (f a)), S2, u)) := hD
  refine lv_i2l hx hb d_M_cost_5 rfl ?_
  refine bz_rl (y := lN (bz_ft t (bz_fu f))) (nI_l (by have := bz_ft_le ht (bz_fu f); omega)) ?_
  refine lv_ldc2 (v := 1000000000000) hx hb hown (htb _ wd_516) d_M_cost_6 ?_
  refine lv_lmul hx hb d_M_cost_9 ?_
  refine lv_ldc2 (v := 100) hx hb hown (htb _ wd_517) d_M_cost_10 ?_
  refine lv_aload_n hx hb d_M_cost_13 rfl (lv_at hl 0 rfl) ?_
  refine lv_aload_n hx hb d_M_cost_14 rfl (lv_at hl 1 rfl) ?_
  refine bz_sl (va_runV (As := [.ref (am 6)]) (rest := [.long 100, .long ((lN (bz_ft t (bz_fu f))) * 1000000000000)]) ⟨hx, hb, hml, hown, htb⟩ (c_M_greatest_share l dC dI am cI cL cZ t th sv ex f S2 u ht hf) (cwV 1 htb (bz_gV wd_521 wd_518 wd_520 wd_13 wd_23) rfl rfl rfl (by decide +kernel) ⟨Nat.le_of_ble_eq_true rfl, Nat.le_of_ble_eq_true rfl⟩) (bz_rv hN hK hP (q0 := 0) rfl rfl) rfl rfl hl.1 rfl (lv_room (Nat.le_of_ble_eq_true rfl)) d_M_cost_15 ⟨Nat.zero_le _, Nat.zero_le _⟩) ?_
  refine lv_lmul hx hb d_M_cost_18 ?_
  refine lv_ladd hx hb d_M_cost_19 ?_
  refine lv_aload_n hx hb d_M_cost_20 rfl (lv_at hl 0 rfl) ?_
  refine lv_aload_n hx hb d_M_cost_21 rfl (lv_at hl 1 rfl) ?_
  refine bz_si (va_runV (As := [.ref (am 6)]) (rest := [.long (((lN (bz_ft t (bz_fu f))) * 1000000000000) + (100 * (lN (bz_gl t (bz_fu f)))))]) ⟨hx, hb, hml, hown, htb⟩ (c_M_changedIn_share l dC dI am cI cL cZ t th sv ex f S2 u ht hf) (cwV 1 htb (bz_gV wd_525 wd_522 wd_524 wd_14 wd_23) rfl rfl rfl (by decide +kernel) ⟨Nat.le_of_ble_eq_true rfl, Nat.le_of_ble_eq_true rfl⟩) (bz_rv hN hK hP (q0 := 0) rfl rfl) rfl rfl hl.1 rfl (lv_room (Nat.le_of_ble_eq_true rfl)) d_M_cost_22 ⟨Nat.zero_le _, Nat.zero_le _⟩) ?_
  refine lv_i2l hx hb d_M_cost_25 rfl ?_
  refine bz_rl (y := lN (bz_ch t (bz_fu f))) (nI_l (by have := bz_ch_le ht (bz_fu f); omega)) ?_
  refine lv_ladd hx hb d_M_cost_26 ?_
  refine bz_rl (y := lN (bz_co t (bz_fu f))) (bz_cost_m _) ?_
  exact W.lret (v := lN (bz_co t (bz_fu f))) hx hb hr (fun t9 ht9 hW => ⟨⟨_, u, rfl, rfl, by rw [ht9]; exact hP, va_K.moved hW.alike hK, hD⟩, hS.F ht9⟩) hS.2.2 d_M_cost_27

set_option maxHeartbeats 4000000 in
set_option maxRecDepth 100000 in
/-- cost of tried -/
theorem c_M_cost_tried (l : Launch) (dC : Nat → ClassId) (dI : Nat → Nat → Nat) (sz : Nat) (am : Nat → Nat) (cI cL cZ : ClassId) (t : bz_T) (th sv ex : Int32) (f : Nat → Nat) (S2 S3 : Nat → Int32) (ht : bz_ok t) (hf : ∀ a, a < bz_n t → f a < 4) : Met l y_M_cost w_M_cost ({ frames := 3, cells := 0, slots := 0, locals := 75 }) (bz_Pw (dC, dI) [(cI, .int), (cL, .long), (cZ, .boolean)] (bz_wM am cI cL cZ (bz_tM t) (th, sv, ex) (S2, (fun a => nI (f a)), S3)) sz [.ref (am 0), .ref (am 7)]) (bz_Qxl (dC, dI) [(cI, .int), (cL, .long), (cZ, .boolean)] (va_A (bz_wM am cI cL cZ (bz_tM t) (th, sv, ex) (S2, (fun a => nI (f a)), S3)) sz) (fun r9 (u : Nat → Int32) => r9 = lN (bz_co t (bz_fu f))) (fun u : Nat → Int32 => bz_wM am cI cL cZ (bz_tM t) (th, sv, ex) (S2, (fun a => nI (f a)), u))) 0 0 (va_A (bz_wM am cI cL cZ (bz_tM t) (th, sv, ex) (S2, (fun a => nI (f a)), S3)) sz) := by
  refine Met.ofW (cc := b_M_cost) (maxL := 2) (ret := (some .long)) (by decide) rfl ?_
  intro p e s m args below meth c s₁ B hml hv
  obtain ⟨rfl, hsz, hP, hK, hD0, hN⟩ := hv
  have hx := B.exec
  have hb := B.bytes
  have hr := B.returns
  have hts := atoms_spec (ws := w_M_cost) B.pre
  have hown : s.vm.findClass R_M = some m.cls := findClass_of_methodNamed B.named
  have htb : ∀ w ∈ bz_tb, w.before _ s = true := fun w h => hts w (List.mem_cons_of_mem _ h)
  have hlocks := B.notSynchronized
  subst hsz
  have hD := hD0.self (sz := s.heap.size)
  generalize hAe : va_A (bz_wM am cI cL cZ (bz_tM t) (th, sv, ex) (S2, (fun a => nI (f a)), S3)) s.heap.size = A at hD ⊢
  have hA : ∀ q : Nat, s.heap.size ≤ q → A q := fun q h => by rw [← hAe]; exact Or.inr h
  have hS : va_S A s.heap s.heap [] := va_S.rf
  have hl := lv_entry ([.ref (am 0), .ref (am 7)]) (n := 2) (Nat.le_of_ble_eq_true rfl)
  rw [lg_entry_eq]
  generalize (lg_sl ([.ref (am 0), .ref (am 7)]) ++ List.replicate (2 - (lg_sl ([.ref (am 0), .ref (am 7)])).length) Slot.unset).toArray = ls at hl ⊢
  have hl : lv_has ls 2 [(0, .ref (am 0)), (1, .ref (am 7))] := hl
  refine lv_aload_n hx hb d_M_cost_0 rfl (lv_at hl 0 rfl) ?_
  refine lv_aload_n hx hb d_M_cost_1 rfl (lv_at hl 1 rfl) ?_
  refine bz_cxi (va_runV (As := [.ref (am 7)]) (rest := []) ⟨hx, hb, hml, hown, htb⟩ (c_M_faultsOf_tried l dC dI _ am cI cL cZ t th sv ex f S2 S3 ht hf) (cwV 1 htb (bz_gV wd_501 wd_498 wd_500 wd_9 wd_23) rfl rfl rfl (by decide +kernel) ⟨Nat.le_of_ble_eq_true rfl, Nat.le_of_ble_eq_true rfl⟩) (bz_wv hN hK hP hD (q0 := 0) rfl rfl) rfl rfl hl.1 rfl (lv_room (Nat.le_of_ble_eq_true rfl)) d_M_cost_2 ⟨Nat.zero_le _, Nat.zero_le _⟩) hD hS hA (fun r9 u hu H locs hP hD hS => ?_)
  obtain rfl : r9 = nI (bz_ft t (bz_fu f)) := hu
  have hP : va_P (dC, dI) vwCl (bz_wM am cI cL cZ (bz_tM t) (th, sv, ex) (S2, (fun a => nI (f a)), u)) H := hP
  have hD : va_D A (bz_wM am cI cL cZ (bz_tM t) (th, sv, ex) (S2, (fun a => nI (f a)), u)) := hD
  refine lv_i2l hx hb d_M_cost_5 rfl ?_
  refine bz_rl (y := lN (bz_ft t (bz_fu f))) (nI_l (by have := bz_ft_le ht (bz_fu f); omega)) ?_
  refine lv_ldc2 (v := 1000000000000) hx hb hown (htb _ wd_516) d_M_cost_6 ?_
  refine lv_lmul hx hb d_M_cost_9 ?_
  refine lv_ldc2 (v := 100) hx hb hown (htb _ wd_517) d_M_cost_10 ?_
  refine lv_aload_n hx hb d_M_cost_13 rfl (lv_at hl 0 rfl) ?_
  refine lv_aload_n hx hb d_M_cost_14 rfl (lv_at hl 1 rfl) ?_
  refine bz_sl (va_runV (As := [.ref (am 7)]) (rest := [.long 100, .long ((lN (bz_ft t (bz_fu f))) * 1000000000000)]) ⟨hx, hb, hml, hown, htb⟩ (c_M_greatest_tried l dC dI am cI cL cZ t th sv ex f S2 u ht hf) (cwV 1 htb (bz_gV wd_521 wd_518 wd_520 wd_13 wd_23) rfl rfl rfl (by decide +kernel) ⟨Nat.le_of_ble_eq_true rfl, Nat.le_of_ble_eq_true rfl⟩) (bz_rv hN hK hP (q0 := 0) rfl rfl) rfl rfl hl.1 rfl (lv_room (Nat.le_of_ble_eq_true rfl)) d_M_cost_15 ⟨Nat.zero_le _, Nat.zero_le _⟩) ?_
  refine lv_lmul hx hb d_M_cost_18 ?_
  refine lv_ladd hx hb d_M_cost_19 ?_
  refine lv_aload_n hx hb d_M_cost_20 rfl (lv_at hl 0 rfl) ?_
  refine lv_aload_n hx hb d_M_cost_21 rfl (lv_at hl 1 rfl) ?_
  refine bz_si (va_runV (As := [.ref (am 7)]) (rest := [.long (((lN (bz_ft t (bz_fu f))) * 1000000000000) + (100 * (lN (bz_gl t (bz_fu f)))))]) ⟨hx, hb, hml, hown, htb⟩ (c_M_changedIn_tried l dC dI am cI cL cZ t th sv ex f S2 u ht hf) (cwV 1 htb (bz_gV wd_525 wd_522 wd_524 wd_14 wd_23) rfl rfl rfl (by decide +kernel) ⟨Nat.le_of_ble_eq_true rfl, Nat.le_of_ble_eq_true rfl⟩) (bz_rv hN hK hP (q0 := 0) rfl rfl) rfl rfl hl.1 rfl (lv_room (Nat.le_of_ble_eq_true rfl)) d_M_cost_22 ⟨Nat.zero_le _, Nat.zero_le _⟩) ?_
  refine lv_i2l hx hb d_M_cost_25 rfl ?_
  refine bz_rl (y := lN (bz_ch t (bz_fu f))) (nI_l (by have := bz_ch_le ht (bz_fu f); omega)) ?_
  refine lv_ladd hx hb d_M_cost_26 ?_
  refine bz_rl (y := lN (bz_co t (bz_fu f))) (bz_cost_m _) ?_
  exact W.lret (v := lN (bz_co t (bz_fu f))) hx hb hr (fun t9 ht9 hW => ⟨⟨_, u, rfl, rfl, by rw [ht9]; exact hP, va_K.moved hW.alike hK, hD⟩, hS.F ht9⟩) hS.2.2 d_M_cost_27
