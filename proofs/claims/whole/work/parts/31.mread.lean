theorem d_M_isIn_0 : decode b_M_isIn 0 = .ok (.lload_n 0, 1) := by decide +kernel
theorem d_M_isIn_1 : decode b_M_isIn 1 = .ok (.lload_n 2, 1) := by decide +kernel
theorem d_M_isIn_2 : decode b_M_isIn 2 = .ok (.lcmp, 1) := by decide +kernel
theorem d_M_isIn_3 : decode b_M_isIn 3 = .ok (.ifCond .lt 14, 3) := by decide +kernel
theorem d_M_isIn_6 : decode b_M_isIn 6 = .ok (.lload_n 0, 1) := by decide +kernel
theorem d_M_isIn_7 : decode b_M_isIn 7 = .ok (.lload 4, 2) := by decide +kernel
theorem d_M_isIn_9 : decode b_M_isIn 9 = .ok (.lcmp, 1) := by decide +kernel
theorem d_M_isIn_10 : decode b_M_isIn 10 = .ok (.ifCond .gt 7, 3) := by decide +kernel
theorem d_M_isIn_13 : decode b_M_isIn 13 = .ok (.iconst 1, 1) := by decide +kernel
theorem d_M_isIn_14 : decode b_M_isIn 14 = .ok (.goto 4, 3) := by decide +kernel
theorem d_M_isIn_17 : decode b_M_isIn 17 = .ok (.iconst 0, 1) := by decide +kernel
theorem d_M_isIn_18 : decode b_M_isIn 18 = .ok (.ireturn, 1) := by decide +kernel
theorem d_M_isArea_0 : decode b_M_isArea 0 = .ok (.iload_n 1, 1) := by decide +kernel
theorem d_M_isArea_1 : decode b_M_isArea 1 = .ok (.iconst 1, 1) := by decide +kernel
theorem d_M_isArea_2 : decode b_M_isArea 2 = .ok (.if_icmp .lt 15, 3) := by decide +kernel
theorem d_M_isArea_5 : decode b_M_isArea 5 = .ok (.iload_n 1, 1) := by decide +kernel
theorem d_M_isArea_6 : decode b_M_isArea 6 = .ok (.aload_n 0, 1) := by decide +kernel
theorem d_M_isArea_7 : decode b_M_isArea 7 = .ok (.getfield 36, 3) := by decide +kernel
theorem d_M_isArea_10 : decode b_M_isArea 10 = .ok (.if_icmp .gt 7, 3) := by decide +kernel
theorem d_M_isArea_13 : decode b_M_isArea 13 = .ok (.iconst 1, 1) := by decide +kernel
theorem d_M_isArea_14 : decode b_M_isArea 14 = .ok (.goto 4, 3) := by decide +kernel
theorem d_M_isArea_17 : decode b_M_isArea 17 = .ok (.iconst 0, 1) := by decide +kernel
theorem d_M_isArea_18 : decode b_M_isArea 18 = .ok (.ireturn, 1) := by decide +kernel
theorem d_M_thrown_0 : decode b_M_thrown 0 = .ok (.aload_n 0, 1) := by decide +kernel
theorem d_M_thrown_1 : decode b_M_thrown 1 = .ok (.getfield 40, 3) := by decide +kernel
theorem d_M_thrown_4 : decode b_M_thrown 4 = .ok (.ireturn, 1) := by decide +kernel
theorem d_M_loadOf_0 : decode b_M_loadOf 0 = .ok (.ldc2_w 67, 3) := by decide +kernel
theorem d_M_loadOf_3 : decode b_M_loadOf 3 = .ok (.aload_n 0, 1) := by decide +kernel
theorem d_M_loadOf_4 : decode b_M_loadOf 4 = .ok (.getfield 7, 3) := by decide +kernel
theorem d_M_loadOf_7 : decode b_M_loadOf 7 = .ok (.iload_n 1, 1) := by decide +kernel
theorem d_M_loadOf_8 : decode b_M_loadOf 8 = .ok (.laload, 1) := by decide +kernel
theorem d_M_loadOf_9 : decode b_M_loadOf 9 = .ok (.lmul, 1) := by decide +kernel
theorem d_M_loadOf_10 : decode b_M_loadOf 10 = .ok (.lstore_n 3, 1) := by decide +kernel
theorem d_M_loadOf_11 : decode b_M_loadOf 11 = .ok (.aload_n 0, 1) := by decide +kernel
theorem d_M_loadOf_12 : decode b_M_loadOf 12 = .ok (.getfield 21, 3) := by decide +kernel
theorem d_M_loadOf_15 : decode b_M_loadOf 15 = .ok (.bipush 30, 2) := by decide +kernel
theorem d_M_loadOf_17 : decode b_M_loadOf 17 = .ok (.iload_n 2, 1) := by decide +kernel
theorem d_M_loadOf_18 : decode b_M_loadOf 18 = .ok (.imul, 1) := by decide +kernel
theorem d_M_loadOf_19 : decode b_M_loadOf 19 = .ok (.iload_n 1, 1) := by decide +kernel
theorem d_M_loadOf_20 : decode b_M_loadOf 20 = .ok (.iadd, 1) := by decide +kernel
theorem d_M_loadOf_21 : decode b_M_loadOf 21 = .ok (.baload, 1) := by decide +kernel
theorem d_M_loadOf_22 : decode b_M_loadOf 22 = .ok (.ifCond .eq 27, 3) := by decide +kernel
theorem d_M_loadOf_25 : decode b_M_loadOf 25 = .ok (.lload_n 3, 1) := by decide +kernel
theorem d_M_loadOf_26 : decode b_M_loadOf 26 = .ok (.ldc2_w 69, 3) := by decide +kernel
theorem d_M_loadOf_29 : decode b_M_loadOf 29 = .ok (.ldiv, 1) := by decide +kernel
theorem d_M_loadOf_30 : decode b_M_loadOf 30 = .ok (.lload_n 3, 1) := by decide +kernel
theorem d_M_loadOf_31 : decode b_M_loadOf 31 = .ok (.ldc2_w 69, 3) := by decide +kernel
theorem d_M_loadOf_34 : decode b_M_loadOf 34 = .ok (.lrem, 1) := by decide +kernel
theorem d_M_loadOf_35 : decode b_M_loadOf 35 = .ok (.lconst 0, 1) := by decide +kernel
theorem d_M_loadOf_36 : decode b_M_loadOf 36 = .ok (.lcmp, 1) := by decide +kernel
theorem d_M_loadOf_37 : decode b_M_loadOf 37 = .ok (.ifCond .le 7, 3) := by decide +kernel
theorem d_M_loadOf_40 : decode b_M_loadOf 40 = .ok (.lconst 1, 1) := by decide +kernel
theorem d_M_loadOf_41 : decode b_M_loadOf 41 = .ok (.goto 4, 3) := by decide +kernel
theorem d_M_loadOf_44 : decode b_M_loadOf 44 = .ok (.lconst 0, 1) := by decide +kernel
theorem d_M_loadOf_45 : decode b_M_loadOf 45 = .ok (.ladd, 1) := by decide +kernel
theorem d_M_loadOf_46 : decode b_M_loadOf 46 = .ok (.goto 9, 3) := by decide +kernel
theorem d_M_loadOf_49 : decode b_M_loadOf 49 = .ok (.aload_n 0, 1) := by decide +kernel
theorem d_M_loadOf_50 : decode b_M_loadOf 50 = .ok (.getfield 7, 3) := by decide +kernel
theorem d_M_loadOf_53 : decode b_M_loadOf 53 = .ok (.iload_n 1, 1) := by decide +kernel
theorem d_M_loadOf_54 : decode b_M_loadOf 54 = .ok (.laload, 1) := by decide +kernel
theorem d_M_loadOf_55 : decode b_M_loadOf 55 = .ok (.lreturn, 1) := by decide +kernel
theorem d_M_roundLoad_0 : decode b_M_roundLoad 0 = .ok (.lconst 0, 1) := by decide +kernel
theorem d_M_roundLoad_1 : decode b_M_roundLoad 1 = .ok (.lstore_n 3, 1) := by decide +kernel
theorem d_M_roundLoad_2 : decode b_M_roundLoad 2 = .ok (.iconst 0, 1) := by decide +kernel
theorem d_M_roundLoad_3 : decode b_M_roundLoad 3 = .ok (.istore 5, 2) := by decide +kernel
theorem d_M_roundLoad_5 : decode b_M_roundLoad 5 = .ok (.iload 5, 2) := by decide +kernel
theorem d_M_roundLoad_7 : decode b_M_roundLoad 7 = .ok (.aload_n 0, 1) := by decide +kernel
theorem d_M_roundLoad_8 : decode b_M_roundLoad 8 = .ok (.getfield 36, 3) := by decide +kernel
theorem d_M_roundLoad_11 : decode b_M_roundLoad 11 = .ok (.if_icmp .ge 31, 3) := by decide +kernel
theorem d_M_roundLoad_14 : decode b_M_roundLoad 14 = .ok (.aload_n 1, 1) := by decide +kernel
theorem d_M_roundLoad_15 : decode b_M_roundLoad 15 = .ok (.iload 5, 2) := by decide +kernel
theorem d_M_roundLoad_17 : decode b_M_roundLoad 17 = .ok (.iaload, 1) := by decide +kernel
theorem d_M_roundLoad_18 : decode b_M_roundLoad 18 = .ok (.iload_n 2, 1) := by decide +kernel
theorem d_M_roundLoad_19 : decode b_M_roundLoad 19 = .ok (.if_icmp .ne 15, 3) := by decide +kernel
theorem d_M_roundLoad_22 : decode b_M_roundLoad 22 = .ok (.lload_n 3, 1) := by decide +kernel
theorem d_M_roundLoad_23 : decode b_M_roundLoad 23 = .ok (.aload_n 0, 1) := by decide +kernel
theorem d_M_roundLoad_24 : decode b_M_roundLoad 24 = .ok (.iload 5, 2) := by decide +kernel
theorem d_M_roundLoad_26 : decode b_M_roundLoad 26 = .ok (.iload_n 2, 1) := by decide +kernel
theorem d_M_roundLoad_27 : decode b_M_roundLoad 27 = .ok (.invokevirtual 71, 3) := by decide +kernel
theorem d_M_roundLoad_30 : decode b_M_roundLoad 30 = .ok (.ladd, 1) := by decide +kernel
theorem d_M_roundLoad_31 : decode b_M_roundLoad 31 = .ok (.goto 4, 3) := by decide +kernel
theorem d_M_roundLoad_34 : decode b_M_roundLoad 34 = .ok (.lload_n 3, 1) := by decide +kernel
theorem d_M_roundLoad_35 : decode b_M_roundLoad 35 = .ok (.lstore_n 3, 1) := by decide +kernel
theorem d_M_roundLoad_36 : decode b_M_roundLoad 36 = .ok (.iinc 5 1, 3) := by decide +kernel
theorem d_M_roundLoad_39 : decode b_M_roundLoad 39 = .ok (.goto (-34), 3) := by decide +kernel
theorem d_M_roundLoad_42 : decode b_M_roundLoad 42 = .ok (.lload_n 3, 1) := by decide +kernel
theorem d_M_roundLoad_43 : decode b_M_roundLoad 43 = .ok (.lreturn, 1) := by decide +kernel
theorem d_M_greatest_0 : decode b_M_greatest 0 = .ok (.lconst 0, 1) := by decide +kernel
theorem d_M_greatest_1 : decode b_M_greatest 1 = .ok (.lstore_n 2, 1) := by decide +kernel
theorem d_M_greatest_2 : decode b_M_greatest 2 = .ok (.iconst 0, 1) := by decide +kernel
theorem d_M_greatest_3 : decode b_M_greatest 3 = .ok (.istore 4, 2) := by decide +kernel
theorem d_M_greatest_5 : decode b_M_greatest 5 = .ok (.iload 4, 2) := by decide +kernel
theorem d_M_greatest_7 : decode b_M_greatest 7 = .ok (.iconst 4, 1) := by decide +kernel
theorem d_M_greatest_8 : decode b_M_greatest 8 = .ok (.if_icmp .ge 32, 3) := by decide +kernel
theorem d_M_greatest_11 : decode b_M_greatest 11 = .ok (.aload_n 0, 1) := by decide +kernel
theorem d_M_greatest_12 : decode b_M_greatest 12 = .ok (.aload_n 1, 1) := by decide +kernel
theorem d_M_greatest_13 : decode b_M_greatest 13 = .ok (.iload 4, 2) := by decide +kernel
theorem d_M_greatest_15 : decode b_M_greatest 15 = .ok (.invokevirtual 75, 3) := by decide +kernel
theorem d_M_greatest_18 : decode b_M_greatest 18 = .ok (.lstore 5, 2) := by decide +kernel
theorem d_M_greatest_20 : decode b_M_greatest 20 = .ok (.lload 5, 2) := by decide +kernel
theorem d_M_greatest_22 : decode b_M_greatest 22 = .ok (.lload_n 2, 1) := by decide +kernel
theorem d_M_greatest_23 : decode b_M_greatest 23 = .ok (.lcmp, 1) := by decide +kernel
theorem d_M_greatest_24 : decode b_M_greatest 24 = .ok (.ifCond .le 8, 3) := by decide +kernel
theorem d_M_greatest_27 : decode b_M_greatest 27 = .ok (.lload 5, 2) := by decide +kernel
theorem d_M_greatest_29 : decode b_M_greatest 29 = .ok (.goto 4, 3) := by decide +kernel
theorem d_M_greatest_32 : decode b_M_greatest 32 = .ok (.lload_n 2, 1) := by decide +kernel
theorem d_M_greatest_33 : decode b_M_greatest 33 = .ok (.lstore_n 2, 1) := by decide +kernel
theorem d_M_greatest_34 : decode b_M_greatest 34 = .ok (.iinc 4 1, 3) := by decide +kernel
theorem d_M_greatest_37 : decode b_M_greatest 37 = .ok (.goto (-32), 3) := by decide +kernel
theorem d_M_greatest_40 : decode b_M_greatest 40 = .ok (.lload_n 2, 1) := by decide +kernel
theorem d_M_greatest_41 : decode b_M_greatest 41 = .ok (.lreturn, 1) := by decide +kernel
theorem d_M_changedIn_0 : decode b_M_changedIn 0 = .ok (.iconst 0, 1) := by decide +kernel
theorem d_M_changedIn_1 : decode b_M_changedIn 1 = .ok (.istore_n 2, 1) := by decide +kernel
theorem d_M_changedIn_2 : decode b_M_changedIn 2 = .ok (.iconst 0, 1) := by decide +kernel
theorem d_M_changedIn_3 : decode b_M_changedIn 3 = .ok (.istore_n 3, 1) := by decide +kernel
theorem d_M_changedIn_4 : decode b_M_changedIn 4 = .ok (.iload_n 3, 1) := by decide +kernel
theorem d_M_changedIn_5 : decode b_M_changedIn 5 = .ok (.aload_n 0, 1) := by decide +kernel
theorem d_M_changedIn_6 : decode b_M_changedIn 6 = .ok (.getfield 36, 3) := by decide +kernel
theorem d_M_changedIn_9 : decode b_M_changedIn 9 = .ok (.if_icmp .ge 29, 3) := by decide +kernel
theorem d_M_changedIn_12 : decode b_M_changedIn 12 = .ok (.aload_n 1, 1) := by decide +kernel
theorem d_M_changedIn_13 : decode b_M_changedIn 13 = .ok (.iload_n 3, 1) := by decide +kernel
theorem d_M_changedIn_14 : decode b_M_changedIn 14 = .ok (.iaload, 1) := by decide +kernel
theorem d_M_changedIn_15 : decode b_M_changedIn 15 = .ok (.aload_n 0, 1) := by decide +kernel
theorem d_M_changedIn_16 : decode b_M_changedIn 16 = .ok (.getfield 13, 3) := by decide +kernel
theorem d_M_changedIn_19 : decode b_M_changedIn 19 = .ok (.iload_n 3, 1) := by decide +kernel
theorem d_M_changedIn_20 : decode b_M_changedIn 20 = .ok (.iaload, 1) := by decide +kernel
theorem d_M_changedIn_21 : decode b_M_changedIn 21 = .ok (.if_icmp .eq 9, 3) := by decide +kernel
theorem d_M_changedIn_24 : decode b_M_changedIn 24 = .ok (.iload_n 2, 1) := by decide +kernel
theorem d_M_changedIn_25 : decode b_M_changedIn 25 = .ok (.iconst 1, 1) := by decide +kernel
theorem d_M_changedIn_26 : decode b_M_changedIn 26 = .ok (.iadd, 1) := by decide +kernel
theorem d_M_changedIn_27 : decode b_M_changedIn 27 = .ok (.goto 4, 3) := by decide +kernel
theorem d_M_changedIn_30 : decode b_M_changedIn 30 = .ok (.iload_n 2, 1) := by decide +kernel
theorem d_M_changedIn_31 : decode b_M_changedIn 31 = .ok (.istore_n 2, 1) := by decide +kernel
theorem d_M_changedIn_32 : decode b_M_changedIn 32 = .ok (.iinc 3 1, 3) := by decide +kernel
theorem d_M_changedIn_35 : decode b_M_changedIn 35 = .ok (.goto (-31), 3) := by decide +kernel
theorem d_M_changedIn_38 : decode b_M_changedIn 38 = .ok (.iload_n 2, 1) := by decide +kernel
theorem d_M_changedIn_39 : decode b_M_changedIn 39 = .ok (.ireturn, 1) := by decide +kernel
theorem d_M_withHours_0 : decode b_M_withHours 0 = .ok (.iconst 0, 1) := by decide +kernel
theorem d_M_withHours_1 : decode b_M_withHours 1 = .ok (.istore_n 1, 1) := by decide +kernel
theorem d_M_withHours_2 : decode b_M_withHours 2 = .ok (.iconst 0, 1) := by decide +kernel
theorem d_M_withHours_3 : decode b_M_withHours 3 = .ok (.istore_n 2, 1) := by decide +kernel
theorem d_M_withHours_4 : decode b_M_withHours 4 = .ok (.iload_n 2, 1) := by decide +kernel
theorem d_M_withHours_5 : decode b_M_withHours 5 = .ok (.iconst 4, 1) := by decide +kernel
theorem d_M_withHours_6 : decode b_M_withHours 6 = .ok (.if_icmp .ge 28, 3) := by decide +kernel
theorem d_M_withHours_9 : decode b_M_withHours 9 = .ok (.aload_n 0, 1) := by decide +kernel
theorem d_M_withHours_10 : decode b_M_withHours 10 = .ok (.getfield 24, 3) := by decide +kernel
theorem d_M_withHours_13 : decode b_M_withHours 13 = .ok (.iload_n 2, 1) := by decide +kernel
theorem d_M_withHours_14 : decode b_M_withHours 14 = .ok (.laload, 1) := by decide +kernel
theorem d_M_withHours_15 : decode b_M_withHours 15 = .ok (.lconst 0, 1) := by decide +kernel
theorem d_M_withHours_16 : decode b_M_withHours 16 = .ok (.lcmp, 1) := by decide +kernel
theorem d_M_withHours_17 : decode b_M_withHours 17 = .ok (.ifCond .le 9, 3) := by decide +kernel
theorem d_M_withHours_20 : decode b_M_withHours 20 = .ok (.iload_n 1, 1) := by decide +kernel
theorem d_M_withHours_21 : decode b_M_withHours 21 = .ok (.iconst 1, 1) := by decide +kernel
theorem d_M_withHours_22 : decode b_M_withHours 22 = .ok (.iadd, 1) := by decide +kernel
theorem d_M_withHours_23 : decode b_M_withHours 23 = .ok (.goto 4, 3) := by decide +kernel
theorem d_M_withHours_26 : decode b_M_withHours 26 = .ok (.iload_n 1, 1) := by decide +kernel
theorem d_M_withHours_27 : decode b_M_withHours 27 = .ok (.istore_n 1, 1) := by decide +kernel
theorem d_M_withHours_28 : decode b_M_withHours 28 = .ok (.iinc 2 1, 3) := by decide +kernel
theorem d_M_withHours_31 : decode b_M_withHours 31 = .ok (.goto (-27), 3) := by decide +kernel
theorem d_M_withHours_34 : decode b_M_withHours 34 = .ok (.iload_n 1, 1) := by decide +kernel
theorem d_M_withHours_35 : decode b_M_withHours 35 = .ok (.ireturn, 1) := by decide +kernel
theorem d_M_lightest_0 : decode b_M_lightest 0 = .ok (.ldc2_w 98, 3) := by decide +kernel
theorem d_M_lightest_3 : decode b_M_lightest 3 = .ok (.lstore_n 2, 1) := by decide +kernel
theorem d_M_lightest_4 : decode b_M_lightest 4 = .ok (.iconst 0, 1) := by decide +kernel
theorem d_M_lightest_5 : decode b_M_lightest 5 = .ok (.istore 4, 2) := by decide +kernel
theorem d_M_lightest_7 : decode b_M_lightest 7 = .ok (.iload 4, 2) := by decide +kernel
theorem d_M_lightest_9 : decode b_M_lightest 9 = .ok (.iconst 4, 1) := by decide +kernel
theorem d_M_lightest_10 : decode b_M_lightest 10 = .ok (.if_icmp .ge 45, 3) := by decide +kernel
theorem d_M_lightest_13 : decode b_M_lightest 13 = .ok (.aload_n 0, 1) := by decide +kernel
theorem d_M_lightest_14 : decode b_M_lightest 14 = .ok (.getfield 24, 3) := by decide +kernel
theorem d_M_lightest_17 : decode b_M_lightest 17 = .ok (.iload 4, 2) := by decide +kernel
theorem d_M_lightest_19 : decode b_M_lightest 19 = .ok (.laload, 1) := by decide +kernel
theorem d_M_lightest_20 : decode b_M_lightest 20 = .ok (.lconst 0, 1) := by decide +kernel
theorem d_M_lightest_21 : decode b_M_lightest 21 = .ok (.lcmp, 1) := by decide +kernel
theorem d_M_lightest_22 : decode b_M_lightest 22 = .ok (.ifCond .le 25, 3) := by decide +kernel
theorem d_M_lightest_25 : decode b_M_lightest 25 = .ok (.aload_n 0, 1) := by decide +kernel
theorem d_M_lightest_26 : decode b_M_lightest 26 = .ok (.iload_n 1, 1) := by decide +kernel
theorem d_M_lightest_27 : decode b_M_lightest 27 = .ok (.iload 4, 2) := by decide +kernel
theorem d_M_lightest_29 : decode b_M_lightest 29 = .ok (.invokevirtual 71, 3) := by decide +kernel
theorem d_M_lightest_32 : decode b_M_lightest 32 = .ok (.lload_n 2, 1) := by decide +kernel
theorem d_M_lightest_33 : decode b_M_lightest 33 = .ok (.lcmp, 1) := by decide +kernel
theorem d_M_lightest_34 : decode b_M_lightest 34 = .ok (.ifCond .ge 13, 3) := by decide +kernel
theorem d_M_lightest_37 : decode b_M_lightest 37 = .ok (.aload_n 0, 1) := by decide +kernel
theorem d_M_lightest_38 : decode b_M_lightest 38 = .ok (.iload_n 1, 1) := by decide +kernel
theorem d_M_lightest_39 : decode b_M_lightest 39 = .ok (.iload 4, 2) := by decide +kernel
theorem d_M_lightest_41 : decode b_M_lightest 41 = .ok (.invokevirtual 71, 3) := by decide +kernel
theorem d_M_lightest_44 : decode b_M_lightest 44 = .ok (.goto 4, 3) := by decide +kernel
theorem d_M_lightest_47 : decode b_M_lightest 47 = .ok (.lload_n 2, 1) := by decide +kernel
theorem d_M_lightest_48 : decode b_M_lightest 48 = .ok (.lstore_n 2, 1) := by decide +kernel
theorem d_M_lightest_49 : decode b_M_lightest 49 = .ok (.iinc 4 1, 3) := by decide +kernel
theorem d_M_lightest_52 : decode b_M_lightest 52 = .ok (.goto (-45), 3) := by decide +kernel
theorem d_M_lightest_55 : decode b_M_lightest 55 = .ok (.lload_n 2, 1) := by decide +kernel
theorem d_M_lightest_56 : decode b_M_lightest 56 = .ok (.lreturn, 1) := by decide +kernel
theorem d_M_changes_0 : decode b_M_changes 0 = .ok (.aload_n 0, 1) := by decide +kernel
theorem d_M_changes_1 : decode b_M_changes 1 = .ok (.iconst 0, 1) := by decide +kernel
theorem d_M_changes_2 : decode b_M_changes 2 = .ok (.putfield 43, 3) := by decide +kernel
theorem d_M_changes_5 : decode b_M_changes 5 = .ok (.aload_n 0, 1) := by decide +kernel
theorem d_M_changes_6 : decode b_M_changes 6 = .ok (.iconst 0, 1) := by decide +kernel
theorem d_M_changes_7 : decode b_M_changes 7 = .ok (.putfield 47, 3) := by decide +kernel
theorem d_M_changes_10 : decode b_M_changes 10 = .ok (.return_, 1) := by decide +kernel

theorem bz_w_m {t : bz_T} {a r : Nat} (h : bz_k t r a = true) : bz_w t a r = 9 * bz_l t a / 10 + (if 0 < 9 * bz_l t a % 10 then 1 else 0) := by
  unfold bz_w
  rw [if_pos h]
  split <;> omega
def bz_lk (t : bz_T) (s : bz_S) (r i : Nat) : Nat := bz_sm (fun a => if bz_in t s r a then bz_w t a r else 0) i
theorem bz_lk_y {t : bz_T} {s : bz_S} {r i : Nat} (h : bz_in t s r i = true) : bz_lk t s r (i + 1) = bz_lk t s r i + bz_w t i r := by
  show bz_lk t s r i + (if bz_in t s r i then bz_w t i r else 0) = _
  rw [if_pos h]
theorem bz_lk_n {t : bz_T} {s : bz_S} {r i : Nat} (h : bz_in t s r i = false) : bz_lk t s r (i + 1) = bz_lk t s r i := by
  show bz_lk t s r i + (if bz_in t s r i then bz_w t i r else 0) = _
  rw [if_neg (by simp [h])]
  rfl
theorem bz_inf {t : bz_T} {f : Nat → Nat} {r i : Nat} (hi : i < bz_n t) : bz_in t (bz_fu f) r i = decide (f i = r) := by
  unfold bz_in bz_fu
  simp [hi]
theorem bz_lk_le {t : bz_T} (h : bz_ok t) (s : bz_S) (r : Nat) {i : Nat} (hi : i ≤ bz_n t) : bz_lk t s r i ≤ 30000000 := by
  have h1 := bz_sm_bd (f := fun a => if bz_in t s r a then bz_w t a r else 0) (b := 1000000) (n := i) (fun i _ => by
    have := bz_w_le h i r
    show (if bz_in t s r i then bz_w t i r else 0) ≤ 1000000
    split <;> omega)
  have h2 := h.1
  unfold bz_lk
  omega
def bz_ml (t : bz_T) (a : Nat) : Nat → Nat
  | 0 => 9223372036854775807
  | k + 1 => if bz_wh t k then min (bz_ml t a k) (bz_w t a k) else bz_ml t a k
theorem bz_ml_1 {t : bz_T} {a k : Nat} (h : 0 < bz_h t k) : bz_ml t a (k + 1) = min (bz_ml t a k) (bz_w t a k) := by
  show (if bz_wh t k then min (bz_ml t a k) (bz_w t a k) else bz_ml t a k) = _
  rw [if_pos (by unfold bz_wh; exact decide_eq_true h)]
theorem bz_ml_0 {t : bz_T} {a k : Nat} (h : bz_h t k ≤ 0) : bz_ml t a (k + 1) = bz_ml t a k := by
  show (if bz_wh t k then min (bz_ml t a k) (bz_w t a k) else bz_ml t a k) = _
  rw [if_neg (by unfold bz_wh; simp; omega)]
theorem bz_ml_le {t : bz_T} (a : Nat) : ∀ k, bz_ml t a k ≤ 9223372036854775807
  | 0 => Nat.le_refl _
  | k + 1 => by
    have := bz_ml_le (t := t) a k
    unfold bz_ml
    split <;> omega
theorem bz_w_l {t : bz_T} (a r : Nat) : bz_w t a r ≤ bz_l t a := by
  unfold bz_w
  split <;> omega
theorem bz_mn_ml {t : bz_T} (ht : bz_ok t) (a : Nat) : ∀ k, bz_mn t a k = min (bz_l t a) (bz_ml t a k)
  | 0 => by
    have := ht.2.1 a
    show bz_l t a = min (bz_l t a) 9223372036854775807
    omega
  | k + 1 => by
    have ih := bz_mn_ml ht a k
    by_cases h : 0 < bz_h t k
    · rw [bz_mn_1 h, bz_ml_1 h, ih]
      omega
    · rw [bz_mn_0 (by omega), bz_ml_0 (by omega), ih]
theorem bz_ml_w {t : bz_T} (a r : Nat) (h : 0 < bz_h t r) : ∀ k, r < k → bz_ml t a k ≤ bz_w t a r
  | 0, hk => absurd hk (by omega)
  | k + 1, hk => by
    by_cases e : r = k
    · subst e
      rw [bz_ml_1 h]
      omega
    · have ih := bz_ml_w a r h k (by omega)
      unfold bz_ml
      split <;> omega
theorem bz_ct_ex {f : Nat → Bool} : ∀ {n : Nat}, ¬ bz_ct f n = 0 → ∃ r, r < n ∧ f r = true
  | 0, h => absurd rfl h
  | n + 1, h => by
    by_cases e : f n = true
    · exact ⟨n, by omega, e⟩
    · rw [bz_ct_0 (by simpa using e)] at h
      obtain ⟨r, h1, h2⟩ := bz_ct_ex h
      exact ⟨r, by omega, h2⟩
theorem bz_ml_lg {t : bz_T} (ht : bz_ok t) (hc : ¬ bz_ct (bz_wh t) 4 = 0) (a : Nat) : bz_ml t a 4 = bz_lg t a := by
  obtain ⟨r, h1, h2⟩ := bz_ct_ex hc
  have h3 := bz_ml_w a r (of_decide_eq_true h2) 4 h1
  have h4 := bz_w_l (t := t) a r
  have h5 := bz_mn_ml ht a 4
  unfold bz_lg
  omega

set_option maxHeartbeats 4000000 in
set_option maxRecDepth 100000 in
/-- isIn -/
theorem c_M_isIn (l : Launch) (dC : Nat → ClassId) (dI : Nat → Nat → Nat) (am : Nat → Nat) (cI cL cZ : ClassId) (T : bz_RT) (th sv ex : Int32) (S1 S2 S3 : Nat → Int32) (x lo hi : Int64) : Met l y_M_isIn w_M_isIn ({ frames := 0, cells := 0, slots := 0, locals := 0 }) (bz_Pr (dC, dI) [(cI, .int), (cL, .long), (cZ, .boolean)] (bz_wM am cI cL cZ T (th, sv, ex) (S1, S2, S3)) [.long x, .long lo, .long hi]) (vp_Si (fun r9 => r9 = bz_i (decide (lo ≤ x ∧ x ≤ hi)))) 0 0 (fun _ => False) := by
  refine Met.ofW (cc := b_M_isIn) (maxL := 6) (ret := (some .boolean)) (by decide) rfl ?_
  intro p e s m args below meth c s₁ B hml hv
  obtain ⟨rfl, hP, hK, hN⟩ := hv
  have hx := B.exec
  have hb := B.bytes
  have hr := B.returns
  have hts := atoms_spec (ws := w_M_isIn) B.pre
  have hown : s.vm.findClass R_M = some m.cls := findClass_of_methodNamed B.named
  have htb : ∀ w ∈ bz_tb, w.before _ s = true := fun w h => hts w (List.mem_cons_of_mem _ h)
  have hlocks := B.notSynchronized
  have hl := lv_entry ([.long x, .long lo, .long hi]) (n := 6) (Nat.le_of_ble_eq_true rfl)
  rw [lg_entry_eq]
  generalize (lg_sl ([.long x, .long lo, .long hi]) ++ List.replicate (6 - (lg_sl ([.long x, .long lo, .long hi])).length) Slot.unset).toArray = ls at hl ⊢
  have hl : lv_has ls 6 [(0, .long x), (2, .long lo), (4, .long hi)] := hl
  refine lv_lload_n hx hb d_M_isIn_0 rfl (lv_at hl 0 rfl) ?_
  refine lv_lload_n hx hb d_M_isIn_1 rfl (lv_at hl 1 rfl) ?_
  refine W.lcmp hx hb d_M_isIn_2 ?_
  refine lv_if_lt (tgt := 17) hx hb d_M_isIn_3 (by decide) (fun c_3 => ?_) (fun c_3 => ?_)
  · skip
    have hq : decide (lo ≤ x ∧ x ≤ hi) = false := decide_eq_false fun z => Int64.not_lt.mpr z.1 ((lg_cmp_lt x lo).mp c_3)
    refine lv_iconst (v := 0) hx hb d_M_isIn_17 (by decide) ?_
    exact W.zret (v := 0) hx hb hr (rfl) (fun t9 ht9 hW => ⟨0, rfl, by rw [hq]; rfl, ht9⟩) (fun _ h => nomatch h) d_M_isIn_18
  · skip
    refine lv_lload_n hx hb d_M_isIn_6 rfl (lv_at hl 0 rfl) ?_
    refine lv_lload hx hb d_M_isIn_7 (lv_at hl 2 rfl) ?_
    refine W.lcmp hx hb d_M_isIn_9 ?_
    refine lv_if_gt (tgt := 17) hx hb d_M_isIn_10 (by decide) (fun c_10 => ?_) (fun c_10 => ?_)
    · skip
      have hq : decide (lo ≤ x ∧ x ≤ hi) = false := decide_eq_false fun z => Int64.not_lt.mpr z.2 ((lg_cmp_gt x hi).mp c_10)
      refine lv_iconst (v := 0) hx hb d_M_isIn_17 (by decide) ?_
      exact W.zret (v := 0) hx hb hr (rfl) (fun t9 ht9 hW => ⟨0, rfl, by rw [hq]; rfl, ht9⟩) (fun _ h => nomatch h) d_M_isIn_18
    · skip
      have hq : decide (lo ≤ x ∧ x ≤ hi) = true := decide_eq_true ⟨Int64.not_lt.mp fun z => c_3 ((lg_cmp_lt x lo).mpr z), Int64.not_lt.mp fun z => c_10 ((lg_cmp_gt x hi).mpr z)⟩
      refine lv_iconst (v := 1) hx hb d_M_isIn_13 (by decide) ?_
      refine lv_goto (tgt := 18) hx hb d_M_isIn_14 (by decide) ?_
      exact W.zret (v := 1) hx hb hr (rfl) (fun t9 ht9 hW => ⟨1, rfl, by rw [hq]; rfl, ht9⟩) (fun _ h => nomatch h) d_M_isIn_18

set_option maxHeartbeats 4000000 in
set_option maxRecDepth 100000 in
/-- isArea -/
theorem c_M_isArea (l : Launch) (dC : Nat → ClassId) (dI : Nat → Nat → Nat) (am : Nat → Nat) (cI cL cZ : ClassId) (t : bz_T) (th sv ex : Int32) (S1 S2 S3 : Nat → Int32) (ht : bz_ok t) (z : Int32) : Met l y_M_isArea w_M_isArea ({ frames := 0, cells := 0, slots := 0, locals := 0 }) (bz_Pr (dC, dI) [(cI, .int), (cL, .long), (cZ, .boolean)] (bz_wM am cI cL cZ (bz_tM t) (th, sv, ex) (S1, S2, S3)) [.ref (am 0), .int z]) (vp_Si (fun r9 => r9 = bz_i (bz_ia (bz_n t) z))) 0 0 (fun _ => False) := by
  refine Met.ofW (cc := b_M_isArea) (maxL := 2) (ret := (some .boolean)) (by decide) rfl ?_
  intro p e s m args below meth c s₁ B hml hv
  obtain ⟨rfl, hP, hK, hN⟩ := hv
  have hx := B.exec
  have hb := B.bytes
  have hr := B.returns
  have hts := atoms_spec (ws := w_M_isArea) B.pre
  have hown : s.vm.findClass R_M = some m.cls := findClass_of_methodNamed B.named
  have htb : ∀ w ∈ bz_tb, w.before _ s = true := fun w h => hts w (List.mem_cons_of_mem _ h)
  have hlocks := B.notSynchronized
  have hl := lv_entry ([.ref (am 0), .int z]) (n := 2) (Nat.le_of_ble_eq_true rfl)
  rw [lg_entry_eq]
  generalize (lg_sl ([.ref (am 0), .int z]) ++ List.replicate (2 - (lg_sl ([.ref (am 0), .int z])).length) Slot.unset).toArray = ls at hl ⊢
  have hl : lv_has ls 2 [(0, .ref (am 0)), (1, .int z)] := hl
  refine lv_iload_n hx hb d_M_isArea_0 rfl (lv_at hl 1 rfl) ?_
  refine lv_iconst (v := 1) hx hb d_M_isArea_1 (by decide) ?_
  refine lv_icmp_lt (tgt := 17) hx hb d_M_isArea_2 (by decide) (fun c_2 => ?_) (fun c_2 => ?_)
  · skip
    have hq : bz_ia (bz_n t) z = false := decide_eq_false fun q => Int32.not_lt.mpr q.1 c_2
    refine lv_iconst (v := 0) hx hb d_M_isArea_17 (by decide) ?_
    exact W.zret (v := 0) hx hb hr (rfl) (fun t9 ht9 hW => ⟨0, rfl, by rw [hq]; rfl, ht9⟩) (fun _ h => nomatch h) d_M_isArea_18
  · skip
    refine lv_iload_n hx hb d_M_isArea_5 rfl (lv_at hl 1 rfl) ?_
    refine lv_aload_n hx hb d_M_isArea_6 rfl (lv_at hl 0 rfl) ?_
    refine va_get (D := (dC, dI)) (ci := 4) (v := .int (nI (bz_n t))) (C := R_M) (T := F_M) (N := 12) hx hb htb in_M hown hK hP 0 rfl rfl 1 (by decide) (htb _ wd_412) (fun _ h9 => h9) rfl d_M_isArea_7 ?_
    refine lv_icmp_gt (tgt := 17) hx hb d_M_isArea_10 (by decide) (fun c_10 => ?_) (fun c_10 => ?_)
    · skip
      have hq : bz_ia (bz_n t) z = false := decide_eq_false fun q => Int32.not_lt.mpr q.2 c_10
      refine lv_iconst (v := 0) hx hb d_M_isArea_17 (by decide) ?_
      exact W.zret (v := 0) hx hb hr (rfl) (fun t9 ht9 hW => ⟨0, rfl, by rw [hq]; rfl, ht9⟩) (fun _ h => nomatch h) d_M_isArea_18
    · skip
      have hq : bz_ia (bz_n t) z = true := decide_eq_true ⟨Int32.not_lt.mp c_2, Int32.not_lt.mp c_10⟩
      refine lv_iconst (v := 1) hx hb d_M_isArea_13 (by decide) ?_
      refine lv_goto (tgt := 18) hx hb d_M_isArea_14 (by decide) ?_
      exact W.zret (v := 1) hx hb hr (rfl) (fun t9 ht9 hW => ⟨1, rfl, by rw [hq]; rfl, ht9⟩) (fun _ h => nomatch h) d_M_isArea_18

set_option maxHeartbeats 4000000 in
set_option maxRecDepth 100000 in
/-- thrown -/
theorem c_M_thrown (l : Launch) (dC : Nat → ClassId) (dI : Nat → Nat → Nat) (am : Nat → Nat) (cI cL cZ : ClassId) (t : bz_T) (th sv ex : Int32) (S1 S2 S3 : Nat → Int32) (ht : bz_ok t) : Met l y_M_thrown w_M_thrown ({ frames := 0, cells := 0, slots := 0, locals := 0 }) (bz_Pr (dC, dI) [(cI, .int), (cL, .long), (cZ, .boolean)] (bz_wM am cI cL cZ (bz_tM t) (th, sv, ex) (S1, S2, S3)) [.ref (am 0)]) (vp_Si (fun r9 => r9 = th)) 0 0 (fun _ => False) := by
  refine Met.ofW (cc := b_M_thrown) (maxL := 1) (ret := (some .int)) (by decide) rfl ?_
  intro p e s m args below meth c s₁ B hml hv
  obtain ⟨rfl, hP, hK, hN⟩ := hv
  have hx := B.exec
  have hb := B.bytes
  have hr := B.returns
  have hts := atoms_spec (ws := w_M_thrown) B.pre
  have hown : s.vm.findClass R_M = some m.cls := findClass_of_methodNamed B.named
  have htb : ∀ w ∈ bz_tb, w.before _ s = true := fun w h => hts w (List.mem_cons_of_mem _ h)
  have hlocks := B.notSynchronized
  have hl := lv_entry ([.ref (am 0)]) (n := 1) (Nat.le_of_ble_eq_true rfl)
  rw [lg_entry_eq]
  generalize (lg_sl ([.ref (am 0)]) ++ List.replicate (1 - (lg_sl ([.ref (am 0)])).length) Slot.unset).toArray = ls at hl ⊢
  have hl : lv_has ls 1 [(0, .ref (am 0))] := hl
  refine lv_aload_n hx hb d_M_thrown_0 rfl (lv_at hl 0 rfl) ?_
  refine va_get (D := (dC, dI)) (ci := 4) (v := .int th) (C := R_M) (T := F_M) (N := 12) hx hb htb in_M hown hK hP 0 rfl rfl 0 (by decide) (htb _ wd_411) (fun _ h9 => h9) rfl d_M_thrown_1 ?_
  exact W.iret (v := th) hx hb hr (fun t9 ht9 hW => ⟨th, rfl, rfl, ht9⟩) (fun _ h => nomatch h) d_M_thrown_4

set_option maxHeartbeats 4000000 in
set_option maxRecDepth 100000 in
/-- changes -/
theorem c_M_changes (l : Launch) (dC : Nat → ClassId) (dI : Nat → Nat → Nat) (sz : Nat) (am : Nat → Nat) (cI cL cZ : ClassId) (T : bz_RT) (th sv ex : Int32) (S1 S2 S3 : Nat → Int32) : Met l y_M_changes w_M_changes ({ frames := 0, cells := 0, slots := 0, locals := 0 }) (bz_Pw (dC, dI) [(cI, .int), (cL, .long), (cZ, .boolean)] (bz_wM am cI cL cZ T (th, sv, ex) (S1, S2, S3)) sz [.ref (am 0)]) (bz_Qv (dC, dI) [(cI, .int), (cL, .long), (cZ, .boolean)] (va_A (bz_wM am cI cL cZ T (th, sv, ex) (S1, S2, S3)) sz) (bz_wM am cI cL cZ T (th, 0, 0) (S1, S2, S3))) 0 0 (va_A (bz_wM am cI cL cZ T (th, sv, ex) (S1, S2, S3)) sz) := by
  refine Met.ofW (cc := b_M_changes) (maxL := 1) (ret := none) (by decide) rfl ?_
  intro p e s m args below meth c s₁ B hml hv
  obtain ⟨rfl, hsz, hP, hK, hD0, hN⟩ := hv
  have hx := B.exec
  have hb := B.bytes
  have hr := B.returns
  have hts := atoms_spec (ws := w_M_changes) B.pre
  have hown : s.vm.findClass R_M = some m.cls := findClass_of_methodNamed B.named
  have htb : ∀ w ∈ bz_tb, w.before _ s = true := fun w h => hts w (List.mem_cons_of_mem _ h)
  have hlocks := B.notSynchronized
  subst hsz
  have hD := hD0.self (sz := s.heap.size)
  generalize hAe : va_A (bz_wM am cI cL cZ T (th, sv, ex) (S1, S2, S3)) s.heap.size = A at hD ⊢
  have hA : ∀ q : Nat, s.heap.size ≤ q → A q := fun q h => by rw [← hAe]; exact Or.inr h
  have hS : va_S A s.heap s.heap [] := va_S.rf
  have hl := lv_entry ([.ref (am 0)]) (n := 1) (Nat.le_of_ble_eq_true rfl)
  rw [lg_entry_eq]
  generalize (lg_sl ([.ref (am 0)]) ++ List.replicate (1 - (lg_sl ([.ref (am 0)])).length) Slot.unset).toArray = ls at hl ⊢
  have hl : lv_has ls 1 [(0, .ref (am 0))] := hl
  refine lv_aload_n hx hb d_M_changes_0 rfl (lv_at hl 0 rfl) ?_
  refine lv_iconst (v := 0) hx hb d_M_changes_1 (by decide) ?_
  refine va_put (D := (dC, dI)) (ci := 4) (v := .int 0) (ty := .boolean) (C := R_M) (T := F_M) (N := 12) hx hb htb in_M tf_M tok_M n_M hown hK hP hD hS 0 rfl rfl 7 (by decide) (htb _ wd_418) (fun _ h9 => h9) rfl (by decide +kernel) rfl rfl (Nat.le_of_ble_eq_true rfl) d_M_changes_2 (fun H locs hP hD hS => ?_)
  have hP : va_P (dC, dI) vwCl (bz_wM am cI cL cZ T (th, 0, ex) (S1, S2, S3)) H := hP
  have hD : va_D A (bz_wM am cI cL cZ T (th, 0, ex) (S1, S2, S3)) := hD
  refine lv_aload_n hx hb d_M_changes_5 rfl (lv_at hl 0 rfl) ?_
  refine lv_iconst (v := 0) hx hb d_M_changes_6 (by decide) ?_
  refine va_put (D := (dC, dI)) (ci := 4) (v := .int 0) (ty := .boolean) (C := R_M) (T := F_M) (N := 12) hx hb htb in_M tf_M tok_M n_M hown hK hP hD hS 0 rfl rfl 8 (by decide) (htb _ wd_419) (fun _ h9 => h9) rfl (by decide +kernel) rfl rfl (Nat.le_of_ble_eq_true rfl) d_M_changes_7 (fun H locs hP hD hS => ?_)
  have hP : va_P (dC, dI) vwCl (bz_wM am cI cL cZ T (th, 0, 0) (S1, S2, S3)) H := hP
  have hD : va_D A (bz_wM am cI cL cZ T (th, 0, 0) (S1, S2, S3)) := hD
  exact W.vret hx hb hr (fun t9 ht9 hW => ⟨⟨(), rfl, trivial, by rw [ht9]; exact hP, va_K.moved hW.alike hK, hD⟩, hS.F ht9⟩) hS.2.2 d_M_changes_10

set_option maxHeartbeats 4000000 in
set_option maxRecDepth 100000 in
/-- loadOf -/
theorem c_M_loadOf (l : Launch) (dC : Nat → ClassId) (dI : Nat → Nat → Nat) (am : Nat → Nat) (cI cL cZ : ClassId) (t : bz_T) (th sv ex : Int32) (S1 S2 S3 : Nat → Int32) (ht : bz_ok t) (a r : Nat) (ha : a < 30) (hr4 : r < 4) : Met l y_M_loadOf w_M_loadOf ({ frames := 0, cells := 0, slots := 0, locals := 0 }) (bz_Pr (dC, dI) [(cI, .int), (cL, .long), (cZ, .boolean)] (bz_wM am cI cL cZ (bz_tM t) (th, sv, ex) (S1, S2, S3)) [.ref (am 0), .int (nI a), .int (nI r)]) (vp_Sl (fun r9 => r9 = lN (bz_w t a r))) 0 0 (fun _ => False) := by
  refine Met.ofW (cc := b_M_loadOf) (maxL := 5) (ret := (some .long)) (by decide) rfl ?_
  intro p e s m args below meth c s₁ B hml hv
  obtain ⟨rfl, hP, hK, hN⟩ := hv
  have hx := B.exec
  have hb := B.bytes
  have hr := B.returns
  have hts := atoms_spec (ws := w_M_loadOf) B.pre
  have hown : s.vm.findClass R_M = some m.cls := findClass_of_methodNamed B.named
  have htb : ∀ w ∈ bz_tb, w.before _ s = true := fun w h => hts w (List.mem_cons_of_mem _ h)
  have hlocks := B.notSynchronized
  have hl := lv_entry ([.ref (am 0), .int (nI a), .int (nI r)]) (n := 5) (Nat.le_of_ble_eq_true rfl)
  rw [lg_entry_eq]
  generalize (lg_sl ([.ref (am 0), .int (nI a), .int (nI r)]) ++ List.replicate (5 - (lg_sl ([.ref (am 0), .int (nI a), .int (nI r)])).length) Slot.unset).toArray = ls at hl ⊢
  have hl : lv_has ls 5 [(0, .ref (am 0)), (1, .int (nI a)), (2, .int (nI r))] := hl
  have hla := ht.2.1 a
  refine lv_ldc2 (v := 9) hx hb hown (htb _ wd_510) d_M_loadOf_0 ?_
  refine lv_aload_n hx hb d_M_loadOf_3 rfl (lv_at hl 0 rfl) ?_
  refine va_get (D := (dC, dI)) (ci := 4) (v := .ref (am 1)) (C := R_M) (T := F_M) (N := 12) hx hb htb in_M hown hK hP 0 rfl rfl 2 (by decide) (htb _ wd_413) (fun _ h9 => h9) rfl d_M_loadOf_4 ?_
  refine lv_iload_n hx hb d_M_loadOf_7 rfl (lv_at hl 1 rfl) ?_
  refine bz_lald (v := lN (bz_l t a)) hx hb hK hP 1 1 rfl rfl (a9 := a) (by omega) (by decide) (rfl) d_M_loadOf_8 ?_
  refine lv_lmul hx hb d_M_loadOf_9 ?_
  refine bz_rl (y := lN (9 * bz_l t a)) (lN_mul 9 _) ?_
  refine lv_lstore_n (lv' := [(3, .long (lN (9 * bz_l t a))), (0, .ref (am 0)), (1, .int (nI a)), (2, .int (nI r))]) hx hb d_M_loadOf_10 rfl hl (by decide) rfl (fun ls hl => ?_)
  refine lv_aload_n hx hb d_M_loadOf_11 rfl (lv_at hl 1 rfl) ?_
  refine va_get (D := (dC, dI)) (ci := 4) (v := .ref (am 4)) (C := R_M) (T := F_M) (N := 12) hx hb htb in_M hown hK hP 0 rfl rfl 5 (by decide) (htb _ wd_416) (fun _ h9 => h9) rfl d_M_loadOf_12 ?_
  refine lv_bipush (v := 30) hx hb d_M_loadOf_15 (by decide) ?_
  refine lv_iload_n hx hb d_M_loadOf_17 rfl (lv_at hl 3 rfl) ?_
  refine lv_imul hx hb d_M_loadOf_18 ?_
  refine bz_ri (y := nI (30 * r)) (pk_mul 30 _) ?_
  refine lv_iload_n hx hb d_M_loadOf_19 rfl (lv_at hl 2 rfl) ?_
  refine lv_iadd hx hb d_M_loadOf_20 ?_
  refine bz_ri (y := nI (30 * r + a)) (nI_add _ _) ?_
  refine bz_zald (v := bz_i (bz_k t r a)) hx hb hK hP 4 2 rfl rfl (a9 := (30 * r + a)) (by omega) (by decide) (by show bz_i (bz_k t ((30 * r + a) / 30) ((30 * r + a) % 30)) = _; rw [show (30 * r + a) / 30 = r by omega, show (30 * r + a) % 30 = a by omega]) d_M_loadOf_21 ?_
  refine lv_if_eq (tgt := 49) hx hb d_M_loadOf_22 (by decide) (fun c_22 => ?_) (fun c_22 => ?_)
  · skip
    have hq := bz_i_eq c_22
    refine lv_aload_n hx hb d_M_loadOf_49 rfl (lv_at hl 1 rfl) ?_
    refine va_get (D := (dC, dI)) (ci := 4) (v := .ref (am 1)) (C := R_M) (T := F_M) (N := 12) hx hb htb in_M hown hK hP 0 rfl rfl 2 (by decide) (htb _ wd_413) (fun _ h9 => h9) rfl d_M_loadOf_50 ?_
    refine lv_iload_n hx hb d_M_loadOf_53 rfl (lv_at hl 2 rfl) ?_
    refine bz_lald (v := lN (bz_l t a)) hx hb hK hP 1 1 rfl rfl (a9 := a) (by omega) (by decide) (rfl) d_M_loadOf_54 ?_
    refine bz_rl (y := lN (bz_w t a r)) (bz_w_n hq) ?_
    exact W.lret (v := lN (bz_w t a r)) hx hb hr (fun t9 ht9 hW => ⟨lN (bz_w t a r), rfl, rfl, ht9⟩) (fun _ h => nomatch h) d_M_loadOf_55
  · skip
    have hq := bz_i_ne c_22
    refine lv_lload_n hx hb d_M_loadOf_25 rfl (lv_at hl 0 rfl) ?_
    refine lv_ldc2 (v := 10) hx hb hown (htb _ wd_511) d_M_loadOf_26 ?_
    refine lv_ldiv hx hb d_M_loadOf_29 (by decide) ?_
    refine bz_rl (y := lN (9 * bz_l t a / 10)) (pk_lDiv (b := 10) (by omega) (by omega) (by omega)) ?_
    refine lv_lload_n hx hb d_M_loadOf_30 rfl (lv_at hl 0 rfl) ?_
    refine lv_ldc2 (v := 10) hx hb hown (htb _ wd_511) d_M_loadOf_31 ?_
    refine lv_lrem hx hb d_M_loadOf_34 (by decide) ?_
    refine bz_rl (y := lN (9 * bz_l t a % 10)) (pk_lRem (b := 10) (by omega) (by omega) (by omega)) ?_
    refine lv_lconst (v := 0) hx hb d_M_loadOf_35 (by decide) ?_
    refine W.lcmp hx hb d_M_loadOf_36 ?_
    refine lv_if_le (tgt := 44) hx hb d_M_loadOf_37 (by decide) (fun c_37 => ?_) (fun c_37 => ?_)
    · skip
      have hm : ¬ 0 < 9 * bz_l t a % 10 := Nat.not_lt.mpr ((bz_lc_le (b := 0) (by omega) (by omega)).mp c_37)
      refine lv_lconst (v := 0) hx hb d_M_loadOf_44 (by decide) ?_
      refine lv_ladd hx hb d_M_loadOf_45 ?_
      refine bz_rl (y := lN (bz_w t a r)) (by rw [show (0 : Int64) = lN 0 from rfl, lN_add, bz_w_m hq, if_neg hm]) ?_
      refine lv_goto (tgt := 55) hx hb d_M_loadOf_46 (by decide) ?_
      exact W.lret (v := lN (bz_w t a r)) hx hb hr (fun t9 ht9 hW => ⟨lN (bz_w t a r), rfl, rfl, ht9⟩) (fun _ h => nomatch h) d_M_loadOf_55
    · skip
      have hm : 0 < 9 * bz_l t a % 10 := Nat.lt_of_not_le fun z => c_37 ((bz_lc_le (b := 0) (by omega) (by omega)).mpr z)
      refine lv_lconst (v := 1) hx hb d_M_loadOf_40 (by decide) ?_
      refine lv_goto (tgt := 45) hx hb d_M_loadOf_41 (by decide) ?_
      refine lv_ladd hx hb d_M_loadOf_45 ?_
      refine bz_rl (y := lN (bz_w t a r)) (by rw [lN_1, bz_w_m hq, if_pos hm]) ?_
      refine lv_goto (tgt := 55) hx hb d_M_loadOf_46 (by decide) ?_
      exact W.lret (v := lN (bz_w t a r)) hx hb hr (fun t9 ht9 hW => ⟨lN (bz_w t a r), rfl, rfl, ht9⟩) (fun _ h => nomatch h) d_M_loadOf_55

set_option maxHeartbeats 4000000 in
set_option maxRecDepth 100000 in
/-- roundLoad of share -/
theorem c_M_roundLoad_share (l : Launch) (dC : Nat → ClassId) (dI : Nat → Nat → Nat) (am : Nat → Nat) (cI cL cZ : ClassId) (t : bz_T) (th sv ex : Int32) (f : Nat → Nat) (S2 S3 : Nat → Int32) (ht : bz_ok t) (r : Nat) (hr4 : r < 4) (hf : ∀ a, a < bz_n t → f a < 4) : Met l y_M_roundLoad w_M_roundLoad ({ frames := 1, cells := 0, slots := 0, locals := 24 }) (bz_Pr (dC, dI) [(cI, .int), (cL, .long), (cZ, .boolean)] (bz_wM am cI cL cZ (bz_tM t) (th, sv, ex) ((fun a => nI (f a)), S2, S3)) [.ref (am 0), .ref (am 6), .int (nI r)]) (vp_Sl (fun r9 => r9 = lN (bz_ld t (bz_fu f) r))) 0 0 (fun _ => False) := by
  refine Met.ofW (cc := b_M_roundLoad) (maxL := 6) (ret := (some .long)) (by decide) rfl ?_
  intro p e s m args below meth c s₁ B hml hv
  obtain ⟨rfl, hP, hK, hN⟩ := hv
  have hx := B.exec
  have hb := B.bytes
  have hr := B.returns
  have hts := atoms_spec (ws := w_M_roundLoad) B.pre
  have hown : s.vm.findClass R_M = some m.cls := findClass_of_methodNamed B.named
  have htb : ∀ w ∈ bz_tb, w.before _ s = true := fun w h => hts w (List.mem_cons_of_mem _ h)
  have hlocks := B.notSynchronized
  have hl := lv_entry ([.ref (am 0), .ref (am 6), .int (nI r)]) (n := 6) (Nat.le_of_ble_eq_true rfl)
  rw [lg_entry_eq]
  generalize (lg_sl ([.ref (am 0), .ref (am 6), .int (nI r)]) ++ List.replicate (6 - (lg_sl ([.ref (am 0), .ref (am 6), .int (nI r)])).length) Slot.unset).toArray = ls at hl ⊢
  have hl : lv_has ls 6 [(0, .ref (am 0)), (1, .ref (am 6)), (2, .int (nI r))] := hl
  have hn30 := ht.1
  refine lv_lconst (v := 0) hx hb d_M_roundLoad_0 (by decide) ?_
  refine bz_rl (y := lN (bz_lk t (bz_fu f) r 0)) (rfl) ?_
  refine lv_lstore_n (lv' := [(3, .long (lN (bz_lk t (bz_fu f) r 0))), (0, .ref (am 0)), (1, .ref (am 6)), (2, .int (nI r))]) hx hb d_M_roundLoad_1 rfl hl (by decide) rfl (fun ls hl => ?_)
  refine lv_iconst (v := nI 0) hx hb d_M_roundLoad_2 (by decide) ?_
  refine lv_istore (lv' := [(5, .int (nI 0)), (3, .long (lN (bz_lk t (bz_fu f) r 0))), (0, .ref (am 0)), (1, .ref (am 6)), (2, .int (nI r))]) hx hb d_M_roundLoad_3 hl (by decide) rfl (fun ls hl => ?_)
  have lp : ∀ (k9 : Nat) (i : Nat), bz_n t - i < k9 → (i ≤ bz_n t) → ∀ (ls : Array Slot), lv_has ls 6 [(0, .ref (am 0)), (1, .ref (am 6)), (2, .int (nI r)), (3, .long (lN (bz_lk t (bz_fu f) r i))), (5, .int (nI i))] → W p l e (headSpec w_M_roundLoad ({ frames := 1, cells := 0, slots := 0, locals := 24 })).room s m ([.ref (am 0), .ref (am 6), .int (nI r)]).toArray below meth c s.heap [] 0 0 (MQ below (vp_Sl (fun r9 => r9 = lN (bz_ld t (bz_fu f) r))) ([.ref (am 0), .ref (am 6), .int (nI r)]).toArray s 0 0 (fun _ => False)) (F0 m 5 ls []) := by
    intro k9
    induction k9 with
    | zero =>
      intro i h9
      exact absurd h9 (Nat.not_lt_zero _)
    | succ k9 ihlp =>
      intro i h9_lp hi ls hl
      refine lv_iload hx hb d_M_roundLoad_5 (lv_at hl 4 rfl) ?_
      refine lv_aload_n hx hb d_M_roundLoad_7 rfl (lv_at hl 0 rfl) ?_
      refine va_get (D := (dC, dI)) (ci := 4) (v := .int (nI (bz_n t))) (C := R_M) (T := F_M) (N := 12) hx hb htb in_M hown hK hP 0 rfl rfl 1 (by decide) (htb _ wd_412) (fun _ h9 => h9) rfl d_M_roundLoad_8 ?_
      refine lv_icmp_ge (tgt := 42) hx hb d_M_roundLoad_11 (by decide) (fun c_11 => ?_) (fun c_11 => ?_)
      · skip
        have hin : i = bz_n t := by have := (nI_leI (by omega) (by omega)).mp c_11; omega
        refine lv_lload_n hx hb d_M_roundLoad_42 rfl (lv_at hl 3 rfl) ?_
        exact W.lret (v := lN (bz_lk t (bz_fu f) r i)) hx hb hr (fun t9 ht9 hW => ⟨lN (bz_lk t (bz_fu f) r i), rfl, by rw [hin]; rfl, ht9⟩) (fun _ h => nomatch h) d_M_roundLoad_43
      · skip
        have hin : i < bz_n t := Nat.lt_of_not_le fun z => c_11 ((nI_leI (by omega) (by omega)).mpr z)
        have hfi := hf i hin
        refine lv_aload_n hx hb d_M_roundLoad_14 rfl (lv_at hl 1 rfl) ?_
        refine lv_iload hx hb d_M_roundLoad_15 (lv_at hl 4 rfl) ?_
        refine bz_iald (v := nI (f i)) hx hb hK hP 6 0 rfl rfl (a9 := i) (by omega) (by decide) (rfl) d_M_roundLoad_17 ?_
        refine lv_iload_n hx hb d_M_roundLoad_18 rfl (lv_at hl 2 rfl) ?_
        refine lv_icmp_ne (tgt := 34) hx hb d_M_roundLoad_19 (by decide) (fun c_19 => ?_) (fun c_19 => ?_)
        · skip
          have hq : bz_in t (bz_fu f) r i = false := by rw [bz_inf hin]; exact decide_eq_false fun z => c_19 (by rw [z])
          refine lv_lload_n hx hb d_M_roundLoad_34 rfl (lv_at hl 3 rfl) ?_
          refine bz_rl (y := lN (bz_lk t (bz_fu f) r (i + 1))) (by rw [bz_lk_n hq]) ?_
          refine lv_lstore_n (lv' := [(3, .long (lN (bz_lk t (bz_fu f) r (i + 1)))), (0, .ref (am 0)), (1, .ref (am 6)), (2, .int (nI r)), (5, .int (nI i))]) hx hb d_M_roundLoad_35 rfl hl (by decide) rfl (fun ls hl => ?_)
          refine lv_iinc (v := nI (i + 1)) (lv' := [(5, .int (nI (i + 1))), (3, .long (lN (bz_lk t (bz_fu f) r (i + 1)))), (0, .ref (am 0)), (1, .ref (am 6)), (2, .int (nI r))]) hx hb d_M_roundLoad_36 hl (k := 4) rfl (nI_1 _) (by decide) rfl (fun ls hl => ?_)
          refine lv_goto (tgt := 5) hx hb d_M_roundLoad_39 (by decide) ?_
          exact ihlp (i + 1) (by omega) (by omega) ls (lv_sub hl [2, 3, 4, 1, 0] rfl)
        · skip
          have hq : bz_in t (bz_fu f) r i = true := by rw [bz_inf hin]; exact decide_eq_true ((nI_eq (by omega) (by omega)).mp c_19)
          refine lv_lload_n hx hb d_M_roundLoad_22 rfl (lv_at hl 3 rfl) ?_
          refine lv_aload_n hx hb d_M_roundLoad_23 rfl (lv_at hl 0 rfl) ?_
          refine lv_iload hx hb d_M_roundLoad_24 (lv_at hl 4 rfl) ?_
          refine lv_iload_n hx hb d_M_roundLoad_26 rfl (lv_at hl 2 rfl) ?_
          refine bz_sl (va_runV (As := [.int (nI i), .int (nI r)]) (rest := [.long (lN (bz_lk t (bz_fu f) r i))]) ⟨hx, hb, hml, hown, htb⟩ (c_M_loadOf l dC dI am cI cL cZ t th sv ex (fun a => nI (f a)) S2 S3 ht _ _ (by omega) (by omega)) (cwV 2 htb (bz_gV wd_509 wd_506 wd_508 wd_11 wd_23) rfl rfl rfl (by decide +kernel) ⟨Nat.le_of_ble_eq_true rfl, Nat.le_of_ble_eq_true rfl⟩) (bz_rv hN hK hP (q0 := 0) rfl rfl) rfl rfl hl.1 rfl (lv_room (Nat.le_of_ble_eq_true rfl)) d_M_roundLoad_27 ⟨Nat.zero_le _, Nat.zero_le _⟩) ?_
          refine lv_ladd hx hb d_M_roundLoad_30 ?_
          refine bz_rl (y := lN (bz_lk t (bz_fu f) r (i + 1))) (by rw [lN_add, bz_lk_y hq]) ?_
          refine lv_goto (tgt := 35) hx hb d_M_roundLoad_31 (by decide) ?_
          refine lv_lstore_n (lv' := [(3, .long (lN (bz_lk t (bz_fu f) r (i + 1)))), (0, .ref (am 0)), (1, .ref (am 6)), (2, .int (nI r)), (5, .int (nI i))]) hx hb d_M_roundLoad_35 rfl hl (by decide) rfl (fun ls hl => ?_)
          refine lv_iinc (v := nI (i + 1)) (lv' := [(5, .int (nI (i + 1))), (3, .long (lN (bz_lk t (bz_fu f) r (i + 1)))), (0, .ref (am 0)), (1, .ref (am 6)), (2, .int (nI r))]) hx hb d_M_roundLoad_36 hl (k := 4) rfl (nI_1 _) (by decide) rfl (fun ls hl => ?_)
          refine lv_goto (tgt := 5) hx hb d_M_roundLoad_39 (by decide) ?_
          exact ihlp (i + 1) (by omega) (by omega) ls (lv_sub hl [2, 3, 4, 1, 0] rfl)
  exact lp _ 0 (Nat.lt_succ_self _) (by omega) ls (lv_sub hl [2, 3, 4, 1, 0] rfl)

set_option maxHeartbeats 4000000 in
set_option maxRecDepth 100000 in
/-- roundLoad of tried -/
theorem c_M_roundLoad_tried (l : Launch) (dC : Nat → ClassId) (dI : Nat → Nat → Nat) (am : Nat → Nat) (cI cL cZ : ClassId) (t : bz_T) (th sv ex : Int32) (f : Nat → Nat) (S2 S3 : Nat → Int32) (ht : bz_ok t) (r : Nat) (hr4 : r < 4) (hf : ∀ a, a < bz_n t → f a < 4) : Met l y_M_roundLoad w_M_roundLoad ({ frames := 1, cells := 0, slots := 0, locals := 24 }) (bz_Pr (dC, dI) [(cI, .int), (cL, .long), (cZ, .boolean)] (bz_wM am cI cL cZ (bz_tM t) (th, sv, ex) (S2, (fun a => nI (f a)), S3)) [.ref (am 0), .ref (am 7), .int (nI r)]) (vp_Sl (fun r9 => r9 = lN (bz_ld t (bz_fu f) r))) 0 0 (fun _ => False) := by
  refine Met.ofW (cc := b_M_roundLoad) (maxL := 6) (ret := (some .long)) (by decide) rfl ?_
  intro p e s m args below meth c s₁ B hml hv
  obtain ⟨rfl, hP, hK, hN⟩ := hv
  have hx := B.exec
  have hb := B.bytes
  have hr := B.returns
  have hts := atoms_spec (ws := w_M_roundLoad) B.pre
  have hown : s.vm.findClass R_M = some m.cls := findClass_of_methodNamed B.named
  have htb : ∀ w ∈ bz_tb, w.before _ s = true := fun w h => hts w (List.mem_cons_of_mem _ h)
  have hlocks := B.notSynchronized
  have hl := lv_entry ([.ref (am 0), .ref (am 7), .int (nI r)]) (n := 6) (Nat.le_of_ble_eq_true rfl)
  rw [lg_entry_eq]
  generalize (lg_sl ([.ref (am 0), .ref (am 7), .int (nI r)]) ++ List.replicate (6 - (lg_sl ([.ref (am 0), .ref (am 7), .int (nI r)])).length) Slot.unset).toArray = ls at hl ⊢
  have hl : lv_has ls 6 [(0, .ref (am 0)), (1, .ref (am 7)), (2, .int (nI r))] := hl
  have hn30 := ht.1
  refine lv_lconst (v := 0) hx hb d_M_roundLoad_0 (by decide) ?_
  refine bz_rl (y := lN (bz_lk t (bz_fu f) r 0)) (rfl) ?_
  refine lv_lstore_n (lv' := [(3, .long (lN (bz_lk t (bz_fu f) r 0))), (0, .ref (am 0)), (1, .ref (am 7)), (2, .int (nI r))]) hx hb d_M_roundLoad_1 rfl hl (by decide) rfl (fun ls hl => ?_)
  refine lv_iconst (v := nI 0) hx hb d_M_roundLoad_2 (by decide) ?_
  refine lv_istore (lv' := [(5, .int (nI 0)), (3, .long (lN (bz_lk t (bz_fu f) r 0))), (0, .ref (am 0)), (1, .ref (am 7)), (2, .int (nI r))]) hx hb d_M_roundLoad_3 hl (by decide) rfl (fun ls hl => ?_)
  have lp : ∀ (k9 : Nat) (i : Nat), bz_n t - i < k9 → (i ≤ bz_n t) → ∀ (ls : Array Slot), lv_has ls 6 [(0, .ref (am 0)), (1, .ref (am 7)), (2, .int (nI r)), (3, .long (lN (bz_lk t (bz_fu f) r i))), (5, .int (nI i))] → W p l e (headSpec w_M_roundLoad ({ frames := 1, cells := 0, slots := 0, locals := 24 })).room s m ([.ref (am 0), .ref (am 7), .int (nI r)]).toArray below meth c s.heap [] 0 0 (MQ below (vp_Sl (fun r9 => r9 = lN (bz_ld t (bz_fu f) r))) ([.ref (am 0), .ref (am 7), .int (nI r)]).toArray s 0 0 (fun _ => False)) (F0 m 5 ls []) := by
    intro k9
    induction k9 with
    | zero =>
      intro i h9
      exact absurd h9 (Nat.not_lt_zero _)
    | succ k9 ihlp =>
      intro i h9_lp hi ls hl
      refine lv_iload hx hb d_M_roundLoad_5 (lv_at hl 4 rfl) ?_
      refine lv_aload_n hx hb d_M_roundLoad_7 rfl (lv_at hl 0 rfl) ?_
      refine va_get (D := (dC, dI)) (ci := 4) (v := .int (nI (bz_n t))) (C := R_M) (T := F_M) (N := 12) hx hb htb in_M hown hK hP 0 rfl rfl 1 (by decide) (htb _ wd_412) (fun _ h9 => h9) rfl d_M_roundLoad_8 ?_
      refine lv_icmp_ge (tgt := 42) hx hb d_M_roundLoad_11 (by decide) (fun c_11 => ?_) (fun c_11 => ?_)
      · skip
        have hin : i = bz_n t := by have := (nI_leI (by omega) (by omega)).mp c_11; omega
        refine lv_lload_n hx hb d_M_roundLoad_42 rfl (lv_at hl 3 rfl) ?_
        exact W.lret (v := lN (bz_lk t (bz_fu f) r i)) hx hb hr (fun t9 ht9 hW => ⟨lN (bz_lk t (bz_fu f) r i), rfl, by rw [hin]; rfl, ht9⟩) (fun _ h => nomatch h) d_M_roundLoad_43
      · skip
        have hin : i < bz_n t := Nat.lt_of_not_le fun z => c_11 ((nI_leI (by omega) (by omega)).mpr z)
        have hfi := hf i hin
        refine lv_aload_n hx hb d_M_roundLoad_14 rfl (lv_at hl 1 rfl) ?_
        refine lv_iload hx hb d_M_roundLoad_15 (lv_at hl 4 rfl) ?_
        refine bz_iald (v := nI (f i)) hx hb hK hP 7 0 rfl rfl (a9 := i) (by omega) (by decide) (rfl) d_M_roundLoad_17 ?_
        refine lv_iload_n hx hb d_M_roundLoad_18 rfl (lv_at hl 2 rfl) ?_
        refine lv_icmp_ne (tgt := 34) hx hb d_M_roundLoad_19 (by decide) (fun c_19 => ?_) (fun c_19 => ?_)
        · skip
          have hq : bz_in t (bz_fu f) r i = false := by rw [bz_inf hin]; exact decide_eq_false fun z => c_19 (by rw [z])
          refine lv_lload_n hx hb d_M_roundLoad_34 rfl (lv_at hl 3 rfl) ?_
          refine bz_rl (y := lN (bz_lk t (bz_fu f) r (i + 1))) (by rw [bz_lk_n hq]) ?_
          refine lv_lstore_n (lv' := [(3, .long (lN (bz_lk t (bz_fu f) r (i + 1)))), (0, .ref (am 0)), (1, .ref (am 7)), (2, .int (nI r)), (5, .int (nI i))]) hx hb d_M_roundLoad_35 rfl hl (by decide) rfl (fun ls hl => ?_)
          refine lv_iinc (v := nI (i + 1)) (lv' := [(5, .int (nI (i + 1))), (3, .long (lN (bz_lk t (bz_fu f) r (i + 1)))), (0, .ref (am 0)), (1, .ref (am 7)), (2, .int (nI r))]) hx hb d_M_roundLoad_36 hl (k := 4) rfl (nI_1 _) (by decide) rfl (fun ls hl => ?_)
          refine lv_goto (tgt := 5) hx hb d_M_roundLoad_39 (by decide) ?_
          exact ihlp (i + 1) (by omega) (by omega) ls (lv_sub hl [2, 3, 4, 1, 0] rfl)
        · skip
          have hq : bz_in t (bz_fu f) r i = true := by rw [bz_inf hin]; exact decide_eq_true ((nI_eq (by omega) (by omega)).mp c_19)
          refine lv_lload_n hx hb d_M_roundLoad_22 rfl (lv_at hl 3 rfl) ?_
          refine lv_aload_n hx hb d_M_roundLoad_23 rfl (lv_at hl 0 rfl) ?_
          refine lv_iload hx hb d_M_roundLoad_24 (lv_at hl 4 rfl) ?_
          refine lv_iload_n hx hb d_M_roundLoad_26 rfl (lv_at hl 2 rfl) ?_
          refine bz_sl (va_runV (As := [.int (nI i), .int (nI r)]) (rest := [.long (lN (bz_lk t (bz_fu f) r i))]) ⟨hx, hb, hml, hown, htb⟩ (c_M_loadOf l dC dI am cI cL cZ t th sv ex S2 (fun a => nI (f a)) S3 ht _ _ (by omega) (by omega)) (cwV 2 htb (bz_gV wd_509 wd_506 wd_508 wd_11 wd_23) rfl rfl rfl (by decide +kernel) ⟨Nat.le_of_ble_eq_true rfl, Nat.le_of_ble_eq_true rfl⟩) (bz_rv hN hK hP (q0 := 0) rfl rfl) rfl rfl hl.1 rfl (lv_room (Nat.le_of_ble_eq_true rfl)) d_M_roundLoad_27 ⟨Nat.zero_le _, Nat.zero_le _⟩) ?_
          refine lv_ladd hx hb d_M_roundLoad_30 ?_
          refine bz_rl (y := lN (bz_lk t (bz_fu f) r (i + 1))) (by rw [lN_add, bz_lk_y hq]) ?_
          refine lv_goto (tgt := 35) hx hb d_M_roundLoad_31 (by decide) ?_
          refine lv_lstore_n (lv' := [(3, .long (lN (bz_lk t (bz_fu f) r (i + 1)))), (0, .ref (am 0)), (1, .ref (am 7)), (2, .int (nI r)), (5, .int (nI i))]) hx hb d_M_roundLoad_35 rfl hl (by decide) rfl (fun ls hl => ?_)
          refine lv_iinc (v := nI (i + 1)) (lv' := [(5, .int (nI (i + 1))), (3, .long (lN (bz_lk t (bz_fu f) r (i + 1)))), (0, .ref (am 0)), (1, .ref (am 7)), (2, .int (nI r))]) hx hb d_M_roundLoad_36 hl (k := 4) rfl (nI_1 _) (by decide) rfl (fun ls hl => ?_)
          refine lv_goto (tgt := 5) hx hb d_M_roundLoad_39 (by decide) ?_
          exact ihlp (i + 1) (by omega) (by omega) ls (lv_sub hl [2, 3, 4, 1, 0] rfl)
  exact lp _ 0 (Nat.lt_succ_self _) (by omega) ls (lv_sub hl [2, 3, 4, 1, 0] rfl)

set_option maxHeartbeats 4000000 in
set_option maxRecDepth 100000 in
/-- greatest of share -/
theorem c_M_greatest_share (l : Launch) (dC : Nat → ClassId) (dI : Nat → Nat → Nat) (am : Nat → Nat) (cI cL cZ : ClassId) (t : bz_T) (th sv ex : Int32) (f : Nat → Nat) (S2 S3 : Nat → Int32) (ht : bz_ok t) (hf : ∀ a, a < bz_n t → f a < 4) : Met l y_M_greatest w_M_greatest ({ frames := 2, cells := 0, slots := 0, locals := 49 }) (bz_Pr (dC, dI) [(cI, .int), (cL, .long), (cZ, .boolean)] (bz_wM am cI cL cZ (bz_tM t) (th, sv, ex) ((fun a => nI (f a)), S2, S3)) [.ref (am 0), .ref (am 6)]) (vp_Sl (fun r9 => r9 = lN (bz_gl t (bz_fu f)))) 0 0 (fun _ => False) := by
  refine Met.ofW (cc := b_M_greatest) (maxL := 7) (ret := (some .long)) (by decide) rfl ?_
  intro p e s m args below meth c s₁ B hml hv
  obtain ⟨rfl, hP, hK, hN⟩ := hv
  have hx := B.exec
  have hb := B.bytes
  have hr := B.returns
  have hts := atoms_spec (ws := w_M_greatest) B.pre
  have hown : s.vm.findClass R_M = some m.cls := findClass_of_methodNamed B.named
  have htb : ∀ w ∈ bz_tb, w.before _ s = true := fun w h => hts w (List.mem_cons_of_mem _ h)
  have hlocks := B.notSynchronized
  have hl := lv_entry ([.ref (am 0), .ref (am 6)]) (n := 7) (Nat.le_of_ble_eq_true rfl)
  rw [lg_entry_eq]
  generalize (lg_sl ([.ref (am 0), .ref (am 6)]) ++ List.replicate (7 - (lg_sl ([.ref (am 0), .ref (am 6)])).length) Slot.unset).toArray = ls at hl ⊢
  have hl : lv_has ls 7 [(0, .ref (am 0)), (1, .ref (am 6))] := hl
  refine lv_lconst (v := 0) hx hb d_M_greatest_0 (by decide) ?_
  refine bz_rl (y := lN (bz_gm t (bz_fu f) 0)) (rfl) ?_
  refine lv_lstore_n (lv' := [(2, .long (lN (bz_gm t (bz_fu f) 0))), (0, .ref (am 0)), (1, .ref (am 6))]) hx hb d_M_greatest_1 rfl hl (by decide) rfl (fun ls hl => ?_)
  refine lv_iconst (v := nI 0) hx hb d_M_greatest_2 (by decide) ?_
  refine lv_istore (lv' := [(4, .int (nI 0)), (2, .long (lN (bz_gm t (bz_fu f) 0))), (0, .ref (am 0)), (1, .ref (am 6))]) hx hb d_M_greatest_3 hl (by decide) rfl (fun ls hl => ?_)
  have lp : ∀ (k9 : Nat) (i : Nat), 4 - i < k9 → (i ≤ 4) → ∀ (ls : Array Slot), lv_has ls 7 [(0, .ref (am 0)), (1, .ref (am 6)), (2, .long (lN (bz_gm t (bz_fu f) i))), (4, .int (nI i))] → W p l e (headSpec w_M_greatest ({ frames := 2, cells := 0, slots := 0, locals := 49 })).room s m ([.ref (am 0), .ref (am 6)]).toArray below meth c s.heap [] 0 0 (MQ below (vp_Sl (fun r9 => r9 = lN (bz_gl t (bz_fu f)))) ([.ref (am 0), .ref (am 6)]).toArray s 0 0 (fun _ => False)) (F0 m 5 ls []) := by
    intro k9
    induction k9 with
    | zero =>
      intro i h9
      exact absurd h9 (Nat.not_lt_zero _)
    | succ k9 ihlp =>
      intro i h9_lp hi ls hl
      refine lv_iload hx hb d_M_greatest_5 (lv_at hl 3 rfl) ?_
      refine lv_iconst (v := 4) hx hb d_M_greatest_7 (by decide) ?_
      refine lv_icmp_ge (tgt := 40) hx hb d_M_greatest_8 (by decide) (fun c_8 => ?_) (fun c_8 => ?_)
      · skip
        have hi4 : i = 4 := by have := (nI_leI (a := 4) (by omega) (by omega)).mp c_8; omega
        refine lv_lload_n hx hb d_M_greatest_40 rfl (lv_at hl 2 rfl) ?_
        exact W.lret (v := lN (bz_gm t (bz_fu f) i)) hx hb hr (fun t9 ht9 hW => ⟨lN (bz_gm t (bz_fu f) i), rfl, by rw [hi4, bz_gm_4], ht9⟩) (fun _ h => nomatch h) d_M_greatest_41
      · skip
        have hi4 : i < 4 := Nat.lt_of_not_le fun z => c_8 ((nI_leI (a := 4) (b := i) (by omega) (by omega)).mpr z)
        have hg1 := bz_gm_le ht (bz_fu f) i
        have hg2 := bz_ld_le ht (bz_fu f) i
        refine lv_aload_n hx hb d_M_greatest_11 rfl (lv_at hl 0 rfl) ?_
        refine lv_aload_n hx hb d_M_greatest_12 rfl (lv_at hl 1 rfl) ?_
        refine lv_iload hx hb d_M_greatest_13 (lv_at hl 3 rfl) ?_
        refine bz_sl (va_runV (As := [.ref (am 6), .int (nI i)]) (rest := []) ⟨hx, hb, hml, hown, htb⟩ (c_M_roundLoad_share l dC dI am cI cL cZ t th sv ex f S2 S3 ht _ (by omega) hf) (cwV 2 htb (bz_gV wd_505 wd_502 wd_504 wd_10 wd_23) rfl rfl rfl (by decide +kernel) ⟨Nat.le_of_ble_eq_true rfl, Nat.le_of_ble_eq_true rfl⟩) (bz_rv hN hK hP (q0 := 0) rfl rfl) rfl rfl hl.1 rfl (lv_room (Nat.le_of_ble_eq_true rfl)) d_M_greatest_15 ⟨Nat.zero_le _, Nat.zero_le _⟩) ?_
        refine lv_lstore (lv' := [(5, .long (lN (bz_ld t (bz_fu f) i))), (0, .ref (am 0)), (1, .ref (am 6)), (2, .long (lN (bz_gm t (bz_fu f) i))), (4, .int (nI i))]) hx hb d_M_greatest_18 hl (by decide) rfl (fun ls hl => ?_)
        refine lv_lload hx hb d_M_greatest_20 (lv_at hl 0 rfl) ?_
        refine lv_lload_n hx hb d_M_greatest_22 rfl (lv_at hl 3 rfl) ?_
        refine W.lcmp hx hb d_M_greatest_23 ?_
        refine lv_if_le (tgt := 32) hx hb d_M_greatest_24 (by decide) (fun c_24 => ?_) (fun c_24 => ?_)
        · skip
          have hq := (bz_lc_le (by omega) (by omega)).mp c_24
          refine lv_lload_n hx hb d_M_greatest_32 rfl (lv_at hl 3 rfl) ?_
          refine bz_rl (y := lN (bz_gm t (bz_fu f) (i + 1))) (by show _ = lN (max _ _); rw [Nat.max_eq_left (by omega)]) ?_
          refine lv_lstore_n (lv' := [(2, .long (lN (bz_gm t (bz_fu f) (i + 1)))), (5, .long (lN (bz_ld t (bz_fu f) i))), (0, .ref (am 0)), (1, .ref (am 6)), (4, .int (nI i))]) hx hb d_M_greatest_33 rfl hl (by decide) rfl (fun ls hl => ?_)
          refine lv_iinc (v := nI (i + 1)) (lv' := [(4, .int (nI (i + 1))), (2, .long (lN (bz_gm t (bz_fu f) (i + 1)))), (5, .long (lN (bz_ld t (bz_fu f) i))), (0, .ref (am 0)), (1, .ref (am 6))]) hx hb d_M_greatest_34 hl (k := 4) rfl (nI_1 _) (by decide) rfl (fun ls hl => ?_)
          refine lv_goto (tgt := 5) hx hb d_M_greatest_37 (by decide) ?_
          exact ihlp (i + 1) (by omega) (by omega) ls (lv_sub hl [3, 4, 1, 0] rfl)
        · skip
          have hq : bz_gm t (bz_fu f) i < bz_ld t (bz_fu f) i := Nat.lt_of_not_le fun z => c_24 ((bz_lc_le (by omega) (by omega)).mpr z)
          refine lv_lload hx hb d_M_greatest_27 (lv_at hl 0 rfl) ?_
          refine bz_rl (y := lN (bz_gm t (bz_fu f) (i + 1))) (by show _ = lN (max _ _); rw [Nat.max_eq_right (by omega)]) ?_
          refine lv_goto (tgt := 33) hx hb d_M_greatest_29 (by decide) ?_
          refine lv_lstore_n (lv' := [(2, .long (lN (bz_gm t (bz_fu f) (i + 1)))), (5, .long (lN (bz_ld t (bz_fu f) i))), (0, .ref (am 0)), (1, .ref (am 6)), (4, .int (nI i))]) hx hb d_M_greatest_33 rfl hl (by decide) rfl (fun ls hl => ?_)
          refine lv_iinc (v := nI (i + 1)) (lv' := [(4, .int (nI (i + 1))), (2, .long (lN (bz_gm t (bz_fu f) (i + 1)))), (5, .long (lN (bz_ld t (bz_fu f) i))), (0, .ref (am 0)), (1, .ref (am 6))]) hx hb d_M_greatest_34 hl (k := 4) rfl (nI_1 _) (by decide) rfl (fun ls hl => ?_)
          refine lv_goto (tgt := 5) hx hb d_M_greatest_37 (by decide) ?_
          exact ihlp (i + 1) (by omega) (by omega) ls (lv_sub hl [3, 4, 1, 0] rfl)
  exact lp _ 0 (Nat.lt_succ_self _) (by omega) ls (lv_sub hl [2, 3, 1, 0] rfl)

set_option maxHeartbeats 4000000 in
set_option maxRecDepth 100000 in
/-- greatest of tried -/
theorem c_M_greatest_tried (l : Launch) (dC : Nat → ClassId) (dI : Nat → Nat → Nat) (am : Nat → Nat) (cI cL cZ : ClassId) (t : bz_T) (th sv ex : Int32) (f : Nat → Nat) (S2 S3 : Nat → Int32) (ht : bz_ok t) (hf : ∀ a, a < bz_n t → f a < 4) : Met l y_M_greatest w_M_greatest ({ frames := 2, cells := 0, slots := 0, locals := 49 }) (bz_Pr (dC, dI) [(cI, .int), (cL, .long), (cZ, .boolean)] (bz_wM am cI cL cZ (bz_tM t) (th, sv, ex) (S2, (fun a => nI (f a)), S3)) [.ref (am 0), .ref (am 7)]) (vp_Sl (fun r9 => r9 = lN (bz_gl t (bz_fu f)))) 0 0 (fun _ => False) := by
  refine Met.ofW (cc := b_M_greatest) (maxL := 7) (ret := (some .long)) (by decide) rfl ?_
  intro p e s m args below meth c s₁ B hml hv
  obtain ⟨rfl, hP, hK, hN⟩ := hv
  have hx := B.exec
  have hb := B.bytes
  have hr := B.returns
  have hts := atoms_spec (ws := w_M_greatest) B.pre
  have hown : s.vm.findClass R_M = some m.cls := findClass_of_methodNamed B.named
  have htb : ∀ w ∈ bz_tb, w.before _ s = true := fun w h => hts w (List.mem_cons_of_mem _ h)
  have hlocks := B.notSynchronized
  have hl := lv_entry ([.ref (am 0), .ref (am 7)]) (n := 7) (Nat.le_of_ble_eq_true rfl)
  rw [lg_entry_eq]
  generalize (lg_sl ([.ref (am 0), .ref (am 7)]) ++ List.replicate (7 - (lg_sl ([.ref (am 0), .ref (am 7)])).length) Slot.unset).toArray = ls at hl ⊢
  have hl : lv_has ls 7 [(0, .ref (am 0)), (1, .ref (am 7))] := hl
  refine lv_lconst (v := 0) hx hb d_M_greatest_0 (by decide) ?_
  refine bz_rl (y := lN (bz_gm t (bz_fu f) 0)) (rfl) ?_
  refine lv_lstore_n (lv' := [(2, .long (lN (bz_gm t (bz_fu f) 0))), (0, .ref (am 0)), (1, .ref (am 7))]) hx hb d_M_greatest_1 rfl hl (by decide) rfl (fun ls hl => ?_)
  refine lv_iconst (v := nI 0) hx hb d_M_greatest_2 (by decide) ?_
  refine lv_istore (lv' := [(4, .int (nI 0)), (2, .long (lN (bz_gm t (bz_fu f) 0))), (0, .ref (am 0)), (1, .ref (am 7))]) hx hb d_M_greatest_3 hl (by decide) rfl (fun ls hl => ?_)
  have lp : ∀ (k9 : Nat) (i : Nat), 4 - i < k9 → (i ≤ 4) → ∀ (ls : Array Slot), lv_has ls 7 [(0, .ref (am 0)), (1, .ref (am 7)), (2, .long (lN (bz_gm t (bz_fu f) i))), (4, .int (nI i))] → W p l e (headSpec w_M_greatest ({ frames := 2, cells := 0, slots := 0, locals := 49 })).room s m ([.ref (am 0), .ref (am 7)]).toArray below meth c s.heap [] 0 0 (MQ below (vp_Sl (fun r9 => r9 = lN (bz_gl t (bz_fu f)))) ([.ref (am 0), .ref (am 7)]).toArray s 0 0 (fun _ => False)) (F0 m 5 ls []) := by
    intro k9
    induction k9 with
    | zero =>
      intro i h9
      exact absurd h9 (Nat.not_lt_zero _)
    | succ k9 ihlp =>
      intro i h9_lp hi ls hl
      refine lv_iload hx hb d_M_greatest_5 (lv_at hl 3 rfl) ?_
      refine lv_iconst (v := 4) hx hb d_M_greatest_7 (by decide) ?_
      refine lv_icmp_ge (tgt := 40) hx hb d_M_greatest_8 (by decide) (fun c_8 => ?_) (fun c_8 => ?_)
      · skip
        have hi4 : i = 4 := by have := (nI_leI (a := 4) (by omega) (by omega)).mp c_8; omega
        refine lv_lload_n hx hb d_M_greatest_40 rfl (lv_at hl 2 rfl) ?_
        exact W.lret (v := lN (bz_gm t (bz_fu f) i)) hx hb hr (fun t9 ht9 hW => ⟨lN (bz_gm t (bz_fu f) i), rfl, by rw [hi4, bz_gm_4], ht9⟩) (fun _ h => nomatch h) d_M_greatest_41
      · skip
        have hi4 : i < 4 := Nat.lt_of_not_le fun z => c_8 ((nI_leI (a := 4) (b := i) (by omega) (by omega)).mpr z)
        have hg1 := bz_gm_le ht (bz_fu f) i
        have hg2 := bz_ld_le ht (bz_fu f) i
        refine lv_aload_n hx hb d_M_greatest_11 rfl (lv_at hl 0 rfl) ?_
        refine lv_aload_n hx hb d_M_greatest_12 rfl (lv_at hl 1 rfl) ?_
        refine lv_iload hx hb d_M_greatest_13 (lv_at hl 3 rfl) ?_
        refine bz_sl (va_runV (As := [.ref (am 7), .int (nI i)]) (rest := []) ⟨hx, hb, hml, hown, htb⟩ (c_M_roundLoad_tried l dC dI am cI cL cZ t th sv ex f S2 S3 ht _ (by omega) hf) (cwV 2 htb (bz_gV wd_505 wd_502 wd_504 wd_10 wd_23) rfl rfl rfl (by decide +kernel) ⟨Nat.le_of_ble_eq_true rfl, Nat.le_of_ble_eq_true rfl⟩) (bz_rv hN hK hP (q0 := 0) rfl rfl) rfl rfl hl.1 rfl (lv_room (Nat.le_of_ble_eq_true rfl)) d_M_greatest_15 ⟨Nat.zero_le _, Nat.zero_le _⟩) ?_
        refine lv_lstore (lv' := [(5, .long (lN (bz_ld t (bz_fu f) i))), (0, .ref (am 0)), (1, .ref (am 7)), (2, .long (lN (bz_gm t (bz_fu f) i))), (4, .int (nI i))]) hx hb d_M_greatest_18 hl (by decide) rfl (fun ls hl => ?_)
        refine lv_lload hx hb d_M_greatest_20 (lv_at hl 0 rfl) ?_
        refine lv_lload_n hx hb d_M_greatest_22 rfl (lv_at hl 3 rfl) ?_
        refine W.lcmp hx hb d_M_greatest_23 ?_
        refine lv_if_le (tgt := 32) hx hb d_M_greatest_24 (by decide) (fun c_24 => ?_) (fun c_24 => ?_)
        · skip
          have hq := (bz_lc_le (by omega) (by omega)).mp c_24
          refine lv_lload_n hx hb d_M_greatest_32 rfl (lv_at hl 3 rfl) ?_
          refine bz_rl (y := lN (bz_gm t (bz_fu f) (i + 1))) (by show _ = lN (max _ _); rw [Nat.max_eq_left (by omega)]) ?_
          refine lv_lstore_n (lv' := [(2, .long (lN (bz_gm t (bz_fu f) (i + 1)))), (5, .long (lN (bz_ld t (bz_fu f) i))), (0, .ref (am 0)), (1, .ref (am 7)), (4, .int (nI i))]) hx hb d_M_greatest_33 rfl hl (by decide) rfl (fun ls hl => ?_)
          refine lv_iinc (v := nI (i + 1)) (lv' := [(4, .int (nI (i + 1))), (2, .long (lN (bz_gm t (bz_fu f) (i + 1)))), (5, .long (lN (bz_ld t (bz_fu f) i))), (0, .ref (am 0)), (1, .ref (am 7))]) hx hb d_M_greatest_34 hl (k := 4) rfl (nI_1 _) (by decide) rfl (fun ls hl => ?_)
          refine lv_goto (tgt := 5) hx hb d_M_greatest_37 (by decide) ?_
          exact ihlp (i + 1) (by omega) (by omega) ls (lv_sub hl [3, 4, 1, 0] rfl)
        · skip
          have hq : bz_gm t (bz_fu f) i < bz_ld t (bz_fu f) i := Nat.lt_of_not_le fun z => c_24 ((bz_lc_le (by omega) (by omega)).mpr z)
          refine lv_lload hx hb d_M_greatest_27 (lv_at hl 0 rfl) ?_
          refine bz_rl (y := lN (bz_gm t (bz_fu f) (i + 1))) (by show _ = lN (max _ _); rw [Nat.max_eq_right (by omega)]) ?_
          refine lv_goto (tgt := 33) hx hb d_M_greatest_29 (by decide) ?_
          refine lv_lstore_n (lv' := [(2, .long (lN (bz_gm t (bz_fu f) (i + 1)))), (5, .long (lN (bz_ld t (bz_fu f) i))), (0, .ref (am 0)), (1, .ref (am 7)), (4, .int (nI i))]) hx hb d_M_greatest_33 rfl hl (by decide) rfl (fun ls hl => ?_)
          refine lv_iinc (v := nI (i + 1)) (lv' := [(4, .int (nI (i + 1))), (2, .long (lN (bz_gm t (bz_fu f) (i + 1)))), (5, .long (lN (bz_ld t (bz_fu f) i))), (0, .ref (am 0)), (1, .ref (am 7))]) hx hb d_M_greatest_34 hl (k := 4) rfl (nI_1 _) (by decide) rfl (fun ls hl => ?_)
          refine lv_goto (tgt := 5) hx hb d_M_greatest_37 (by decide) ?_
          exact ihlp (i + 1) (by omega) (by omega) ls (lv_sub hl [3, 4, 1, 0] rfl)
  exact lp _ 0 (Nat.lt_succ_self _) (by omega) ls (lv_sub hl [2, 3, 1, 0] rfl)

set_option maxHeartbeats 4000000 in
set_option maxRecDepth 100000 in
/-- changedIn of share -/
theorem c_M_changedIn_share (l : Launch) (dC : Nat → ClassId) (dI : Nat → Nat → Nat) (am : Nat → Nat) (cI cL cZ : ClassId) (t : bz_T) (th sv ex : Int32) (f : Nat → Nat) (S2 S3 : Nat → Int32) (ht : bz_ok t) (hf : ∀ a, a < bz_n t → f a < 4) : Met l y_M_changedIn w_M_changedIn ({ frames := 0, cells := 0, slots := 0, locals := 0 }) (bz_Pr (dC, dI) [(cI, .int), (cL, .long), (cZ, .boolean)] (bz_wM am cI cL cZ (bz_tM t) (th, sv, ex) ((fun a => nI (f a)), S2, S3)) [.ref (am 0), .ref (am 6)]) (vp_Si (fun r9 => r9 = nI (bz_ch t (bz_fu f)))) 0 0 (fun _ => False) := by
  refine Met.ofW (cc := b_M_changedIn) (maxL := 4) (ret := (some .int)) (by decide) rfl ?_
  intro p e s m args below meth c s₁ B hml hv
  obtain ⟨rfl, hP, hK, hN⟩ := hv
  have hx := B.exec
  have hb := B.bytes
  have hr := B.returns
  have hts := atoms_spec (ws := w_M_changedIn) B.pre
  have hown : s.vm.findClass R_M = some m.cls := findClass_of_methodNamed B.named
  have htb : ∀ w ∈ bz_tb, w.before _ s = true := fun w h => hts w (List.mem_cons_of_mem _ h)
  have hlocks := B.notSynchronized
  have hl := lv_entry ([.ref (am 0), .ref (am 6)]) (n := 4) (Nat.le_of_ble_eq_true rfl)
  rw [lg_entry_eq]
  generalize (lg_sl ([.ref (am 0), .ref (am 6)]) ++ List.replicate (4 - (lg_sl ([.ref (am 0), .ref (am 6)])).length) Slot.unset).toArray = ls at hl ⊢
  have hl : lv_has ls 4 [(0, .ref (am 0)), (1, .ref (am 6))] := hl
  have hn30 := ht.1
  refine lv_iconst (v := nI 0) hx hb d_M_changedIn_0 (by decide) ?_
  refine lv_istore_n (lv' := [(2, .int (nI 0)), (0, .ref (am 0)), (1, .ref (am 6))]) hx hb d_M_changedIn_1 rfl hl (by decide) rfl (fun ls hl => ?_)
  refine lv_iconst (v := nI 0) hx hb d_M_changedIn_2 (by decide) ?_
  refine lv_istore_n (lv' := [(3, .int (nI 0)), (2, .int (nI 0)), (0, .ref (am 0)), (1, .ref (am 6))]) hx hb d_M_changedIn_3 rfl hl (by decide) rfl (fun ls hl => ?_)
  have lp : ∀ (k9 : Nat) (i : Nat), bz_n t - i < k9 → (i ≤ bz_n t) → ∀ (ls : Array Slot), lv_has ls 4 [(0, .ref (am 0)), (1, .ref (am 6)), (2, .int (nI (bz_ct (fun a => !(bz_fu f).2 a && decide ((bz_fu f).1 a ≠ bz_d t a)) i))), (3, .int (nI i))] → W p l e (headSpec w_M_changedIn ({ frames := 0, cells := 0, slots := 0, locals := 0 })).room s m ([.ref (am 0), .ref (am 6)]).toArray below meth c s.heap [] 0 0 (MQ below (vp_Si (fun r9 => r9 = nI (bz_ch t (bz_fu f)))) ([.ref (am 0), .ref (am 6)]).toArray s 0 0 (fun _ => False)) (F0 m 4 ls []) := by
    intro k9
    induction k9 with
    | zero =>
      intro i h9
      exact absurd h9 (Nat.not_lt_zero _)
    | succ k9 ihlp =>
      intro i h9_lp hi ls hl
      refine lv_iload_n hx hb d_M_changedIn_4 rfl (lv_at hl 3 rfl) ?_
      refine lv_aload_n hx hb d_M_changedIn_5 rfl (lv_at hl 0 rfl) ?_
      refine va_get (D := (dC, dI)) (ci := 4) (v := .int (nI (bz_n t))) (C := R_M) (T := F_M) (N := 12) hx hb htb in_M hown hK hP 0 rfl rfl 1 (by decide) (htb _ wd_412) (fun _ h9 => h9) rfl d_M_changedIn_6 ?_
      refine lv_icmp_ge (tgt := 38) hx hb d_M_changedIn_9 (by decide) (fun c_9 => ?_) (fun c_9 => ?_)
      · skip
        have hin : i = bz_n t := by have := (nI_leI (by omega) (by omega)).mp c_9; omega
        refine lv_iload_n hx hb d_M_changedIn_38 rfl (lv_at hl 2 rfl) ?_
        exact W.iret (v := nI (bz_ct (fun a => !(bz_fu f).2 a && decide ((bz_fu f).1 a ≠ bz_d t a)) i)) hx hb hr (fun t9 ht9 hW => ⟨nI (bz_ct (fun a => !(bz_fu f).2 a && decide ((bz_fu f).1 a ≠ bz_d t a)) i), rfl, by rw [hin]; rfl, ht9⟩) (fun _ h => nomatch h) d_M_changedIn_39
      · skip
        have hin : i < bz_n t := Nat.lt_of_not_le fun z => c_9 ((nI_leI (by omega) (by omega)).mpr z)
        have hfi := hf i hin
        have hdi := ht.2.2.1 i
        refine lv_aload_n hx hb d_M_changedIn_12 rfl (lv_at hl 1 rfl) ?_
        refine lv_iload_n hx hb d_M_changedIn_13 rfl (lv_at hl 3 rfl) ?_
        refine bz_iald (v := nI (f i)) hx hb hK hP 6 0 rfl rfl (a9 := i) (by omega) (by decide) (rfl) d_M_changedIn_14 ?_
        refine lv_aload_n hx hb d_M_changedIn_15 rfl (lv_at hl 0 rfl) ?_
        refine va_get (D := (dC, dI)) (ci := 4) (v := .ref (am 2)) (C := R_M) (T := F_M) (N := 12) hx hb htb in_M hown hK hP 0 rfl rfl 3 (by decide) (htb _ wd_414) (fun _ h9 => h9) rfl d_M_changedIn_16 ?_
        refine lv_iload_n hx hb d_M_changedIn_19 rfl (lv_at hl 3 rfl) ?_
        refine bz_iald (v := nI (bz_d t i)) hx hb hK hP 2 0 rfl rfl (a9 := i) (by omega) (by decide) (rfl) d_M_changedIn_20 ?_
        refine lv_icmp_eq (tgt := 30) hx hb d_M_changedIn_21 (by decide) (fun c_21 => ?_) (fun c_21 => ?_)
        · skip
          have hq : (fun a => !(bz_fu f).2 a && decide ((bz_fu f).1 a ≠ bz_d t a)) i = false := by show (true && decide (f i ≠ bz_d t i)) = false; rw [decide_eq_false (fun z => z ((nI_eq (by omega) (by omega)).mp c_21))]; rfl
          refine lv_iload_n hx hb d_M_changedIn_30 rfl (lv_at hl 2 rfl) ?_
          refine bz_ri (y := nI (bz_ct (fun a => !(bz_fu f).2 a && decide ((bz_fu f).1 a ≠ bz_d t a)) (i + 1))) (by rw [bz_ct_0 hq]) ?_
          refine lv_istore_n (lv' := [(2, .int (nI (bz_ct (fun a => !(bz_fu f).2 a && decide ((bz_fu f).1 a ≠ bz_d t a)) (i + 1)))), (0, .ref (am 0)), (1, .ref (am 6)), (3, .int (nI i))]) hx hb d_M_changedIn_31 rfl hl (by decide) rfl (fun ls hl => ?_)
          refine lv_iinc (v := nI (i + 1)) (lv' := [(3, .int (nI (i + 1))), (2, .int (nI (bz_ct (fun a => !(bz_fu f).2 a && decide ((bz_fu f).1 a ≠ bz_d t a)) (i + 1)))), (0, .ref (am 0)), (1, .ref (am 6))]) hx hb d_M_changedIn_32 hl (k := 3) rfl (nI_1 _) (by decide) rfl (fun ls hl => ?_)
          refine lv_goto (tgt := 4) hx hb d_M_changedIn_35 (by decide) ?_
          exact ihlp (i + 1) (by omega) (by omega) ls (lv_sub hl [2, 3, 1, 0] rfl)
        · skip
          have hq : (fun a => !(bz_fu f).2 a && decide ((bz_fu f).1 a ≠ bz_d t a)) i = true := by show (true && decide (f i ≠ bz_d t i)) = true; rw [decide_eq_true (show f i ≠ bz_d t i from fun z => c_21 (by rw [z]))]; rfl
          refine lv_iload_n hx hb d_M_changedIn_24 rfl (lv_at hl 2 rfl) ?_
          refine lv_iconst (v := 1) hx hb d_M_changedIn_25 (by decide) ?_
          refine lv_iadd hx hb d_M_changedIn_26 ?_
          refine bz_ri (y := nI (bz_ct (fun a => !(bz_fu f).2 a && decide ((bz_fu f).1 a ≠ bz_d t a)) (i + 1))) (by rw [bz_ct_1 hq]; exact nI_1 _) ?_
          refine lv_goto (tgt := 31) hx hb d_M_changedIn_27 (by decide) ?_
          refine lv_istore_n (lv' := [(2, .int (nI (bz_ct (fun a => !(bz_fu f).2 a && decide ((bz_fu f).1 a ≠ bz_d t a)) (i + 1)))), (0, .ref (am 0)), (1, .ref (am 6)), (3, .int (nI i))]) hx hb d_M_changedIn_31 rfl hl (by decide) rfl (fun ls hl => ?_)
          refine lv_iinc (v := nI (i + 1)) (lv' := [(3, .int (nI (i + 1))), (2, .int (nI (bz_ct (fun a => !(bz_fu f).2 a && decide ((bz_fu f).1 a ≠ bz_d t a)) (i + 1)))), (0, .ref (am 0)), (1, .ref (am 6))]) hx hb d_M_changedIn_32 hl (k := 3) rfl (nI_1 _) (by decide) rfl (fun ls hl => ?_)
          refine lv_goto (tgt := 4) hx hb d_M_changedIn_35 (by decide) ?_
          exact ihlp (i + 1) (by omega) (by omega) ls (lv_sub hl [2, 3, 1, 0] rfl)
  exact lp _ 0 (Nat.lt_succ_self _) (by omega) ls (lv_sub hl [2, 3, 1, 0] rfl)

set_option maxHeartbeats 4000000 in
set_option maxRecDepth 100000 in
/-- changedIn of tried -/
theorem c_M_changedIn_tried (l : Launch) (dC : Nat → ClassId) (dI : Nat → Nat → Nat) (am : Nat → Nat) (cI cL cZ : ClassId) (t : bz_T) (th sv ex : Int32) (f : Nat → Nat) (S2 S3 : Nat → Int32) (ht : bz_ok t) (hf : ∀ a, a < bz_n t → f a < 4) : Met l y_M_changedIn w_M_changedIn ({ frames := 0, cells := 0, slots := 0, locals := 0 }) (bz_Pr (dC, dI) [(cI, .int), (cL, .long), (cZ, .boolean)] (bz_wM am cI cL cZ (bz_tM t) (th, sv, ex) (S2, (fun a => nI (f a)), S3)) [.ref (am 0), .ref (am 7)]) (vp_Si (fun r9 => r9 = nI (bz_ch t (bz_fu f)))) 0 0 (fun _ => False) := by
  refine Met.ofW (cc := b_M_changedIn) (maxL := 4) (ret := (some .int)) (by decide) rfl ?_
  intro p e s m args below meth c s₁ B hml hv
  obtain ⟨rfl, hP, hK, hN⟩ := hv
  have hx := B.exec
  have hb := B.bytes
  have hr := B.returns
  have hts := atoms_spec (ws := w_M_changedIn) B.pre
  have hown : s.vm.findClass R_M = some m.cls := findClass_of_methodNamed B.named
  have htb : ∀ w ∈ bz_tb, w.before _ s = true := fun w h => hts w (List.mem_cons_of_mem _ h)
  have hlocks := B.notSynchronized
  have hl := lv_entry ([.ref (am 0), .ref (am 7)]) (n := 4) (Nat.le_of_ble_eq_true rfl)
  rw [lg_entry_eq]
  generalize (lg_sl ([.ref (am 0), .ref (am 7)]) ++ List.replicate (4 - (lg_sl ([.ref (am 0), .ref (am 7)])).length) Slot.unset).toArray = ls at hl ⊢
  have hl : lv_has ls 4 [(0, .ref (am 0)), (1, .ref (am 7))] := hl
  have hn30 := ht.1
  refine lv_iconst (v := nI 0) hx hb d_M_changedIn_0 (by decide) ?_
  refine lv_istore_n (lv' := [(2, .int (nI 0)), (0, .ref (am 0)), (1, .ref (am 7))]) hx hb d_M_changedIn_1 rfl hl (by decide) rfl (fun ls hl => ?_)
  refine lv_iconst (v := nI 0) hx hb d_M_changedIn_2 (by decide) ?_
  refine lv_istore_n (lv' := [(3, .int (nI 0)), (2, .int (nI 0)), (0, .ref (am 0)), (1, .ref (am 7))]) hx hb d_M_changedIn_3 rfl hl (by decide) rfl (fun ls hl => ?_)
  have lp : ∀ (k9 : Nat) (i : Nat), bz_n t - i < k9 → (i ≤ bz_n t) → ∀ (ls : Array Slot), lv_has ls 4 [(0, .ref (am 0)), (1, .ref (am 7)), (2, .int (nI (bz_ct (fun a => !(bz_fu f).2 a && decide ((bz_fu f).1 a ≠ bz_d t a)) i))), (3, .int (nI i))] → W p l e (headSpec w_M_changedIn ({ frames := 0, cells := 0, slots := 0, locals := 0 })).room s m ([.ref (am 0), .ref (am 7)]).toArray below meth c s.heap [] 0 0 (MQ below (vp_Si (fun r9 => r9 = nI (bz_ch t (bz_fu f)))) ([.ref (am 0), .ref (am 7)]).toArray s 0 0 (fun _ => False)) (F0 m 4 ls []) := by
    intro k9
    induction k9 with
    | zero =>
      intro i h9
      exact absurd h9 (Nat.not_lt_zero _)
    | succ k9 ihlp =>
      intro i h9_lp hi ls hl
      refine lv_iload_n hx hb d_M_changedIn_4 rfl (lv_at hl 3 rfl) ?_
      refine lv_aload_n hx hb d_M_changedIn_5 rfl (lv_at hl 0 rfl) ?_
      refine va_get (D := (dC, dI)) (ci := 4) (v := .int (nI (bz_n t))) (C := R_M) (T := F_M) (N := 12) hx hb htb in_M hown hK hP 0 rfl rfl 1 (by decide) (htb _ wd_412) (fun _ h9 => h9) rfl d_M_changedIn_6 ?_
      refine lv_icmp_ge (tgt := 38) hx hb d_M_changedIn_9 (by decide) (fun c_9 => ?_) (fun c_9 => ?_)
      · skip
        have hin : i = bz_n t := by have := (nI_leI (by omega) (by omega)).mp c_9; omega
        refine lv_iload_n hx hb d_M_changedIn_38 rfl (lv_at hl 2 rfl) ?_
        exact W.iret (v := nI (bz_ct (fun a => !(bz_fu f).2 a && decide ((bz_fu f).1 a ≠ bz_d t a)) i)) hx hb hr (fun t9 ht9 hW => ⟨nI (bz_ct (fun a => !(bz_fu f).2 a && decide ((bz_fu f).1 a ≠ bz_d t a)) i), rfl, by rw [hin]; rfl, ht9⟩) (fun _ h => nomatch h) d_M_changedIn_39
      · skip
        have hin : i < bz_n t := Nat.lt_of_not_le fun z => c_9 ((nI_leI (by omega) (by omega)).mpr z)
        have hfi := hf i hin
        have hdi := ht.2.2.1 i
        refine lv_aload_n hx hb d_M_changedIn_12 rfl (lv_at hl 1 rfl) ?_
        refine lv_iload_n hx hb d_M_changedIn_13 rfl (lv_at hl 3 rfl) ?_
        refine bz_iald (v := nI (f i)) hx hb hK hP 7 0 rfl rfl (a9 := i) (by omega) (by decide) (rfl) d_M_changedIn_14 ?_
        refine lv_aload_n hx hb d_M_changedIn_15 rfl (lv_at hl 0 rfl) ?_
        refine va_get (D := (dC, dI)) (ci := 4) (v := .ref (am 2)) (C := R_M) (T := F_M) (N := 12) hx hb htb in_M hown hK hP 0 rfl rfl 3 (by decide) (htb _ wd_414) (fun _ h9 => h9) rfl d_M_changedIn_16 ?_
        refine lv_iload_n hx hb d_M_changedIn_19 rfl (lv_at hl 3 rfl) ?_
        refine bz_iald (v := nI (bz_d t i)) hx hb hK hP 2 0 rfl rfl (a9 := i) (by omega) (by decide) (rfl) d_M_changedIn_20 ?_
        refine lv_icmp_eq (tgt := 30) hx hb d_M_changedIn_21 (by decide) (fun c_21 => ?_) (fun c_21 => ?_)
        · skip
          have hq : (fun a => !(bz_fu f).2 a && decide ((bz_fu f).1 a ≠ bz_d t a)) i = false := by show (true && decide (f i ≠ bz_d t i)) = false; rw [decide_eq_false (fun z => z ((nI_eq (by omega) (by omega)).mp c_21))]; rfl
          refine lv_iload_n hx hb d_M_changedIn_30 rfl (lv_at hl 2 rfl) ?_
          refine bz_ri (y := nI (bz_ct (fun a => !(bz_fu f).2 a && decide ((bz_fu f).1 a ≠ bz_d t a)) (i + 1))) (by rw [bz_ct_0 hq]) ?_
          refine lv_istore_n (lv' := [(2, .int (nI (bz_ct (fun a => !(bz_fu f).2 a && decide ((bz_fu f).1 a ≠ bz_d t a)) (i + 1)))), (0, .ref (am 0)), (1, .ref (am 7)), (3, .int (nI i))]) hx hb d_M_changedIn_31 rfl hl (by decide) rfl (fun ls hl => ?_)
          refine lv_iinc (v := nI (i + 1)) (lv' := [(3, .int (nI (i + 1))), (2, .int (nI (bz_ct (fun a => !(bz_fu f).2 a && decide ((bz_fu f).1 a ≠ bz_d t a)) (i + 1)))), (0, .ref (am 0)), (1, .ref (am 7))]) hx hb d_M_changedIn_32 hl (k := 3) rfl (nI_1 _) (by decide) rfl (fun ls hl => ?_)
          refine lv_goto (tgt := 4) hx hb d_M_changedIn_35 (by decide) ?_
          exact ihlp (i + 1) (by omega) (by omega) ls (lv_sub hl [2, 3, 1, 0] rfl)
        · skip
          have hq : (fun a => !(bz_fu f).2 a && decide ((bz_fu f).1 a ≠ bz_d t a)) i = true := by show (true && decide (f i ≠ bz_d t i)) = true; rw [decide_eq_true (show f i ≠ bz_d t i from fun z => c_21 (by rw [z]))]; rfl
          refine lv_iload_n hx hb d_M_changedIn_24 rfl (lv_at hl 2 rfl) ?_
          refine lv_iconst (v := 1) hx hb d_M_changedIn_25 (by decide) ?_
          refine lv_iadd hx hb d_M_changedIn_26 ?_
          refine bz_ri (y := nI (bz_ct (fun a => !(bz_fu f).2 a && decide ((bz_fu f).1 a ≠ bz_d t a)) (i + 1))) (by rw [bz_ct_1 hq]; exact nI_1 _) ?_
          refine lv_goto (tgt := 31) hx hb d_M_changedIn_27 (by decide) ?_
          refine lv_istore_n (lv' := [(2, .int (nI (bz_ct (fun a => !(bz_fu f).2 a && decide ((bz_fu f).1 a ≠ bz_d t a)) (i + 1)))), (0, .ref (am 0)), (1, .ref (am 7)), (3, .int (nI i))]) hx hb d_M_changedIn_31 rfl hl (by decide) rfl (fun ls hl => ?_)
          refine lv_iinc (v := nI (i + 1)) (lv' := [(3, .int (nI (i + 1))), (2, .int (nI (bz_ct (fun a => !(bz_fu f).2 a && decide ((bz_fu f).1 a ≠ bz_d t a)) (i + 1)))), (0, .ref (am 0)), (1, .ref (am 7))]) hx hb d_M_changedIn_32 hl (k := 3) rfl (nI_1 _) (by decide) rfl (fun ls hl => ?_)
          refine lv_goto (tgt := 4) hx hb d_M_changedIn_35 (by decide) ?_
          exact ihlp (i + 1) (by omega) (by omega) ls (lv_sub hl [2, 3, 1, 0] rfl)
  exact lp _ 0 (Nat.lt_succ_self _) (by omega) ls (lv_sub hl [2, 3, 1, 0] rfl)

set_option maxHeartbeats 4000000 in
set_option maxRecDepth 100000 in
/-- withHours -/
theorem c_M_withHours (l : Launch) (dC : Nat → ClassId) (dI : Nat → Nat → Nat) (am : Nat → Nat) (cI cL cZ : ClassId) (t : bz_T) (th sv ex : Int32) (S1 S2 S3 : Nat → Int32) (ht : bz_ok t) : Met l y_M_withHours w_M_withHours ({ frames := 0, cells := 0, slots := 0, locals := 0 }) (bz_Pr (dC, dI) [(cI, .int), (cL, .long), (cZ, .boolean)] (bz_wM am cI cL cZ (bz_tM t) (th, sv, ex) (S1, S2, S3)) [.ref (am 0)]) (vp_Si (fun r9 => r9 = nI (bz_ct (bz_wh t) 4))) 0 0 (fun _ => False) := by
  refine Met.ofW (cc := b_M_withHours) (maxL := 3) (ret := (some .int)) (by decide) rfl ?_
  intro p e s m args below meth c s₁ B hml hv
  obtain ⟨rfl, hP, hK, hN⟩ := hv
  have hx := B.exec
  have hb := B.bytes
  have hr := B.returns
  have hts := atoms_spec (ws := w_M_withHours) B.pre
  have hown : s.vm.findClass R_M = some m.cls := findClass_of_methodNamed B.named
  have htb : ∀ w ∈ bz_tb, w.before _ s = true := fun w h => hts w (List.mem_cons_of_mem _ h)
  have hlocks := B.notSynchronized
  have hl := lv_entry ([.ref (am 0)]) (n := 3) (Nat.le_of_ble_eq_true rfl)
  rw [lg_entry_eq]
  generalize (lg_sl ([.ref (am 0)]) ++ List.replicate (3 - (lg_sl ([.ref (am 0)])).length) Slot.unset).toArray = ls at hl ⊢
  have hl : lv_has ls 3 [(0, .ref (am 0))] := hl
  refine lv_iconst (v := nI 0) hx hb d_M_withHours_0 (by decide) ?_
  refine lv_istore_n (lv' := [(1, .int (nI 0)), (0, .ref (am 0))]) hx hb d_M_withHours_1 rfl hl (by decide) rfl (fun ls hl => ?_)
  refine lv_iconst (v := nI 0) hx hb d_M_withHours_2 (by decide) ?_
  refine lv_istore_n (lv' := [(2, .int (nI 0)), (1, .int (nI 0)), (0, .ref (am 0))]) hx hb d_M_withHours_3 rfl hl (by decide) rfl (fun ls hl => ?_)
  have lp : ∀ (k9 : Nat) (i : Nat), 4 - i < k9 → (i ≤ 4) → ∀ (ls : Array Slot), lv_has ls 3 [(0, .ref (am 0)), (1, .int (nI (bz_ct (bz_wh t) i))), (2, .int (nI i))] → W p l e (headSpec w_M_withHours ({ frames := 0, cells := 0, slots := 0, locals := 0 })).room s m ([.ref (am 0)]).toArray below meth c s.heap [] 0 0 (MQ below (vp_Si (fun r9 => r9 = nI (bz_ct (bz_wh t) 4))) ([.ref (am 0)]).toArray s 0 0 (fun _ => False)) (F0 m 4 ls []) := by
    intro k9
    induction k9 with
    | zero =>
      intro i h9
      exact absurd h9 (Nat.not_lt_zero _)
    | succ k9 ihlp =>
      intro i h9_lp hi ls hl
      refine lv_iload_n hx hb d_M_withHours_4 rfl (lv_at hl 2 rfl) ?_
      refine lv_iconst (v := 4) hx hb d_M_withHours_5 (by decide) ?_
      refine lv_icmp_ge (tgt := 34) hx hb d_M_withHours_6 (by decide) (fun c_6 => ?_) (fun c_6 => ?_)
      · skip
        have hi4 : i = 4 := by have := (nI_leI (a := 4) (by omega) (by omega)).mp c_6; omega
        refine lv_iload_n hx hb d_M_withHours_34 rfl (lv_at hl 1 rfl) ?_
        exact W.iret (v := nI (bz_ct (bz_wh t) i)) hx hb hr (fun t9 ht9 hW => ⟨nI (bz_ct (bz_wh t) i), rfl, by rw [hi4], ht9⟩) (fun _ h => nomatch h) d_M_withHours_35
      · skip
        have hi4 : i < 4 := Nat.lt_of_not_le fun z => c_6 ((nI_leI (a := 4) (b := i) (by omega) (by omega)).mpr z)
        refine lv_aload_n hx hb d_M_withHours_9 rfl (lv_at hl 0 rfl) ?_
        refine va_get (D := (dC, dI)) (ci := 4) (v := .ref (am 5)) (C := R_M) (T := F_M) (N := 12) hx hb htb in_M hown hK hP 0 rfl rfl 6 (by decide) (htb _ wd_417) (fun _ h9 => h9) rfl d_M_withHours_10 ?_
        refine lv_iload_n hx hb d_M_withHours_13 rfl (lv_at hl 2 rfl) ?_
        refine bz_lald (v := lN (bz_h t i)) hx hb hK hP 5 1 rfl rfl (a9 := i) (by omega) (by decide) (rfl) d_M_withHours_14 ?_
        refine lv_lconst (v := 0) hx hb d_M_withHours_15 (by decide) ?_
        refine W.lcmp hx hb d_M_withHours_16 ?_
        refine lv_if_le (tgt := 26) hx hb d_M_withHours_17 (by decide) (fun c_17 => ?_) (fun c_17 => ?_)
        · skip
          have hq : bz_h t i ≤ 0 := (bz_lc_le (b := 0) (by have := ht.2.2.2.2.2.2 i; omega) (by omega)).mp c_17
          refine lv_iload_n hx hb d_M_withHours_26 rfl (lv_at hl 1 rfl) ?_
          refine bz_ri (y := nI (bz_ct (bz_wh t) (i + 1))) (by rw [bz_ct_0 (by unfold bz_wh; exact decide_eq_false (by omega))]) ?_
          refine lv_istore_n (lv' := [(1, .int (nI (bz_ct (bz_wh t) (i + 1)))), (0, .ref (am 0)), (2, .int (nI i))]) hx hb d_M_withHours_27 rfl hl (by decide) rfl (fun ls hl => ?_)
          refine lv_iinc (v := nI (i + 1)) (lv' := [(2, .int (nI (i + 1))), (1, .int (nI (bz_ct (bz_wh t) (i + 1)))), (0, .ref (am 0))]) hx hb d_M_withHours_28 hl (k := 2) rfl (nI_1 _) (by decide) rfl (fun ls hl => ?_)
          refine lv_goto (tgt := 4) hx hb d_M_withHours_31 (by decide) ?_
          exact ihlp (i + 1) (by omega) (by omega) ls (lv_sub hl [2, 1, 0] rfl)
        · skip
          have hq : 0 < bz_h t i := Nat.lt_of_not_le fun z => c_17 ((bz_lc_le (b := 0) (by have := ht.2.2.2.2.2.2 i; omega) (by omega)).mpr z)
          refine lv_iload_n hx hb d_M_withHours_20 rfl (lv_at hl 1 rfl) ?_
          refine lv_iconst (v := 1) hx hb d_M_withHours_21 (by decide) ?_
          refine lv_iadd hx hb d_M_withHours_22 ?_
          refine bz_ri (y := nI (bz_ct (bz_wh t) (i + 1))) (by rw [bz_ct_1 (by unfold bz_wh; exact decide_eq_true hq)]; exact nI_1 _) ?_
          refine lv_goto (tgt := 27) hx hb d_M_withHours_23 (by decide) ?_
          refine lv_istore_n (lv' := [(1, .int (nI (bz_ct (bz_wh t) (i + 1)))), (0, .ref (am 0)), (2, .int (nI i))]) hx hb d_M_withHours_27 rfl hl (by decide) rfl (fun ls hl => ?_)
          refine lv_iinc (v := nI (i + 1)) (lv' := [(2, .int (nI (i + 1))), (1, .int (nI (bz_ct (bz_wh t) (i + 1)))), (0, .ref (am 0))]) hx hb d_M_withHours_28 hl (k := 2) rfl (nI_1 _) (by decide) rfl (fun ls hl => ?_)
          refine lv_goto (tgt := 4) hx hb d_M_withHours_31 (by decide) ?_
          exact ihlp (i + 1) (by omega) (by omega) ls (lv_sub hl [2, 1, 0] rfl)
  exact lp _ 0 (Nat.lt_succ_self _) (by omega) ls (lv_sub hl [2, 1, 0] rfl)

set_option maxHeartbeats 4000000 in
set_option maxRecDepth 100000 in
/-- lightest -/
theorem c_M_lightest (l : Launch) (dC : Nat → ClassId) (dI : Nat → Nat → Nat) (am : Nat → Nat) (cI cL cZ : ClassId) (t : bz_T) (th sv ex : Int32) (S1 S2 S3 : Nat → Int32) (ht : bz_ok t) (a : Nat) (ha : a < 30) : Met l y_M_lightest w_M_lightest ({ frames := 1, cells := 0, slots := 0, locals := 24 }) (bz_Pr (dC, dI) [(cI, .int), (cL, .long), (cZ, .boolean)] (bz_wM am cI cL cZ (bz_tM t) (th, sv, ex) (S1, S2, S3)) [.ref (am 0), .int (nI a)]) (vp_Sl (fun r9 => r9 = lN (bz_ml t a 4))) 0 0 (fun _ => False) := by
  refine Met.ofW (cc := b_M_lightest) (maxL := 5) (ret := (some .long)) (by decide) rfl ?_
  intro p e s m args below meth c s₁ B hml hv
  obtain ⟨rfl, hP, hK, hN⟩ := hv
  have hx := B.exec
  have hb := B.bytes
  have hr := B.returns
  have hts := atoms_spec (ws := w_M_lightest) B.pre
  have hown : s.vm.findClass R_M = some m.cls := findClass_of_methodNamed B.named
  have htb : ∀ w ∈ bz_tb, w.before _ s = true := fun w h => hts w (List.mem_cons_of_mem _ h)
  have hlocks := B.notSynchronized
  have hl := lv_entry ([.ref (am 0), .int (nI a)]) (n := 5) (Nat.le_of_ble_eq_true rfl)
  rw [lg_entry_eq]
  generalize (lg_sl ([.ref (am 0), .int (nI a)]) ++ List.replicate (5 - (lg_sl ([.ref (am 0), .int (nI a)])).length) Slot.unset).toArray = ls at hl ⊢
  have hl : lv_has ls 5 [(0, .ref (am 0)), (1, .int (nI a))] := hl
  refine lv_ldc2 (v := 9223372036854775807) hx hb hown (htb _ wd_493) d_M_lightest_0 ?_
  refine bz_rl (y := lN (bz_ml t a 0)) (rfl) ?_
  refine lv_lstore_n (lv' := [(2, .long (lN (bz_ml t a 0))), (0, .ref (am 0)), (1, .int (nI a))]) hx hb d_M_lightest_3 rfl hl (by decide) rfl (fun ls hl => ?_)
  refine lv_iconst (v := nI 0) hx hb d_M_lightest_4 (by decide) ?_
  refine lv_istore (lv' := [(4, .int (nI 0)), (2, .long (lN (bz_ml t a 0))), (0, .ref (am 0)), (1, .int (nI a))]) hx hb d_M_lightest_5 hl (by decide) rfl (fun ls hl => ?_)
  have lp : ∀ (k9 : Nat) (i : Nat), 4 - i < k9 → (i ≤ 4) → ∀ (ls : Array Slot), lv_has ls 5 [(0, .ref (am 0)), (1, .int (nI a)), (2, .long (lN (bz_ml t a i))), (4, .int (nI i))] → W p l e (headSpec w_M_lightest ({ frames := 1, cells := 0, slots := 0, locals := 24 })).room s m ([.ref (am 0), .int (nI a)]).toArray below meth c s.heap [] 0 0 (MQ below (vp_Sl (fun r9 => r9 = lN (bz_ml t a 4))) ([.ref (am 0), .int (nI a)]).toArray s 0 0 (fun _ => False)) (F0 m 7 ls []) := by
    intro k9
    induction k9 with
    | zero =>
      intro i h9
      exact absurd h9 (Nat.not_lt_zero _)
    | succ k9 ihlp =>
      intro i h9_lp hi ls hl
      refine lv_iload hx hb d_M_lightest_7 (lv_at hl 3 rfl) ?_
      refine lv_iconst (v := 4) hx hb d_M_lightest_9 (by decide) ?_
      refine lv_icmp_ge (tgt := 55) hx hb d_M_lightest_10 (by decide) (fun c_10 => ?_) (fun c_10 => ?_)
      · skip
        have hi4 : i = 4 := by have := (nI_leI (a := 4) (by omega) (by omega)).mp c_10; omega
        refine lv_lload_n hx hb d_M_lightest_55 rfl (lv_at hl 2 rfl) ?_
        exact W.lret (v := lN (bz_ml t a i)) hx hb hr (fun t9 ht9 hW => ⟨lN (bz_ml t a i), rfl, by rw [hi4], ht9⟩) (fun _ h => nomatch h) d_M_lightest_56
      · skip
        have hi4 : i < 4 := Nat.lt_of_not_le fun z => c_10 ((nI_leI (a := 4) (b := i) (by omega) (by omega)).mpr z)
        have hw1 := bz_w_le ht a i
        have hm1 := bz_ml_le (t := t) a i
        refine lv_aload_n hx hb d_M_lightest_13 rfl (lv_at hl 0 rfl) ?_
        refine va_get (D := (dC, dI)) (ci := 4) (v := .ref (am 5)) (C := R_M) (T := F_M) (N := 12) hx hb htb in_M hown hK hP 0 rfl rfl 6 (by decide) (htb _ wd_417) (fun _ h9 => h9) rfl d_M_lightest_14 ?_
        refine lv_iload hx hb d_M_lightest_17 (lv_at hl 3 rfl) ?_
        refine bz_lald (v := lN (bz_h t i)) hx hb hK hP 5 1 rfl rfl (a9 := i) (by omega) (by decide) (rfl) d_M_lightest_19 ?_
        refine lv_lconst (v := 0) hx hb d_M_lightest_20 (by decide) ?_
        refine W.lcmp hx hb d_M_lightest_21 ?_
        refine lv_if_le (tgt := 47) hx hb d_M_lightest_22 (by decide) (fun c_22 => ?_) (fun c_22 => ?_)
        · skip
          have hq : bz_h t i ≤ 0 := (bz_lc_le (b := 0) (by have := ht.2.2.2.2.2.2 i; omega) (by omega)).mp c_22
          refine lv_lload_n hx hb d_M_lightest_47 rfl (lv_at hl 2 rfl) ?_
          refine bz_rl (y := lN (bz_ml t a (i + 1))) (by rw [bz_ml_0 hq]) ?_
          refine lv_lstore_n (lv' := [(2, .long (lN (bz_ml t a (i + 1)))), (0, .ref (am 0)), (1, .int (nI a)), (4, .int (nI i))]) hx hb d_M_lightest_48 rfl hl (by decide) rfl (fun ls hl => ?_)
          refine lv_iinc (v := nI (i + 1)) (lv' := [(4, .int (nI (i + 1))), (2, .long (lN (bz_ml t a (i + 1)))), (0, .ref (am 0)), (1, .int (nI a))]) hx hb d_M_lightest_49 hl (k := 3) rfl (nI_1 _) (by decide) rfl (fun ls hl => ?_)
          refine lv_goto (tgt := 7) hx hb d_M_lightest_52 (by decide) ?_
          exact ihlp (i + 1) (by omega) (by omega) ls (lv_sub hl [2, 3, 1, 0] rfl)
        · skip
          have hq : 0 < bz_h t i := Nat.lt_of_not_le fun z => c_22 ((bz_lc_le (b := 0) (by have := ht.2.2.2.2.2.2 i; omega) (by omega)).mpr z)
          refine lv_aload_n hx hb d_M_lightest_25 rfl (lv_at hl 0 rfl) ?_
          refine lv_iload_n hx hb d_M_lightest_26 rfl (lv_at hl 1 rfl) ?_
          refine lv_iload hx hb d_M_lightest_27 (lv_at hl 3 rfl) ?_
          refine bz_sl (va_runV (As := [.int (nI a), .int (nI i)]) (rest := []) ⟨hx, hb, hml, hown, htb⟩ (c_M_loadOf l dC dI am cI cL cZ t th sv ex S1 S2 S3 ht _ _ (by omega) (by omega)) (cwV 2 htb (bz_gV wd_509 wd_506 wd_508 wd_11 wd_23) rfl rfl rfl (by decide +kernel) ⟨Nat.le_of_ble_eq_true rfl, Nat.le_of_ble_eq_true rfl⟩) (bz_rv hN hK hP (q0 := 0) rfl rfl) rfl rfl hl.1 rfl (lv_room (Nat.le_of_ble_eq_true rfl)) d_M_lightest_29 ⟨Nat.zero_le _, Nat.zero_le _⟩) ?_
          refine lv_lload_n hx hb d_M_lightest_32 rfl (lv_at hl 2 rfl) ?_
          refine W.lcmp hx hb d_M_lightest_33 ?_
          refine lv_if_ge (tgt := 47) hx hb d_M_lightest_34 (by decide) (fun c_34 => ?_) (fun c_34 => ?_)
          · skip
            have hlo := (bz_lc_ge (by omega) (by omega)).mp c_34
            refine lv_lload_n hx hb d_M_lightest_47 rfl (lv_at hl 2 rfl) ?_
            refine bz_rl (y := lN (bz_ml t a (i + 1))) (by rw [bz_ml_1 hq, Nat.min_eq_left (by omega)]) ?_
            refine lv_lstore_n (lv' := [(2, .long (lN (bz_ml t a (i + 1)))), (0, .ref (am 0)), (1, .int (nI a)), (4, .int (nI i))]) hx hb d_M_lightest_48 rfl hl (by decide) rfl (fun ls hl => ?_)
            refine lv_iinc (v := nI (i + 1)) (lv' := [(4, .int (nI (i + 1))), (2, .long (lN (bz_ml t a (i + 1)))), (0, .ref (am 0)), (1, .int (nI a))]) hx hb d_M_lightest_49 hl (k := 3) rfl (nI_1 _) (by decide) rfl (fun ls hl => ?_)
            refine lv_goto (tgt := 7) hx hb d_M_lightest_52 (by decide) ?_
            exact ihlp (i + 1) (by omega) (by omega) ls (lv_sub hl [2, 3, 1, 0] rfl)
          · skip
            have hlo : bz_w t a i < bz_ml t a i := Nat.lt_of_not_le fun z => c_34 ((bz_lc_ge (by omega) (by omega)).mpr z)
            refine lv_aload_n hx hb d_M_lightest_37 rfl (lv_at hl 0 rfl) ?_
            refine lv_iload_n hx hb d_M_lightest_38 rfl (lv_at hl 1 rfl) ?_
            refine lv_iload hx hb d_M_lightest_39 (lv_at hl 3 rfl) ?_
            refine bz_sl (va_runV (As := [.int (nI a), .int (nI i)]) (rest := []) ⟨hx, hb, hml, hown, htb⟩ (c_M_loadOf l dC dI am cI cL cZ t th sv ex S1 S2 S3 ht _ _ (by omega) (by omega)) (cwV 2 htb (bz_gV wd_509 wd_506 wd_508 wd_11 wd_23) rfl rfl rfl (by decide +kernel) ⟨Nat.le_of_ble_eq_true rfl, Nat.le_of_ble_eq_true rfl⟩) (bz_rv hN hK hP (q0 := 0) rfl rfl) rfl rfl hl.1 rfl (lv_room (Nat.le_of_ble_eq_true rfl)) d_M_lightest_41 ⟨Nat.zero_le _, Nat.zero_le _⟩) ?_
            refine bz_rl (y := lN (bz_ml t a (i + 1))) (by rw [bz_ml_1 hq, Nat.min_eq_right (by omega)]) ?_
            refine lv_goto (tgt := 48) hx hb d_M_lightest_44 (by decide) ?_
            refine lv_lstore_n (lv' := [(2, .long (lN (bz_ml t a (i + 1)))), (0, .ref (am 0)), (1, .int (nI a)), (4, .int (nI i))]) hx hb d_M_lightest_48 rfl hl (by decide) rfl (fun ls hl => ?_)
            refine lv_iinc (v := nI (i + 1)) (lv' := [(4, .int (nI (i + 1))), (2, .long (lN (bz_ml t a (i + 1)))), (0, .ref (am 0)), (1, .int (nI a))]) hx hb d_M_lightest_49 hl (k := 3) rfl (nI_1 _) (by decide) rfl (fun ls hl => ?_)
            refine lv_goto (tgt := 7) hx hb d_M_lightest_52 (by decide) ?_
            exact ihlp (i + 1) (by omega) (by omega) ls (lv_sub hl [2, 3, 1, 0] rfl)
  exact lp _ 0 (Nat.lt_succ_self _) (by omega) ls (lv_sub hl [2, 3, 1, 0] rfl)
