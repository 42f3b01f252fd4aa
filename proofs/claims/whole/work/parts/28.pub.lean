theorem d_T_addArea_0 : decode b_T_addArea 0 = .ok (.aload_n 0, 1) := by decide +kernel
theorem d_T_addArea_1 : decode b_T_addArea 1 = .ok (.getfield 9, 3) := by decide +kernel
theorem d_T_addArea_4 : decode b_T_addArea 4 = .ok (.aload_n 0, 1) := by decide +kernel
theorem d_T_addArea_5 : decode b_T_addArea 5 = .ok (.getfield 28, 3) := by decide +kernel
theorem d_T_addArea_8 : decode b_T_addArea 8 = .ok (.lload_n 1, 1) := by decide +kernel
theorem d_T_addArea_9 : decode b_T_addArea 9 = .ok (.lastore, 1) := by decide +kernel
theorem d_T_addArea_10 : decode b_T_addArea 10 = .ok (.aload_n 0, 1) := by decide +kernel
theorem d_T_addArea_11 : decode b_T_addArea 11 = .ok (.getfield 15, 3) := by decide +kernel
theorem d_T_addArea_14 : decode b_T_addArea 14 = .ok (.aload_n 0, 1) := by decide +kernel
theorem d_T_addArea_15 : decode b_T_addArea 15 = .ok (.getfield 28, 3) := by decide +kernel
theorem d_T_addArea_18 : decode b_T_addArea 18 = .ok (.iload_n 3, 1) := by decide +kernel
theorem d_T_addArea_19 : decode b_T_addArea 19 = .ok (.iastore, 1) := by decide +kernel
theorem d_T_addArea_20 : decode b_T_addArea 20 = .ok (.aload_n 0, 1) := by decide +kernel
theorem d_T_addArea_21 : decode b_T_addArea 21 = .ok (.dup, 1) := by decide +kernel
theorem d_T_addArea_22 : decode b_T_addArea 22 = .ok (.getfield 28, 3) := by decide +kernel
theorem d_T_addArea_25 : decode b_T_addArea 25 = .ok (.iconst 1, 1) := by decide +kernel
theorem d_T_addArea_26 : decode b_T_addArea 26 = .ok (.iadd, 1) := by decide +kernel
theorem d_T_addArea_27 : decode b_T_addArea 27 = .ok (.putfield 28, 3) := by decide +kernel
theorem d_T_addArea_30 : decode b_T_addArea 30 = .ok (.return_, 1) := by decide +kernel
theorem d_T_turnJoin_0 : decode b_T_turnJoin 0 = .ok (.aload_n 0, 1) := by decide +kernel
theorem d_T_turnJoin_1 : decode b_T_turnJoin 1 = .ok (.getfield 19, 3) := by decide +kernel
theorem d_T_turnJoin_4 : decode b_T_turnJoin 4 = .ok (.iload_n 1, 1) := by decide +kernel
theorem d_T_turnJoin_5 : decode b_T_turnJoin 5 = .ok (.dup2, 1) := by decide +kernel
theorem d_T_turnJoin_6 : decode b_T_turnJoin 6 = .ok (.iaload, 1) := by decide +kernel
theorem d_T_turnJoin_7 : decode b_T_turnJoin 7 = .ok (.iconst 1, 1) := by decide +kernel
theorem d_T_turnJoin_8 : decode b_T_turnJoin 8 = .ok (.iload_n 2, 1) := by decide +kernel
theorem d_T_turnJoin_9 : decode b_T_turnJoin 9 = .ok (.ishl, 1) := by decide +kernel
theorem d_T_turnJoin_10 : decode b_T_turnJoin 10 = .ok (.ixor, 1) := by decide +kernel
theorem d_T_turnJoin_11 : decode b_T_turnJoin 11 = .ok (.iastore, 1) := by decide +kernel
theorem d_T_turnJoin_12 : decode b_T_turnJoin 12 = .ok (.aload_n 0, 1) := by decide +kernel
theorem d_T_turnJoin_13 : decode b_T_turnJoin 13 = .ok (.getfield 19, 3) := by decide +kernel
theorem d_T_turnJoin_16 : decode b_T_turnJoin 16 = .ok (.iload_n 2, 1) := by decide +kernel
theorem d_T_turnJoin_17 : decode b_T_turnJoin 17 = .ok (.dup2, 1) := by decide +kernel
theorem d_T_turnJoin_18 : decode b_T_turnJoin 18 = .ok (.iaload, 1) := by decide +kernel
theorem d_T_turnJoin_19 : decode b_T_turnJoin 19 = .ok (.iconst 1, 1) := by decide +kernel
theorem d_T_turnJoin_20 : decode b_T_turnJoin 20 = .ok (.iload_n 1, 1) := by decide +kernel
theorem d_T_turnJoin_21 : decode b_T_turnJoin 21 = .ok (.ishl, 1) := by decide +kernel
theorem d_T_turnJoin_22 : decode b_T_turnJoin 22 = .ok (.ixor, 1) := by decide +kernel
theorem d_T_turnJoin_23 : decode b_T_turnJoin 23 = .ok (.iastore, 1) := by decide +kernel
theorem d_T_turnJoin_24 : decode b_T_turnJoin 24 = .ok (.return_, 1) := by decide +kernel
theorem d_T_learn_0 : decode b_T_learn 0 = .ok (.aload_n 0, 1) := by decide +kernel
theorem d_T_learn_1 : decode b_T_learn 1 = .ok (.getfield 22, 3) := by decide +kernel
theorem d_T_learn_4 : decode b_T_learn 4 = .ok (.iload_n 2, 1) := by decide +kernel
theorem d_T_learn_5 : decode b_T_learn 5 = .ok (.dup2, 1) := by decide +kernel
theorem d_T_learn_6 : decode b_T_learn 6 = .ok (.iaload, 1) := by decide +kernel
theorem d_T_learn_7 : decode b_T_learn 7 = .ok (.iconst 1, 1) := by decide +kernel
theorem d_T_learn_8 : decode b_T_learn 8 = .ok (.iload_n 1, 1) := by decide +kernel
theorem d_T_learn_9 : decode b_T_learn 9 = .ok (.ishl, 1) := by decide +kernel
theorem d_T_learn_10 : decode b_T_learn 10 = .ok (.ior, 1) := by decide +kernel
theorem d_T_learn_11 : decode b_T_learn 11 = .ok (.iastore, 1) := by decide +kernel
theorem d_T_learn_12 : decode b_T_learn 12 = .ok (.return_, 1) := by decide +kernel
theorem d_B_area_0 : decode b_B_area 0 = .ok (.lload_n 1, 1) := by decide +kernel
theorem d_B_area_1 : decode b_B_area 1 = .ok (.lconst 0, 1) := by decide +kernel
theorem d_B_area_2 : decode b_B_area 2 = .ok (.lcmp, 1) := by decide +kernel
theorem d_B_area_3 : decode b_B_area 3 = .ok (.ifCond .lt 18, 3) := by decide +kernel
theorem d_B_area_6 : decode b_B_area 6 = .ok (.lload_n 1, 1) := by decide +kernel
theorem d_B_area_7 : decode b_B_area 7 = .ok (.ldc2_w 36, 3) := by decide +kernel
theorem d_B_area_10 : decode b_B_area 10 = .ok (.lcmp, 1) := by decide +kernel
theorem d_B_area_11 : decode b_B_area 11 = .ok (.ifCond .gt 10, 3) := by decide +kernel
theorem d_B_area_14 : decode b_B_area 14 = .ok (.iload_n 3, 1) := by decide +kernel
theorem d_B_area_15 : decode b_B_area 15 = .ok (.invokestatic 38, 3) := by decide +kernel
theorem d_B_area_18 : decode b_B_area 18 = .ok (.ifCond .ne 6, 3) := by decide +kernel
theorem d_B_area_21 : decode b_B_area 21 = .ok (.bipush (-12), 2) := by decide +kernel
theorem d_B_area_23 : decode b_B_area 23 = .ok (.ireturn, 1) := by decide +kernel
theorem d_B_area_24 : decode b_B_area 24 = .ok (.aload_n 0, 1) := by decide +kernel
theorem d_B_area_25 : decode b_B_area 25 = .ok (.getfield 12, 3) := by decide +kernel
theorem d_B_area_28 : decode b_B_area 28 = .ok (.getfield 42, 3) := by decide +kernel
theorem d_B_area_31 : decode b_B_area 31 = .ok (.bipush 30, 2) := by decide +kernel
theorem d_B_area_33 : decode b_B_area 33 = .ok (.if_icmp .lt 6, 3) := by decide +kernel
theorem d_B_area_36 : decode b_B_area 36 = .ok (.bipush (-14), 2) := by decide +kernel
theorem d_B_area_38 : decode b_B_area 38 = .ok (.ireturn, 1) := by decide +kernel
theorem d_B_area_39 : decode b_B_area 39 = .ok (.aload_n 0, 1) := by decide +kernel
theorem d_B_area_40 : decode b_B_area 40 = .ok (.getfield 12, 3) := by decide +kernel
theorem d_B_area_43 : decode b_B_area 43 = .ok (.lload_n 1, 1) := by decide +kernel
theorem d_B_area_44 : decode b_B_area 44 = .ok (.iload_n 3, 1) := by decide +kernel
theorem d_B_area_45 : decode b_B_area 45 = .ok (.invokevirtual 46, 3) := by decide +kernel
theorem d_B_area_48 : decode b_B_area 48 = .ok (.aload_n 0, 1) := by decide +kernel
theorem d_B_area_49 : decode b_B_area 49 = .ok (.iconst 0, 1) := by decide +kernel
theorem d_B_area_50 : decode b_B_area 50 = .ok (.putfield 32, 3) := by decide +kernel
theorem d_B_area_53 : decode b_B_area 53 = .ok (.aload_n 0, 1) := by decide +kernel
theorem d_B_area_54 : decode b_B_area 54 = .ok (.getfield 12, 3) := by decide +kernel
theorem d_B_area_57 : decode b_B_area 57 = .ok (.getfield 42, 3) := by decide +kernel
theorem d_B_area_60 : decode b_B_area 60 = .ok (.ireturn, 1) := by decide +kernel
theorem d_B_joined_0 : decode b_B_joined 0 = .ok (.aload_n 0, 1) := by decide +kernel
theorem d_B_joined_1 : decode b_B_joined 1 = .ok (.iload_n 1, 1) := by decide +kernel
theorem d_B_joined_2 : decode b_B_joined 2 = .ok (.invokevirtual 50, 3) := by decide +kernel
theorem d_B_joined_5 : decode b_B_joined 5 = .ok (.ifCond .eq 16, 3) := by decide +kernel
theorem d_B_joined_8 : decode b_B_joined 8 = .ok (.aload_n 0, 1) := by decide +kernel
theorem d_B_joined_9 : decode b_B_joined 9 = .ok (.iload_n 2, 1) := by decide +kernel
theorem d_B_joined_10 : decode b_B_joined 10 = .ok (.invokevirtual 50, 3) := by decide +kernel
theorem d_B_joined_13 : decode b_B_joined 13 = .ok (.ifCond .eq 8, 3) := by decide +kernel
theorem d_B_joined_16 : decode b_B_joined 16 = .ok (.iload_n 1, 1) := by decide +kernel
theorem d_B_joined_17 : decode b_B_joined 17 = .ok (.iload_n 2, 1) := by decide +kernel
theorem d_B_joined_18 : decode b_B_joined 18 = .ok (.if_icmp .ne 5, 3) := by decide +kernel
theorem d_B_joined_21 : decode b_B_joined 21 = .ok (.iconst 0, 1) := by decide +kernel
theorem d_B_joined_22 : decode b_B_joined 22 = .ok (.ireturn, 1) := by decide +kernel
theorem d_B_joined_23 : decode b_B_joined 23 = .ok (.iload_n 3, 1) := by decide +kernel
theorem d_B_joined_24 : decode b_B_joined 24 = .ok (.ifCond .ne 7, 3) := by decide +kernel
theorem d_B_joined_27 : decode b_B_joined 27 = .ok (.iconst 1, 1) := by decide +kernel
theorem d_B_joined_28 : decode b_B_joined 28 = .ok (.goto 4, 3) := by decide +kernel
theorem d_B_joined_31 : decode b_B_joined 31 = .ok (.iconst 0, 1) := by decide +kernel
theorem d_B_joined_32 : decode b_B_joined 32 = .ok (.istore 4, 2) := by decide +kernel
theorem d_B_joined_34 : decode b_B_joined 34 = .ok (.aload_n 0, 1) := by decide +kernel
theorem d_B_joined_35 : decode b_B_joined 35 = .ok (.getfield 12, 3) := by decide +kernel
theorem d_B_joined_38 : decode b_B_joined 38 = .ok (.iload_n 1, 1) := by decide +kernel
theorem d_B_joined_39 : decode b_B_joined 39 = .ok (.iconst 1, 1) := by decide +kernel
theorem d_B_joined_40 : decode b_B_joined 40 = .ok (.isub, 1) := by decide +kernel
theorem d_B_joined_41 : decode b_B_joined 41 = .ok (.iload_n 2, 1) := by decide +kernel
theorem d_B_joined_42 : decode b_B_joined 42 = .ok (.iconst 1, 1) := by decide +kernel
theorem d_B_joined_43 : decode b_B_joined 43 = .ok (.isub, 1) := by decide +kernel
theorem d_B_joined_44 : decode b_B_joined 44 = .ok (.invokevirtual 53, 3) := by decide +kernel
theorem d_B_joined_47 : decode b_B_joined 47 = .ok (.iload 4, 2) := by decide +kernel
theorem d_B_joined_49 : decode b_B_joined 49 = .ok (.if_icmp .eq 21, 3) := by decide +kernel
theorem d_B_joined_52 : decode b_B_joined 52 = .ok (.aload_n 0, 1) := by decide +kernel
theorem d_B_joined_53 : decode b_B_joined 53 = .ok (.getfield 12, 3) := by decide +kernel
theorem d_B_joined_56 : decode b_B_joined 56 = .ok (.iload_n 1, 1) := by decide +kernel
theorem d_B_joined_57 : decode b_B_joined 57 = .ok (.iconst 1, 1) := by decide +kernel
theorem d_B_joined_58 : decode b_B_joined 58 = .ok (.isub, 1) := by decide +kernel
theorem d_B_joined_59 : decode b_B_joined 59 = .ok (.iload_n 2, 1) := by decide +kernel
theorem d_B_joined_60 : decode b_B_joined 60 = .ok (.iconst 1, 1) := by decide +kernel
theorem d_B_joined_61 : decode b_B_joined 61 = .ok (.isub, 1) := by decide +kernel
theorem d_B_joined_62 : decode b_B_joined 62 = .ok (.invokevirtual 57, 3) := by decide +kernel
theorem d_B_joined_65 : decode b_B_joined 65 = .ok (.aload_n 0, 1) := by decide +kernel
theorem d_B_joined_66 : decode b_B_joined 66 = .ok (.iconst 0, 1) := by decide +kernel
theorem d_B_joined_67 : decode b_B_joined 67 = .ok (.putfield 32, 3) := by decide +kernel
theorem d_B_joined_70 : decode b_B_joined 70 = .ok (.iload 4, 2) := by decide +kernel
theorem d_B_joined_72 : decode b_B_joined 72 = .ok (.ireturn, 1) := by decide +kernel
theorem d_B_carrier_0 : decode b_B_carrier 0 = .ok (.iload_n 1, 1) := by decide +kernel
theorem d_B_carrier_1 : decode b_B_carrier 1 = .ok (.invokestatic 38, 3) := by decide +kernel
theorem d_B_carrier_4 : decode b_B_carrier 4 = .ok (.ifCond .eq 17, 3) := by decide +kernel
theorem d_B_carrier_7 : decode b_B_carrier 7 = .ok (.lload_n 2, 1) := by decide +kernel
theorem d_B_carrier_8 : decode b_B_carrier 8 = .ok (.lconst 0, 1) := by decide +kernel
theorem d_B_carrier_9 : decode b_B_carrier 9 = .ok (.lcmp, 1) := by decide +kernel
theorem d_B_carrier_10 : decode b_B_carrier 10 = .ok (.ifCond .lt 11, 3) := by decide +kernel
theorem d_B_carrier_13 : decode b_B_carrier 13 = .ok (.lload_n 2, 1) := by decide +kernel
theorem d_B_carrier_14 : decode b_B_carrier 14 = .ok (.ldc2_w 61, 3) := by decide +kernel
theorem d_B_carrier_17 : decode b_B_carrier 17 = .ok (.lcmp, 1) := by decide +kernel
theorem d_B_carrier_18 : decode b_B_carrier 18 = .ok (.ifCond .le 6, 3) := by decide +kernel
theorem d_B_carrier_21 : decode b_B_carrier 21 = .ok (.bipush (-12), 2) := by decide +kernel
theorem d_B_carrier_23 : decode b_B_carrier 23 = .ok (.ireturn, 1) := by decide +kernel
theorem d_B_carrier_24 : decode b_B_carrier 24 = .ok (.aload_n 0, 1) := by decide +kernel
theorem d_B_carrier_25 : decode b_B_carrier 25 = .ok (.getfield 12, 3) := by decide +kernel
theorem d_B_carrier_28 : decode b_B_carrier 28 = .ok (.getfield 63, 3) := by decide +kernel
theorem d_B_carrier_31 : decode b_B_carrier 31 = .ok (.iload_n 1, 1) := by decide +kernel
theorem d_B_carrier_32 : decode b_B_carrier 32 = .ok (.laload, 1) := by decide +kernel
theorem d_B_carrier_33 : decode b_B_carrier 33 = .ok (.lstore 4, 2) := by decide +kernel
theorem d_B_carrier_35 : decode b_B_carrier 35 = .ok (.lload 4, 2) := by decide +kernel
theorem d_B_carrier_37 : decode b_B_carrier 37 = .ok (.lload_n 2, 1) := by decide +kernel
theorem d_B_carrier_38 : decode b_B_carrier 38 = .ok (.lcmp, 1) := by decide +kernel
theorem d_B_carrier_39 : decode b_B_carrier 39 = .ok (.ifCond .eq 18, 3) := by decide +kernel
theorem d_B_carrier_42 : decode b_B_carrier 42 = .ok (.aload_n 0, 1) := by decide +kernel
theorem d_B_carrier_43 : decode b_B_carrier 43 = .ok (.getfield 12, 3) := by decide +kernel
theorem d_B_carrier_46 : decode b_B_carrier 46 = .ok (.getfield 63, 3) := by decide +kernel
theorem d_B_carrier_49 : decode b_B_carrier 49 = .ok (.iload_n 1, 1) := by decide +kernel
theorem d_B_carrier_50 : decode b_B_carrier 50 = .ok (.lload_n 2, 1) := by decide +kernel
theorem d_B_carrier_51 : decode b_B_carrier 51 = .ok (.lastore, 1) := by decide +kernel
theorem d_B_carrier_52 : decode b_B_carrier 52 = .ok (.aload_n 0, 1) := by decide +kernel
theorem d_B_carrier_53 : decode b_B_carrier 53 = .ok (.iconst 0, 1) := by decide +kernel
theorem d_B_carrier_54 : decode b_B_carrier 54 = .ok (.putfield 32, 3) := by decide +kernel
theorem d_B_carrier_57 : decode b_B_carrier 57 = .ok (.lload 4, 2) := by decide +kernel
theorem d_B_carrier_59 : decode b_B_carrier 59 = .ok (.l2i, 1) := by decide +kernel
theorem d_B_carrier_60 : decode b_B_carrier 60 = .ok (.ireturn, 1) := by decide +kernel
theorem d_B_know_0 : decode b_B_know 0 = .ok (.aload_n 0, 1) := by decide +kernel
theorem d_B_know_1 : decode b_B_know 1 = .ok (.iload_n 2, 1) := by decide +kernel
theorem d_B_know_2 : decode b_B_know 2 = .ok (.invokevirtual 50, 3) := by decide +kernel
theorem d_B_know_5 : decode b_B_know 5 = .ok (.ifCond .ne 6, 3) := by decide +kernel
theorem d_B_know_8 : decode b_B_know 8 = .ok (.bipush (-11), 2) := by decide +kernel
theorem d_B_know_10 : decode b_B_know 10 = .ok (.ireturn, 1) := by decide +kernel
theorem d_B_know_11 : decode b_B_know 11 = .ok (.iload_n 1, 1) := by decide +kernel
theorem d_B_know_12 : decode b_B_know 12 = .ok (.invokestatic 38, 3) := by decide +kernel
theorem d_B_know_15 : decode b_B_know 15 = .ok (.ifCond .ne 6, 3) := by decide +kernel
theorem d_B_know_18 : decode b_B_know 18 = .ok (.bipush (-12), 2) := by decide +kernel
theorem d_B_know_20 : decode b_B_know 20 = .ok (.ireturn, 1) := by decide +kernel
theorem d_B_know_21 : decode b_B_know 21 = .ok (.aload_n 0, 1) := by decide +kernel
theorem d_B_know_22 : decode b_B_know 22 = .ok (.getfield 12, 3) := by decide +kernel
theorem d_B_know_25 : decode b_B_know 25 = .ok (.iload_n 2, 1) := by decide +kernel
theorem d_B_know_26 : decode b_B_know 26 = .ok (.iconst 1, 1) := by decide +kernel
theorem d_B_know_27 : decode b_B_know 27 = .ok (.isub, 1) := by decide +kernel
theorem d_B_know_28 : decode b_B_know 28 = .ok (.iload_n 1, 1) := by decide +kernel
theorem d_B_know_29 : decode b_B_know 29 = .ok (.invokevirtual 67, 3) := by decide +kernel
theorem d_B_know_32 : decode b_B_know 32 = .ok (.ifCond .eq 5, 3) := by decide +kernel
theorem d_B_know_35 : decode b_B_know 35 = .ok (.iconst 0, 1) := by decide +kernel
theorem d_B_know_36 : decode b_B_know 36 = .ok (.ireturn, 1) := by decide +kernel
theorem d_B_know_37 : decode b_B_know 37 = .ok (.aload_n 0, 1) := by decide +kernel
theorem d_B_know_38 : decode b_B_know 38 = .ok (.getfield 12, 3) := by decide +kernel
theorem d_B_know_41 : decode b_B_know 41 = .ok (.iload_n 2, 1) := by decide +kernel
theorem d_B_know_42 : decode b_B_know 42 = .ok (.iconst 1, 1) := by decide +kernel
theorem d_B_know_43 : decode b_B_know 43 = .ok (.isub, 1) := by decide +kernel
theorem d_B_know_44 : decode b_B_know 44 = .ok (.iload_n 1, 1) := by decide +kernel
theorem d_B_know_45 : decode b_B_know 45 = .ok (.invokevirtual 70, 3) := by decide +kernel
theorem d_B_know_48 : decode b_B_know 48 = .ok (.aload_n 0, 1) := by decide +kernel
theorem d_B_know_49 : decode b_B_know 49 = .ok (.iconst 0, 1) := by decide +kernel
theorem d_B_know_50 : decode b_B_know 50 = .ok (.putfield 32, 3) := by decide +kernel
theorem d_B_know_53 : decode b_B_know 53 = .ok (.iconst 1, 1) := by decide +kernel
theorem d_B_know_54 : decode b_B_know 54 = .ok (.ireturn, 1) := by decide +kernel

/-- what changes a town -/
def bz_aA (t : bz_T) (x r : Nat) : bz_T := (bz_n t + 1, va_up (bz_l t) (bz_n t) x, va_up (bz_d t) (bz_n t) r, bz_j t, bz_k t, bz_h t)
def bz_sJ (t : bz_T) (a b : Nat) (o : Bool) : bz_T := (bz_n t, bz_l t, bz_d t, fun x y => if (x = a ∧ y = b) ∨ (x = b ∧ y = a) then o else bz_j t x y, bz_k t, bz_h t)
def bz_sK (t : bz_T) (r a : Nat) : bz_T := (bz_n t, bz_l t, bz_d t, bz_j t, va_up (bz_k t) r (fun i => bz_k t r i || decide (i = a)), bz_h t)
def bz_sH (t : bz_T) (r x : Nat) : bz_T := (bz_n t, bz_l t, bz_d t, bz_j t, bz_k t, va_up (bz_h t) r x)
theorem bz_aA_R (t : bz_T) (x r : Nat) : bz_tR (bz_aA t x r) = (vp_updL (bz_tR t).1 (bz_n t) (lN x), upd (bz_tR t).2.1 (bz_n t) (nI r), (bz_tR t).2.2.1, (bz_tR t).2.2.2.1, (bz_tR t).2.2.2.2.1, nI (bz_n t + 1)) := by
  refine Prod.ext ?_ (Prod.ext ?_ rfl)
  · exact (bz_updL (bz_l t) (bz_n t) x).symm
  · exact (bz_updI (bz_d t) (bz_n t) r).symm
theorem bz_sJ_R {t : bz_T} (ht : bz_ok t) {a b : Nat} (hab : a ≠ b) {o : Bool} (hj : bz_j t a b = !o) : bz_tR (bz_sJ t a b o) = ((bz_tR t).1, (bz_tR t).2.1, upd (upd (bz_tR t).2.2.1 a (bz_m (fun i => bz_j t a i ^^ decide (i = b)))) b (bz_m (fun i => bz_j t b i ^^ decide (i = a))), (bz_tR t).2.2.2.1, (bz_tR t).2.2.2.2.1, nI (bz_n t)) := by
  refine Prod.ext rfl (Prod.ext rfl (Prod.ext (funext fun x => ?_) rfl))
  have hj2 : bz_j t b a = !o := by rw [ht.2.2.2.2.1 b a]; exact hj
  show bz_m (bz_j (bz_sJ t a b o) x) = if x = b then _ else (if x = a then _ else bz_m (bz_j t x))
  by_cases e1 : x = b
  · subst e1
    rw [if_pos rfl]
    refine bz_ext fun i _ => ?_
    show (if (x = a ∧ i = x) ∨ (x = x ∧ i = a) then o else bz_j t x i) = _
    by_cases e2 : i = a
    · subst e2
      rw [if_pos (Or.inr ⟨rfl, rfl⟩), hj2]
      cases o <;> simp
    · rw [if_neg (by rintro (⟨h, -⟩ | ⟨-, h⟩); exact hab h.symm; exact e2 h)]
      simp [e2]
  · rw [if_neg e1]
    by_cases e2 : x = a
    · subst e2
      rw [if_pos rfl]
      refine bz_ext fun i _ => ?_
      show (if (x = x ∧ i = b) ∨ (x = b ∧ i = x) then o else bz_j t x i) = _
      by_cases e3 : i = b
      · subst e3
        rw [if_pos (Or.inl ⟨rfl, rfl⟩), hj]
        cases o <;> simp
      · rw [if_neg (by rintro (⟨-, h⟩ | ⟨h, -⟩); exact e3 h; exact e1 h)]
        simp [e3]
    · rw [if_neg e2]
      refine bz_ext fun i _ => ?_
      show (if (x = a ∧ i = b) ∨ (x = b ∧ i = a) then o else bz_j t x i) = _
      rw [if_neg (by rintro (⟨h, -⟩ | ⟨h, -⟩); exact e2 h; exact e1 h)]
theorem bz_sK_R (t : bz_T) (r a : Nat) : bz_tR (bz_sK t r a) = ((bz_tR t).1, (bz_tR t).2.1, (bz_tR t).2.2.1, upd (bz_tR t).2.2.2.1 r (bz_m (fun i => bz_k t r i || decide (i = a))), (bz_tR t).2.2.2.2.1, nI (bz_n t)) := by
  refine Prod.ext rfl (Prod.ext rfl (Prod.ext rfl (Prod.ext ?_ rfl)))
  exact (bz_updM (bz_k t) r _).symm
theorem bz_sH_R (t : bz_T) (r x : Nat) : bz_tR (bz_sH t r x) = ((bz_tR t).1, (bz_tR t).2.1, (bz_tR t).2.2.1, (bz_tR t).2.2.2.1, vp_updL (bz_tR t).2.2.2.2.1 r (lN x), nI (bz_n t)) := by
  refine Prod.ext rfl (Prod.ext rfl (Prod.ext rfl (Prod.ext rfl (Prod.ext ?_ rfl))))
  exact (bz_updL (bz_h t) r x).symm
theorem bz_aA_ok {t : bz_T} (h : bz_ok t) {x r : Nat} (hn : bz_n t < 30) (hx : x ≤ 1000000) (hr : r < 4) : bz_ok (bz_aA t x r) := by
  obtain ⟨h1, h2, h3, h4, h5, h6, h7⟩ := h
  refine ⟨?_, fun a => ?_, fun a => ?_, fun a b hab => ?_, h5, fun q a hq => ?_, h7⟩
  · show bz_n t + 1 ≤ 30
    omega
  · show va_up (bz_l t) (bz_n t) x a ≤ 1000000
    unfold va_up
    split
    · exact hx
    · exact h2 a
  · show va_up (bz_d t) (bz_n t) r a < 4
    unfold va_up
    split
    · exact hr
    · exact h3 a
  · have := h4 a b hab
    show a < bz_n t + 1 ∧ b < bz_n t + 1 ∧ a ≠ b
    exact ⟨by omega, by omega, this.2.2⟩
  · have := h6 q a hq
    show q < 4 ∧ a < bz_n t + 1
    exact ⟨this.1, by omega⟩
theorem bz_sJ_ok {t : bz_T} (h : bz_ok t) {a b : Nat} {o : Bool} (ha : a < bz_n t) (hb : b < bz_n t) (hab : a ≠ b) : bz_ok (bz_sJ t a b o) := by
  obtain ⟨h1, h2, h3, h4, h5, h6, h7⟩ := h
  refine ⟨h1, h2, h3, fun x y hxy => ?_, fun x y => ?_, h6, h7⟩
  · have hxy : (if (x = a ∧ y = b) ∨ (x = b ∧ y = a) then o else bz_j t x y) = true := hxy
    by_cases e : (x = a ∧ y = b) ∨ (x = b ∧ y = a)
    · show x < bz_n t ∧ y < bz_n t ∧ x ≠ y
      rcases e with ⟨e1, e2⟩ | ⟨e1, e2⟩
      · subst e1; subst e2; exact ⟨ha, hb, hab⟩
      · subst e1; subst e2; exact ⟨hb, ha, hab.symm⟩
    · rw [if_neg e] at hxy
      exact h4 x y hxy
  · show (if (x = a ∧ y = b) ∨ (x = b ∧ y = a) then o else bz_j t x y) = (if (y = a ∧ x = b) ∨ (y = b ∧ x = a) then o else bz_j t y x)
    by_cases e : (x = a ∧ y = b) ∨ (x = b ∧ y = a)
    · rw [if_pos e, if_pos (by rcases e with ⟨e1, e2⟩ | ⟨e1, e2⟩; exact Or.inr ⟨e2, e1⟩; exact Or.inl ⟨e2, e1⟩)]
    · rw [if_neg e, if_neg (by rintro (⟨e1, e2⟩ | ⟨e1, e2⟩); exact e (Or.inr ⟨e2, e1⟩); exact e (Or.inl ⟨e2, e1⟩))]
      exact h5 x y
theorem bz_sK_ok {t : bz_T} (h : bz_ok t) {r a : Nat} (hr : r < 4) (ha : a < bz_n t) : bz_ok (bz_sK t r a) := by
  obtain ⟨h1, h2, h3, h4, h5, h6, h7⟩ := h
  refine ⟨h1, h2, h3, h4, h5, fun q i hq => ?_, h7⟩
  have hq : va_up (bz_k t) r (fun i => bz_k t r i || decide (i = a)) q i = true := hq
  by_cases e : q = r
  · subst e
    rw [bz_up_s] at hq
    rcases (Bool.or_eq_true _ _).mp hq with z | z
    · exact h6 q i z
    · have : i = a := of_decide_eq_true z
      subst this
      exact ⟨hr, ha⟩
  · rw [bz_up_n _ _ e] at hq
    exact h6 q i hq
theorem bz_sH_ok {t : bz_T} (h : bz_ok t) {r x : Nat} (hx : x ≤ 1000000000) : bz_ok (bz_sH t r x) := by
  obtain ⟨h1, h2, h3, h4, h5, h6, h7⟩ := h
  refine ⟨h1, h2, h3, h4, h5, h6, fun q => ?_⟩
  show va_up (bz_h t) r x q ≤ 1000000000
  unfold va_up
  split
  · exact hx
  · exact h7 q

set_option maxHeartbeats 4000000 in
set_option maxRecDepth 100000 in
/-- Town.addArea -/
theorem c_T_addArea (l : Launch) (dC : Nat → ClassId) (dI : Nat → Nat → Nat) (sz : Nat) (ad : Nat → Nat) (cI cL : ClassId) (t : bz_T) (R : bz_RS) (L : (Nat → Int32) × Int64) (v : Int32) (ht : bz_ok t) (x r : Nat) (hn : bz_n t < 30) : Met l y_T_addArea w_T_addArea ({ frames := 0, cells := 0, slots := 0, locals := 0 }) (bz_Pw (dC, dI) [(cI, .int), (cL, .long)] (bz_wB ad cI cL (bz_tR t) R L v) sz [.ref (ad 1), .long (lN x), .int (nI r)]) (bz_Qv (dC, dI) [(cI, .int), (cL, .long)] (va_A (bz_wB ad cI cL (bz_tR t) R L v) sz) (bz_wB ad cI cL (bz_tR (bz_aA t x r)) R L v)) 0 0 (va_A (bz_wB ad cI cL (bz_tR t) R L v) sz) := by
  refine Met.ofW (cc := b_T_addArea) (maxL := 4) (ret := none) (by decide) rfl ?_
  intro p e s m args below meth c s₁ B hml hv
  obtain ⟨rfl, hsz, hP, hK, hD0, hN⟩ := hv
  have hx := B.exec
  have hb := B.bytes
  have hr := B.returns
  have hts := atoms_spec (ws := w_T_addArea) B.pre
  have hown : s.vm.findClass R_T = some m.cls := findClass_of_methodNamed B.named
  have htb : ∀ w ∈ bz_tb, w.before _ s = true := fun w h => hts w (List.mem_cons_of_mem _ h)
  have hlocks := B.notSynchronized
  subst hsz
  have hD := hD0.self (sz := s.heap.size)
  generalize hAe : va_A (bz_wB ad cI cL (bz_tR t) R L v) s.heap.size = A at hD ⊢
  have hA : ∀ q : Nat, s.heap.size ≤ q → A q := fun q h => by rw [← hAe]; exact Or.inr h
  have hS : va_S A s.heap s.heap [] := va_S.rf
  have hl := lv_entry ([.ref (ad 1), .long (lN x), .int (nI r)]) (n := 4) (Nat.le_of_ble_eq_true rfl)
  rw [lg_entry_eq]
  generalize (lg_sl ([.ref (ad 1), .long (lN x), .int (nI r)]) ++ List.replicate (4 - (lg_sl ([.ref (ad 1), .long (lN x), .int (nI r)])).length) Slot.unset).toArray = ls at hl ⊢
  have hl : lv_has ls 4 [(0, .ref (ad 1)), (1, .long (lN x)), (3, .int (nI r))] := hl
  refine lv_aload_n hx hb d_T_addArea_0 rfl (lv_at hl 0 rfl) ?_
  refine va_get (D := (dC, dI)) (ci := 2) (v := .ref (ad 2)) (C := R_T) (T := F_T) (N := 6) hx hb htb in_T hown hK hP 1 rfl rfl 0 (by decide) (htb _ wd_46) (fun _ h9 => h9) rfl d_T_addArea_1 ?_
  refine lv_aload_n hx hb d_T_addArea_4 rfl (lv_at hl 0 rfl) ?_
  refine va_get (D := (dC, dI)) (ci := 2) (v := .int (nI (bz_n t))) (C := R_T) (T := F_T) (N := 6) hx hb htb in_T hown hK hP 1 rfl rfl 5 (by decide) (htb _ wd_55) (fun _ h9 => h9) rfl d_T_addArea_5 ?_
  refine lv_lload_n hx hb d_T_addArea_8 rfl (lv_at hl 1 rfl) ?_
  refine bz_last hx hb hK hP hD hS 2 1 rfl rfl (a9 := (bz_n t)) (by omega) (by decide) d_T_addArea_9 (fun H locs hP hD hS => ?_)
  have hP : va_P (dC, dI) vwCl (bz_wB ad cI cL ((vp_updL ((bz_tR t).1) (bz_n t) (lN x)), (bz_tR t).2.1, (bz_tR t).2.2.1, (bz_tR t).2.2.2.1, (bz_tR t).2.2.2.2.1, nI (bz_n t)) R L v) H := hP
  have hD : va_D A (bz_wB ad cI cL ((vp_updL ((bz_tR t).1) (bz_n t) (lN x)), (bz_tR t).2.1, (bz_tR t).2.2.1, (bz_tR t).2.2.2.1, (bz_tR t).2.2.2.2.1, nI (bz_n t)) R L v) := hD
  refine lv_aload_n hx hb d_T_addArea_10 rfl (lv_at hl 0 rfl) ?_
  refine va_get (D := (dC, dI)) (ci := 2) (v := .ref (ad 3)) (C := R_T) (T := F_T) (N := 6) hx hb htb in_T hown hK hP 1 rfl rfl 1 (by decide) (htb _ wd_47) (fun _ h9 => h9) rfl d_T_addArea_11 ?_
  refine lv_aload_n hx hb d_T_addArea_14 rfl (lv_at hl 0 rfl) ?_
  refine va_get (D := (dC, dI)) (ci := 2) (v := .int (nI (bz_n t))) (C := R_T) (T := F_T) (N := 6) hx hb htb in_T hown hK hP 1 rfl rfl 5 (by decide) (htb _ wd_55) (fun _ h9 => h9) rfl d_T_addArea_15 ?_
  refine lv_iload_n hx hb d_T_addArea_18 rfl (lv_at hl 2 rfl) ?_
  refine bz_iast hx hb hK hP hD hS 3 0 rfl rfl (a9 := (bz_n t)) (by omega) (by decide) d_T_addArea_19 (fun H locs hP hD hS => ?_)
  have hP : va_P (dC, dI) vwCl (bz_wB ad cI cL ((vp_updL ((bz_tR t).1) (bz_n t) (lN x)), (upd ((bz_tR t).2.1) (bz_n t) (nI r)), (bz_tR t).2.2.1, (bz_tR t).2.2.2.1, (bz_tR t).2.2.2.2.1, nI (bz_n t)) R L v) H := hP
  have hD : va_D A (bz_wB ad cI cL ((vp_updL ((bz_tR t).1) (bz_n t) (lN x)), (upd ((bz_tR t).2.1) (bz_n t) (nI r)), (bz_tR t).2.2.1, (bz_tR t).2.2.2.1, (bz_tR t).2.2.2.2.1, nI (bz_n t)) R L v) := hD
  refine lv_aload_n hx hb d_T_addArea_20 rfl (lv_at hl 0 rfl) ?_
  refine lv_dup hx hb d_T_addArea_21 rfl ?_
  refine va_get (D := (dC, dI)) (ci := 2) (v := .int (nI (bz_n t))) (C := R_T) (T := F_T) (N := 6) hx hb htb in_T hown hK hP 1 rfl rfl 5 (by decide) (htb _ wd_55) (fun _ h9 => h9) rfl d_T_addArea_22 ?_
  refine lv_iconst (v := 1) hx hb d_T_addArea_25 (by decide) ?_
  refine lv_iadd hx hb d_T_addArea_26 ?_
  refine bz_ri (y := nI (bz_n t + 1)) (nI_1 _) ?_
  refine va_put (D := (dC, dI)) (ci := 2) (v := .int (nI (bz_n t + 1))) (ty := .int) (C := R_T) (T := F_T) (N := 6) hx hb htb in_T tf_T tok_T n_T hown hK hP hD hS 1 rfl rfl 5 (by decide) (htb _ wd_55) (fun _ h9 => h9) rfl (by decide +kernel) rfl rfl (Nat.le_of_ble_eq_true rfl) d_T_addArea_27 (fun H locs hP hD hS => ?_)
  have hP : va_P (dC, dI) vwCl (bz_wB ad cI cL ((vp_updL ((bz_tR t).1) (bz_n t) (lN x)), (upd ((bz_tR t).2.1) (bz_n t) (nI r)), (bz_tR t).2.2.1, (bz_tR t).2.2.2.1, (bz_tR t).2.2.2.2.1, nI (bz_n t + 1)) R L v) H := hP
  have hD : va_D A (bz_wB ad cI cL ((vp_updL ((bz_tR t).1) (bz_n t) (lN x)), (upd ((bz_tR t).2.1) (bz_n t) (nI r)), (bz_tR t).2.2.1, (bz_tR t).2.2.2.1, (bz_tR t).2.2.2.2.1, nI (bz_n t + 1)) R L v) := hD
  have e9 : bz_tR (bz_aA t x r) = ((vp_updL ((bz_tR t).1) (bz_n t) (lN x)), (upd ((bz_tR t).2.1) (bz_n t) (nI r)), (bz_tR t).2.2.1, (bz_tR t).2.2.2.1, (bz_tR t).2.2.2.2.1, nI (bz_n t + 1)) := bz_aA_R t x r
  have hP : va_P (dC, dI) vwCl (bz_wB ad cI cL (bz_tR (bz_aA t x r)) R L v) H := by rw [e9]; exact hP
  have hD : va_D A (bz_wB ad cI cL (bz_tR (bz_aA t x r)) R L v) := by rw [e9]; exact hD
  exact W.vret hx hb hr (fun t9 ht9 hW => ⟨⟨(), rfl, trivial, by rw [ht9]; exact hP, va_K.moved hW.alike hK, hD⟩, hS.F ht9⟩) hS.2.2 d_T_addArea_30

set_option maxHeartbeats 4000000 in
set_option maxRecDepth 100000 in
/-- Town.turnJoin -/
theorem c_T_turnJoin (l : Launch) (dC : Nat → ClassId) (dI : Nat → Nat → Nat) (sz : Nat) (ad : Nat → Nat) (cI cL : ClassId) (t : bz_T) (R : bz_RS) (L : (Nat → Int32) × Int64) (v : Int32) (ht : bz_ok t) (a b : Nat) (o : Bool) (ha : a < bz_n t) (hbn : b < bz_n t) (hab : a ≠ b) (hj : bz_j t a b = !o) : Met l y_T_turnJoin w_T_turnJoin ({ frames := 0, cells := 0, slots := 0, locals := 0 }) (bz_Pw (dC, dI) [(cI, .int), (cL, .long)] (bz_wB ad cI cL (bz_tR t) R L v) sz [.ref (ad 1), .int (nI a), .int (nI b)]) (bz_Qv (dC, dI) [(cI, .int), (cL, .long)] (va_A (bz_wB ad cI cL (bz_tR t) R L v) sz) (bz_wB ad cI cL (bz_tR (bz_sJ t a b o)) R L v)) 0 0 (va_A (bz_wB ad cI cL (bz_tR t) R L v) sz) := by
  refine Met.ofW (cc := b_T_turnJoin) (maxL := 3) (ret := none) (by decide) rfl ?_
  intro p e s m args below meth c s₁ B hml hv
  obtain ⟨rfl, hsz, hP, hK, hD0, hN⟩ := hv
  have hx := B.exec
  have hb := B.bytes
  have hr := B.returns
  have hts := atoms_spec (ws := w_T_turnJoin) B.pre
  have hown : s.vm.findClass R_T = some m.cls := findClass_of_methodNamed B.named
  have htb : ∀ w ∈ bz_tb, w.before _ s = true := fun w h => hts w (List.mem_cons_of_mem _ h)
  have hlocks := B.notSynchronized
  subst hsz
  have hD := hD0.self (sz := s.heap.size)
  generalize hAe : va_A (bz_wB ad cI cL (bz_tR t) R L v) s.heap.size = A at hD ⊢
  have hA : ∀ q : Nat, s.heap.size ≤ q → A q := fun q h => by rw [← hAe]; exact Or.inr h
  have hS : va_S A s.heap s.heap [] := va_S.rf
  have hl := lv_entry ([.ref (ad 1), .int (nI a), .int (nI b)]) (n := 3) (Nat.le_of_ble_eq_true rfl)
  rw [lg_entry_eq]
  generalize (lg_sl ([.ref (ad 1), .int (nI a), .int (nI b)]) ++ List.replicate (3 - (lg_sl ([.ref (ad 1), .int (nI a), .int (nI b)])).length) Slot.unset).toArray = ls at hl ⊢
  have hl : lv_has ls 3 [(0, .ref (ad 1)), (1, .int (nI a)), (2, .int (nI b))] := hl
  have hn30 := ht.1
  refine lv_aload_n hx hb d_T_turnJoin_0 rfl (lv_at hl 0 rfl) ?_
  refine va_get (D := (dC, dI)) (ci := 2) (v := .ref (ad 4)) (C := R_T) (T := F_T) (N := 6) hx hb htb in_T hown hK hP 1 rfl rfl 2 (by decide) (htb _ wd_50) (fun _ h9 => h9) rfl d_T_turnJoin_1 ?_
  refine lv_iload_n hx hb d_T_turnJoin_4 rfl (lv_at hl 1 rfl) ?_
  refine lv_dup2_11 hx hb d_T_turnJoin_5 rfl rfl ?_
  refine bz_iald (v := bz_m (bz_j t a)) hx hb hK hP 4 0 rfl rfl (a9 := a) (by omega) (by decide) (rfl) d_T_turnJoin_6 ?_
  refine lv_iconst (v := 1) hx hb d_T_turnJoin_7 (by decide) ?_
  refine lv_iload_n hx hb d_T_turnJoin_8 rfl (lv_at hl 2 rfl) ?_
  refine lv_ishl hx hb d_T_turnJoin_9 ?_
  refine bz_ri (y := bz_m (fun i => decide (i = b))) (bz_one (by omega)) ?_
  refine lv_ixor hx hb d_T_turnJoin_10 ?_
  refine bz_ri (y := bz_m (fun i => bz_j t a i ^^ decide (i = b))) (bz_xor _ _) ?_
  refine bz_iast hx hb hK hP hD hS 4 0 rfl rfl (a9 := a) (by omega) (by decide) d_T_turnJoin_11 (fun H locs hP hD hS => ?_)
  have hP : va_P (dC, dI) vwCl (bz_wB ad cI cL ((bz_tR t).1, (bz_tR t).2.1, (upd ((bz_tR t).2.2.1) a (bz_m (fun i => bz_j t a i ^^ decide (i = b)))), (bz_tR t).2.2.2.1, (bz_tR t).2.2.2.2.1, nI (bz_n t)) R L v) H := hP
  have hD : va_D A (bz_wB ad cI cL ((bz_tR t).1, (bz_tR t).2.1, (upd ((bz_tR t).2.2.1) a (bz_m (fun i => bz_j t a i ^^ decide (i = b)))), (bz_tR t).2.2.2.1, (bz_tR t).2.2.2.2.1, nI (bz_n t)) R L v) := hD
  refine lv_aload_n hx hb d_T_turnJoin_12 rfl (lv_at hl 0 rfl) ?_
  refine va_get (D := (dC, dI)) (ci := 2) (v := .ref (ad 4)) (C := R_T) (T := F_T) (N := 6) hx hb htb in_T hown hK hP 1 rfl rfl 2 (by decide) (htb _ wd_50) (fun _ h9 => h9) rfl d_T_turnJoin_13 ?_
  refine lv_iload_n hx hb d_T_turnJoin_16 rfl (lv_at hl 2 rfl) ?_
  refine lv_dup2_11 hx hb d_T_turnJoin_17 rfl rfl ?_
  refine bz_iald (v := bz_m (bz_j t b)) hx hb hK hP 4 0 rfl rfl (a9 := b) (by omega) (by decide) (pk_un (Ne.symm hab)) d_T_turnJoin_18 ?_
  refine lv_iconst (v := 1) hx hb d_T_turnJoin_19 (by decide) ?_
  refine lv_iload_n hx hb d_T_turnJoin_20 rfl (lv_at hl 1 rfl) ?_
  refine lv_ishl hx hb d_T_turnJoin_21 ?_
  refine bz_ri (y := bz_m (fun i => decide (i = a))) (bz_one (by omega)) ?_
  refine lv_ixor hx hb d_T_turnJoin_22 ?_
  refine bz_ri (y := bz_m (fun i => bz_j t b i ^^ decide (i = a))) (bz_xor _ _) ?_
  refine bz_iast hx hb hK hP hD hS 4 0 rfl rfl (a9 := b) (by omega) (by decide) d_T_turnJoin_23 (fun H locs hP hD hS => ?_)
  have hP : va_P (dC, dI) vwCl (bz_wB ad cI cL ((bz_tR t).1, (bz_tR t).2.1, (upd (upd ((bz_tR t).2.2.1) a (bz_m (fun i => bz_j t a i ^^ decide (i = b)))) b (bz_m (fun i => bz_j t b i ^^ decide (i = a)))), (bz_tR t).2.2.2.1, (bz_tR t).2.2.2.2.1, nI (bz_n t)) R L v) H := hP
  have hD : va_D A (bz_wB ad cI cL ((bz_tR t).1, (bz_tR t).2.1, (upd (upd ((bz_tR t).2.2.1) a (bz_m (fun i => bz_j t a i ^^ decide (i = b)))) b (bz_m (fun i => bz_j t b i ^^ decide (i = a)))), (bz_tR t).2.2.2.1, (bz_tR t).2.2.2.2.1, nI (bz_n t)) R L v) := hD
  have e9 : bz_tR (bz_sJ t a b o) = ((bz_tR t).1, (bz_tR t).2.1, (upd (upd ((bz_tR t).2.2.1) a (bz_m (fun i => bz_j t a i ^^ decide (i = b)))) b (bz_m (fun i => bz_j t b i ^^ decide (i = a)))), (bz_tR t).2.2.2.1, (bz_tR t).2.2.2.2.1, nI (bz_n t)) := bz_sJ_R ht hab hj
  have hP : va_P (dC, dI) vwCl (bz_wB ad cI cL (bz_tR (bz_sJ t a b o)) R L v) H := by rw [e9]; exact hP
  have hD : va_D A (bz_wB ad cI cL (bz_tR (bz_sJ t a b o)) R L v) := by rw [e9]; exact hD
  exact W.vret hx hb hr (fun t9 ht9 hW => ⟨⟨(), rfl, trivial, by rw [ht9]; exact hP, va_K.moved hW.alike hK, hD⟩, hS.F ht9⟩) hS.2.2 d_T_turnJoin_24

set_option maxHeartbeats 4000000 in
set_option maxRecDepth 100000 in
/-- Town.learn -/
theorem c_T_learn (l : Launch) (dC : Nat → ClassId) (dI : Nat → Nat → Nat) (sz : Nat) (ad : Nat → Nat) (cI cL : ClassId) (t : bz_T) (R : bz_RS) (L : (Nat → Int32) × Int64) (v : Int32) (ht : bz_ok t) (a r : Nat) (ha : a < bz_n t) (hr4 : r < 4) : Met l y_T_learn w_T_learn ({ frames := 0, cells := 0, slots := 0, locals := 0 }) (bz_Pw (dC, dI) [(cI, .int), (cL, .long)] (bz_wB ad cI cL (bz_tR t) R L v) sz [.ref (ad 1), .int (nI a), .int (nI r)]) (bz_Qv (dC, dI) [(cI, .int), (cL, .long)] (va_A (bz_wB ad cI cL (bz_tR t) R L v) sz) (bz_wB ad cI cL (bz_tR (bz_sK t r a)) R L v)) 0 0 (va_A (bz_wB ad cI cL (bz_tR t) R L v) sz) := by
  refine Met.ofW (cc := b_T_learn) (maxL := 3) (ret := none) (by decide) rfl ?_
  intro p e s m args below meth c s₁ B hml hv
  obtain ⟨rfl, hsz, hP, hK, hD0, hN⟩ := hv
  have hx := B.exec
  have hb := B.bytes
  have hr := B.returns
  have hts := atoms_spec (ws := w_T_learn) B.pre
  have hown : s.vm.findClass R_T = some m.cls := findClass_of_methodNamed B.named
  have htb : ∀ w ∈ bz_tb, w.before _ s = true := fun w h => hts w (List.mem_cons_of_mem _ h)
  have hlocks := B.notSynchronized
  subst hsz
  have hD := hD0.self (sz := s.heap.size)
  generalize hAe : va_A (bz_wB ad cI cL (bz_tR t) R L v) s.heap.size = A at hD ⊢
  have hA : ∀ q : Nat, s.heap.size ≤ q → A q := fun q h => by rw [← hAe]; exact Or.inr h
  have hS : va_S A s.heap s.heap [] := va_S.rf
  have hl := lv_entry ([.ref (ad 1), .int (nI a), .int (nI r)]) (n := 3) (Nat.le_of_ble_eq_true rfl)
  rw [lg_entry_eq]
  generalize (lg_sl ([.ref (ad 1), .int (nI a), .int (nI r)]) ++ List.replicate (3 - (lg_sl ([.ref (ad 1), .int (nI a), .int (nI r)])).length) Slot.unset).toArray = ls at hl ⊢
  have hl : lv_has ls 3 [(0, .ref (ad 1)), (1, .int (nI a)), (2, .int (nI r))] := hl
  have hn30 := ht.1
  refine lv_aload_n hx hb d_T_learn_0 rfl (lv_at hl 0 rfl) ?_
  refine va_get (D := (dC, dI)) (ci := 2) (v := .ref (ad 5)) (C := R_T) (T := F_T) (N := 6) hx hb htb in_T hown hK hP 1 rfl rfl 3 (by decide) (htb _ wd_51) (fun _ h9 => h9) rfl d_T_learn_1 ?_
  refine lv_iload_n hx hb d_T_learn_4 rfl (lv_at hl 2 rfl) ?_
  refine lv_dup2_11 hx hb d_T_learn_5 rfl rfl ?_
  refine bz_iald (v := bz_m (bz_k t r)) hx hb hK hP 5 0 rfl rfl (a9 := r) (by omega) (by decide) (rfl) d_T_learn_6 ?_
  refine lv_iconst (v := 1) hx hb d_T_learn_7 (by decide) ?_
  refine lv_iload_n hx hb d_T_learn_8 rfl (lv_at hl 1 rfl) ?_
  refine lv_ishl hx hb d_T_learn_9 ?_
  refine bz_ri (y := bz_m (fun i => decide (i = a))) (bz_one (by omega)) ?_
  refine lv_ior hx hb d_T_learn_10 ?_
  refine bz_ri (y := bz_m (fun i => bz_k t r i || decide (i = a))) (bz_or _ _) ?_
  refine bz_iast hx hb hK hP hD hS 5 0 rfl rfl (a9 := r) (by omega) (by decide) d_T_learn_11 (fun H locs hP hD hS => ?_)
  have hP : va_P (dC, dI) vwCl (bz_wB ad cI cL ((bz_tR t).1, (bz_tR t).2.1, (bz_tR t).2.2.1, (upd ((bz_tR t).2.2.2.1) r (bz_m (fun i => bz_k t r i || decide (i = a)))), (bz_tR t).2.2.2.2.1, nI (bz_n t)) R L v) H := hP
  have hD : va_D A (bz_wB ad cI cL ((bz_tR t).1, (bz_tR t).2.1, (bz_tR t).2.2.1, (upd ((bz_tR t).2.2.2.1) r (bz_m (fun i => bz_k t r i || decide (i = a)))), (bz_tR t).2.2.2.2.1, nI (bz_n t)) R L v) := hD
  have e9 : bz_tR (bz_sK t r a) = ((bz_tR t).1, (bz_tR t).2.1, (bz_tR t).2.2.1, (upd ((bz_tR t).2.2.2.1) r (bz_m (fun i => bz_k t r i || decide (i = a)))), (bz_tR t).2.2.2.2.1, nI (bz_n t)) := bz_sK_R t r a
  have hP : va_P (dC, dI) vwCl (bz_wB ad cI cL (bz_tR (bz_sK t r a)) R L v) H := by rw [e9]; exact hP
  have hD : va_D A (bz_wB ad cI cL (bz_tR (bz_sK t r a)) R L v) := by rw [e9]; exact hD
  exact W.vret hx hb hr (fun t9 ht9 hW => ⟨⟨(), rfl, trivial, by rw [ht9]; exact hP, va_K.moved hW.alike hK, hD⟩, hS.F ht9⟩) hS.2.2 d_T_learn_12

set_option maxHeartbeats 4000000 in
set_option maxRecDepth 100000 in
/-- area, refused: a number is outside -/
theorem c_B_area_o (l : Launch) (dC : Nat → ClassId) (dI : Nat → Nat → Nat) (ad : Nat → Nat) (cI cL : ClassId) (t : bz_T) (R : bz_RS) (L : (Nat → Int32) × Int64) (v : Int32) (ht : bz_ok t) (z : Int64) (q : Int32) (hz : ¬ (0 ≤ z ∧ z ≤ 1000000 ∧ bz_ir q = true)) : Met l y_B_area w_B_area ({ frames := 1, cells := 0, slots := 0, locals := 23 }) (bz_Pr (dC, dI) [(cI, .int), (cL, .long)] (bz_wB ad cI cL (bz_tR t) R L v) [.ref (ad 0), .long z, .int q]) (vp_Si (fun r9 => r9 = (-12))) 0 0 (fun _ => False) := by
  refine Met.ofW (cc := b_B_area) (maxL := 4) (ret := (some .int)) (by decide) rfl ?_
  intro p e s m args below meth c s₁ B hml hv
  obtain ⟨rfl, hP, hK, hN⟩ := hv
  have hx := B.exec
  have hb := B.bytes
  have hr := B.returns
  have hts := atoms_spec (ws := w_B_area) B.pre
  have hown : s.vm.findClass R_B = some m.cls := findClass_of_methodNamed B.named
  have htb : ∀ w ∈ bz_tb, w.before _ s = true := fun w h => hts w (List.mem_cons_of_mem _ h)
  have hlocks := B.notSynchronized
  have hl := lv_entry ([.ref (ad 0), .long z, .int q]) (n := 4) (Nat.le_of_ble_eq_true rfl)
  rw [lg_entry_eq]
  generalize (lg_sl ([.ref (ad 0), .long z, .int q]) ++ List.replicate (4 - (lg_sl ([.ref (ad 0), .long z, .int q])).length) Slot.unset).toArray = ls at hl ⊢
  have hl : lv_has ls 4 [(0, .ref (ad 0)), (1, .long z), (3, .int q)] := hl
  refine lv_lload_n hx hb d_B_area_0 rfl (lv_at hl 1 rfl) ?_
  refine lv_lconst (v := 0) hx hb d_B_area_1 (by decide) ?_
  refine W.lcmp hx hb d_B_area_2 ?_
  refine lv_if_lt (tgt := 21) hx hb d_B_area_3 (by decide) (fun c_3 => ?_) (fun c_3 => ?_)
  · skip
    refine lv_bipush (v := (-12)) hx hb d_B_area_21 (by decide) ?_
    exact W.iret (v := (-12)) hx hb hr (fun t9 ht9 hW => ⟨(-12), rfl, rfl, ht9⟩) (fun _ h => nomatch h) d_B_area_23
  · skip
    refine lv_lload_n hx hb d_B_area_6 rfl (lv_at hl 1 rfl) ?_
    refine lv_ldc2 (v := 1000000) hx hb hown (htb _ wd_134) d_B_area_7 ?_
    refine W.lcmp hx hb d_B_area_10 ?_
    refine lv_if_gt (tgt := 21) hx hb d_B_area_11 (by decide) (fun c_11 => ?_) (fun c_11 => ?_)
    · skip
      refine lv_bipush (v := (-12)) hx hb d_B_area_21 (by decide) ?_
      exact W.iret (v := (-12)) hx hb hr (fun t9 ht9 hW => ⟨(-12), rfl, rfl, ht9⟩) (fun _ h => nomatch h) d_B_area_23
    · skip
      refine lv_iload_n hx hb d_B_area_14 rfl (lv_at hl 2 rfl) ?_
      refine bz_si (va_runS (As := [.int q]) (rest := []) ⟨hx, hb, hml, hown, htb⟩ (c_B_isRound l dC dI ad cI cL t R L v _) (va_cwS 1 htb (bz_gS wd_137 wd_135 wd_136 wd_19) rfl rfl rfl (by decide +kernel) ⟨Nat.le_of_ble_eq_true rfl, Nat.le_of_ble_eq_true rfl⟩) (bz_rs hN hK hP) rfl rfl hl.1 rfl (lv_room (Nat.le_of_ble_eq_true rfl)) d_B_area_15 ⟨Nat.zero_le _, Nat.zero_le _⟩) ?_
      refine lv_if_ne (tgt := 24) hx hb d_B_area_18 (by decide) (fun c_18 => ?_) (fun c_18 => ?_)
      · skip
        exact absurd ⟨Int64.not_lt.mp (fun y => c_3 ((lg_cmp_lt z 0).mpr y)), Int64.not_lt.mp (fun y => c_11 ((lg_cmp_gt z 1000000).mpr y)), bz_i_ne c_18⟩ hz
      · skip
        refine lv_bipush (v := (-12)) hx hb d_B_area_21 (by decide) ?_
        exact W.iret (v := (-12)) hx hb hr (fun t9 ht9 hW => ⟨(-12), rfl, rfl, ht9⟩) (fun _ h => nomatch h) d_B_area_23

set_option maxHeartbeats 4000000 in
set_option maxRecDepth 100000 in
/-- area, refused: no room -/
theorem c_B_area_r (l : Launch) (dC : Nat → ClassId) (dI : Nat → Nat → Nat) (ad : Nat → Nat) (cI cL : ClassId) (t : bz_T) (R : bz_RS) (L : (Nat → Int32) × Int64) (v : Int32) (ht : bz_ok t) (x r : Nat) (hx0 : x ≤ 1000000) (hr4 : r < 4) (hn : ¬ bz_n t < 30) : Met l y_B_area w_B_area ({ frames := 1, cells := 0, slots := 0, locals := 23 }) (bz_Pr (dC, dI) [(cI, .int), (cL, .long)] (bz_wB ad cI cL (bz_tR t) R L v) [.ref (ad 0), .long (lN x), .int (nI r)]) (vp_Si (fun r9 => r9 = (-14))) 0 0 (fun _ => False) := by
  refine Met.ofW (cc := b_B_area) (maxL := 4) (ret := (some .int)) (by decide) rfl ?_
  intro p e s m args below meth c s₁ B hml hv
  obtain ⟨rfl, hP, hK, hN⟩ := hv
  have hx := B.exec
  have hb := B.bytes
  have hr := B.returns
  have hts := atoms_spec (ws := w_B_area) B.pre
  have hown : s.vm.findClass R_B = some m.cls := findClass_of_methodNamed B.named
  have htb : ∀ w ∈ bz_tb, w.before _ s = true := fun w h => hts w (List.mem_cons_of_mem _ h)
  have hlocks := B.notSynchronized
  have hl := lv_entry ([.ref (ad 0), .long (lN x), .int (nI r)]) (n := 4) (Nat.le_of_ble_eq_true rfl)
  rw [lg_entry_eq]
  generalize (lg_sl ([.ref (ad 0), .long (lN x), .int (nI r)]) ++ List.replicate (4 - (lg_sl ([.ref (ad 0), .long (lN x), .int (nI r)])).length) Slot.unset).toArray = ls at hl ⊢
  have hl : lv_has ls 4 [(0, .ref (ad 0)), (1, .long (lN x)), (3, .int (nI r))] := hl
  have hir : bz_ir (nI r) = true := decide_eq_true ⟨nI_pos' (by omega), (nI_ltI (b := 4) (by omega) (by omega)).mpr hr4⟩
  have hn30 := ht.1
  refine lv_lload_n hx hb d_B_area_0 rfl (lv_at hl 1 rfl) ?_
  refine lv_lconst (v := 0) hx hb d_B_area_1 (by decide) ?_
  refine W.lcmp hx hb d_B_area_2 ?_
  refine lv_if_lt (tgt := 21) hx hb d_B_area_3 (by decide) (fun c_3 => ?_) (fun c_3 => ?_)
  · skip
    exact absurd ((bz_lc_lt (b := 0) (by omega) (by omega)).mp c_3) (by omega)
  · skip
    refine lv_lload_n hx hb d_B_area_6 rfl (lv_at hl 1 rfl) ?_
    refine lv_ldc2 (v := 1000000) hx hb hown (htb _ wd_134) d_B_area_7 ?_
    refine W.lcmp hx hb d_B_area_10 ?_
    refine lv_if_gt (tgt := 21) hx hb d_B_area_11 (by decide) (fun c_11 => ?_) (fun c_11 => ?_)
    · skip
      exact absurd ((bz_lc_gt (b := 1000000) (by omega) (by omega)).mp c_11) (by omega)
    · skip
      refine lv_iload_n hx hb d_B_area_14 rfl (lv_at hl 2 rfl) ?_
      refine bz_si (va_runS (As := [.int (nI r)]) (rest := []) ⟨hx, hb, hml, hown, htb⟩ (c_B_isRound l dC dI ad cI cL t R L v _) (va_cwS 1 htb (bz_gS wd_137 wd_135 wd_136 wd_19) rfl rfl rfl (by decide +kernel) ⟨Nat.le_of_ble_eq_true rfl, Nat.le_of_ble_eq_true rfl⟩) (bz_rs hN hK hP) rfl rfl hl.1 rfl (lv_room (Nat.le_of_ble_eq_true rfl)) d_B_area_15 ⟨Nat.zero_le _, Nat.zero_le _⟩) ?_
      refine lv_if_ne (tgt := 24) hx hb d_B_area_18 (by decide) (fun c_18 => ?_) (fun c_18 => ?_)
      · skip
        refine lv_aload_n hx hb d_B_area_24 rfl (lv_at hl 0 rfl) ?_
        refine va_get (D := (dC, dI)) (ci := 3) (v := .ref (ad 1)) (C := R_B) (T := F_B) (N := 4) hx hb htb in_B hown hK hP 0 rfl rfl 0 (by decide) (htb _ wd_117) (fun _ h9 => h9) rfl d_B_area_25 ?_
        refine va_getN (D := (dC, dI)) (ci := 2) (v := .int (nI (bz_n t))) (C := R_T) (T := F_T) (N := 6) hx hb htb in_T hown hK hP 1 rfl rfl 5 (by decide) (va_Nw.use rfl (hN _ nd_57)) (fun _ h9 => h9) rfl d_B_area_28 ?_
        refine lv_bipush (v := 30) hx hb d_B_area_31 (by decide) ?_
        refine lv_icmp_lt (tgt := 39) hx hb d_B_area_33 (by decide) (fun c_33 => ?_) (fun c_33 => ?_)
        · skip
          exact absurd ((nI_ltI (b := 30) (by omega) (by omega)).mp c_33) hn
        · skip
          refine lv_bipush (v := (-14)) hx hb d_B_area_36 (by decide) ?_
          exact W.iret (v := (-14)) hx hb hr (fun t9 ht9 hW => ⟨(-14), rfl, rfl, ht9⟩) (fun _ h => nomatch h) d_B_area_38
      · skip
        exact absurd (bz_i_eq c_18) (by rw [hir]; decide)

set_option maxHeartbeats 4000000 in
set_option maxRecDepth 100000 in
/-- area -/
theorem c_B_area (l : Launch) (dC : Nat → ClassId) (dI : Nat → Nat → Nat) (sz : Nat) (ad : Nat → Nat) (cI cL : ClassId) (t : bz_T) (R : bz_RS) (L : (Nat → Int32) × Int64) (v : Int32) (ht : bz_ok t) (x r : Nat) (hx0 : x ≤ 1000000) (hr4 : r < 4) (hn : bz_n t < 30) : Met l y_B_area w_B_area ({ frames := 1, cells := 0, slots := 0, locals := 23 }) (bz_Pw (dC, dI) [(cI, .int), (cL, .long)] (bz_wB ad cI cL (bz_tR t) R L v) sz [.ref (ad 0), .long (lN x), .int (nI r)]) (bz_Qi (dC, dI) [(cI, .int), (cL, .long)] (va_A (bz_wB ad cI cL (bz_tR t) R L v) sz) (nI (bz_n t + 1)) (bz_wB ad cI cL (bz_tR (bz_aA t x r)) R L 0)) 0 0 (va_A (bz_wB ad cI cL (bz_tR t) R L v) sz) := by
  refine Met.ofW (cc := b_B_area) (maxL := 4) (ret := (some .int)) (by decide) rfl ?_
  intro p e s m args below meth c s₁ B hml hv
  obtain ⟨rfl, hsz, hP, hK, hD0, hN⟩ := hv
  have hx := B.exec
  have hb := B.bytes
  have hr := B.returns
  have hts := atoms_spec (ws := w_B_area) B.pre
  have hown : s.vm.findClass R_B = some m.cls := findClass_of_methodNamed B.named
  have htb : ∀ w ∈ bz_tb, w.before _ s = true := fun w h => hts w (List.mem_cons_of_mem _ h)
  have hlocks := B.notSynchronized
  subst hsz
  have hD := hD0.self (sz := s.heap.size)
  generalize hAe : va_A (bz_wB ad cI cL (bz_tR t) R L v) s.heap.size = A at hD ⊢
  have hA : ∀ q : Nat, s.heap.size ≤ q → A q := fun q h => by rw [← hAe]; exact Or.inr h
  have hS : va_S A s.heap s.heap [] := va_S.rf
  have hl := lv_entry ([.ref (ad 0), .long (lN x), .int (nI r)]) (n := 4) (Nat.le_of_ble_eq_true rfl)
  rw [lg_entry_eq]
  generalize (lg_sl ([.ref (ad 0), .long (lN x), .int (nI r)]) ++ List.replicate (4 - (lg_sl ([.ref (ad 0), .long (lN x), .int (nI r)])).length) Slot.unset).toArray = ls at hl ⊢
  have hl : lv_has ls 4 [(0, .ref (ad 0)), (1, .long (lN x)), (3, .int (nI r))] := hl
  have hir : bz_ir (nI r) = true := decide_eq_true ⟨nI_pos' (by omega), (nI_ltI (b := 4) (by omega) (by omega)).mpr hr4⟩
  have hn30 := ht.1
  refine lv_lload_n hx hb d_B_area_0 rfl (lv_at hl 1 rfl) ?_
  refine lv_lconst (v := 0) hx hb d_B_area_1 (by decide) ?_
  refine W.lcmp hx hb d_B_area_2 ?_
  refine lv_if_lt (tgt := 21) hx hb d_B_area_3 (by decide) (fun c_3 => ?_) (fun c_3 => ?_)
  · skip
    exact absurd ((bz_lc_lt (b := 0) (by omega) (by omega)).mp c_3) (by omega)
  · skip
    refine lv_lload_n hx hb d_B_area_6 rfl (lv_at hl 1 rfl) ?_
    refine lv_ldc2 (v := 1000000) hx hb hown (htb _ wd_134) d_B_area_7 ?_
    refine W.lcmp hx hb d_B_area_10 ?_
    refine lv_if_gt (tgt := 21) hx hb d_B_area_11 (by decide) (fun c_11 => ?_) (fun c_11 => ?_)
    · skip
      exact absurd ((bz_lc_gt (b := 1000000) (by omega) (by omega)).mp c_11) (by omega)
    · skip
      refine lv_iload_n hx hb d_B_area_14 rfl (lv_at hl 2 rfl) ?_
      refine bz_si (va_runS (As := [.int (nI r)]) (rest := []) ⟨hx, hb, hml, hown, htb⟩ (c_B_isRound l dC dI ad cI cL t R L v _) (va_cwS 1 htb (bz_gS wd_137 wd_135 wd_136 wd_19) rfl rfl rfl (by decide +kernel) ⟨Nat.le_of_ble_eq_true rfl, Nat.le_of_ble_eq_true rfl⟩) (bz_rs hN hK hP) rfl rfl hl.1 rfl (lv_room (Nat.le_of_ble_eq_true rfl)) d_B_area_15 ⟨Nat.zero_le _, Nat.zero_le _⟩) ?_
      refine lv_if_ne (tgt := 24) hx hb d_B_area_18 (by decide) (fun c_18 => ?_) (fun c_18 => ?_)
      · skip
        refine lv_aload_n hx hb d_B_area_24 rfl (lv_at hl 0 rfl) ?_
        refine va_get (D := (dC, dI)) (ci := 3) (v := .ref (ad 1)) (C := R_B) (T := F_B) (N := 4) hx hb htb in_B hown hK hP 0 rfl rfl 0 (by decide) (htb _ wd_117) (fun _ h9 => h9) rfl d_B_area_25 ?_
        refine va_getN (D := (dC, dI)) (ci := 2) (v := .int (nI (bz_n t))) (C := R_T) (T := F_T) (N := 6) hx hb htb in_T hown hK hP 1 rfl rfl 5 (by decide) (va_Nw.use rfl (hN _ nd_57)) (fun _ h9 => h9) rfl d_B_area_28 ?_
        refine lv_bipush (v := 30) hx hb d_B_area_31 (by decide) ?_
        refine lv_icmp_lt (tgt := 39) hx hb d_B_area_33 (by decide) (fun c_33 => ?_) (fun c_33 => ?_)
        · skip
          refine lv_aload_n hx hb d_B_area_39 rfl (lv_at hl 0 rfl) ?_
          refine va_get (D := (dC, dI)) (ci := 3) (v := .ref (ad 1)) (C := R_B) (T := F_B) (N := 4) hx hb htb in_B hown hK hP 0 rfl rfl 0 (by decide) (htb _ wd_117) (fun _ h9 => h9) rfl d_B_area_40 ?_
          refine lv_lload_n hx hb d_B_area_43 rfl (lv_at hl 1 rfl) ?_
          refine lv_iload_n hx hb d_B_area_44 rfl (lv_at hl 2 rfl) ?_
          refine bz_cv (va_runV (As := [.long (lN x), .int (nI r)]) (rest := []) ⟨hx, hb, hml, hown, htb⟩ (c_T_addArea l dC dI _ ad cI cL t R L v ht _ _ (by omega)) (cwV 2 htb (bz_gV wd_141 wd_138 wd_139 wd_140 wd_20) rfl rfl rfl (by decide +kernel) ⟨Nat.le_of_ble_eq_true rfl, Nat.le_of_ble_eq_true rfl⟩) (bz_wv hN hK hP hD (q0 := 1) rfl rfl) rfl rfl hl.1 rfl (lv_room (Nat.le_of_ble_eq_true rfl)) d_B_area_45 ⟨Nat.zero_le _, Nat.zero_le _⟩) hD hS hA (fun H locs hP hD hS => ?_)
          have hP : va_P (dC, dI) vwCl (bz_wB ad cI cL (bz_tR (bz_aA t x r)) R L v) H := hP
          have hD : va_D A (bz_wB ad cI cL (bz_tR (bz_aA t x r)) R L v) := hD
          refine lv_aload_n hx hb d_B_area_48 rfl (lv_at hl 0 rfl) ?_
          refine lv_iconst (v := 0) hx hb d_B_area_49 (by decide) ?_
          refine va_put (D := (dC, dI)) (ci := 3) (v := .int 0) (ty := .boolean) (C := R_B) (T := F_B) (N := 4) hx hb htb in_B tf_B tok_B n_B hown hK hP hD hS 0 rfl rfl 3 (by decide) (htb _ wd_120) (fun _ h9 => h9) rfl (by decide +kernel) rfl rfl (Nat.le_of_ble_eq_true rfl) d_B_area_50 (fun H locs hP hD hS => ?_)
          have hP : va_P (dC, dI) vwCl (bz_wB ad cI cL (bz_tR (bz_aA t x r)) R L 0) H := hP
          have hD : va_D A (bz_wB ad cI cL (bz_tR (bz_aA t x r)) R L 0) := hD
          refine lv_aload_n hx hb d_B_area_53 rfl (lv_at hl 0 rfl) ?_
          refine va_get (D := (dC, dI)) (ci := 3) (v := .ref (ad 1)) (C := R_B) (T := F_B) (N := 4) hx hb htb in_B hown hK hP 0 rfl rfl 0 (by decide) (htb _ wd_117) (fun _ h9 => h9) rfl d_B_area_54 ?_
          refine va_getN (D := (dC, dI)) (ci := 2) (v := .int (nI (bz_n (bz_aA t x r)))) (C := R_T) (T := F_T) (N := 6) hx hb htb in_T hown hK hP 1 rfl rfl 5 (by decide) (va_Nw.use rfl (hN _ nd_57)) (fun _ h9 => h9) rfl d_B_area_57 ?_
          exact W.iret (v := nI (bz_n (bz_aA t x r))) hx hb hr (fun t9 ht9 hW => ⟨⟨nI (bz_n (bz_aA t x r)), (), rfl, rfl, by rw [ht9]; exact hP, va_K.moved hW.alike hK, hD⟩, hS.F ht9⟩) hS.2.2 d_B_area_60
        · skip
          exact absurd ((nI_ltI (b := 30) (by omega) (by omega)).mpr hn) c_33
      · skip
        exact absurd (bz_i_eq c_18) (by rw [hir]; decide)

set_option maxHeartbeats 4000000 in
set_option maxRecDepth 100000 in
/-- joined, nothing comes of it -/
theorem c_B_joined_o (l : Launch) (dC : Nat → ClassId) (dI : Nat → Nat → Nat) (ad : Nat → Nat) (cI cL : ClassId) (t : bz_T) (R : bz_RS) (L : (Nat → Int32) × Int64) (v : Int32) (ht : bz_ok t) (x y : Int32) (br : Bool) (hz : ¬ (bz_ia (bz_n t) x = true ∧ bz_ia (bz_n t) y = true ∧ x ≠ y)) : Met l y_B_joined w_B_joined ({ frames := 1, cells := 0, slots := 0, locals := 22 }) (bz_Pr (dC, dI) [(cI, .int), (cL, .long)] (bz_wB ad cI cL (bz_tR t) R L v) [.ref (ad 0), .int x, .int y, .int (bz_i br)]) (vp_Si (fun r9 => r9 = 0)) 0 0 (fun _ => False) := by
  refine Met.ofW (cc := b_B_joined) (maxL := 5) (ret := (some .boolean)) (by decide) rfl ?_
  intro p e s m args below meth c s₁ B hml hv
  obtain ⟨rfl, hP, hK, hN⟩ := hv
  have hx := B.exec
  have hb := B.bytes
  have hr := B.returns
  have hts := atoms_spec (ws := w_B_joined) B.pre
  have hown : s.vm.findClass R_B = some m.cls := findClass_of_methodNamed B.named
  have htb : ∀ w ∈ bz_tb, w.before _ s = true := fun w h => hts w (List.mem_cons_of_mem _ h)
  have hlocks := B.notSynchronized
  have hl := lv_entry ([.ref (ad 0), .int x, .int y, .int (bz_i br)]) (n := 5) (Nat.le_of_ble_eq_true rfl)
  rw [lg_entry_eq]
  generalize (lg_sl ([.ref (ad 0), .int x, .int y, .int (bz_i br)]) ++ List.replicate (5 - (lg_sl ([.ref (ad 0), .int x, .int y, .int (bz_i br)])).length) Slot.unset).toArray = ls at hl ⊢
  have hl : lv_has ls 5 [(0, .ref (ad 0)), (1, .int x), (2, .int y), (3, .int (bz_i br))] := hl
  refine lv_aload_n hx hb d_B_joined_0 rfl (lv_at hl 0 rfl) ?_
  refine lv_iload_n hx hb d_B_joined_1 rfl (lv_at hl 1 rfl) ?_
  refine bz_si (va_runV (As := [.int x]) (rest := []) ⟨hx, hb, hml, hown, htb⟩ (c_B_isArea l dC dI ad cI cL t R L v _) (cwV 1 htb (bz_gV wd_149 wd_146 wd_148 wd_0 wd_19) rfl rfl rfl (by decide +kernel) ⟨Nat.le_of_ble_eq_true rfl, Nat.le_of_ble_eq_true rfl⟩) (bz_rv hN hK hP (q0 := 0) rfl rfl) rfl rfl hl.1 rfl (lv_room (Nat.le_of_ble_eq_true rfl)) d_B_joined_2 ⟨Nat.zero_le _, Nat.zero_le _⟩) ?_
  refine lv_if_eq (tgt := 21) hx hb d_B_joined_5 (by decide) (fun c_5 => ?_) (fun c_5 => ?_)
  · skip
    refine lv_iconst (v := 0) hx hb d_B_joined_21 (by decide) ?_
    exact W.zret (v := 0) hx hb hr (rfl) (fun t9 ht9 hW => ⟨0, rfl, rfl, ht9⟩) (fun _ h => nomatch h) d_B_joined_22
  · skip
    refine lv_aload_n hx hb d_B_joined_8 rfl (lv_at hl 0 rfl) ?_
    refine lv_iload_n hx hb d_B_joined_9 rfl (lv_at hl 2 rfl) ?_
    refine bz_si (va_runV (As := [.int y]) (rest := []) ⟨hx, hb, hml, hown, htb⟩ (c_B_isArea l dC dI ad cI cL t R L v _) (cwV 1 htb (bz_gV wd_149 wd_146 wd_148 wd_0 wd_19) rfl rfl rfl (by decide +kernel) ⟨Nat.le_of_ble_eq_true rfl, Nat.le_of_ble_eq_true rfl⟩) (bz_rv hN hK hP (q0 := 0) rfl rfl) rfl rfl hl.1 rfl (lv_room (Nat.le_of_ble_eq_true rfl)) d_B_joined_10 ⟨Nat.zero_le _, Nat.zero_le _⟩) ?_
    refine lv_if_eq (tgt := 21) hx hb d_B_joined_13 (by decide) (fun c_13 => ?_) (fun c_13 => ?_)
    · skip
      refine lv_iconst (v := 0) hx hb d_B_joined_21 (by decide) ?_
      exact W.zret (v := 0) hx hb hr (rfl) (fun t9 ht9 hW => ⟨0, rfl, rfl, ht9⟩) (fun _ h => nomatch h) d_B_joined_22
    · skip
      refine lv_iload_n hx hb d_B_joined_16 rfl (lv_at hl 1 rfl) ?_
      refine lv_iload_n hx hb d_B_joined_17 rfl (lv_at hl 2 rfl) ?_
      refine lv_icmp_ne (tgt := 23) hx hb d_B_joined_18 (by decide) (fun c_18 => ?_) (fun c_18 => ?_)
      · skip
        exact absurd ⟨bz_i_ne c_5, bz_i_ne c_13, c_18⟩ hz
      · skip
        refine lv_iconst (v := 0) hx hb d_B_joined_21 (by decide) ?_
        exact W.zret (v := 0) hx hb hr (rfl) (fun t9 ht9 hW => ⟨0, rfl, rfl, ht9⟩) (fun _ h => nomatch h) d_B_joined_22

set_option maxHeartbeats 4000000 in
set_option maxRecDepth 100000 in
/-- joined, as before -/
theorem c_B_joined_s (l : Launch) (dC : Nat → ClassId) (dI : Nat → Nat → Nat) (ad : Nat → Nat) (cI cL : ClassId) (t : bz_T) (R : bz_RS) (L : (Nat → Int32) × Int64) (v : Int32) (ht : bz_ok t) (a b : Nat) (br : Bool) (ha : a < bz_n t) (hbn : b < bz_n t) (hab : a ≠ b) (hj : bz_j t a b = !br) : Met l y_B_joined w_B_joined ({ frames := 1, cells := 0, slots := 0, locals := 22 }) (bz_Pr (dC, dI) [(cI, .int), (cL, .long)] (bz_wB ad cI cL (bz_tR t) R L v) [.ref (ad 0), .int (nI (a + 1)), .int (nI (b + 1)), .int (bz_i br)]) (vp_Si (fun r9 => r9 = bz_i (!br))) 0 0 (fun _ => False) := by
  refine Met.ofW (cc := b_B_joined) (maxL := 5) (ret := (some .boolean)) (by decide) rfl ?_
  intro p e s m args below meth c s₁ B hml hv
  obtain ⟨rfl, hP, hK, hN⟩ := hv
  have hx := B.exec
  have hb := B.bytes
  have hr := B.returns
  have hts := atoms_spec (ws := w_B_joined) B.pre
  have hown : s.vm.findClass R_B = some m.cls := findClass_of_methodNamed B.named
  have htb : ∀ w ∈ bz_tb, w.before _ s = true := fun w h => hts w (List.mem_cons_of_mem _ h)
  have hlocks := B.notSynchronized
  have hl := lv_entry ([.ref (ad 0), .int (nI (a + 1)), .int (nI (b + 1)), .int (bz_i br)]) (n := 5) (Nat.le_of_ble_eq_true rfl)
  rw [lg_entry_eq]
  generalize (lg_sl ([.ref (ad 0), .int (nI (a + 1)), .int (nI (b + 1)), .int (bz_i br)]) ++ List.replicate (5 - (lg_sl ([.ref (ad 0), .int (nI (a + 1)), .int (nI (b + 1)), .int (bz_i br)])).length) Slot.unset).toArray = ls at hl ⊢
  have hl : lv_has ls 5 [(0, .ref (ad 0)), (1, .int (nI (a + 1))), (2, .int (nI (b + 1))), (3, .int (bz_i br))] := hl
  have hn30 := ht.1
  have hia : bz_ia (bz_n t) (nI (a + 1)) = true := decide_eq_true ⟨(nI_leI (a := 1) (by omega) (by omega)).mpr (by omega), (nI_leI (by omega) (by omega)).mpr (by omega)⟩
  have hib : bz_ia (bz_n t) (nI (b + 1)) = true := decide_eq_true ⟨(nI_leI (a := 1) (by omega) (by omega)).mpr (by omega), (nI_leI (by omega) (by omega)).mpr (by omega)⟩
  refine lv_aload_n hx hb d_B_joined_0 rfl (lv_at hl 0 rfl) ?_
  refine lv_iload_n hx hb d_B_joined_1 rfl (lv_at hl 1 rfl) ?_
  refine bz_si (va_runV (As := [.int (nI (a + 1))]) (rest := []) ⟨hx, hb, hml, hown, htb⟩ (c_B_isArea l dC dI ad cI cL t R L v _) (cwV 1 htb (bz_gV wd_149 wd_146 wd_148 wd_0 wd_19) rfl rfl rfl (by decide +kernel) ⟨Nat.le_of_ble_eq_true rfl, Nat.le_of_ble_eq_true rfl⟩) (bz_rv hN hK hP (q0 := 0) rfl rfl) rfl rfl hl.1 rfl (lv_room (Nat.le_of_ble_eq_true rfl)) d_B_joined_2 ⟨Nat.zero_le _, Nat.zero_le _⟩) ?_
  refine lv_if_eq (tgt := 21) hx hb d_B_joined_5 (by decide) (fun c_5 => ?_) (fun c_5 => ?_)
  · skip
    exact absurd (bz_i_eq c_5) (by rw [hia]; decide)
  · skip
    refine lv_aload_n hx hb d_B_joined_8 rfl (lv_at hl 0 rfl) ?_
    refine lv_iload_n hx hb d_B_joined_9 rfl (lv_at hl 2 rfl) ?_
    refine bz_si (va_runV (As := [.int (nI (b + 1))]) (rest := []) ⟨hx, hb, hml, hown, htb⟩ (c_B_isArea l dC dI ad cI cL t R L v _) (cwV 1 htb (bz_gV wd_149 wd_146 wd_148 wd_0 wd_19) rfl rfl rfl (by decide +kernel) ⟨Nat.le_of_ble_eq_true rfl, Nat.le_of_ble_eq_true rfl⟩) (bz_rv hN hK hP (q0 := 0) rfl rfl) rfl rfl hl.1 rfl (lv_room (Nat.le_of_ble_eq_true rfl)) d_B_joined_10 ⟨Nat.zero_le _, Nat.zero_le _⟩) ?_
    refine lv_if_eq (tgt := 21) hx hb d_B_joined_13 (by decide) (fun c_13 => ?_) (fun c_13 => ?_)
    · skip
      exact absurd (bz_i_eq c_13) (by rw [hib]; decide)
    · skip
      refine lv_iload_n hx hb d_B_joined_16 rfl (lv_at hl 1 rfl) ?_
      refine lv_iload_n hx hb d_B_joined_17 rfl (lv_at hl 2 rfl) ?_
      refine lv_icmp_ne (tgt := 23) hx hb d_B_joined_18 (by decide) (fun c_18 => ?_) (fun c_18 => ?_)
      · skip
        refine lv_iload_n hx hb d_B_joined_23 rfl (lv_at hl 3 rfl) ?_
        refine lv_if_ne (tgt := 31) hx hb d_B_joined_24 (by decide) (fun c_24 => ?_) (fun c_24 => ?_)
        · skip
          have hbr := bz_i_ne c_24
          refine lv_iconst (v := nI 0) hx hb d_B_joined_31 (by decide) ?_
          refine lv_istore (lv' := [(4, .int (nI 0)), (0, .ref (ad 0)), (1, .int (nI (a + 1))), (2, .int (nI (b + 1))), (3, .int (bz_i br))]) hx hb d_B_joined_32 hl (by decide) rfl (fun ls hl => ?_)
          refine lv_aload_n hx hb d_B_joined_34 rfl (lv_at hl 1 rfl) ?_
          refine va_get (D := (dC, dI)) (ci := 3) (v := .ref (ad 1)) (C := R_B) (T := F_B) (N := 4) hx hb htb in_B hown hK hP 0 rfl rfl 0 (by decide) (htb _ wd_117) (fun _ h9 => h9) rfl d_B_joined_35 ?_
          refine lv_iload_n hx hb d_B_joined_38 rfl (lv_at hl 2 rfl) ?_
          refine lv_iconst (v := 1) hx hb d_B_joined_39 (by decide) ?_
          refine lv_isub hx hb d_B_joined_40 ?_
          refine bz_ri (y := nI a) (nI_pred a) ?_
          refine lv_iload_n hx hb d_B_joined_41 rfl (lv_at hl 3 rfl) ?_
          refine lv_iconst (v := 1) hx hb d_B_joined_42 (by decide) ?_
          refine lv_isub hx hb d_B_joined_43 ?_
          refine bz_ri (y := nI b) (nI_pred b) ?_
          refine bz_si (va_runV (As := [.int (nI a), .int (nI b)]) (rest := []) ⟨hx, hb, hml, hown, htb⟩ (c_T_areJoined l dC dI ad cI cL t R L v _ _ (by omega) (by omega)) (cwV 2 htb (bz_gV wd_153 wd_150 wd_151 wd_152 wd_20) rfl rfl rfl (by decide +kernel) ⟨Nat.le_of_ble_eq_true rfl, Nat.le_of_ble_eq_true rfl⟩) (bz_rv hN hK hP (q0 := 1) rfl rfl) rfl rfl hl.1 rfl (lv_room (Nat.le_of_ble_eq_true rfl)) d_B_joined_44 ⟨Nat.zero_le _, Nat.zero_le _⟩) ?_
          refine lv_iload hx hb d_B_joined_47 (lv_at hl 0 rfl) ?_
          refine lv_icmp_eq (tgt := 70) hx hb d_B_joined_49 (by decide) (fun c_49 => ?_) (fun c_49 => ?_)
          · skip
            refine lv_iload hx hb d_B_joined_70 (lv_at hl 0 rfl) ?_
            exact W.zret (v := nI 0) hx hb hr (rfl) (fun t9 ht9 hW => ⟨nI 0, rfl, by rw [hbr]; rfl, ht9⟩) (fun _ h => nomatch h) d_B_joined_72
          · skip
            exact absurd (by rw [hj, hbr]; rfl) c_49
        · skip
          have hbr := bz_i_eq c_24
          refine lv_iconst (v := 1) hx hb d_B_joined_27 (by decide) ?_
          refine lv_goto (tgt := 32) hx hb d_B_joined_28 (by decide) ?_
          refine lv_istore (lv' := [(4, .int 1), (0, .ref (ad 0)), (1, .int (nI (a + 1))), (2, .int (nI (b + 1))), (3, .int (bz_i br))]) hx hb d_B_joined_32 hl (by decide) rfl (fun ls hl => ?_)
          refine lv_aload_n hx hb d_B_joined_34 rfl (lv_at hl 1 rfl) ?_
          refine va_get (D := (dC, dI)) (ci := 3) (v := .ref (ad 1)) (C := R_B) (T := F_B) (N := 4) hx hb htb in_B hown hK hP 0 rfl rfl 0 (by decide) (htb _ wd_117) (fun _ h9 => h9) rfl d_B_joined_35 ?_
          refine lv_iload_n hx hb d_B_joined_38 rfl (lv_at hl 2 rfl) ?_
          refine lv_iconst (v := 1) hx hb d_B_joined_39 (by decide) ?_
          refine lv_isub hx hb d_B_joined_40 ?_
          refine bz_ri (y := nI a) (nI_pred a) ?_
          refine lv_iload_n hx hb d_B_joined_41 rfl (lv_at hl 3 rfl) ?_
          refine lv_iconst (v := 1) hx hb d_B_joined_42 (by decide) ?_
          refine lv_isub hx hb d_B_joined_43 ?_
          refine bz_ri (y := nI b) (nI_pred b) ?_
          refine bz_si (va_runV (As := [.int (nI a), .int (nI b)]) (rest := []) ⟨hx, hb, hml, hown, htb⟩ (c_T_areJoined l dC dI ad cI cL t R L v _ _ (by omega) (by omega)) (cwV 2 htb (bz_gV wd_153 wd_150 wd_151 wd_152 wd_20) rfl rfl rfl (by decide +kernel) ⟨Nat.le_of_ble_eq_true rfl, Nat.le_of_ble_eq_true rfl⟩) (bz_rv hN hK hP (q0 := 1) rfl rfl) rfl rfl hl.1 rfl (lv_room (Nat.le_of_ble_eq_true rfl)) d_B_joined_44 ⟨Nat.zero_le _, Nat.zero_le _⟩) ?_
          refine lv_iload hx hb d_B_joined_47 (lv_at hl 0 rfl) ?_
          refine lv_icmp_eq (tgt := 70) hx hb d_B_joined_49 (by decide) (fun c_49 => ?_) (fun c_49 => ?_)
          · skip
            refine lv_iload hx hb d_B_joined_70 (lv_at hl 0 rfl) ?_
            exact W.zret (v := 1) hx hb hr (rfl) (fun t9 ht9 hW => ⟨1, rfl, by rw [hbr]; rfl, ht9⟩) (fun _ h => nomatch h) d_B_joined_72
          · skip
            exact absurd (by rw [hj, hbr]; rfl) c_49
      · skip
        exact absurd ((nI_eq (by omega) (by omega)).mp c_18) (by omega)

set_option maxHeartbeats 4000000 in
set_option maxRecDepth 100000 in
/-- joined -/
theorem c_B_joined (l : Launch) (dC : Nat → ClassId) (dI : Nat → Nat → Nat) (sz : Nat) (ad : Nat → Nat) (cI cL : ClassId) (t : bz_T) (R : bz_RS) (L : (Nat → Int32) × Int64) (v : Int32) (ht : bz_ok t) (a b : Nat) (br : Bool) (ha : a < bz_n t) (hbn : b < bz_n t) (hab : a ≠ b) (hj : bz_j t a b = br) : Met l y_B_joined w_B_joined ({ frames := 1, cells := 0, slots := 0, locals := 22 }) (bz_Pw (dC, dI) [(cI, .int), (cL, .long)] (bz_wB ad cI cL (bz_tR t) R L v) sz [.ref (ad 0), .int (nI (a + 1)), .int (nI (b + 1)), .int (bz_i br)]) (bz_Qi (dC, dI) [(cI, .int), (cL, .long)] (va_A (bz_wB ad cI cL (bz_tR t) R L v) sz) (bz_i (!br)) (bz_wB ad cI cL (bz_tR (bz_sJ t a b (!br))) R L 0)) 0 0 (va_A (bz_wB ad cI cL (bz_tR t) R L v) sz) := by
  refine Met.ofW (cc := b_B_joined) (maxL := 5) (ret := (some .boolean)) (by decide) rfl ?_
  intro p e s m args below meth c s₁ B hml hv
  obtain ⟨rfl, hsz, hP, hK, hD0, hN⟩ := hv
  have hx := B.exec
  have hb := B.bytes
  have hr := B.returns
  have hts := atoms_spec (ws := w_B_joined) B.pre
  have hown : s.vm.findClass R_B = some m.cls := findClass_of_methodNamed B.named
  have htb : ∀ w ∈ bz_tb, w.before _ s = true := fun w h => hts w (List.mem_cons_of_mem _ h)
  have hlocks := B.notSynchronized
  subst hsz
  have hD := hD0.self (sz := s.heap.size)
  generalize hAe : va_A (bz_wB ad cI cL (bz_tR t) R L v) s.heap.size = A at hD ⊢
  have hA : ∀ q : Nat, s.heap.size ≤ q → A q := fun q h => by rw [← hAe]; exact Or.inr h
  have hS : va_S A s.heap s.heap [] := va_S.rf
  have hl := lv_entry ([.ref (ad 0), .int (nI (a + 1)), .int (nI (b + 1)), .int (bz_i br)]) (n := 5) (Nat.le_of_ble_eq_true rfl)
  rw [lg_entry_eq]
  generalize (lg_sl ([.ref (ad 0), .int (nI (a + 1)), .int (nI (b + 1)), .int (bz_i br)]) ++ List.replicate (5 - (lg_sl ([.ref (ad 0), .int (nI (a + 1)), .int (nI (b + 1)), .int (bz_i br)])).length) Slot.unset).toArray = ls at hl ⊢
  have hl : lv_has ls 5 [(0, .ref (ad 0)), (1, .int (nI (a + 1))), (2, .int (nI (b + 1))), (3, .int (bz_i br))] := hl
  have hn30 := ht.1
  have hia : bz_ia (bz_n t) (nI (a + 1)) = true := decide_eq_true ⟨(nI_leI (a := 1) (by omega) (by omega)).mpr (by omega), (nI_leI (by omega) (by omega)).mpr (by omega)⟩
  have hib : bz_ia (bz_n t) (nI (b + 1)) = true := decide_eq_true ⟨(nI_leI (a := 1) (by omega) (by omega)).mpr (by omega), (nI_leI (by omega) (by omega)).mpr (by omega)⟩
  refine lv_aload_n hx hb d_B_joined_0 rfl (lv_at hl 0 rfl) ?_
  refine lv_iload_n hx hb d_B_joined_1 rfl (lv_at hl 1 rfl) ?_
  refine bz_si (va_runV (As := [.int (nI (a + 1))]) (rest := []) ⟨hx, hb, hml, hown, htb⟩ (c_B_isArea l dC dI ad cI cL t R L v _) (cwV 1 htb (bz_gV wd_149 wd_146 wd_148 wd_0 wd_19) rfl rfl rfl (by decide +kernel) ⟨Nat.le_of_ble_eq_true rfl, Nat.le_of_ble_eq_true rfl⟩) (bz_rv hN hK hP (q0 := 0) rfl rfl) rfl rfl hl.1 rfl (lv_room (Nat.le_of_ble_eq_true rfl)) d_B_joined_2 ⟨Nat.zero_le _, Nat.zero_le _⟩) ?_
  refine lv_if_eq (tgt := 21) hx hb d_B_joined_5 (by decide) (fun c_5 => ?_) (fun c_5 => ?_)
  · skip
    exact absurd (bz_i_eq c_5) (by rw [hia]; decide)
  · skip
    refine lv_aload_n hx hb d_B_joined_8 rfl (lv_at hl 0 rfl) ?_
    refine lv_iload_n hx hb d_B_joined_9 rfl (lv_at hl 2 rfl) ?_
    refine bz_si (va_runV (As := [.int (nI (b + 1))]) (rest := []) ⟨hx, hb, hml, hown, htb⟩ (c_B_isArea l dC dI ad cI cL t R L v _) (cwV 1 htb (bz_gV wd_149 wd_146 wd_148 wd_0 wd_19) rfl rfl rfl (by decide +kernel) ⟨Nat.le_of_ble_eq_true rfl, Nat.le_of_ble_eq_true rfl⟩) (bz_rv hN hK hP (q0 := 0) rfl rfl) rfl rfl hl.1 rfl (lv_room (Nat.le_of_ble_eq_true rfl)) d_B_joined_10 ⟨Nat.zero_le _, Nat.zero_le _⟩) ?_
    refine lv_if_eq (tgt := 21) hx hb d_B_joined_13 (by decide) (fun c_13 => ?_) (fun c_13 => ?_)
    · skip
      exact absurd (bz_i_eq c_13) (by rw [hib]; decide)
    · skip
      refine lv_iload_n hx hb d_B_joined_16 rfl (lv_at hl 1 rfl) ?_
      refine lv_iload_n hx hb d_B_joined_17 rfl (lv_at hl 2 rfl) ?_
      refine lv_icmp_ne (tgt := 23) hx hb d_B_joined_18 (by decide) (fun c_18 => ?_) (fun c_18 => ?_)
      · skip
        refine lv_iload_n hx hb d_B_joined_23 rfl (lv_at hl 3 rfl) ?_
        refine lv_if_ne (tgt := 31) hx hb d_B_joined_24 (by decide) (fun c_24 => ?_) (fun c_24 => ?_)
        · skip
          have hbr := bz_i_ne c_24
          refine lv_iconst (v := nI 0) hx hb d_B_joined_31 (by decide) ?_
          refine lv_istore (lv' := [(4, .int (nI 0)), (0, .ref (ad 0)), (1, .int (nI (a + 1))), (2, .int (nI (b + 1))), (3, .int (bz_i br))]) hx hb d_B_joined_32 hl (by decide) rfl (fun ls hl => ?_)
          refine lv_aload_n hx hb d_B_joined_34 rfl (lv_at hl 1 rfl) ?_
          refine va_get (D := (dC, dI)) (ci := 3) (v := .ref (ad 1)) (C := R_B) (T := F_B) (N := 4) hx hb htb in_B hown hK hP 0 rfl rfl 0 (by decide) (htb _ wd_117) (fun _ h9 => h9) rfl d_B_joined_35 ?_
          refine lv_iload_n hx hb d_B_joined_38 rfl (lv_at hl 2 rfl) ?_
          refine lv_iconst (v := 1) hx hb d_B_joined_39 (by decide) ?_
          refine lv_isub hx hb d_B_joined_40 ?_
          refine bz_ri (y := nI a) (nI_pred a) ?_
          refine lv_iload_n hx hb d_B_joined_41 rfl (lv_at hl 3 rfl) ?_
          refine lv_iconst (v := 1) hx hb d_B_joined_42 (by decide) ?_
          refine lv_isub hx hb d_B_joined_43 ?_
          refine bz_ri (y := nI b) (nI_pred b) ?_
          refine bz_si (va_runV (As := [.int (nI a), .int (nI b)]) (rest := []) ⟨hx, hb, hml, hown, htb⟩ (c_T_areJoined l dC dI ad cI cL t R L v _ _ (by omega) (by omega)) (cwV 2 htb (bz_gV wd_153 wd_150 wd_151 wd_152 wd_20) rfl rfl rfl (by decide +kernel) ⟨Nat.le_of_ble_eq_true rfl, Nat.le_of_ble_eq_true rfl⟩) (bz_rv hN hK hP (q0 := 1) rfl rfl) rfl rfl hl.1 rfl (lv_room (Nat.le_of_ble_eq_true rfl)) d_B_joined_44 ⟨Nat.zero_le _, Nat.zero_le _⟩) ?_
          refine lv_iload hx hb d_B_joined_47 (lv_at hl 0 rfl) ?_
          refine lv_icmp_eq (tgt := 70) hx hb d_B_joined_49 (by decide) (fun c_49 => ?_) (fun c_49 => ?_)
          · skip
            exact absurd c_49 (by rw [hj, hbr]; decide)
          · skip
            refine lv_aload_n hx hb d_B_joined_52 rfl (lv_at hl 1 rfl) ?_
            refine va_get (D := (dC, dI)) (ci := 3) (v := .ref (ad 1)) (C := R_B) (T := F_B) (N := 4) hx hb htb in_B hown hK hP 0 rfl rfl 0 (by decide) (htb _ wd_117) (fun _ h9 => h9) rfl d_B_joined_53 ?_
            refine lv_iload_n hx hb d_B_joined_56 rfl (lv_at hl 2 rfl) ?_
            refine lv_iconst (v := 1) hx hb d_B_joined_57 (by decide) ?_
            refine lv_isub hx hb d_B_joined_58 ?_
            refine bz_ri (y := nI a) (nI_pred a) ?_
            refine lv_iload_n hx hb d_B_joined_59 rfl (lv_at hl 3 rfl) ?_
            refine lv_iconst (v := 1) hx hb d_B_joined_60 (by decide) ?_
            refine lv_isub hx hb d_B_joined_61 ?_
            refine bz_ri (y := nI b) (nI_pred b) ?_
            refine bz_cv (va_runV (As := [.int (nI a), .int (nI b)]) (rest := []) ⟨hx, hb, hml, hown, htb⟩ (c_T_turnJoin l dC dI _ ad cI cL t R L v ht _ _ (!br) ha hbn hab (by rw [hj]; cases br <;> rfl)) (cwV 2 htb (bz_gV wd_157 wd_154 wd_155 wd_156 wd_20) rfl rfl rfl (by decide +kernel) ⟨Nat.le_of_ble_eq_true rfl, Nat.le_of_ble_eq_true rfl⟩) (bz_wv hN hK hP hD (q0 := 1) rfl rfl) rfl rfl hl.1 rfl (lv_room (Nat.le_of_ble_eq_true rfl)) d_B_joined_62 ⟨Nat.zero_le _, Nat.zero_le _⟩) hD hS hA (fun H locs hP hD hS => ?_)
            have hP : va_P (dC, dI) vwCl (bz_wB ad cI cL (bz_tR (bz_sJ t a b (!br))) R L v) H := hP
            have hD : va_D A (bz_wB ad cI cL (bz_tR (bz_sJ t a b (!br))) R L v) := hD
            refine lv_aload_n hx hb d_B_joined_65 rfl (lv_at hl 1 rfl) ?_
            refine lv_iconst (v := 0) hx hb d_B_joined_66 (by decide) ?_
            refine va_put (D := (dC, dI)) (ci := 3) (v := .int 0) (ty := .boolean) (C := R_B) (T := F_B) (N := 4) hx hb htb in_B tf_B tok_B n_B hown hK hP hD hS 0 rfl rfl 3 (by decide) (htb _ wd_120) (fun _ h9 => h9) rfl (by decide +kernel) rfl rfl (Nat.le_of_ble_eq_true rfl) d_B_joined_67 (fun H locs hP hD hS => ?_)
            have hP : va_P (dC, dI) vwCl (bz_wB ad cI cL (bz_tR (bz_sJ t a b (!br))) R L 0) H := hP
            have hD : va_D A (bz_wB ad cI cL (bz_tR (bz_sJ t a b (!br))) R L 0) := hD
            refine lv_iload hx hb d_B_joined_70 (lv_at hl 0 rfl) ?_
            exact W.zret (v := nI 0) hx hb hr (rfl) (fun t9 ht9 hW => ⟨⟨nI 0, (), rfl, by rw [hbr]; rfl, by rw [ht9]; exact hP, va_K.moved hW.alike hK, hD⟩, hS.F ht9⟩) hS.2.2 d_B_joined_72
        · skip
          have hbr := bz_i_eq c_24
          refine lv_iconst (v := 1) hx hb d_B_joined_27 (by decide) ?_
          refine lv_goto (tgt := 32) hx hb d_B_joined_28 (by decide) ?_
          refine lv_istore (lv' := [(4, .int 1), (0, .ref (ad 0)), (1, .int (nI (a + 1))), (2, .int (nI (b + 1))), (3, .int (bz_i br))]) hx hb d_B_joined_32 hl (by decide) rfl (fun ls hl => ?_)
          refine lv_aload_n hx hb d_B_joined_34 rfl (lv_at hl 1 rfl) ?_
          refine va_get (D := (dC, dI)) (ci := 3) (v := .ref (ad 1)) (C := R_B) (T := F_B) (N := 4) hx hb htb in_B hown hK hP 0 rfl rfl 0 (by decide) (htb _ wd_117) (fun _ h9 => h9) rfl d_B_joined_35 ?_
          refine lv_iload_n hx hb d_B_joined_38 rfl (lv_at hl 2 rfl) ?_
          refine lv_iconst (v := 1) hx hb d_B_joined_39 (by decide) ?_
          refine lv_isub hx hb d_B_joined_40 ?_
          refine bz_ri (y := nI a) (nI_pred a) ?_
          refine lv_iload_n hx hb d_B_joined_41 rfl (lv_at hl 3 rfl) ?_
          refine lv_iconst (v := 1) hx hb d_B_joined_42 (by decide) ?_
          refine lv_isub hx hb d_B_joined_43 ?_
          refine bz_ri (y := nI b) (nI_pred b) ?_
          refine bz_si (va_runV (As := [.int (nI a), .int (nI b)]) (rest := []) ⟨hx, hb, hml, hown, htb⟩ (c_T_areJoined l dC dI ad cI cL t R L v _ _ (by omega) (by omega)) (cwV 2 htb (bz_gV wd_153 wd_150 wd_151 wd_152 wd_20) rfl rfl rfl (by decide +kernel) ⟨Nat.le_of_ble_eq_true rfl, Nat.le_of_ble_eq_true rfl⟩) (bz_rv hN hK hP (q0 := 1) rfl rfl) rfl rfl hl.1 rfl (lv_room (Nat.le_of_ble_eq_true rfl)) d_B_joined_44 ⟨Nat.zero_le _, Nat.zero_le _⟩) ?_
          refine lv_iload hx hb d_B_joined_47 (lv_at hl 0 rfl) ?_
          refine lv_icmp_eq (tgt := 70) hx hb d_B_joined_49 (by decide) (fun c_49 => ?_) (fun c_49 => ?_)
          · skip
            exact absurd c_49 (by rw [hj, hbr]; decide)
          · skip
            refine lv_aload_n hx hb d_B_joined_52 rfl (lv_at hl 1 rfl) ?_
            refine va_get (D := (dC, dI)) (ci := 3) (v := .ref (ad 1)) (C := R_B) (T := F_B) (N := 4) hx hb htb in_B hown hK hP 0 rfl rfl 0 (by decide) (htb _ wd_117) (fun _ h9 => h9) rfl d_B_joined_53 ?_
            refine lv_iload_n hx hb d_B_joined_56 rfl (lv_at hl 2 rfl) ?_
            refine lv_iconst (v := 1) hx hb d_B_joined_57 (by decide) ?_
            refine lv_isub hx hb d_B_joined_58 ?_
            refine bz_ri (y := nI a) (nI_pred a) ?_
            refine lv_iload_n hx hb d_B_joined_59 rfl (lv_at hl 3 rfl) ?_
            refine lv_iconst (v := 1) hx hb d_B_joined_60 (by decide) ?_
            refine lv_isub hx hb d_B_joined_61 ?_
            refine bz_ri (y := nI b) (nI_pred b) ?_
            refine bz_cv (va_runV (As := [.int (nI a), .int (nI b)]) (rest := []) ⟨hx, hb, hml, hown, htb⟩ (c_T_turnJoin l dC dI _ ad cI cL t R L v ht _ _ (!br) ha hbn hab (by rw [hj]; cases br <;> rfl)) (cwV 2 htb (bz_gV wd_157 wd_154 wd_155 wd_156 wd_20) rfl rfl rfl (by decide +kernel) ⟨Nat.le_of_ble_eq_true rfl, Nat.le_of_ble_eq_true rfl⟩) (bz_wv hN hK hP hD (q0 := 1) rfl rfl) rfl rfl hl.1 rfl (lv_room (Nat.le_of_ble_eq_true rfl)) d_B_joined_62 ⟨Nat.zero_le _, Nat.zero_le _⟩) hD hS hA (fun H locs hP hD hS => ?_)
            have hP : va_P (dC, dI) vwCl (bz_wB ad cI cL (bz_tR (bz_sJ t a b (!br))) R L v) H := hP
            have hD : va_D A (bz_wB ad cI cL (bz_tR (bz_sJ t a b (!br))) R L v) := hD
            refine lv_aload_n hx hb d_B_joined_65 rfl (lv_at hl 1 rfl) ?_
            refine lv_iconst (v := 0) hx hb d_B_joined_66 (by decide) ?_
            refine va_put (D := (dC, dI)) (ci := 3) (v := .int 0) (ty := .boolean) (C := R_B) (T := F_B) (N := 4) hx hb htb in_B tf_B tok_B n_B hown hK hP hD hS 0 rfl rfl 3 (by decide) (htb _ wd_120) (fun _ h9 => h9) rfl (by decide +kernel) rfl rfl (Nat.le_of_ble_eq_true rfl) d_B_joined_67 (fun H locs hP hD hS => ?_)
            have hP : va_P (dC, dI) vwCl (bz_wB ad cI cL (bz_tR (bz_sJ t a b (!br))) R L 0) H := hP
            have hD : va_D A (bz_wB ad cI cL (bz_tR (bz_sJ t a b (!br))) R L 0) := hD
            refine lv_iload hx hb d_B_joined_70 (lv_at hl 0 rfl) ?_
            exact W.zret (v := 1) hx hb hr (rfl) (fun t9 ht9 hW => ⟨⟨1, (), rfl, by rw [hbr]; rfl, by rw [ht9]; exact hP, va_K.moved hW.alike hK, hD⟩, hS.F ht9⟩) hS.2.2 d_B_joined_72
      · skip
        exact absurd ((nI_eq (by omega) (by omega)).mp c_18) (by omega)

set_option maxHeartbeats 4000000 in
set_option maxRecDepth 100000 in
/-- carrier, refused -/
theorem c_B_carrier_o (l : Launch) (dC : Nat → ClassId) (dI : Nat → Nat → Nat) (ad : Nat → Nat) (cI cL : ClassId) (t : bz_T) (R : bz_RS) (L : (Nat → Int32) × Int64) (v : Int32) (ht : bz_ok t) (q : Int32) (z : Int64) (hz : ¬ (bz_ir q = true ∧ 0 ≤ z ∧ z ≤ 1000000000)) : Met l y_B_carrier w_B_carrier ({ frames := 1, cells := 0, slots := 0, locals := 20 }) (bz_Pr (dC, dI) [(cI, .int), (cL, .long)] (bz_wB ad cI cL (bz_tR t) R L v) [.ref (ad 0), .int q, .long z]) (vp_Si (fun r9 => r9 = (-12))) 0 0 (fun _ => False) := by
  refine Met.ofW (cc := b_B_carrier) (maxL := 6) (ret := (some .int)) (by decide) rfl ?_
  intro p e s m args below meth c s₁ B hml hv
  obtain ⟨rfl, hP, hK, hN⟩ := hv
  have hx := B.exec
  have hb := B.bytes
  have hr := B.returns
  have hts := atoms_spec (ws := w_B_carrier) B.pre
  have hown : s.vm.findClass R_B = some m.cls := findClass_of_methodNamed B.named
  have htb : ∀ w ∈ bz_tb, w.before _ s = true := fun w h => hts w (List.mem_cons_of_mem _ h)
  have hlocks := B.notSynchronized
  have hl := lv_entry ([.ref (ad 0), .int q, .long z]) (n := 6) (Nat.le_of_ble_eq_true rfl)
  rw [lg_entry_eq]
  generalize (lg_sl ([.ref (ad 0), .int q, .long z]) ++ List.replicate (6 - (lg_sl ([.ref (ad 0), .int q, .long z])).length) Slot.unset).toArray = ls at hl ⊢
  have hl : lv_has ls 6 [(0, .ref (ad 0)), (1, .int q), (2, .long z)] := hl
  refine lv_iload_n hx hb d_B_carrier_0 rfl (lv_at hl 1 rfl) ?_
  refine bz_si (va_runS (As := [.int q]) (rest := []) ⟨hx, hb, hml, hown, htb⟩ (c_B_isRound l dC dI ad cI cL t R L v _) (va_cwS 1 htb (bz_gS wd_137 wd_135 wd_136 wd_19) rfl rfl rfl (by decide +kernel) ⟨Nat.le_of_ble_eq_true rfl, Nat.le_of_ble_eq_true rfl⟩) (bz_rs hN hK hP) rfl rfl hl.1 rfl (lv_room (Nat.le_of_ble_eq_true rfl)) d_B_carrier_1 ⟨Nat.zero_le _, Nat.zero_le _⟩) ?_
  refine lv_if_eq (tgt := 21) hx hb d_B_carrier_4 (by decide) (fun c_4 => ?_) (fun c_4 => ?_)
  · skip
    refine lv_bipush (v := (-12)) hx hb d_B_carrier_21 (by decide) ?_
    exact W.iret (v := (-12)) hx hb hr (fun t9 ht9 hW => ⟨(-12), rfl, rfl, ht9⟩) (fun _ h => nomatch h) d_B_carrier_23
  · skip
    refine lv_lload_n hx hb d_B_carrier_7 rfl (lv_at hl 2 rfl) ?_
    refine lv_lconst (v := 0) hx hb d_B_carrier_8 (by decide) ?_
    refine W.lcmp hx hb d_B_carrier_9 ?_
    refine lv_if_lt (tgt := 21) hx hb d_B_carrier_10 (by decide) (fun c_10 => ?_) (fun c_10 => ?_)
    · skip
      refine lv_bipush (v := (-12)) hx hb d_B_carrier_21 (by decide) ?_
      exact W.iret (v := (-12)) hx hb hr (fun t9 ht9 hW => ⟨(-12), rfl, rfl, ht9⟩) (fun _ h => nomatch h) d_B_carrier_23
    · skip
      refine lv_lload_n hx hb d_B_carrier_13 rfl (lv_at hl 2 rfl) ?_
      refine lv_ldc2 (v := 1000000000) hx hb hown (htb _ wd_162) d_B_carrier_14 ?_
      refine W.lcmp hx hb d_B_carrier_17 ?_
      refine lv_if_le (tgt := 24) hx hb d_B_carrier_18 (by decide) (fun c_18 => ?_) (fun c_18 => ?_)
      · skip
        exact absurd ⟨bz_i_ne c_4, Int64.not_lt.mp (fun y => c_10 ((lg_cmp_lt z 0).mpr y)), (lg_cmp_le z 1000000000).mp c_18⟩ hz
      · skip
        refine lv_bipush (v := (-12)) hx hb d_B_carrier_21 (by decide) ?_
        exact W.iret (v := (-12)) hx hb hr (fun t9 ht9 hW => ⟨(-12), rfl, rfl, ht9⟩) (fun _ h => nomatch h) d_B_carrier_23

set_option maxHeartbeats 4000000 in
set_option maxRecDepth 100000 in
/-- carrier, the same hours -/
theorem c_B_carrier_s (l : Launch) (dC : Nat → ClassId) (dI : Nat → Nat → Nat) (ad : Nat → Nat) (cI cL : ClassId) (t : bz_T) (R : bz_RS) (L : (Nat → Int32) × Int64) (v : Int32) (ht : bz_ok t) (r x : Nat) (hr4 : r < 4) (hx0 : x ≤ 1000000000) (hh : bz_h t r = x) : Met l y_B_carrier w_B_carrier ({ frames := 1, cells := 0, slots := 0, locals := 20 }) (bz_Pr (dC, dI) [(cI, .int), (cL, .long)] (bz_wB ad cI cL (bz_tR t) R L v) [.ref (ad 0), .int (nI r), .long (lN x)]) (vp_Si (fun r9 => r9 = nI (bz_h t r))) 0 0 (fun _ => False) := by
  refine Met.ofW (cc := b_B_carrier) (maxL := 6) (ret := (some .int)) (by decide) rfl ?_
  intro p e s m args below meth c s₁ B hml hv
  obtain ⟨rfl, hP, hK, hN⟩ := hv
  have hx := B.exec
  have hb := B.bytes
  have hr := B.returns
  have hts := atoms_spec (ws := w_B_carrier) B.pre
  have hown : s.vm.findClass R_B = some m.cls := findClass_of_methodNamed B.named
  have htb : ∀ w ∈ bz_tb, w.before _ s = true := fun w h => hts w (List.mem_cons_of_mem _ h)
  have hlocks := B.notSynchronized
  have hl := lv_entry ([.ref (ad 0), .int (nI r), .long (lN x)]) (n := 6) (Nat.le_of_ble_eq_true rfl)
  rw [lg_entry_eq]
  generalize (lg_sl ([.ref (ad 0), .int (nI r), .long (lN x)]) ++ List.replicate (6 - (lg_sl ([.ref (ad 0), .int (nI r), .long (lN x)])).length) Slot.unset).toArray = ls at hl ⊢
  have hl : lv_has ls 6 [(0, .ref (ad 0)), (1, .int (nI r)), (2, .long (lN x))] := hl
  have hir : bz_ir (nI r) = true := decide_eq_true ⟨nI_pos' (by omega), (nI_ltI (b := 4) (by omega) (by omega)).mpr hr4⟩
  have hhr := ht.2.2.2.2.2.2 r
  refine lv_iload_n hx hb d_B_carrier_0 rfl (lv_at hl 1 rfl) ?_
  refine bz_si (va_runS (As := [.int (nI r)]) (rest := []) ⟨hx, hb, hml, hown, htb⟩ (c_B_isRound l dC dI ad cI cL t R L v _) (va_cwS 1 htb (bz_gS wd_137 wd_135 wd_136 wd_19) rfl rfl rfl (by decide +kernel) ⟨Nat.le_of_ble_eq_true rfl, Nat.le_of_ble_eq_true rfl⟩) (bz_rs hN hK hP) rfl rfl hl.1 rfl (lv_room (Nat.le_of_ble_eq_true rfl)) d_B_carrier_1 ⟨Nat.zero_le _, Nat.zero_le _⟩) ?_
  refine lv_if_eq (tgt := 21) hx hb d_B_carrier_4 (by decide) (fun c_4 => ?_) (fun c_4 => ?_)
  · skip
    exact absurd (bz_i_eq c_4) (by rw [hir]; decide)
  · skip
    refine lv_lload_n hx hb d_B_carrier_7 rfl (lv_at hl 2 rfl) ?_
    refine lv_lconst (v := 0) hx hb d_B_carrier_8 (by decide) ?_
    refine W.lcmp hx hb d_B_carrier_9 ?_
    refine lv_if_lt (tgt := 21) hx hb d_B_carrier_10 (by decide) (fun c_10 => ?_) (fun c_10 => ?_)
    · skip
      exact absurd ((bz_lc_lt (b := 0) (by omega) (by omega)).mp c_10) (by omega)
    · skip
      refine lv_lload_n hx hb d_B_carrier_13 rfl (lv_at hl 2 rfl) ?_
      refine lv_ldc2 (v := 1000000000) hx hb hown (htb _ wd_162) d_B_carrier_14 ?_
      refine W.lcmp hx hb d_B_carrier_17 ?_
      refine lv_if_le (tgt := 24) hx hb d_B_carrier_18 (by decide) (fun c_18 => ?_) (fun c_18 => ?_)
      · skip
        refine lv_aload_n hx hb d_B_carrier_24 rfl (lv_at hl 0 rfl) ?_
        refine va_get (D := (dC, dI)) (ci := 3) (v := .ref (ad 1)) (C := R_B) (T := F_B) (N := 4) hx hb htb in_B hown hK hP 0 rfl rfl 0 (by decide) (htb _ wd_117) (fun _ h9 => h9) rfl d_B_carrier_25 ?_
        refine va_getN (D := (dC, dI)) (ci := 2) (v := .ref (ad 6)) (C := R_T) (T := F_T) (N := 6) hx hb htb in_T hown hK hP 1 rfl rfl 4 (by decide) (va_Nw.use rfl (hN _ nd_53)) (fun _ h9 => h9) rfl d_B_carrier_28 ?_
        refine lv_iload_n hx hb d_B_carrier_31 rfl (lv_at hl 1 rfl) ?_
        refine bz_lald (v := lN (bz_h t r)) hx hb hK hP 6 1 rfl rfl (a9 := r) (by omega) (by decide) (rfl) d_B_carrier_32 ?_
        refine lv_lstore (lv' := [(4, .long (lN (bz_h t r))), (0, .ref (ad 0)), (1, .int (nI r)), (2, .long (lN x))]) hx hb d_B_carrier_33 hl (by decide) rfl (fun ls hl => ?_)
        refine lv_lload hx hb d_B_carrier_35 (lv_at hl 0 rfl) ?_
        refine lv_lload_n hx hb d_B_carrier_37 rfl (lv_at hl 3 rfl) ?_
        refine W.lcmp hx hb d_B_carrier_38 ?_
        refine lv_if_eq (tgt := 57) hx hb d_B_carrier_39 (by decide) (fun c_39 => ?_) (fun c_39 => ?_)
        · skip
          refine lv_lload hx hb d_B_carrier_57 (lv_at hl 0 rfl) ?_
          refine lv_l2i hx hb d_B_carrier_59 rfl ?_
          refine bz_ri (y := nI (bz_h t r)) (lN_i _) ?_
          exact W.iret (v := nI (bz_h t r)) hx hb hr (fun t9 ht9 hW => ⟨nI (bz_h t r), rfl, rfl, ht9⟩) (fun _ h => nomatch h) d_B_carrier_60
        · skip
          exact absurd ((bz_lc_eq (by omega) (by omega)).mpr hh) c_39
      · skip
        exact absurd ((bz_lc_le (b := 1000000000) (by omega) (by omega)).mpr hx0) c_18

set_option maxHeartbeats 4000000 in
set_option maxRecDepth 100000 in
/-- carrier -/
theorem c_B_carrier (l : Launch) (dC : Nat → ClassId) (dI : Nat → Nat → Nat) (sz : Nat) (ad : Nat → Nat) (cI cL : ClassId) (t : bz_T) (R : bz_RS) (L : (Nat → Int32) × Int64) (v : Int32) (ht : bz_ok t) (r x : Nat) (hr4 : r < 4) (hx0 : x ≤ 1000000000) (hh : ¬ bz_h t r = x) : Met l y_B_carrier w_B_carrier ({ frames := 1, cells := 0, slots := 0, locals := 20 }) (bz_Pw (dC, dI) [(cI, .int), (cL, .long)] (bz_wB ad cI cL (bz_tR t) R L v) sz [.ref (ad 0), .int (nI r), .long (lN x)]) (bz_Qi (dC, dI) [(cI, .int), (cL, .long)] (va_A (bz_wB ad cI cL (bz_tR t) R L v) sz) (nI (bz_h t r)) (bz_wB ad cI cL (bz_tR (bz_sH t r x)) R L 0)) 0 0 (va_A (bz_wB ad cI cL (bz_tR t) R L v) sz) := by
  refine Met.ofW (cc := b_B_carrier) (maxL := 6) (ret := (some .int)) (by decide) rfl ?_
  intro p e s m args below meth c s₁ B hml hv
  obtain ⟨rfl, hsz, hP, hK, hD0, hN⟩ := hv
  have hx := B.exec
  have hb := B.bytes
  have hr := B.returns
  have hts := atoms_spec (ws := w_B_carrier) B.pre
  have hown : s.vm.findClass R_B = some m.cls := findClass_of_methodNamed B.named
  have htb : ∀ w ∈ bz_tb, w.before _ s = true := fun w h => hts w (List.mem_cons_of_mem _ h)
  have hlocks := B.notSynchronized
  subst hsz
  have hD := hD0.self (sz := s.heap.size)
  generalize hAe : va_A (bz_wB ad cI cL (bz_tR t) R L v) s.heap.size = A at hD ⊢
  have hA : ∀ q : Nat, s.heap.size ≤ q → A q := fun q h => by rw [← hAe]; exact Or.inr h
  have hS : va_S A s.heap s.heap [] := va_S.rf
  have hl := lv_entry ([.ref (ad 0), .int (nI r), .long (lN x)]) (n := 6) (Nat.le_of_ble_eq_true rfl)
  rw [lg_entry_eq]
  generalize (lg_sl ([.ref (ad 0), .int (nI r), .long (lN x)]) ++ List.replicate (6 - (lg_sl ([.ref (ad 0), .int (nI r), .long (lN x)])).length) Slot.unset).toArray = ls at hl ⊢
  have hl : lv_has ls 6 [(0, .ref (ad 0)), (1, .int (nI r)), (2, .long (lN x))] := hl
  have hir : bz_ir (nI r) = true := decide_eq_true ⟨nI_pos' (by omega), (nI_ltI (b := 4) (by omega) (by omega)).mpr hr4⟩
  have hhr := ht.2.2.2.2.2.2 r
  refine lv_iload_n hx hb d_B_carrier_0 rfl (lv_at hl 1 rfl) ?_
  refine bz_si (va_runS (As := [.int (nI r)]) (rest := []) ⟨hx, hb, hml, hown, htb⟩ (c_B_isRound l dC dI ad cI cL t R L v _) (va_cwS 1 htb (bz_gS wd_137 wd_135 wd_136 wd_19) rfl rfl rfl (by decide +kernel) ⟨Nat.le_of_ble_eq_true rfl, Nat.le_of_ble_eq_true rfl⟩) (bz_rs hN hK hP) rfl rfl hl.1 rfl (lv_room (Nat.le_of_ble_eq_true rfl)) d_B_carrier_1 ⟨Nat.zero_le _, Nat.zero_le _⟩) ?_
  refine lv_if_eq (tgt := 21) hx hb d_B_carrier_4 (by decide) (fun c_4 => ?_) (fun c_4 => ?_)
  · skip
    exact absurd (bz_i_eq c_4) (by rw [hir]; decide)
  · skip
    refine lv_lload_n hx hb d_B_carrier_7 rfl (lv_at hl 2 rfl) ?_
    refine lv_lconst (v := 0) hx hb d_B_carrier_8 (by decide) ?_
    refine W.lcmp hx hb d_B_carrier_9 ?_
    refine lv_if_lt (tgt := 21) hx hb d_B_carrier_10 (by decide) (fun c_10 => ?_) (fun c_10 => ?_)
    · skip
      exact absurd ((bz_lc_lt (b := 0) (by omega) (by omega)).mp c_10) (by omega)
    · skip
      refine lv_lload_n hx hb d_B_carrier_13 rfl (lv_at hl 2 rfl) ?_
      refine lv_ldc2 (v := 1000000000) hx hb hown (htb _ wd_162) d_B_carrier_14 ?_
      refine W.lcmp hx hb d_B_carrier_17 ?_
      refine lv_if_le (tgt := 24) hx hb d_B_carrier_18 (by decide) (fun c_18 => ?_) (fun c_18 => ?_)
      · skip
        refine lv_aload_n hx hb d_B_carrier_24 rfl (lv_at hl 0 rfl) ?_
        refine va_get (D := (dC, dI)) (ci := 3) (v := .ref (ad 1)) (C := R_B) (T := F_B) (N := 4) hx hb htb in_B hown hK hP 0 rfl rfl 0 (by decide) (htb _ wd_117) (fun _ h9 => h9) rfl d_B_carrier_25 ?_
        refine va_getN (D := (dC, dI)) (ci := 2) (v := .ref (ad 6)) (C := R_T) (T := F_T) (N := 6) hx hb htb in_T hown hK hP 1 rfl rfl 4 (by decide) (va_Nw.use rfl (hN _ nd_53)) (fun _ h9 => h9) rfl d_B_carrier_28 ?_
        refine lv_iload_n hx hb d_B_carrier_31 rfl (lv_at hl 1 rfl) ?_
        refine bz_lald (v := lN (bz_h t r)) hx hb hK hP 6 1 rfl rfl (a9 := r) (by omega) (by decide) (rfl) d_B_carrier_32 ?_
        refine lv_lstore (lv' := [(4, .long (lN (bz_h t r))), (0, .ref (ad 0)), (1, .int (nI r)), (2, .long (lN x))]) hx hb d_B_carrier_33 hl (by decide) rfl (fun ls hl => ?_)
        refine lv_lload hx hb d_B_carrier_35 (lv_at hl 0 rfl) ?_
        refine lv_lload_n hx hb d_B_carrier_37 rfl (lv_at hl 3 rfl) ?_
        refine W.lcmp hx hb d_B_carrier_38 ?_
        refine lv_if_eq (tgt := 57) hx hb d_B_carrier_39 (by decide) (fun c_39 => ?_) (fun c_39 => ?_)
        · skip
          exact absurd ((bz_lc_eq (by omega) (by omega)).mp c_39) hh
        · skip
          refine lv_aload_n hx hb d_B_carrier_42 rfl (lv_at hl 1 rfl) ?_
          refine va_get (D := (dC, dI)) (ci := 3) (v := .ref (ad 1)) (C := R_B) (T := F_B) (N := 4) hx hb htb in_B hown hK hP 0 rfl rfl 0 (by decide) (htb _ wd_117) (fun _ h9 => h9) rfl d_B_carrier_43 ?_
          refine va_getN (D := (dC, dI)) (ci := 2) (v := .ref (ad 6)) (C := R_T) (T := F_T) (N := 6) hx hb htb in_T hown hK hP 1 rfl rfl 4 (by decide) (va_Nw.use rfl (hN _ nd_53)) (fun _ h9 => h9) rfl d_B_carrier_46 ?_
          refine lv_iload_n hx hb d_B_carrier_49 rfl (lv_at hl 2 rfl) ?_
          refine lv_lload_n hx hb d_B_carrier_50 rfl (lv_at hl 3 rfl) ?_
          refine bz_last hx hb hK hP hD hS 6 1 rfl rfl (a9 := r) (by omega) (by decide) d_B_carrier_51 (fun H locs hP hD hS => ?_)
          have hP : va_P (dC, dI) vwCl (bz_wB ad cI cL ((bz_tR t).1, (bz_tR t).2.1, (bz_tR t).2.2.1, (bz_tR t).2.2.2.1, (vp_updL ((bz_tR t).2.2.2.2.1) r (lN x)), nI (bz_n t)) R L v) H := hP
          have hD : va_D A (bz_wB ad cI cL ((bz_tR t).1, (bz_tR t).2.1, (bz_tR t).2.2.1, (bz_tR t).2.2.2.1, (vp_updL ((bz_tR t).2.2.2.2.1) r (lN x)), nI (bz_n t)) R L v) := hD
          refine lv_aload_n hx hb d_B_carrier_52 rfl (lv_at hl 1 rfl) ?_
          refine lv_iconst (v := 0) hx hb d_B_carrier_53 (by decide) ?_
          refine va_put (D := (dC, dI)) (ci := 3) (v := .int 0) (ty := .boolean) (C := R_B) (T := F_B) (N := 4) hx hb htb in_B tf_B tok_B n_B hown hK hP hD hS 0 rfl rfl 3 (by decide) (htb _ wd_120) (fun _ h9 => h9) rfl (by decide +kernel) rfl rfl (Nat.le_of_ble_eq_true rfl) d_B_carrier_54 (fun H locs hP hD hS => ?_)
          have hP : va_P (dC, dI) vwCl (bz_wB ad cI cL ((bz_tR t).1, (bz_tR t).2.1, (bz_tR t).2.2.1, (bz_tR t).2.2.2.1, (vp_updL ((bz_tR t).2.2.2.2.1) r (lN x)), nI (bz_n t)) R L 0) H := hP
          have hD : va_D A (bz_wB ad cI cL ((bz_tR t).1, (bz_tR t).2.1, (bz_tR t).2.2.1, (bz_tR t).2.2.2.1, (vp_updL ((bz_tR t).2.2.2.2.1) r (lN x)), nI (bz_n t)) R L 0) := hD
          refine lv_lload hx hb d_B_carrier_57 (lv_at hl 0 rfl) ?_
          refine lv_l2i hx hb d_B_carrier_59 rfl ?_
          refine bz_ri (y := nI (bz_h t r)) (lN_i _) ?_
          have e9 : bz_tR (bz_sH t r x) = ((bz_tR t).1, (bz_tR t).2.1, (bz_tR t).2.2.1, (bz_tR t).2.2.2.1, (vp_updL ((bz_tR t).2.2.2.2.1) r (lN x)), nI (bz_n t)) := bz_sH_R t r x
          have hP : va_P (dC, dI) vwCl (bz_wB ad cI cL (bz_tR (bz_sH t r x)) R L 0) H := by rw [e9]; exact hP
          have hD : va_D A (bz_wB ad cI cL (bz_tR (bz_sH t r x)) R L 0) := by rw [e9]; exact hD
          exact W.iret (v := nI (bz_h t r)) hx hb hr (fun t9 ht9 hW => ⟨⟨nI (bz_h t r), (), rfl, rfl, by rw [ht9]; exact hP, va_K.moved hW.alike hK, hD⟩, hS.F ht9⟩) hS.2.2 d_B_carrier_60
      · skip
        exact absurd ((bz_lc_le (b := 1000000000) (by omega) (by omega)).mpr hx0) c_18

set_option maxHeartbeats 4000000 in
set_option maxRecDepth 100000 in
/-- know, no such area -/
theorem c_B_know_u (l : Launch) (dC : Nat → ClassId) (dI : Nat → Nat → Nat) (ad : Nat → Nat) (cI cL : ClassId) (t : bz_T) (R : bz_RS) (L : (Nat → Int32) × Int64) (v : Int32) (ht : bz_ok t) (q x : Int32) (hz : bz_ia (bz_n t) x = false) : Met l y_B_know w_B_know ({ frames := 1, cells := 0, slots := 0, locals := 22 }) (bz_Pr (dC, dI) [(cI, .int), (cL, .long)] (bz_wB ad cI cL (bz_tR t) R L v) [.ref (ad 0), .int q, .int x]) (vp_Si (fun r9 => r9 = (-11))) 0 0 (fun _ => False) := by
  refine Met.ofW (cc := b_B_know) (maxL := 3) (ret := (some .int)) (by decide) rfl ?_
  intro p e s m args below meth c s₁ B hml hv
  obtain ⟨rfl, hP, hK, hN⟩ := hv
  have hx := B.exec
  have hb := B.bytes
  have hr := B.returns
  have hts := atoms_spec (ws := w_B_know) B.pre
  have hown : s.vm.findClass R_B = some m.cls := findClass_of_methodNamed B.named
  have htb : ∀ w ∈ bz_tb, w.before _ s = true := fun w h => hts w (List.mem_cons_of_mem _ h)
  have hlocks := B.notSynchronized
  have hl := lv_entry ([.ref (ad 0), .int q, .int x]) (n := 3) (Nat.le_of_ble_eq_true rfl)
  rw [lg_entry_eq]
  generalize (lg_sl ([.ref (ad 0), .int q, .int x]) ++ List.replicate (3 - (lg_sl ([.ref (ad 0), .int q, .int x])).length) Slot.unset).toArray = ls at hl ⊢
  have hl : lv_has ls 3 [(0, .ref (ad 0)), (1, .int q), (2, .int x)] := hl
  refine lv_aload_n hx hb d_B_know_0 rfl (lv_at hl 0 rfl) ?_
  refine lv_iload_n hx hb d_B_know_1 rfl (lv_at hl 2 rfl) ?_
  refine bz_si (va_runV (As := [.int x]) (rest := []) ⟨hx, hb, hml, hown, htb⟩ (c_B_isArea l dC dI ad cI cL t R L v _) (cwV 1 htb (bz_gV wd_149 wd_146 wd_148 wd_0 wd_19) rfl rfl rfl (by decide +kernel) ⟨Nat.le_of_ble_eq_true rfl, Nat.le_of_ble_eq_true rfl⟩) (bz_rv hN hK hP (q0 := 0) rfl rfl) rfl rfl hl.1 rfl (lv_room (Nat.le_of_ble_eq_true rfl)) d_B_know_2 ⟨Nat.zero_le _, Nat.zero_le _⟩) ?_
  refine lv_if_ne (tgt := 11) hx hb d_B_know_5 (by decide) (fun c_5 => ?_) (fun c_5 => ?_)
  · skip
    exact absurd (bz_i_ne c_5) (by rw [hz]; decide)
  · skip
    refine lv_bipush (v := (-11)) hx hb d_B_know_8 (by decide) ?_
    exact W.iret (v := (-11)) hx hb hr (fun t9 ht9 hW => ⟨(-11), rfl, rfl, ht9⟩) (fun _ h => nomatch h) d_B_know_10

set_option maxHeartbeats 4000000 in
set_option maxRecDepth 100000 in
/-- know, outside -/
theorem c_B_know_o (l : Launch) (dC : Nat → ClassId) (dI : Nat → Nat → Nat) (ad : Nat → Nat) (cI cL : ClassId) (t : bz_T) (R : bz_RS) (L : (Nat → Int32) × Int64) (v : Int32) (ht : bz_ok t) (q x : Int32) (hz : bz_ia (bz_n t) x = true) (hq : bz_ir q = false) : Met l y_B_know w_B_know ({ frames := 1, cells := 0, slots := 0, locals := 22 }) (bz_Pr (dC, dI) [(cI, .int), (cL, .long)] (bz_wB ad cI cL (bz_tR t) R L v) [.ref (ad 0), .int q, .int x]) (vp_Si (fun r9 => r9 = (-12))) 0 0 (fun _ => False) := by
  refine Met.ofW (cc := b_B_know) (maxL := 3) (ret := (some .int)) (by decide) rfl ?_
  intro p e s m args below meth c s₁ B hml hv
  obtain ⟨rfl, hP, hK, hN⟩ := hv
  have hx := B.exec
  have hb := B.bytes
  have hr := B.returns
  have hts := atoms_spec (ws := w_B_know) B.pre
  have hown : s.vm.findClass R_B = some m.cls := findClass_of_methodNamed B.named
  have htb : ∀ w ∈ bz_tb, w.before _ s = true := fun w h => hts w (List.mem_cons_of_mem _ h)
  have hlocks := B.notSynchronized
  have hl := lv_entry ([.ref (ad 0), .int q, .int x]) (n := 3) (Nat.le_of_ble_eq_true rfl)
  rw [lg_entry_eq]
  generalize (lg_sl ([.ref (ad 0), .int q, .int x]) ++ List.replicate (3 - (lg_sl ([.ref (ad 0), .int q, .int x])).length) Slot.unset).toArray = ls at hl ⊢
  have hl : lv_has ls 3 [(0, .ref (ad 0)), (1, .int q), (2, .int x)] := hl
  refine lv_aload_n hx hb d_B_know_0 rfl (lv_at hl 0 rfl) ?_
  refine lv_iload_n hx hb d_B_know_1 rfl (lv_at hl 2 rfl) ?_
  refine bz_si (va_runV (As := [.int x]) (rest := []) ⟨hx, hb, hml, hown, htb⟩ (c_B_isArea l dC dI ad cI cL t R L v _) (cwV 1 htb (bz_gV wd_149 wd_146 wd_148 wd_0 wd_19) rfl rfl rfl (by decide +kernel) ⟨Nat.le_of_ble_eq_true rfl, Nat.le_of_ble_eq_true rfl⟩) (bz_rv hN hK hP (q0 := 0) rfl rfl) rfl rfl hl.1 rfl (lv_room (Nat.le_of_ble_eq_true rfl)) d_B_know_2 ⟨Nat.zero_le _, Nat.zero_le _⟩) ?_
  refine lv_if_ne (tgt := 11) hx hb d_B_know_5 (by decide) (fun c_5 => ?_) (fun c_5 => ?_)
  · skip
    refine lv_iload_n hx hb d_B_know_11 rfl (lv_at hl 1 rfl) ?_
    refine bz_si (va_runS (As := [.int q]) (rest := []) ⟨hx, hb, hml, hown, htb⟩ (c_B_isRound l dC dI ad cI cL t R L v _) (va_cwS 1 htb (bz_gS wd_137 wd_135 wd_136 wd_19) rfl rfl rfl (by decide +kernel) ⟨Nat.le_of_ble_eq_true rfl, Nat.le_of_ble_eq_true rfl⟩) (bz_rs hN hK hP) rfl rfl hl.1 rfl (lv_room (Nat.le_of_ble_eq_true rfl)) d_B_know_12 ⟨Nat.zero_le _, Nat.zero_le _⟩) ?_
    refine lv_if_ne (tgt := 21) hx hb d_B_know_15 (by decide) (fun c_15 => ?_) (fun c_15 => ?_)
    · skip
      exact absurd (bz_i_ne c_15) (by rw [hq]; decide)
    · skip
      refine lv_bipush (v := (-12)) hx hb d_B_know_18 (by decide) ?_
      exact W.iret (v := (-12)) hx hb hr (fun t9 ht9 hW => ⟨(-12), rfl, rfl, ht9⟩) (fun _ h => nomatch h) d_B_know_20
  · skip
    exact absurd (bz_i_eq c_5) (by rw [hz]; decide)

set_option maxHeartbeats 4000000 in
set_option maxRecDepth 100000 in
/-- know, as before -/
theorem c_B_know_s (l : Launch) (dC : Nat → ClassId) (dI : Nat → Nat → Nat) (ad : Nat → Nat) (cI cL : ClassId) (t : bz_T) (R : bz_RS) (L : (Nat → Int32) × Int64) (v : Int32) (ht : bz_ok t) (r a : Nat) (hr4 : r < 4) (ha : a < bz_n t) (hk : bz_k t r a = true) : Met l y_B_know w_B_know ({ frames := 1, cells := 0, slots := 0, locals := 22 }) (bz_Pr (dC, dI) [(cI, .int), (cL, .long)] (bz_wB ad cI cL (bz_tR t) R L v) [.ref (ad 0), .int (nI r), .int (nI (a + 1))]) (vp_Si (fun r9 => r9 = 0)) 0 0 (fun _ => False) := by
  refine Met.ofW (cc := b_B_know) (maxL := 3) (ret := (some .int)) (by decide) rfl ?_
  intro p e s m args below meth c s₁ B hml hv
  obtain ⟨rfl, hP, hK, hN⟩ := hv
  have hx := B.exec
  have hb := B.bytes
  have hr := B.returns
  have hts := atoms_spec (ws := w_B_know) B.pre
  have hown : s.vm.findClass R_B = some m.cls := findClass_of_methodNamed B.named
  have htb : ∀ w ∈ bz_tb, w.before _ s = true := fun w h => hts w (List.mem_cons_of_mem _ h)
  have hlocks := B.notSynchronized
  have hl := lv_entry ([.ref (ad 0), .int (nI r), .int (nI (a + 1))]) (n := 3) (Nat.le_of_ble_eq_true rfl)
  rw [lg_entry_eq]
  generalize (lg_sl ([.ref (ad 0), .int (nI r), .int (nI (a + 1))]) ++ List.replicate (3 - (lg_sl ([.ref (ad 0), .int (nI r), .int (nI (a + 1))])).length) Slot.unset).toArray = ls at hl ⊢
  have hl : lv_has ls 3 [(0, .ref (ad 0)), (1, .int (nI r)), (2, .int (nI (a + 1)))] := hl
  have hn30 := ht.1
  have hir : bz_ir (nI r) = true := decide_eq_true ⟨nI_pos' (by omega), (nI_ltI (b := 4) (by omega) (by omega)).mpr hr4⟩
  have hia : bz_ia (bz_n t) (nI (a + 1)) = true := decide_eq_true ⟨(nI_leI (a := 1) (by omega) (by omega)).mpr (by omega), (nI_leI (by omega) (by omega)).mpr (by omega)⟩
  refine lv_aload_n hx hb d_B_know_0 rfl (lv_at hl 0 rfl) ?_
  refine lv_iload_n hx hb d_B_know_1 rfl (lv_at hl 2 rfl) ?_
  refine bz_si (va_runV (As := [.int (nI (a + 1))]) (rest := []) ⟨hx, hb, hml, hown, htb⟩ (c_B_isArea l dC dI ad cI cL t R L v _) (cwV 1 htb (bz_gV wd_149 wd_146 wd_148 wd_0 wd_19) rfl rfl rfl (by decide +kernel) ⟨Nat.le_of_ble_eq_true rfl, Nat.le_of_ble_eq_true rfl⟩) (bz_rv hN hK hP (q0 := 0) rfl rfl) rfl rfl hl.1 rfl (lv_room (Nat.le_of_ble_eq_true rfl)) d_B_know_2 ⟨Nat.zero_le _, Nat.zero_le _⟩) ?_
  refine lv_if_ne (tgt := 11) hx hb d_B_know_5 (by decide) (fun c_5 => ?_) (fun c_5 => ?_)
  · skip
    refine lv_iload_n hx hb d_B_know_11 rfl (lv_at hl 1 rfl) ?_
    refine bz_si (va_runS (As := [.int (nI r)]) (rest := []) ⟨hx, hb, hml, hown, htb⟩ (c_B_isRound l dC dI ad cI cL t R L v _) (va_cwS 1 htb (bz_gS wd_137 wd_135 wd_136 wd_19) rfl rfl rfl (by decide +kernel) ⟨Nat.le_of_ble_eq_true rfl, Nat.le_of_ble_eq_true rfl⟩) (bz_rs hN hK hP) rfl rfl hl.1 rfl (lv_room (Nat.le_of_ble_eq_true rfl)) d_B_know_12 ⟨Nat.zero_le _, Nat.zero_le _⟩) ?_
    refine lv_if_ne (tgt := 21) hx hb d_B_know_15 (by decide) (fun c_15 => ?_) (fun c_15 => ?_)
    · skip
      refine lv_aload_n hx hb d_B_know_21 rfl (lv_at hl 0 rfl) ?_
      refine va_get (D := (dC, dI)) (ci := 3) (v := .ref (ad 1)) (C := R_B) (T := F_B) (N := 4) hx hb htb in_B hown hK hP 0 rfl rfl 0 (by decide) (htb _ wd_117) (fun _ h9 => h9) rfl d_B_know_22 ?_
      refine lv_iload_n hx hb d_B_know_25 rfl (lv_at hl 2 rfl) ?_
      refine lv_iconst (v := 1) hx hb d_B_know_26 (by decide) ?_
      refine lv_isub hx hb d_B_know_27 ?_
      refine bz_ri (y := nI a) (nI_pred a) ?_
      refine lv_iload_n hx hb d_B_know_28 rfl (lv_at hl 1 rfl) ?_
      refine bz_si (va_runV (As := [.int (nI a), .int (nI r)]) (rest := []) ⟨hx, hb, hml, hown, htb⟩ (c_T_isKnown l dC dI ad cI cL t R L v _ _ (by omega) (by omega)) (cwV 2 htb (bz_gV wd_170 wd_167 wd_168 wd_169 wd_20) rfl rfl rfl (by decide +kernel) ⟨Nat.le_of_ble_eq_true rfl, Nat.le_of_ble_eq_true rfl⟩) (bz_rv hN hK hP (q0 := 1) rfl rfl) rfl rfl hl.1 rfl (lv_room (Nat.le_of_ble_eq_true rfl)) d_B_know_29 ⟨Nat.zero_le _, Nat.zero_le _⟩) ?_
      refine lv_if_eq (tgt := 37) hx hb d_B_know_32 (by decide) (fun c_32 => ?_) (fun c_32 => ?_)
      · skip
        exact absurd (bz_i_eq c_32) (by rw [hk]; decide)
      · skip
        refine lv_iconst (v := 0) hx hb d_B_know_35 (by decide) ?_
        exact W.iret (v := 0) hx hb hr (fun t9 ht9 hW => ⟨0, rfl, rfl, ht9⟩) (fun _ h => nomatch h) d_B_know_36
    · skip
      exact absurd (bz_i_eq c_15) (by rw [hir]; decide)
  · skip
    exact absurd (bz_i_eq c_5) (by rw [hia]; decide)

set_option maxHeartbeats 4000000 in
set_option maxRecDepth 100000 in
/-- know -/
theorem c_B_know (l : Launch) (dC : Nat → ClassId) (dI : Nat → Nat → Nat) (sz : Nat) (ad : Nat → Nat) (cI cL : ClassId) (t : bz_T) (R : bz_RS) (L : (Nat → Int32) × Int64) (v : Int32) (ht : bz_ok t) (r a : Nat) (hr4 : r < 4) (ha : a < bz_n t) (hk : bz_k t r a = false) : Met l y_B_know w_B_know ({ frames := 1, cells := 0, slots := 0, locals := 22 }) (bz_Pw (dC, dI) [(cI, .int), (cL, .long)] (bz_wB ad cI cL (bz_tR t) R L v) sz [.ref (ad 0), .int (nI r), .int (nI (a + 1))]) (bz_Qi (dC, dI) [(cI, .int), (cL, .long)] (va_A (bz_wB ad cI cL (bz_tR t) R L v) sz) (1) (bz_wB ad cI cL (bz_tR (bz_sK t r a)) R L 0)) 0 0 (va_A (bz_wB ad cI cL (bz_tR t) R L v) sz) := by
  refine Met.ofW (cc := b_B_know) (maxL := 3) (ret := (some .int)) (by decide) rfl ?_
  intro p e s m args below meth c s₁ B hml hv
  obtain ⟨rfl, hsz, hP, hK, hD0, hN⟩ := hv
  have hx := B.exec
  have hb := B.bytes
  have hr := B.returns
  have hts := atoms_spec (ws := w_B_know) B.pre
  have hown : s.vm.findClass R_B = some m.cls := findClass_of_methodNamed B.named
  have htb : ∀ w ∈ bz_tb, w.before _ s = true := fun w h => hts w (List.mem_cons_of_mem _ h)
  have hlocks := B.notSynchronized
  subst hsz
  have hD := hD0.self (sz := s.heap.size)
  generalize hAe : va_A (bz_wB ad cI cL (bz_tR t) R L v) s.heap.size = A at hD ⊢
  have hA : ∀ q : Nat, s.heap.size ≤ q → A q := fun q h => by rw [← hAe]; exact Or.inr h
  have hS : va_S A s.heap s.heap [] := va_S.rf
  have hl := lv_entry ([.ref (ad 0), .int (nI r), .int (nI (a + 1))]) (n := 3) (Nat.le_of_ble_eq_true rfl)
  rw [lg_entry_eq]
  generalize (lg_sl ([.ref (ad 0), .int (nI r), .int (nI (a + 1))]) ++ List.replicate (3 - (lg_sl ([.ref (ad 0), .int (nI r), .int (nI (a + 1))])).length) Slot.unset).toArray = ls at hl ⊢
  have hl : lv_has ls 3 [(0, .ref (ad 0)), (1, .int (nI r)), (2, .int (nI (a + 1)))] := hl
  have hn30 := ht.1
  have hir : bz_ir (nI r) = true := decide_eq_true ⟨nI_pos' (by omega), (nI_ltI (b := 4) (by omega) (by omega)).mpr hr4⟩
  have hia : bz_ia (bz_n t) (nI (a + 1)) = true := decide_eq_true ⟨(nI_leI (a := 1) (by omega) (by omega)).mpr (by omega), (nI_leI (by omega) (by omega)).mpr (by omega)⟩
  refine lv_aload_n hx hb d_B_know_0 rfl (lv_at hl 0 rfl) ?_
  refine lv_iload_n hx hb d_B_know_1 rfl (lv_at hl 2 rfl) ?_
  refine bz_si (va_runV (As := [.int (nI (a + 1))]) (rest := []) ⟨hx, hb, hml, hown, htb⟩ (c_B_isArea l dC dI ad cI cL t R L v _) (cwV 1 htb (bz_gV wd_149 wd_146 wd_148 wd_0 wd_19) rfl rfl rfl (by decide +kernel) ⟨Nat.le_of_ble_eq_true rfl, Nat.le_of_ble_eq_true rfl⟩) (bz_rv hN hK hP (q0 := 0) rfl rfl) rfl rfl hl.1 rfl (lv_room (Nat.le_of_ble_eq_true rfl)) d_B_know_2 ⟨Nat.zero_le _, Nat.zero_le _⟩) ?_
  refine lv_if_ne (tgt := 11) hx hb d_B_know_5 (by decide) (fun c_5 => ?_) (fun c_5 => ?_)
  · skip
    refine lv_iload_n hx hb d_B_know_11 rfl (lv_at hl 1 rfl) ?_
    refine bz_si (va_runS (As := [.int (nI r)]) (rest := []) ⟨hx, hb, hml, hown, htb⟩ (c_B_isRound l dC dI ad cI cL t R L v _) (va_cwS 1 htb (bz_gS wd_137 wd_135 wd_136 wd_19) rfl rfl rfl (by decide +kernel) ⟨Nat.le_of_ble_eq_true rfl, Nat.le_of_ble_eq_true rfl⟩) (bz_rs hN hK hP) rfl rfl hl.1 rfl (lv_room (Nat.le_of_ble_eq_true rfl)) d_B_know_12 ⟨Nat.zero_le _, Nat.zero_le _⟩) ?_
    refine lv_if_ne (tgt := 21) hx hb d_B_know_15 (by decide) (fun c_15 => ?_) (fun c_15 => ?_)
    · skip
      refine lv_aload_n hx hb d_B_know_21 rfl (lv_at hl 0 rfl) ?_
      refine va_get (D := (dC, dI)) (ci := 3) (v := .ref (ad 1)) (C := R_B) (T := F_B) (N := 4) hx hb htb in_B hown hK hP 0 rfl rfl 0 (by decide) (htb _ wd_117) (fun _ h9 => h9) rfl d_B_know_22 ?_
      refine lv_iload_n hx hb d_B_know_25 rfl (lv_at hl 2 rfl) ?_
      refine lv_iconst (v := 1) hx hb d_B_know_26 (by decide) ?_
      refine lv_isub hx hb d_B_know_27 ?_
      refine bz_ri (y := nI a) (nI_pred a) ?_
      refine lv_iload_n hx hb d_B_know_28 rfl (lv_at hl 1 rfl) ?_
      refine bz_si (va_runV (As := [.int (nI a), .int (nI r)]) (rest := []) ⟨hx, hb, hml, hown, htb⟩ (c_T_isKnown l dC dI ad cI cL t R L v _ _ (by omega) (by omega)) (cwV 2 htb (bz_gV wd_170 wd_167 wd_168 wd_169 wd_20) rfl rfl rfl (by decide +kernel) ⟨Nat.le_of_ble_eq_true rfl, Nat.le_of_ble_eq_true rfl⟩) (bz_rv hN hK hP (q0 := 1) rfl rfl) rfl rfl hl.1 rfl (lv_room (Nat.le_of_ble_eq_true rfl)) d_B_know_29 ⟨Nat.zero_le _, Nat.zero_le _⟩) ?_
      refine lv_if_eq (tgt := 37) hx hb d_B_know_32 (by decide) (fun c_32 => ?_) (fun c_32 => ?_)
      · skip
        refine lv_aload_n hx hb d_B_know_37 rfl (lv_at hl 0 rfl) ?_
        refine va_get (D := (dC, dI)) (ci := 3) (v := .ref (ad 1)) (C := R_B) (T := F_B) (N := 4) hx hb htb in_B hown hK hP 0 rfl rfl 0 (by decide) (htb _ wd_117) (fun _ h9 => h9) rfl d_B_know_38 ?_
        refine lv_iload_n hx hb d_B_know_41 rfl (lv_at hl 2 rfl) ?_
        refine lv_iconst (v := 1) hx hb d_B_know_42 (by decide) ?_
        refine lv_isub hx hb d_B_know_43 ?_
        refine bz_ri (y := nI a) (nI_pred a) ?_
        refine lv_iload_n hx hb d_B_know_44 rfl (lv_at hl 1 rfl) ?_
        refine bz_cv (va_runV (As := [.int (nI a), .int (nI r)]) (rest := []) ⟨hx, hb, hml, hown, htb⟩ (c_T_learn l dC dI _ ad cI cL t R L v ht _ _ (by omega) (by omega)) (cwV 2 htb (bz_gV wd_174 wd_171 wd_172 wd_173 wd_20) rfl rfl rfl (by decide +kernel) ⟨Nat.le_of_ble_eq_true rfl, Nat.le_of_ble_eq_true rfl⟩) (bz_wv hN hK hP hD (q0 := 1) rfl rfl) rfl rfl hl.1 rfl (lv_room (Nat.le_of_ble_eq_true rfl)) d_B_know_45 ⟨Nat.zero_le _, Nat.zero_le _⟩) hD hS hA (fun H locs hP hD hS => ?_)
        have hP : va_P (dC, dI) vwCl (bz_wB ad cI cL (bz_tR (bz_sK t r a)) R L v) H := hP
        have hD : va_D A (bz_wB ad cI cL (bz_tR (bz_sK t r a)) R L v) := hD
        refine lv_aload_n hx hb d_B_know_48 rfl (lv_at hl 0 rfl) ?_
        refine lv_iconst (v := 0) hx hb d_B_know_49 (by decide) ?_
        refine va_put (D := (dC, dI)) (ci := 3) (v := .int 0) (ty := .boolean) (C := R_B) (T := F_B) (N := 4) hx hb htb in_B tf_B tok_B n_B hown hK hP hD hS 0 rfl rfl 3 (by decide) (htb _ wd_120) (fun _ h9 => h9) rfl (by decide +kernel) rfl rfl (Nat.le_of_ble_eq_true rfl) d_B_know_50 (fun H locs hP hD hS => ?_)
        have hP : va_P (dC, dI) vwCl (bz_wB ad cI cL (bz_tR (bz_sK t r a)) R L 0) H := hP
        have hD : va_D A (bz_wB ad cI cL (bz_tR (bz_sK t r a)) R L 0) := hD
        refine lv_iconst (v := 1) hx hb d_B_know_53 (by decide) ?_
        exact W.iret (v := 1) hx hb hr (fun t9 ht9 hW => ⟨⟨1, (), rfl, rfl, by rw [ht9]; exact hP, va_K.moved hW.alike hK, hD⟩, hS.F ht9⟩) hS.2.2 d_B_know_54
      · skip
        exact absurd (bz_i_ne c_32) (by rw [hk]; decide)
    · skip
      exact absurd (bz_i_eq c_15) (by rw [hir]; decide)
  · skip
    exact absurd (bz_i_eq c_5) (by rw [hia]; decide)
