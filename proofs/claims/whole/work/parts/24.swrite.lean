theorem d_S_clear_0 : decode b_S_clear 0 = .ok (.aload_n 0, 1) := by decide +kernel
theorem d_S_clear_1 : decode b_S_clear 1 = .ok (.iconst 1, 1) := by decide +kernel
theorem d_S_clear_2 : decode b_S_clear 2 = .ok (.aload_n 0, 1) := by decide +kernel
theorem d_S_clear_3 : decode b_S_clear 3 = .ok (.getfield 29, 3) := by decide +kernel
theorem d_S_clear_6 : decode b_S_clear 6 = .ok (.getfield 33, 3) := by decide +kernel
theorem d_S_clear_9 : decode b_S_clear 9 = .ok (.ishl, 1) := by decide +kernel
theorem d_S_clear_10 : decode b_S_clear 10 = .ok (.iconst 1, 1) := by decide +kernel
theorem d_S_clear_11 : decode b_S_clear 11 = .ok (.isub, 1) := by decide +kernel
theorem d_S_clear_12 : decode b_S_clear 12 = .ok (.putfield 22, 3) := by decide +kernel
theorem d_S_clear_15 : decode b_S_clear 15 = .ok (.aload_n 0, 1) := by decide +kernel
theorem d_S_clear_16 : decode b_S_clear 16 = .ok (.iconst 0, 1) := by decide +kernel
theorem d_S_clear_17 : decode b_S_clear 17 = .ok (.putfield 26, 3) := by decide +kernel
theorem d_S_clear_20 : decode b_S_clear 20 = .ok (.iconst 0, 1) := by decide +kernel
theorem d_S_clear_21 : decode b_S_clear 21 = .ok (.istore_n 1, 1) := by decide +kernel
theorem d_S_clear_22 : decode b_S_clear 22 = .ok (.iload_n 1, 1) := by decide +kernel
theorem d_S_clear_23 : decode b_S_clear 23 = .ok (.iconst 4, 1) := by decide +kernel
theorem d_S_clear_24 : decode b_S_clear 24 = .ok (.if_icmp .ge 23, 3) := by decide +kernel
theorem d_S_clear_27 : decode b_S_clear 27 = .ok (.aload_n 0, 1) := by decide +kernel
theorem d_S_clear_28 : decode b_S_clear 28 = .ok (.getfield 15, 3) := by decide +kernel
theorem d_S_clear_31 : decode b_S_clear 31 = .ok (.iload_n 1, 1) := by decide +kernel
theorem d_S_clear_32 : decode b_S_clear 32 = .ok (.iconst 0, 1) := by decide +kernel
theorem d_S_clear_33 : decode b_S_clear 33 = .ok (.iastore, 1) := by decide +kernel
theorem d_S_clear_34 : decode b_S_clear 34 = .ok (.aload_n 0, 1) := by decide +kernel
theorem d_S_clear_35 : decode b_S_clear 35 = .ok (.getfield 18, 3) := by decide +kernel
theorem d_S_clear_38 : decode b_S_clear 38 = .ok (.iload_n 1, 1) := by decide +kernel
theorem d_S_clear_39 : decode b_S_clear 39 = .ok (.lconst 0, 1) := by decide +kernel
theorem d_S_clear_40 : decode b_S_clear 40 = .ok (.lastore, 1) := by decide +kernel
theorem d_S_clear_41 : decode b_S_clear 41 = .ok (.iinc 1 1, 3) := by decide +kernel
theorem d_S_clear_44 : decode b_S_clear 44 = .ok (.goto (-22), 3) := by decide +kernel
theorem d_S_clear_47 : decode b_S_clear 47 = .ok (.return_, 1) := by decide +kernel
theorem d_S_put_0 : decode b_S_put 0 = .ok (.aload_n 0, 1) := by decide +kernel
theorem d_S_put_1 : decode b_S_put 1 = .ok (.getfield 9, 3) := by decide +kernel
theorem d_S_put_4 : decode b_S_put 4 = .ok (.iload_n 1, 1) := by decide +kernel
theorem d_S_put_5 : decode b_S_put 5 = .ok (.iload_n 2, 1) := by decide +kernel
theorem d_S_put_6 : decode b_S_put 6 = .ok (.iastore, 1) := by decide +kernel
theorem d_S_put_7 : decode b_S_put 7 = .ok (.aload_n 0, 1) := by decide +kernel
theorem d_S_put_8 : decode b_S_put 8 = .ok (.dup, 1) := by decide +kernel
theorem d_S_put_9 : decode b_S_put 9 = .ok (.getfield 22, 3) := by decide +kernel
theorem d_S_put_12 : decode b_S_put 12 = .ok (.iconst 1, 1) := by decide +kernel
theorem d_S_put_13 : decode b_S_put 13 = .ok (.iload_n 1, 1) := by decide +kernel
theorem d_S_put_14 : decode b_S_put 14 = .ok (.ishl, 1) := by decide +kernel
theorem d_S_put_15 : decode b_S_put 15 = .ok (.iconst (-1), 1) := by decide +kernel
theorem d_S_put_16 : decode b_S_put 16 = .ok (.ixor, 1) := by decide +kernel
theorem d_S_put_17 : decode b_S_put 17 = .ok (.iand, 1) := by decide +kernel
theorem d_S_put_18 : decode b_S_put 18 = .ok (.putfield 22, 3) := by decide +kernel
theorem d_S_put_21 : decode b_S_put 21 = .ok (.aload_n 0, 1) := by decide +kernel
theorem d_S_put_22 : decode b_S_put 22 = .ok (.getfield 15, 3) := by decide +kernel
theorem d_S_put_25 : decode b_S_put 25 = .ok (.iload_n 2, 1) := by decide +kernel
theorem d_S_put_26 : decode b_S_put 26 = .ok (.dup2, 1) := by decide +kernel
theorem d_S_put_27 : decode b_S_put 27 = .ok (.iaload, 1) := by decide +kernel
theorem d_S_put_28 : decode b_S_put 28 = .ok (.iconst 1, 1) := by decide +kernel
theorem d_S_put_29 : decode b_S_put 29 = .ok (.iload_n 1, 1) := by decide +kernel
theorem d_S_put_30 : decode b_S_put 30 = .ok (.ishl, 1) := by decide +kernel
theorem d_S_put_31 : decode b_S_put 31 = .ok (.ior, 1) := by decide +kernel
theorem d_S_put_32 : decode b_S_put 32 = .ok (.iastore, 1) := by decide +kernel
theorem d_S_put_33 : decode b_S_put 33 = .ok (.aload_n 0, 1) := by decide +kernel
theorem d_S_put_34 : decode b_S_put 34 = .ok (.getfield 18, 3) := by decide +kernel
theorem d_S_put_37 : decode b_S_put 37 = .ok (.iload_n 2, 1) := by decide +kernel
theorem d_S_put_38 : decode b_S_put 38 = .ok (.dup2, 1) := by decide +kernel
theorem d_S_put_39 : decode b_S_put 39 = .ok (.laload, 1) := by decide +kernel
theorem d_S_put_40 : decode b_S_put 40 = .ok (.aload_n 0, 1) := by decide +kernel
theorem d_S_put_41 : decode b_S_put 41 = .ok (.getfield 29, 3) := by decide +kernel
theorem d_S_put_44 : decode b_S_put 44 = .ok (.iload_n 1, 1) := by decide +kernel
theorem d_S_put_45 : decode b_S_put 45 = .ok (.iload_n 2, 1) := by decide +kernel
theorem d_S_put_46 : decode b_S_put 46 = .ok (.invokevirtual 45, 3) := by decide +kernel
theorem d_S_put_49 : decode b_S_put 49 = .ok (.ladd, 1) := by decide +kernel
theorem d_S_put_50 : decode b_S_put 50 = .ok (.lastore, 1) := by decide +kernel
theorem d_S_put_51 : decode b_S_put 51 = .ok (.iload_n 2, 1) := by decide +kernel
theorem d_S_put_52 : decode b_S_put 52 = .ok (.aload_n 0, 1) := by decide +kernel
theorem d_S_put_53 : decode b_S_put 53 = .ok (.getfield 29, 3) := by decide +kernel
theorem d_S_put_56 : decode b_S_put 56 = .ok (.getfield 49, 3) := by decide +kernel
theorem d_S_put_59 : decode b_S_put 59 = .ok (.iload_n 1, 1) := by decide +kernel
theorem d_S_put_60 : decode b_S_put 60 = .ok (.iaload, 1) := by decide +kernel
theorem d_S_put_61 : decode b_S_put 61 = .ok (.if_icmp .eq 13, 3) := by decide +kernel
theorem d_S_put_64 : decode b_S_put 64 = .ok (.aload_n 0, 1) := by decide +kernel
theorem d_S_put_65 : decode b_S_put 65 = .ok (.dup, 1) := by decide +kernel
theorem d_S_put_66 : decode b_S_put 66 = .ok (.getfield 26, 3) := by decide +kernel
theorem d_S_put_69 : decode b_S_put 69 = .ok (.iconst 1, 1) := by decide +kernel
theorem d_S_put_70 : decode b_S_put 70 = .ok (.iadd, 1) := by decide +kernel
theorem d_S_put_71 : decode b_S_put 71 = .ok (.putfield 26, 3) := by decide +kernel
theorem d_S_put_74 : decode b_S_put 74 = .ok (.return_, 1) := by decide +kernel
theorem d_S_take_0 : decode b_S_take 0 = .ok (.aload_n 0, 1) := by decide +kernel
theorem d_S_take_1 : decode b_S_take 1 = .ok (.getfield 9, 3) := by decide +kernel
theorem d_S_take_4 : decode b_S_take 4 = .ok (.iload_n 1, 1) := by decide +kernel
theorem d_S_take_5 : decode b_S_take 5 = .ok (.iaload, 1) := by decide +kernel
theorem d_S_take_6 : decode b_S_take 6 = .ok (.istore_n 2, 1) := by decide +kernel
theorem d_S_take_7 : decode b_S_take 7 = .ok (.aload_n 0, 1) := by decide +kernel
theorem d_S_take_8 : decode b_S_take 8 = .ok (.dup, 1) := by decide +kernel
theorem d_S_take_9 : decode b_S_take 9 = .ok (.getfield 22, 3) := by decide +kernel
theorem d_S_take_12 : decode b_S_take 12 = .ok (.iconst 1, 1) := by decide +kernel
theorem d_S_take_13 : decode b_S_take 13 = .ok (.iload_n 1, 1) := by decide +kernel
theorem d_S_take_14 : decode b_S_take 14 = .ok (.ishl, 1) := by decide +kernel
theorem d_S_take_15 : decode b_S_take 15 = .ok (.ior, 1) := by decide +kernel
theorem d_S_take_16 : decode b_S_take 16 = .ok (.putfield 22, 3) := by decide +kernel
theorem d_S_take_19 : decode b_S_take 19 = .ok (.aload_n 0, 1) := by decide +kernel
theorem d_S_take_20 : decode b_S_take 20 = .ok (.getfield 15, 3) := by decide +kernel
theorem d_S_take_23 : decode b_S_take 23 = .ok (.iload_n 2, 1) := by decide +kernel
theorem d_S_take_24 : decode b_S_take 24 = .ok (.dup2, 1) := by decide +kernel
theorem d_S_take_25 : decode b_S_take 25 = .ok (.iaload, 1) := by decide +kernel
theorem d_S_take_26 : decode b_S_take 26 = .ok (.iconst 1, 1) := by decide +kernel
theorem d_S_take_27 : decode b_S_take 27 = .ok (.iload_n 1, 1) := by decide +kernel
theorem d_S_take_28 : decode b_S_take 28 = .ok (.ishl, 1) := by decide +kernel
theorem d_S_take_29 : decode b_S_take 29 = .ok (.iconst (-1), 1) := by decide +kernel
theorem d_S_take_30 : decode b_S_take 30 = .ok (.ixor, 1) := by decide +kernel
theorem d_S_take_31 : decode b_S_take 31 = .ok (.iand, 1) := by decide +kernel
theorem d_S_take_32 : decode b_S_take 32 = .ok (.iastore, 1) := by decide +kernel
theorem d_S_take_33 : decode b_S_take 33 = .ok (.aload_n 0, 1) := by decide +kernel
theorem d_S_take_34 : decode b_S_take 34 = .ok (.getfield 18, 3) := by decide +kernel
theorem d_S_take_37 : decode b_S_take 37 = .ok (.iload_n 2, 1) := by decide +kernel
theorem d_S_take_38 : decode b_S_take 38 = .ok (.dup2, 1) := by decide +kernel
theorem d_S_take_39 : decode b_S_take 39 = .ok (.laload, 1) := by decide +kernel
theorem d_S_take_40 : decode b_S_take 40 = .ok (.aload_n 0, 1) := by decide +kernel
theorem d_S_take_41 : decode b_S_take 41 = .ok (.getfield 29, 3) := by decide +kernel
theorem d_S_take_44 : decode b_S_take 44 = .ok (.iload_n 1, 1) := by decide +kernel
theorem d_S_take_45 : decode b_S_take 45 = .ok (.iload_n 2, 1) := by decide +kernel
theorem d_S_take_46 : decode b_S_take 46 = .ok (.invokevirtual 45, 3) := by decide +kernel
theorem d_S_take_49 : decode b_S_take 49 = .ok (.lsub, 1) := by decide +kernel
theorem d_S_take_50 : decode b_S_take 50 = .ok (.lastore, 1) := by decide +kernel
theorem d_S_take_51 : decode b_S_take 51 = .ok (.iload_n 2, 1) := by decide +kernel
theorem d_S_take_52 : decode b_S_take 52 = .ok (.aload_n 0, 1) := by decide +kernel
theorem d_S_take_53 : decode b_S_take 53 = .ok (.getfield 29, 3) := by decide +kernel
theorem d_S_take_56 : decode b_S_take 56 = .ok (.getfield 49, 3) := by decide +kernel
theorem d_S_take_59 : decode b_S_take 59 = .ok (.iload_n 1, 1) := by decide +kernel
theorem d_S_take_60 : decode b_S_take 60 = .ok (.iaload, 1) := by decide +kernel
theorem d_S_take_61 : decode b_S_take 61 = .ok (.if_icmp .eq 13, 3) := by decide +kernel
theorem d_S_take_64 : decode b_S_take 64 = .ok (.aload_n 0, 1) := by decide +kernel
theorem d_S_take_65 : decode b_S_take 65 = .ok (.dup, 1) := by decide +kernel
theorem d_S_take_66 : decode b_S_take 66 = .ok (.getfield 26, 3) := by decide +kernel
theorem d_S_take_69 : decode b_S_take 69 = .ok (.iconst 1, 1) := by decide +kernel
theorem d_S_take_70 : decode b_S_take 70 = .ok (.isub, 1) := by decide +kernel
theorem d_S_take_71 : decode b_S_take 71 = .ok (.putfield 26, 3) := by decide +kernel
theorem d_S_take_74 : decode b_S_take 74 = .ok (.return_, 1) := by decide +kernel
theorem d_S_move_0 : decode b_S_move 0 = .ok (.aload_n 0, 1) := by decide +kernel
theorem d_S_move_1 : decode b_S_move 1 = .ok (.iload_n 1, 1) := by decide +kernel
theorem d_S_move_2 : decode b_S_move 2 = .ok (.invokevirtual 52, 3) := by decide +kernel
theorem d_S_move_5 : decode b_S_move 5 = .ok (.aload_n 0, 1) := by decide +kernel
theorem d_S_move_6 : decode b_S_move 6 = .ok (.iload_n 1, 1) := by decide +kernel
theorem d_S_move_7 : decode b_S_move 7 = .ok (.iload_n 2, 1) := by decide +kernel
theorem d_S_move_8 : decode b_S_move 8 = .ok (.invokevirtual 41, 3) := by decide +kernel
theorem d_S_move_11 : decode b_S_move 11 = .ok (.return_, 1) := by decide +kernel
theorem d_S_beginWith_0 : decode b_S_beginWith 0 = .ok (.aload_n 0, 1) := by decide +kernel
theorem d_S_beginWith_1 : decode b_S_beginWith 1 = .ok (.invokevirtual 38, 3) := by decide +kernel
theorem d_S_beginWith_4 : decode b_S_beginWith 4 = .ok (.iconst 0, 1) := by decide +kernel
theorem d_S_beginWith_5 : decode b_S_beginWith 5 = .ok (.istore_n 2, 1) := by decide +kernel
theorem d_S_beginWith_6 : decode b_S_beginWith 6 = .ok (.iload_n 2, 1) := by decide +kernel
theorem d_S_beginWith_7 : decode b_S_beginWith 7 = .ok (.aload_n 0, 1) := by decide +kernel
theorem d_S_beginWith_8 : decode b_S_beginWith 8 = .ok (.getfield 29, 3) := by decide +kernel
theorem d_S_beginWith_11 : decode b_S_beginWith 11 = .ok (.getfield 33, 3) := by decide +kernel
theorem d_S_beginWith_14 : decode b_S_beginWith 14 = .ok (.if_icmp .ge 23, 3) := by decide +kernel
theorem d_S_beginWith_17 : decode b_S_beginWith 17 = .ok (.iload_n 2, 1) := by decide +kernel
theorem d_S_beginWith_18 : decode b_S_beginWith 18 = .ok (.aload_n 1, 1) := by decide +kernel
theorem d_S_beginWith_19 : decode b_S_beginWith 19 = .ok (.arraylength, 1) := by decide +kernel
theorem d_S_beginWith_20 : decode b_S_beginWith 20 = .ok (.if_icmp .ge 17, 3) := by decide +kernel
theorem d_S_beginWith_23 : decode b_S_beginWith 23 = .ok (.aload_n 0, 1) := by decide +kernel
theorem d_S_beginWith_24 : decode b_S_beginWith 24 = .ok (.iload_n 2, 1) := by decide +kernel
theorem d_S_beginWith_25 : decode b_S_beginWith 25 = .ok (.aload_n 1, 1) := by decide +kernel
theorem d_S_beginWith_26 : decode b_S_beginWith 26 = .ok (.iload_n 2, 1) := by decide +kernel
theorem d_S_beginWith_27 : decode b_S_beginWith 27 = .ok (.iaload, 1) := by decide +kernel
theorem d_S_beginWith_28 : decode b_S_beginWith 28 = .ok (.invokevirtual 41, 3) := by decide +kernel
theorem d_S_beginWith_31 : decode b_S_beginWith 31 = .ok (.iinc 2 1, 3) := by decide +kernel
theorem d_S_beginWith_34 : decode b_S_beginWith 34 = .ok (.goto (-28), 3) := by decide +kernel
theorem d_S_beginWith_37 : decode b_S_beginWith 37 = .ok (.return_, 1) := by decide +kernel

theorem bz_put_R {t : bz_T} {s : bz_S} {a r c : Nat} (ha : a < bz_n t) (ho : s.2 a = true) (hc : c = bz_ch t (bz_pu s a r)) : bz_sR t (bz_pu s a r) = (upd (bz_sR t s).1 a (nI r), upd (bz_sR t s).2.1 r (bz_m (fun i => bz_in t s r i || decide (i = a))), vp_updL (bz_sR t s).2.2.1 r (lN (bz_ld t s r + bz_w t a r)), bz_m (fun i => bz_op t s i && !decide (i = a)), nI c) := by
  subst hc
  refine Prod.ext (funext fun i => ?_) (Prod.ext (funext fun q => ?_) (Prod.ext (funext fun q => ?_) (Prod.ext ?_ rfl)))
  · show nI (va_up s.1 a r i) = upd (fun a => nI (s.1 a)) a (nI r) i
    rw [bz_updI]
  · show bz_m (bz_in t (bz_pu s a r) q) = if q = r then _ else bz_m (bz_in t s q)
    rw [bz_in_pu ho]
    by_cases e : q = r
    · subst e
      rw [if_pos rfl]
      exact bz_ext fun i _ => by simp [ha]
    · rw [if_neg e]
      have e2 : ¬ r = q := fun z => e z.symm
      exact bz_ext fun i _ => by simp [e2]
  · show lN (bz_ld t (bz_pu s a r) q) = if q = r then _ else lN (bz_ld t s q)
    rw [bz_ld_pu ha ho]
    by_cases e : q = r
    · subst e
      rw [if_pos rfl, if_pos rfl]
    · rw [if_neg e, if_neg e]
  · show bz_m (bz_op t (bz_pu s a r)) = _
    rw [bz_op_pu]
theorem bz_take_R {t : bz_T} {s : bz_S} {a c : Nat} (ha : a < bz_n t) (ho : s.2 a = false) (hc : c = bz_ch t (bz_ta s a)) : bz_sR t (bz_ta s a) = ((bz_sR t s).1, upd (bz_sR t s).2.1 (s.1 a) (bz_m (fun i => bz_in t s (s.1 a) i && !decide (i = a))), vp_updL (bz_sR t s).2.2.1 (s.1 a) (lN (bz_ld t s (s.1 a) - bz_w t a (s.1 a))), bz_m (fun i => bz_op t s i || decide (i = a)), nI c) := by
  subst hc
  refine Prod.ext rfl (Prod.ext (funext fun q => ?_) (Prod.ext (funext fun q => ?_) (Prod.ext ?_ rfl)))
  · show bz_m (bz_in t (bz_ta s a) q) = if q = s.1 a then _ else bz_m (bz_in t s q)
    rw [bz_in_ta]
    by_cases e : q = s.1 a
    · subst e
      rw [if_pos rfl]
    · rw [if_neg e]
      refine bz_ext fun i _ => ?_
      by_cases e2 : i = a
      · subst e2
        have : bz_in t s q i = false := by
          unfold bz_in
          simp [ho]
          intro _ z
          exact e z.symm
        simp [this]
      · simp [e2]
  · show lN (bz_ld t (bz_ta s a) q) = if q = s.1 a then _ else lN (bz_ld t s q)
    have h := bz_ld_ta ha ho q
    by_cases e : q = s.1 a
    · rw [if_pos e] at h
      rw [if_pos e, ← e]
      congr 1
      omega
    · rw [if_neg e] at h
      rw [if_neg e]
      congr 1
      omega
  · show bz_m (bz_op t (bz_ta s a)) = _
    rw [bz_op_ta]
    exact bz_ext fun i _ => by simp [ha]
/-- the share whose first k areas are given -/
def bz_bg (f x : Nat → Nat) (k : Nat) : bz_S := (fun a => if a < k then f a else x a, fun a => decide (k ≤ a))
theorem bz_bg_0 (f x : Nat → Nat) : bz_bg f x 0 = (x, fun _ => true) := by
  refine Prod.ext (funext fun a => ?_) (funext fun a => ?_)
  · show (if a < 0 then f a else x a) = x a
    rw [if_neg (by omega)]
  · show decide (0 ≤ a) = true
    exact decide_eq_true (by omega)
theorem bz_bg_1 (f x : Nat → Nat) (k : Nat) : bz_pu (bz_bg f x k) k (f k) = bz_bg f x (k + 1) := by
  refine Prod.ext (funext fun a => ?_) (funext fun a => ?_)
  · show va_up _ k (f k) a = if a < k + 1 then f a else x a
    by_cases e : a = k
    · subst e
      rw [bz_up_s, if_pos (by omega)]
    · rw [bz_up_n _ _ e]
      show (if a < k then f a else x a) = _
      by_cases h : a < k
      · rw [if_pos h, if_pos (by omega)]
      · rw [if_neg h, if_neg (by omega)]
  · show va_up _ k false a = decide (k + 1 ≤ a)
    by_cases e : a = k
    · subst e
      rw [bz_up_s, decide_eq_false (by omega)]
    · rw [bz_up_n _ _ e]
      show decide (k ≤ a) = _
      exact decide_eq_decide.mpr (by omega)
theorem bz_clr_in (t : bz_T) (x : Nat → Nat) (r i : Nat) : bz_in t (x, fun _ => true) r i = false := by
  unfold bz_in
  simp
theorem bz_clr_ld (t : bz_T) (x : Nat → Nat) (r : Nat) : bz_ld t (x, fun _ => true) r = 0 := by
  unfold bz_ld
  have : ∀ n, bz_sm (fun a => if bz_in t (x, fun _ => true) r a then bz_w t a r else 0) n = 0 := by
    intro n
    induction n with
    | zero => rfl
    | succ n ih =>
      show bz_sm _ n + (if bz_in t (x, fun _ => true) r n then bz_w t n r else 0) = 0
      rw [ih, bz_clr_in]
      rfl
  exact this _
theorem bz_clr_ch (t : bz_T) (x : Nat → Nat) : bz_ch t (x, fun _ => true) = 0 := by
  unfold bz_ch
  have : ∀ n, bz_ct (fun a => !((x, fun _ => true) : bz_S).2 a && decide (((x, fun _ => true) : bz_S).1 a ≠ bz_d t a)) n = 0 := by
    intro n
    induction n with
    | zero => rfl
    | succ n ih => rw [bz_ct_0 (by simp), ih]
  exact this _
theorem bz_clr_op (t : bz_T) (x : Nat → Nat) : bz_m (fun i => decide (i < bz_n t)) = bz_m (bz_op t (x, fun _ => true)) := bz_ext fun i _ => by
  unfold bz_op
  simp

set_option maxHeartbeats 4000000 in
set_option maxRecDepth 100000 in
/-- Share.clear -/
theorem c_S_clear (l : Launch) (dC : Nat → ClassId) (dI : Nat → Nat → Nat) (sz : Nat) (ad : Nat → Nat) (cI cL : ClassId) (t : bz_T) (x : Nat → Nat) (A1 : Nat → Int32) (A2 : Nat → Int64) (o1 c1 : Int32) (L : (Nat → Int32) × Int64) (v : Int32) (ht : bz_ok t) : Met l y_S_clear w_S_clear ({ frames := 0, cells := 0, slots := 0, locals := 0 }) (bz_Pw (dC, dI) [(cI, .int), (cL, .long)] (bz_wB ad cI cL (bz_tR t) (fun a => nI (x a), A1, A2, o1, c1) L v) sz [.ref (ad 7)]) (bz_Qv (dC, dI) [(cI, .int), (cL, .long)] (va_A (bz_wB ad cI cL (bz_tR t) (fun a => nI (x a), A1, A2, o1, c1) L v) sz) (bz_wB ad cI cL (bz_tR t) (bz_sR t (x, fun _ => true)) L v)) 0 0 (va_A (bz_wB ad cI cL (bz_tR t) (fun a => nI (x a), A1, A2, o1, c1) L v) sz) := by
  refine Met.ofW (cc := b_S_clear) (maxL := 2) (ret := none) (by decide) rfl ?_
  intro p e s m args below meth c s₁ B hml hv
  obtain ⟨rfl, hsz, hP, hK, hD0, hN⟩ := hv
  have hx := B.exec
  have hb := B.bytes
  have hr := B.returns
  have hts := atoms_spec (ws := w_S_clear) B.pre
  have hown : s.vm.findClass R_S = some m.cls := findClass_of_methodNamed B.named
  have htb : ∀ w ∈ bz_tb, w.before _ s = true := fun w h => hts w (List.mem_cons_of_mem _ h)
  have hlocks := B.notSynchronized
  subst hsz
  have hD := hD0.self (sz := s.heap.size)
  generalize hAe : va_A (bz_wB ad cI cL (bz_tR t) (fun a => nI (x a), A1, A2, o1, c1) L v) s.heap.size = A at hD ⊢
  have hA : ∀ q : Nat, s.heap.size ≤ q → A q := fun q h => by rw [← hAe]; exact Or.inr h
  have hS : va_S A s.heap s.heap [] := va_S.rf
  have hl := lv_entry ([.ref (ad 7)]) (n := 2) (Nat.le_of_ble_eq_true rfl)
  rw [lg_entry_eq]
  generalize (lg_sl ([.ref (ad 7)]) ++ List.replicate (2 - (lg_sl ([.ref (ad 7)])).length) Slot.unset).toArray = ls at hl ⊢
  have hl : lv_has ls 2 [(0, .ref (ad 7))] := hl
  refine lv_aload_n hx hb d_S_clear_0 rfl (lv_at hl 0 rfl) ?_
  refine lv_iconst (v := 1) hx hb d_S_clear_1 (by decide) ?_
  refine lv_aload_n hx hb d_S_clear_2 rfl (lv_at hl 0 rfl) ?_
  refine va_get (D := (dC, dI)) (ci := 1) (v := .ref (ad 1)) (C := R_S) (T := F_S) (N := 6) hx hb htb in_S hown hK hP 7 rfl rfl 0 (by decide) (htb _ wd_79) (fun _ h9 => h9) rfl d_S_clear_3 ?_
  refine va_getN (D := (dC, dI)) (ci := 2) (v := .int (nI (bz_n t))) (C := R_T) (T := F_T) (N := 6) hx hb htb in_T hown hK hP 1 rfl rfl 5 (by decide) (va_Nw.use rfl (hN _ nd_56)) (fun _ h9 => h9) rfl d_S_clear_6 ?_
  refine lv_ishl hx hb d_S_clear_9 ?_
  refine lv_iconst (v := 1) hx hb d_S_clear_10 (by decide) ?_
  refine lv_isub hx hb d_S_clear_11 ?_
  refine bz_ri (y := bz_m (bz_op t (x, fun _ => true))) ((bz_all _ (by have := ht.1; omega)).trans (bz_clr_op t x)) ?_
  refine va_put (D := (dC, dI)) (ci := 1) (v := .int (bz_m (bz_op t (x, fun _ => true)))) (ty := .int) (C := R_S) (T := F_S) (N := 6) hx hb htb in_S tf_S tok_S n_S hown hK hP hD hS 7 rfl rfl 4 (by decide) (htb _ wd_86) (fun _ h9 => h9) rfl (by decide +kernel) rfl rfl (Nat.le_of_ble_eq_true rfl) d_S_clear_12 (fun H locs hP hD hS => ?_)
  have hP : va_P (dC, dI) vwCl (bz_wB ad cI cL (bz_tR t) ((fun a => nI (x a)), A1, A2, bz_m (bz_op t (x, fun _ => true)), c1) L v) H := hP
  have hD : va_D A (bz_wB ad cI cL (bz_tR t) ((fun a => nI (x a)), A1, A2, bz_m (bz_op t (x, fun _ => true)), c1) L v) := hD
  refine lv_aload_n hx hb d_S_clear_15 rfl (lv_at hl 0 rfl) ?_
  refine lv_iconst (v := 0) hx hb d_S_clear_16 (by decide) ?_
  refine bz_ri (y := nI (bz_ch t (x, fun _ => true))) (by rw [bz_clr_ch]; rfl) ?_
  refine va_put (D := (dC, dI)) (ci := 1) (v := .int (nI (bz_ch t (x, fun _ => true)))) (ty := .int) (C := R_S) (T := F_S) (N := 6) hx hb htb in_S tf_S tok_S n_S hown hK hP hD hS 7 rfl rfl 5 (by decide) (htb _ wd_87) (fun _ h9 => h9) rfl (by decide +kernel) rfl rfl (Nat.le_of_ble_eq_true rfl) d_S_clear_17 (fun H locs hP hD hS => ?_)
  have hP : va_P (dC, dI) vwCl (bz_wB ad cI cL (bz_tR t) ((fun a => nI (x a)), A1, A2, bz_m (bz_op t (x, fun _ => true)), nI (bz_ch t (x, fun _ => true))) L v) H := hP
  have hD : va_D A (bz_wB ad cI cL (bz_tR t) ((fun a => nI (x a)), A1, A2, bz_m (bz_op t (x, fun _ => true)), nI (bz_ch t (x, fun _ => true))) L v) := hD
  refine lv_iconst (v := nI 0) hx hb d_S_clear_20 (by decide) ?_
  refine lv_istore_n (lv' := [(1, .int (nI 0)), (0, .ref (ad 7))]) hx hb d_S_clear_21 rfl hl (by decide) rfl (fun ls hl => ?_)
  have e9 : (fun j => if j < 0 then 0 else A1 j) = A1 := funext fun j => by rw [if_neg (by omega)]
  have hP : va_P (dC, dI) vwCl (bz_wB ad cI cL (bz_tR t) ((fun a => nI (x a)), (fun j => if j < 0 then 0 else A1 j), A2, bz_m (bz_op t (x, fun _ => true)), nI (bz_ch t (x, fun _ => true))) L v) H := by rw [e9]; exact hP
  have hD : va_D A (bz_wB ad cI cL (bz_tR t) ((fun a => nI (x a)), (fun j => if j < 0 then 0 else A1 j), A2, bz_m (bz_op t (x, fun _ => true)), nI (bz_ch t (x, fun _ => true))) L v) := by rw [e9]; exact hD
  have e9 : (fun j => if j < 0 then 0 else A2 j) = A2 := funext fun j => by rw [if_neg (by omega)]
  have hP : va_P (dC, dI) vwCl (bz_wB ad cI cL (bz_tR t) ((fun a => nI (x a)), (fun j => if j < 0 then 0 else A1 j), (fun j => if j < 0 then 0 else A2 j), bz_m (bz_op t (x, fun _ => true)), nI (bz_ch t (x, fun _ => true))) L v) H := by rw [e9]; exact hP
  have hD : va_D A (bz_wB ad cI cL (bz_tR t) ((fun a => nI (x a)), (fun j => if j < 0 then 0 else A1 j), (fun j => if j < 0 then 0 else A2 j), bz_m (bz_op t (x, fun _ => true)), nI (bz_ch t (x, fun _ => true))) L v) := by rw [e9]; exact hD
  have lp : ∀ (k9 : Nat) (i : Nat), 4 - i < k9 → (i ≤ 4) → ∀ (H : Heap) (locs : List Loc), va_P (dC, dI) vwCl (bz_wB ad cI cL (bz_tR t) ((fun a => nI (x a)), (fun j => if j < i then 0 else A1 j), (fun j => if j < i then 0 else A2 j), bz_m (bz_op t (x, fun _ => true)), nI (bz_ch t (x, fun _ => true))) L v) H → va_D A (bz_wB ad cI cL (bz_tR t) ((fun a => nI (x a)), (fun j => if j < i then 0 else A1 j), (fun j => if j < i then 0 else A2 j), bz_m (bz_op t (x, fun _ => true)), nI (bz_ch t (x, fun _ => true))) L v) → va_S A s.heap H locs → ∀ (ls : Array Slot), lv_has ls 2 [(0, .ref (ad 7)), (1, .int (nI i))] → W p l e (headSpec w_S_clear ({ frames := 0, cells := 0, slots := 0, locals := 0 })).room s m ([.ref (ad 7)]).toArray below meth c H locs 0 0 (MQ below (bz_Qv (dC, dI) [(cI, .int), (cL, .long)] A (bz_wB ad cI cL (bz_tR t) (bz_sR t (x, fun _ => true)) L v)) ([.ref (ad 7)]).toArray s 0 0 (A)) (F0 m 22 ls []) := by
    intro k9
    induction k9 with
    | zero =>
      intro i h9
      exact absurd h9 (Nat.not_lt_zero _)
    | succ k9 ihlp =>
      intro i h9_lp hi H locs hP hD hS ls hl
      refine lv_iload_n hx hb d_S_clear_22 rfl (lv_at hl 1 rfl) ?_
      refine lv_iconst (v := 4) hx hb d_S_clear_23 (by decide) ?_
      refine lv_icmp_ge (tgt := 47) hx hb d_S_clear_24 (by decide) (fun c_24 => ?_) (fun c_24 => ?_)
      · skip
        have hi4 : i = 4 := by have := (nI_leI (a := 4) (by omega) (by omega)).mp c_24; omega
        have hP := bz_P_set (q0 := 9) hP rfl (bz_arrI (g := fun r => bz_m (bz_in t (x, fun _ => true) r)) (fun j hj => by dsimp only; rw [if_pos (by omega), bz_zero]; exact bz_ext fun i _ => (bz_clr_in t x j i).symm))
        have hD := hD.set (p := 9) (e := .inl (cI, 4, .inl (fun r => bz_m (bz_in t (x, fun _ => true) r)))) rfl
        have hP := bz_P_set (q0 := 10) hP rfl (bz_arrL (g := fun r => lN (bz_ld t (x, fun _ => true) r)) (fun j hj => by dsimp only; rw [if_pos (by omega), bz_clr_ld]; rfl))
        have hD := hD.set (p := 10) (e := .inl (cL, 4, .inr (.inl (fun r => lN (bz_ld t (x, fun _ => true) r))))) rfl
        exact W.vret hx hb hr (fun t9 ht9 hW => ⟨⟨(), rfl, trivial, by rw [ht9]; exact hP, va_K.moved hW.alike hK, hD⟩, hS.F ht9⟩) hS.2.2 d_S_clear_47
      · skip
        have hi4 : i < 4 := Nat.lt_of_not_le fun z => c_24 ((nI_leI (a := 4) (b := i) (by omega) (by omega)).mpr z)
        refine lv_aload_n hx hb d_S_clear_27 rfl (lv_at hl 0 rfl) ?_
        refine va_get (D := (dC, dI)) (ci := 1) (v := .ref (ad 9)) (C := R_S) (T := F_S) (N := 6) hx hb htb in_S hown hK hP 7 rfl rfl 2 (by decide) (htb _ wd_84) (fun _ h9 => h9) rfl d_S_clear_28 ?_
        refine lv_iload_n hx hb d_S_clear_31 rfl (lv_at hl 1 rfl) ?_
        refine lv_iconst (v := 0) hx hb d_S_clear_32 (by decide) ?_
        refine bz_iast hx hb hK hP hD hS 9 0 rfl rfl (a9 := i) (by omega) (by decide) d_S_clear_33 (fun H locs hP hD hS => ?_)
        have hP : va_P (dC, dI) vwCl (bz_wB ad cI cL (bz_tR t) ((fun a => nI (x a)), (upd (fun j => if j < i then 0 else A1 j) i 0), (fun j => if j < i then 0 else A2 j), bz_m (bz_op t (x, fun _ => true)), nI (bz_ch t (x, fun _ => true))) L v) H := hP
        have hD : va_D A (bz_wB ad cI cL (bz_tR t) ((fun a => nI (x a)), (upd (fun j => if j < i then 0 else A1 j) i 0), (fun j => if j < i then 0 else A2 j), bz_m (bz_op t (x, fun _ => true)), nI (bz_ch t (x, fun _ => true))) L v) := hD
        have e9 : (fun j => if j < i + 1 then 0 else A1 j) = (upd (fun j => if j < i then 0 else A1 j) i 0) := funext fun j => by unfold upd; dsimp only; by_cases e : j = i; { rw [if_pos e, if_pos (by omega)] }; { rw [if_neg e]; by_cases h : j < i; { rw [if_pos h, if_pos (by omega)] }; { rw [if_neg h, if_neg (by omega)] } }
        have hP : va_P (dC, dI) vwCl (bz_wB ad cI cL (bz_tR t) ((fun a => nI (x a)), (fun j => if j < i + 1 then 0 else A1 j), (fun j => if j < i then 0 else A2 j), bz_m (bz_op t (x, fun _ => true)), nI (bz_ch t (x, fun _ => true))) L v) H := by rw [e9]; exact hP
        have hD : va_D A (bz_wB ad cI cL (bz_tR t) ((fun a => nI (x a)), (fun j => if j < i + 1 then 0 else A1 j), (fun j => if j < i then 0 else A2 j), bz_m (bz_op t (x, fun _ => true)), nI (bz_ch t (x, fun _ => true))) L v) := by rw [e9]; exact hD
        refine lv_aload_n hx hb d_S_clear_34 rfl (lv_at hl 0 rfl) ?_
        refine va_get (D := (dC, dI)) (ci := 1) (v := .ref (ad 10)) (C := R_S) (T := F_S) (N := 6) hx hb htb in_S hown hK hP 7 rfl rfl 3 (by decide) (htb _ wd_85) (fun _ h9 => h9) rfl d_S_clear_35 ?_
        refine lv_iload_n hx hb d_S_clear_38 rfl (lv_at hl 1 rfl) ?_
        refine lv_lconst (v := 0) hx hb d_S_clear_39 (by decide) ?_
        refine bz_last hx hb hK hP hD hS 10 1 rfl rfl (a9 := i) (by omega) (by decide) d_S_clear_40 (fun H locs hP hD hS => ?_)
        have hP : va_P (dC, dI) vwCl (bz_wB ad cI cL (bz_tR t) ((fun a => nI (x a)), (fun j => if j < i + 1 then 0 else A1 j), (vp_updL (fun j => if j < i then 0 else A2 j) i 0), bz_m (bz_op t (x, fun _ => true)), nI (bz_ch t (x, fun _ => true))) L v) H := hP
        have hD : va_D A (bz_wB ad cI cL (bz_tR t) ((fun a => nI (x a)), (fun j => if j < i + 1 then 0 else A1 j), (vp_updL (fun j => if j < i then 0 else A2 j) i 0), bz_m (bz_op t (x, fun _ => true)), nI (bz_ch t (x, fun _ => true))) L v) := hD
        have e9 : (fun j => if j < i + 1 then 0 else A2 j) = (vp_updL (fun j => if j < i then 0 else A2 j) i 0) := funext fun j => by unfold vp_updL; dsimp only; by_cases e : j = i; { rw [if_pos e, if_pos (by omega)] }; { rw [if_neg e]; by_cases h : j < i; { rw [if_pos h, if_pos (by omega)] }; { rw [if_neg h, if_neg (by omega)] } }
        have hP : va_P (dC, dI) vwCl (bz_wB ad cI cL (bz_tR t) ((fun a => nI (x a)), (fun j => if j < i + 1 then 0 else A1 j), (fun j => if j < i + 1 then 0 else A2 j), bz_m (bz_op t (x, fun _ => true)), nI (bz_ch t (x, fun _ => true))) L v) H := by rw [e9]; exact hP
        have hD : va_D A (bz_wB ad cI cL (bz_tR t) ((fun a => nI (x a)), (fun j => if j < i + 1 then 0 else A1 j), (fun j => if j < i + 1 then 0 else A2 j), bz_m (bz_op t (x, fun _ => true)), nI (bz_ch t (x, fun _ => true))) L v) := by rw [e9]; exact hD
        refine lv_iinc (v := nI (i + 1)) (lv' := [(1, .int (nI (i + 1))), (0, .ref (ad 7))]) hx hb d_S_clear_41 hl (k := 1) rfl (nI_1 _) (by decide) rfl (fun ls hl => ?_)
        refine lv_goto (tgt := 22) hx hb d_S_clear_44 (by decide) ?_
        exact ihlp (i + 1) (by omega) (by omega) _ _ hP hD hS ls (lv_sub hl [1, 0] rfl)
  exact lp _ 0 (Nat.lt_succ_self _) (by omega) _ _ hP hD hS ls (lv_sub hl [1, 0] rfl)

set_option maxHeartbeats 4000000 in
set_option maxRecDepth 100000 in
/-- Share.put -/
theorem c_S_put (l : Launch) (dC : Nat → ClassId) (dI : Nat → Nat → Nat) (sz : Nat) (ad : Nat → Nat) (cI cL : ClassId) (t : bz_T) (s2 : bz_S) (L : (Nat → Int32) × Int64) (v : Int32) (ht : bz_ok t) (a r : Nat) (ha : a < bz_n t) (hr4 : r < 4) (ho : s2.2 a = true) : Met l y_S_put w_S_put ({ frames := 2, cells := 0, slots := 0, locals := 44 }) (bz_Pw (dC, dI) [(cI, .int), (cL, .long)] (bz_wB ad cI cL (bz_tR t) (bz_sR t s2) L v) sz [.ref (ad 7), .int (nI a), .int (nI r)]) (bz_Qv (dC, dI) [(cI, .int), (cL, .long)] (va_A (bz_wB ad cI cL (bz_tR t) (bz_sR t s2) L v) sz) (bz_wB ad cI cL (bz_tR t) (bz_sR t (bz_pu s2 a r)) L v)) 0 0 (va_A (bz_wB ad cI cL (bz_tR t) (bz_sR t s2) L v) sz) := by
  refine Met.ofW (cc := b_S_put) (maxL := 3) (ret := none) (by decide) rfl ?_
  intro p e s m args below meth c s₁ B hml hv
  obtain ⟨rfl, hsz, hP, hK, hD0, hN⟩ := hv
  have hx := B.exec
  have hb := B.bytes
  have hr := B.returns
  have hts := atoms_spec (ws := w_S_put) B.pre
  have hown : s.vm.findClass R_S = some m.cls := findClass_of_methodNamed B.named
  have htb : ∀ w ∈ bz_tb, w.before _ s = true := fun w h => hts w (List.mem_cons_of_mem _ h)
  have hlocks := B.notSynchronized
  subst hsz
  have hD := hD0.self (sz := s.heap.size)
  generalize hAe : va_A (bz_wB ad cI cL (bz_tR t) (bz_sR t s2) L v) s.heap.size = A at hD ⊢
  have hA : ∀ q : Nat, s.heap.size ≤ q → A q := fun q h => by rw [← hAe]; exact Or.inr h
  have hS : va_S A s.heap s.heap [] := va_S.rf
  have hl := lv_entry ([.ref (ad 7), .int (nI a), .int (nI r)]) (n := 3) (Nat.le_of_ble_eq_true rfl)
  rw [lg_entry_eq]
  generalize (lg_sl ([.ref (ad 7), .int (nI a), .int (nI r)]) ++ List.replicate (3 - (lg_sl ([.ref (ad 7), .int (nI a), .int (nI r)])).length) Slot.unset).toArray = ls at hl ⊢
  have hl : lv_has ls 3 [(0, .ref (ad 7)), (1, .int (nI a)), (2, .int (nI r))] := hl
  have hn30 := ht.1
  have hda := ht.2.2.1 a
  refine lv_aload_n hx hb d_S_put_0 rfl (lv_at hl 0 rfl) ?_
  refine va_get (D := (dC, dI)) (ci := 1) (v := .ref (ad 8)) (C := R_S) (T := F_S) (N := 6) hx hb htb in_S hown hK hP 7 rfl rfl 1 (by decide) (htb _ wd_81) (fun _ h9 => h9) rfl d_S_put_1 ?_
  refine lv_iload_n hx hb d_S_put_4 rfl (lv_at hl 1 rfl) ?_
  refine lv_iload_n hx hb d_S_put_5 rfl (lv_at hl 2 rfl) ?_
  refine bz_iast hx hb hK hP hD hS 8 0 rfl rfl (a9 := a) (by omega) (by decide) d_S_put_6 (fun H locs hP hD hS => ?_)
  have hP : va_P (dC, dI) vwCl (bz_wB ad cI cL (bz_tR t) ((upd ((bz_sR t s2).1) a (nI r)), (bz_sR t s2).2.1, (bz_sR t s2).2.2.1, bz_m (bz_op t s2), nI (bz_ch t s2)) L v) H := hP
  have hD : va_D A (bz_wB ad cI cL (bz_tR t) ((upd ((bz_sR t s2).1) a (nI r)), (bz_sR t s2).2.1, (bz_sR t s2).2.2.1, bz_m (bz_op t s2), nI (bz_ch t s2)) L v) := hD
  refine lv_aload_n hx hb d_S_put_7 rfl (lv_at hl 0 rfl) ?_
  refine lv_dup hx hb d_S_put_8 rfl ?_
  refine va_get (D := (dC, dI)) (ci := 1) (v := .int (bz_m (bz_op t s2))) (C := R_S) (T := F_S) (N := 6) hx hb htb in_S hown hK hP 7 rfl rfl 4 (by decide) (htb _ wd_86) (fun _ h9 => h9) rfl d_S_put_9 ?_
  refine lv_iconst (v := 1) hx hb d_S_put_12 (by decide) ?_
  refine lv_iload_n hx hb d_S_put_13 rfl (lv_at hl 1 rfl) ?_
  refine lv_ishl hx hb d_S_put_14 ?_
  refine bz_ri (y := bz_m (fun i => decide (i = a))) (bz_one (by have := ht.1; omega)) ?_
  refine lv_iconst (v := (-1)) hx hb d_S_put_15 (by decide) ?_
  refine lv_ixor hx hb d_S_put_16 ?_
  refine bz_ri (y := bz_m (fun i => !decide (i = a))) (bz_not _) ?_
  refine lv_iand hx hb d_S_put_17 ?_
  refine bz_ri (y := bz_m (fun i => bz_op t s2 i && !decide (i = a))) (bz_and _ _) ?_
  refine va_put (D := (dC, dI)) (ci := 1) (v := .int (bz_m (fun i => bz_op t s2 i && !decide (i = a)))) (ty := .int) (C := R_S) (T := F_S) (N := 6) hx hb htb in_S tf_S tok_S n_S hown hK hP hD hS 7 rfl rfl 4 (by decide) (htb _ wd_86) (fun _ h9 => h9) rfl (by decide +kernel) rfl rfl (Nat.le_of_ble_eq_true rfl) d_S_put_18 (fun H locs hP hD hS => ?_)
  have hP : va_P (dC, dI) vwCl (bz_wB ad cI cL (bz_tR t) ((upd ((bz_sR t s2).1) a (nI r)), (bz_sR t s2).2.1, (bz_sR t s2).2.2.1, bz_m (fun i => bz_op t s2 i && !decide (i = a)), nI (bz_ch t s2)) L v) H := hP
  have hD : va_D A (bz_wB ad cI cL (bz_tR t) ((upd ((bz_sR t s2).1) a (nI r)), (bz_sR t s2).2.1, (bz_sR t s2).2.2.1, bz_m (fun i => bz_op t s2 i && !decide (i = a)), nI (bz_ch t s2)) L v) := hD
  refine lv_aload_n hx hb d_S_put_21 rfl (lv_at hl 0 rfl) ?_
  refine va_get (D := (dC, dI)) (ci := 1) (v := .ref (ad 9)) (C := R_S) (T := F_S) (N := 6) hx hb htb in_S hown hK hP 7 rfl rfl 2 (by decide) (htb _ wd_84) (fun _ h9 => h9) rfl d_S_put_22 ?_
  refine lv_iload_n hx hb d_S_put_25 rfl (lv_at hl 2 rfl) ?_
  refine lv_dup2_11 hx hb d_S_put_26 rfl rfl ?_
  refine bz_iald (v := bz_m (bz_in t s2 r)) hx hb hK hP 9 0 rfl rfl (a9 := r) (by omega) (by decide) (rfl) d_S_put_27 ?_
  refine lv_iconst (v := 1) hx hb d_S_put_28 (by decide) ?_
  refine lv_iload_n hx hb d_S_put_29 rfl (lv_at hl 1 rfl) ?_
  refine lv_ishl hx hb d_S_put_30 ?_
  refine bz_ri (y := bz_m (fun i => decide (i = a))) (bz_one (by have := ht.1; omega)) ?_
  refine lv_ior hx hb d_S_put_31 ?_
  refine bz_ri (y := bz_m (fun i => bz_in t s2 r i || decide (i = a))) (bz_or _ _) ?_
  refine bz_iast hx hb hK hP hD hS 9 0 rfl rfl (a9 := r) (by omega) (by decide) d_S_put_32 (fun H locs hP hD hS => ?_)
  have hP : va_P (dC, dI) vwCl (bz_wB ad cI cL (bz_tR t) ((upd ((bz_sR t s2).1) a (nI r)), (upd ((bz_sR t s2).2.1) r (bz_m (fun i => bz_in t s2 r i || decide (i = a)))), (bz_sR t s2).2.2.1, bz_m (fun i => bz_op t s2 i && !decide (i = a)), nI (bz_ch t s2)) L v) H := hP
  have hD : va_D A (bz_wB ad cI cL (bz_tR t) ((upd ((bz_sR t s2).1) a (nI r)), (upd ((bz_sR t s2).2.1) r (bz_m (fun i => bz_in t s2 r i || decide (i = a)))), (bz_sR t s2).2.2.1, bz_m (fun i => bz_op t s2 i && !decide (i = a)), nI (bz_ch t s2)) L v) := hD
  refine lv_aload_n hx hb d_S_put_33 rfl (lv_at hl 0 rfl) ?_
  refine va_get (D := (dC, dI)) (ci := 1) (v := .ref (ad 10)) (C := R_S) (T := F_S) (N := 6) hx hb htb in_S hown hK hP 7 rfl rfl 3 (by decide) (htb _ wd_85) (fun _ h9 => h9) rfl d_S_put_34 ?_
  refine lv_iload_n hx hb d_S_put_37 rfl (lv_at hl 2 rfl) ?_
  refine lv_dup2_11 hx hb d_S_put_38 rfl rfl ?_
  refine bz_lald (v := lN (bz_ld t s2 r)) hx hb hK hP 10 1 rfl rfl (a9 := r) (by omega) (by decide) (rfl) d_S_put_39 ?_
  refine lv_aload_n hx hb d_S_put_40 rfl (lv_at hl 0 rfl) ?_
  refine va_get (D := (dC, dI)) (ci := 1) (v := .ref (ad 1)) (C := R_S) (T := F_S) (N := 6) hx hb htb in_S hown hK hP 7 rfl rfl 0 (by decide) (htb _ wd_79) (fun _ h9 => h9) rfl d_S_put_41 ?_
  refine lv_iload_n hx hb d_S_put_44 rfl (lv_at hl 1 rfl) ?_
  refine lv_iload_n hx hb d_S_put_45 rfl (lv_at hl 2 rfl) ?_
  refine bz_sl (va_runV (As := [.int (nI a), .int (nI r)]) (rest := [.long (lN (bz_ld t s2 r)), .int (nI r), .ref (ad 10)]) ⟨hx, hb, hml, hown, htb⟩ (c_T_loadIn l dC dI ad cI cL t ((upd ((bz_sR t s2).1) a (nI r)), (upd ((bz_sR t s2).2.1) r (bz_m (fun i => bz_in t s2 r i || decide (i = a)))), (bz_sR t s2).2.2.1, bz_m (fun i => bz_op t s2 i && !decide (i = a)), nI (bz_ch t s2)) L v ht _ _ (by omega) (by omega)) (cwV 2 htb (bz_gV wd_204 wd_201 wd_202 wd_203 wd_20) rfl rfl rfl (by decide +kernel) ⟨Nat.le_of_ble_eq_true rfl, Nat.le_of_ble_eq_true rfl⟩) (bz_rv hN hK hP (q0 := 1) rfl rfl) rfl rfl hl.1 rfl (lv_room (Nat.le_of_ble_eq_true rfl)) d_S_put_46 ⟨Nat.zero_le _, Nat.zero_le _⟩) ?_
  refine lv_ladd hx hb d_S_put_49 ?_
  refine bz_rl (y := lN (bz_ld t s2 r + bz_w t a r)) (lN_add _ _) ?_
  refine bz_last hx hb hK hP hD hS 10 1 rfl rfl (a9 := r) (by omega) (by decide) d_S_put_50 (fun H locs hP hD hS => ?_)
  have hP : va_P (dC, dI) vwCl (bz_wB ad cI cL (bz_tR t) ((upd ((bz_sR t s2).1) a (nI r)), (upd ((bz_sR t s2).2.1) r (bz_m (fun i => bz_in t s2 r i || decide (i = a)))), (vp_updL ((bz_sR t s2).2.2.1) r (lN (bz_ld t s2 r + bz_w t a r))), bz_m (fun i => bz_op t s2 i && !decide (i = a)), nI (bz_ch t s2)) L v) H := hP
  have hD : va_D A (bz_wB ad cI cL (bz_tR t) ((upd ((bz_sR t s2).1) a (nI r)), (upd ((bz_sR t s2).2.1) r (bz_m (fun i => bz_in t s2 r i || decide (i = a)))), (vp_updL ((bz_sR t s2).2.2.1) r (lN (bz_ld t s2 r + bz_w t a r))), bz_m (fun i => bz_op t s2 i && !decide (i = a)), nI (bz_ch t s2)) L v) := hD
  refine lv_iload_n hx hb d_S_put_51 rfl (lv_at hl 2 rfl) ?_
  refine lv_aload_n hx hb d_S_put_52 rfl (lv_at hl 0 rfl) ?_
  refine va_get (D := (dC, dI)) (ci := 1) (v := .ref (ad 1)) (C := R_S) (T := F_S) (N := 6) hx hb htb in_S hown hK hP 7 rfl rfl 0 (by decide) (htb _ wd_79) (fun _ h9 => h9) rfl d_S_put_53 ?_
  refine va_getN (D := (dC, dI)) (ci := 2) (v := .ref (ad 3)) (C := R_T) (T := F_T) (N := 6) hx hb htb in_T hown hK hP 1 rfl rfl 1 (by decide) (va_Nw.use rfl (hN _ nd_48)) (fun _ h9 => h9) rfl d_S_put_56 ?_
  refine lv_iload_n hx hb d_S_put_59 rfl (lv_at hl 1 rfl) ?_
  refine bz_iald (v := nI (bz_d t a)) hx hb hK hP 3 0 rfl rfl (a9 := a) (by omega) (by decide) (rfl) d_S_put_60 ?_
  refine lv_icmp_eq (tgt := 74) hx hb d_S_put_61 (by decide) (fun c_61 => ?_) (fun c_61 => ?_)
  · skip
    have c_61 := (nI_eq (by omega) (by omega)).mp c_61
    have e9 : bz_sR t (bz_pu s2 a r) = ((upd ((bz_sR t s2).1) a (nI r)), (upd ((bz_sR t s2).2.1) r (bz_m (fun i => bz_in t s2 r i || decide (i = a)))), (vp_updL ((bz_sR t s2).2.2.1) r (lN (bz_ld t s2 r + bz_w t a r))), bz_m (fun i => bz_op t s2 i && !decide (i = a)), nI (bz_ch t s2)) := bz_put_R ha ho (by rw [bz_ch_pu ha ho, if_pos c_61])
    have hP : va_P (dC, dI) vwCl (bz_wB ad cI cL (bz_tR t) (bz_sR t (bz_pu s2 a r)) L v) H := by rw [e9]; exact hP
    have hD : va_D A (bz_wB ad cI cL (bz_tR t) (bz_sR t (bz_pu s2 a r)) L v) := by rw [e9]; exact hD
    exact W.vret hx hb hr (fun t9 ht9 hW => ⟨⟨(), rfl, trivial, by rw [ht9]; exact hP, va_K.moved hW.alike hK, hD⟩, hS.F ht9⟩) hS.2.2 d_S_put_74
  · skip
    have c_61 : ¬ r = bz_d t a := fun z => c_61 ((nI_eq (by omega) (by omega)).mpr z)
    refine lv_aload_n hx hb d_S_put_64 rfl (lv_at hl 0 rfl) ?_
    refine lv_dup hx hb d_S_put_65 rfl ?_
    refine va_get (D := (dC, dI)) (ci := 1) (v := .int (nI (bz_ch t s2))) (C := R_S) (T := F_S) (N := 6) hx hb htb in_S hown hK hP 7 rfl rfl 5 (by decide) (htb _ wd_87) (fun _ h9 => h9) rfl d_S_put_66 ?_
    refine lv_iconst (v := 1) hx hb d_S_put_69 (by decide) ?_
    refine lv_iadd hx hb d_S_put_70 ?_
    refine bz_ri (y := nI (bz_ch t s2 + 1)) (nI_1 _) ?_
    refine va_put (D := (dC, dI)) (ci := 1) (v := .int (nI (bz_ch t s2 + 1))) (ty := .int) (C := R_S) (T := F_S) (N := 6) hx hb htb in_S tf_S tok_S n_S hown hK hP hD hS 7 rfl rfl 5 (by decide) (htb _ wd_87) (fun _ h9 => h9) rfl (by decide +kernel) rfl rfl (Nat.le_of_ble_eq_true rfl) d_S_put_71 (fun H locs hP hD hS => ?_)
    have hP : va_P (dC, dI) vwCl (bz_wB ad cI cL (bz_tR t) ((upd ((bz_sR t s2).1) a (nI r)), (upd ((bz_sR t s2).2.1) r (bz_m (fun i => bz_in t s2 r i || decide (i = a)))), (vp_updL ((bz_sR t s2).2.2.1) r (lN (bz_ld t s2 r + bz_w t a r))), bz_m (fun i => bz_op t s2 i && !decide (i = a)), nI (bz_ch t s2 + 1)) L v) H := hP
    have hD : va_D A (bz_wB ad cI cL (bz_tR t) ((upd ((bz_sR t s2).1) a (nI r)), (upd ((bz_sR t s2).2.1) r (bz_m (fun i => bz_in t s2 r i || decide (i = a)))), (vp_updL ((bz_sR t s2).2.2.1) r (lN (bz_ld t s2 r + bz_w t a r))), bz_m (fun i => bz_op t s2 i && !decide (i = a)), nI (bz_ch t s2 + 1)) L v) := hD
    have e9 : bz_sR t (bz_pu s2 a r) = ((upd ((bz_sR t s2).1) a (nI r)), (upd ((bz_sR t s2).2.1) r (bz_m (fun i => bz_in t s2 r i || decide (i = a)))), (vp_updL ((bz_sR t s2).2.2.1) r (lN (bz_ld t s2 r + bz_w t a r))), bz_m (fun i => bz_op t s2 i && !decide (i = a)), nI (bz_ch t s2 + 1)) := bz_put_R ha ho (by rw [bz_ch_pu ha ho, if_neg c_61])
    have hP : va_P (dC, dI) vwCl (bz_wB ad cI cL (bz_tR t) (bz_sR t (bz_pu s2 a r)) L v) H := by rw [e9]; exact hP
    have hD : va_D A (bz_wB ad cI cL (bz_tR t) (bz_sR t (bz_pu s2 a r)) L v) := by rw [e9]; exact hD
    exact W.vret hx hb hr (fun t9 ht9 hW => ⟨⟨(), rfl, trivial, by rw [ht9]; exact hP, va_K.moved hW.alike hK, hD⟩, hS.F ht9⟩) hS.2.2 d_S_put_74

set_option maxHeartbeats 4000000 in
set_option maxRecDepth 100000 in
/-- Share.take -/
theorem c_S_take (l : Launch) (dC : Nat → ClassId) (dI : Nat → Nat → Nat) (sz : Nat) (ad : Nat → Nat) (cI cL : ClassId) (t : bz_T) (s2 : bz_S) (L : (Nat → Int32) × Int64) (v : Int32) (ht : bz_ok t) (a : Nat) (ha : a < bz_n t) (hr4 : s2.1 a < 4) (ho : s2.2 a = false) : Met l y_S_take w_S_take ({ frames := 2, cells := 0, slots := 0, locals := 44 }) (bz_Pw (dC, dI) [(cI, .int), (cL, .long)] (bz_wB ad cI cL (bz_tR t) (bz_sR t s2) L v) sz [.ref (ad 7), .int (nI a)]) (bz_Qv (dC, dI) [(cI, .int), (cL, .long)] (va_A (bz_wB ad cI cL (bz_tR t) (bz_sR t s2) L v) sz) (bz_wB ad cI cL (bz_tR t) (bz_sR t (bz_ta s2 a)) L v)) 0 0 (va_A (bz_wB ad cI cL (bz_tR t) (bz_sR t s2) L v) sz) := by
  refine Met.ofW (cc := b_S_take) (maxL := 3) (ret := none) (by decide) rfl ?_
  intro p e s m args below meth c s₁ B hml hv
  obtain ⟨rfl, hsz, hP, hK, hD0, hN⟩ := hv
  have hx := B.exec
  have hb := B.bytes
  have hr := B.returns
  have hts := atoms_spec (ws := w_S_take) B.pre
  have hown : s.vm.findClass R_S = some m.cls := findClass_of_methodNamed B.named
  have htb : ∀ w ∈ bz_tb, w.before _ s = true := fun w h => hts w (List.mem_cons_of_mem _ h)
  have hlocks := B.notSynchronized
  subst hsz
  have hD := hD0.self (sz := s.heap.size)
  generalize hAe : va_A (bz_wB ad cI cL (bz_tR t) (bz_sR t s2) L v) s.heap.size = A at hD ⊢
  have hA : ∀ q : Nat, s.heap.size ≤ q → A q := fun q h => by rw [← hAe]; exact Or.inr h
  have hS : va_S A s.heap s.heap [] := va_S.rf
  have hl := lv_entry ([.ref (ad 7), .int (nI a)]) (n := 3) (Nat.le_of_ble_eq_true rfl)
  rw [lg_entry_eq]
  generalize (lg_sl ([.ref (ad 7), .int (nI a)]) ++ List.replicate (3 - (lg_sl ([.ref (ad 7), .int (nI a)])).length) Slot.unset).toArray = ls at hl ⊢
  have hl : lv_has ls 3 [(0, .ref (ad 7)), (1, .int (nI a))] := hl
  have hn30 := ht.1
  have hda := ht.2.2.1 a
  refine lv_aload_n hx hb d_S_take_0 rfl (lv_at hl 0 rfl) ?_
  refine va_get (D := (dC, dI)) (ci := 1) (v := .ref (ad 8)) (C := R_S) (T := F_S) (N := 6) hx hb htb in_S hown hK hP 7 rfl rfl 1 (by decide) (htb _ wd_81) (fun _ h9 => h9) rfl d_S_take_1 ?_
  refine lv_iload_n hx hb d_S_take_4 rfl (lv_at hl 1 rfl) ?_
  refine bz_iald (v := nI (s2.1 a)) hx hb hK hP 8 0 rfl rfl (a9 := a) (by omega) (by decide) (rfl) d_S_take_5 ?_
  refine lv_istore_n (lv' := [(2, .int (nI (s2.1 a))), (0, .ref (ad 7)), (1, .int (nI a))]) hx hb d_S_take_6 rfl hl (by decide) rfl (fun ls hl => ?_)
  refine lv_aload_n hx hb d_S_take_7 rfl (lv_at hl 1 rfl) ?_
  refine lv_dup hx hb d_S_take_8 rfl ?_
  refine va_get (D := (dC, dI)) (ci := 1) (v := .int (bz_m (bz_op t s2))) (C := R_S) (T := F_S) (N := 6) hx hb htb in_S hown hK hP 7 rfl rfl 4 (by decide) (htb _ wd_86) (fun _ h9 => h9) rfl d_S_take_9 ?_
  refine lv_iconst (v := 1) hx hb d_S_take_12 (by decide) ?_
  refine lv_iload_n hx hb d_S_take_13 rfl (lv_at hl 2 rfl) ?_
  refine lv_ishl hx hb d_S_take_14 ?_
  refine bz_ri (y := bz_m (fun i => decide (i = a))) (bz_one (by have := ht.1; omega)) ?_
  refine lv_ior hx hb d_S_take_15 ?_
  refine bz_ri (y := bz_m (fun i => bz_op t s2 i || decide (i = a))) (bz_or _ _) ?_
  refine va_put (D := (dC, dI)) (ci := 1) (v := .int (bz_m (fun i => bz_op t s2 i || decide (i = a)))) (ty := .int) (C := R_S) (T := F_S) (N := 6) hx hb htb in_S tf_S tok_S n_S hown hK hP hD hS 7 rfl rfl 4 (by decide) (htb _ wd_86) (fun _ h9 => h9) rfl (by decide +kernel) rfl rfl (Nat.le_of_ble_eq_true rfl) d_S_take_16 (fun H locs hP hD hS => ?_)
  have hP : va_P (dC, dI) vwCl (bz_wB ad cI cL (bz_tR t) ((bz_sR t s2).1, (bz_sR t s2).2.1, (bz_sR t s2).2.2.1, bz_m (fun i => bz_op t s2 i || decide (i = a)), nI (bz_ch t s2)) L v) H := hP
  have hD : va_D A (bz_wB ad cI cL (bz_tR t) ((bz_sR t s2).1, (bz_sR t s2).2.1, (bz_sR t s2).2.2.1, bz_m (fun i => bz_op t s2 i || decide (i = a)), nI (bz_ch t s2)) L v) := hD
  refine lv_aload_n hx hb d_S_take_19 rfl (lv_at hl 1 rfl) ?_
  refine va_get (D := (dC, dI)) (ci := 1) (v := .ref (ad 9)) (C := R_S) (T := F_S) (N := 6) hx hb htb in_S hown hK hP 7 rfl rfl 2 (by decide) (htb _ wd_84) (fun _ h9 => h9) rfl d_S_take_20 ?_
  refine lv_iload_n hx hb d_S_take_23 rfl (lv_at hl 0 rfl) ?_
  refine lv_dup2_11 hx hb d_S_take_24 rfl rfl ?_
  refine bz_iald (v := bz_m (bz_in t s2 (s2.1 a))) hx hb hK hP 9 0 rfl rfl (a9 := (s2.1 a)) (by omega) (by decide) (rfl) d_S_take_25 ?_
  refine lv_iconst (v := 1) hx hb d_S_take_26 (by decide) ?_
  refine lv_iload_n hx hb d_S_take_27 rfl (lv_at hl 2 rfl) ?_
  refine lv_ishl hx hb d_S_take_28 ?_
  refine bz_ri (y := bz_m (fun i => decide (i = a))) (bz_one (by have := ht.1; omega)) ?_
  refine lv_iconst (v := (-1)) hx hb d_S_take_29 (by decide) ?_
  refine lv_ixor hx hb d_S_take_30 ?_
  refine bz_ri (y := bz_m (fun i => !decide (i = a))) (bz_not _) ?_
  refine lv_iand hx hb d_S_take_31 ?_
  refine bz_ri (y := bz_m (fun i => bz_in t s2 (s2.1 a) i && !decide (i = a))) (bz_and _ _) ?_
  refine bz_iast hx hb hK hP hD hS 9 0 rfl rfl (a9 := (s2.1 a)) (by omega) (by decide) d_S_take_32 (fun H locs hP hD hS => ?_)
  have hP : va_P (dC, dI) vwCl (bz_wB ad cI cL (bz_tR t) ((bz_sR t s2).1, (upd ((bz_sR t s2).2.1) (s2.1 a) (bz_m (fun i => bz_in t s2 (s2.1 a) i && !decide (i = a)))), (bz_sR t s2).2.2.1, bz_m (fun i => bz_op t s2 i || decide (i = a)), nI (bz_ch t s2)) L v) H := hP
  have hD : va_D A (bz_wB ad cI cL (bz_tR t) ((bz_sR t s2).1, (upd ((bz_sR t s2).2.1) (s2.1 a) (bz_m (fun i => bz_in t s2 (s2.1 a) i && !decide (i = a)))), (bz_sR t s2).2.2.1, bz_m (fun i => bz_op t s2 i || decide (i = a)), nI (bz_ch t s2)) L v) := hD
  refine lv_aload_n hx hb d_S_take_33 rfl (lv_at hl 1 rfl) ?_
  refine va_get (D := (dC, dI)) (ci := 1) (v := .ref (ad 10)) (C := R_S) (T := F_S) (N := 6) hx hb htb in_S hown hK hP 7 rfl rfl 3 (by decide) (htb _ wd_85) (fun _ h9 => h9) rfl d_S_take_34 ?_
  refine lv_iload_n hx hb d_S_take_37 rfl (lv_at hl 0 rfl) ?_
  refine lv_dup2_11 hx hb d_S_take_38 rfl rfl ?_
  refine bz_lald (v := lN (bz_ld t s2 (s2.1 a))) hx hb hK hP 10 1 rfl rfl (a9 := (s2.1 a)) (by omega) (by decide) (rfl) d_S_take_39 ?_
  refine lv_aload_n hx hb d_S_take_40 rfl (lv_at hl 1 rfl) ?_
  refine va_get (D := (dC, dI)) (ci := 1) (v := .ref (ad 1)) (C := R_S) (T := F_S) (N := 6) hx hb htb in_S hown hK hP 7 rfl rfl 0 (by decide) (htb _ wd_79) (fun _ h9 => h9) rfl d_S_take_41 ?_
  refine lv_iload_n hx hb d_S_take_44 rfl (lv_at hl 2 rfl) ?_
  refine lv_iload_n hx hb d_S_take_45 rfl (lv_at hl 0 rfl) ?_
  refine bz_sl (va_runV (As := [.int (nI a), .int (nI (s2.1 a))]) (rest := [.long (lN (bz_ld t s2 (s2.1 a))), .int (nI (s2.1 a)), .ref (ad 10)]) ⟨hx, hb, hml, hown, htb⟩ (c_T_loadIn l dC dI ad cI cL t ((bz_sR t s2).1, (upd ((bz_sR t s2).2.1) (s2.1 a) (bz_m (fun i => bz_in t s2 (s2.1 a) i && !decide (i = a)))), (bz_sR t s2).2.2.1, bz_m (fun i => bz_op t s2 i || decide (i = a)), nI (bz_ch t s2)) L v ht _ _ (by omega) (by omega)) (cwV 2 htb (bz_gV wd_204 wd_201 wd_202 wd_203 wd_20) rfl rfl rfl (by decide +kernel) ⟨Nat.le_of_ble_eq_true rfl, Nat.le_of_ble_eq_true rfl⟩) (bz_rv hN hK hP (q0 := 1) rfl rfl) rfl rfl hl.1 rfl (lv_room (Nat.le_of_ble_eq_true rfl)) d_S_take_46 ⟨Nat.zero_le _, Nat.zero_le _⟩) ?_
  refine lv_lsub hx hb d_S_take_49 ?_
  refine bz_rl (y := lN (bz_ld t s2 (s2.1 a) - bz_w t a (s2.1 a))) (lN_sub (by have := bz_ld_ta ha ho (s2.1 a); rw [if_pos rfl] at this; omega)) ?_
  refine bz_last hx hb hK hP hD hS 10 1 rfl rfl (a9 := (s2.1 a)) (by omega) (by decide) d_S_take_50 (fun H locs hP hD hS => ?_)
  have hP : va_P (dC, dI) vwCl (bz_wB ad cI cL (bz_tR t) ((bz_sR t s2).1, (upd ((bz_sR t s2).2.1) (s2.1 a) (bz_m (fun i => bz_in t s2 (s2.1 a) i && !decide (i = a)))), (vp_updL ((bz_sR t s2).2.2.1) (s2.1 a) (lN (bz_ld t s2 (s2.1 a) - bz_w t a (s2.1 a)))), bz_m (fun i => bz_op t s2 i || decide (i = a)), nI (bz_ch t s2)) L v) H := hP
  have hD : va_D A (bz_wB ad cI cL (bz_tR t) ((bz_sR t s2).1, (upd ((bz_sR t s2).2.1) (s2.1 a) (bz_m (fun i => bz_in t s2 (s2.1 a) i && !decide (i = a)))), (vp_updL ((bz_sR t s2).2.2.1) (s2.1 a) (lN (bz_ld t s2 (s2.1 a) - bz_w t a (s2.1 a)))), bz_m (fun i => bz_op t s2 i || decide (i = a)), nI (bz_ch t s2)) L v) := hD
  refine lv_iload_n hx hb d_S_take_51 rfl (lv_at hl 0 rfl) ?_
  refine lv_aload_n hx hb d_S_take_52 rfl (lv_at hl 1 rfl) ?_
  refine va_get (D := (dC, dI)) (ci := 1) (v := .ref (ad 1)) (C := R_S) (T := F_S) (N := 6) hx hb htb in_S hown hK hP 7 rfl rfl 0 (by decide) (htb _ wd_79) (fun _ h9 => h9) rfl d_S_take_53 ?_
  refine va_getN (D := (dC, dI)) (ci := 2) (v := .ref (ad 3)) (C := R_T) (T := F_T) (N := 6) hx hb htb in_T hown hK hP 1 rfl rfl 1 (by decide) (va_Nw.use rfl (hN _ nd_48)) (fun _ h9 => h9) rfl d_S_take_56 ?_
  refine lv_iload_n hx hb d_S_take_59 rfl (lv_at hl 2 rfl) ?_
  refine bz_iald (v := nI (bz_d t a)) hx hb hK hP 3 0 rfl rfl (a9 := a) (by omega) (by decide) (rfl) d_S_take_60 ?_
  refine lv_icmp_eq (tgt := 74) hx hb d_S_take_61 (by decide) (fun c_61 => ?_) (fun c_61 => ?_)
  · skip
    have c_61 := (nI_eq (by omega) (by omega)).mp c_61
    have e9 : bz_sR t (bz_ta s2 a) = ((bz_sR t s2).1, (upd ((bz_sR t s2).2.1) (s2.1 a) (bz_m (fun i => bz_in t s2 (s2.1 a) i && !decide (i = a)))), (vp_updL ((bz_sR t s2).2.2.1) (s2.1 a) (lN (bz_ld t s2 (s2.1 a) - bz_w t a (s2.1 a)))), bz_m (fun i => bz_op t s2 i || decide (i = a)), nI (bz_ch t s2)) := bz_take_R ha ho (by have := bz_ch_ta ha ho; rw [if_pos c_61] at this; omega)
    have hP : va_P (dC, dI) vwCl (bz_wB ad cI cL (bz_tR t) (bz_sR t (bz_ta s2 a)) L v) H := by rw [e9]; exact hP
    have hD : va_D A (bz_wB ad cI cL (bz_tR t) (bz_sR t (bz_ta s2 a)) L v) := by rw [e9]; exact hD
    exact W.vret hx hb hr (fun t9 ht9 hW => ⟨⟨(), rfl, trivial, by rw [ht9]; exact hP, va_K.moved hW.alike hK, hD⟩, hS.F ht9⟩) hS.2.2 d_S_take_74
  · skip
    have c_61 : ¬ s2.1 a = bz_d t a := fun z => c_61 ((nI_eq (by omega) (by omega)).mpr z)
    refine lv_aload_n hx hb d_S_take_64 rfl (lv_at hl 1 rfl) ?_
    refine lv_dup hx hb d_S_take_65 rfl ?_
    refine va_get (D := (dC, dI)) (ci := 1) (v := .int (nI (bz_ch t s2))) (C := R_S) (T := F_S) (N := 6) hx hb htb in_S hown hK hP 7 rfl rfl 5 (by decide) (htb _ wd_87) (fun _ h9 => h9) rfl d_S_take_66 ?_
    refine lv_iconst (v := 1) hx hb d_S_take_69 (by decide) ?_
    refine lv_isub hx hb d_S_take_70 ?_
    refine bz_ri (y := nI (bz_ch t s2 - 1)) (pk_sub (b := 1) (by have := bz_ch_ta ha ho; rw [if_neg c_61] at this; omega)) ?_
    refine va_put (D := (dC, dI)) (ci := 1) (v := .int (nI (bz_ch t s2 - 1))) (ty := .int) (C := R_S) (T := F_S) (N := 6) hx hb htb in_S tf_S tok_S n_S hown hK hP hD hS 7 rfl rfl 5 (by decide) (htb _ wd_87) (fun _ h9 => h9) rfl (by decide +kernel) rfl rfl (Nat.le_of_ble_eq_true rfl) d_S_take_71 (fun H locs hP hD hS => ?_)
    have hP : va_P (dC, dI) vwCl (bz_wB ad cI cL (bz_tR t) ((bz_sR t s2).1, (upd ((bz_sR t s2).2.1) (s2.1 a) (bz_m (fun i => bz_in t s2 (s2.1 a) i && !decide (i = a)))), (vp_updL ((bz_sR t s2).2.2.1) (s2.1 a) (lN (bz_ld t s2 (s2.1 a) - bz_w t a (s2.1 a)))), bz_m (fun i => bz_op t s2 i || decide (i = a)), nI (bz_ch t s2 - 1)) L v) H := hP
    have hD : va_D A (bz_wB ad cI cL (bz_tR t) ((bz_sR t s2).1, (upd ((bz_sR t s2).2.1) (s2.1 a) (bz_m (fun i => bz_in t s2 (s2.1 a) i && !decide (i = a)))), (vp_updL ((bz_sR t s2).2.2.1) (s2.1 a) (lN (bz_ld t s2 (s2.1 a) - bz_w t a (s2.1 a)))), bz_m (fun i => bz_op t s2 i || decide (i = a)), nI (bz_ch t s2 - 1)) L v) := hD
    have e9 : bz_sR t (bz_ta s2 a) = ((bz_sR t s2).1, (upd ((bz_sR t s2).2.1) (s2.1 a) (bz_m (fun i => bz_in t s2 (s2.1 a) i && !decide (i = a)))), (vp_updL ((bz_sR t s2).2.2.1) (s2.1 a) (lN (bz_ld t s2 (s2.1 a) - bz_w t a (s2.1 a)))), bz_m (fun i => bz_op t s2 i || decide (i = a)), nI (bz_ch t s2 - 1)) := bz_take_R ha ho (by have := bz_ch_ta ha ho; rw [if_neg c_61] at this; omega)
    have hP : va_P (dC, dI) vwCl (bz_wB ad cI cL (bz_tR t) (bz_sR t (bz_ta s2 a)) L v) H := by rw [e9]; exact hP
    have hD : va_D A (bz_wB ad cI cL (bz_tR t) (bz_sR t (bz_ta s2 a)) L v) := by rw [e9]; exact hD
    exact W.vret hx hb hr (fun t9 ht9 hW => ⟨⟨(), rfl, trivial, by rw [ht9]; exact hP, va_K.moved hW.alike hK, hD⟩, hS.F ht9⟩) hS.2.2 d_S_take_74
