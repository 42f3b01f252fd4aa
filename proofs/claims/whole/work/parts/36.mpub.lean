theorem d_M_bound_0 : decode b_M_bound 0 = .ok (.aload_n 0, 1) := by decide +kernel
theorem d_M_bound_1 : decode b_M_bound 1 = .ok (.iconst 0, 1) := by decide +kernel
theorem d_M_bound_2 : decode b_M_bound 2 = .ok (.putfield 40, 3) := by decide +kernel
theorem d_M_bound_5 : decode b_M_bound 5 = .ok (.aload_n 0, 1) := by decide +kernel
theorem d_M_bound_6 : decode b_M_bound 6 = .ok (.invokevirtual 114, 3) := by decide +kernel
theorem d_M_bound_9 : decode b_M_bound 9 = .ok (.istore_n 1, 1) := by decide +kernel
theorem d_M_bound_10 : decode b_M_bound 10 = .ok (.iload_n 1, 1) := by decide +kernel
theorem d_M_bound_11 : decode b_M_bound 11 = .ok (.ifCond .ne 7, 3) := by decide +kernel
theorem d_M_bound_14 : decode b_M_bound 14 = .ok (.ldc2_w 118, 3) := by decide +kernel
theorem d_M_bound_17 : decode b_M_bound 17 = .ok (.lreturn, 1) := by decide +kernel
theorem d_M_bound_18 : decode b_M_bound 18 = .ok (.lconst 0, 1) := by decide +kernel
theorem d_M_bound_19 : decode b_M_bound 19 = .ok (.lstore_n 2, 1) := by decide +kernel
theorem d_M_bound_20 : decode b_M_bound 20 = .ok (.lconst 0, 1) := by decide +kernel
theorem d_M_bound_21 : decode b_M_bound 21 = .ok (.lstore 4, 2) := by decide +kernel
theorem d_M_bound_23 : decode b_M_bound 23 = .ok (.iconst 0, 1) := by decide +kernel
theorem d_M_bound_24 : decode b_M_bound 24 = .ok (.istore 6, 2) := by decide +kernel
theorem d_M_bound_26 : decode b_M_bound 26 = .ok (.iload 6, 2) := by decide +kernel
theorem d_M_bound_28 : decode b_M_bound 28 = .ok (.aload_n 0, 1) := by decide +kernel
theorem d_M_bound_29 : decode b_M_bound 29 = .ok (.getfield 36, 3) := by decide +kernel
theorem d_M_bound_32 : decode b_M_bound 32 = .ok (.if_icmp .ge 39, 3) := by decide +kernel
theorem d_M_bound_35 : decode b_M_bound 35 = .ok (.aload_n 0, 1) := by decide +kernel
theorem d_M_bound_36 : decode b_M_bound 36 = .ok (.iload 6, 2) := by decide +kernel
theorem d_M_bound_38 : decode b_M_bound 38 = .ok (.invokevirtual 120, 3) := by decide +kernel
theorem d_M_bound_41 : decode b_M_bound 41 = .ok (.lstore 7, 2) := by decide +kernel
theorem d_M_bound_43 : decode b_M_bound 43 = .ok (.lload_n 2, 1) := by decide +kernel
theorem d_M_bound_44 : decode b_M_bound 44 = .ok (.lload 7, 2) := by decide +kernel
theorem d_M_bound_46 : decode b_M_bound 46 = .ok (.ladd, 1) := by decide +kernel
theorem d_M_bound_47 : decode b_M_bound 47 = .ok (.lstore_n 2, 1) := by decide +kernel
theorem d_M_bound_48 : decode b_M_bound 48 = .ok (.lload 7, 2) := by decide +kernel
theorem d_M_bound_50 : decode b_M_bound 50 = .ok (.lload 4, 2) := by decide +kernel
theorem d_M_bound_52 : decode b_M_bound 52 = .ok (.lcmp, 1) := by decide +kernel
theorem d_M_bound_53 : decode b_M_bound 53 = .ok (.ifCond .le 8, 3) := by decide +kernel
theorem d_M_bound_56 : decode b_M_bound 56 = .ok (.lload 7, 2) := by decide +kernel
theorem d_M_bound_58 : decode b_M_bound 58 = .ok (.goto 5, 3) := by decide +kernel
theorem d_M_bound_61 : decode b_M_bound 61 = .ok (.lload 4, 2) := by decide +kernel
theorem d_M_bound_63 : decode b_M_bound 63 = .ok (.lstore 4, 2) := by decide +kernel
theorem d_M_bound_65 : decode b_M_bound 65 = .ok (.iinc 6 1, 3) := by decide +kernel
theorem d_M_bound_68 : decode b_M_bound 68 = .ok (.goto (-42), 3) := by decide +kernel
theorem d_M_bound_71 : decode b_M_bound 71 = .ok (.lload_n 2, 1) := by decide +kernel
theorem d_M_bound_72 : decode b_M_bound 72 = .ok (.iload_n 1, 1) := by decide +kernel
theorem d_M_bound_73 : decode b_M_bound 73 = .ok (.i2l, 1) := by decide +kernel
theorem d_M_bound_74 : decode b_M_bound 74 = .ok (.ldiv, 1) := by decide +kernel
theorem d_M_bound_75 : decode b_M_bound 75 = .ok (.lload_n 2, 1) := by decide +kernel
theorem d_M_bound_76 : decode b_M_bound 76 = .ok (.iload_n 1, 1) := by decide +kernel
theorem d_M_bound_77 : decode b_M_bound 77 = .ok (.i2l, 1) := by decide +kernel
theorem d_M_bound_78 : decode b_M_bound 78 = .ok (.lrem, 1) := by decide +kernel
theorem d_M_bound_79 : decode b_M_bound 79 = .ok (.lconst 0, 1) := by decide +kernel
theorem d_M_bound_80 : decode b_M_bound 80 = .ok (.lcmp, 1) := by decide +kernel
theorem d_M_bound_81 : decode b_M_bound 81 = .ok (.ifCond .le 7, 3) := by decide +kernel
theorem d_M_bound_84 : decode b_M_bound 84 = .ok (.lconst 1, 1) := by decide +kernel
theorem d_M_bound_85 : decode b_M_bound 85 = .ok (.goto 4, 3) := by decide +kernel
theorem d_M_bound_88 : decode b_M_bound 88 = .ok (.lconst 0, 1) := by decide +kernel
theorem d_M_bound_89 : decode b_M_bound 89 = .ok (.ladd, 1) := by decide +kernel
theorem d_M_bound_90 : decode b_M_bound 90 = .ok (.lstore 6, 2) := by decide +kernel
theorem d_M_bound_92 : decode b_M_bound 92 = .ok (.lload 6, 2) := by decide +kernel
theorem d_M_bound_94 : decode b_M_bound 94 = .ok (.lload 4, 2) := by decide +kernel
theorem d_M_bound_96 : decode b_M_bound 96 = .ok (.lcmp, 1) := by decide +kernel
theorem d_M_bound_97 : decode b_M_bound 97 = .ok (.ifCond .le 8, 3) := by decide +kernel
theorem d_M_bound_100 : decode b_M_bound 100 = .ok (.lload 6, 2) := by decide +kernel
theorem d_M_bound_102 : decode b_M_bound 102 = .ok (.goto 5, 3) := by decide +kernel
theorem d_M_bound_105 : decode b_M_bound 105 = .ok (.lload 4, 2) := by decide +kernel
theorem d_M_bound_107 : decode b_M_bound 107 = .ok (.lreturn, 1) := by decide +kernel
theorem d_M_tooLarge_0 : decode b_M_tooLarge 0 = .ok (.aload_n 0, 1) := by decide +kernel
theorem d_M_tooLarge_1 : decode b_M_tooLarge 1 = .ok (.iconst 0, 1) := by decide +kernel
theorem d_M_tooLarge_2 : decode b_M_tooLarge 2 = .ok (.putfield 40, 3) := by decide +kernel
theorem d_M_tooLarge_5 : decode b_M_tooLarge 5 = .ok (.iconst 0, 1) := by decide +kernel
theorem d_M_tooLarge_6 : decode b_M_tooLarge 6 = .ok (.istore_n 2, 1) := by decide +kernel
theorem d_M_tooLarge_7 : decode b_M_tooLarge 7 = .ok (.iconst 0, 1) := by decide +kernel
theorem d_M_tooLarge_8 : decode b_M_tooLarge 8 = .ok (.istore_n 3, 1) := by decide +kernel
theorem d_M_tooLarge_9 : decode b_M_tooLarge 9 = .ok (.iload_n 3, 1) := by decide +kernel
theorem d_M_tooLarge_10 : decode b_M_tooLarge 10 = .ok (.aload_n 0, 1) := by decide +kernel
theorem d_M_tooLarge_11 : decode b_M_tooLarge 11 = .ok (.getfield 36, 3) := by decide +kernel
theorem d_M_tooLarge_14 : decode b_M_tooLarge 14 = .ok (.if_icmp .ge 103, 3) := by decide +kernel
theorem d_M_tooLarge_17 : decode b_M_tooLarge 17 = .ok (.aload_n 0, 1) := by decide +kernel
theorem d_M_tooLarge_18 : decode b_M_tooLarge 18 = .ok (.invokevirtual 114, 3) := by decide +kernel
theorem d_M_tooLarge_21 : decode b_M_tooLarge 21 = .ok (.ifCond .le 96, 3) := by decide +kernel
theorem d_M_tooLarge_24 : decode b_M_tooLarge 24 = .ok (.iconst 0, 1) := by decide +kernel
theorem d_M_tooLarge_25 : decode b_M_tooLarge 25 = .ok (.istore 4, 2) := by decide +kernel
theorem d_M_tooLarge_27 : decode b_M_tooLarge 27 = .ok (.iconst 0, 1) := by decide +kernel
theorem d_M_tooLarge_28 : decode b_M_tooLarge 28 = .ok (.istore 5, 2) := by decide +kernel
theorem d_M_tooLarge_30 : decode b_M_tooLarge 30 = .ok (.iload 5, 2) := by decide +kernel
theorem d_M_tooLarge_32 : decode b_M_tooLarge 32 = .ok (.iconst 4, 1) := by decide +kernel
theorem d_M_tooLarge_33 : decode b_M_tooLarge 33 = .ok (.if_icmp .ge 51, 3) := by decide +kernel
theorem d_M_tooLarge_36 : decode b_M_tooLarge 36 = .ok (.iload 4, 2) := by decide +kernel
theorem d_M_tooLarge_38 : decode b_M_tooLarge 38 = .ok (.ifCond .ne 33, 3) := by decide +kernel
theorem d_M_tooLarge_41 : decode b_M_tooLarge 41 = .ok (.aload_n 0, 1) := by decide +kernel
theorem d_M_tooLarge_42 : decode b_M_tooLarge 42 = .ok (.getfield 24, 3) := by decide +kernel
theorem d_M_tooLarge_45 : decode b_M_tooLarge 45 = .ok (.iload 5, 2) := by decide +kernel
theorem d_M_tooLarge_47 : decode b_M_tooLarge 47 = .ok (.laload, 1) := by decide +kernel
theorem d_M_tooLarge_48 : decode b_M_tooLarge 48 = .ok (.lconst 0, 1) := by decide +kernel
theorem d_M_tooLarge_49 : decode b_M_tooLarge 49 = .ok (.lcmp, 1) := by decide +kernel
theorem d_M_tooLarge_50 : decode b_M_tooLarge 50 = .ok (.ifCond .le 25, 3) := by decide +kernel
theorem d_M_tooLarge_53 : decode b_M_tooLarge 53 = .ok (.aload_n 0, 1) := by decide +kernel
theorem d_M_tooLarge_54 : decode b_M_tooLarge 54 = .ok (.iload_n 3, 1) := by decide +kernel
theorem d_M_tooLarge_55 : decode b_M_tooLarge 55 = .ok (.iload 5, 2) := by decide +kernel
theorem d_M_tooLarge_57 : decode b_M_tooLarge 57 = .ok (.invokevirtual 71, 3) := by decide +kernel
theorem d_M_tooLarge_60 : decode b_M_tooLarge 60 = .ok (.aload_n 0, 1) := by decide +kernel
theorem d_M_tooLarge_61 : decode b_M_tooLarge 61 = .ok (.getfield 24, 3) := by decide +kernel
theorem d_M_tooLarge_64 : decode b_M_tooLarge 64 = .ok (.iload 5, 2) := by decide +kernel
theorem d_M_tooLarge_66 : decode b_M_tooLarge 66 = .ok (.laload, 1) := by decide +kernel
theorem d_M_tooLarge_67 : decode b_M_tooLarge 67 = .ok (.lcmp, 1) := by decide +kernel
theorem d_M_tooLarge_68 : decode b_M_tooLarge 68 = .ok (.ifCond .gt 7, 3) := by decide +kernel
theorem d_M_tooLarge_71 : decode b_M_tooLarge 71 = .ok (.iconst 1, 1) := by decide +kernel
theorem d_M_tooLarge_72 : decode b_M_tooLarge 72 = .ok (.goto 4, 3) := by decide +kernel
theorem d_M_tooLarge_75 : decode b_M_tooLarge 75 = .ok (.iconst 0, 1) := by decide +kernel
theorem d_M_tooLarge_76 : decode b_M_tooLarge 76 = .ok (.istore 4, 2) := by decide +kernel
theorem d_M_tooLarge_78 : decode b_M_tooLarge 78 = .ok (.iinc 5 1, 3) := by decide +kernel
theorem d_M_tooLarge_81 : decode b_M_tooLarge 81 = .ok (.goto (-51), 3) := by decide +kernel
theorem d_M_tooLarge_84 : decode b_M_tooLarge 84 = .ok (.iload 4, 2) := by decide +kernel
theorem d_M_tooLarge_86 : decode b_M_tooLarge 86 = .ok (.ifCond .ne 12, 3) := by decide +kernel
theorem d_M_tooLarge_89 : decode b_M_tooLarge 89 = .ok (.iload_n 2, 1) := by decide +kernel
theorem d_M_tooLarge_90 : decode b_M_tooLarge 90 = .ok (.iload_n 1, 1) := by decide +kernel
theorem d_M_tooLarge_91 : decode b_M_tooLarge 91 = .ok (.if_icmp .ne 7, 3) := by decide +kernel
theorem d_M_tooLarge_94 : decode b_M_tooLarge 94 = .ok (.iload_n 3, 1) := by decide +kernel
theorem d_M_tooLarge_95 : decode b_M_tooLarge 95 = .ok (.iconst 1, 1) := by decide +kernel
theorem d_M_tooLarge_96 : decode b_M_tooLarge 96 = .ok (.iadd, 1) := by decide +kernel
theorem d_M_tooLarge_97 : decode b_M_tooLarge 97 = .ok (.ireturn, 1) := by decide +kernel
theorem d_M_tooLarge_98 : decode b_M_tooLarge 98 = .ok (.iload 4, 2) := by decide +kernel
theorem d_M_tooLarge_100 : decode b_M_tooLarge 100 = .ok (.ifCond .eq 7, 3) := by decide +kernel
theorem d_M_tooLarge_103 : decode b_M_tooLarge 103 = .ok (.iload_n 2, 1) := by decide +kernel
theorem d_M_tooLarge_104 : decode b_M_tooLarge 104 = .ok (.goto 6, 3) := by decide +kernel
theorem d_M_tooLarge_107 : decode b_M_tooLarge 107 = .ok (.iload_n 2, 1) := by decide +kernel
theorem d_M_tooLarge_108 : decode b_M_tooLarge 108 = .ok (.iconst 1, 1) := by decide +kernel
theorem d_M_tooLarge_109 : decode b_M_tooLarge 109 = .ok (.iadd, 1) := by decide +kernel
theorem d_M_tooLarge_110 : decode b_M_tooLarge 110 = .ok (.istore_n 2, 1) := by decide +kernel
theorem d_M_tooLarge_111 : decode b_M_tooLarge 111 = .ok (.iinc 3 1, 3) := by decide +kernel
theorem d_M_tooLarge_114 : decode b_M_tooLarge 114 = .ok (.goto (-105), 3) := by decide +kernel
theorem d_M_tooLarge_117 : decode b_M_tooLarge 117 = .ok (.iconst 0, 1) := by decide +kernel
theorem d_M_tooLarge_118 : decode b_M_tooLarge 118 = .ok (.ireturn, 1) := by decide +kernel

theorem bz_ceil {s n : Nat} (h0 : ¬ n = 0) (h4 : n ≤ 4) : s / n + (if 0 < s % n then 1 else 0) = (s + n - 1) / n := by
  rcases (show n = 1 ∨ n = 2 ∨ n = 3 ∨ n = 4 by omega) with e | e | e | e
  all_goals (subst e; split <;> omega)
theorem bz_tl_y {t : bz_T} {a k : Nat} (h : bz_tl t a k = true) (h2 : bz_h t k ≤ 0 ∨ bz_h t k < bz_w t a k) : bz_tl t a (k + 1) = true := by
  show (bz_tl t a k && !(bz_wh t k && decide (bz_w t a k ≤ bz_h t k))) = true
  rw [h]
  rcases h2 with h2 | h2
  · unfold bz_wh
    rw [decide_eq_false (by omega)]
    rfl
  · rw [decide_eq_false (show ¬ bz_w t a k ≤ bz_h t k by omega), Bool.and_false]
    rfl
theorem bz_tl_n {t : bz_T} {a k : Nat} (h1 : 0 < bz_h t k) (h2 : bz_w t a k ≤ bz_h t k) : bz_tl t a (k + 1) = false := by
  show (bz_tl t a k && !(bz_wh t k && decide (bz_w t a k ≤ bz_h t k))) = false
  unfold bz_wh
  rw [decide_eq_true h1, decide_eq_true h2]
  simp

set_option maxHeartbeats 4000000 in
set_option maxRecDepth 100000 in
/-- bound -/
theorem c_M_bound (l : Launch) (dC : Nat → ClassId) (dI : Nat → Nat → Nat) (sz : Nat) (am : Nat → Nat) (cI cL cZ : ClassId) (t : bz_T) (th sv ex : Int32) (S1 S2 S3 : Nat → Int32) (ht : bz_ok t) : Met l y_M_bound w_M_bound ({ frames := 2, cells := 0, slots := 0, locals := 48 }) (bz_Pw (dC, dI) [(cI, .int), (cL, .long), (cZ, .boolean)] (bz_wM am cI cL cZ (bz_tM t) (th, sv, ex) (S1, S2, S3)) sz [.ref (am 0)]) (bz_Ql (dC, dI) [(cI, .int), (cL, .long), (cZ, .boolean)] (va_A (bz_wM am cI cL cZ (bz_tM t) (th, sv, ex) (S1, S2, S3)) sz) (if bz_ct (bz_wh t) 4 = 0 then -1 else lN (bz_bd t)) (bz_wM am cI cL cZ (bz_tM t) (0, sv, ex) (S1, S2, S3))) 0 0 (va_A (bz_wM am cI cL cZ (bz_tM t) (th, sv, ex) (S1, S2, S3)) sz) := by
  refine Met.ofW (cc := b_M_bound) (maxL := 9) (ret := (some .long)) (by decide) rfl ?_
  intro p e s m args below meth c s₁ B hml hv
  obtain ⟨rfl, hsz, hP, hK, hD0, hN⟩ := hv
  have hx := B.exec
  have hb := B.bytes
  have hr := B.returns
  have hts := atoms_spec (ws := w_M_bound) B.pre
  have hown : s.vm.findClass R_M = some m.cls := findClass_of_methodNamed B.named
  have htb : ∀ w ∈ bz_tb, w.before _ s = true := fun w h => hts w (List.mem_cons_of_mem _ h)
  have hlocks := B.notSynchronized
  subst hsz
  have hD := hD0.self (sz := s.heap.size)
  generalize hAe : va_A (bz_wM am cI cL cZ (bz_tM t) (th, sv, ex) (S1, S2, S3)) s.heap.size = A at hD ⊢
  have hA : ∀ q : Nat, s.heap.size ≤ q → A q := fun q h => by rw [← hAe]; exact Or.inr h
  have hS : va_S A s.heap s.heap [] := va_S.rf
  have hl := lv_entry ([.ref (am 0)]) (n := 9) (Nat.le_of_ble_eq_true rfl)
  rw [lg_entry_eq]
  generalize (lg_sl ([.ref (am 0)]) ++ List.replicate (9 - (lg_sl ([.ref (am 0)])).length) Slot.unset).toArray = ls at hl ⊢
  have hl : lv_has ls 9 [(0, .ref (am 0))] := hl
  have hn30 := ht.1
  have hcc := bz_ct_le (bz_wh t) 4
  refine lv_aload_n hx hb d_M_bound_0 rfl (lv_at hl 0 rfl) ?_
  refine lv_iconst (v := 0) hx hb d_M_bound_1 (by decide) ?_
  refine va_put (D := (dC, dI)) (ci := 4) (v := .int 0) (ty := .int) (C := R_M) (T := F_M) (N := 12) hx hb htb in_M tf_M tok_M n_M hown hK hP hD hS 0 rfl rfl 0 (by decide) (htb _ wd_411) (fun _ h9 => h9) rfl (by decide +kernel) rfl rfl (Nat.le_of_ble_eq_true rfl) d_M_bound_2 (fun H locs hP hD hS => ?_)
  have hP : va_P (dC, dI) vwCl (bz_wM am cI cL cZ (bz_tM t) (0, sv, ex) (S1, S2, S3)) H := hP
  have hD : va_D A (bz_wM am cI cL cZ (bz_tM t) (0, sv, ex) (S1, S2, S3)) := hD
  refine lv_aload_n hx hb d_M_bound_5 rfl (lv_at hl 0 rfl) ?_
  refine bz_si (va_runV (As := []) (rest := []) ⟨hx, hb, hml, hown, htb⟩ (c_M_withHours l dC dI am cI cL cZ t 0 sv ex S1 S2 S3 ht) (cwV 0 htb (bz_gV wd_553 wd_550 wd_552 wd_16 wd_23) rfl rfl rfl (by decide +kernel) ⟨Nat.le_of_ble_eq_true rfl, Nat.le_of_ble_eq_true rfl⟩) (bz_rv hN hK hP (q0 := 0) rfl rfl) rfl rfl hl.1 rfl (lv_room (Nat.le_of_ble_eq_true rfl)) d_M_bound_6 ⟨Nat.zero_le _, Nat.zero_le _⟩) ?_
  refine lv_istore_n (lv' := [(1, .int (nI (bz_ct (bz_wh t) 4))), (0, .ref (am 0))]) hx hb d_M_bound_9 rfl hl (by decide) rfl (fun ls hl => ?_)
  refine lv_iload_n hx hb d_M_bound_10 rfl (lv_at hl 0 rfl) ?_
  refine lv_if_ne (tgt := 18) hx hb d_M_bound_11 (by decide) (fun c_11 => ?_) (fun c_11 => ?_)
  · skip
    have hc0 : ¬ bz_ct (bz_wh t) 4 = 0 := fun z => c_11 (by rw [z]; rfl)
    refine lv_lconst (v := 0) hx hb d_M_bound_18 (by decide) ?_
    refine bz_rl (y := lN (bz_sm (bz_lg t) 0)) (rfl) ?_
    refine lv_lstore_n (lv' := [(2, .long (lN (bz_sm (bz_lg t) 0))), (1, .int (nI (bz_ct (bz_wh t) 4))), (0, .ref (am 0))]) hx hb d_M_bound_19 rfl hl (by decide) rfl (fun ls hl => ?_)
    refine lv_lconst (v := 0) hx hb d_M_bound_20 (by decide) ?_
    refine bz_rl (y := lN (bz_mx (bz_lg t) 0)) (rfl) ?_
    refine lv_lstore (lv' := [(4, .long (lN (bz_mx (bz_lg t) 0))), (2, .long (lN (bz_sm (bz_lg t) 0))), (1, .int (nI (bz_ct (bz_wh t) 4))), (0, .ref (am 0))]) hx hb d_M_bound_21 hl (by decide) rfl (fun ls hl => ?_)
    refine lv_iconst (v := nI 0) hx hb d_M_bound_23 (by decide) ?_
    refine lv_istore (lv' := [(6, .int (nI 0)), (4, .long (lN (bz_mx (bz_lg t) 0))), (2, .long (lN (bz_sm (bz_lg t) 0))), (1, .int (nI (bz_ct (bz_wh t) 4))), (0, .ref (am 0))]) hx hb d_M_bound_24 hl (by decide) rfl (fun ls hl => ?_)
    have lp : ∀ (k9 : Nat) (i : Nat), bz_n t - i < k9 → (i ≤ bz_n t) → ∀ (H : Heap) (locs : List Loc), va_P (dC, dI) vwCl (bz_wM am cI cL cZ (bz_tM t) (0, sv, ex) (S1, S2, S3)) H → va_D A (bz_wM am cI cL cZ (bz_tM t) (0, sv, ex) (S1, S2, S3)) → va_S A s.heap H locs → ∀ (ls : Array Slot), lv_has ls 9 [(0, .ref (am 0)), (1, .int (nI (bz_ct (bz_wh t) 4))), (2, .long (lN (bz_sm (bz_lg t) i))), (4, .long (lN (bz_mx (bz_lg t) i))), (6, .int (nI i))] → W p l e (headSpec w_M_bound ({ frames := 2, cells := 0, slots := 0, locals := 48 })).room s m ([.ref (am 0)]).toArray below meth c H locs 0 0 (MQ below (bz_Ql (dC, dI) [(cI, .int), (cL, .long), (cZ, .boolean)] A (if bz_ct (bz_wh t) 4 = 0 then -1 else lN (bz_bd t)) (bz_wM am cI cL cZ (bz_tM t) (0, sv, ex) (S1, S2, S3))) ([.ref (am 0)]).toArray s 0 0 (A)) (F0 m 26 ls []) := by
      intro k9
      induction k9 with
      | zero =>
        intro i h9
        exact absurd h9 (Nat.not_lt_zero _)
      | succ k9 ihlp =>
        intro i h9_lp hi H locs hP hD hS ls hl
        refine lv_iload hx hb d_M_bound_26 (lv_at hl 4 rfl) ?_
        refine lv_aload_n hx hb d_M_bound_28 rfl (lv_at hl 0 rfl) ?_
        refine va_get (D := (dC, dI)) (ci := 4) (v := .int (nI (bz_n t))) (C := R_M) (T := F_M) (N := 12) hx hb htb in_M hown hK hP 0 rfl rfl 1 (by decide) (htb _ wd_412) (fun _ h9 => h9) rfl d_M_bound_29 ?_
        refine lv_icmp_ge (tgt := 71) hx hb d_M_bound_32 (by decide) (fun c_32 => ?_) (fun c_32 => ?_)
        · skip
          have hls := bz_ls_le ht hi
          have hmx := bz_mx_le (bz_lg_le ht) i
          have hin : i = bz_n t := by have := (nI_leI (by omega) (by omega)).mp c_32; omega
          have hl : lv_has ls 9 [(0, .ref (am 0)), (1, .int (nI (bz_ct (bz_wh t) 4))), (2, .long (lN (bz_sm (bz_lg t) (bz_n t)))), (4, .long (lN (bz_mx (bz_lg t) i))), (6, .int (nI i))] := by rw [show lN (bz_sm (bz_lg t) (bz_n t)) = lN (bz_sm (bz_lg t) i) from by rw [hin]]; exact hl
          have hl : lv_has ls 9 [(0, .ref (am 0)), (1, .int (nI (bz_ct (bz_wh t) 4))), (2, .long (lN (bz_sm (bz_lg t) (bz_n t)))), (4, .long (lN (bz_mx (bz_lg t) (bz_n t)))), (6, .int (nI i))] := by rw [show lN (bz_mx (bz_lg t) (bz_n t)) = lN (bz_mx (bz_lg t) i) from by rw [hin]]; exact hl
          rw [hin] at hls hmx
          have hdv := Nat.div_le_self (bz_sm (bz_lg t) (bz_n t)) (bz_ct (bz_wh t) 4)
          have hmd := Nat.mod_le (bz_sm (bz_lg t) (bz_n t)) (bz_ct (bz_wh t) 4)
          refine lv_lload_n hx hb d_M_bound_71 rfl (lv_at hl 2 rfl) ?_
          refine lv_iload_n hx hb d_M_bound_72 rfl (lv_at hl 1 rfl) ?_
          refine lv_i2l hx hb d_M_bound_73 rfl ?_
          refine bz_rl (y := lN (bz_ct (bz_wh t) 4)) (nI_l (by omega)) ?_
          refine lv_ldiv hx hb d_M_bound_74 (fun z => hc0 ((pk_lEQ (b := 0) (by omega) (by omega)).mp z)) ?_
          refine bz_rl (y := lN (bz_sm (bz_lg t) (bz_n t) / bz_ct (bz_wh t) 4)) (pk_lDiv (by omega) (by omega) (by omega)) ?_
          refine lv_lload_n hx hb d_M_bound_75 rfl (lv_at hl 2 rfl) ?_
          refine lv_iload_n hx hb d_M_bound_76 rfl (lv_at hl 1 rfl) ?_
          refine lv_i2l hx hb d_M_bound_77 rfl ?_
          refine bz_rl (y := lN (bz_ct (bz_wh t) 4)) (nI_l (by omega)) ?_
          refine lv_lrem hx hb d_M_bound_78 (fun z => hc0 ((pk_lEQ (b := 0) (by omega) (by omega)).mp z)) ?_
          refine bz_rl (y := lN (bz_sm (bz_lg t) (bz_n t) % bz_ct (bz_wh t) 4)) (pk_lRem (by omega) (by omega) (by omega)) ?_
          refine lv_lconst (v := 0) hx hb d_M_bound_79 (by decide) ?_
          refine W.lcmp hx hb d_M_bound_80 ?_
          refine lv_if_le (tgt := 88) hx hb d_M_bound_81 (by decide) (fun c_81 => ?_) (fun c_81 => ?_)
          · skip
            have hmd2 : ¬ 0 < bz_sm (bz_lg t) (bz_n t) % bz_ct (bz_wh t) 4 := Nat.not_lt.mpr ((bz_lc_le (b := 0) (by omega) (by omega)).mp c_81)
            refine lv_lconst (v := 0) hx hb d_M_bound_88 (by decide) ?_
            refine lv_ladd hx hb d_M_bound_89 ?_
            refine bz_rl (y := lN ((bz_sm (bz_lg t) (bz_n t) + bz_ct (bz_wh t) 4 - 1) / bz_ct (bz_wh t) 4)) (by rw [show (0 : Int64) = lN 0 from rfl, lN_add, ← bz_ceil hc0 hcc, if_neg hmd2]) ?_
            have hmean : (bz_sm (bz_lg t) (bz_n t) + bz_ct (bz_wh t) 4 - 1) / bz_ct (bz_wh t) 4 ≤ bz_sm (bz_lg t) (bz_n t) + bz_ct (bz_wh t) 4 - 1 := Nat.div_le_self _ _
            refine lv_lstore (lv' := [(6, .long (lN ((bz_sm (bz_lg t) (bz_n t) + bz_ct (bz_wh t) 4 - 1) / bz_ct (bz_wh t) 4))), (0, .ref (am 0)), (1, .int (nI (bz_ct (bz_wh t) 4))), (2, .long (lN (bz_sm (bz_lg t) (bz_n t)))), (4, .long (lN (bz_mx (bz_lg t) (bz_n t))))]) hx hb d_M_bound_90 hl (by decide) rfl (fun ls hl => ?_)
            refine lv_lload hx hb d_M_bound_92 (lv_at hl 0 rfl) ?_
            refine lv_lload hx hb d_M_bound_94 (lv_at hl 4 rfl) ?_
            refine W.lcmp hx hb d_M_bound_96 ?_
            refine lv_if_le (tgt := 105) hx hb d_M_bound_97 (by decide) (fun c_97 => ?_) (fun c_97 => ?_)
            · skip
              have hq := (bz_lc_le (by omega) (by omega)).mp c_97
              refine lv_lload hx hb d_M_bound_105 (lv_at hl 4 rfl) ?_
              refine bz_rl (y := lN (bz_bd t)) (by unfold bz_bd; rw [Nat.max_eq_left (by omega)]) ?_
              exact W.lret (v := lN (bz_bd t)) hx hb hr (fun t9 ht9 hW => ⟨⟨lN (bz_bd t), (), rfl, by rw [if_neg hc0], by rw [ht9]; exact hP, va_K.moved hW.alike hK, hD⟩, hS.F ht9⟩) hS.2.2 d_M_bound_107
            · skip
              have hq : bz_mx (bz_lg t) (bz_n t) < (bz_sm (bz_lg t) (bz_n t) + bz_ct (bz_wh t) 4 - 1) / bz_ct (bz_wh t) 4 := Nat.lt_of_not_le fun z => c_97 ((bz_lc_le (by omega) (by omega)).mpr z)
              refine lv_lload hx hb d_M_bound_100 (lv_at hl 0 rfl) ?_
              refine bz_rl (y := lN (bz_bd t)) (by unfold bz_bd; rw [Nat.max_eq_right (by omega)]) ?_
              refine lv_goto (tgt := 107) hx hb d_M_bound_102 (by decide) ?_
              exact W.lret (v := lN (bz_bd t)) hx hb hr (fun t9 ht9 hW => ⟨⟨lN (bz_bd t), (), rfl, by rw [if_neg hc0], by rw [ht9]; exact hP, va_K.moved hW.alike hK, hD⟩, hS.F ht9⟩) hS.2.2 d_M_bound_107
          · skip
            have hmd2 : 0 < bz_sm (bz_lg t) (bz_n t) % bz_ct (bz_wh t) 4 := Nat.lt_of_not_le fun z => c_81 ((bz_lc_le (b := 0) (by omega) (by omega)).mpr z)
            refine lv_lconst (v := 1) hx hb d_M_bound_84 (by decide) ?_
            refine lv_goto (tgt := 89) hx hb d_M_bound_85 (by decide) ?_
            refine lv_ladd hx hb d_M_bound_89 ?_
            refine bz_rl (y := lN ((bz_sm (bz_lg t) (bz_n t) + bz_ct (bz_wh t) 4 - 1) / bz_ct (bz_wh t) 4)) (by rw [lN_1, ← bz_ceil hc0 hcc, if_pos hmd2]) ?_
            have hmean : (bz_sm (bz_lg t) (bz_n t) + bz_ct (bz_wh t) 4 - 1) / bz_ct (bz_wh t) 4 ≤ bz_sm (bz_lg t) (bz_n t) + bz_ct (bz_wh t) 4 - 1 := Nat.div_le_self _ _
            refine lv_lstore (lv' := [(6, .long (lN ((bz_sm (bz_lg t) (bz_n t) + bz_ct (bz_wh t) 4 - 1) / bz_ct (bz_wh t) 4))), (0, .ref (am 0)), (1, .int (nI (bz_ct (bz_wh t) 4))), (2, .long (lN (bz_sm (bz_lg t) (bz_n t)))), (4, .long (lN (bz_mx (bz_lg t) (bz_n t))))]) hx hb d_M_bound_90 hl (by decide) rfl (fun ls hl => ?_)
            refine lv_lload hx hb d_M_bound_92 (lv_at hl 0 rfl) ?_
            refine lv_lload hx hb d_M_bound_94 (lv_at hl 4 rfl) ?_
            refine W.lcmp hx hb d_M_bound_96 ?_
            refine lv_if_le (tgt := 105) hx hb d_M_bound_97 (by decide) (fun c_97 => ?_) (fun c_97 => ?_)
            · skip
              have hq := (bz_lc_le (by omega) (by omega)).mp c_97
              refine lv_lload hx hb d_M_bound_105 (lv_at hl 4 rfl) ?_
              refine bz_rl (y := lN (bz_bd t)) (by unfold bz_bd; rw [Nat.max_eq_left (by omega)]) ?_
              exact W.lret (v := lN (bz_bd t)) hx hb hr (fun t9 ht9 hW => ⟨⟨lN (bz_bd t), (), rfl, by rw [if_neg hc0], by rw [ht9]; exact hP, va_K.moved hW.alike hK, hD⟩, hS.F ht9⟩) hS.2.2 d_M_bound_107
            · skip
              have hq : bz_mx (bz_lg t) (bz_n t) < (bz_sm (bz_lg t) (bz_n t) + bz_ct (bz_wh t) 4 - 1) / bz_ct (bz_wh t) 4 := Nat.lt_of_not_le fun z => c_97 ((bz_lc_le (by omega) (by omega)).mpr z)
              refine lv_lload hx hb d_M_bound_100 (lv_at hl 0 rfl) ?_
              refine bz_rl (y := lN (bz_bd t)) (by unfold bz_bd; rw [Nat.max_eq_right (by omega)]) ?_
              refine lv_goto (tgt := 107) hx hb d_M_bound_102 (by decide) ?_
              exact W.lret (v := lN (bz_bd t)) hx hb hr (fun t9 ht9 hW => ⟨⟨lN (bz_bd t), (), rfl, by rw [if_neg hc0], by rw [ht9]; exact hP, va_K.moved hW.alike hK, hD⟩, hS.F ht9⟩) hS.2.2 d_M_bound_107
        · skip
          have hin : i < bz_n t := Nat.lt_of_not_le fun z => c_32 ((nI_leI (by omega) (by omega)).mpr z)
          have hls := bz_ls_le ht hi
          have hmx := bz_mx_le (bz_lg_le ht) i
          have hlg := bz_lg_le ht i
          refine lv_aload_n hx hb d_M_bound_35 rfl (lv_at hl 0 rfl) ?_
          refine lv_iload hx hb d_M_bound_36 (lv_at hl 4 rfl) ?_
          refine bz_sl (va_runV (As := [.int (nI i)]) (rest := []) ⟨hx, hb, hml, hown, htb⟩ (c_M_lightest l dC dI am cI cL cZ t 0 sv ex S1 S2 S3 ht _ (by omega)) (cwV 1 htb (bz_gV wd_558 wd_555 wd_557 wd_17 wd_23) rfl rfl rfl (by decide +kernel) ⟨Nat.le_of_ble_eq_true rfl, Nat.le_of_ble_eq_true rfl⟩) (bz_rv hN hK hP (q0 := 0) rfl rfl) rfl rfl hl.1 rfl (lv_room (Nat.le_of_ble_eq_true rfl)) d_M_bound_38 ⟨Nat.zero_le _, Nat.zero_le _⟩) ?_
          refine bz_rl (y := lN (bz_lg t i)) (by rw [bz_ml_lg ht hc0]) ?_
          refine lv_lstore (lv' := [(7, .long (lN (bz_lg t i))), (0, .ref (am 0)), (1, .int (nI (bz_ct (bz_wh t) 4))), (2, .long (lN (bz_sm (bz_lg t) i))), (4, .long (lN (bz_mx (bz_lg t) i))), (6, .int (nI i))]) hx hb d_M_bound_41 hl (by decide) rfl (fun ls hl => ?_)
          refine lv_lload_n hx hb d_M_bound_43 rfl (lv_at hl 3 rfl) ?_
          refine lv_lload hx hb d_M_bound_44 (lv_at hl 0 rfl) ?_
          refine lv_ladd hx hb d_M_bound_46 ?_
          refine bz_rl (y := lN (bz_sm (bz_lg t) (i + 1))) (lN_add _ _) ?_
          refine lv_lstore_n (lv' := [(2, .long (lN (bz_sm (bz_lg t) (i + 1)))), (7, .long (lN (bz_lg t i))), (0, .ref (am 0)), (1, .int (nI (bz_ct (bz_wh t) 4))), (4, .long (lN (bz_mx (bz_lg t) i))), (6, .int (nI i))]) hx hb d_M_bound_47 rfl hl (by decide) rfl (fun ls hl => ?_)
          refine lv_lload hx hb d_M_bound_48 (lv_at hl 1 rfl) ?_
          refine lv_lload hx hb d_M_bound_50 (lv_at hl 4 rfl) ?_
          refine W.lcmp hx hb d_M_bound_52 ?_
          refine lv_if_le (tgt := 61) hx hb d_M_bound_53 (by decide) (fun c_53 => ?_) (fun c_53 => ?_)
          · skip
            have hq := (bz_lc_le (by omega) (by omega)).mp c_53
            refine lv_lload hx hb d_M_bound_61 (lv_at hl 4 rfl) ?_
            refine bz_rl (y := lN (bz_mx (bz_lg t) (i + 1))) (by show _ = lN (max _ _); rw [Nat.max_eq_left (by omega)]) ?_
            refine lv_lstore (lv' := [(4, .long (lN (bz_mx (bz_lg t) (i + 1)))), (2, .long (lN (bz_sm (bz_lg t) (i + 1)))), (7, .long (lN (bz_lg t i))), (0, .ref (am 0)), (1, .int (nI (bz_ct (bz_wh t) 4))), (6, .int (nI i))]) hx hb d_M_bound_63 hl (by decide) rfl (fun ls hl => ?_)
            refine lv_iinc (v := nI (i + 1)) (lv' := [(6, .int (nI (i + 1))), (4, .long (lN (bz_mx (bz_lg t) (i + 1)))), (2, .long (lN (bz_sm (bz_lg t) (i + 1)))), (7, .long (lN (bz_lg t i))), (0, .ref (am 0)), (1, .int (nI (bz_ct (bz_wh t) 4)))]) hx hb d_M_bound_65 hl (k := 5) rfl (nI_1 _) (by decide) rfl (fun ls hl => ?_)
            refine lv_goto (tgt := 26) hx hb d_M_bound_68 (by decide) ?_
            exact ihlp (i + 1) (by omega) (by omega) _ _ hP hD hS ls (lv_sub hl [4, 5, 2, 1, 0] rfl)
          · skip
            have hq : bz_mx (bz_lg t) i < bz_lg t i := Nat.lt_of_not_le fun z => c_53 ((bz_lc_le (by omega) (by omega)).mpr z)
            refine lv_lload hx hb d_M_bound_56 (lv_at hl 1 rfl) ?_
            refine bz_rl (y := lN (bz_mx (bz_lg t) (i + 1))) (by show _ = lN (max _ _); rw [Nat.max_eq_right (by omega)]) ?_
            refine lv_goto (tgt := 63) hx hb d_M_bound_58 (by decide) ?_
            refine lv_lstore (lv' := [(4, .long (lN (bz_mx (bz_lg t) (i + 1)))), (2, .long (lN (bz_sm (bz_lg t) (i + 1)))), (7, .long (lN (bz_lg t i))), (0, .ref (am 0)), (1, .int (nI (bz_ct (bz_wh t) 4))), (6, .int (nI i))]) hx hb d_M_bound_63 hl (by decide) rfl (fun ls hl => ?_)
            refine lv_iinc (v := nI (i + 1)) (lv' := [(6, .int (nI (i + 1))), (4, .long (lN (bz_mx (bz_lg t) (i + 1)))), (2, .long (lN (bz_sm (bz_lg t) (i + 1)))), (7, .long (lN (bz_lg t i))), (0, .ref (am 0)), (1, .int (nI (bz_ct (bz_wh t) 4)))]) hx hb d_M_bound_65 hl (k := 5) rfl (nI_1 _) (by decide) rfl (fun ls hl => ?_)
            refine lv_goto (tgt := 26) hx hb d_M_bound_68 (by decide) ?_
            exact ihlp (i + 1) (by omega) (by omega) _ _ hP hD hS ls (lv_sub hl [4, 5, 2, 1, 0] rfl)
    exact lp _ 0 (Nat.lt_succ_self _) (by omega) _ _ hP hD hS ls (lv_sub hl [4, 3, 2, 1, 0] rfl)
  · skip
    have hc0 : bz_ct (bz_wh t) 4 = 0 := (nI_eq (b := 0) (by omega) (by omega)).mp c_11
    refine lv_ldc2 (v := (-1)) hx hb hown (htb _ wd_554) d_M_bound_14 ?_
    exact W.lret (v := (-1)) hx hb hr (fun t9 ht9 hW => ⟨⟨(-1), (), rfl, by rw [if_pos hc0], by rw [ht9]; exact hP, va_K.moved hW.alike hK, hD⟩, hS.F ht9⟩) hS.2.2 d_M_bound_17

set_option maxHeartbeats 4000000 in
set_option maxRecDepth 100000 in
/-- tooLarge -/
theorem c_M_tooLarge_o (l : Launch) (dC : Nat → ClassId) (dI : Nat → Nat → Nat) (sz : Nat) (am : Nat → Nat) (cI cL cZ : ClassId) (t : bz_T) (th sv ex : Int32) (S1 S2 S3 : Nat → Int32) (ht : bz_ok t) (z : Int32) (hz : z < 0 ∨ bz_ct (bz_wh t) 4 = 0) : Met l y_M_tooLarge w_M_tooLarge ({ frames := 1, cells := 0, slots := 0, locals := 24 }) (bz_Pw (dC, dI) [(cI, .int), (cL, .long), (cZ, .boolean)] (bz_wM am cI cL cZ (bz_tM t) (th, sv, ex) (S1, S2, S3)) sz [.ref (am 0), .int z]) (bz_Qi (dC, dI) [(cI, .int), (cL, .long), (cZ, .boolean)] (va_A (bz_wM am cI cL cZ (bz_tM t) (th, sv, ex) (S1, S2, S3)) sz) (0) (bz_wM am cI cL cZ (bz_tM t) (0, sv, ex) (S1, S2, S3))) 0 0 (va_A (bz_wM am cI cL cZ (bz_tM t) (th, sv, ex) (S1, S2, S3)) sz) := by
  refine Met.ofW (cc := b_M_tooLarge) (maxL := 6) (ret := (some .int)) (by decide) rfl ?_
  intro p e s m args below meth c s₁ B hml hv
  obtain ⟨rfl, hsz, hP, hK, hD0, hN⟩ := hv
  have hx := B.exec
  have hb := B.bytes
  have hr := B.returns
  have hts := atoms_spec (ws := w_M_tooLarge) B.pre
  have hown : s.vm.findClass R_M = some m.cls := findClass_of_methodNamed B.named
  have htb : ∀ w ∈ bz_tb, w.before _ s = true := fun w h => hts w (List.mem_cons_of_mem _ h)
  have hlocks := B.notSynchronized
  subst hsz
  have hD := hD0.self (sz := s.heap.size)
  generalize hAe : va_A (bz_wM am cI cL cZ (bz_tM t) (th, sv, ex) (S1, S2, S3)) s.heap.size = A at hD ⊢
  have hA : ∀ q : Nat, s.heap.size ≤ q → A q := fun q h => by rw [← hAe]; exact Or.inr h
  have hS : va_S A s.heap s.heap [] := va_S.rf
  have hl := lv_entry ([.ref (am 0), .int z]) (n := 6) (Nat.le_of_ble_eq_true rfl)
  rw [lg_entry_eq]
  generalize (lg_sl ([.ref (am 0), .int z]) ++ List.replicate (6 - (lg_sl ([.ref (am 0), .int z])).length) Slot.unset).toArray = ls at hl ⊢
  have hl : lv_has ls 6 [(0, .ref (am 0)), (1, .int z)] := hl
  have hn30 := ht.1
  have hcc := bz_ct_le (bz_wh t) 4
  refine lv_aload_n hx hb d_M_tooLarge_0 rfl (lv_at hl 0 rfl) ?_
  refine lv_iconst (v := 0) hx hb d_M_tooLarge_1 (by decide) ?_
  refine va_put (D := (dC, dI)) (ci := 4) (v := .int 0) (ty := .int) (C := R_M) (T := F_M) (N := 12) hx hb htb in_M tf_M tok_M n_M hown hK hP hD hS 0 rfl rfl 0 (by decide) (htb _ wd_411) (fun _ h9 => h9) rfl (by decide +kernel) rfl rfl (Nat.le_of_ble_eq_true rfl) d_M_tooLarge_2 (fun H locs hP hD hS => ?_)
  have hP : va_P (dC, dI) vwCl (bz_wM am cI cL cZ (bz_tM t) (0, sv, ex) (S1, S2, S3)) H := hP
  have hD : va_D A (bz_wM am cI cL cZ (bz_tM t) (0, sv, ex) (S1, S2, S3)) := hD
  refine lv_iconst (v := nI 0) hx hb d_M_tooLarge_5 (by decide) ?_
  refine lv_istore_n (lv' := [(2, .int (nI 0)), (0, .ref (am 0)), (1, .int z)]) hx hb d_M_tooLarge_6 rfl hl (by decide) rfl (fun ls hl => ?_)
  refine lv_iconst (v := nI 0) hx hb d_M_tooLarge_7 (by decide) ?_
  refine lv_istore_n (lv' := [(3, .int (nI 0)), (2, .int (nI 0)), (0, .ref (am 0)), (1, .int z)]) hx hb d_M_tooLarge_8 rfl hl (by decide) rfl (fun ls hl => ?_)
  have lpo : ∀ (k9 : Nat) (i : Nat) (cn : Nat), bz_n t - i < k9 → (i ≤ bz_n t) → (cn ≤ i) → ∀ (H : Heap) (locs : List Loc), va_P (dC, dI) vwCl (bz_wM am cI cL cZ (bz_tM t) (0, sv, ex) (S1, S2, S3)) H → va_D A (bz_wM am cI cL cZ (bz_tM t) (0, sv, ex) (S1, S2, S3)) → va_S A s.heap H locs → ∀ (ls : Array Slot), lv_has ls 6 [(0, .ref (am 0)), (1, .int z), (2, .int (nI cn)), (3, .int (nI i))] → W p l e (headSpec w_M_tooLarge ({ frames := 1, cells := 0, slots := 0, locals := 24 })).room s m ([.ref (am 0), .int z]).toArray below meth c H locs 0 0 (MQ below (bz_Qi (dC, dI) [(cI, .int), (cL, .long), (cZ, .boolean)] A (0) (bz_wM am cI cL cZ (bz_tM t) (0, sv, ex) (S1, S2, S3))) ([.ref (am 0), .int z]).toArray s 0 0 (A)) (F0 m 9 ls []) := by
    intro k9
    induction k9 with
    | zero =>
      intro i cn h9
      exact absurd h9 (Nat.not_lt_zero _)
    | succ k9 ihlpo =>
      intro i cn h9_lpo hi hcn H locs hP hD hS ls hl
      refine lv_iload_n hx hb d_M_tooLarge_9 rfl (lv_at hl 3 rfl) ?_
      refine lv_aload_n hx hb d_M_tooLarge_10 rfl (lv_at hl 0 rfl) ?_
      refine va_get (D := (dC, dI)) (ci := 4) (v := .int (nI (bz_n t))) (C := R_M) (T := F_M) (N := 12) hx hb htb in_M hown hK hP 0 rfl rfl 1 (by decide) (htb _ wd_412) (fun _ h9 => h9) rfl d_M_tooLarge_11 ?_
      refine lv_icmp_ge (tgt := 117) hx hb d_M_tooLarge_14 (by decide) (fun c_14 => ?_) (fun c_14 => ?_)
      · skip
        have hin : i = bz_n t := by have := (nI_leI (by omega) (by omega)).mp c_14; omega
        refine lv_iconst (v := 0) hx hb d_M_tooLarge_117 (by decide) ?_
        exact W.iret (v := 0) hx hb hr (fun t9 ht9 hW => ⟨⟨0, (), rfl, rfl, by rw [ht9]; exact hP, va_K.moved hW.alike hK, hD⟩, hS.F ht9⟩) hS.2.2 d_M_tooLarge_118
      · skip
        have hin : i < bz_n t := Nat.lt_of_not_le fun z => c_14 ((nI_leI (by omega) (by omega)).mpr z)
        refine lv_aload_n hx hb d_M_tooLarge_17 rfl (lv_at hl 0 rfl) ?_
        refine bz_si (va_runV (As := []) (rest := []) ⟨hx, hb, hml, hown, htb⟩ (c_M_withHours l dC dI am cI cL cZ t 0 sv ex S1 S2 S3 ht) (cwV 0 htb (bz_gV wd_553 wd_550 wd_552 wd_16 wd_23) rfl rfl rfl (by decide +kernel) ⟨Nat.le_of_ble_eq_true rfl, Nat.le_of_ble_eq_true rfl⟩) (bz_rv hN hK hP (q0 := 0) rfl rfl) rfl rfl hl.1 rfl (lv_room (Nat.le_of_ble_eq_true rfl)) d_M_tooLarge_18 ⟨Nat.zero_le _, Nat.zero_le _⟩) ?_
        refine lv_if_le (tgt := 117) hx hb d_M_tooLarge_21 (by decide) (fun c_21 => ?_) (fun c_21 => ?_)
        · skip
          refine lv_iconst (v := 0) hx hb d_M_tooLarge_117 (by decide) ?_
          exact W.iret (v := 0) hx hb hr (fun t9 ht9 hW => ⟨⟨0, (), rfl, rfl, by rw [ht9]; exact hP, va_K.moved hW.alike hK, hD⟩, hS.F ht9⟩) hS.2.2 d_M_tooLarge_118
        · skip
          have hz0 : z < 0 := hz.elim id (fun y => absurd (show nI (bz_ct (bz_wh t) 4) ≤ 0 by rw [y]; decide) c_21)
          refine lv_iconst (v := nI 0) hx hb d_M_tooLarge_24 (by decide) ?_
          refine lv_istore (lv' := [(4, .int (nI 0)), (0, .ref (am 0)), (1, .int z), (2, .int (nI cn)), (3, .int (nI i))]) hx hb d_M_tooLarge_25 hl (by decide) rfl (fun ls hl => ?_)
          refine lv_iconst (v := nI 0) hx hb d_M_tooLarge_27 (by decide) ?_
          refine lv_istore (lv' := [(5, .int (nI 0)), (4, .int (nI 0)), (0, .ref (am 0)), (1, .int z), (2, .int (nI cn)), (3, .int (nI i))]) hx hb d_M_tooLarge_28 hl (by decide) rfl (fun ls hl => ?_)
          have lpi : ∀ (k9 : Nat) (j : Nat), 4 - j < k9 → (j ≤ 4) → ∀ (H : Heap) (locs : List Loc), va_P (dC, dI) vwCl (bz_wM am cI cL cZ (bz_tM t) (0, sv, ex) (S1, S2, S3)) H → va_D A (bz_wM am cI cL cZ (bz_tM t) (0, sv, ex) (S1, S2, S3)) → va_S A s.heap H locs → ∀ (ls : Array Slot), lv_has ls 6 [(0, .ref (am 0)), (1, .int z), (2, .int (nI cn)), (3, .int (nI i)), (4, .int (bz_i (!bz_tl t i j))), (5, .int (nI j))] → W p l e (headSpec w_M_tooLarge ({ frames := 1, cells := 0, slots := 0, locals := 24 })).room s m ([.ref (am 0), .int z]).toArray below meth c H locs 0 0 (MQ below (bz_Qi (dC, dI) [(cI, .int), (cL, .long), (cZ, .boolean)] A (0) (bz_wM am cI cL cZ (bz_tM t) (0, sv, ex) (S1, S2, S3))) ([.ref (am 0), .int z]).toArray s 0 0 (A)) (F0 m 30 ls []) := by
            intro k9
            induction k9 with
            | zero =>
              intro j h9
              exact absurd h9 (Nat.not_lt_zero _)
            | succ k9 ihlpi =>
              intro j h9_lpi hj H locs hP hD hS ls hl
              refine lv_iload hx hb d_M_tooLarge_30 (lv_at hl 5 rfl) ?_
              refine lv_iconst (v := 4) hx hb d_M_tooLarge_32 (by decide) ?_
              refine lv_icmp_ge (tgt := 84) hx hb d_M_tooLarge_33 (by decide) (fun c_33 => ?_) (fun c_33 => ?_)
              · skip
                have hj4 : j = 4 := by have := (nI_leI (a := 4) (by omega) (by omega)).mp c_33; omega
                have hl : lv_has ls 6 [(0, .ref (am 0)), (1, .int z), (2, .int (nI cn)), (3, .int (nI i)), (4, .int (bz_i (!bz_tl t i 4))), (5, .int (nI j))] := by rw [show bz_i (!bz_tl t i 4) = bz_i (!bz_tl t i j) from by rw [hj4]]; exact hl
                refine lv_iload hx hb d_M_tooLarge_84 (lv_at hl 4 rfl) ?_
                refine lv_if_ne (tgt := 98) hx hb d_M_tooLarge_86 (by decide) (fun c_86 => ?_) (fun c_86 => ?_)
                · skip
                  have hf1 : bz_tl t i 4 = false := by have := bz_i_ne c_86; simpa using this
                  refine lv_iload hx hb d_M_tooLarge_98 (lv_at hl 4 rfl) ?_
                  refine lv_if_eq (tgt := 107) hx hb d_M_tooLarge_100 (by decide) (fun c_100 => ?_) (fun c_100 => ?_)
                  · skip
                    exact absurd (bz_i_eq c_100) (by rw [hf1]; decide)
                  · skip
                    refine lv_iload_n hx hb d_M_tooLarge_103 rfl (lv_at hl 2 rfl) ?_
                    refine lv_goto (tgt := 110) hx hb d_M_tooLarge_104 (by decide) ?_
                    refine lv_istore_n (lv' := [(2, .int (nI cn)), (0, .ref (am 0)), (1, .int z), (3, .int (nI i)), (4, .int (bz_i (!bz_tl t i 4))), (5, .int (nI j))]) hx hb d_M_tooLarge_110 rfl hl (by decide) rfl (fun ls hl => ?_)
                    refine lv_iinc (v := nI (i + 1)) (lv' := [(3, .int (nI (i + 1))), (2, .int (nI cn)), (0, .ref (am 0)), (1, .int z), (4, .int (bz_i (!bz_tl t i 4))), (5, .int (nI j))]) hx hb d_M_tooLarge_111 hl (k := 3) rfl (nI_1 _) (by decide) rfl (fun ls hl => ?_)
                    refine lv_goto (tgt := 9) hx hb d_M_tooLarge_114 (by decide) ?_
                    exact ihlpo (i + 1) cn (by omega) (by omega) (by omega) _ _ hP hD hS ls (lv_sub hl [2, 3, 1, 0] rfl)
                · skip
                  have hf1 : bz_tl t i 4 = true := by have := bz_i_eq c_86; simpa using this
                  refine lv_iload_n hx hb d_M_tooLarge_89 rfl (lv_at hl 2 rfl) ?_
                  refine lv_iload_n hx hb d_M_tooLarge_90 rfl (lv_at hl 1 rfl) ?_
                  refine lv_icmp_ne (tgt := 98) hx hb d_M_tooLarge_91 (by decide) (fun c_91 => ?_) (fun c_91 => ?_)
                  · skip
                    refine lv_iload hx hb d_M_tooLarge_98 (lv_at hl 4 rfl) ?_
                    refine lv_if_eq (tgt := 107) hx hb d_M_tooLarge_100 (by decide) (fun c_100 => ?_) (fun c_100 => ?_)
                    · skip
                      refine lv_iload_n hx hb d_M_tooLarge_107 rfl (lv_at hl 2 rfl) ?_
                      refine lv_iconst (v := 1) hx hb d_M_tooLarge_108 (by decide) ?_
                      refine lv_iadd hx hb d_M_tooLarge_109 ?_
                      refine bz_ri (y := nI (cn + 1)) (nI_1 _) ?_
                      refine lv_istore_n (lv' := [(2, .int (nI (cn + 1))), (0, .ref (am 0)), (1, .int z), (3, .int (nI i)), (4, .int (bz_i (!bz_tl t i 4))), (5, .int (nI j))]) hx hb d_M_tooLarge_110 rfl hl (by decide) rfl (fun ls hl => ?_)
                      refine lv_iinc (v := nI (i + 1)) (lv' := [(3, .int (nI (i + 1))), (2, .int (nI (cn + 1))), (0, .ref (am 0)), (1, .int z), (4, .int (bz_i (!bz_tl t i 4))), (5, .int (nI j))]) hx hb d_M_tooLarge_111 hl (k := 3) rfl (nI_1 _) (by decide) rfl (fun ls hl => ?_)
                      refine lv_goto (tgt := 9) hx hb d_M_tooLarge_114 (by decide) ?_
                      exact ihlpo (i + 1) (cn + 1) (by omega) (by omega) (by omega) _ _ hP hD hS ls (lv_sub hl [2, 3, 1, 0] rfl)
                    · skip
                      exact absurd (bz_i_ne c_100) (by rw [hf1]; decide)
                  · skip
                    exact absurd hz0 (by rw [← c_91]; exact nI_pos (by omega))
              · skip
                have hj4 : j < 4 := Nat.lt_of_not_le fun z => c_33 ((nI_leI (a := 4) (b := j) (by omega) (by omega)).mpr z)
                have hhj := ht.2.2.2.2.2.2 j
                have hwj := bz_w_le ht i j
                refine lv_iload hx hb d_M_tooLarge_36 (lv_at hl 4 rfl) ?_
                refine lv_if_ne (tgt := 71) hx hb d_M_tooLarge_38 (by decide) (fun c_38 => ?_) (fun c_38 => ?_)
                · skip
                  have hB : bz_tl t i (j + 1) = false := bz_tl_0 (k := j) (by have := bz_i_ne c_38; simpa using this) (j + 1) (by omega)
                  refine lv_iconst (v := 1) hx hb d_M_tooLarge_71 (by decide) ?_
                  refine lv_goto (tgt := 76) hx hb d_M_tooLarge_72 (by decide) ?_
                  refine bz_ri (y := bz_i (!bz_tl t i (j + 1))) (by rw [hB]; rfl) ?_
                  refine lv_istore (lv' := [(4, .int (bz_i (!bz_tl t i (j + 1)))), (0, .ref (am 0)), (1, .int z), (2, .int (nI cn)), (3, .int (nI i)), (5, .int (nI j))]) hx hb d_M_tooLarge_76 hl (by decide) rfl (fun ls hl => ?_)
                  refine lv_iinc (v := nI (j + 1)) (lv' := [(5, .int (nI (j + 1))), (4, .int (bz_i (!bz_tl t i (j + 1)))), (0, .ref (am 0)), (1, .int z), (2, .int (nI cn)), (3, .int (nI i))]) hx hb d_M_tooLarge_78 hl (k := 5) rfl (nI_1 _) (by decide) rfl (fun ls hl => ?_)
                  refine lv_goto (tgt := 30) hx hb d_M_tooLarge_81 (by decide) ?_
                  exact ihlpi (j + 1) (by omega) (by omega) _ _ hP hD hS ls (lv_sub hl [2, 3, 4, 5, 1, 0] rfl)
                · skip
                  have hT : bz_tl t i j = true := by have := bz_i_eq c_38; simpa using this
                  refine lv_aload_n hx hb d_M_tooLarge_41 rfl (lv_at hl 0 rfl) ?_
                  refine va_get (D := (dC, dI)) (ci := 4) (v := .ref (am 5)) (C := R_M) (T := F_M) (N := 12) hx hb htb in_M hown hK hP 0 rfl rfl 6 (by decide) (htb _ wd_417) (fun _ h9 => h9) rfl d_M_tooLarge_42 ?_
                  refine lv_iload hx hb d_M_tooLarge_45 (lv_at hl 5 rfl) ?_
                  refine bz_lald (v := lN (bz_h t j)) hx hb hK hP 5 1 rfl rfl (a9 := j) (by omega) (by decide) (rfl) d_M_tooLarge_47 ?_
                  refine lv_lconst (v := 0) hx hb d_M_tooLarge_48 (by decide) ?_
                  refine W.lcmp hx hb d_M_tooLarge_49 ?_
                  refine lv_if_le (tgt := 75) hx hb d_M_tooLarge_50 (by decide) (fun c_50 => ?_) (fun c_50 => ?_)
                  · skip
                    have hB : bz_tl t i (j + 1) = true := bz_tl_y hT (Or.inl ((bz_lc_le (b := 0) (by omega) (by omega)).mp c_50))
                    refine lv_iconst (v := nI 0) hx hb d_M_tooLarge_75 (by decide) ?_
                    refine bz_ri (y := bz_i (!bz_tl t i (j + 1))) (by rw [hB]; rfl) ?_
                    refine lv_istore (lv' := [(4, .int (bz_i (!bz_tl t i (j + 1)))), (0, .ref (am 0)), (1, .int z), (2, .int (nI cn)), (3, .int (nI i)), (5, .int (nI j))]) hx hb d_M_tooLarge_76 hl (by decide) rfl (fun ls hl => ?_)
                    refine lv_iinc (v := nI (j + 1)) (lv' := [(5, .int (nI (j + 1))), (4, .int (bz_i (!bz_tl t i (j + 1)))), (0, .ref (am 0)), (1, .int z), (2, .int (nI cn)), (3, .int (nI i))]) hx hb d_M_tooLarge_78 hl (k := 5) rfl (nI_1 _) (by decide) rfl (fun ls hl => ?_)
                    refine lv_goto (tgt := 30) hx hb d_M_tooLarge_81 (by decide) ?_
                    exact ihlpi (j + 1) (by omega) (by omega) _ _ hP hD hS ls (lv_sub hl [2, 3, 4, 5, 1, 0] rfl)
                  · skip
                    have hh0 : 0 < bz_h t j := Nat.lt_of_not_le fun z => c_50 ((bz_lc_le (b := 0) (by omega) (by omega)).mpr z)
                    refine lv_aload_n hx hb d_M_tooLarge_53 rfl (lv_at hl 0 rfl) ?_
                    refine lv_iload_n hx hb d_M_tooLarge_54 rfl (lv_at hl 3 rfl) ?_
                    refine lv_iload hx hb d_M_tooLarge_55 (lv_at hl 5 rfl) ?_
                    refine bz_sl (va_runV (As := [.int (nI i), .int (nI j)]) (rest := []) ⟨hx, hb, hml, hown, htb⟩ (c_M_loadOf l dC dI am cI cL cZ t 0 sv ex S1 S2 S3 ht _ _ (by omega) (by omega)) (cwV 2 htb (bz_gV wd_509 wd_506 wd_508 wd_11 wd_23) rfl rfl rfl (by decide +kernel) ⟨Nat.le_of_ble_eq_true rfl, Nat.le_of_ble_eq_true rfl⟩) (bz_rv hN hK hP (q0 := 0) rfl rfl) rfl rfl hl.1 rfl (lv_room (Nat.le_of_ble_eq_true rfl)) d_M_tooLarge_57 ⟨Nat.zero_le _, Nat.zero_le _⟩) ?_
                    refine lv_aload_n hx hb d_M_tooLarge_60 rfl (lv_at hl 0 rfl) ?_
                    refine va_get (D := (dC, dI)) (ci := 4) (v := .ref (am 5)) (C := R_M) (T := F_M) (N := 12) hx hb htb in_M hown hK hP 0 rfl rfl 6 (by decide) (htb _ wd_417) (fun _ h9 => h9) rfl d_M_tooLarge_61 ?_
                    refine lv_iload hx hb d_M_tooLarge_64 (lv_at hl 5 rfl) ?_
                    refine bz_lald (v := lN (bz_h t j)) hx hb hK hP 5 1 rfl rfl (a9 := j) (by omega) (by decide) (rfl) d_M_tooLarge_66 ?_
                    refine W.lcmp hx hb d_M_tooLarge_67 ?_
                    refine lv_if_gt (tgt := 75) hx hb d_M_tooLarge_68 (by decide) (fun c_68 => ?_) (fun c_68 => ?_)
                    · skip
                      have hB : bz_tl t i (j + 1) = true := bz_tl_y hT (Or.inr ((bz_lc_gt (by omega) (by omega)).mp c_68))
                      refine lv_iconst (v := nI 0) hx hb d_M_tooLarge_75 (by decide) ?_
                      refine bz_ri (y := bz_i (!bz_tl t i (j + 1))) (by rw [hB]; rfl) ?_
                      refine lv_istore (lv' := [(4, .int (bz_i (!bz_tl t i (j + 1)))), (0, .ref (am 0)), (1, .int z), (2, .int (nI cn)), (3, .int (nI i)), (5, .int (nI j))]) hx hb d_M_tooLarge_76 hl (by decide) rfl (fun ls hl => ?_)
                      refine lv_iinc (v := nI (j + 1)) (lv' := [(5, .int (nI (j + 1))), (4, .int (bz_i (!bz_tl t i (j + 1)))), (0, .ref (am 0)), (1, .int z), (2, .int (nI cn)), (3, .int (nI i))]) hx hb d_M_tooLarge_78 hl (k := 5) rfl (nI_1 _) (by decide) rfl (fun ls hl => ?_)
                      refine lv_goto (tgt := 30) hx hb d_M_tooLarge_81 (by decide) ?_
                      exact ihlpi (j + 1) (by omega) (by omega) _ _ hP hD hS ls (lv_sub hl [2, 3, 4, 5, 1, 0] rfl)
                    · skip
                      have hB : bz_tl t i (j + 1) = false := bz_tl_n hh0 (Nat.le_of_not_lt fun z => c_68 ((bz_lc_gt (by omega) (by omega)).mpr z))
                      refine lv_iconst (v := 1) hx hb d_M_tooLarge_71 (by decide) ?_
                      refine lv_goto (tgt := 76) hx hb d_M_tooLarge_72 (by decide) ?_
                      refine bz_ri (y := bz_i (!bz_tl t i (j + 1))) (by rw [hB]; rfl) ?_
                      refine lv_istore (lv' := [(4, .int (bz_i (!bz_tl t i (j + 1)))), (0, .ref (am 0)), (1, .int z), (2, .int (nI cn)), (3, .int (nI i)), (5, .int (nI j))]) hx hb d_M_tooLarge_76 hl (by decide) rfl (fun ls hl => ?_)
                      refine lv_iinc (v := nI (j + 1)) (lv' := [(5, .int (nI (j + 1))), (4, .int (bz_i (!bz_tl t i (j + 1)))), (0, .ref (am 0)), (1, .int z), (2, .int (nI cn)), (3, .int (nI i))]) hx hb d_M_tooLarge_78 hl (k := 5) rfl (nI_1 _) (by decide) rfl (fun ls hl => ?_)
                      refine lv_goto (tgt := 30) hx hb d_M_tooLarge_81 (by decide) ?_
                      exact ihlpi (j + 1) (by omega) (by omega) _ _ hP hD hS ls (lv_sub hl [2, 3, 4, 5, 1, 0] rfl)
          exact lpi _ 0 (Nat.lt_succ_self _) (by omega) _ _ hP hD hS ls (lv_sub hl [2, 3, 4, 5, 1, 0] rfl)
  exact lpo _ 0 0 (Nat.lt_succ_self _) (by omega) (by omega) _ _ hP hD hS ls (lv_sub hl [2, 3, 1, 0] rfl)

set_option maxHeartbeats 4000000 in
set_option maxRecDepth 100000 in
/-- tooLarge -/
theorem c_M_tooLarge (l : Launch) (dC : Nat → ClassId) (dI : Nat → Nat → Nat) (sz : Nat) (am : Nat → Nat) (cI cL cZ : ClassId) (t : bz_T) (th sv ex : Int32) (S1 S2 S3 : Nat → Int32) (ht : bz_ok t) (i0 : Nat) (hi0 : i0 < 2 ^ 31) (hc0 : ¬ bz_ct (bz_wh t) 4 = 0) : Met l y_M_tooLarge w_M_tooLarge ({ frames := 1, cells := 0, slots := 0, locals := 24 }) (bz_Pw (dC, dI) [(cI, .int), (cL, .long), (cZ, .boolean)] (bz_wM am cI cL cZ (bz_tM t) (th, sv, ex) (S1, S2, S3)) sz [.ref (am 0), .int (nI i0)]) (bz_Qi (dC, dI) [(cI, .int), (cL, .long), (cZ, .boolean)] (va_A (bz_wM am cI cL cZ (bz_tM t) (th, sv, ex) (S1, S2, S3)) sz) (nI (bz_it (fun a => bz_tl t a 4) i0 (bz_n t) 0 0)) (bz_wM am cI cL cZ (bz_tM t) (0, sv, ex) (S1, S2, S3))) 0 0 (va_A (bz_wM am cI cL cZ (bz_tM t) (th, sv, ex) (S1, S2, S3)) sz) := by
  refine Met.ofW (cc := b_M_tooLarge) (maxL := 6) (ret := (some .int)) (by decide) rfl ?_
  intro p e s m args below meth c s₁ B hml hv
  obtain ⟨rfl, hsz, hP, hK, hD0, hN⟩ := hv
  have hx := B.exec
  have hb := B.bytes
  have hr := B.returns
  have hts := atoms_spec (ws := w_M_tooLarge) B.pre
  have hown : s.vm.findClass R_M = some m.cls := findClass_of_methodNamed B.named
  have htb : ∀ w ∈ bz_tb, w.before _ s = true := fun w h => hts w (List.mem_cons_of_mem _ h)
  have hlocks := B.notSynchronized
  subst hsz
  have hD := hD0.self (sz := s.heap.size)
  generalize hAe : va_A (bz_wM am cI cL cZ (bz_tM t) (th, sv, ex) (S1, S2, S3)) s.heap.size = A at hD ⊢
  have hA : ∀ q : Nat, s.heap.size ≤ q → A q := fun q h => by rw [← hAe]; exact Or.inr h
  have hS : va_S A s.heap s.heap [] := va_S.rf
  have hl := lv_entry ([.ref (am 0), .int (nI i0)]) (n := 6) (Nat.le_of_ble_eq_true rfl)
  rw [lg_entry_eq]
  generalize (lg_sl ([.ref (am 0), .int (nI i0)]) ++ List.replicate (6 - (lg_sl ([.ref (am 0), .int (nI i0)])).length) Slot.unset).toArray = ls at hl ⊢
  have hl : lv_has ls 6 [(0, .ref (am 0)), (1, .int (nI i0))] := hl
  have hn30 := ht.1
  have hcc := bz_ct_le (bz_wh t) 4
  refine lv_aload_n hx hb d_M_tooLarge_0 rfl (lv_at hl 0 rfl) ?_
  refine lv_iconst (v := 0) hx hb d_M_tooLarge_1 (by decide) ?_
  refine va_put (D := (dC, dI)) (ci := 4) (v := .int 0) (ty := .int) (C := R_M) (T := F_M) (N := 12) hx hb htb in_M tf_M tok_M n_M hown hK hP hD hS 0 rfl rfl 0 (by decide) (htb _ wd_411) (fun _ h9 => h9) rfl (by decide +kernel) rfl rfl (Nat.le_of_ble_eq_true rfl) d_M_tooLarge_2 (fun H locs hP hD hS => ?_)
  have hP : va_P (dC, dI) vwCl (bz_wM am cI cL cZ (bz_tM t) (0, sv, ex) (S1, S2, S3)) H := hP
  have hD : va_D A (bz_wM am cI cL cZ (bz_tM t) (0, sv, ex) (S1, S2, S3)) := hD
  refine lv_iconst (v := nI 0) hx hb d_M_tooLarge_5 (by decide) ?_
  refine lv_istore_n (lv' := [(2, .int (nI 0)), (0, .ref (am 0)), (1, .int (nI i0))]) hx hb d_M_tooLarge_6 rfl hl (by decide) rfl (fun ls hl => ?_)
  refine lv_iconst (v := nI 0) hx hb d_M_tooLarge_7 (by decide) ?_
  refine lv_istore_n (lv' := [(3, .int (nI 0)), (2, .int (nI 0)), (0, .ref (am 0)), (1, .int (nI i0))]) hx hb d_M_tooLarge_8 rfl hl (by decide) rfl (fun ls hl => ?_)
  have lpo : ∀ (k9 : Nat) (i : Nat) (cn : Nat), bz_n t - i < k9 → (i ≤ bz_n t) → (cn ≤ i) → (bz_it (fun a => bz_tl t a 4) i0 (bz_n t) 0 0 = bz_it (fun a => bz_tl t a 4) i0 (bz_n t - i) i cn) → ∀ (H : Heap) (locs : List Loc), va_P (dC, dI) vwCl (bz_wM am cI cL cZ (bz_tM t) (0, sv, ex) (S1, S2, S3)) H → va_D A (bz_wM am cI cL cZ (bz_tM t) (0, sv, ex) (S1, S2, S3)) → va_S A s.heap H locs → ∀ (ls : Array Slot), lv_has ls 6 [(0, .ref (am 0)), (1, .int (nI i0)), (2, .int (nI cn)), (3, .int (nI i))] → W p l e (headSpec w_M_tooLarge ({ frames := 1, cells := 0, slots := 0, locals := 24 })).room s m ([.ref (am 0), .int (nI i0)]).toArray below meth c H locs 0 0 (MQ below (bz_Qi (dC, dI) [(cI, .int), (cL, .long), (cZ, .boolean)] A (nI (bz_it (fun a => bz_tl t a 4) i0 (bz_n t) 0 0)) (bz_wM am cI cL cZ (bz_tM t) (0, sv, ex) (S1, S2, S3))) ([.ref (am 0), .int (nI i0)]).toArray s 0 0 (A)) (F0 m 9 ls []) := by
    intro k9
    induction k9 with
    | zero =>
      intro i cn h9
      exact absurd h9 (Nat.not_lt_zero _)
    | succ k9 ihlpo =>
      intro i cn h9_lpo hi hcn hit H locs hP hD hS ls hl
      refine lv_iload_n hx hb d_M_tooLarge_9 rfl (lv_at hl 3 rfl) ?_
      refine lv_aload_n hx hb d_M_tooLarge_10 rfl (lv_at hl 0 rfl) ?_
      refine va_get (D := (dC, dI)) (ci := 4) (v := .int (nI (bz_n t))) (C := R_M) (T := F_M) (N := 12) hx hb htb in_M hown hK hP 0 rfl rfl 1 (by decide) (htb _ wd_412) (fun _ h9 => h9) rfl d_M_tooLarge_11 ?_
      refine lv_icmp_ge (tgt := 117) hx hb d_M_tooLarge_14 (by decide) (fun c_14 => ?_) (fun c_14 => ?_)
      · skip
        have hin : i = bz_n t := by have := (nI_leI (by omega) (by omega)).mp c_14; omega
        refine lv_iconst (v := 0) hx hb d_M_tooLarge_117 (by decide) ?_
        exact W.iret (v := 0) hx hb hr (fun t9 ht9 hW => ⟨⟨0, (), rfl, by rw [hit, hin, Nat.sub_self]; rfl, by rw [ht9]; exact hP, va_K.moved hW.alike hK, hD⟩, hS.F ht9⟩) hS.2.2 d_M_tooLarge_118
      · skip
        have hin : i < bz_n t := Nat.lt_of_not_le fun z => c_14 ((nI_leI (by omega) (by omega)).mpr z)
        refine lv_aload_n hx hb d_M_tooLarge_17 rfl (lv_at hl 0 rfl) ?_
        refine bz_si (va_runV (As := []) (rest := []) ⟨hx, hb, hml, hown, htb⟩ (c_M_withHours l dC dI am cI cL cZ t 0 sv ex S1 S2 S3 ht) (cwV 0 htb (bz_gV wd_553 wd_550 wd_552 wd_16 wd_23) rfl rfl rfl (by decide +kernel) ⟨Nat.le_of_ble_eq_true rfl, Nat.le_of_ble_eq_true rfl⟩) (bz_rv hN hK hP (q0 := 0) rfl rfl) rfl rfl hl.1 rfl (lv_room (Nat.le_of_ble_eq_true rfl)) d_M_tooLarge_18 ⟨Nat.zero_le _, Nat.zero_le _⟩) ?_
        refine lv_if_le (tgt := 117) hx hb d_M_tooLarge_21 (by decide) (fun c_21 => ?_) (fun c_21 => ?_)
        · skip
          exact absurd c_21 (nI_nle (by omega) (by omega))
        · skip
          refine lv_iconst (v := nI 0) hx hb d_M_tooLarge_24 (by decide) ?_
          refine lv_istore (lv' := [(4, .int (nI 0)), (0, .ref (am 0)), (1, .int (nI i0)), (2, .int (nI cn)), (3, .int (nI i))]) hx hb d_M_tooLarge_25 hl (by decide) rfl (fun ls hl => ?_)
          refine lv_iconst (v := nI 0) hx hb d_M_tooLarge_27 (by decide) ?_
          refine lv_istore (lv' := [(5, .int (nI 0)), (4, .int (nI 0)), (0, .ref (am 0)), (1, .int (nI i0)), (2, .int (nI cn)), (3, .int (nI i))]) hx hb d_M_tooLarge_28 hl (by decide) rfl (fun ls hl => ?_)
          have lpi : ∀ (k9 : Nat) (j : Nat), 4 - j < k9 → (j ≤ 4) → ∀ (H : Heap) (locs : List Loc), va_P (dC, dI) vwCl (bz_wM am cI cL cZ (bz_tM t) (0, sv, ex) (S1, S2, S3)) H → va_D A (bz_wM am cI cL cZ (bz_tM t) (0, sv, ex) (S1, S2, S3)) → va_S A s.heap H locs → ∀ (ls : Array Slot), lv_has ls 6 [(0, .ref (am 0)), (1, .int (nI i0)), (2, .int (nI cn)), (3, .int (nI i)), (4, .int (bz_i (!bz_tl t i j))), (5, .int (nI j))] → W p l e (headSpec w_M_tooLarge ({ frames := 1, cells := 0, slots := 0, locals := 24 })).room s m ([.ref (am 0), .int (nI i0)]).toArray below meth c H locs 0 0 (MQ below (bz_Qi (dC, dI) [(cI, .int), (cL, .long), (cZ, .boolean)] A (nI (bz_it (fun a => bz_tl t a 4) i0 (bz_n t) 0 0)) (bz_wM am cI cL cZ (bz_tM t) (0, sv, ex) (S1, S2, S3))) ([.ref (am 0), .int (nI i0)]).toArray s 0 0 (A)) (F0 m 30 ls []) := by
            intro k9
            induction k9 with
            | zero =>
              intro j h9
              exact absurd h9 (Nat.not_lt_zero _)
            | succ k9 ihlpi =>
              intro j h9_lpi hj H locs hP hD hS ls hl
              refine lv_iload hx hb d_M_tooLarge_30 (lv_at hl 5 rfl) ?_
              refine lv_iconst (v := 4) hx hb d_M_tooLarge_32 (by decide) ?_
              refine lv_icmp_ge (tgt := 84) hx hb d_M_tooLarge_33 (by decide) (fun c_33 => ?_) (fun c_33 => ?_)
              · skip
                have hj4 : j = 4 := by have := (nI_leI (a := 4) (by omega) (by omega)).mp c_33; omega
                have hl : lv_has ls 6 [(0, .ref (am 0)), (1, .int (nI i0)), (2, .int (nI cn)), (3, .int (nI i)), (4, .int (bz_i (!bz_tl t i 4))), (5, .int (nI j))] := by rw [show bz_i (!bz_tl t i 4) = bz_i (!bz_tl t i j) from by rw [hj4]]; exact hl
                refine lv_iload hx hb d_M_tooLarge_84 (lv_at hl 4 rfl) ?_
                refine lv_if_ne (tgt := 98) hx hb d_M_tooLarge_86 (by decide) (fun c_86 => ?_) (fun c_86 => ?_)
                · skip
                  have hf1 : bz_tl t i 4 = false := by have := bz_i_ne c_86; simpa using this
                  refine lv_iload hx hb d_M_tooLarge_98 (lv_at hl 4 rfl) ?_
                  refine lv_if_eq (tgt := 107) hx hb d_M_tooLarge_100 (by decide) (fun c_100 => ?_) (fun c_100 => ?_)
                  · skip
                    exact absurd (bz_i_eq c_100) (by rw [hf1]; decide)
                  · skip
                    refine lv_iload_n hx hb d_M_tooLarge_103 rfl (lv_at hl 2 rfl) ?_
                    refine lv_goto (tgt := 110) hx hb d_M_tooLarge_104 (by decide) ?_
                    refine lv_istore_n (lv' := [(2, .int (nI cn)), (0, .ref (am 0)), (1, .int (nI i0)), (3, .int (nI i)), (4, .int (bz_i (!bz_tl t i 4))), (5, .int (nI j))]) hx hb d_M_tooLarge_110 rfl hl (by decide) rfl (fun ls hl => ?_)
                    refine lv_iinc (v := nI (i + 1)) (lv' := [(3, .int (nI (i + 1))), (2, .int (nI cn)), (0, .ref (am 0)), (1, .int (nI i0)), (4, .int (bz_i (!bz_tl t i 4))), (5, .int (nI j))]) hx hb d_M_tooLarge_111 hl (k := 3) rfl (nI_1 _) (by decide) rfl (fun ls hl => ?_)
                    refine lv_goto (tgt := 9) hx hb d_M_tooLarge_114 (by decide) ?_
                    exact ihlpo (i + 1) cn (by omega) (by omega) (by omega) (by rw [hit, show bz_n t - i = bz_n t - (i + 1) + 1 by omega, bz_it_f (f := (fun a => bz_tl t a 4)) hf1]) _ _ hP hD hS ls (lv_sub hl [2, 3, 1, 0] rfl)
                · skip
                  have hf1 : bz_tl t i 4 = true := by have := bz_i_eq c_86; simpa using this
                  refine lv_iload_n hx hb d_M_tooLarge_89 rfl (lv_at hl 2 rfl) ?_
                  refine lv_iload_n hx hb d_M_tooLarge_90 rfl (lv_at hl 1 rfl) ?_
                  refine lv_icmp_ne (tgt := 98) hx hb d_M_tooLarge_91 (by decide) (fun c_91 => ?_) (fun c_91 => ?_)
                  · skip
                    have hci : ¬ cn = i0 := fun z => c_91 (by rw [z])
                    refine lv_iload hx hb d_M_tooLarge_98 (lv_at hl 4 rfl) ?_
                    refine lv_if_eq (tgt := 107) hx hb d_M_tooLarge_100 (by decide) (fun c_100 => ?_) (fun c_100 => ?_)
                    · skip
                      refine lv_iload_n hx hb d_M_tooLarge_107 rfl (lv_at hl 2 rfl) ?_
                      refine lv_iconst (v := 1) hx hb d_M_tooLarge_108 (by decide) ?_
                      refine lv_iadd hx hb d_M_tooLarge_109 ?_
                      refine bz_ri (y := nI (cn + 1)) (nI_1 _) ?_
                      refine lv_istore_n (lv' := [(2, .int (nI (cn + 1))), (0, .ref (am 0)), (1, .int (nI i0)), (3, .int (nI i)), (4, .int (bz_i (!bz_tl t i 4))), (5, .int (nI j))]) hx hb d_M_tooLarge_110 rfl hl (by decide) rfl (fun ls hl => ?_)
                      refine lv_iinc (v := nI (i + 1)) (lv' := [(3, .int (nI (i + 1))), (2, .int (nI (cn + 1))), (0, .ref (am 0)), (1, .int (nI i0)), (4, .int (bz_i (!bz_tl t i 4))), (5, .int (nI j))]) hx hb d_M_tooLarge_111 hl (k := 3) rfl (nI_1 _) (by decide) rfl (fun ls hl => ?_)
                      refine lv_goto (tgt := 9) hx hb d_M_tooLarge_114 (by decide) ?_
                      exact ihlpo (i + 1) (cn + 1) (by omega) (by omega) (by omega) (by rw [hit, show bz_n t - i = bz_n t - (i + 1) + 1 by omega, bz_it_n (f := (fun a => bz_tl t a 4)) hf1 hci]) _ _ hP hD hS ls (lv_sub hl [2, 3, 1, 0] rfl)
                    · skip
                      exact absurd (bz_i_ne c_100) (by rw [hf1]; decide)
                  · skip
                    have hci : cn = i0 := (nI_eq (by omega) hi0).mp c_91
                    refine lv_iload_n hx hb d_M_tooLarge_94 rfl (lv_at hl 3 rfl) ?_
                    refine lv_iconst (v := 1) hx hb d_M_tooLarge_95 (by decide) ?_
                    refine lv_iadd hx hb d_M_tooLarge_96 ?_
                    refine bz_ri (y := nI (i + 1)) (nI_1 _) ?_
                    exact W.iret (v := nI (i + 1)) hx hb hr (fun t9 ht9 hW => ⟨⟨nI (i + 1), (), rfl, by rw [hit, show bz_n t - i = bz_n t - (i + 1) + 1 by omega, hci, bz_it_y (f := (fun a => bz_tl t a 4)) hf1], by rw [ht9]; exact hP, va_K.moved hW.alike hK, hD⟩, hS.F ht9⟩) hS.2.2 d_M_tooLarge_97
              · skip
                have hj4 : j < 4 := Nat.lt_of_not_le fun z => c_33 ((nI_leI (a := 4) (b := j) (by omega) (by omega)).mpr z)
                have hhj := ht.2.2.2.2.2.2 j
                have hwj := bz_w_le ht i j
                refine lv_iload hx hb d_M_tooLarge_36 (lv_at hl 4 rfl) ?_
                refine lv_if_ne (tgt := 71) hx hb d_M_tooLarge_38 (by decide) (fun c_38 => ?_) (fun c_38 => ?_)
                · skip
                  have hB : bz_tl t i (j + 1) = false := bz_tl_0 (k := j) (by have := bz_i_ne c_38; simpa using this) (j + 1) (by omega)
                  refine lv_iconst (v := 1) hx hb d_M_tooLarge_71 (by decide) ?_
                  refine lv_goto (tgt := 76) hx hb d_M_tooLarge_72 (by decide) ?_
                  refine bz_ri (y := bz_i (!bz_tl t i (j + 1))) (by rw [hB]; rfl) ?_
                  refine lv_istore (lv' := [(4, .int (bz_i (!bz_tl t i (j + 1)))), (0, .ref (am 0)), (1, .int (nI i0)), (2, .int (nI cn)), (3, .int (nI i)), (5, .int (nI j))]) hx hb d_M_tooLarge_76 hl (by decide) rfl (fun ls hl => ?_)
                  refine lv_iinc (v := nI (j + 1)) (lv' := [(5, .int (nI (j + 1))), (4, .int (bz_i (!bz_tl t i (j + 1)))), (0, .ref (am 0)), (1, .int (nI i0)), (2, .int (nI cn)), (3, .int (nI i))]) hx hb d_M_tooLarge_78 hl (k := 5) rfl (nI_1 _) (by decide) rfl (fun ls hl => ?_)
                  refine lv_goto (tgt := 30) hx hb d_M_tooLarge_81 (by decide) ?_
                  exact ihlpi (j + 1) (by omega) (by omega) _ _ hP hD hS ls (lv_sub hl [2, 3, 4, 5, 1, 0] rfl)
                · skip
                  have hT : bz_tl t i j = true := by have := bz_i_eq c_38; simpa using this
                  refine lv_aload_n hx hb d_M_tooLarge_41 rfl (lv_at hl 0 rfl) ?_
                  refine va_get (D := (dC, dI)) (ci := 4) (v := .ref (am 5)) (C := R_M) (T := F_M) (N := 12) hx hb htb in_M hown hK hP 0 rfl rfl 6 (by decide) (htb _ wd_417) (fun _ h9 => h9) rfl d_M_tooLarge_42 ?_
                  refine lv_iload hx hb d_M_tooLarge_45 (lv_at hl 5 rfl) ?_
                  refine bz_lald (v := lN (bz_h t j)) hx hb hK hP 5 1 rfl rfl (a9 := j) (by omega) (by decide) (rfl) d_M_tooLarge_47 ?_
                  refine lv_lconst (v := 0) hx hb d_M_tooLarge_48 (by decide) ?_
                  refine W.lcmp hx hb d_M_tooLarge_49 ?_
                  refine lv_if_le (tgt := 75) hx hb d_M_tooLarge_50 (by decide) (fun c_50 => ?_) (fun c_50 => ?_)
                  · skip
                    have hB : bz_tl t i (j + 1) = true := bz_tl_y hT (Or.inl ((bz_lc_le (b := 0) (by omega) (by omega)).mp c_50))
                    refine lv_iconst (v := nI 0) hx hb d_M_tooLarge_75 (by decide) ?_
                    refine bz_ri (y := bz_i (!bz_tl t i (j + 1))) (by rw [hB]; rfl) ?_
                    refine lv_istore (lv' := [(4, .int (bz_i (!bz_tl t i (j + 1)))), (0, .ref (am 0)), (1, .int (nI i0)), (2, .int (nI cn)), (3, .int (nI i)), (5, .int (nI j))]) hx hb d_M_tooLarge_76 hl (by decide) rfl (fun ls hl => ?_)
                    refine lv_iinc (v := nI (j + 1)) (lv' := [(5, .int (nI (j + 1))), (4, .int (bz_i (!bz_tl t i (j + 1)))), (0, .ref (am 0)), (1, .int (nI i0)), (2, .int (nI cn)), (3, .int (nI i))]) hx hb d_M_tooLarge_78 hl (k := 5) rfl (nI_1 _) (by decide) rfl (fun ls hl => ?_)
                    refine lv_goto (tgt := 30) hx hb d_M_tooLarge_81 (by decide) ?_
                    exact ihlpi (j + 1) (by omega) (by omega) _ _ hP hD hS ls (lv_sub hl [2, 3, 4, 5, 1, 0] rfl)
                  · skip
                    have hh0 : 0 < bz_h t j := Nat.lt_of_not_le fun z => c_50 ((bz_lc_le (b := 0) (by omega) (by omega)).mpr z)
                    refine lv_aload_n hx hb d_M_tooLarge_53 rfl (lv_at hl 0 rfl) ?_
                    refine lv_iload_n hx hb d_M_tooLarge_54 rfl (lv_at hl 3 rfl) ?_
                    refine lv_iload hx hb d_M_tooLarge_55 (lv_at hl 5 rfl) ?_
                    refine bz_sl (va_runV (As := [.int (nI i), .int (nI j)]) (rest := []) ⟨hx, hb, hml, hown, htb⟩ (c_M_loadOf l dC dI am cI cL cZ t 0 sv ex S1 S2 S3 ht _ _ (by omega) (by omega)) (cwV 2 htb (bz_gV wd_509 wd_506 wd_508 wd_11 wd_23) rfl rfl rfl (by decide +kernel) ⟨Nat.le_of_ble_eq_true rfl, Nat.le_of_ble_eq_true rfl⟩) (bz_rv hN hK hP (q0 := 0) rfl rfl) rfl rfl hl.1 rfl (lv_room (Nat.le_of_ble_eq_true rfl)) d_M_tooLarge_57 ⟨Nat.zero_le _, Nat.zero_le _⟩) ?_
                    refine lv_aload_n hx hb d_M_tooLarge_60 rfl (lv_at hl 0 rfl) ?_
                    refine va_get (D := (dC, dI)) (ci := 4) (v := .ref (am 5)) (C := R_M) (T := F_M) (N := 12) hx hb htb in_M hown hK hP 0 rfl rfl 6 (by decide) (htb _ wd_417) (fun _ h9 => h9) rfl d_M_tooLarge_61 ?_
                    refine lv_iload hx hb d_M_tooLarge_64 (lv_at hl 5 rfl) ?_
                    refine bz_lald (v := lN (bz_h t j)) hx hb hK hP 5 1 rfl rfl (a9 := j) (by omega) (by decide) (rfl) d_M_tooLarge_66 ?_
                    refine W.lcmp hx hb d_M_tooLarge_67 ?_
                    refine lv_if_gt (tgt := 75) hx hb d_M_tooLarge_68 (by decide) (fun c_68 => ?_) (fun c_68 => ?_)
                    · skip
                      have hB : bz_tl t i (j + 1) = true := bz_tl_y hT (Or.inr ((bz_lc_gt (by omega) (by omega)).mp c_68))
                      refine lv_iconst (v := nI 0) hx hb d_M_tooLarge_75 (by decide) ?_
                      refine bz_ri (y := bz_i (!bz_tl t i (j + 1))) (by rw [hB]; rfl) ?_
                      refine lv_istore (lv' := [(4, .int (bz_i (!bz_tl t i (j + 1)))), (0, .ref (am 0)), (1, .int (nI i0)), (2, .int (nI cn)), (3, .int (nI i)), (5, .int (nI j))]) hx hb d_M_tooLarge_76 hl (by decide) rfl (fun ls hl => ?_)
                      refine lv_iinc (v := nI (j + 1)) (lv' := [(5, .int (nI (j + 1))), (4, .int (bz_i (!bz_tl t i (j + 1)))), (0, .ref (am 0)), (1, .int (nI i0)), (2, .int (nI cn)), (3, .int (nI i))]) hx hb d_M_tooLarge_78 hl (k := 5) rfl (nI_1 _) (by decide) rfl (fun ls hl => ?_)
                      refine lv_goto (tgt := 30) hx hb d_M_tooLarge_81 (by decide) ?_
                      exact ihlpi (j + 1) (by omega) (by omega) _ _ hP hD hS ls (lv_sub hl [2, 3, 4, 5, 1, 0] rfl)
                    · skip
                      have hB : bz_tl t i (j + 1) = false := bz_tl_n hh0 (Nat.le_of_not_lt fun z => c_68 ((bz_lc_gt (by omega) (by omega)).mpr z))
                      refine lv_iconst (v := 1) hx hb d_M_tooLarge_71 (by decide) ?_
                      refine lv_goto (tgt := 76) hx hb d_M_tooLarge_72 (by decide) ?_
                      refine bz_ri (y := bz_i (!bz_tl t i (j + 1))) (by rw [hB]; rfl) ?_
                      refine lv_istore (lv' := [(4, .int (bz_i (!bz_tl t i (j + 1)))), (0, .ref (am 0)), (1, .int (nI i0)), (2, .int (nI cn)), (3, .int (nI i)), (5, .int (nI j))]) hx hb d_M_tooLarge_76 hl (by decide) rfl (fun ls hl => ?_)
                      refine lv_iinc (v := nI (j + 1)) (lv' := [(5, .int (nI (j + 1))), (4, .int (bz_i (!bz_tl t i (j + 1)))), (0, .ref (am 0)), (1, .int (nI i0)), (2, .int (nI cn)), (3, .int (nI i))]) hx hb d_M_tooLarge_78 hl (k := 5) rfl (nI_1 _) (by decide) rfl (fun ls hl => ?_)
                      refine lv_goto (tgt := 30) hx hb d_M_tooLarge_81 (by decide) ?_
                      exact ihlpi (j + 1) (by omega) (by omega) _ _ hP hD hS ls (lv_sub hl [2, 3, 4, 5, 1, 0] rfl)
          exact lpi _ 0 (Nat.lt_succ_self _) (by omega) _ _ hP hD hS ls (lv_sub hl [2, 3, 4, 5, 1, 0] rfl)
  exact lpo _ 0 0 (Nat.lt_succ_self _) (by omega) (by omega) (rfl) _ _ hP hD hS ls (lv_sub hl [2, 3, 1, 0] rfl)
