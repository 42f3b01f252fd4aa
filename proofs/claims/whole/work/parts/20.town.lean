theorem d_T_isKnown_0 : decode b_T_isKnown 0 = .ok (.aload_n 0, 1) := by decide +kernel
theorem d_T_isKnown_1 : decode b_T_isKnown 1 = .ok (.getfield 22, 3) := by decide +kernel
theorem d_T_isKnown_4 : decode b_T_isKnown 4 = .ok (.iload_n 2, 1) := by decide +kernel
theorem d_T_isKnown_5 : decode b_T_isKnown 5 = .ok (.iaload, 1) := by decide +kernel
theorem d_T_isKnown_6 : decode b_T_isKnown 6 = .ok (.iconst 1, 1) := by decide +kernel
theorem d_T_isKnown_7 : decode b_T_isKnown 7 = .ok (.iload_n 1, 1) := by decide +kernel
theorem d_T_isKnown_8 : decode b_T_isKnown 8 = .ok (.ishl, 1) := by decide +kernel
theorem d_T_isKnown_9 : decode b_T_isKnown 9 = .ok (.iand, 1) := by decide +kernel
theorem d_T_isKnown_10 : decode b_T_isKnown 10 = .ok (.ifCond .eq 7, 3) := by decide +kernel
theorem d_T_isKnown_13 : decode b_T_isKnown 13 = .ok (.iconst 1, 1) := by decide +kernel
theorem d_T_isKnown_14 : decode b_T_isKnown 14 = .ok (.goto 4, 3) := by decide +kernel
theorem d_T_isKnown_17 : decode b_T_isKnown 17 = .ok (.iconst 0, 1) := by decide +kernel
theorem d_T_isKnown_18 : decode b_T_isKnown 18 = .ok (.ireturn, 1) := by decide +kernel
theorem d_T_areJoined_0 : decode b_T_areJoined 0 = .ok (.aload_n 0, 1) := by decide +kernel
theorem d_T_areJoined_1 : decode b_T_areJoined 1 = .ok (.getfield 19, 3) := by decide +kernel
theorem d_T_areJoined_4 : decode b_T_areJoined 4 = .ok (.iload_n 1, 1) := by decide +kernel
theorem d_T_areJoined_5 : decode b_T_areJoined 5 = .ok (.iaload, 1) := by decide +kernel
theorem d_T_areJoined_6 : decode b_T_areJoined 6 = .ok (.iconst 1, 1) := by decide +kernel
theorem d_T_areJoined_7 : decode b_T_areJoined 7 = .ok (.iload_n 2, 1) := by decide +kernel
theorem d_T_areJoined_8 : decode b_T_areJoined 8 = .ok (.ishl, 1) := by decide +kernel
theorem d_T_areJoined_9 : decode b_T_areJoined 9 = .ok (.iand, 1) := by decide +kernel
theorem d_T_areJoined_10 : decode b_T_areJoined 10 = .ok (.ifCond .eq 7, 3) := by decide +kernel
theorem d_T_areJoined_13 : decode b_T_areJoined 13 = .ok (.iconst 1, 1) := by decide +kernel
theorem d_T_areJoined_14 : decode b_T_areJoined 14 = .ok (.goto 4, 3) := by decide +kernel
theorem d_T_areJoined_17 : decode b_T_areJoined 17 = .ok (.iconst 0, 1) := by decide +kernel
theorem d_T_areJoined_18 : decode b_T_areJoined 18 = .ok (.ireturn, 1) := by decide +kernel
theorem d_T_loadIn_0 : decode b_T_loadIn 0 = .ok (.aload_n 0, 1) := by decide +kernel
theorem d_T_loadIn_1 : decode b_T_loadIn 1 = .ok (.iload_n 1, 1) := by decide +kernel
theorem d_T_loadIn_2 : decode b_T_loadIn 2 = .ok (.iload_n 2, 1) := by decide +kernel
theorem d_T_loadIn_3 : decode b_T_loadIn 3 = .ok (.invokevirtual 32, 3) := by decide +kernel
theorem d_T_loadIn_6 : decode b_T_loadIn 6 = .ok (.ifCond .eq 24, 3) := by decide +kernel
theorem d_T_loadIn_9 : decode b_T_loadIn 9 = .ok (.aload_n 0, 1) := by decide +kernel
theorem d_T_loadIn_10 : decode b_T_loadIn 10 = .ok (.getfield 9, 3) := by decide +kernel
theorem d_T_loadIn_13 : decode b_T_loadIn 13 = .ok (.iload_n 1, 1) := by decide +kernel
theorem d_T_loadIn_14 : decode b_T_loadIn 14 = .ok (.laload, 1) := by decide +kernel
theorem d_T_loadIn_15 : decode b_T_loadIn 15 = .ok (.ldc2_w 36, 3) := by decide +kernel
theorem d_T_loadIn_18 : decode b_T_loadIn 18 = .ok (.lmul, 1) := by decide +kernel
theorem d_T_loadIn_19 : decode b_T_loadIn 19 = .ok (.ldc2_w 36, 3) := by decide +kernel
theorem d_T_loadIn_22 : decode b_T_loadIn 22 = .ok (.ladd, 1) := by decide +kernel
theorem d_T_loadIn_23 : decode b_T_loadIn 23 = .ok (.ldc2_w 38, 3) := by decide +kernel
theorem d_T_loadIn_26 : decode b_T_loadIn 26 = .ok (.ldiv, 1) := by decide +kernel
theorem d_T_loadIn_27 : decode b_T_loadIn 27 = .ok (.goto 9, 3) := by decide +kernel
theorem d_T_loadIn_30 : decode b_T_loadIn 30 = .ok (.aload_n 0, 1) := by decide +kernel
theorem d_T_loadIn_31 : decode b_T_loadIn 31 = .ok (.getfield 9, 3) := by decide +kernel
theorem d_T_loadIn_34 : decode b_T_loadIn 34 = .ok (.iload_n 1, 1) := by decide +kernel
theorem d_T_loadIn_35 : decode b_T_loadIn 35 = .ok (.laload, 1) := by decide +kernel
theorem d_T_loadIn_36 : decode b_T_loadIn 36 = .ok (.lreturn, 1) := by decide +kernel

theorem bz_w_k {t : bz_T} (ht : bz_ok t) {a r : Nat} (h : bz_k t r a = true) : (lN (bz_l t a) * 9 + 9) / 10 = lN (bz_w t a r) := by
  have h1 := ht.2.1 a
  rw [show (9 : Int64) = lN 9 from rfl, show (10 : Int64) = lN 10 from rfl, lN_mul, lN_add, pk_lDiv (by omega) (by omega) (by omega)]
  unfold bz_w
  rw [if_pos h]
theorem bz_w_n {t : bz_T} {a r : Nat} (h : bz_k t r a = false) : lN (bz_l t a) = lN (bz_w t a r) := by
  unfold bz_w
  rw [if_neg (by simp [h])]

set_option maxHeartbeats 4000000 in
set_option maxRecDepth 100000 in
/-- Town.isKnown -/
theorem c_T_isKnown (l : Launch) (dC : Nat → ClassId) (dI : Nat → Nat → Nat) (ad : Nat → Nat) (cI cL : ClassId) (t : bz_T) (R : bz_RS) (L : (Nat → Int32) × Int64) (v : Int32) (a r : Nat) (ha : a < 30) (hr4 : r < 4) : Met l y_T_isKnown w_T_isKnown ({ frames := 0, cells := 0, slots := 0, locals := 0 }) (bz_Pr (dC, dI) [(cI, .int), (cL, .long)] (bz_wB ad cI cL (bz_tR t) R L v) [.ref (ad 1), .int (nI a), .int (nI r)]) (vp_Si (fun r9 => r9 = bz_i (bz_k t r a))) 0 0 (fun _ => False) := by
  refine Met.ofW (cc := b_T_isKnown) (maxL := 3) (ret := (some .boolean)) (by decide) rfl ?_
  intro p e s m args below meth c s₁ B hml hv
  obtain ⟨rfl, hP, hK, hN⟩ := hv
  have hx := B.exec
  have hb := B.bytes
  have hr := B.returns
  have hts := atoms_spec (ws := w_T_isKnown) B.pre
  have hown : s.vm.findClass R_T = some m.cls := findClass_of_methodNamed B.named
  have htb : ∀ w ∈ bz_tb, w.before _ s = true := fun w h => hts w (List.mem_cons_of_mem _ h)
  have hlocks := B.notSynchronized
  have hl := lv_entry ([.ref (ad 1), .int (nI a), .int (nI r)]) (n := 3) (Nat.le_of_ble_eq_true rfl)
  rw [lg_entry_eq]
  generalize (lg_sl ([.ref (ad 1), .int (nI a), .int (nI r)]) ++ List.replicate (3 - (lg_sl ([.ref (ad 1), .int (nI a), .int (nI r)])).length) Slot.unset).toArray = ls at hl ⊢
  have hl : lv_has ls 3 [(0, .ref (ad 1)), (1, .int (nI a)), (2, .int (nI r))] := hl
  refine lv_aload_n hx hb d_T_isKnown_0 rfl (lv_at hl 0 rfl) ?_
  refine va_get (D := (dC, dI)) (ci := 2) (v := .ref (ad 5)) (C := R_T) (T := F_T) (N := 6) hx hb htb in_T hown hK hP 1 rfl rfl 3 (by decide) (htb _ wd_51) (fun _ h9 => h9) rfl d_T_isKnown_1 ?_
  refine lv_iload_n hx hb d_T_isKnown_4 rfl (lv_at hl 2 rfl) ?_
  refine bz_iald (v := bz_m (bz_k t r)) hx hb hK hP 5 0 rfl rfl (a9 := r) (by omega) (by decide) (rfl) d_T_isKnown_5 ?_
  refine lv_iconst (v := 1) hx hb d_T_isKnown_6 (by decide) ?_
  refine lv_iload_n hx hb d_T_isKnown_7 rfl (lv_at hl 1 rfl) ?_
  refine lv_ishl hx hb d_T_isKnown_8 ?_
  refine lv_iand hx hb d_T_isKnown_9 ?_
  refine lv_if_eq (tgt := 17) hx hb d_T_isKnown_10 (by decide) (fun c_10 => ?_) (fun c_10 => ?_)
  · skip
    have hq := (bz_test _ (by omega)).mp c_10
    refine lv_iconst (v := 0) hx hb d_T_isKnown_17 (by decide) ?_
    exact W.zret (v := 0) hx hb hr (rfl) (fun t9 ht9 hW => ⟨0, rfl, by rw [hq]; rfl, ht9⟩) (fun _ h => nomatch h) d_T_isKnown_18
  · skip
    have hq := ts_nf (fun z => c_10 ((bz_test _ (by omega)).mpr z))
    refine lv_iconst (v := 1) hx hb d_T_isKnown_13 (by decide) ?_
    refine lv_goto (tgt := 18) hx hb d_T_isKnown_14 (by decide) ?_
    exact W.zret (v := 1) hx hb hr (rfl) (fun t9 ht9 hW => ⟨1, rfl, by rw [hq]; rfl, ht9⟩) (fun _ h => nomatch h) d_T_isKnown_18

set_option maxHeartbeats 4000000 in
set_option maxRecDepth 100000 in
/-- Town.areJoined -/
theorem c_T_areJoined (l : Launch) (dC : Nat → ClassId) (dI : Nat → Nat → Nat) (ad : Nat → Nat) (cI cL : ClassId) (t : bz_T) (R : bz_RS) (L : (Nat → Int32) × Int64) (v : Int32) (a b : Nat) (ha : a < 30) (hb30 : b < 30) : Met l y_T_areJoined w_T_areJoined ({ frames := 0, cells := 0, slots := 0, locals := 0 }) (bz_Pr (dC, dI) [(cI, .int), (cL, .long)] (bz_wB ad cI cL (bz_tR t) R L v) [.ref (ad 1), .int (nI a), .int (nI b)]) (vp_Si (fun r9 => r9 = bz_i (bz_j t a b))) 0 0 (fun _ => False) := by
  refine Met.ofW (cc := b_T_areJoined) (maxL := 3) (ret := (some .boolean)) (by decide) rfl ?_
  intro p e s m args below meth c s₁ B hml hv
  obtain ⟨rfl, hP, hK, hN⟩ := hv
  have hx := B.exec
  have hb := B.bytes
  have hr := B.returns
  have hts := atoms_spec (ws := w_T_areJoined) B.pre
  have hown : s.vm.findClass R_T = some m.cls := findClass_of_methodNamed B.named
  have htb : ∀ w ∈ bz_tb, w.before _ s = true := fun w h => hts w (List.mem_cons_of_mem _ h)
  have hlocks := B.notSynchronized
  have hl := lv_entry ([.ref (ad 1), .int (nI a), .int (nI b)]) (n := 3) (Nat.le_of_ble_eq_true rfl)
  rw [lg_entry_eq]
  generalize (lg_sl ([.ref (ad 1), .int (nI a), .int (nI b)]) ++ List.replicate (3 - (lg_sl ([.ref (ad 1), .int (nI a), .int (nI b)])).length) Slot.unset).toArray = ls at hl ⊢
  have hl : lv_has ls 3 [(0, .ref (ad 1)), (1, .int (nI a)), (2, .int (nI b))] := hl
  refine lv_aload_n hx hb d_T_areJoined_0 rfl (lv_at hl 0 rfl) ?_
  refine va_get (D := (dC, dI)) (ci := 2) (v := .ref (ad 4)) (C := R_T) (T := F_T) (N := 6) hx hb htb in_T hown hK hP 1 rfl rfl 2 (by decide) (htb _ wd_50) (fun _ h9 => h9) rfl d_T_areJoined_1 ?_
  refine lv_iload_n hx hb d_T_areJoined_4 rfl (lv_at hl 1 rfl) ?_
  refine bz_iald (v := bz_m (bz_j t a)) hx hb hK hP 4 0 rfl rfl (a9 := a) (by omega) (by decide) (rfl) d_T_areJoined_5 ?_
  refine lv_iconst (v := 1) hx hb d_T_areJoined_6 (by decide) ?_
  refine lv_iload_n hx hb d_T_areJoined_7 rfl (lv_at hl 2 rfl) ?_
  refine lv_ishl hx hb d_T_areJoined_8 ?_
  refine lv_iand hx hb d_T_areJoined_9 ?_
  refine lv_if_eq (tgt := 17) hx hb d_T_areJoined_10 (by decide) (fun c_10 => ?_) (fun c_10 => ?_)
  · skip
    have hq := (bz_test _ (by omega)).mp c_10
    refine lv_iconst (v := 0) hx hb d_T_areJoined_17 (by decide) ?_
    exact W.zret (v := 0) hx hb hr (rfl) (fun t9 ht9 hW => ⟨0, rfl, by rw [hq]; rfl, ht9⟩) (fun _ h => nomatch h) d_T_areJoined_18
  · skip
    have hq := ts_nf (fun z => c_10 ((bz_test _ (by omega)).mpr z))
    refine lv_iconst (v := 1) hx hb d_T_areJoined_13 (by decide) ?_
    refine lv_goto (tgt := 18) hx hb d_T_areJoined_14 (by decide) ?_
    exact W.zret (v := 1) hx hb hr (rfl) (fun t9 ht9 hW => ⟨1, rfl, by rw [hq]; rfl, ht9⟩) (fun _ h => nomatch h) d_T_areJoined_18

set_option maxHeartbeats 4000000 in
set_option maxRecDepth 100000 in
/-- Town.loadIn -/
theorem c_T_loadIn (l : Launch) (dC : Nat → ClassId) (dI : Nat → Nat → Nat) (ad : Nat → Nat) (cI cL : ClassId) (t : bz_T) (R : bz_RS) (L : (Nat → Int32) × Int64) (v : Int32) (ht : bz_ok t) (a r : Nat) (ha : a < 30) (hr4 : r < 4) : Met l y_T_loadIn w_T_loadIn ({ frames := 1, cells := 0, slots := 0, locals := 22 }) (bz_Pr (dC, dI) [(cI, .int), (cL, .long)] (bz_wB ad cI cL (bz_tR t) R L v) [.ref (ad 1), .int (nI a), .int (nI r)]) (vp_Sl (fun r9 => r9 = lN (bz_w t a r))) 0 0 (fun _ => False) := by
  refine Met.ofW (cc := b_T_loadIn) (maxL := 3) (ret := (some .long)) (by decide) rfl ?_
  intro p e s m args below meth c s₁ B hml hv
  obtain ⟨rfl, hP, hK, hN⟩ := hv
  have hx := B.exec
  have hb := B.bytes
  have hr := B.returns
  have hts := atoms_spec (ws := w_T_loadIn) B.pre
  have hown : s.vm.findClass R_T = some m.cls := findClass_of_methodNamed B.named
  have htb : ∀ w ∈ bz_tb, w.before _ s = true := fun w h => hts w (List.mem_cons_of_mem _ h)
  have hlocks := B.notSynchronized
  have hl := lv_entry ([.ref (ad 1), .int (nI a), .int (nI r)]) (n := 3) (Nat.le_of_ble_eq_true rfl)
  rw [lg_entry_eq]
  generalize (lg_sl ([.ref (ad 1), .int (nI a), .int (nI r)]) ++ List.replicate (3 - (lg_sl ([.ref (ad 1), .int (nI a), .int (nI r)])).length) Slot.unset).toArray = ls at hl ⊢
  have hl : lv_has ls 3 [(0, .ref (ad 1)), (1, .int (nI a)), (2, .int (nI r))] := hl
  refine lv_aload_n hx hb d_T_loadIn_0 rfl (lv_at hl 0 rfl) ?_
  refine lv_iload_n hx hb d_T_loadIn_1 rfl (lv_at hl 1 rfl) ?_
  refine lv_iload_n hx hb d_T_loadIn_2 rfl (lv_at hl 2 rfl) ?_
  refine bz_si (va_runV (As := [.int (nI a), .int (nI r)]) (rest := []) ⟨hx, hb, hml, hown, htb⟩ (c_T_isKnown l dC dI ad cI cL t R L v _ _ (by omega) (by omega)) (cwV 2 htb (bz_gV wd_170 wd_205 wd_168 wd_169 wd_20) rfl rfl rfl (by decide +kernel) ⟨Nat.le_of_ble_eq_true rfl, Nat.le_of_ble_eq_true rfl⟩) (bz_rv hN hK hP (q0 := 1) rfl rfl) rfl rfl hl.1 rfl (lv_room (Nat.le_of_ble_eq_true rfl)) d_T_loadIn_3 ⟨Nat.zero_le _, Nat.zero_le _⟩) ?_
  refine lv_if_eq (tgt := 30) hx hb d_T_loadIn_6 (by decide) (fun c_6 => ?_) (fun c_6 => ?_)
  · skip
    have hq := bz_i_eq c_6
    refine lv_aload_n hx hb d_T_loadIn_30 rfl (lv_at hl 0 rfl) ?_
    refine va_get (D := (dC, dI)) (ci := 2) (v := .ref (ad 2)) (C := R_T) (T := F_T) (N := 6) hx hb htb in_T hown hK hP 1 rfl rfl 0 (by decide) (htb _ wd_46) (fun _ h9 => h9) rfl d_T_loadIn_31 ?_
    refine lv_iload_n hx hb d_T_loadIn_34 rfl (lv_at hl 1 rfl) ?_
    refine bz_lald (v := lN (bz_l t a)) hx hb hK hP 2 1 rfl rfl (a9 := a) (by omega) (by decide) (rfl) d_T_loadIn_35 ?_
    refine bz_rl (y := lN (bz_w t a r)) (bz_w_n hq) ?_
    exact W.lret (v := lN (bz_w t a r)) hx hb hr (fun t9 ht9 hW => ⟨lN (bz_w t a r), rfl, rfl, ht9⟩) (fun _ h => nomatch h) d_T_loadIn_36
  · skip
    have hq := bz_i_ne c_6
    refine lv_aload_n hx hb d_T_loadIn_9 rfl (lv_at hl 0 rfl) ?_
    refine va_get (D := (dC, dI)) (ci := 2) (v := .ref (ad 2)) (C := R_T) (T := F_T) (N := 6) hx hb htb in_T hown hK hP 1 rfl rfl 0 (by decide) (htb _ wd_46) (fun _ h9 => h9) rfl d_T_loadIn_10 ?_
    refine lv_iload_n hx hb d_T_loadIn_13 rfl (lv_at hl 1 rfl) ?_
    refine bz_lald (v := lN (bz_l t a)) hx hb hK hP 2 1 rfl rfl (a9 := a) (by omega) (by decide) (rfl) d_T_loadIn_14 ?_
    refine lv_ldc2 (v := 9) hx hb hown (htb _ wd_206) d_T_loadIn_15 ?_
    refine lv_lmul hx hb d_T_loadIn_18 ?_
    refine lv_ldc2 (v := 9) hx hb hown (htb _ wd_206) d_T_loadIn_19 ?_
    refine lv_ladd hx hb d_T_loadIn_22 ?_
    refine lv_ldc2 (v := 10) hx hb hown (htb _ wd_207) d_T_loadIn_23 ?_
    refine lv_ldiv hx hb d_T_loadIn_26 (by decide) ?_
    refine bz_rl (y := lN (bz_w t a r)) (bz_w_k ht hq) ?_
    refine lv_goto (tgt := 36) hx hb d_T_loadIn_27 (by decide) ?_
    exact W.lret (v := lN (bz_w t a r)) hx hb hr (fun t9 ht9 hW => ⟨lN (bz_w t a r), rfl, rfl, ht9⟩) (fun _ h => nomatch h) d_T_loadIn_36
