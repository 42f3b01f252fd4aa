theorem d_Le_keep_0 : decode b_Le_keep 0 = .ok (.aload_n 0, 1) := by decide +kernel
theorem d_Le_keep_1 : decode b_Le_keep 1 = .ok (.lload_n 2, 1) := by decide +kernel
theorem d_Le_keep_2 : decode b_Le_keep 2 = .ok (.putfield 15, 3) := by decide +kernel
theorem d_Le_keep_5 : decode b_Le_keep 5 = .ok (.aload_n 1, 1) := by decide +kernel
theorem d_Le_keep_6 : decode b_Le_keep 6 = .ok (.getfield 19, 3) := by decide +kernel
theorem d_Le_keep_9 : decode b_Le_keep 9 = .ok (.iconst 0, 1) := by decide +kernel
theorem d_Le_keep_10 : decode b_Le_keep 10 = .ok (.aload_n 0, 1) := by decide +kernel
theorem d_Le_keep_11 : decode b_Le_keep 11 = .ok (.getfield 9, 3) := by decide +kernel
theorem d_Le_keep_14 : decode b_Le_keep 14 = .ok (.iconst 0, 1) := by decide +kernel
theorem d_Le_keep_15 : decode b_Le_keep 15 = .ok (.bipush 8, 2) := by decide +kernel
theorem d_Le_keep_17 : decode b_Le_keep 17 = .ok (.invokestatic 24, 3) := by decide +kernel
theorem d_Le_keep_20 : decode b_Le_keep 20 = .ok (.return_, 1) := by decide +kernel
theorem d_B_isArea_0 : decode b_B_isArea 0 = .ok (.iload_n 1, 1) := by decide +kernel
theorem d_B_isArea_1 : decode b_B_isArea 1 = .ok (.iconst 1, 1) := by decide +kernel
theorem d_B_isArea_2 : decode b_B_isArea 2 = .ok (.if_icmp .lt 18, 3) := by decide +kernel
theorem d_B_isArea_5 : decode b_B_isArea 5 = .ok (.iload_n 1, 1) := by decide +kernel
theorem d_B_isArea_6 : decode b_B_isArea 6 = .ok (.aload_n 0, 1) := by decide +kernel
theorem d_B_isArea_7 : decode b_B_isArea 7 = .ok (.getfield 12, 3) := by decide +kernel
theorem d_B_isArea_10 : decode b_B_isArea 10 = .ok (.getfield 42, 3) := by decide +kernel
theorem d_B_isArea_13 : decode b_B_isArea 13 = .ok (.if_icmp .gt 7, 3) := by decide +kernel
theorem d_B_isArea_16 : decode b_B_isArea 16 = .ok (.iconst 1, 1) := by decide +kernel
theorem d_B_isArea_17 : decode b_B_isArea 17 = .ok (.goto 4, 3) := by decide +kernel
theorem d_B_isArea_20 : decode b_B_isArea 20 = .ok (.iconst 0, 1) := by decide +kernel
theorem d_B_isArea_21 : decode b_B_isArea 21 = .ok (.ireturn, 1) := by decide +kernel
theorem d_B_isRound_0 : decode b_B_isRound 0 = .ok (.iload_n 0, 1) := by decide +kernel
theorem d_B_isRound_1 : decode b_B_isRound 1 = .ok (.ifCond .lt 12, 3) := by decide +kernel
theorem d_B_isRound_4 : decode b_B_isRound 4 = .ok (.iload_n 0, 1) := by decide +kernel
theorem d_B_isRound_5 : decode b_B_isRound 5 = .ok (.iconst 4, 1) := by decide +kernel
theorem d_B_isRound_6 : decode b_B_isRound 6 = .ok (.if_icmp .ge 7, 3) := by decide +kernel
theorem d_B_isRound_9 : decode b_B_isRound 9 = .ok (.iconst 1, 1) := by decide +kernel
theorem d_B_isRound_10 : decode b_B_isRound 10 = .ok (.goto 4, 3) := by decide +kernel
theorem d_B_isRound_13 : decode b_B_isRound 13 = .ok (.iconst 0, 1) := by decide +kernel
theorem d_B_isRound_14 : decode b_B_isRound 14 = .ok (.ireturn, 1) := by decide +kernel
theorem d_B_isForExact_0 : decode b_B_isForExact 0 = .ok (.aload_n 0, 1) := by decide +kernel
theorem d_B_isForExact_1 : decode b_B_isForExact 1 = .ok (.getfield 12, 3) := by decide +kernel
theorem d_B_isForExact_4 : decode b_B_isForExact 4 = .ok (.getfield 42, 3) := by decide +kernel
theorem d_B_isForExact_7 : decode b_B_isForExact 7 = .ok (.bipush 8, 2) := by decide +kernel
theorem d_B_isForExact_9 : decode b_B_isForExact 9 = .ok (.if_icmp .gt 7, 3) := by decide +kernel
theorem d_B_isForExact_12 : decode b_B_isForExact 12 = .ok (.iconst 1, 1) := by decide +kernel
theorem d_B_isForExact_13 : decode b_B_isForExact 13 = .ok (.goto 4, 3) := by decide +kernel
theorem d_B_isForExact_16 : decode b_B_isForExact 16 = .ok (.iconst 0, 1) := by decide +kernel
theorem d_B_isForExact_17 : decode b_B_isForExact 17 = .ok (.ireturn, 1) := by decide +kernel
theorem d_B_otherRound_0 : decode b_B_otherRound 0 = .ok (.iload_n 1, 1) := by decide +kernel
theorem d_B_otherRound_1 : decode b_B_otherRound 1 = .ok (.iload_n 0, 1) := by decide +kernel
theorem d_B_otherRound_2 : decode b_B_otherRound 2 = .ok (.if_icmp .ge 7, 3) := by decide +kernel
theorem d_B_otherRound_5 : decode b_B_otherRound 5 = .ok (.iload_n 1, 1) := by decide +kernel
theorem d_B_otherRound_6 : decode b_B_otherRound 6 = .ok (.goto 6, 3) := by decide +kernel
theorem d_B_otherRound_9 : decode b_B_otherRound 9 = .ok (.iload_n 1, 1) := by decide +kernel
theorem d_B_otherRound_10 : decode b_B_otherRound 10 = .ok (.iconst 1, 1) := by decide +kernel
theorem d_B_otherRound_11 : decode b_B_otherRound 11 = .ok (.iadd, 1) := by decide +kernel
theorem d_B_otherRound_12 : decode b_B_otherRound 12 = .ok (.ireturn, 1) := by decide +kernel

set_option maxHeartbeats 4000000 in
set_option maxRecDepth 100000 in
/-- Share.move -/
theorem c_S_move (l : Launch) (dC : Nat → ClassId) (dI : Nat → Nat → Nat) (sz : Nat) (ad : Nat → Nat) (cI cL : ClassId) (t : bz_T) (s2 : bz_S) (L : (Nat → Int32) × Int64) (v : Int32) (ht : bz_ok t) (a r : Nat) (ha : a < bz_n t) (hr4 : s2.1 a < 4) (ho : s2.2 a = false) (hrr : r < 4) : Met l y_S_move w_S_move ({ frames := 3, cells := 0, slots := 0, locals := 66 }) (bz_Pw (dC, dI) [(cI, .int), (cL, .long)] (bz_wB ad cI cL (bz_tR t) (bz_sR t s2) L v) sz [.ref (ad 7), .int (nI a), .int (nI r)]) (bz_Qv (dC, dI) [(cI, .int), (cL, .long)] (va_A (bz_wB ad cI cL (bz_tR t) (bz_sR t s2) L v) sz) (bz_wB ad cI cL (bz_tR t) (bz_sR t (bz_pu (bz_ta s2 a) a r)) L v)) 0 0 (va_A (bz_wB ad cI cL (bz_tR t) (bz_sR t s2) L v) sz) := by
  refine Met.ofW (cc := b_S_move) (maxL := 3) (ret := none) (by decide) rfl ?_
  intro p e s m args below meth c s₁ B hml hv
  obtain ⟨rfl, hsz, hP, hK, hD0, hN⟩ := hv
  have hx := B.exec
  have hb := B.bytes
  have hr := B.returns
  have hts := atoms_spec (ws := w_S_move) B.pre
  have hown : s.vm.findClass R_S = some m.cls := findClass_of_methodNamed B.named
  have htb : ∀ w ∈ bz_tb, w.before _ s = true := fun w h => hts w (List.mem_cons_of_mem _ h)
  have hlocks := B.notSynchronized
  subst hsz
  have hD := hD0.self (sz := s.heap.size)
  generalize hAe : va_A (bz_wB ad cI cL (bz_tR t) (bz_sR t s2) L v) s.heap.size = A at hD ⊢
  have hA : ∀ q : Nat, s.heap.size ≤ q → A q := fun q h => by rw [← hAe]; exact Or.inr h
  have hS : va_S A s.heap s.heap [] := va_S.rf
  have hl := lv_entry ([.ref (ad 7), .int (nI a), .int (nI r)]) (n := 3) (Nat.le_of_ble_eq_true rfl)
  rw [lg_entry_eq]
  generalize (lg_sl ([.ref (ad 7), .int (nI a), .int (nI r)]) ++ List.replicate (3 - (lg_sl ([.ref (ad 7), .int (nI a), .int (nI r)])).length) Slot.unset).toArray = ls at hl ⊢
  have hl : lv_has ls 3 [(0, .ref (ad 7)), (1, .int (nI a)), (2, .int (nI r))] := hl
  refine lv_aload_n hx hb d_S_move_0 rfl (lv_at hl 0 rfl) ?_
  refine lv_iload_n hx hb d_S_move_1 rfl (lv_at hl 1 rfl) ?_
  refine bz_cv (va_runV (As := [.int (nI a)]) (rest := []) ⟨hx, hb, hml, hown, htb⟩ (c_S_take l dC dI _ ad cI cL t s2 L v ht _ (ha) (hr4) (ho)) (cwV 1 htb (bz_gV wd_258 wd_270 wd_256 wd_257 wd_21) rfl rfl rfl (by decide +kernel) ⟨Nat.le_of_ble_eq_true rfl, Nat.le_of_ble_eq_true rfl⟩) (bz_wv hN hK hP hD (q0 := 7) rfl rfl) rfl rfl hl.1 rfl (lv_room (Nat.le_of_ble_eq_true rfl)) d_S_move_2 ⟨Nat.zero_le _, Nat.zero_le _⟩) hD hS hA (fun H locs hP hD hS => ?_)
  have hP : va_P (dC, dI) vwCl (bz_wB ad cI cL (bz_tR t) (bz_sR t (bz_ta s2 a)) L v) H := hP
  have hD : va_D A (bz_wB ad cI cL (bz_tR t) (bz_sR t (bz_ta s2 a)) L v) := hD
  refine lv_aload_n hx hb d_S_move_5 rfl (lv_at hl 0 rfl) ?_
  refine lv_iload_n hx hb d_S_move_6 rfl (lv_at hl 1 rfl) ?_
  refine lv_iload_n hx hb d_S_move_7 rfl (lv_at hl 2 rfl) ?_
  refine bz_cv (va_runV (As := [.int (nI a), .int (nI r)]) (rest := []) ⟨hx, hb, hml, hown, htb⟩ (c_S_put l dC dI _ ad cI cL t (bz_ta s2 a) L v ht _ _ (ha) (by omega) (bz_up_s _ _ _)) (cwV 2 htb (bz_gV wd_200 wd_197 wd_198 wd_199 wd_21) rfl rfl rfl (by decide +kernel) ⟨Nat.le_of_ble_eq_true rfl, Nat.le_of_ble_eq_true rfl⟩) (bz_wv hN hK hP hD (q0 := 7) rfl rfl) rfl rfl hl.1 rfl (lv_room (Nat.le_of_ble_eq_true rfl)) d_S_move_8 ⟨Nat.zero_le _, Nat.zero_le _⟩) hD hS hA (fun H locs hP hD hS => ?_)
  have hP : va_P (dC, dI) vwCl (bz_wB ad cI cL (bz_tR t) (bz_sR t (bz_pu (bz_ta s2 a) a r)) L v) H := hP
  have hD : va_D A (bz_wB ad cI cL (bz_tR t) (bz_sR t (bz_pu (bz_ta s2 a) a r)) L v) := hD
  exact W.vret hx hb hr (fun t9 ht9 hW => ⟨⟨(), rfl, trivial, by rw [ht9]; exact hP, va_K.moved hW.alike hK, hD⟩, hS.F ht9⟩) hS.2.2 d_S_move_11

set_option maxHeartbeats 4000000 in
set_option maxRecDepth 100000 in
/-- Share.beginWith -/
theorem c_S_beginWithT (l : Launch) (dC : Nat → ClassId) (dI : Nat → Nat → Nat) (sz : Nat) (ad : Nat → Nat) (cI cL : ClassId) (t : bz_T) (x : Nat → Nat) (A1 : Nat → Int32) (A2 : Nat → Int64) (o1 c1 : Int32) (L : (Nat → Int32) × Int64) (v : Int32) (ht : bz_ok t) : Met l y_S_beginWith w_S_beginWith ({ frames := 3, cells := 0, slots := 0, locals := 66 }) (bz_Pw (dC, dI) [(cI, .int), (cL, .long)] (bz_wB ad cI cL (bz_tR t) (fun a => nI (x a), A1, A2, o1, c1) L v) sz [.ref (ad 7), .ref (ad 3)]) (bz_Qv (dC, dI) [(cI, .int), (cL, .long)] (va_A (bz_wB ad cI cL (bz_tR t) (fun a => nI (x a), A1, A2, o1, c1) L v) sz) (bz_wB ad cI cL (bz_tR t) (bz_sR t (bz_bg (bz_d t) x (bz_n t))) L v)) 0 0 (va_A (bz_wB ad cI cL (bz_tR t) (fun a => nI (x a), A1, A2, o1, c1) L v) sz) := by
  refine Met.ofW (cc := b_S_beginWith) (maxL := 3) (ret := none) (by decide) rfl ?_
  intro p e s m args below meth c s₁ B hml hv
  obtain ⟨rfl, hsz, hP, hK, hD0, hN⟩ := hv
  have hx := B.exec
  have hb := B.bytes
  have hr := B.returns
  have hts := atoms_spec (ws := w_S_beginWith) B.pre
  have hown : s.vm.findClass R_S = some m.cls := findClass_of_methodNamed B.named
  have htb : ∀ w ∈ bz_tb, w.before _ s = true := fun w h => hts w (List.mem_cons_of_mem _ h)
  have hlocks := B.notSynchronized
  subst hsz
  have hD := hD0.self (sz := s.heap.size)
  generalize hAe : va_A (bz_wB ad cI cL (bz_tR t) (fun a => nI (x a), A1, A2, o1, c1) L v) s.heap.size = A at hD ⊢
  have hA : ∀ q : Nat, s.heap.size ≤ q → A q := fun q h => by rw [← hAe]; exact Or.inr h
  have hS : va_S A s.heap s.heap [] := va_S.rf
  have hl := lv_entry ([.ref (ad 7), .ref (ad 3)]) (n := 3) (Nat.le_of_ble_eq_true rfl)
  rw [lg_entry_eq]
  generalize (lg_sl ([.ref (ad 7), .ref (ad 3)]) ++ List.replicate (3 - (lg_sl ([.ref (ad 7), .ref (ad 3)])).length) Slot.unset).toArray = ls at hl ⊢
  have hl : lv_has ls 3 [(0, .ref (ad 7)), (1, .ref (ad 3))] := hl
  have hn30 := ht.1
  refine lv_aload_n hx hb d_S_beginWith_0 rfl (lv_at hl 0 rfl) ?_
  refine bz_cv (va_runV (As := []) (rest := []) ⟨hx, hb, hml, hown, htb⟩ (c_S_clear l dC dI _ ad cI cL t x A1 A2 o1 c1 L v ht) (cwV 0 htb (bz_gV wd_196 wd_193 wd_194 wd_195 wd_21) rfl rfl rfl (by decide +kernel) ⟨Nat.le_of_ble_eq_true rfl, Nat.le_of_ble_eq_true rfl⟩) (bz_wv hN hK hP hD (q0 := 7) rfl rfl) rfl rfl hl.1 rfl (lv_room (Nat.le_of_ble_eq_true rfl)) d_S_beginWith_1 ⟨Nat.zero_le _, Nat.zero_le _⟩) hD hS hA (fun H locs hP hD hS => ?_)
  have hP : va_P (dC, dI) vwCl (bz_wB ad cI cL (bz_tR t) (bz_sR t (x, fun _ => true)) L v) H := hP
  have hD : va_D A (bz_wB ad cI cL (bz_tR t) (bz_sR t (x, fun _ => true)) L v) := hD
  refine lv_iconst (v := nI 0) hx hb d_S_beginWith_4 (by decide) ?_
  refine lv_istore_n (lv' := [(2, .int (nI 0)), (0, .ref (ad 7)), (1, .ref (ad 3))]) hx hb d_S_beginWith_5 rfl hl (by decide) rfl (fun ls hl => ?_)
  have e9 : bz_sR t (bz_bg (bz_d t) x 0) = bz_sR t (x, fun _ => true) := by rw [bz_bg_0]
  have hP : va_P (dC, dI) vwCl (bz_wB ad cI cL (bz_tR t) (bz_sR t (bz_bg (bz_d t) x 0)) L v) H := by rw [e9]; exact hP
  have hD : va_D A (bz_wB ad cI cL (bz_tR t) (bz_sR t (bz_bg (bz_d t) x 0)) L v) := by rw [e9]; exact hD
  have lp : ∀ (k9 : Nat) (i : Nat), bz_n t - i < k9 → (i ≤ bz_n t) → ∀ (H : Heap) (locs : List Loc), va_P (dC, dI) vwCl (bz_wB ad cI cL (bz_tR t) (bz_sR t (bz_bg (bz_d t) x i)) L v) H → va_D A (bz_wB ad cI cL (bz_tR t) (bz_sR t (bz_bg (bz_d t) x i)) L v) → va_S A s.heap H locs → ∀ (ls : Array Slot), lv_has ls 3 [(0, .ref (ad 7)), (1, .ref (ad 3)), (2, .int (nI i))] → W p l e (headSpec w_S_beginWith ({ frames := 3, cells := 0, slots := 0, locals := 66 })).room s m ([.ref (ad 7), .ref (ad 3)]).toArray below meth c H locs 0 0 (MQ below (bz_Qv (dC, dI) [(cI, .int), (cL, .long)] A (bz_wB ad cI cL (bz_tR t) (bz_sR t (bz_bg (bz_d t) x (bz_n t))) L v)) ([.ref (ad 7), .ref (ad 3)]).toArray s 0 0 (A)) (F0 m 6 ls []) := by
    intro k9
    induction k9 with
    | zero =>
      intro i h9
      exact absurd h9 (Nat.not_lt_zero _)
    | succ k9 ihlp =>
      intro i h9_lp hi H locs hP hD hS ls hl
      refine lv_iload_n hx hb d_S_beginWith_6 rfl (lv_at hl 2 rfl) ?_
      refine lv_aload_n hx hb d_S_beginWith_7 rfl (lv_at hl 0 rfl) ?_
      refine va_get (D := (dC, dI)) (ci := 1) (v := .ref (ad 1)) (C := R_S) (T := F_S) (N := 6) hx hb htb in_S hown hK hP 7 rfl rfl 0 (by decide) (htb _ wd_79) (fun _ h9 => h9) rfl d_S_beginWith_8 ?_
      refine va_getN (D := (dC, dI)) (ci := 2) (v := .int (nI (bz_n t))) (C := R_T) (T := F_T) (N := 6) hx hb htb in_T hown hK hP 1 rfl rfl 5 (by decide) (va_Nw.use rfl (hN _ nd_56)) (fun _ h9 => h9) rfl d_S_beginWith_11 ?_
      refine lv_icmp_ge (tgt := 37) hx hb d_S_beginWith_14 (by decide) (fun c_14 => ?_) (fun c_14 => ?_)
      · skip
        have hin : i = bz_n t := by have := (nI_leI (by omega) (by omega)).mp c_14; omega
        have e9 : bz_sR t (bz_bg (bz_d t) x (bz_n t)) = bz_sR t (bz_bg (bz_d t) x i) := by rw [hin]
        have hP : va_P (dC, dI) vwCl (bz_wB ad cI cL (bz_tR t) (bz_sR t (bz_bg (bz_d t) x (bz_n t))) L v) H := by rw [e9]; exact hP
        have hD : va_D A (bz_wB ad cI cL (bz_tR t) (bz_sR t (bz_bg (bz_d t) x (bz_n t))) L v) := by rw [e9]; exact hD
        exact W.vret hx hb hr (fun t9 ht9 hW => ⟨⟨(), rfl, trivial, by rw [ht9]; exact hP, va_K.moved hW.alike hK, hD⟩, hS.F ht9⟩) hS.2.2 d_S_beginWith_37
      · skip
        have hin : i < bz_n t := Nat.lt_of_not_le fun z => c_14 ((nI_leI (by omega) (by omega)).mpr z)
        have hdi := ht.2.2.1 i
        refine lv_iload_n hx hb d_S_beginWith_17 rfl (lv_at hl 2 rfl) ?_
        refine lv_aload_n hx hb d_S_beginWith_18 rfl (lv_at hl 1 rfl) ?_
        refine va_alen (v := nI 30) hx hb hK hP 3 0 rfl rfl rfl d_S_beginWith_19 ?_
        refine lv_icmp_ge (tgt := 37) hx hb d_S_beginWith_20 (by decide) (fun c_20 => ?_) (fun c_20 => ?_)
        · skip
          exact absurd ((nI_leI (a := 30) (by omega) (by omega)).mp c_20) (by omega)
        · skip
          refine lv_aload_n hx hb d_S_beginWith_23 rfl (lv_at hl 0 rfl) ?_
          refine lv_iload_n hx hb d_S_beginWith_24 rfl (lv_at hl 2 rfl) ?_
          refine lv_aload_n hx hb d_S_beginWith_25 rfl (lv_at hl 1 rfl) ?_
          refine lv_iload_n hx hb d_S_beginWith_26 rfl (lv_at hl 2 rfl) ?_
          refine bz_iald (v := nI (bz_d t i)) hx hb hK hP 3 0 rfl rfl (a9 := i) (by omega) (by decide) (rfl) d_S_beginWith_27 ?_
          refine bz_cv (va_runV (As := [.int (nI i), .int (nI (bz_d t i))]) (rest := []) ⟨hx, hb, hml, hown, htb⟩ (c_S_put l dC dI _ ad cI cL t (bz_bg (bz_d t) x i) L v ht _ _ (by omega) (by omega) (decide_eq_true (Nat.le_refl _))) (cwV 2 htb (bz_gV wd_200 wd_197 wd_198 wd_199 wd_21) rfl rfl rfl (by decide +kernel) ⟨Nat.le_of_ble_eq_true rfl, Nat.le_of_ble_eq_true rfl⟩) (bz_wv hN hK hP hD (q0 := 7) rfl rfl) rfl rfl hl.1 rfl (lv_room (Nat.le_of_ble_eq_true rfl)) d_S_beginWith_28 ⟨Nat.zero_le _, Nat.zero_le _⟩) hD hS hA (fun H locs hP hD hS => ?_)
          have hP : va_P (dC, dI) vwCl (bz_wB ad cI cL (bz_tR t) (bz_sR t (bz_pu (bz_bg (bz_d t) x i) i (bz_d t i))) L v) H := hP
          have hD : va_D A (bz_wB ad cI cL (bz_tR t) (bz_sR t (bz_pu (bz_bg (bz_d t) x i) i (bz_d t i))) L v) := hD
          have e9 : bz_sR t (bz_bg (bz_d t) x (i + 1)) = bz_sR t (bz_pu (bz_bg (bz_d t) x i) i (bz_d t i)) := by rw [bz_bg_1]
          have hP : va_P (dC, dI) vwCl (bz_wB ad cI cL (bz_tR t) (bz_sR t (bz_bg (bz_d t) x (i + 1))) L v) H := by rw [e9]; exact hP
          have hD : va_D A (bz_wB ad cI cL (bz_tR t) (bz_sR t (bz_bg (bz_d t) x (i + 1))) L v) := by rw [e9]; exact hD
          refine lv_iinc (v := nI (i + 1)) (lv' := [(2, .int (nI (i + 1))), (0, .ref (ad 7)), (1, .ref (ad 3))]) hx hb d_S_beginWith_31 hl (k := 2) rfl (nI_1 _) (by decide) rfl (fun ls hl => ?_)
          refine lv_goto (tgt := 6) hx hb d_S_beginWith_34 (by decide) ?_
          exact ihlp (i + 1) (by omega) (by omega) _ _ hP hD hS ls (lv_sub hl [1, 2, 0] rfl)
  exact lp _ 0 (Nat.lt_succ_self _) (by omega) _ _ hP hD hS ls (lv_sub hl [1, 2, 0] rfl)

set_option maxHeartbeats 4000000 in
set_option maxRecDepth 100000 in
/-- Share.beginWith -/
theorem c_S_beginWithL (l : Launch) (dC : Nat → ClassId) (dI : Nat → Nat → Nat) (sz : Nat) (ad : Nat → Nat) (cI cL : ClassId) (t : bz_T) (x : Nat → Nat) (A1 : Nat → Int32) (A2 : Nat → Int64) (o1 c1 : Int32) (rw : Nat → Nat) (co : Int64) (v : Int32) (ht : bz_ok t) (hn8 : bz_n t ≤ 8) (hrw : ∀ a, a < bz_n t → rw a < 4) : Met l y_S_beginWith w_S_beginWith ({ frames := 3, cells := 0, slots := 0, locals := 66 }) (bz_Pw (dC, dI) [(cI, .int), (cL, .long)] (bz_wB ad cI cL (bz_tR t) (fun a => nI (x a), A1, A2, o1, c1) (fun j => nI (rw j), co) v) sz [.ref (ad 7), .ref (ad 12)]) (bz_Qv (dC, dI) [(cI, .int), (cL, .long)] (va_A (bz_wB ad cI cL (bz_tR t) (fun a => nI (x a), A1, A2, o1, c1) (fun j => nI (rw j), co) v) sz) (bz_wB ad cI cL (bz_tR t) (bz_sR t (bz_bg rw x (bz_n t))) (fun j => nI (rw j), co) v)) 0 0 (va_A (bz_wB ad cI cL (bz_tR t) (fun a => nI (x a), A1, A2, o1, c1) (fun j => nI (rw j), co) v) sz) := by
  refine Met.ofW (cc := b_S_beginWith) (maxL := 3) (ret := none) (by decide) rfl ?_
  intro p e s m args below meth c s₁ B hml hv
  obtain ⟨rfl, hsz, hP, hK, hD0, hN⟩ := hv
  have hx := B.exec
  have hb := B.bytes
  have hr := B.returns
  have hts := atoms_spec (ws := w_S_beginWith) B.pre
  have hown : s.vm.findClass R_S = some m.cls := findClass_of_methodNamed B.named
  have htb : ∀ w ∈ bz_tb, w.before _ s = true := fun w h => hts w (List.mem_cons_of_mem _ h)
  have hlocks := B.notSynchronized
  subst hsz
  have hD := hD0.self (sz := s.heap.size)
  generalize hAe : va_A (bz_wB ad cI cL (bz_tR t) (fun a => nI (x a), A1, A2, o1, c1) (fun j => nI (rw j), co) v) s.heap.size = A at hD ⊢
  have hA : ∀ q : Nat, s.heap.size ≤ q → A q := fun q h => by rw [← hAe]; exact Or.inr h
  have hS : va_S A s.heap s.heap [] := va_S.rf
  have hl := lv_entry ([.ref (ad 7), .ref (ad 12)]) (n := 3) (Nat.le_of_ble_eq_true rfl)
  rw [lg_entry_eq]
  generalize (lg_sl ([.ref (ad 7), .ref (ad 12)]) ++ List.replicate (3 - (lg_sl ([.ref (ad 7), .ref (ad 12)])).length) Slot.unset).toArray = ls at hl ⊢
  have hl : lv_has ls 3 [(0, .ref (ad 7)), (1, .ref (ad 12))] := hl
  have hn30 := ht.1
  refine lv_aload_n hx hb d_S_beginWith_0 rfl (lv_at hl 0 rfl) ?_
  refine bz_cv (va_runV (As := []) (rest := []) ⟨hx, hb, hml, hown, htb⟩ (c_S_clear l dC dI _ ad cI cL t x A1 A2 o1 c1 (fun j => nI (rw j), co) v ht) (cwV 0 htb (bz_gV wd_196 wd_193 wd_194 wd_195 wd_21) rfl rfl rfl (by decide +kernel) ⟨Nat.le_of_ble_eq_true rfl, Nat.le_of_ble_eq_true rfl⟩) (bz_wv hN hK hP hD (q0 := 7) rfl rfl) rfl rfl hl.1 rfl (lv_room (Nat.le_of_ble_eq_true rfl)) d_S_beginWith_1 ⟨Nat.zero_le _, Nat.zero_le _⟩) hD hS hA (fun H locs hP hD hS => ?_)
  have hP : va_P (dC, dI) vwCl (bz_wB ad cI cL (bz_tR t) (bz_sR t (x, fun _ => true)) (fun j => nI (rw j), co) v) H := hP
  have hD : va_D A (bz_wB ad cI cL (bz_tR t) (bz_sR t (x, fun _ => true)) (fun j => nI (rw j), co) v) := hD
  refine lv_iconst (v := nI 0) hx hb d_S_beginWith_4 (by decide) ?_
  refine lv_istore_n (lv' := [(2, .int (nI 0)), (0, .ref (ad 7)), (1, .ref (ad 12))]) hx hb d_S_beginWith_5 rfl hl (by decide) rfl (fun ls hl => ?_)
  have e9 : bz_sR t (bz_bg rw x 0) = bz_sR t (x, fun _ => true) := by rw [bz_bg_0]
  have hP : va_P (dC, dI) vwCl (bz_wB ad cI cL (bz_tR t) (bz_sR t (bz_bg rw x 0)) (fun j => nI (rw j), co) v) H := by rw [e9]; exact hP
  have hD : va_D A (bz_wB ad cI cL (bz_tR t) (bz_sR t (bz_bg rw x 0)) (fun j => nI (rw j), co) v) := by rw [e9]; exact hD
  have lp : ∀ (k9 : Nat) (i : Nat), bz_n t - i < k9 → (i ≤ bz_n t) → ∀ (H : Heap) (locs : List Loc), va_P (dC, dI) vwCl (bz_wB ad cI cL (bz_tR t) (bz_sR t (bz_bg rw x i)) (fun j => nI (rw j), co) v) H → va_D A (bz_wB ad cI cL (bz_tR t) (bz_sR t (bz_bg rw x i)) (fun j => nI (rw j), co) v) → va_S A s.heap H locs → ∀ (ls : Array Slot), lv_has ls 3 [(0, .ref (ad 7)), (1, .ref (ad 12)), (2, .int (nI i))] → W p l e (headSpec w_S_beginWith ({ frames := 3, cells := 0, slots := 0, locals := 66 })).room s m ([.ref (ad 7), .ref (ad 12)]).toArray below meth c H locs 0 0 (MQ below (bz_Qv (dC, dI) [(cI, .int), (cL, .long)] A (bz_wB ad cI cL (bz_tR t) (bz_sR t (bz_bg rw x (bz_n t))) (fun j => nI (rw j), co) v)) ([.ref (ad 7), .ref (ad 12)]).toArray s 0 0 (A)) (F0 m 6 ls []) := by
    intro k9
    induction k9 with
    | zero =>
      intro i h9
      exact absurd h9 (Nat.not_lt_zero _)
    | succ k9 ihlp =>
      intro i h9_lp hi H locs hP hD hS ls hl
      refine lv_iload_n hx hb d_S_beginWith_6 rfl (lv_at hl 2 rfl) ?_
      refine lv_aload_n hx hb d_S_beginWith_7 rfl (lv_at hl 0 rfl) ?_
      refine va_get (D := (dC, dI)) (ci := 1) (v := .ref (ad 1)) (C := R_S) (T := F_S) (N := 6) hx hb htb in_S hown hK hP 7 rfl rfl 0 (by decide) (htb _ wd_79) (fun _ h9 => h9) rfl d_S_beginWith_8 ?_
      refine va_getN (D := (dC, dI)) (ci := 2) (v := .int (nI (bz_n t))) (C := R_T) (T := F_T) (N := 6) hx hb htb in_T hown hK hP 1 rfl rfl 5 (by decide) (va_Nw.use rfl (hN _ nd_56)) (fun _ h9 => h9) rfl d_S_beginWith_11 ?_
      refine lv_icmp_ge (tgt := 37) hx hb d_S_beginWith_14 (by decide) (fun c_14 => ?_) (fun c_14 => ?_)
      · skip
        have hin : i = bz_n t := by have := (nI_leI (by omega) (by omega)).mp c_14; omega
        have e9 : bz_sR t (bz_bg rw x (bz_n t)) = bz_sR t (bz_bg rw x i) := by rw [hin]
        have hP : va_P (dC, dI) vwCl (bz_wB ad cI cL (bz_tR t) (bz_sR t (bz_bg rw x (bz_n t))) (fun j => nI (rw j), co) v) H := by rw [e9]; exact hP
        have hD : va_D A (bz_wB ad cI cL (bz_tR t) (bz_sR t (bz_bg rw x (bz_n t))) (fun j => nI (rw j), co) v) := by rw [e9]; exact hD
        exact W.vret hx hb hr (fun t9 ht9 hW => ⟨⟨(), rfl, trivial, by rw [ht9]; exact hP, va_K.moved hW.alike hK, hD⟩, hS.F ht9⟩) hS.2.2 d_S_beginWith_37
      · skip
        have hin : i < bz_n t := Nat.lt_of_not_le fun z => c_14 ((nI_leI (by omega) (by omega)).mpr z)
        have hdi := hrw i hin
        refine lv_iload_n hx hb d_S_beginWith_17 rfl (lv_at hl 2 rfl) ?_
        refine lv_aload_n hx hb d_S_beginWith_18 rfl (lv_at hl 1 rfl) ?_
        refine va_alen (v := nI 8) hx hb hK hP 12 0 rfl rfl rfl d_S_beginWith_19 ?_
        refine lv_icmp_ge (tgt := 37) hx hb d_S_beginWith_20 (by decide) (fun c_20 => ?_) (fun c_20 => ?_)
        · skip
          exact absurd ((nI_leI (a := 8) (by omega) (by omega)).mp c_20) (by omega)
        · skip
          refine lv_aload_n hx hb d_S_beginWith_23 rfl (lv_at hl 0 rfl) ?_
          refine lv_iload_n hx hb d_S_beginWith_24 rfl (lv_at hl 2 rfl) ?_
          refine lv_aload_n hx hb d_S_beginWith_25 rfl (lv_at hl 1 rfl) ?_
          refine lv_iload_n hx hb d_S_beginWith_26 rfl (lv_at hl 2 rfl) ?_
          refine bz_iald (v := nI (rw i)) hx hb hK hP 12 0 rfl rfl (a9 := i) (by omega) (by decide) (rfl) d_S_beginWith_27 ?_
          refine bz_cv (va_runV (As := [.int (nI i), .int (nI (rw i))]) (rest := []) ⟨hx, hb, hml, hown, htb⟩ (c_S_put l dC dI _ ad cI cL t (bz_bg rw x i) (fun j => nI (rw j), co) v ht _ _ (by omega) (by omega) (decide_eq_true (Nat.le_refl _))) (cwV 2 htb (bz_gV wd_200 wd_197 wd_198 wd_199 wd_21) rfl rfl rfl (by decide +kernel) ⟨Nat.le_of_ble_eq_true rfl, Nat.le_of_ble_eq_true rfl⟩) (bz_wv hN hK hP hD (q0 := 7) rfl rfl) rfl rfl hl.1 rfl (lv_room (Nat.le_of_ble_eq_true rfl)) d_S_beginWith_28 ⟨Nat.zero_le _, Nat.zero_le _⟩) hD hS hA (fun H locs hP hD hS => ?_)
          have hP : va_P (dC, dI) vwCl (bz_wB ad cI cL (bz_tR t) (bz_sR t (bz_pu (bz_bg rw x i) i (rw i))) (fun j => nI (rw j), co) v) H := hP
          have hD : va_D A (bz_wB ad cI cL (bz_tR t) (bz_sR t (bz_pu (bz_bg rw x i) i (rw i))) (fun j => nI (rw j), co) v) := hD
          have e9 : bz_sR t (bz_bg rw x (i + 1)) = bz_sR t (bz_pu (bz_bg rw x i) i (rw i)) := by rw [bz_bg_1]
          have hP : va_P (dC, dI) vwCl (bz_wB ad cI cL (bz_tR t) (bz_sR t (bz_bg rw x (i + 1))) (fun j => nI (rw j), co) v) H := by rw [e9]; exact hP
          have hD : va_D A (bz_wB ad cI cL (bz_tR t) (bz_sR t (bz_bg rw x (i + 1))) (fun j => nI (rw j), co) v) := by rw [e9]; exact hD
          refine lv_iinc (v := nI (i + 1)) (lv' := [(2, .int (nI (i + 1))), (0, .ref (ad 7)), (1, .ref (ad 12))]) hx hb d_S_beginWith_31 hl (k := 2) rfl (nI_1 _) (by decide) rfl (fun ls hl => ?_)
          refine lv_goto (tgt := 6) hx hb d_S_beginWith_34 (by decide) ?_
          exact ihlp (i + 1) (by omega) (by omega) _ _ hP hD hS ls (lv_sub hl [1, 2, 0] rfl)
  exact lp _ 0 (Nat.lt_succ_self _) (by omega) _ _ hP hD hS ls (lv_sub hl [1, 2, 0] rfl)

set_option maxHeartbeats 4000000 in
set_option maxRecDepth 100000 in
/-- Least.keep -/
theorem c_Le_keep (l : Launch) (dC : Nat → ClassId) (dI : Nat → Nat → Nat) (sz : Nat) (ad : Nat → Nat) (cI cL : ClassId) (t : bz_T) (s2 : bz_S) (L : (Nat → Int32) × Int64) (v : Int32) (ht : bz_ok t) (k : Nat) : Met l y_Le_keep w_Le_keep ({ frames := 1, cells := 0, slots := 0, locals := 60 }) (bz_Pw (dC, dI) [(cI, .int), (cL, .long)] (bz_wB ad cI cL (bz_tR t) (bz_sR t s2) L v) sz [.ref (ad 11), .ref (ad 7), .long (lN k)]) (bz_Qv (dC, dI) [(cI, .int), (cL, .long)] (va_A (bz_wB ad cI cL (bz_tR t) (bz_sR t s2) L v) sz) (bz_wB ad cI cL (bz_tR t) (bz_sR t s2) (fun j => nI (s2.1 j), lN k) v)) 0 0 (va_A (bz_wB ad cI cL (bz_tR t) (bz_sR t s2) L v) sz) := by
  refine Met.ofW (cc := b_Le_keep) (maxL := 4) (ret := none) (by decide) rfl ?_
  intro p e s m args below meth c s₁ B hml hv
  obtain ⟨rfl, hsz, hP, hK, hD0, hN⟩ := hv
  have hx := B.exec
  have hb := B.bytes
  have hr := B.returns
  have hts := atoms_spec (ws := w_Le_keep) B.pre
  have hown : s.vm.findClass R_Le = some m.cls := findClass_of_methodNamed B.named
  have htb : ∀ w ∈ bz_tb, w.before _ s = true := fun w h => hts w (List.mem_cons_of_mem _ h)
  have hlocks := B.notSynchronized
  subst hsz
  have hD := hD0.self (sz := s.heap.size)
  generalize hAe : va_A (bz_wB ad cI cL (bz_tR t) (bz_sR t s2) L v) s.heap.size = A at hD ⊢
  have hA : ∀ q : Nat, s.heap.size ≤ q → A q := fun q h => by rw [← hAe]; exact Or.inr h
  have hS : va_S A s.heap s.heap [] := va_S.rf
  have hl := lv_entry ([.ref (ad 11), .ref (ad 7), .long (lN k)]) (n := 4) (Nat.le_of_ble_eq_true rfl)
  rw [lg_entry_eq]
  generalize (lg_sl ([.ref (ad 11), .ref (ad 7), .long (lN k)]) ++ List.replicate (4 - (lg_sl ([.ref (ad 11), .ref (ad 7), .long (lN k)])).length) Slot.unset).toArray = ls at hl ⊢
  have hl : lv_has ls 4 [(0, .ref (ad 11)), (1, .ref (ad 7)), (2, .long (lN k))] := hl
  refine lv_aload_n hx hb d_Le_keep_0 rfl (lv_at hl 0 rfl) ?_
  refine lv_lload_n hx hb d_Le_keep_1 rfl (lv_at hl 2 rfl) ?_
  refine va_put (D := (dC, dI)) (ci := 0) (v := .long (lN k)) (ty := .long) (C := R_Le) (T := F_Le) (N := 2) hx hb htb in_Le tf_Le tok_Le n_Le hown hK hP hD hS 11 rfl rfl 1 (by decide) (htb _ wd_110) (fun _ h9 => h9) rfl (by decide +kernel) rfl rfl (Nat.le_of_ble_eq_true rfl) d_Le_keep_2 (fun H locs hP hD hS => ?_)
  have hP : va_P (dC, dI) vwCl (bz_wB ad cI cL (bz_tR t) (bz_sR t s2) (L.1, lN k) v) H := hP
  have hD : va_D A (bz_wB ad cI cL (bz_tR t) (bz_sR t s2) (L.1, lN k) v) := hD
  refine lv_aload_n hx hb d_Le_keep_5 rfl (lv_at hl 1 rfl) ?_
  refine va_getN (D := (dC, dI)) (ci := 1) (v := .ref (ad 8)) (C := R_S) (T := F_S) (N := 6) hx hb htb in_S hown hK hP 7 rfl rfl 1 (by decide) (va_Nw.use rfl (hN _ nd_82)) (fun _ h9 => h9) rfl d_Le_keep_6 ?_
  refine lv_iconst (v := 0) hx hb d_Le_keep_9 (by decide) ?_
  refine lv_aload_n hx hb d_Le_keep_10 rfl (lv_at hl 0 rfl) ?_
  refine va_get (D := (dC, dI)) (ci := 0) (v := .ref (ad 12)) (C := R_Le) (T := F_Le) (N := 2) hx hb htb in_Le hown hK hP 11 rfl rfl 0 (by decide) (htb _ wd_108) (fun _ h9 => h9) rfl d_Le_keep_11 ?_
  refine lv_iconst (v := 0) hx hb d_Le_keep_14 (by decide) ?_
  refine lv_bipush (v := 8) hx hb d_Le_keep_15 (by decide) ?_
  refine va_copyi hx hb (hml.trans hl.1.symm) hown (htb _ wd_251) (htb _ wd_253) (htb _ wd_252) (htb _ wd_26) hK hP hD hS 8 12 0 0 rfl rfl rfl rfl rfl (by decide) (by decide) (by decide) (by decide) (by decide) (fun _ _ => rfl) (Nat.le_of_ble_eq_true rfl) (by decide) d_Le_keep_17 (fun H locs hP hD hS => ?_)
  have hP := bz_P_set (q0 := 12) hP rfl (bz_arrI (g := fun j => nI (s2.1 j)) (fun j hj => by rw [show (0 : Int32).toNatClampNeg = 0 from by decide, show (8 : Int32).toNatClampNeg = 8 from by decide, pk_cpy_in (Nat.zero_le _) (by omega)]; show nI (s2.1 (0 + (j - 0))) = _; rw [Nat.zero_add, Nat.sub_zero]))
  have hD := hD.set (p := 12) (e := .inl (cI, 8, .inl (fun j => nI (s2.1 j)))) rfl
  have hP : va_P (dC, dI) vwCl (bz_wB ad cI cL (bz_tR t) (bz_sR t s2) ((fun j => nI (s2.1 j)), lN k) v) H := hP
  have hD : va_D A (bz_wB ad cI cL (bz_tR t) (bz_sR t s2) ((fun j => nI (s2.1 j)), lN k) v) := hD
  exact W.vret hx hb hr (fun t9 ht9 hW => ⟨⟨(), rfl, trivial, by rw [ht9]; exact hP, va_K.moved hW.alike hK, hD⟩, hS.F ht9⟩) hS.2.2 d_Le_keep_20

/-- a number of a round, of an area -/
def bz_ir (z : Int32) : Bool := decide (0 ≤ z ∧ z < 4)
def bz_ia (n : Nat) (z : Int32) : Bool := decide (1 ≤ z ∧ z ≤ nI n)
theorem bz_ir_of {z : Int32} (h : bz_ir z = true) : ∃ r, r < 4 ∧ z = nI r := by
  have h := of_decide_eq_true h
  obtain ⟨j, h1, h2⟩ := nI_of (x := z) (Int32.not_lt.mpr h.1)
  subst h2
  exact ⟨j, (nI_ltI (b := 4) h1 (by omega)).mp h.2, rfl⟩
theorem bz_ia_of {n : Nat} (hn : n ≤ 30) {z : Int32} (h : bz_ia n z = true) : ∃ a, a < n ∧ z = nI (a + 1) := by
  have h := of_decide_eq_true h
  obtain ⟨j, h1, h2⟩ := nI_of (x := z) (Int32.not_lt.mpr (Int32.le_trans (by decide) h.1))
  subst h2
  have q1 := (nI_leI (a := 1) (by omega) h1).mp h.1
  have q2 := (nI_leI h1 (by omega)).mp h.2
  exact ⟨j - 1, by omega, by rw [Nat.sub_add_cancel q1]⟩

set_option maxHeartbeats 4000000 in
set_option maxRecDepth 100000 in
/-- isRound -/
theorem c_B_isRound (l : Launch) (dC : Nat → ClassId) (dI : Nat → Nat → Nat) (ad : Nat → Nat) (cI cL : ClassId) (t : bz_T) (R : bz_RS) (L : (Nat → Int32) × Int64) (v : Int32) (z : Int32) : Met l y_B_isRound w_B_isRound ({ frames := 0, cells := 0, slots := 0, locals := 0 }) (bz_Pr (dC, dI) [(cI, .int), (cL, .long)] (bz_wB ad cI cL (bz_tR t) R L v) [.int z]) (vp_Si (fun r9 => r9 = bz_i (bz_ir z))) 0 0 (fun _ => False) := by
  refine Met.ofW (cc := b_B_isRound) (maxL := 1) (ret := (some .boolean)) (by decide) rfl ?_
  intro p e s m args below meth c s₁ B hml hv
  obtain ⟨rfl, hP, hK, hN⟩ := hv
  have hx := B.exec
  have hb := B.bytes
  have hr := B.returns
  have hts := atoms_spec (ws := w_B_isRound) B.pre
  have hown : s.vm.findClass R_B = some m.cls := findClass_of_methodNamed B.named
  have htb : ∀ w ∈ bz_tb, w.before _ s = true := fun w h => hts w (List.mem_cons_of_mem _ h)
  have hlocks := B.notSynchronized
  have hl := lv_entry ([.int z]) (n := 1) (Nat.le_of_ble_eq_true rfl)
  rw [lg_entry_eq]
  generalize (lg_sl ([.int z]) ++ List.replicate (1 - (lg_sl ([.int z])).length) Slot.unset).toArray = ls at hl ⊢
  have hl : lv_has ls 1 [(0, .int z)] := hl
  refine lv_iload_n hx hb d_B_isRound_0 rfl (lv_at hl 0 rfl) ?_
  refine lv_if_lt (tgt := 13) hx hb d_B_isRound_1 (by decide) (fun c_1 => ?_) (fun c_1 => ?_)
  · skip
    have hq : bz_ir z = false := decide_eq_false fun q => Int32.not_lt.mpr q.1 c_1
    refine lv_iconst (v := 0) hx hb d_B_isRound_13 (by decide) ?_
    exact W.zret (v := 0) hx hb hr (rfl) (fun t9 ht9 hW => ⟨0, rfl, by rw [hq]; rfl, ht9⟩) (fun _ h => nomatch h) d_B_isRound_14
  · skip
    refine lv_iload_n hx hb d_B_isRound_4 rfl (lv_at hl 0 rfl) ?_
    refine lv_iconst (v := 4) hx hb d_B_isRound_5 (by decide) ?_
    refine lv_icmp_ge (tgt := 13) hx hb d_B_isRound_6 (by decide) (fun c_6 => ?_) (fun c_6 => ?_)
    · skip
      have hq : bz_ir z = false := decide_eq_false fun q => Int32.not_lt.mpr c_6 q.2
      refine lv_iconst (v := 0) hx hb d_B_isRound_13 (by decide) ?_
      exact W.zret (v := 0) hx hb hr (rfl) (fun t9 ht9 hW => ⟨0, rfl, by rw [hq]; rfl, ht9⟩) (fun _ h => nomatch h) d_B_isRound_14
    · skip
      have hq : bz_ir z = true := decide_eq_true ⟨Int32.not_lt.mp c_1, Int32.not_le.mp c_6⟩
      refine lv_iconst (v := 1) hx hb d_B_isRound_9 (by decide) ?_
      refine lv_goto (tgt := 14) hx hb d_B_isRound_10 (by decide) ?_
      exact W.zret (v := 1) hx hb hr (rfl) (fun t9 ht9 hW => ⟨1, rfl, by rw [hq]; rfl, ht9⟩) (fun _ h => nomatch h) d_B_isRound_14

set_option maxHeartbeats 4000000 in
set_option maxRecDepth 100000 in
/-- isArea -/
theorem c_B_isArea (l : Launch) (dC : Nat → ClassId) (dI : Nat → Nat → Nat) (ad : Nat → Nat) (cI cL : ClassId) (t : bz_T) (R : bz_RS) (L : (Nat → Int32) × Int64) (v : Int32) (z : Int32) : Met l y_B_isArea w_B_isArea ({ frames := 0, cells := 0, slots := 0, locals := 0 }) (bz_Pr (dC, dI) [(cI, .int), (cL, .long)] (bz_wB ad cI cL (bz_tR t) R L v) [.ref (ad 0), .int z]) (vp_Si (fun r9 => r9 = bz_i (bz_ia (bz_n t) z))) 0 0 (fun _ => False) := by
  refine Met.ofW (cc := b_B_isArea) (maxL := 2) (ret := (some .boolean)) (by decide) rfl ?_
  intro p e s m args below meth c s₁ B hml hv
  obtain ⟨rfl, hP, hK, hN⟩ := hv
  have hx := B.exec
  have hb := B.bytes
  have hr := B.returns
  have hts := atoms_spec (ws := w_B_isArea) B.pre
  have hown : s.vm.findClass R_B = some m.cls := findClass_of_methodNamed B.named
  have htb : ∀ w ∈ bz_tb, w.before _ s = true := fun w h => hts w (List.mem_cons_of_mem _ h)
  have hlocks := B.notSynchronized
  have hl := lv_entry ([.ref (ad 0), .int z]) (n := 2) (Nat.le_of_ble_eq_true rfl)
  rw [lg_entry_eq]
  generalize (lg_sl ([.ref (ad 0), .int z]) ++ List.replicate (2 - (lg_sl ([.ref (ad 0), .int z])).length) Slot.unset).toArray = ls at hl ⊢
  have hl : lv_has ls 2 [(0, .ref (ad 0)), (1, .int z)] := hl
  refine lv_iload_n hx hb d_B_isArea_0 rfl (lv_at hl 1 rfl) ?_
  refine lv_iconst (v := 1) hx hb d_B_isArea_1 (by decide) ?_
  refine lv_icmp_lt (tgt := 20) hx hb d_B_isArea_2 (by decide) (fun c_2 => ?_) (fun c_2 => ?_)
  · skip
    have hq : bz_ia (bz_n t) z = false := decide_eq_false fun q => Int32.not_lt.mpr q.1 c_2
    refine lv_iconst (v := 0) hx hb d_B_isArea_20 (by decide) ?_
    exact W.zret (v := 0) hx hb hr (rfl) (fun t9 ht9 hW => ⟨0, rfl, by rw [hq]; rfl, ht9⟩) (fun _ h => nomatch h) d_B_isArea_21
  · skip
    refine lv_iload_n hx hb d_B_isArea_5 rfl (lv_at hl 1 rfl) ?_
    refine lv_aload_n hx hb d_B_isArea_6 rfl (lv_at hl 0 rfl) ?_
    refine va_get (D := (dC, dI)) (ci := 3) (v := .ref (ad 1)) (C := R_B) (T := F_B) (N := 4) hx hb htb in_B hown hK hP 0 rfl rfl 0 (by decide) (htb _ wd_117) (fun _ h9 => h9) rfl d_B_isArea_7 ?_
    refine va_getN (D := (dC, dI)) (ci := 2) (v := .int (nI (bz_n t))) (C := R_T) (T := F_T) (N := 6) hx hb htb in_T hown hK hP 1 rfl rfl 5 (by decide) (va_Nw.use rfl (hN _ nd_57)) (fun _ h9 => h9) rfl d_B_isArea_10 ?_
    refine lv_icmp_gt (tgt := 20) hx hb d_B_isArea_13 (by decide) (fun c_13 => ?_) (fun c_13 => ?_)
    · skip
      have hq : bz_ia (bz_n t) z = false := decide_eq_false fun q => Int32.not_lt.mpr q.2 c_13
      refine lv_iconst (v := 0) hx hb d_B_isArea_20 (by decide) ?_
      exact W.zret (v := 0) hx hb hr (rfl) (fun t9 ht9 hW => ⟨0, rfl, by rw [hq]; rfl, ht9⟩) (fun _ h => nomatch h) d_B_isArea_21
    · skip
      have hq : bz_ia (bz_n t) z = true := decide_eq_true ⟨Int32.not_lt.mp c_2, Int32.not_lt.mp c_13⟩
      refine lv_iconst (v := 1) hx hb d_B_isArea_16 (by decide) ?_
      refine lv_goto (tgt := 21) hx hb d_B_isArea_17 (by decide) ?_
      exact W.zret (v := 1) hx hb hr (rfl) (fun t9 ht9 hW => ⟨1, rfl, by rw [hq]; rfl, ht9⟩) (fun _ h => nomatch h) d_B_isArea_21

set_option maxHeartbeats 4000000 in
set_option maxRecDepth 100000 in
/-- isForExact -/
theorem c_B_isForExact (l : Launch) (dC : Nat → ClassId) (dI : Nat → Nat → Nat) (ad : Nat → Nat) (cI cL : ClassId) (t : bz_T) (R : bz_RS) (L : (Nat → Int32) × Int64) (v : Int32) (ht : bz_ok t) : Met l y_B_isForExact w_B_isForExact ({ frames := 0, cells := 0, slots := 0, locals := 0 }) (bz_Pr (dC, dI) [(cI, .int), (cL, .long)] (bz_wB ad cI cL (bz_tR t) R L v) [.ref (ad 0)]) (vp_Si (fun r9 => r9 = bz_i (decide (bz_n t ≤ 8)))) 0 0 (fun _ => False) := by
  refine Met.ofW (cc := b_B_isForExact) (maxL := 1) (ret := (some .boolean)) (by decide) rfl ?_
  intro p e s m args below meth c s₁ B hml hv
  obtain ⟨rfl, hP, hK, hN⟩ := hv
  have hx := B.exec
  have hb := B.bytes
  have hr := B.returns
  have hts := atoms_spec (ws := w_B_isForExact) B.pre
  have hown : s.vm.findClass R_B = some m.cls := findClass_of_methodNamed B.named
  have htb : ∀ w ∈ bz_tb, w.before _ s = true := fun w h => hts w (List.mem_cons_of_mem _ h)
  have hlocks := B.notSynchronized
  have hl := lv_entry ([.ref (ad 0)]) (n := 1) (Nat.le_of_ble_eq_true rfl)
  rw [lg_entry_eq]
  generalize (lg_sl ([.ref (ad 0)]) ++ List.replicate (1 - (lg_sl ([.ref (ad 0)])).length) Slot.unset).toArray = ls at hl ⊢
  have hl : lv_has ls 1 [(0, .ref (ad 0))] := hl
  refine lv_aload_n hx hb d_B_isForExact_0 rfl (lv_at hl 0 rfl) ?_
  refine va_get (D := (dC, dI)) (ci := 3) (v := .ref (ad 1)) (C := R_B) (T := F_B) (N := 4) hx hb htb in_B hown hK hP 0 rfl rfl 0 (by decide) (htb _ wd_117) (fun _ h9 => h9) rfl d_B_isForExact_1 ?_
  refine va_getN (D := (dC, dI)) (ci := 2) (v := .int (nI (bz_n t))) (C := R_T) (T := F_T) (N := 6) hx hb htb in_T hown hK hP 1 rfl rfl 5 (by decide) (va_Nw.use rfl (hN _ nd_57)) (fun _ h9 => h9) rfl d_B_isForExact_4 ?_
  refine lv_bipush (v := 8) hx hb d_B_isForExact_7 (by decide) ?_
  refine lv_icmp_gt (tgt := 16) hx hb d_B_isForExact_9 (by decide) (fun c_9 => ?_) (fun c_9 => ?_)
  · skip
    have hq : decide (bz_n t ≤ 8) = false := decide_eq_false fun q => Int32.not_lt.mpr ((nI_leI (b := 8) (by omega) (by omega)).mpr q) c_9
    refine lv_iconst (v := 0) hx hb d_B_isForExact_16 (by decide) ?_
    exact W.zret (v := 0) hx hb hr (rfl) (fun t9 ht9 hW => ⟨0, rfl, by rw [hq]; rfl, ht9⟩) (fun _ h => nomatch h) d_B_isForExact_17
  · skip
    have hq : decide (bz_n t ≤ 8) = true := decide_eq_true ((nI_leI (b := 8) (by have := ht.1; omega) (by omega)).mp (Int32.not_lt.mp c_9))
    refine lv_iconst (v := 1) hx hb d_B_isForExact_12 (by decide) ?_
    refine lv_goto (tgt := 17) hx hb d_B_isForExact_13 (by decide) ?_
    exact W.zret (v := 1) hx hb hr (rfl) (fun t9 ht9 hW => ⟨1, rfl, by rw [hq]; rfl, ht9⟩) (fun _ h => nomatch h) d_B_isForExact_17

set_option maxHeartbeats 4000000 in
set_option maxRecDepth 100000 in
/-- otherRound -/
theorem c_B_otherRound (l : Launch) (dC : Nat → ClassId) (dI : Nat → Nat → Nat) (ad : Nat → Nat) (cI cL : ClassId) (t : bz_T) (R : bz_RS) (L : (Nat → Int32) × Int64) (v : Int32) (r i : Nat) (hr4 : r < 4) (hi4 : i < 4) : Met l y_B_otherRound w_B_otherRound ({ frames := 0, cells := 0, slots := 0, locals := 0 }) (bz_Pr (dC, dI) [(cI, .int), (cL, .long)] (bz_wB ad cI cL (bz_tR t) R L v) [.int (nI r), .int (nI i)]) (vp_Si (fun r9 => r9 = nI (bz_ot r i))) 0 0 (fun _ => False) := by
  refine Met.ofW (cc := b_B_otherRound) (maxL := 2) (ret := (some .int)) (by decide) rfl ?_
  intro p e s m args below meth c s₁ B hml hv
  obtain ⟨rfl, hP, hK, hN⟩ := hv
  have hx := B.exec
  have hb := B.bytes
  have hr := B.returns
  have hts := atoms_spec (ws := w_B_otherRound) B.pre
  have hown : s.vm.findClass R_B = some m.cls := findClass_of_methodNamed B.named
  have htb : ∀ w ∈ bz_tb, w.before _ s = true := fun w h => hts w (List.mem_cons_of_mem _ h)
  have hlocks := B.notSynchronized
  have hl := lv_entry ([.int (nI r), .int (nI i)]) (n := 2) (Nat.le_of_ble_eq_true rfl)
  rw [lg_entry_eq]
  generalize (lg_sl ([.int (nI r), .int (nI i)]) ++ List.replicate (2 - (lg_sl ([.int (nI r), .int (nI i)])).length) Slot.unset).toArray = ls at hl ⊢
  have hl : lv_has ls 2 [(0, .int (nI r)), (1, .int (nI i))] := hl
  refine lv_iload_n hx hb d_B_otherRound_0 rfl (lv_at hl 1 rfl) ?_
  refine lv_iload_n hx hb d_B_otherRound_1 rfl (lv_at hl 0 rfl) ?_
  refine lv_icmp_ge (tgt := 9) hx hb d_B_otherRound_2 (by decide) (fun c_2 => ?_) (fun c_2 => ?_)
  · skip
    have hq : ¬ i < r := Nat.not_lt.mpr ((nI_leI (by omega) (by omega)).mp c_2)
    refine lv_iload_n hx hb d_B_otherRound_9 rfl (lv_at hl 1 rfl) ?_
    refine lv_iconst (v := 1) hx hb d_B_otherRound_10 (by decide) ?_
    refine lv_iadd hx hb d_B_otherRound_11 ?_
    refine bz_ri (y := nI (i + 1)) (nI_1 _) ?_
    exact W.iret (v := nI (i + 1)) hx hb hr (fun t9 ht9 hW => ⟨nI (i + 1), rfl, by unfold bz_ot; rw [if_neg hq], ht9⟩) (fun _ h => nomatch h) d_B_otherRound_12
  · skip
    have hq : i < r := Nat.lt_of_not_le fun q => c_2 ((nI_leI (by omega) (by omega)).mpr q)
    refine lv_iload_n hx hb d_B_otherRound_5 rfl (lv_at hl 1 rfl) ?_
    refine lv_goto (tgt := 12) hx hb d_B_otherRound_6 (by decide) ?_
    exact W.iret (v := nI i) hx hb hr (fun t9 ht9 hW => ⟨nI i, rfl, by unfold bz_ot; rw [if_pos hq], ht9⟩) (fun _ h => nomatch h) d_B_otherRound_12
