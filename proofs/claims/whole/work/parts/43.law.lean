set_option maxHeartbeats 4000000 in
set_option maxRecDepth 100000 in
theorem law_round {p : Program} {l : Launch} {e : Env} {s : State} {m : MethodId} {below : List Frame} {meth : Method} {c : Code} {dC : Nat → ClassId} {dI : Nat → Nat → Nat} {ad am : Nat → Nat} {cI cL cZ : ClassId} {qo b L : Nat} {xs : Nat → Int32} (hL : L ≤ 2048) (C0 : lw_At p s m meth c b L xs) (hK : va_K (dC, dI) vwCl [(cI, .int), (cL, .long), (cZ, .boolean)] s) (hN : bz_N s) (k : Nat) (hk : 4 * k + 4 ≤ L) (ih : ∀ (H : Heap) (locs : List Loc) (ls : Array Slot), bz_I (dC, dI) ad am cI cL cZ qo s H locs → lv_has ls 7 [(0, .ref b), (1, .ref (ad 0)), (2, .ref (am 0)), (3, .ref qo), (4, .int (nI (4 * k)))] → W p l e room_1 s m #[Value.ref b] below meth c H locs (23 + (k + 1)) (1349 + 6 * (k + 1)) (lw_Z below #[Value.ref b] s) (F0 m 564 ls [])) :
    ∀ (H : Heap) (locs : List Loc) (ls : Array Slot), bz_I (dC, dI) ad am cI cL cZ qo s H locs → lv_has ls 7 [(0, .ref b), (1, .ref (ad 0)), (2, .ref (am 0)), (3, .ref qo), (4, .int (nI (4 * k)))] → W p l e room_1 s m #[Value.ref b] below meth c H locs (23 + k) (1349 + 6 * k) (lw_Z below #[Value.ref b] s) (F0 m 398 ls []) := by
  obtain ⟨hx, hb, hr, hml, hown, hts, hX, hbl, hlocks, hgv⟩ := id C0
  have htb : ∀ w ∈ bz_tb, w.before #[Value.ref b] s = true := fun w h => hts w (List.mem_filter.mp h).1
  have hA : ∀ q : Nat, s.heap.size ≤ q → (fun q : Nat => s.heap.size ≤ q) q := fun _ h => h
  have hbA : ¬ (fun q : Nat => s.heap.size ≤ q) b := Nat.not_le.mpr hbl
  have hK2 := hK.sub (tys' := [(cI, .int), (cL, .long)]) [0, 1] rfl
  intro H locs ls hI hl
  obtain ⟨t, slv, f, A1, A2, o1, c1, rw, co, th, g, tr, S3, O, ht, hR, hP, hD, hS⟩ := hI
  have hn30 := ht.1
  cases hz : bz_ia (bz_n t) (xs (4 * k + 1))
  · skip
    refine lv_aload_n hx hb d_law_398 rfl (lv_at hl 1 rfl) ?_
    refine lv_aload_n hx hb d_law_399 rfl (lv_at hl 0 rfl) ?_
    refine lv_iload hx hb d_law_400 (lv_at hl 4 rfl) ?_
    refine lv_iconst (v := 1) hx hb d_law_402 (by decide) ?_
    refine lv_iadd hx hb d_law_403 ?_
    refine bz_ri (y := nI (4 * k + 1)) (nI_1 _) ?_
    refine bz_sld (j := (4 * k + 1)) hx hb hX hbl hbA hS (by omega) (by omega) d_law_404 ?_
    refine bz_si (va_runV (As := [.int (xs (4 * k + 1))]) (rest := []) ⟨hx, hb, hml, hown, htb⟩ (c_B_round_u l dC dI ad cI cL t (fun a => nI (f a), A1, A2, o1, c1) (fun j => nI (rw j), co) (bz_i slv) ht _ hz) (cwV 1 htb (bz_gV wd_275 wd_272 wd_273 wd_274 wd_19) rfl rfl rfl (by decide +kernel) ⟨Nat.le_of_ble_eq_true rfl, Nat.le_of_ble_eq_true rfl⟩) (bz_rv hN hK2 (hP.sub (ws' := bz_wB ad cI cL (bz_tR t) (fun a => nI (f a), A1, A2, o1, c1) (fun j => nI (rw j), co) (bz_i slv)) [0, 1, 2, 3, 4, 5, 6, 7, 8, 9, 10, 11, 12] rfl) (q0 := 0) rfl rfl) rfl rfl hl.1 rfl (lv_room (Nat.le_of_ble_eq_true rfl)) d_law_405 ⟨show 23 + k + 0 ≤ 601024 by omega, show 1349 + 6 * k + 0 ≤ 7293034 by omega⟩) ?_
    refine lv_aload_n hx hb d_law_408 rfl (lv_at hl 2 rfl) ?_
    refine lv_aload_n hx hb d_law_409 rfl (lv_at hl 0 rfl) ?_
    refine lv_iload hx hb d_law_410 (lv_at hl 4 rfl) ?_
    refine lv_iconst (v := 1) hx hb d_law_412 (by decide) ?_
    refine lv_iadd hx hb d_law_413 ?_
    refine bz_ri (y := nI (4 * k + 1)) (nI_1 _) ?_
    refine bz_sld (j := (4 * k + 1)) hx hb hX hbl hbA hS (by omega) (by omega) d_law_414 ?_
    have hPc := hP.sub (ws' := bz_wM am cI cL cZ (bz_tM t) (th, bz_i slv, bz_i (slv && decide (bz_n t ≤ 8))) (fun a => nI (g a), fun a => nI (tr a), S3)) [13, 14, 15, 16, 17, 18, 19, 20, 21] rfl
    have hDc := hD.sub (ws' := bz_wM am cI cL cZ (bz_tM t) (th, bz_i slv, bz_i (slv && decide (bz_n t ≤ 8))) (fun a => nI (g a), fun a => nI (tr a), S3)) [13, 14, 15, 16, 17, 18, 19, 20, 21] (by decide) rfl
    have hFc := va_free (wc := bz_wM am cI cL cZ (bz_tM t) (th, bz_i slv, bz_i (slv && decide (bz_n t ≤ 8))) (fun a => nI (g a), fun a => nI (tr a), S3)) hD hS hA [13, 14, 15, 16, 17, 18, 19, 20, 21] rfl
    refine va_calli (va_runV (As := [.int (xs (4 * k + 1))]) (rest := [.int (-11)]) ⟨hx, hb, hml, hown, htb⟩ (c_M_round_u l dC dI _ am cI cL cZ t th (bz_i slv) (bz_i (slv && decide (bz_n t ≤ 8))) (fun a => nI (g a)) (fun a => nI (tr a)) S3 ht _ hz) (cwV 1 htb (bz_gV wd_533 wd_530 wd_531 wd_532 wd_23) rfl rfl rfl (by decide +kernel) ⟨Nat.le_of_ble_eq_true rfl, Nat.le_of_ble_eq_true rfl⟩) (bz_wv hN hK hPc hDc (q0 := 0) rfl rfl) rfl rfl hl.1 rfl (lv_room (Nat.le_of_ble_eq_true rfl)) d_law_415 ⟨show 23 + k + 0 ≤ 601024 by omega, show 1349 + 6 * k + 0 ≤ 7293034 by omega⟩) hS (fun q _ h => hFc q h) hFc (fun r9 w t9 H locs ht9 hvm hw9 hB9 hz9 hk9 hS => ?_)
    obtain ⟨hP1, hK1, hD1⟩ := hB9
    rw [ht9] at hP1
    obtain ⟨hP, hD⟩ := bz_jM hP hD hk9 hFc hP1 hD1
    obtain rfl : r9 = (-11) := hw9
    have hP : va_P (dC, dI) vwCl (bz_wB ad cI cL (bz_tR t) (fun a => nI (f a), A1, A2, o1, c1) (fun j => nI (rw j), co) (bz_i slv) ++ (bz_wM am cI cL cZ (bz_tM t) (0, bz_i slv, bz_i (slv && decide (bz_n t ≤ 8))) (fun a => nI (g a), fun a => nI (tr a), S3) ++ [(qo, .inl (cL, 1, .inr (.inl O)))])) H := hP
    have hD : va_D (fun q : Nat => s.heap.size ≤ q) (bz_wB ad cI cL (bz_tR t) (fun a => nI (f a), A1, A2, o1, c1) (fun j => nI (rw j), co) (bz_i slv) ++ (bz_wM am cI cL cZ (bz_tM t) (0, bz_i slv, bz_i (slv && decide (bz_n t ≤ 8))) (fun a => nI (g a), fun a => nI (tr a), S3) ++ [(qo, .inl (cL, 1, .inr (.inl O)))])) := hD
    refine lv_icmp_eq (tgt := 564) hx hb d_law_418 (by decide) (fun c_418 => ?_) (fun c_418 => ?_)
    · skip
      refine W.widen (k := 23 + (k + 1)) (n := 1349 + 6 * (k + 1)) (by omega) (by omega) ?_
      exact ih _ _ _ ⟨t, slv, f, A1, A2, o1, c1, rw, co, 0, g, tr, S3, O, ht, hR, hP, hD, hS⟩ (lv_sub hl [0, 1, 2, 3, 4] rfl)
    · skip
      exact absurd rfl c_418
  · cases slv
    · have hP : va_P (dC, dI) vwCl (bz_wB ad cI cL (bz_tR t) (fun a => nI (f a), A1, A2, o1, c1) (fun j => nI (rw j), co) (0) ++ (bz_wM am cI cL cZ (bz_tM t) (th, 0, 0) (fun a => nI (g a), fun a => nI (tr a), S3) ++ [(qo, .inl (cL, 1, .inr (.inl O)))])) H := hP
      have hD : va_D (fun q : Nat => s.heap.size ≤ q) (bz_wB ad cI cL (bz_tR t) (fun a => nI (f a), A1, A2, o1, c1) (fun j => nI (rw j), co) (0) ++ (bz_wM am cI cL cZ (bz_tM t) (th, 0, 0) (fun a => nI (g a), fun a => nI (tr a), S3) ++ [(qo, .inl (cL, 1, .inr (.inl O)))])) := hD
      refine lv_aload_n hx hb d_law_398 rfl (lv_at hl 1 rfl) ?_
      refine lv_aload_n hx hb d_law_399 rfl (lv_at hl 0 rfl) ?_
      refine lv_iload hx hb d_law_400 (lv_at hl 4 rfl) ?_
      refine lv_iconst (v := 1) hx hb d_law_402 (by decide) ?_
      refine lv_iadd hx hb d_law_403 ?_
      refine bz_ri (y := nI (4 * k + 1)) (nI_1 _) ?_
      refine bz_sld (j := (4 * k + 1)) hx hb hX hbl hbA hS (by omega) (by omega) d_law_404 ?_
      refine bz_si (va_runV (As := [.int (xs (4 * k + 1))]) (rest := []) ⟨hx, hb, hml, hown, htb⟩ (c_B_round_s l dC dI ad cI cL t (fun a => nI (f a), A1, A2, o1, c1) (fun j => nI (rw j), co) ht _ hz) (cwV 1 htb (bz_gV wd_275 wd_272 wd_273 wd_274 wd_19) rfl rfl rfl (by decide +kernel) ⟨Nat.le_of_ble_eq_true rfl, Nat.le_of_ble_eq_true rfl⟩) (bz_rv hN hK2 (hP.sub (ws' := bz_wB ad cI cL (bz_tR t) (fun a => nI (f a), A1, A2, o1, c1) (fun j => nI (rw j), co) (0)) [0, 1, 2, 3, 4, 5, 6, 7, 8, 9, 10, 11, 12] rfl) (q0 := 0) rfl rfl) rfl rfl hl.1 rfl (lv_room (Nat.le_of_ble_eq_true rfl)) d_law_405 ⟨show 23 + k + 0 ≤ 601024 by omega, show 1349 + 6 * k + 0 ≤ 7293034 by omega⟩) ?_
      refine lv_aload_n hx hb d_law_408 rfl (lv_at hl 2 rfl) ?_
      refine lv_aload_n hx hb d_law_409 rfl (lv_at hl 0 rfl) ?_
      refine lv_iload hx hb d_law_410 (lv_at hl 4 rfl) ?_
      refine lv_iconst (v := 1) hx hb d_law_412 (by decide) ?_
      refine lv_iadd hx hb d_law_413 ?_
      refine bz_ri (y := nI (4 * k + 1)) (nI_1 _) ?_
      refine bz_sld (j := (4 * k + 1)) hx hb hX hbl hbA hS (by omega) (by omega) d_law_414 ?_
      have hPc := hP.sub (ws' := bz_wM am cI cL cZ (bz_tM t) (th, 0, 0) (fun a => nI (g a), fun a => nI (tr a), S3)) [13, 14, 15, 16, 17, 18, 19, 20, 21] rfl
      have hDc := hD.sub (ws' := bz_wM am cI cL cZ (bz_tM t) (th, 0, 0) (fun a => nI (g a), fun a => nI (tr a), S3)) [13, 14, 15, 16, 17, 18, 19, 20, 21] (by decide) rfl
      have hFc := va_free (wc := bz_wM am cI cL cZ (bz_tM t) (th, 0, 0) (fun a => nI (g a), fun a => nI (tr a), S3)) hD hS hA [13, 14, 15, 16, 17, 18, 19, 20, 21] rfl
      refine va_calli (va_runV (As := [.int (xs (4 * k + 1))]) (rest := [.int (-13)]) ⟨hx, hb, hml, hown, htb⟩ (c_M_round_s l dC dI _ am cI cL cZ t th 0 (fun a => nI (g a)) (fun a => nI (tr a)) S3 ht _ hz) (cwV 1 htb (bz_gV wd_533 wd_530 wd_531 wd_532 wd_23) rfl rfl rfl (by decide +kernel) ⟨Nat.le_of_ble_eq_true rfl, Nat.le_of_ble_eq_true rfl⟩) (bz_wv hN hK hPc hDc (q0 := 0) rfl rfl) rfl rfl hl.1 rfl (lv_room (Nat.le_of_ble_eq_true rfl)) d_law_415 ⟨show 23 + k + 0 ≤ 601024 by omega, show 1349 + 6 * k + 0 ≤ 7293034 by omega⟩) hS (fun q _ h => hFc q h) hFc (fun r9 w t9 H locs ht9 hvm hw9 hB9 hz9 hk9 hS => ?_)
      obtain ⟨hP1, hK1, hD1⟩ := hB9
      rw [ht9] at hP1
      obtain ⟨hP, hD⟩ := bz_jM hP hD hk9 hFc hP1 hD1
      obtain rfl : r9 = (-13) := hw9
      have hP : va_P (dC, dI) vwCl (bz_wB ad cI cL (bz_tR t) (fun a => nI (f a), A1, A2, o1, c1) (fun j => nI (rw j), co) (0) ++ (bz_wM am cI cL cZ (bz_tM t) (0, 0, 0) (fun a => nI (g a), fun a => nI (tr a), S3) ++ [(qo, .inl (cL, 1, .inr (.inl O)))])) H := hP
      have hD : va_D (fun q : Nat => s.heap.size ≤ q) (bz_wB ad cI cL (bz_tR t) (fun a => nI (f a), A1, A2, o1, c1) (fun j => nI (rw j), co) (0) ++ (bz_wM am cI cL cZ (bz_tM t) (0, 0, 0) (fun a => nI (g a), fun a => nI (tr a), S3) ++ [(qo, .inl (cL, 1, .inr (.inl O)))])) := hD
      refine lv_icmp_eq (tgt := 564) hx hb d_law_418 (by decide) (fun c_418 => ?_) (fun c_418 => ?_)
      · skip
        refine W.widen (k := 23 + (k + 1)) (n := 1349 + 6 * (k + 1)) (by omega) (by omega) ?_
        exact ih _ _ _ ⟨t, false, f, A1, A2, o1, c1, rw, co, 0, g, tr, S3, O, ht, fun h => absurd h (by decide), hP, hD, hS⟩ (lv_sub hl [0, 1, 2, 3, 4] rfl)
      · skip
        exact absurd rfl c_418
    · obtain ⟨hR1, hfg, hg4⟩ := hR rfl
      rw [hR1] at hP hD
      have hP : va_P (dC, dI) vwCl (bz_wB ad cI cL (bz_tR t) (bz_sR t (bz_fu f)) (fun j => nI (rw j), co) (1) ++ (bz_wM am cI cL cZ (bz_tM t) (th, 1, bz_i (decide (bz_n t ≤ 8))) (fun a => nI (g a), fun a => nI (tr a), S3) ++ [(qo, .inl (cL, 1, .inr (.inl O)))])) H := hP
      have hD : va_D (fun q : Nat => s.heap.size ≤ q) (bz_wB ad cI cL (bz_tR t) (bz_sR t (bz_fu f)) (fun j => nI (rw j), co) (1) ++ (bz_wM am cI cL cZ (bz_tM t) (th, 1, bz_i (decide (bz_n t ≤ 8))) (fun a => nI (g a), fun a => nI (tr a), S3) ++ [(qo, .inl (cL, 1, .inr (.inl O)))])) := hD
      obtain ⟨a, ha, hq1⟩ := bz_ia_of hn30 hz
      refine lv_aload_n hx hb d_law_398 rfl (lv_at hl 1 rfl) ?_
      refine lv_aload_n hx hb d_law_399 rfl (lv_at hl 0 rfl) ?_
      refine lv_iload hx hb d_law_400 (lv_at hl 4 rfl) ?_
      refine lv_iconst (v := 1) hx hb d_law_402 (by decide) ?_
      refine lv_iadd hx hb d_law_403 ?_
      refine bz_ri (y := nI (4 * k + 1)) (nI_1 _) ?_
      refine bz_sld (j := (4 * k + 1)) hx hb hX hbl hbA hS (by omega) (by omega) d_law_404 ?_
      refine bz_ri (y := nI (a + 1)) (hq1) ?_
      refine bz_si (va_runV (As := [.int (nI (a + 1))]) (rest := []) ⟨hx, hb, hml, hown, htb⟩ (c_B_round l dC dI ad cI cL t f (fun j => nI (rw j), co) ht a ha) (cwV 1 htb (bz_gV wd_275 wd_272 wd_273 wd_274 wd_19) rfl rfl rfl (by decide +kernel) ⟨Nat.le_of_ble_eq_true rfl, Nat.le_of_ble_eq_true rfl⟩) (bz_rv hN hK2 (hP.sub (ws' := bz_wB ad cI cL (bz_tR t) (bz_sR t (bz_fu f)) (fun j => nI (rw j), co) (1)) [0, 1, 2, 3, 4, 5, 6, 7, 8, 9, 10, 11, 12] rfl) (q0 := 0) rfl rfl) rfl rfl hl.1 rfl (lv_room (Nat.le_of_ble_eq_true rfl)) d_law_405 ⟨show 23 + k + 0 ≤ 601024 by omega, show 1349 + 6 * k + 0 ≤ 7293034 by omega⟩) ?_
      refine lv_aload_n hx hb d_law_408 rfl (lv_at hl 2 rfl) ?_
      refine lv_aload_n hx hb d_law_409 rfl (lv_at hl 0 rfl) ?_
      refine lv_iload hx hb d_law_410 (lv_at hl 4 rfl) ?_
      refine lv_iconst (v := 1) hx hb d_law_412 (by decide) ?_
      refine lv_iadd hx hb d_law_413 ?_
      refine bz_ri (y := nI (4 * k + 1)) (nI_1 _) ?_
      refine bz_sld (j := (4 * k + 1)) hx hb hX hbl hbA hS (by omega) (by omega) d_law_414 ?_
      refine bz_ri (y := nI (a + 1)) (hq1) ?_
      have hPc := hP.sub (ws' := bz_wM am cI cL cZ (bz_tM t) (th, 1, bz_i (decide (bz_n t ≤ 8))) (fun a => nI (g a), fun a => nI (tr a), S3)) [13, 14, 15, 16, 17, 18, 19, 20, 21] rfl
      have hDc := hD.sub (ws' := bz_wM am cI cL cZ (bz_tM t) (th, 1, bz_i (decide (bz_n t ≤ 8))) (fun a => nI (g a), fun a => nI (tr a), S3)) [13, 14, 15, 16, 17, 18, 19, 20, 21] (by decide) rfl
      have hFc := va_free (wc := bz_wM am cI cL cZ (bz_tM t) (th, 1, bz_i (decide (bz_n t ≤ 8))) (fun a => nI (g a), fun a => nI (tr a), S3)) hD hS hA [13, 14, 15, 16, 17, 18, 19, 20, 21] rfl
      refine va_calli (va_runV (As := [.int (nI (a + 1))]) (rest := [.int (nI (f a))]) ⟨hx, hb, hml, hown, htb⟩ (c_M_round l dC dI _ am cI cL cZ t th (bz_i (decide (bz_n t ≤ 8))) g (fun a => nI (tr a)) S3 ht a ha) (cwV 1 htb (bz_gV wd_533 wd_530 wd_531 wd_532 wd_23) rfl rfl rfl (by decide +kernel) ⟨Nat.le_of_ble_eq_true rfl, Nat.le_of_ble_eq_true rfl⟩) (bz_wv hN hK hPc hDc (q0 := 0) rfl rfl) rfl rfl hl.1 rfl (lv_room (Nat.le_of_ble_eq_true rfl)) d_law_415 ⟨show 23 + k + 0 ≤ 601024 by omega, show 1349 + 6 * k + 0 ≤ 7293034 by omega⟩) hS (fun q _ h => hFc q h) hFc (fun r9 w t9 H locs ht9 hvm hw9 hB9 hz9 hk9 hS => ?_)
      obtain ⟨hP1, hK1, hD1⟩ := hB9
      rw [ht9] at hP1
      obtain ⟨hP, hD⟩ := bz_jM hP hD hk9 hFc hP1 hD1
      obtain rfl : r9 = nI (g a) := hw9
      have hP : va_P (dC, dI) vwCl (bz_wB ad cI cL (bz_tR t) (bz_sR t (bz_fu f)) (fun j => nI (rw j), co) (1) ++ (bz_wM am cI cL cZ (bz_tM t) (0, 1, bz_i (decide (bz_n t ≤ 8))) (fun a => nI (g a), fun a => nI (tr a), S3) ++ [(qo, .inl (cL, 1, .inr (.inl O)))])) H := hP
      have hD : va_D (fun q : Nat => s.heap.size ≤ q) (bz_wB ad cI cL (bz_tR t) (bz_sR t (bz_fu f)) (fun j => nI (rw j), co) (1) ++ (bz_wM am cI cL cZ (bz_tM t) (0, 1, bz_i (decide (bz_n t ≤ 8))) (fun a => nI (g a), fun a => nI (tr a), S3) ++ [(qo, .inl (cL, 1, .inr (.inl O)))])) := hD
      refine lv_icmp_eq (tgt := 564) hx hb d_law_418 (by decide) (fun c_418 => ?_) (fun c_418 => ?_)
      · skip
        refine W.widen (k := 23 + (k + 1)) (n := 1349 + 6 * (k + 1)) (by omega) (by omega) ?_
        exact ih _ _ _ ⟨t, true, f, (bz_sR t (bz_fu f)).2.1, (bz_sR t (bz_fu f)).2.2.1, (bz_sR t (bz_fu f)).2.2.2.1, (bz_sR t (bz_fu f)).2.2.2.2, rw, co, 0, g, tr, S3, O, ht, fun _ => ⟨rfl, hfg, hg4⟩, hP, hD, hS⟩ (lv_sub hl [0, 1, 2, 3, 4] rfl)
      · skip
        exact absurd (by rw [hfg a ha]) c_418

set_option maxHeartbeats 4000000 in
set_option maxRecDepth 100000 in
theorem law_changed {p : Program} {l : Launch} {e : Env} {s : State} {m : MethodId} {below : List Frame} {meth : Method} {c : Code} {dC : Nat → ClassId} {dI : Nat → Nat → Nat} {ad am : Nat → Nat} {cI cL cZ : ClassId} {qo b L : Nat} {xs : Nat → Int32} (hL : L ≤ 2048) (C0 : lw_At p s m meth c b L xs) (hK : va_K (dC, dI) vwCl [(cI, .int), (cL, .long), (cZ, .boolean)] s) (hN : bz_N s) (k : Nat) (hk : 4 * k + 4 ≤ L) (ih : ∀ (H : Heap) (locs : List Loc) (ls : Array Slot), bz_I (dC, dI) ad am cI cL cZ qo s H locs → lv_has ls 7 [(0, .ref b), (1, .ref (ad 0)), (2, .ref (am 0)), (3, .ref qo), (4, .int (nI (4 * k)))] → W p l e room_1 s m #[Value.ref b] below meth c H locs (23 + (k + 1)) (1349 + 6 * (k + 1)) (lw_Z below #[Value.ref b] s) (F0 m 564 ls [])) :
    ∀ (H : Heap) (locs : List Loc) (ls : Array Slot), bz_I (dC, dI) ad am cI cL cZ qo s H locs → lv_has ls 7 [(0, .ref b), (1, .ref (ad 0)), (2, .ref (am 0)), (3, .ref qo), (4, .int (nI (4 * k)))] → W p l e room_1 s m #[Value.ref b] below meth c H locs (23 + k) (1349 + 6 * k) (lw_Z below #[Value.ref b] s) (F0 m 423 ls []) := by
  obtain ⟨hx, hb, hr, hml, hown, hts, hX, hbl, hlocks, hgv⟩ := id C0
  have htb : ∀ w ∈ bz_tb, w.before #[Value.ref b] s = true := fun w h => hts w (List.mem_filter.mp h).1
  have hA : ∀ q : Nat, s.heap.size ≤ q → (fun q : Nat => s.heap.size ≤ q) q := fun _ h => h
  have hbA : ¬ (fun q : Nat => s.heap.size ≤ q) b := Nat.not_le.mpr hbl
  have hK2 := hK.sub (tys' := [(cI, .int), (cL, .long)]) [0, 1] rfl
  intro H locs ls hI hl
  obtain ⟨t, slv, f, A1, A2, o1, c1, rw, co, th, g, tr, S3, O, ht, hR, hP, hD, hS⟩ := hI
  have hn30 := ht.1
  cases slv
  · have hP : va_P (dC, dI) vwCl (bz_wB ad cI cL (bz_tR t) (fun a => nI (f a), A1, A2, o1, c1) (fun j => nI (rw j), co) (0) ++ (bz_wM am cI cL cZ (bz_tM t) (th, 0, 0) (fun a => nI (g a), fun a => nI (tr a), S3) ++ [(qo, .inl (cL, 1, .inr (.inl O)))])) H := hP
    have hD : va_D (fun q : Nat => s.heap.size ≤ q) (bz_wB ad cI cL (bz_tR t) (fun a => nI (f a), A1, A2, o1, c1) (fun j => nI (rw j), co) (0) ++ (bz_wM am cI cL cZ (bz_tM t) (th, 0, 0) (fun a => nI (g a), fun a => nI (tr a), S3) ++ [(qo, .inl (cL, 1, .inr (.inl O)))])) := hD
    refine lv_aload_n hx hb d_law_423 rfl (lv_at hl 1 rfl) ?_
    refine bz_si (va_runV (As := []) (rest := []) ⟨hx, hb, hml, hown, htb⟩ (c_B_changed_s l dC dI ad cI cL t (fun a => nI (f a), A1, A2, o1, c1) (fun j => nI (rw j), co) ht) (cwV 0 htb (bz_gV wd_279 wd_276 wd_277 wd_278 wd_19) rfl rfl rfl (by decide +kernel) ⟨Nat.le_of_ble_eq_true rfl, Nat.le_of_ble_eq_true rfl⟩) (bz_rv hN hK2 (hP.sub (ws' := bz_wB ad cI cL (bz_tR t) (fun a => nI (f a), A1, A2, o1, c1) (fun j => nI (rw j), co) (0)) [0, 1, 2, 3, 4, 5, 6, 7, 8, 9, 10, 11, 12] rfl) (q0 := 0) rfl rfl) rfl rfl hl.1 rfl (lv_room (Nat.le_of_ble_eq_true rfl)) d_law_424 ⟨show 23 + k + 0 ≤ 601024 by omega, show 1349 + 6 * k + 0 ≤ 7293034 by omega⟩) ?_
    refine lv_aload_n hx hb d_law_427 rfl (lv_at hl 2 rfl) ?_
    have hPc := hP.sub (ws' := bz_wM am cI cL cZ (bz_tM t) (th, 0, 0) (fun a => nI (g a), fun a => nI (tr a), S3)) [13, 14, 15, 16, 17, 18, 19, 20, 21] rfl
    have hDc := hD.sub (ws' := bz_wM am cI cL cZ (bz_tM t) (th, 0, 0) (fun a => nI (g a), fun a => nI (tr a), S3)) [13, 14, 15, 16, 17, 18, 19, 20, 21] (by decide) rfl
    have hFc := va_free (wc := bz_wM am cI cL cZ (bz_tM t) (th, 0, 0) (fun a => nI (g a), fun a => nI (tr a), S3)) hD hS hA [13, 14, 15, 16, 17, 18, 19, 20, 21] rfl
    refine va_calli (va_runV (As := []) (rest := [.int (-13)]) ⟨hx, hb, hml, hown, htb⟩ (c_M_changed_s l dC dI _ am cI cL cZ t th 0 (fun a => nI (g a)) (fun a => nI (tr a)) S3 ht) (cwV 0 htb (bz_gV wd_537 wd_534 wd_535 wd_536 wd_23) rfl rfl rfl (by decide +kernel) ⟨Nat.le_of_ble_eq_true rfl, Nat.le_of_ble_eq_true rfl⟩) (bz_wv hN hK hPc hDc (q0 := 0) rfl rfl) rfl rfl hl.1 rfl (lv_room (Nat.le_of_ble_eq_true rfl)) d_law_428 ⟨show 23 + k + 0 ≤ 601024 by omega, show 1349 + 6 * k + 0 ≤ 7293034 by omega⟩) hS (fun q _ h => hFc q h) hFc (fun r9 w t9 H locs ht9 hvm hw9 hB9 hz9 hk9 hS => ?_)
    obtain ⟨hP1, hK1, hD1⟩ := hB9
    rw [ht9] at hP1
    obtain ⟨hP, hD⟩ := bz_jM hP hD hk9 hFc hP1 hD1
    obtain rfl : r9 = (-13) := hw9
    have hP : va_P (dC, dI) vwCl (bz_wB ad cI cL (bz_tR t) (fun a => nI (f a), A1, A2, o1, c1) (fun j => nI (rw j), co) (0) ++ (bz_wM am cI cL cZ (bz_tM t) (0, 0, 0) (fun a => nI (g a), fun a => nI (tr a), S3) ++ [(qo, .inl (cL, 1, .inr (.inl O)))])) H := hP
    have hD : va_D (fun q : Nat => s.heap.size ≤ q) (bz_wB ad cI cL (bz_tR t) (fun a => nI (f a), A1, A2, o1, c1) (fun j => nI (rw j), co) (0) ++ (bz_wM am cI cL cZ (bz_tM t) (0, 0, 0) (fun a => nI (g a), fun a => nI (tr a), S3) ++ [(qo, .inl (cL, 1, .inr (.inl O)))])) := hD
    refine lv_icmp_eq (tgt := 564) hx hb d_law_431 (by decide) (fun c_431 => ?_) (fun c_431 => ?_)
    · skip
      refine W.widen (k := 23 + (k + 1)) (n := 1349 + 6 * (k + 1)) (by omega) (by omega) ?_
      exact ih _ _ _ ⟨t, false, f, A1, A2, o1, c1, rw, co, 0, g, tr, S3, O, ht, fun h => absurd h (by decide), hP, hD, hS⟩ (lv_sub hl [0, 1, 2, 3, 4] rfl)
    · skip
      exact absurd rfl c_431
  · obtain ⟨hR1, hfg, hg4⟩ := hR rfl
    rw [hR1] at hP hD
    have hP : va_P (dC, dI) vwCl (bz_wB ad cI cL (bz_tR t) (bz_sR t (bz_fu f)) (fun j => nI (rw j), co) (1) ++ (bz_wM am cI cL cZ (bz_tM t) (th, 1, bz_i (decide (bz_n t ≤ 8))) (fun a => nI (g a), fun a => nI (tr a), S3) ++ [(qo, .inl (cL, 1, .inr (.inl O)))])) H := hP
    have hD : va_D (fun q : Nat => s.heap.size ≤ q) (bz_wB ad cI cL (bz_tR t) (bz_sR t (bz_fu f)) (fun j => nI (rw j), co) (1) ++ (bz_wM am cI cL cZ (bz_tM t) (th, 1, bz_i (decide (bz_n t ≤ 8))) (fun a => nI (g a), fun a => nI (tr a), S3) ++ [(qo, .inl (cL, 1, .inr (.inl O)))])) := hD
    refine lv_aload_n hx hb d_law_423 rfl (lv_at hl 1 rfl) ?_
    refine bz_si (va_runV (As := []) (rest := []) ⟨hx, hb, hml, hown, htb⟩ (c_B_changed l dC dI ad cI cL t f (fun j => nI (rw j), co) ht) (cwV 0 htb (bz_gV wd_279 wd_276 wd_277 wd_278 wd_19) rfl rfl rfl (by decide +kernel) ⟨Nat.le_of_ble_eq_true rfl, Nat.le_of_ble_eq_true rfl⟩) (bz_rv hN hK2 (hP.sub (ws' := bz_wB ad cI cL (bz_tR t) (bz_sR t (bz_fu f)) (fun j => nI (rw j), co) (1)) [0, 1, 2, 3, 4, 5, 6, 7, 8, 9, 10, 11, 12] rfl) (q0 := 0) rfl rfl) rfl rfl hl.1 rfl (lv_room (Nat.le_of_ble_eq_true rfl)) d_law_424 ⟨show 23 + k + 0 ≤ 601024 by omega, show 1349 + 6 * k + 0 ≤ 7293034 by omega⟩) ?_
    refine lv_aload_n hx hb d_law_427 rfl (lv_at hl 2 rfl) ?_
    have hPc := hP.sub (ws' := bz_wM am cI cL cZ (bz_tM t) (th, 1, bz_i (decide (bz_n t ≤ 8))) (fun a => nI (g a), fun a => nI (tr a), S3)) [13, 14, 15, 16, 17, 18, 19, 20, 21] rfl
    have hDc := hD.sub (ws' := bz_wM am cI cL cZ (bz_tM t) (th, 1, bz_i (decide (bz_n t ≤ 8))) (fun a => nI (g a), fun a => nI (tr a), S3)) [13, 14, 15, 16, 17, 18, 19, 20, 21] (by decide) rfl
    have hFc := va_free (wc := bz_wM am cI cL cZ (bz_tM t) (th, 1, bz_i (decide (bz_n t ≤ 8))) (fun a => nI (g a), fun a => nI (tr a), S3)) hD hS hA [13, 14, 15, 16, 17, 18, 19, 20, 21] rfl
    refine va_calli (va_runV (As := []) (rest := [.int (nI (bz_ch t (bz_fu f)))]) ⟨hx, hb, hml, hown, htb⟩ (c_M_changed l dC dI _ am cI cL cZ t th (bz_i (decide (bz_n t ≤ 8))) g (fun a => nI (tr a)) S3 ht hg4) (cwV 0 htb (bz_gV wd_537 wd_534 wd_535 wd_536 wd_23) rfl rfl rfl (by decide +kernel) ⟨Nat.le_of_ble_eq_true rfl, Nat.le_of_ble_eq_true rfl⟩) (bz_wv hN hK hPc hDc (q0 := 0) rfl rfl) rfl rfl hl.1 rfl (lv_room (Nat.le_of_ble_eq_true rfl)) d_law_428 ⟨show 23 + k + 0 ≤ 601024 by omega, show 1349 + 6 * k + 0 ≤ 7293034 by omega⟩) hS (fun q _ h => hFc q h) hFc (fun r9 w t9 H locs ht9 hvm hw9 hB9 hz9 hk9 hS => ?_)
    obtain ⟨hP1, hK1, hD1⟩ := hB9
    rw [ht9] at hP1
    obtain ⟨hP, hD⟩ := bz_jM hP hD hk9 hFc hP1 hD1
    obtain rfl : r9 = nI (bz_ch t (bz_fu g)) := hw9
    have hP : va_P (dC, dI) vwCl (bz_wB ad cI cL (bz_tR t) (bz_sR t (bz_fu f)) (fun j => nI (rw j), co) (1) ++ (bz_wM am cI cL cZ (bz_tM t) (0, 1, bz_i (decide (bz_n t ≤ 8))) (fun a => nI (g a), fun a => nI (tr a), S3) ++ [(qo, .inl (cL, 1, .inr (.inl O)))])) H := hP
    have hD : va_D (fun q : Nat => s.heap.size ≤ q) (bz_wB ad cI cL (bz_tR t) (bz_sR t (bz_fu f)) (fun j => nI (rw j), co) (1) ++ (bz_wM am cI cL cZ (bz_tM t) (0, 1, bz_i (decide (bz_n t ≤ 8))) (fun a => nI (g a), fun a => nI (tr a), S3) ++ [(qo, .inl (cL, 1, .inr (.inl O)))])) := hD
    refine lv_icmp_eq (tgt := 564) hx hb d_law_431 (by decide) (fun c_431 => ?_) (fun c_431 => ?_)
    · skip
      refine W.widen (k := 23 + (k + 1)) (n := 1349 + 6 * (k + 1)) (by omega) (by omega) ?_
      exact ih _ _ _ ⟨t, true, f, (bz_sR t (bz_fu f)).2.1, (bz_sR t (bz_fu f)).2.2.1, (bz_sR t (bz_fu f)).2.2.2.1, (bz_sR t (bz_fu f)).2.2.2.2, rw, co, 0, g, tr, S3, O, ht, fun _ => ⟨rfl, hfg, hg4⟩, hP, hD, hS⟩ (lv_sub hl [0, 1, 2, 3, 4] rfl)
    · skip
      exact absurd (by rw [bz_ch_ext (t := t) (s := bz_fu f) (s2 := bz_fu g) fun a ha => ⟨hfg a ha, rfl⟩]) c_431

set_option maxHeartbeats 4000000 in
set_option maxRecDepth 100000 in
theorem law_faults {p : Program} {l : Launch} {e : Env} {s : State} {m : MethodId} {below : List Frame} {meth : Method} {c : Code} {dC : Nat → ClassId} {dI : Nat → Nat → Nat} {ad am : Nat → Nat} {cI cL cZ : ClassId} {qo b L : Nat} {xs : Nat → Int32} (hL : L ≤ 2048) (C0 : lw_At p s m meth c b L xs) (hK : va_K (dC, dI) vwCl [(cI, .int), (cL, .long), (cZ, .boolean)] s) (hN : bz_N s) (k : Nat) (hk : 4 * k + 4 ≤ L) (ih : ∀ (H : Heap) (locs : List Loc) (ls : Array Slot), bz_I (dC, dI) ad am cI cL cZ qo s H locs → lv_has ls 7 [(0, .ref b), (1, .ref (ad 0)), (2, .ref (am 0)), (3, .ref qo), (4, .int (nI (4 * k)))] → W p l e room_1 s m #[Value.ref b] below meth c H locs (23 + (k + 1)) (1349 + 6 * (k + 1)) (lw_Z below #[Value.ref b] s) (F0 m 564 ls [])) :
    ∀ (H : Heap) (locs : List Loc) (ls : Array Slot), bz_I (dC, dI) ad am cI cL cZ qo s H locs → lv_has ls 7 [(0, .ref b), (1, .ref (ad 0)), (2, .ref (am 0)), (3, .ref qo), (4, .int (nI (4 * k)))] → W p l e room_1 s m #[Value.ref b] below meth c H locs (23 + k) (1349 + 6 * k) (lw_Z below #[Value.ref b] s) (F0 m 499 ls []) := by
  obtain ⟨hx, hb, hr, hml, hown, hts, hX, hbl, hlocks, hgv⟩ := id C0
  have htb : ∀ w ∈ bz_tb, w.before #[Value.ref b] s = true := fun w h => hts w (List.mem_filter.mp h).1
  have hA : ∀ q : Nat, s.heap.size ≤ q → (fun q : Nat => s.heap.size ≤ q) q := fun _ h => h
  have hbA : ¬ (fun q : Nat => s.heap.size ≤ q) b := Nat.not_le.mpr hbl
  have hK2 := hK.sub (tys' := [(cI, .int), (cL, .long)]) [0, 1] rfl
  intro H locs ls hI hl
  obtain ⟨t, slv, f, A1, A2, o1, c1, rw, co, th, g, tr, S3, O, ht, hR, hP, hD, hS⟩ := hI
  have hn30 := ht.1
  cases slv
  · have hP : va_P (dC, dI) vwCl (bz_wB ad cI cL (bz_tR t) (fun a => nI (f a), A1, A2, o1, c1) (fun j => nI (rw j), co) (0) ++ (bz_wM am cI cL cZ (bz_tM t) (th, 0, 0) (fun a => nI (g a), fun a => nI (tr a), S3) ++ [(qo, .inl (cL, 1, .inr (.inl O)))])) H := hP
    have hD : va_D (fun q : Nat => s.heap.size ≤ q) (bz_wB ad cI cL (bz_tR t) (fun a => nI (f a), A1, A2, o1, c1) (fun j => nI (rw j), co) (0) ++ (bz_wM am cI cL cZ (bz_tM t) (th, 0, 0) (fun a => nI (g a), fun a => nI (tr a), S3) ++ [(qo, .inl (cL, 1, .inr (.inl O)))])) := hD
    refine lv_aload_n hx hb d_law_499 rfl (lv_at hl 1 rfl) ?_
    refine bz_si (va_runV (As := []) (rest := []) ⟨hx, hb, hml, hown, htb⟩ (c_B_faults_s l dC dI ad cI cL t (fun a => nI (f a), A1, A2, o1, c1) (fun j => nI (rw j), co) ht) (cwV 0 htb (bz_gV wd_283 wd_280 wd_281 wd_282 wd_19) rfl rfl rfl (by decide +kernel) ⟨Nat.le_of_ble_eq_true rfl, Nat.le_of_ble_eq_true rfl⟩) (bz_rv hN hK2 (hP.sub (ws' := bz_wB ad cI cL (bz_tR t) (fun a => nI (f a), A1, A2, o1, c1) (fun j => nI (rw j), co) (0)) [0, 1, 2, 3, 4, 5, 6, 7, 8, 9, 10, 11, 12] rfl) (q0 := 0) rfl rfl) rfl rfl hl.1 rfl (lv_room (Nat.le_of_ble_eq_true rfl)) d_law_500 ⟨show 23 + k + 0 ≤ 601024 by omega, show 1349 + 6 * k + 0 ≤ 7293034 by omega⟩) ?_
    refine lv_aload_n hx hb d_law_503 rfl (lv_at hl 2 rfl) ?_
    have hPc := hP.sub (ws' := bz_wM am cI cL cZ (bz_tM t) (th, 0, 0) (fun a => nI (g a), fun a => nI (tr a), S3)) [13, 14, 15, 16, 17, 18, 19, 20, 21] rfl
    have hDc := hD.sub (ws' := bz_wM am cI cL cZ (bz_tM t) (th, 0, 0) (fun a => nI (g a), fun a => nI (tr a), S3)) [13, 14, 15, 16, 17, 18, 19, 20, 21] (by decide) rfl
    have hFc := va_free (wc := bz_wM am cI cL cZ (bz_tM t) (th, 0, 0) (fun a => nI (g a), fun a => nI (tr a), S3)) hD hS hA [13, 14, 15, 16, 17, 18, 19, 20, 21] rfl
    refine va_calli (va_runV (As := []) (rest := [.int (-13)]) ⟨hx, hb, hml, hown, htb⟩ (c_M_faults_s l dC dI _ am cI cL cZ t th 0 (fun a => nI (g a)) (fun a => nI (tr a)) S3 ht) (cwV 0 htb (bz_gV wd_545 wd_542 wd_543 wd_544 wd_23) rfl rfl rfl (by decide +kernel) ⟨Nat.le_of_ble_eq_true rfl, Nat.le_of_ble_eq_true rfl⟩) (bz_wv hN hK hPc hDc (q0 := 0) rfl rfl) rfl rfl hl.1 rfl (lv_room (Nat.le_of_ble_eq_true rfl)) d_law_504 ⟨show 23 + k + 0 ≤ 601024 by omega, show 1349 + 6 * k + 0 ≤ 7293034 by omega⟩) hS (fun q _ h => hFc q h) hFc (fun r9 w t9 H locs ht9 hvm hw9 hB9 hz9 hk9 hS => ?_)
    obtain ⟨hP1, hK1, hD1⟩ := hB9
    rw [ht9] at hP1
    obtain ⟨hP, hD⟩ := bz_jM hP hD hk9 hFc hP1 hD1
    obtain rfl : r9 = (-13) := hw9
    have hP : va_P (dC, dI) vwCl (bz_wB ad cI cL (bz_tR t) (fun a => nI (f a), A1, A2, o1, c1) (fun j => nI (rw j), co) (0) ++ (bz_wM am cI cL cZ (bz_tM t) (0, 0, 0) (fun a => nI (g a), fun a => nI (tr a), S3) ++ [(qo, .inl (cL, 1, .inr (.inl O)))])) H := hP
    have hD : va_D (fun q : Nat => s.heap.size ≤ q) (bz_wB ad cI cL (bz_tR t) (fun a => nI (f a), A1, A2, o1, c1) (fun j => nI (rw j), co) (0) ++ (bz_wM am cI cL cZ (bz_tM t) (0, 0, 0) (fun a => nI (g a), fun a => nI (tr a), S3) ++ [(qo, .inl (cL, 1, .inr (.inl O)))])) := hD
    refine lv_icmp_eq (tgt := 564) hx hb d_law_507 (by decide) (fun c_507 => ?_) (fun c_507 => ?_)
    · skip
      refine W.widen (k := 23 + (k + 1)) (n := 1349 + 6 * (k + 1)) (by omega) (by omega) ?_
      exact ih _ _ _ ⟨t, false, f, A1, A2, o1, c1, rw, co, 0, g, tr, S3, O, ht, fun h => absurd h (by decide), hP, hD, hS⟩ (lv_sub hl [0, 1, 2, 3, 4] rfl)
    · skip
      exact absurd rfl c_507
  · obtain ⟨hR1, hfg, hg4⟩ := hR rfl
    rw [hR1] at hP hD
    have hP : va_P (dC, dI) vwCl (bz_wB ad cI cL (bz_tR t) (bz_sR t (bz_fu f)) (fun j => nI (rw j), co) (1) ++ (bz_wM am cI cL cZ (bz_tM t) (th, 1, bz_i (decide (bz_n t ≤ 8))) (fun a => nI (g a), fun a => nI (tr a), S3) ++ [(qo, .inl (cL, 1, .inr (.inl O)))])) H := hP
    have hD : va_D (fun q : Nat => s.heap.size ≤ q) (bz_wB ad cI cL (bz_tR t) (bz_sR t (bz_fu f)) (fun j => nI (rw j), co) (1) ++ (bz_wM am cI cL cZ (bz_tM t) (th, 1, bz_i (decide (bz_n t ≤ 8))) (fun a => nI (g a), fun a => nI (tr a), S3) ++ [(qo, .inl (cL, 1, .inr (.inl O)))])) := hD
    refine lv_aload_n hx hb d_law_499 rfl (lv_at hl 1 rfl) ?_
    refine bz_si (va_runV (As := []) (rest := []) ⟨hx, hb, hml, hown, htb⟩ (c_B_faults l dC dI ad cI cL t f (fun j => nI (rw j), co) ht) (cwV 0 htb (bz_gV wd_283 wd_280 wd_281 wd_282 wd_19) rfl rfl rfl (by decide +kernel) ⟨Nat.le_of_ble_eq_true rfl, Nat.le_of_ble_eq_true rfl⟩) (bz_rv hN hK2 (hP.sub (ws' := bz_wB ad cI cL (bz_tR t) (bz_sR t (bz_fu f)) (fun j => nI (rw j), co) (1)) [0, 1, 2, 3, 4, 5, 6, 7, 8, 9, 10, 11, 12] rfl) (q0 := 0) rfl rfl) rfl rfl hl.1 rfl (lv_room (Nat.le_of_ble_eq_true rfl)) d_law_500 ⟨show 23 + k + 0 ≤ 601024 by omega, show 1349 + 6 * k + 0 ≤ 7293034 by omega⟩) ?_
    refine lv_aload_n hx hb d_law_503 rfl (lv_at hl 2 rfl) ?_
    have hPc := hP.sub (ws' := bz_wM am cI cL cZ (bz_tM t) (th, 1, bz_i (decide (bz_n t ≤ 8))) (fun a => nI (g a), fun a => nI (tr a), S3)) [13, 14, 15, 16, 17, 18, 19, 20, 21] rfl
    have hDc := hD.sub (ws' := bz_wM am cI cL cZ (bz_tM t) (th, 1, bz_i (decide (bz_n t ≤ 8))) (fun a => nI (g a), fun a => nI (tr a), S3)) [13, 14, 15, 16, 17, 18, 19, 20, 21] (by decide) rfl
    have hFc := va_free (wc := bz_wM am cI cL cZ (bz_tM t) (th, 1, bz_i (decide (bz_n t ≤ 8))) (fun a => nI (g a), fun a => nI (tr a), S3)) hD hS hA [13, 14, 15, 16, 17, 18, 19, 20, 21] rfl
    refine va_calli (va_runV (As := []) (rest := [.int (nI (bz_ft t (bz_fu f)))]) ⟨hx, hb, hml, hown, htb⟩ (c_M_faults l dC dI _ am cI cL cZ t th (bz_i (decide (bz_n t ≤ 8))) g (fun a => nI (tr a)) S3 ht hg4) (cwV 0 htb (bz_gV wd_545 wd_542 wd_543 wd_544 wd_23) rfl rfl rfl (by decide +kernel) ⟨Nat.le_of_ble_eq_true rfl, Nat.le_of_ble_eq_true rfl⟩) (bz_wv hN hK hPc hDc (q0 := 0) rfl rfl) rfl rfl hl.1 rfl (lv_room (Nat.le_of_ble_eq_true rfl)) d_law_504 ⟨show 23 + k + 0 ≤ 601024 by omega, show 1349 + 6 * k + 0 ≤ 7293034 by omega⟩) hS (fun q _ h => hFc q h) hFc (fun r9 w t9 H locs ht9 hvm hw9 hB9 hz9 hk9 hS => ?_)
    obtain ⟨hP1, hK1, hD1⟩ := hB9
    rw [ht9] at hP1
    obtain ⟨hP, hD⟩ := bz_jM hP hD hk9 hFc hP1 hD1
    obtain rfl : r9 = nI (bz_ft t (bz_fu g)) := hw9
    have hP : va_P (dC, dI) vwCl (bz_wB ad cI cL (bz_tR t) (bz_sR t (bz_fu f)) (fun j => nI (rw j), co) (1) ++ (bz_wM am cI cL cZ (bz_tM t) (0, 1, bz_i (decide (bz_n t ≤ 8))) (fun a => nI (g a), fun a => nI (tr a), w) ++ [(qo, .inl (cL, 1, .inr (.inl O)))])) H := hP
    have hD : va_D (fun q : Nat => s.heap.size ≤ q) (bz_wB ad cI cL (bz_tR t) (bz_sR t (bz_fu f)) (fun j => nI (rw j), co) (1) ++ (bz_wM am cI cL cZ (bz_tM t) (0, 1, bz_i (decide (bz_n t ≤ 8))) (fun a => nI (g a), fun a => nI (tr a), w) ++ [(qo, .inl (cL, 1, .inr (.inl O)))])) := hD
    refine lv_icmp_eq (tgt := 564) hx hb d_law_507 (by decide) (fun c_507 => ?_) (fun c_507 => ?_)
    · skip
      refine W.widen (k := 23 + (k + 1)) (n := 1349 + 6 * (k + 1)) (by omega) (by omega) ?_
      exact ih _ _ _ ⟨t, true, f, (bz_sR t (bz_fu f)).2.1, (bz_sR t (bz_fu f)).2.2.1, (bz_sR t (bz_fu f)).2.2.2.1, (bz_sR t (bz_fu f)).2.2.2.2, rw, co, 0, g, tr, w, O, ht, fun _ => ⟨rfl, hfg, hg4⟩, hP, hD, hS⟩ (lv_sub hl [0, 1, 2, 3, 4] rfl)
    · skip
      exact absurd (by rw [bz_ft_ext (t := t) (s := bz_fu f) (s2 := bz_fu g) fun a ha => ⟨hfg a ha, rfl⟩]) c_507

set_option maxHeartbeats 4000000 in
set_option maxRecDepth 100000 in
theorem law_bound {p : Program} {l : Launch} {e : Env} {s : State} {m : MethodId} {below : List Frame} {meth : Method} {c : Code} {dC : Nat → ClassId} {dI : Nat → Nat → Nat} {ad am : Nat → Nat} {cI cL cZ : ClassId} {qo b L : Nat} {xs : Nat → Int32} (hL : L ≤ 2048) (C0 : lw_At p s m meth c b L xs) (hK : va_K (dC, dI) vwCl [(cI, .int), (cL, .long), (cZ, .boolean)] s) (hN : bz_N s) (k : Nat) (hk : 4 * k + 4 ≤ L) (ih : ∀ (H : Heap) (locs : List Loc) (ls : Array Slot), bz_I (dC, dI) ad am cI cL cZ qo s H locs → lv_has ls 7 [(0, .ref b), (1, .ref (ad 0)), (2, .ref (am 0)), (3, .ref qo), (4, .int (nI (4 * k)))] → W p l e room_1 s m #[Value.ref b] below meth c H locs (23 + (k + 1)) (1349 + 6 * (k + 1)) (lw_Z below #[Value.ref b] s) (F0 m 564 ls [])) :
    ∀ (H : Heap) (locs : List Loc) (ls : Array Slot), bz_I (dC, dI) ad am cI cL cZ qo s H locs → lv_has ls 7 [(0, .ref b), (1, .ref (ad 0)), (2, .ref (am 0)), (3, .ref qo), (4, .int (nI (4 * k)))] → W p l e room_1 s m #[Value.ref b] below meth c H locs (23 + k) (1349 + 6 * k) (lw_Z below #[Value.ref b] s) (F0 m 512 ls []) := by
  obtain ⟨hx, hb, hr, hml, hown, hts, hX, hbl, hlocks, hgv⟩ := id C0
  have htb : ∀ w ∈ bz_tb, w.before #[Value.ref b] s = true := fun w h => hts w (List.mem_filter.mp h).1
  have hA : ∀ q : Nat, s.heap.size ≤ q → (fun q : Nat => s.heap.size ≤ q) q := fun _ h => h
  have hbA : ¬ (fun q : Nat => s.heap.size ≤ q) b := Nat.not_le.mpr hbl
  have hK2 := hK.sub (tys' := [(cI, .int), (cL, .long)]) [0, 1] rfl
  intro H locs ls hI hl
  obtain ⟨t, slv, f, A1, A2, o1, c1, rw, co, th, g, tr, S3, O, ht, hR, hP, hD, hS⟩ := hI
  have hn30 := ht.1
  refine lv_aload_n hx hb d_law_512 rfl (lv_at hl 1 rfl) ?_
  refine bz_sl (va_runV (As := []) (rest := []) ⟨hx, hb, hml, hown, htb⟩ (c_B_bound l dC dI ad cI cL t (fun a => nI (f a), A1, A2, o1, c1) (fun j => nI (rw j), co) (bz_i slv) ht) (cwV 0 htb (bz_gV wd_288 wd_285 wd_286 wd_287 wd_19) rfl rfl rfl (by decide +kernel) ⟨Nat.le_of_ble_eq_true rfl, Nat.le_of_ble_eq_true rfl⟩) (bz_rv hN hK2 (hP.sub (ws' := bz_wB ad cI cL (bz_tR t) (fun a => nI (f a), A1, A2, o1, c1) (fun j => nI (rw j), co) (bz_i slv)) [0, 1, 2, 3, 4, 5, 6, 7, 8, 9, 10, 11, 12] rfl) (q0 := 0) rfl rfl) rfl rfl hl.1 rfl (lv_room (Nat.le_of_ble_eq_true rfl)) d_law_513 ⟨show 23 + k + 0 ≤ 601024 by omega, show 1349 + 6 * k + 0 ≤ 7293034 by omega⟩) ?_
  refine lv_aload_n hx hb d_law_516 rfl (lv_at hl 2 rfl) ?_
  have hPc := hP.sub (ws' := bz_wM am cI cL cZ (bz_tM t) (th, bz_i slv, bz_i (slv && decide (bz_n t ≤ 8))) (fun a => nI (g a), fun a => nI (tr a), S3)) [13, 14, 15, 16, 17, 18, 19, 20, 21] rfl
  have hDc := hD.sub (ws' := bz_wM am cI cL cZ (bz_tM t) (th, bz_i slv, bz_i (slv && decide (bz_n t ≤ 8))) (fun a => nI (g a), fun a => nI (tr a), S3)) [13, 14, 15, 16, 17, 18, 19, 20, 21] (by decide) rfl
  have hFc := va_free (wc := bz_wM am cI cL cZ (bz_tM t) (th, bz_i slv, bz_i (slv && decide (bz_n t ≤ 8))) (fun a => nI (g a), fun a => nI (tr a), S3)) hD hS hA [13, 14, 15, 16, 17, 18, 19, 20, 21] rfl
  refine va_calll (va_runV (As := []) (rest := [.long (if bz_ct (bz_wh t) 4 = 0 then -1 else lN (bz_bd t))]) ⟨hx, hb, hml, hown, htb⟩ (c_M_bound l dC dI _ am cI cL cZ t th (bz_i slv) (bz_i (slv && decide (bz_n t ≤ 8))) (fun a => nI (g a)) (fun a => nI (tr a)) S3 ht) (cwV 0 htb (bz_gV wd_549 wd_546 wd_547 wd_548 wd_23) rfl rfl rfl (by decide +kernel) ⟨Nat.le_of_ble_eq_true rfl, Nat.le_of_ble_eq_true rfl⟩) (bz_wv hN hK hPc hDc (q0 := 0) rfl rfl) rfl rfl hl.1 rfl (lv_room (Nat.le_of_ble_eq_true rfl)) d_law_517 ⟨show 23 + k + 0 ≤ 601024 by omega, show 1349 + 6 * k + 0 ≤ 7293034 by omega⟩) hS (fun q _ h => hFc q h) hFc (fun r9 w t9 H locs ht9 hvm hw9 hB9 hz9 hk9 hS => ?_)
  obtain ⟨hP1, hK1, hD1⟩ := hB9
  rw [ht9] at hP1
  obtain ⟨hP, hD⟩ := bz_jM hP hD hk9 hFc hP1 hD1
  obtain rfl : r9 = if bz_ct (bz_wh t) 4 = 0 then -1 else lN (bz_bd t) := hw9
  have hP : va_P (dC, dI) vwCl (bz_wB ad cI cL (bz_tR t) (fun a => nI (f a), A1, A2, o1, c1) (fun j => nI (rw j), co) (bz_i slv) ++ (bz_wM am cI cL cZ (bz_tM t) (0, bz_i slv, bz_i (slv && decide (bz_n t ≤ 8))) (fun a => nI (g a), fun a => nI (tr a), S3) ++ [(qo, .inl (cL, 1, .inr (.inl O)))])) H := hP
  have hD : va_D (fun q : Nat => s.heap.size ≤ q) (bz_wB ad cI cL (bz_tR t) (fun a => nI (f a), A1, A2, o1, c1) (fun j => nI (rw j), co) (bz_i slv) ++ (bz_wM am cI cL cZ (bz_tM t) (0, bz_i slv, bz_i (slv && decide (bz_n t ≤ 8))) (fun a => nI (g a), fun a => nI (tr a), S3) ++ [(qo, .inl (cL, 1, .inr (.inl O)))])) := hD
  refine W.lcmp hx hb d_law_520 ?_
  refine lv_if_eq (tgt := 564) hx hb d_law_521 (by decide) (fun c_521 => ?_) (fun c_521 => ?_)
  · skip
    refine W.widen (k := 23 + (k + 1)) (n := 1349 + 6 * (k + 1)) (by omega) (by omega) ?_
    exact ih _ _ _ ⟨t, slv, f, A1, A2, o1, c1, rw, co, 0, g, tr, S3, O, ht, hR, hP, hD, hS⟩ (lv_sub hl [0, 1, 2, 3, 4] rfl)
  · skip
    exact absurd ((lg_cmp_eq _ _).mpr rfl) c_521

set_option maxHeartbeats 4000000 in
set_option maxRecDepth 100000 in
theorem law_tooLarge {p : Program} {l : Launch} {e : Env} {s : State} {m : MethodId} {below : List Frame} {meth : Method} {c : Code} {dC : Nat → ClassId} {dI : Nat → Nat → Nat} {ad am : Nat → Nat} {cI cL cZ : ClassId} {qo b L : Nat} {xs : Nat → Int32} (hL : L ≤ 2048) (C0 : lw_At p s m meth c b L xs) (hK : va_K (dC, dI) vwCl [(cI, .int), (cL, .long), (cZ, .boolean)] s) (hN : bz_N s) (k : Nat) (hk : 4 * k + 4 ≤ L) (ih : ∀ (H : Heap) (locs : List Loc) (ls : Array Slot), bz_I (dC, dI) ad am cI cL cZ qo s H locs → lv_has ls 7 [(0, .ref b), (1, .ref (ad 0)), (2, .ref (am 0)), (3, .ref qo), (4, .int (nI (4 * k)))] → W p l e room_1 s m #[Value.ref b] below meth c H locs (23 + (k + 1)) (1349 + 6 * (k + 1)) (lw_Z below #[Value.ref b] s) (F0 m 564 ls [])) :
    ∀ (H : Heap) (locs : List Loc) (ls : Array Slot), bz_I (dC, dI) ad am cI cL cZ qo s H locs → lv_has ls 7 [(0, .ref b), (1, .ref (ad 0)), (2, .ref (am 0)), (3, .ref qo), (4, .int (nI (4 * k)))] → W p l e room_1 s m #[Value.ref b] below meth c H locs (23 + k) (1349 + 6 * k) (lw_Z below #[Value.ref b] s) (F0 m 526 ls []) := by
  obtain ⟨hx, hb, hr, hml, hown, hts, hX, hbl, hlocks, hgv⟩ := id C0
  have htb : ∀ w ∈ bz_tb, w.before #[Value.ref b] s = true := fun w h => hts w (List.mem_filter.mp h).1
  have hA : ∀ q : Nat, s.heap.size ≤ q → (fun q : Nat => s.heap.size ≤ q) q := fun _ h => h
  have hbA : ¬ (fun q : Nat => s.heap.size ≤ q) b := Nat.not_le.mpr hbl
  have hK2 := hK.sub (tys' := [(cI, .int), (cL, .long)]) [0, 1] rfl
  intro H locs ls hI hl
  obtain ⟨t, slv, f, A1, A2, o1, c1, rw, co, th, g, tr, S3, O, ht, hR, hP, hD, hS⟩ := hI
  have hn30 := ht.1
  by_cases hz : xs (4 * k + 1) < 0 ∨ bz_ct (bz_wh t) 4 = 0
  · skip
    refine lv_aload_n hx hb d_law_526 rfl (lv_at hl 1 rfl) ?_
    refine lv_aload_n hx hb d_law_527 rfl (lv_at hl 0 rfl) ?_
    refine lv_iload hx hb d_law_528 (lv_at hl 4 rfl) ?_
    refine lv_iconst (v := 1) hx hb d_law_530 (by decide) ?_
    refine lv_iadd hx hb d_law_531 ?_
    refine bz_ri (y := nI (4 * k + 1)) (nI_1 _) ?_
    refine bz_sld (j := (4 * k + 1)) hx hb hX hbl hbA hS (by omega) (by omega) d_law_532 ?_
    refine bz_si (va_runV (As := [.int (xs (4 * k + 1))]) (rest := []) ⟨hx, hb, hml, hown, htb⟩ (c_B_tooLarge_o l dC dI ad cI cL t (fun a => nI (f a), A1, A2, o1, c1) (fun j => nI (rw j), co) (bz_i slv) ht _ hz) (cwV 1 htb (bz_gV wd_303 wd_300 wd_301 wd_302 wd_19) rfl rfl rfl (by decide +kernel) ⟨Nat.le_of_ble_eq_true rfl, Nat.le_of_ble_eq_true rfl⟩) (bz_rv hN hK2 (hP.sub (ws' := bz_wB ad cI cL (bz_tR t) (fun a => nI (f a), A1, A2, o1, c1) (fun j => nI (rw j), co) (bz_i slv)) [0, 1, 2, 3, 4, 5, 6, 7, 8, 9, 10, 11, 12] rfl) (q0 := 0) rfl rfl) rfl rfl hl.1 rfl (lv_room (Nat.le_of_ble_eq_true rfl)) d_law_533 ⟨show 23 + k + 0 ≤ 601024 by omega, show 1349 + 6 * k + 0 ≤ 7293034 by omega⟩) ?_
    refine lv_aload_n hx hb d_law_536 rfl (lv_at hl 2 rfl) ?_
    refine lv_aload_n hx hb d_law_537 rfl (lv_at hl 0 rfl) ?_
    refine lv_iload hx hb d_law_538 (lv_at hl 4 rfl) ?_
    refine lv_iconst (v := 1) hx hb d_law_540 (by decide) ?_
    refine lv_iadd hx hb d_law_541 ?_
    refine bz_ri (y := nI (4 * k + 1)) (nI_1 _) ?_
    refine bz_sld (j := (4 * k + 1)) hx hb hX hbl hbA hS (by omega) (by omega) d_law_542 ?_
    have hPc := hP.sub (ws' := bz_wM am cI cL cZ (bz_tM t) (th, bz_i slv, bz_i (slv && decide (bz_n t ≤ 8))) (fun a => nI (g a), fun a => nI (tr a), S3)) [13, 14, 15, 16, 17, 18, 19, 20, 21] rfl
    have hDc := hD.sub (ws' := bz_wM am cI cL cZ (bz_tM t) (th, bz_i slv, bz_i (slv && decide (bz_n t ≤ 8))) (fun a => nI (g a), fun a => nI (tr a), S3)) [13, 14, 15, 16, 17, 18, 19, 20, 21] (by decide) rfl
    have hFc := va_free (wc := bz_wM am cI cL cZ (bz_tM t) (th, bz_i slv, bz_i (slv && decide (bz_n t ≤ 8))) (fun a => nI (g a), fun a => nI (tr a), S3)) hD hS hA [13, 14, 15, 16, 17, 18, 19, 20, 21] rfl
    refine va_calli (va_runV (As := [.int (xs (4 * k + 1))]) (rest := [.int 0]) ⟨hx, hb, hml, hown, htb⟩ (c_M_tooLarge_o l dC dI _ am cI cL cZ t th (bz_i slv) (bz_i (slv && decide (bz_n t ≤ 8))) (fun a => nI (g a)) (fun a => nI (tr a)) S3 ht _ hz) (cwV 1 htb (bz_gV wd_562 wd_559 wd_560 wd_561 wd_23) rfl rfl rfl (by decide +kernel) ⟨Nat.le_of_ble_eq_true rfl, Nat.le_of_ble_eq_true rfl⟩) (bz_wv hN hK hPc hDc (q0 := 0) rfl rfl) rfl rfl hl.1 rfl (lv_room (Nat.le_of_ble_eq_true rfl)) d_law_543 ⟨show 23 + k + 0 ≤ 601024 by omega, show 1349 + 6 * k + 0 ≤ 7293034 by omega⟩) hS (fun q _ h => hFc q h) hFc (fun r9 w t9 H locs ht9 hvm hw9 hB9 hz9 hk9 hS => ?_)
    obtain ⟨hP1, hK1, hD1⟩ := hB9
    rw [ht9] at hP1
    obtain ⟨hP, hD⟩ := bz_jM hP hD hk9 hFc hP1 hD1
    obtain rfl : r9 = 0 := hw9
    have hP : va_P (dC, dI) vwCl (bz_wB ad cI cL (bz_tR t) (fun a => nI (f a), A1, A2, o1, c1) (fun j => nI (rw j), co) (bz_i slv) ++ (bz_wM am cI cL cZ (bz_tM t) (0, bz_i slv, bz_i (slv && decide (bz_n t ≤ 8))) (fun a => nI (g a), fun a => nI (tr a), S3) ++ [(qo, .inl (cL, 1, .inr (.inl O)))])) H := hP
    have hD : va_D (fun q : Nat => s.heap.size ≤ q) (bz_wB ad cI cL (bz_tR t) (fun a => nI (f a), A1, A2, o1, c1) (fun j => nI (rw j), co) (bz_i slv) ++ (bz_wM am cI cL cZ (bz_tM t) (0, bz_i slv, bz_i (slv && decide (bz_n t ≤ 8))) (fun a => nI (g a), fun a => nI (tr a), S3) ++ [(qo, .inl (cL, 1, .inr (.inl O)))])) := hD
    refine lv_icmp_eq (tgt := 564) hx hb d_law_546 (by decide) (fun c_546 => ?_) (fun c_546 => ?_)
    · skip
      refine W.widen (k := 23 + (k + 1)) (n := 1349 + 6 * (k + 1)) (by omega) (by omega) ?_
      exact ih _ _ _ ⟨t, slv, f, A1, A2, o1, c1, rw, co, 0, g, tr, S3, O, ht, hR, hP, hD, hS⟩ (lv_sub hl [0, 1, 2, 3, 4] rfl)
    · skip
      exact absurd rfl c_546
  · obtain ⟨i0, hi0, hq1⟩ := nI_of (x := xs (4 * k + 1)) (fun z => hz (Or.inl z))
    have hc0 : ¬ bz_ct (bz_wh t) 4 = 0 := fun z => hz (Or.inr z)
    refine lv_aload_n hx hb d_law_526 rfl (lv_at hl 1 rfl) ?_
    refine lv_aload_n hx hb d_law_527 rfl (lv_at hl 0 rfl) ?_
    refine lv_iload hx hb d_law_528 (lv_at hl 4 rfl) ?_
    refine lv_iconst (v := 1) hx hb d_law_530 (by decide) ?_
    refine lv_iadd hx hb d_law_531 ?_
    refine bz_ri (y := nI (4 * k + 1)) (nI_1 _) ?_
    refine bz_sld (j := (4 * k + 1)) hx hb hX hbl hbA hS (by omega) (by omega) d_law_532 ?_
    refine bz_ri (y := nI i0) (hq1) ?_
    refine bz_si (va_runV (As := [.int (nI i0)]) (rest := []) ⟨hx, hb, hml, hown, htb⟩ (c_B_tooLarge l dC dI ad cI cL t (fun a => nI (f a), A1, A2, o1, c1) (fun j => nI (rw j), co) (bz_i slv) ht i0 hi0 hc0) (cwV 1 htb (bz_gV wd_303 wd_300 wd_301 wd_302 wd_19) rfl rfl rfl (by decide +kernel) ⟨Nat.le_of_ble_eq_true rfl, Nat.le_of_ble_eq_true rfl⟩) (bz_rv hN hK2 (hP.sub (ws' := bz_wB ad cI cL (bz_tR t) (fun a => nI (f a), A1, A2, o1, c1) (fun j => nI (rw j), co) (bz_i slv)) [0, 1, 2, 3, 4, 5, 6, 7, 8, 9, 10, 11, 12] rfl) (q0 := 0) rfl rfl) rfl rfl hl.1 rfl (lv_room (Nat.le_of_ble_eq_true rfl)) d_law_533 ⟨show 23 + k + 0 ≤ 601024 by omega, show 1349 + 6 * k + 0 ≤ 7293034 by omega⟩) ?_
    refine lv_aload_n hx hb d_law_536 rfl (lv_at hl 2 rfl) ?_
    refine lv_aload_n hx hb d_law_537 rfl (lv_at hl 0 rfl) ?_
    refine lv_iload hx hb d_law_538 (lv_at hl 4 rfl) ?_
    refine lv_iconst (v := 1) hx hb d_law_540 (by decide) ?_
    refine lv_iadd hx hb d_law_541 ?_
    refine bz_ri (y := nI (4 * k + 1)) (nI_1 _) ?_
    refine bz_sld (j := (4 * k + 1)) hx hb hX hbl hbA hS (by omega) (by omega) d_law_542 ?_
    refine bz_ri (y := nI i0) (hq1) ?_
    have hPc := hP.sub (ws' := bz_wM am cI cL cZ (bz_tM t) (th, bz_i slv, bz_i (slv && decide (bz_n t ≤ 8))) (fun a => nI (g a), fun a => nI (tr a), S3)) [13, 14, 15, 16, 17, 18, 19, 20, 21] rfl
    have hDc := hD.sub (ws' := bz_wM am cI cL cZ (bz_tM t) (th, bz_i slv, bz_i (slv && decide (bz_n t ≤ 8))) (fun a => nI (g a), fun a => nI (tr a), S3)) [13, 14, 15, 16, 17, 18, 19, 20, 21] (by decide) rfl
    have hFc := va_free (wc := bz_wM am cI cL cZ (bz_tM t) (th, bz_i slv, bz_i (slv && decide (bz_n t ≤ 8))) (fun a => nI (g a), fun a => nI (tr a), S3)) hD hS hA [13, 14, 15, 16, 17, 18, 19, 20, 21] rfl
    refine va_calli (va_runV (As := [.int (nI i0)]) (rest := [.int (nI (bz_it (fun a => bz_tl t a 4) i0 (bz_n t) 0 0))]) ⟨hx, hb, hml, hown, htb⟩ (c_M_tooLarge l dC dI _ am cI cL cZ t th (bz_i slv) (bz_i (slv && decide (bz_n t ≤ 8))) (fun a => nI (g a)) (fun a => nI (tr a)) S3 ht i0 hi0 hc0) (cwV 1 htb (bz_gV wd_562 wd_559 wd_560 wd_561 wd_23) rfl rfl rfl (by decide +kernel) ⟨Nat.le_of_ble_eq_true rfl, Nat.le_of_ble_eq_true rfl⟩) (bz_wv hN hK hPc hDc (q0 := 0) rfl rfl) rfl rfl hl.1 rfl (lv_room (Nat.le_of_ble_eq_true rfl)) d_law_543 ⟨show 23 + k + 0 ≤ 601024 by omega, show 1349 + 6 * k + 0 ≤ 7293034 by omega⟩) hS (fun q _ h => hFc q h) hFc (fun r9 w t9 H locs ht9 hvm hw9 hB9 hz9 hk9 hS => ?_)
    obtain ⟨hP1, hK1, hD1⟩ := hB9
    rw [ht9] at hP1
    obtain ⟨hP, hD⟩ := bz_jM hP hD hk9 hFc hP1 hD1
    obtain rfl : r9 = nI (bz_it (fun a => bz_tl t a 4) i0 (bz_n t) 0 0) := hw9
    have hP : va_P (dC, dI) vwCl (bz_wB ad cI cL (bz_tR t) (fun a => nI (f a), A1, A2, o1, c1) (fun j => nI (rw j), co) (bz_i slv) ++ (bz_wM am cI cL cZ (bz_tM t) (0, bz_i slv, bz_i (slv && decide (bz_n t ≤ 8))) (fun a => nI (g a), fun a => nI (tr a), S3) ++ [(qo, .inl (cL, 1, .inr (.inl O)))])) H := hP
    have hD : va_D (fun q : Nat => s.heap.size ≤ q) (bz_wB ad cI cL (bz_tR t) (fun a => nI (f a), A1, A2, o1, c1) (fun j => nI (rw j), co) (bz_i slv) ++ (bz_wM am cI cL cZ (bz_tM t) (0, bz_i slv, bz_i (slv && decide (bz_n t ≤ 8))) (fun a => nI (g a), fun a => nI (tr a), S3) ++ [(qo, .inl (cL, 1, .inr (.inl O)))])) := hD
    refine lv_icmp_eq (tgt := 564) hx hb d_law_546 (by decide) (fun c_546 => ?_) (fun c_546 => ?_)
    · skip
      refine W.widen (k := 23 + (k + 1)) (n := 1349 + 6 * (k + 1)) (by omega) (by omega) ?_
      exact ih _ _ _ ⟨t, slv, f, A1, A2, o1, c1, rw, co, 0, g, tr, S3, O, ht, hR, hP, hD, hS⟩ (lv_sub hl [0, 1, 2, 3, 4] rfl)
    · skip
      exact absurd rfl c_546

set_option maxHeartbeats 4000000 in
set_option maxRecDepth 100000 in
theorem law_exact {p : Program} {l : Launch} {e : Env} {s : State} {m : MethodId} {below : List Frame} {meth : Method} {c : Code} {dC : Nat → ClassId} {dI : Nat → Nat → Nat} {ad am : Nat → Nat} {cI cL cZ : ClassId} {qo b L : Nat} {xs : Nat → Int32} (hL : L ≤ 2048) (C0 : lw_At p s m meth c b L xs) (hK : va_K (dC, dI) vwCl [(cI, .int), (cL, .long), (cZ, .boolean)] s) (hN : bz_N s) (k : Nat) (hk : 4 * k + 4 ≤ L) (ih : ∀ (H : Heap) (locs : List Loc) (ls : Array Slot), bz_I (dC, dI) ad am cI cL cZ qo s H locs → lv_has ls 7 [(0, .ref b), (1, .ref (ad 0)), (2, .ref (am 0)), (3, .ref qo), (4, .int (nI (4 * k)))] → W p l e room_1 s m #[Value.ref b] below meth c H locs (23 + (k + 1)) (1349 + 6 * (k + 1)) (lw_Z below #[Value.ref b] s) (F0 m 564 ls [])) :
    ∀ (H : Heap) (locs : List Loc) (ls : Array Slot), bz_I (dC, dI) ad am cI cL cZ qo s H locs → lv_has ls 7 [(0, .ref b), (1, .ref (ad 0)), (2, .ref (am 0)), (3, .ref qo), (4, .int (nI (4 * k)))] → W p l e room_1 s m #[Value.ref b] below meth c H locs (23 + k) (1349 + 6 * k) (lw_Z below #[Value.ref b] s) (F0 m 551 ls []) := by
  obtain ⟨hx, hb, hr, hml, hown, hts, hX, hbl, hlocks, hgv⟩ := id C0
  have htb : ∀ w ∈ bz_tb, w.before #[Value.ref b] s = true := fun w h => hts w (List.mem_filter.mp h).1
  have hA : ∀ q : Nat, s.heap.size ≤ q → (fun q : Nat => s.heap.size ≤ q) q := fun _ h => h
  have hbA : ¬ (fun q : Nat => s.heap.size ≤ q) b := Nat.not_le.mpr hbl
  have hK2 := hK.sub (tys' := [(cI, .int), (cL, .long)]) [0, 1] rfl
  intro H locs ls hI hl
  obtain ⟨t, slv, f, A1, A2, o1, c1, rw, co, th, g, tr, S3, O, ht, hR, hP, hD, hS⟩ := hI
  have hn30 := ht.1
  cases slv
  · have hP : va_P (dC, dI) vwCl (bz_wB ad cI cL (bz_tR t) (fun a => nI (f a), A1, A2, o1, c1) (fun j => nI (rw j), co) (0) ++ (bz_wM am cI cL cZ (bz_tM t) (th, 0, 0) (fun a => nI (g a), fun a => nI (tr a), S3) ++ [(qo, .inl (cL, 1, .inr (.inl O)))])) H := hP
    have hD : va_D (fun q : Nat => s.heap.size ≤ q) (bz_wB ad cI cL (bz_tR t) (fun a => nI (f a), A1, A2, o1, c1) (fun j => nI (rw j), co) (0) ++ (bz_wM am cI cL cZ (bz_tM t) (th, 0, 0) (fun a => nI (g a), fun a => nI (tr a), S3) ++ [(qo, .inl (cL, 1, .inr (.inl O)))])) := hD
    refine lv_aload_n hx hb d_law_551 rfl (lv_at hl 1 rfl) ?_
    refine bz_si (va_runV (As := []) (rest := []) ⟨hx, hb, hml, hown, htb⟩ (c_B_exact_s l dC dI ad cI cL t (fun a => nI (f a), A1, A2, o1, c1) (fun j => nI (rw j), co) ht) (cwV 0 htb (bz_gV wd_311 wd_308 wd_309 wd_310 wd_19) rfl rfl rfl (by decide +kernel) ⟨Nat.le_of_ble_eq_true rfl, Nat.le_of_ble_eq_true rfl⟩) (bz_rv hN hK2 (hP.sub (ws' := bz_wB ad cI cL (bz_tR t) (fun a => nI (f a), A1, A2, o1, c1) (fun j => nI (rw j), co) (0)) [0, 1, 2, 3, 4, 5, 6, 7, 8, 9, 10, 11, 12] rfl) (q0 := 0) rfl rfl) rfl rfl hl.1 rfl (lv_room (Nat.le_of_ble_eq_true rfl)) d_law_552 ⟨show 23 + k + 0 ≤ 601024 by omega, show 1349 + 6 * k + 0 ≤ 7293034 by omega⟩) ?_
    refine lv_aload_n hx hb d_law_555 rfl (lv_at hl 2 rfl) ?_
    have hPc := hP.sub (ws' := bz_wM am cI cL cZ (bz_tM t) (th, 0, 0) (fun a => nI (g a), fun a => nI (tr a), S3)) [13, 14, 15, 16, 17, 18, 19, 20, 21] rfl
    have hDc := hD.sub (ws' := bz_wM am cI cL cZ (bz_tM t) (th, 0, 0) (fun a => nI (g a), fun a => nI (tr a), S3)) [13, 14, 15, 16, 17, 18, 19, 20, 21] (by decide) rfl
    have hFc := va_free (wc := bz_wM am cI cL cZ (bz_tM t) (th, 0, 0) (fun a => nI (g a), fun a => nI (tr a), S3)) hD hS hA [13, 14, 15, 16, 17, 18, 19, 20, 21] rfl
    refine va_calli (va_runV (As := []) (rest := [.int 0]) ⟨hx, hb, hml, hown, htb⟩ (c_M_exact l dC dI _ am cI cL cZ t th 0 false (fun a => nI (g a)) (fun a => nI (tr a)) S3 ht) (cwV 0 htb (bz_gV wd_566 wd_563 wd_564 wd_565 wd_23) rfl rfl rfl (by decide +kernel) ⟨Nat.le_of_ble_eq_true rfl, Nat.le_of_ble_eq_true rfl⟩) (bz_wv hN hK hPc hDc (q0 := 0) rfl rfl) rfl rfl hl.1 rfl (lv_room (Nat.le_of_ble_eq_true rfl)) d_law_556 ⟨show 23 + k + 0 ≤ 601024 by omega, show 1349 + 6 * k + 0 ≤ 7293034 by omega⟩) hS (fun q _ h => hFc q h) hFc (fun r9 w t9 H locs ht9 hvm hw9 hB9 hz9 hk9 hS => ?_)
    obtain ⟨hP1, hK1, hD1⟩ := hB9
    rw [ht9] at hP1
    obtain ⟨hP, hD⟩ := bz_jM hP hD hk9 hFc hP1 hD1
    obtain rfl : r9 = bz_i false := hw9
    have hP : va_P (dC, dI) vwCl (bz_wB ad cI cL (bz_tR t) (fun a => nI (f a), A1, A2, o1, c1) (fun j => nI (rw j), co) (0) ++ (bz_wM am cI cL cZ (bz_tM t) (0, 0, 0) (fun a => nI (g a), fun a => nI (tr a), S3) ++ [(qo, .inl (cL, 1, .inr (.inl O)))])) H := hP
    have hD : va_D (fun q : Nat => s.heap.size ≤ q) (bz_wB ad cI cL (bz_tR t) (fun a => nI (f a), A1, A2, o1, c1) (fun j => nI (rw j), co) (0) ++ (bz_wM am cI cL cZ (bz_tM t) (0, 0, 0) (fun a => nI (g a), fun a => nI (tr a), S3) ++ [(qo, .inl (cL, 1, .inr (.inl O)))])) := hD
    refine lv_icmp_eq (tgt := 564) hx hb d_law_559 (by decide) (fun c_559 => ?_) (fun c_559 => ?_)
    · skip
      refine W.widen (k := 23 + (k + 1)) (n := 1349 + 6 * (k + 1)) (by omega) (by omega) ?_
      exact ih _ _ _ ⟨t, false, f, A1, A2, o1, c1, rw, co, 0, g, tr, S3, O, ht, fun h => absurd h (by decide), hP, hD, hS⟩ (lv_sub hl [0, 1, 2, 3, 4] rfl)
    · skip
      exact absurd rfl c_559
  · obtain ⟨hR1, hfg, hg4⟩ := hR rfl
    rw [hR1] at hP hD
    have hP : va_P (dC, dI) vwCl (bz_wB ad cI cL (bz_tR t) (bz_sR t (bz_fu f)) (fun j => nI (rw j), co) (1) ++ (bz_wM am cI cL cZ (bz_tM t) (th, 1, bz_i (decide (bz_n t ≤ 8))) (fun a => nI (g a), fun a => nI (tr a), S3) ++ [(qo, .inl (cL, 1, .inr (.inl O)))])) H := hP
    have hD : va_D (fun q : Nat => s.heap.size ≤ q) (bz_wB ad cI cL (bz_tR t) (bz_sR t (bz_fu f)) (fun j => nI (rw j), co) (1) ++ (bz_wM am cI cL cZ (bz_tM t) (th, 1, bz_i (decide (bz_n t ≤ 8))) (fun a => nI (g a), fun a => nI (tr a), S3) ++ [(qo, .inl (cL, 1, .inr (.inl O)))])) := hD
    refine lv_aload_n hx hb d_law_551 rfl (lv_at hl 1 rfl) ?_
    refine bz_si (va_runV (As := []) (rest := []) ⟨hx, hb, hml, hown, htb⟩ (c_B_exact l dC dI ad cI cL t (bz_sR t (bz_fu f)) (fun j => nI (rw j), co) ht) (cwV 0 htb (bz_gV wd_311 wd_308 wd_309 wd_310 wd_19) rfl rfl rfl (by decide +kernel) ⟨Nat.le_of_ble_eq_true rfl, Nat.le_of_ble_eq_true rfl⟩) (bz_rv hN hK2 (hP.sub (ws' := bz_wB ad cI cL (bz_tR t) (bz_sR t (bz_fu f)) (fun j => nI (rw j), co) (1)) [0, 1, 2, 3, 4, 5, 6, 7, 8, 9, 10, 11, 12] rfl) (q0 := 0) rfl rfl) rfl rfl hl.1 rfl (lv_room (Nat.le_of_ble_eq_true rfl)) d_law_552 ⟨show 23 + k + 0 ≤ 601024 by omega, show 1349 + 6 * k + 0 ≤ 7293034 by omega⟩) ?_
    refine lv_aload_n hx hb d_law_555 rfl (lv_at hl 2 rfl) ?_
    have hPc := hP.sub (ws' := bz_wM am cI cL cZ (bz_tM t) (th, 1, bz_i (decide (bz_n t ≤ 8))) (fun a => nI (g a), fun a => nI (tr a), S3)) [13, 14, 15, 16, 17, 18, 19, 20, 21] rfl
    have hDc := hD.sub (ws' := bz_wM am cI cL cZ (bz_tM t) (th, 1, bz_i (decide (bz_n t ≤ 8))) (fun a => nI (g a), fun a => nI (tr a), S3)) [13, 14, 15, 16, 17, 18, 19, 20, 21] (by decide) rfl
    have hFc := va_free (wc := bz_wM am cI cL cZ (bz_tM t) (th, 1, bz_i (decide (bz_n t ≤ 8))) (fun a => nI (g a), fun a => nI (tr a), S3)) hD hS hA [13, 14, 15, 16, 17, 18, 19, 20, 21] rfl
    refine va_calli (va_runV (As := []) (rest := [.int (bz_i (decide (bz_n t ≤ 8)))]) ⟨hx, hb, hml, hown, htb⟩ (c_M_exact l dC dI _ am cI cL cZ t th 1 (decide (bz_n t ≤ 8)) (fun a => nI (g a)) (fun a => nI (tr a)) S3 ht) (cwV 0 htb (bz_gV wd_566 wd_563 wd_564 wd_565 wd_23) rfl rfl rfl (by decide +kernel) ⟨Nat.le_of_ble_eq_true rfl, Nat.le_of_ble_eq_true rfl⟩) (bz_wv hN hK hPc hDc (q0 := 0) rfl rfl) rfl rfl hl.1 rfl (lv_room (Nat.le_of_ble_eq_true rfl)) d_law_556 ⟨show 23 + k + 0 ≤ 601024 by omega, show 1349 + 6 * k + 0 ≤ 7293034 by omega⟩) hS (fun q _ h => hFc q h) hFc (fun r9 w t9 H locs ht9 hvm hw9 hB9 hz9 hk9 hS => ?_)
    obtain ⟨hP1, hK1, hD1⟩ := hB9
    rw [ht9] at hP1
    obtain ⟨hP, hD⟩ := bz_jM hP hD hk9 hFc hP1 hD1
    obtain rfl : r9 = bz_i (decide (bz_n t ≤ 8)) := hw9
    have hP : va_P (dC, dI) vwCl (bz_wB ad cI cL (bz_tR t) (bz_sR t (bz_fu f)) (fun j => nI (rw j), co) (1) ++ (bz_wM am cI cL cZ (bz_tM t) (0, 1, bz_i (decide (bz_n t ≤ 8))) (fun a => nI (g a), fun a => nI (tr a), S3) ++ [(qo, .inl (cL, 1, .inr (.inl O)))])) H := hP
    have hD : va_D (fun q : Nat => s.heap.size ≤ q) (bz_wB ad cI cL (bz_tR t) (bz_sR t (bz_fu f)) (fun j => nI (rw j), co) (1) ++ (bz_wM am cI cL cZ (bz_tM t) (0, 1, bz_i (decide (bz_n t ≤ 8))) (fun a => nI (g a), fun a => nI (tr a), S3) ++ [(qo, .inl (cL, 1, .inr (.inl O)))])) := hD
    refine lv_icmp_eq (tgt := 564) hx hb d_law_559 (by decide) (fun c_559 => ?_) (fun c_559 => ?_)
    · skip
      refine W.widen (k := 23 + (k + 1)) (n := 1349 + 6 * (k + 1)) (by omega) (by omega) ?_
      exact ih _ _ _ ⟨t, true, f, (bz_sR t (bz_fu f)).2.1, (bz_sR t (bz_fu f)).2.2.1, (bz_sR t (bz_fu f)).2.2.2.1, (bz_sR t (bz_fu f)).2.2.2.2, rw, co, 0, g, tr, S3, O, ht, fun _ => ⟨rfl, hfg, hg4⟩, hP, hD, hS⟩ (lv_sub hl [0, 1, 2, 3, 4] rfl)
    · skip
      exact absurd rfl c_559
