theorem bz_dLt : (parseMethodDescriptor y_Lt.desc).map (fun d => d.parameters.length) = some 3 := by decide +kernel
theorem bz_wsT {s : State} {H : Heap} {locs : List Loc} {D : va_G} {tys : List (ClassId × FieldType)} {ws : va_W} {A : Nat → Prop} {A0 : Array Value} {As : List Value} (hN : bz_N s) (hK : va_K D vwCl tys s) (hP : va_P D vwCl ws H) (hD : va_D A ws) (hts : ∀ w ∈ lw_tbl, w.before A0 s = true) (hgv : (Jvm.Cond.and given_1 narrow_1).before A0 s = true) (hS : va_S (fun q : Nat => s.heap.size ≤ q) s.heap H locs) :
    PreS s H (fun a9 U9 => bz_Pw D tys ws H.size As a9 U9 ∧ bz_th U9) As :=
  ⟨fun a U g mk q => ⟨bz_Pw_bl a U g mk q.1, bz_th_bl g mk a q.2⟩, fun U hU hW => ⟨⟨rfl, by rw [hU], by rw [hU]; exact hP, va_K.moved hW.alike hK, hD.weaken (fun _ _ _ _ => trivial), bz_N_warm hW hN⟩, s, A0, hts, hgv, hW, fun a z h => by
    have h1 := (Array.getElem?_eq_some_iff.mp h).1
    rw [hU, hS.2.1 a h1 (Nat.not_le.mpr h1)]
    exact h⟩⟩
theorem bz_jO {D : va_G} {A0 : Nat → Prop} {H H1 : Heap} {ad am : Nat → Nat} {cI cL cZ : ClassId} {T T2 : bz_RT} {R0 R2 : bz_RS} {L0 L2 : (Nat → Int32) × Int64} {v v2 : Int32} {V : Int32 × Int32 × Int32} {S : (Nat → Int32) × (Nat → Int32) × (Nat → Int32)} {TM : bz_RT} {qo : Nat} {O O2 : Nat → Int64}
    (hP : va_P D vwCl (bz_wB ad cI cL T R0 L0 v ++ (bz_wM am cI cL cZ TM V S ++ [(qo, .inl (cL, 1, .inr (.inl O)))])) H) (hD : va_D A0 (bz_wB ad cI cL T R0 L0 v ++ (bz_wM am cI cL cZ TM V S ++ [(qo, .inl (cL, 1, .inr (.inl O)))])))
    (hk : ∀ q : Nat, q < H.size → ¬ va_A (bz_wB ad cI cL T R0 L0 v ++ [(qo, .inl (cL, 1, .inr (.inl O)))]) H.size q → H1[q]? = H[q]?) (hF : ∀ q, va_A (bz_wB ad cI cL T R0 L0 v ++ [(qo, .inl (cL, 1, .inr (.inl O)))]) H.size q → A0 q)
    (hP1 : va_P D vwCl (bz_wB ad cI cL T2 R2 L2 v2 ++ [(qo, .inl (cL, 1, .inr (.inl O2)))]) H1) (hD1 : va_D (va_A (bz_wB ad cI cL T R0 L0 v ++ [(qo, .inl (cL, 1, .inr (.inl O)))]) H.size) (bz_wB ad cI cL T2 R2 L2 v2 ++ [(qo, .inl (cL, 1, .inr (.inl O2)))])) :
    va_P D vwCl (bz_wB ad cI cL T2 R2 L2 v2 ++ (bz_wM am cI cL cZ TM V S ++ [(qo, .inl (cL, 1, .inr (.inl O2)))])) H1 ∧ va_D A0 (bz_wB ad cI cL T2 R2 L2 v2 ++ (bz_wM am cI cL cZ TM V S ++ [(qo, .inl (cL, 1, .inr (.inl O2)))])) := by
  obtain ⟨h1, h2⟩ := va_join (wr := bz_wM am cI cL cZ TM V S) hP hD [0, 1, 2, 3, 4, 5, 6, 7, 8, 9, 10, 11, 12, 22] [13, 14, 15, 16, 17, 18, 19, 20, 21] rfl rfl (by decide) (by decide) hk hF hP1 hD1
  exact ⟨h1.sub [9, 10, 11, 12, 13, 14, 15, 16, 17, 18, 19, 20, 21, 0, 1, 2, 3, 4, 5, 6, 7, 8, 22] rfl, h2.sub [9, 10, 11, 12, 13, 14, 15, 16, 17, 18, 19, 20, 21, 0, 1, 2, 3, 4, 5, 6, 7, 8, 22] (by decide) rfl⟩

set_option maxHeartbeats 4000000 in
set_option maxRecDepth 100000 in
theorem law_together {p : Program} {l : Launch} {e : Env} {s : State} {m : MethodId} {below : List Frame} {meth : Method} {c : Code} {dC : Nat → ClassId} {dI : Nat → Nat → Nat} {ad am : Nat → Nat} {cI cL cZ : ClassId} {qo b L : Nat} {xs : Nat → Int32} (hL : L ≤ 2048) (hlt : l.stackTraces = false) (C0 : lw_At p s m meth c b L xs) (hK : va_K (dC, dI) vwCl [(cI, .int), (cL, .long), (cZ, .boolean)] s) (hN : bz_N s) (k : Nat) (hk : 4 * k + 4 ≤ L) (ih : ∀ (H : Heap) (locs : List Loc) (ls : Array Slot), bz_I (dC, dI) ad am cI cL cZ qo s H locs → lv_has ls 7 [(0, .ref b), (1, .ref (ad 0)), (2, .ref (am 0)), (3, .ref qo), (4, .int (nI (4 * k)))] → W p l e room_1 s m #[Value.ref b] below meth c H locs (23 + (k + 1)) (1349 + 6 * (k + 1)) (lw_Z below #[Value.ref b] s) (F0 m 564 ls [])) :
    ∀ (H : Heap) (locs : List Loc) (ls : Array Slot), bz_I (dC, dI) ad am cI cL cZ qo s H locs → lv_has ls 7 [(0, .ref b), (1, .ref (ad 0)), (2, .ref (am 0)), (3, .ref qo), (4, .int (nI (4 * k)))] → W p l e room_1 s m #[Value.ref b] below meth c H locs (23 + k) (1349 + 6 * k) (lw_Z below #[Value.ref b] s) (F0 m 436 ls []) := by
  obtain ⟨hx, hb, hr, hml, hown, hts, hX, hbl, hlocks, hgv⟩ := id C0
  have htb : ∀ w ∈ bz_tb, w.before #[Value.ref b] s = true := fun w h => hts w (List.mem_filter.mp h).1
  have hA : ∀ q : Nat, s.heap.size ≤ q → (fun q : Nat => s.heap.size ≤ q) q := fun _ h => h
  have hbA : ¬ (fun q : Nat => s.heap.size ≤ q) b := Nat.not_le.mpr hbl
  have hK2 := hK.sub (tys' := [(cI, .int), (cL, .long)]) [0, 1] rfl
  intro H locs ls hI hl
  obtain ⟨t, slv, f, A1, A2, o1, c1, rw, co, th, g, tr, S3, O, ht, hR, hP, hD, hS⟩ := hI
  have hn30 := ht.1
  cases hz : bz_ir (xs (4 * k + 1))
  · skip
    refine lv_aload_n hx hb d_law_436 rfl (lv_at hl 1 rfl) ?_
    refine lv_aload_n hx hb d_law_437 rfl (lv_at hl 0 rfl) ?_
    refine lv_iload hx hb d_law_438 (lv_at hl 4 rfl) ?_
    refine lv_iconst (v := 1) hx hb d_law_440 (by decide) ?_
    refine lv_iadd hx hb d_law_441 ?_
    refine bz_ri (y := nI (4 * k + 1)) (nI_1 _) ?_
    refine bz_sld (j := (4 * k + 1)) hx hb hX hbl hbA hS (by omega) (by omega) d_law_442 ?_
    refine lv_aload_n hx hb d_law_443 rfl (lv_at hl 3 rfl) ?_
    have hPc := hP.sub (ws' := bz_wB ad cI cL (bz_tR t) (fun a => nI (f a), A1, A2, o1, c1) (fun j => nI (rw j), co) (bz_i slv) ++ [(qo, .inl (cL, 1, .inr (.inl O)))]) [0, 1, 2, 3, 4, 5, 6, 7, 8, 9, 10, 11, 12, 22] rfl
    have hDc := hD.sub (ws' := bz_wB ad cI cL (bz_tR t) (fun a => nI (f a), A1, A2, o1, c1) (fun j => nI (rw j), co) (bz_i slv) ++ [(qo, .inl (cL, 1, .inr (.inl O)))]) [0, 1, 2, 3, 4, 5, 6, 7, 8, 9, 10, 11, 12, 22] (by decide) rfl
    have hFc := va_free (wc := bz_wB ad cI cL (bz_tR t) (fun a => nI (f a), A1, A2, o1, c1) (fun j => nI (rw j), co) (bz_i slv) ++ [(qo, .inl (cL, 1, .inr (.inl O)))]) hD hS hA [0, 1, 2, 3, 4, 5, 6, 7, 8, 9, 10, 11, 12, 22] rfl
    refine va_calli (bz_runSW (hh := bz_hh) (bytes := method_3_code) (maxL := 4) (ret := some .int) (As := [.ref (ad 0), .int (xs (4 * k + 1)), .ref qo]) (rest := []) ⟨hx, hb, hml, hown, htb⟩ (c_L_together_o l hlt dC dI _ ad cI cL t (fun a => nI (f a), A1, A2, o1, c1) (fun j => nI (rw j), co) (bz_i slv) ht qo O _ hz) rfl rfl ⟨Nat.le_of_ble_eq_true rfl, Nat.le_of_ble_eq_true rfl⟩ (bz_wLt htb) List.mem_cons_self (htb _ bz_cLt) (htb _ wd_18) (by decide) (htb _ wd_312) (htb _ wd_313) (bz_wsT hN hK2 hPc hDc hts hgv hS) bz_dLt rfl hl.1 rfl (lv_room (Nat.le_of_ble_eq_true rfl)) d_law_444 ⟨show 23 + k + 1 ≤ 601024 by omega, show 1349 + 6 * k + 6 ≤ 7293034 by omega⟩) hS (fun q _ h => hFc q h) hFc (fun r9 u9 t9 H locs ht9 hvm hw9 hB9 hz9 hk9 hS => ?_)
    obtain ⟨hP1, hK1, hD1⟩ := hB9
    rw [ht9] at hP1
    obtain ⟨hP, hD⟩ := bz_jO hP hD hk9 hFc hP1 hD1
    obtain rfl : r9 = 1 := hw9
    have hP : va_P (dC, dI) vwCl (bz_wB ad cI cL (bz_tR t) (fun a => nI (f a), A1, A2, o1, c1) (fun j => nI (rw j), co) (bz_i slv) ++ (bz_wM am cI cL cZ (bz_tM t) (th, bz_i slv, bz_i (slv && decide (bz_n t ≤ 8))) (fun a => nI (g a), fun a => nI (tr a), S3) ++ [(qo, .inl (cL, 1, .inr (.inl O)))])) H := hP
    have hD : va_D (fun q : Nat => s.heap.size ≤ q) (bz_wB ad cI cL (bz_tR t) (fun a => nI (f a), A1, A2, o1, c1) (fun j => nI (rw j), co) (bz_i slv) ++ (bz_wM am cI cL cZ (bz_tM t) (th, bz_i slv, bz_i (slv && decide (bz_n t ≤ 8))) (fun a => nI (g a), fun a => nI (tr a), S3) ++ [(qo, .inl (cL, 1, .inr (.inl O)))])) := hD
    refine W.widen (k := 23 + (k + 1)) (n := 1349 + 6 * (k + 1)) (by omega) (by omega) ?_
    refine lv_istore (lv' := [(5, .int 1), (0, .ref b), (1, .ref (ad 0)), (2, .ref (am 0)), (3, .ref qo), (4, .int (nI (4 * k)))]) hx hb d_law_447 hl (by decide) rfl (fun ls hl => ?_)
    refine lv_aload_n hx hb d_law_449 rfl (lv_at hl 3 rfl) ?_
    refine lv_aload_n hx hb d_law_450 rfl (lv_at hl 1 rfl) ?_
    refine lv_iload hx hb d_law_451 (lv_at hl 5 rfl) ?_
    refine lv_iconst (v := 1) hx hb d_law_453 (by decide) ?_
    refine lv_iadd hx hb d_law_454 ?_
    refine bz_ri (y := nI (4 * k + 1)) (nI_1 _) ?_
    refine bz_sld (j := (4 * k + 1)) hx hb hX hbl hbA hS (by omega) (by omega) d_law_455 ?_
    have hPc := hP.sub (ws' := bz_wM am cI cL cZ (bz_tM t) (th, bz_i slv, bz_i (slv && decide (bz_n t ≤ 8))) (fun a => nI (g a), fun a => nI (tr a), S3)) [13, 14, 15, 16, 17, 18, 19, 20, 21] rfl
    have hDc := hD.sub (ws' := bz_wM am cI cL cZ (bz_tM t) (th, bz_i slv, bz_i (slv && decide (bz_n t ≤ 8))) (fun a => nI (g a), fun a => nI (tr a), S3)) [13, 14, 15, 16, 17, 18, 19, 20, 21] (by decide) rfl
    have hFc := va_free (wc := bz_wM am cI cL cZ (bz_tM t) (th, bz_i slv, bz_i (slv && decide (bz_n t ≤ 8))) (fun a => nI (g a), fun a => nI (tr a), S3)) hD hS hA [13, 14, 15, 16, 17, 18, 19, 20, 21] rfl
    refine va_calli (va_runV (As := [.int (xs (4 * k + 1))]) (rest := []) ⟨hx, hb, hml, hown, htb⟩ (c_M_together_o l dC dI _ am cI cL cZ t th (bz_i slv) (bz_i (slv && decide (bz_n t ≤ 8))) (fun a => nI (g a)) (fun a => nI (tr a)) S3 ht _ hz) (cwV 1 htb (bz_gV wd_541 wd_538 wd_539 wd_540 wd_23) rfl rfl rfl (by decide +kernel) ⟨Nat.le_of_ble_eq_true rfl, Nat.le_of_ble_eq_true rfl⟩) (bz_wv hN hK hPc hDc (q0 := 0) rfl rfl) rfl rfl hl.1 rfl (lv_room (Nat.le_of_ble_eq_true rfl)) d_law_456 ⟨show 23 + (k + 1) + 0 ≤ 601024 by omega, show 1349 + 6 * (k + 1) + 0 ≤ 7293034 by omega⟩) hS (fun q _ h => hFc q h) hFc (fun r9 w t9 H locs ht9 hvm hw9 hB9 hz9 hk9 hS => ?_)
    obtain ⟨hP1, hK1, hD1⟩ := hB9
    rw [ht9] at hP1
    obtain ⟨hP, hD⟩ := bz_jM hP hD hk9 hFc hP1 hD1
    obtain rfl : r9 = 0 := hw9
    have hP : va_P (dC, dI) vwCl (bz_wB ad cI cL (bz_tR t) (fun a => nI (f a), A1, A2, o1, c1) (fun j => nI (rw j), co) (bz_i slv) ++ (bz_wM am cI cL cZ (bz_tM t) (1, bz_i slv, bz_i (slv && decide (bz_n t ≤ 8))) (fun a => nI (g a), fun a => nI (tr a), S3) ++ [(qo, .inl (cL, 1, .inr (.inl O)))])) H := hP
    have hD : va_D (fun q : Nat => s.heap.size ≤ q) (bz_wB ad cI cL (bz_tR t) (fun a => nI (f a), A1, A2, o1, c1) (fun j => nI (rw j), co) (bz_i slv) ++ (bz_wM am cI cL cZ (bz_tM t) (1, bz_i slv, bz_i (slv && decide (bz_n t ≤ 8))) (fun a => nI (g a), fun a => nI (tr a), S3) ++ [(qo, .inl (cL, 1, .inr (.inl O)))])) := hD
    refine lv_istore (lv' := [(6, .int 0), (5, .int 1), (0, .ref b), (1, .ref (ad 0)), (2, .ref (am 0)), (3, .ref qo), (4, .int (nI (4 * k)))]) hx hb d_law_459 hl (by decide) rfl (fun ls hl => ?_)
    refine lv_aload_n hx hb d_law_461 rfl (lv_at hl 4 rfl) ?_
    refine bz_si (va_runV (As := []) (rest := []) ⟨hx, hb, hml, hown, htb⟩ (c_M_thrown l dC dI am cI cL cZ t 1 (bz_i slv) (bz_i (slv && decide (bz_n t ≤ 8))) (fun a => nI (g a)) (fun a => nI (tr a)) S3 ht) (cwV 0 htb (bz_gV wd_452 wd_449 wd_450 wd_451 wd_23) rfl rfl rfl (by decide +kernel) ⟨Nat.le_of_ble_eq_true rfl, Nat.le_of_ble_eq_true rfl⟩) (bz_rv hN hK (hP.sub (ws' := bz_wM am cI cL cZ (bz_tM t) (1, bz_i slv, bz_i (slv && decide (bz_n t ≤ 8))) (fun a => nI (g a), fun a => nI (tr a), S3)) [13, 14, 15, 16, 17, 18, 19, 20, 21] rfl) (q0 := 0) rfl rfl) rfl rfl hl.1 rfl (lv_room (Nat.le_of_ble_eq_true rfl)) d_law_462 ⟨show 23 + (k + 1) + 0 ≤ 601024 by omega, show 1349 + 6 * (k + 1) + 0 ≤ 7293034 by omega⟩) ?_
    refine lv_iload hx hb d_law_465 (lv_at hl 1 rfl) ?_
    refine lv_icmp_eq (tgt := 472) hx hb d_law_467 (by decide) (fun c_467 => ?_) (fun c_467 => ?_)
    · skip
      refine lv_iload hx hb d_law_472 (lv_at hl 1 rfl) ?_
      refine lv_if_ne (tgt := 496) hx hb d_law_474 (by decide) (fun c_474 => ?_) (fun c_474 => ?_)
      · skip
        refine lv_goto (tgt := 564) hx hb d_law_496 (by decide) ?_
        refine W.widen (k := 23 + (k + 1)) (n := 1349 + 6 * (k + 1)) (by omega) (by omega) ?_
        exact ih _ _ _ ⟨t, slv, f, A1, A2, o1, c1, rw, co, 1, g, tr, S3, O, ht, hR, hP, hD, hS⟩ (lv_sub hl [2, 3, 4, 5, 6] rfl)
      · skip
        exact absurd c_474 (by decide)
    · skip
      exact absurd rfl c_467
  · cases slv
    · have hP : va_P (dC, dI) vwCl (bz_wB ad cI cL (bz_tR t) (fun a => nI (f a), A1, A2, o1, c1) (fun j => nI (rw j), co) (0) ++ (bz_wM am cI cL cZ (bz_tM t) (th, 0, 0) (fun a => nI (g a), fun a => nI (tr a), S3) ++ [(qo, .inl (cL, 1, .inr (.inl O)))])) H := hP
      have hD : va_D (fun q : Nat => s.heap.size ≤ q) (bz_wB ad cI cL (bz_tR t) (fun a => nI (f a), A1, A2, o1, c1) (fun j => nI (rw j), co) (0) ++ (bz_wM am cI cL cZ (bz_tM t) (th, 0, 0) (fun a => nI (g a), fun a => nI (tr a), S3) ++ [(qo, .inl (cL, 1, .inr (.inl O)))])) := hD
      refine lv_aload_n hx hb d_law_436 rfl (lv_at hl 1 rfl) ?_
      refine lv_aload_n hx hb d_law_437 rfl (lv_at hl 0 rfl) ?_
      refine lv_iload hx hb d_law_438 (lv_at hl 4 rfl) ?_
      refine lv_iconst (v := 1) hx hb d_law_440 (by decide) ?_
      refine lv_iadd hx hb d_law_441 ?_
      refine bz_ri (y := nI (4 * k + 1)) (nI_1 _) ?_
      refine bz_sld (j := (4 * k + 1)) hx hb hX hbl hbA hS (by omega) (by omega) d_law_442 ?_
      refine lv_aload_n hx hb d_law_443 rfl (lv_at hl 3 rfl) ?_
      have hPc := hP.sub (ws' := bz_wB ad cI cL (bz_tR t) (fun a => nI (f a), A1, A2, o1, c1) (fun j => nI (rw j), co) (0) ++ [(qo, .inl (cL, 1, .inr (.inl O)))]) [0, 1, 2, 3, 4, 5, 6, 7, 8, 9, 10, 11, 12, 22] rfl
      have hDc := hD.sub (ws' := bz_wB ad cI cL (bz_tR t) (fun a => nI (f a), A1, A2, o1, c1) (fun j => nI (rw j), co) (0) ++ [(qo, .inl (cL, 1, .inr (.inl O)))]) [0, 1, 2, 3, 4, 5, 6, 7, 8, 9, 10, 11, 12, 22] (by decide) rfl
      have hFc := va_free (wc := bz_wB ad cI cL (bz_tR t) (fun a => nI (f a), A1, A2, o1, c1) (fun j => nI (rw j), co) (0) ++ [(qo, .inl (cL, 1, .inr (.inl O)))]) hD hS hA [0, 1, 2, 3, 4, 5, 6, 7, 8, 9, 10, 11, 12, 22] rfl
      refine va_calli (bz_runSW (hh := bz_hh) (bytes := method_3_code) (maxL := 4) (ret := some .int) (As := [.ref (ad 0), .int (xs (4 * k + 1)), .ref qo]) (rest := []) ⟨hx, hb, hml, hown, htb⟩ (c_L_together_s l hlt dC dI _ ad cI cL t (fun a => nI (f a), A1, A2, o1, c1) (fun j => nI (rw j), co) ht qo O _ hz) rfl rfl ⟨Nat.le_of_ble_eq_true rfl, Nat.le_of_ble_eq_true rfl⟩ (bz_wLt htb) List.mem_cons_self (htb _ bz_cLt) (htb _ wd_18) (by decide) (htb _ wd_312) (htb _ wd_313) (bz_wsT hN hK2 hPc hDc hts hgv hS) bz_dLt rfl hl.1 rfl (lv_room (Nat.le_of_ble_eq_true rfl)) d_law_444 ⟨show 23 + k + 1 ≤ 601024 by omega, show 1349 + 6 * k + 6 ≤ 7293034 by omega⟩) hS (fun q _ h => hFc q h) hFc (fun r9 u9 t9 H locs ht9 hvm hw9 hB9 hz9 hk9 hS => ?_)
      obtain ⟨hP1, hK1, hD1⟩ := hB9
      rw [ht9] at hP1
      obtain ⟨hP, hD⟩ := bz_jO hP hD hk9 hFc hP1 hD1
      obtain rfl : r9 = 2 := hw9
      have hP : va_P (dC, dI) vwCl (bz_wB ad cI cL (bz_tR t) (fun a => nI (f a), A1, A2, o1, c1) (fun j => nI (rw j), co) (0) ++ (bz_wM am cI cL cZ (bz_tM t) (th, 0, 0) (fun a => nI (g a), fun a => nI (tr a), S3) ++ [(qo, .inl (cL, 1, .inr (.inl O)))])) H := hP
      have hD : va_D (fun q : Nat => s.heap.size ≤ q) (bz_wB ad cI cL (bz_tR t) (fun a => nI (f a), A1, A2, o1, c1) (fun j => nI (rw j), co) (0) ++ (bz_wM am cI cL cZ (bz_tM t) (th, 0, 0) (fun a => nI (g a), fun a => nI (tr a), S3) ++ [(qo, .inl (cL, 1, .inr (.inl O)))])) := hD
      refine W.widen (k := 23 + (k + 1)) (n := 1349 + 6 * (k + 1)) (by omega) (by omega) ?_
      refine lv_istore (lv' := [(5, .int 2), (0, .ref b), (1, .ref (ad 0)), (2, .ref (am 0)), (3, .ref qo), (4, .int (nI (4 * k)))]) hx hb d_law_447 hl (by decide) rfl (fun ls hl => ?_)
      refine lv_aload_n hx hb d_law_449 rfl (lv_at hl 3 rfl) ?_
      refine lv_aload_n hx hb d_law_450 rfl (lv_at hl 1 rfl) ?_
      refine lv_iload hx hb d_law_451 (lv_at hl 5 rfl) ?_
      refine lv_iconst (v := 1) hx hb d_law_453 (by decide) ?_
      refine lv_iadd hx hb d_law_454 ?_
      refine bz_ri (y := nI (4 * k + 1)) (nI_1 _) ?_
      refine bz_sld (j := (4 * k + 1)) hx hb hX hbl hbA hS (by omega) (by omega) d_law_455 ?_
      have hPc := hP.sub (ws' := bz_wM am cI cL cZ (bz_tM t) (th, 0, 0) (fun a => nI (g a), fun a => nI (tr a), S3)) [13, 14, 15, 16, 17, 18, 19, 20, 21] rfl
      have hDc := hD.sub (ws' := bz_wM am cI cL cZ (bz_tM t) (th, 0, 0) (fun a => nI (g a), fun a => nI (tr a), S3)) [13, 14, 15, 16, 17, 18, 19, 20, 21] (by decide) rfl
      have hFc := va_free (wc := bz_wM am cI cL cZ (bz_tM t) (th, 0, 0) (fun a => nI (g a), fun a => nI (tr a), S3)) hD hS hA [13, 14, 15, 16, 17, 18, 19, 20, 21] rfl
      refine va_calli (va_runV (As := [.int (xs (4 * k + 1))]) (rest := []) ⟨hx, hb, hml, hown, htb⟩ (c_M_together_s l dC dI _ am cI cL cZ t th 0 (fun a => nI (g a)) (fun a => nI (tr a)) S3 ht _ hz) (cwV 1 htb (bz_gV wd_541 wd_538 wd_539 wd_540 wd_23) rfl rfl rfl (by decide +kernel) ⟨Nat.le_of_ble_eq_true rfl, Nat.le_of_ble_eq_true rfl⟩) (bz_wv hN hK hPc hDc (q0 := 0) rfl rfl) rfl rfl hl.1 rfl (lv_room (Nat.le_of_ble_eq_true rfl)) d_law_456 ⟨show 23 + (k + 1) + 0 ≤ 601024 by omega, show 1349 + 6 * (k + 1) + 0 ≤ 7293034 by omega⟩) hS (fun q _ h => hFc q h) hFc (fun r9 w t9 H locs ht9 hvm hw9 hB9 hz9 hk9 hS => ?_)
      obtain ⟨hP1, hK1, hD1⟩ := hB9
      rw [ht9] at hP1
      obtain ⟨hP, hD⟩ := bz_jM hP hD hk9 hFc hP1 hD1
      obtain rfl : r9 = 0 := hw9
      have hP : va_P (dC, dI) vwCl (bz_wB ad cI cL (bz_tR t) (fun a => nI (f a), A1, A2, o1, c1) (fun j => nI (rw j), co) (0) ++ (bz_wM am cI cL cZ (bz_tM t) (2, 0, 0) (fun a => nI (g a), fun a => nI (tr a), S3) ++ [(qo, .inl (cL, 1, .inr (.inl O)))])) H := hP
      have hD : va_D (fun q : Nat => s.heap.size ≤ q) (bz_wB ad cI cL (bz_tR t) (fun a => nI (f a), A1, A2, o1, c1) (fun j => nI (rw j), co) (0) ++ (bz_wM am cI cL cZ (bz_tM t) (2, 0, 0) (fun a => nI (g a), fun a => nI (tr a), S3) ++ [(qo, .inl (cL, 1, .inr (.inl O)))])) := hD
      refine lv_istore (lv' := [(6, .int 0), (5, .int 2), (0, .ref b), (1, .ref (ad 0)), (2, .ref (am 0)), (3, .ref qo), (4, .int (nI (4 * k)))]) hx hb d_law_459 hl (by decide) rfl (fun ls hl => ?_)
      refine lv_aload_n hx hb d_law_461 rfl (lv_at hl 4 rfl) ?_
      refine bz_si (va_runV (As := []) (rest := []) ⟨hx, hb, hml, hown, htb⟩ (c_M_thrown l dC dI am cI cL cZ t 2 0 0 (fun a => nI (g a)) (fun a => nI (tr a)) S3 ht) (cwV 0 htb (bz_gV wd_452 wd_449 wd_450 wd_451 wd_23) rfl rfl rfl (by decide +kernel) ⟨Nat.le_of_ble_eq_true rfl, Nat.le_of_ble_eq_true rfl⟩) (bz_rv hN hK (hP.sub (ws' := bz_wM am cI cL cZ (bz_tM t) (2, 0, 0) (fun a => nI (g a), fun a => nI (tr a), S3)) [13, 14, 15, 16, 17, 18, 19, 20, 21] rfl) (q0 := 0) rfl rfl) rfl rfl hl.1 rfl (lv_room (Nat.le_of_ble_eq_true rfl)) d_law_462 ⟨show 23 + (k + 1) + 0 ≤ 601024 by omega, show 1349 + 6 * (k + 1) + 0 ≤ 7293034 by omega⟩) ?_
      refine lv_iload hx hb d_law_465 (lv_at hl 1 rfl) ?_
      refine lv_icmp_eq (tgt := 472) hx hb d_law_467 (by decide) (fun c_467 => ?_) (fun c_467 => ?_)
      · skip
        refine lv_iload hx hb d_law_472 (lv_at hl 1 rfl) ?_
        refine lv_if_ne (tgt := 496) hx hb d_law_474 (by decide) (fun c_474 => ?_) (fun c_474 => ?_)
        · skip
          refine lv_goto (tgt := 564) hx hb d_law_496 (by decide) ?_
          refine W.widen (k := 23 + (k + 1)) (n := 1349 + 6 * (k + 1)) (by omega) (by omega) ?_
          exact ih _ _ _ ⟨t, false, f, A1, A2, o1, c1, rw, co, 2, g, tr, S3, O, ht, fun h => absurd h (by decide), hP, hD, hS⟩ (lv_sub hl [2, 3, 4, 5, 6] rfl)
        · skip
          exact absurd c_474 (by decide)
      · skip
        exact absurd rfl c_467
    · obtain ⟨hR1, hfg, hg4⟩ := hR rfl
      rw [hR1] at hP hD
      have hP : va_P (dC, dI) vwCl (bz_wB ad cI cL (bz_tR t) (bz_sR t (bz_fu f)) (fun j => nI (rw j), co) (1) ++ (bz_wM am cI cL cZ (bz_tM t) (th, 1, bz_i (decide (bz_n t ≤ 8))) (fun a => nI (g a), fun a => nI (tr a), S3) ++ [(qo, .inl (cL, 1, .inr (.inl O)))])) H := hP
      have hD : va_D (fun q : Nat => s.heap.size ≤ q) (bz_wB ad cI cL (bz_tR t) (bz_sR t (bz_fu f)) (fun j => nI (rw j), co) (1) ++ (bz_wM am cI cL cZ (bz_tM t) (th, 1, bz_i (decide (bz_n t ≤ 8))) (fun a => nI (g a), fun a => nI (tr a), S3) ++ [(qo, .inl (cL, 1, .inr (.inl O)))])) := hD
      obtain ⟨r, hr4, hq1⟩ := bz_ir_of hz
      have hbe : bz_b (bz_ht t (bz_fu f) r) = bz_b (bz_ht t (bz_fu g) r) := by rw [bz_ht_ext (t := t) (s := bz_fu f) (s2 := bz_fu g) fun a ha => ⟨hfg a ha, rfl⟩]
      refine lv_aload_n hx hb d_law_436 rfl (lv_at hl 1 rfl) ?_
      refine lv_aload_n hx hb d_law_437 rfl (lv_at hl 0 rfl) ?_
      refine lv_iload hx hb d_law_438 (lv_at hl 4 rfl) ?_
      refine lv_iconst (v := 1) hx hb d_law_440 (by decide) ?_
      refine lv_iadd hx hb d_law_441 ?_
      refine bz_ri (y := nI (4 * k + 1)) (nI_1 _) ?_
      refine bz_sld (j := (4 * k + 1)) hx hb hX hbl hbA hS (by omega) (by omega) d_law_442 ?_
      refine bz_ri (y := nI r) (hq1) ?_
      refine lv_aload_n hx hb d_law_443 rfl (lv_at hl 3 rfl) ?_
      have hPc := hP.sub (ws' := bz_wB ad cI cL (bz_tR t) (bz_sR t (bz_fu f)) (fun j => nI (rw j), co) (1) ++ [(qo, .inl (cL, 1, .inr (.inl O)))]) [0, 1, 2, 3, 4, 5, 6, 7, 8, 9, 10, 11, 12, 22] rfl
      have hDc := hD.sub (ws' := bz_wB ad cI cL (bz_tR t) (bz_sR t (bz_fu f)) (fun j => nI (rw j), co) (1) ++ [(qo, .inl (cL, 1, .inr (.inl O)))]) [0, 1, 2, 3, 4, 5, 6, 7, 8, 9, 10, 11, 12, 22] (by decide) rfl
      have hFc := va_free (wc := bz_wB ad cI cL (bz_tR t) (bz_sR t (bz_fu f)) (fun j => nI (rw j), co) (1) ++ [(qo, .inl (cL, 1, .inr (.inl O)))]) hD hS hA [0, 1, 2, 3, 4, 5, 6, 7, 8, 9, 10, 11, 12, 22] rfl
      refine va_calli (bz_runSW (hh := bz_hh) (bytes := method_3_code) (maxL := 4) (ret := some .int) (As := [.ref (ad 0), .int (nI r), .ref qo]) (rest := []) ⟨hx, hb, hml, hown, htb⟩ (c_L_together l hlt dC dI _ ad cI cL t f (fun j => nI (rw j), co) ht qo O r hr4) rfl rfl ⟨Nat.le_of_ble_eq_true rfl, Nat.le_of_ble_eq_true rfl⟩ (bz_wLt htb) List.mem_cons_self (htb _ bz_cLt) (htb _ wd_18) (by decide) (htb _ wd_312) (htb _ wd_313) (bz_wsT hN hK2 hPc hDc hts hgv hS) bz_dLt rfl hl.1 rfl (lv_room (Nat.le_of_ble_eq_true rfl)) d_law_444 ⟨show 23 + k + 1 ≤ 601024 by omega, show 1349 + 6 * k + 6 ≤ 7293034 by omega⟩) hS (fun q _ h => hFc q h) hFc (fun r9 u9 t9 H locs ht9 hvm hw9 hB9 hz9 hk9 hS => ?_)
      obtain ⟨hP1, hK1, hD1⟩ := hB9
      rw [ht9] at hP1
      obtain ⟨hP, hD⟩ := bz_jO hP hD hk9 hFc hP1 hD1
      obtain rfl : r9 = 0 := hw9
      have hP : va_P (dC, dI) vwCl (bz_wB ad cI cL (bz_tR t) (bz_sR t (bz_fu f)) (fun j => nI (rw j), co) (1) ++ (bz_wM am cI cL cZ (bz_tM t) (th, 1, bz_i (decide (bz_n t ≤ 8))) (fun a => nI (g a), fun a => nI (tr a), S3) ++ [(qo, .inl (cL, 1, .inr (.inl (vp_updL O 0 (lN (bz_b (bz_ht t (bz_fu f) r)))))))])) H := hP
      have hD : va_D (fun q : Nat => s.heap.size ≤ q) (bz_wB ad cI cL (bz_tR t) (bz_sR t (bz_fu f)) (fun j => nI (rw j), co) (1) ++ (bz_wM am cI cL cZ (bz_tM t) (th, 1, bz_i (decide (bz_n t ≤ 8))) (fun a => nI (g a), fun a => nI (tr a), S3) ++ [(qo, .inl (cL, 1, .inr (.inl (vp_updL O 0 (lN (bz_b (bz_ht t (bz_fu f) r)))))))])) := hD
      refine W.widen (k := 23 + (k + 1)) (n := 1349 + 6 * (k + 1)) (by omega) (by omega) ?_
      refine lv_istore (lv' := [(5, .int 0), (0, .ref b), (1, .ref (ad 0)), (2, .ref (am 0)), (3, .ref qo), (4, .int (nI (4 * k)))]) hx hb d_law_447 hl (by decide) rfl (fun ls hl => ?_)
      refine lv_aload_n hx hb d_law_449 rfl (lv_at hl 3 rfl) ?_
      refine lv_aload_n hx hb d_law_450 rfl (lv_at hl 1 rfl) ?_
      refine lv_iload hx hb d_law_451 (lv_at hl 5 rfl) ?_
      refine lv_iconst (v := 1) hx hb d_law_453 (by decide) ?_
      refine lv_iadd hx hb d_law_454 ?_
      refine bz_ri (y := nI (4 * k + 1)) (nI_1 _) ?_
      refine bz_sld (j := (4 * k + 1)) hx hb hX hbl hbA hS (by omega) (by omega) d_law_455 ?_
      refine bz_ri (y := nI r) (hq1) ?_
      have hPc := hP.sub (ws' := bz_wM am cI cL cZ (bz_tM t) (th, 1, bz_i (decide (bz_n t ≤ 8))) (fun a => nI (g a), fun a => nI (tr a), S3)) [13, 14, 15, 16, 17, 18, 19, 20, 21] rfl
      have hDc := hD.sub (ws' := bz_wM am cI cL cZ (bz_tM t) (th, 1, bz_i (decide (bz_n t ≤ 8))) (fun a => nI (g a), fun a => nI (tr a), S3)) [13, 14, 15, 16, 17, 18, 19, 20, 21] (by decide) rfl
      have hFc := va_free (wc := bz_wM am cI cL cZ (bz_tM t) (th, 1, bz_i (decide (bz_n t ≤ 8))) (fun a => nI (g a), fun a => nI (tr a), S3)) hD hS hA [13, 14, 15, 16, 17, 18, 19, 20, 21] rfl
      refine va_calli (va_runV (As := [.int (nI r)]) (rest := []) ⟨hx, hb, hml, hown, htb⟩ (c_M_together l dC dI _ am cI cL cZ t th (bz_i (decide (bz_n t ≤ 8))) g (fun a => nI (tr a)) S3 ht hg4 r hr4) (cwV 1 htb (bz_gV wd_541 wd_538 wd_539 wd_540 wd_23) rfl rfl rfl (by decide +kernel) ⟨Nat.le_of_ble_eq_true rfl, Nat.le_of_ble_eq_true rfl⟩) (bz_wv hN hK hPc hDc (q0 := 0) rfl rfl) rfl rfl hl.1 rfl (lv_room (Nat.le_of_ble_eq_true rfl)) d_law_456 ⟨show 23 + (k + 1) + 0 ≤ 601024 by omega, show 1349 + 6 * (k + 1) + 0 ≤ 7293034 by omega⟩) hS (fun q _ h => hFc q h) hFc (fun r9 w t9 H locs ht9 hvm hw9 hB9 hz9 hk9 hS => ?_)
      obtain ⟨hP1, hK1, hD1⟩ := hB9
      rw [ht9] at hP1
      obtain ⟨hP, hD⟩ := bz_jM hP hD hk9 hFc hP1 hD1
      obtain rfl : r9 = nI (bz_b (bz_ht t (bz_fu g) r)) := hw9
      have hP : va_P (dC, dI) vwCl (bz_wB ad cI cL (bz_tR t) (bz_sR t (bz_fu f)) (fun j => nI (rw j), co) (1) ++ (bz_wM am cI cL cZ (bz_tM t) (0, 1, bz_i (decide (bz_n t ≤ 8))) (fun a => nI (g a), fun a => nI (tr a), w) ++ [(qo, .inl (cL, 1, .inr (.inl (vp_updL O 0 (lN (bz_b (bz_ht t (bz_fu f) r)))))))])) H := hP
      have hD : va_D (fun q : Nat => s.heap.size ≤ q) (bz_wB ad cI cL (bz_tR t) (bz_sR t (bz_fu f)) (fun j => nI (rw j), co) (1) ++ (bz_wM am cI cL cZ (bz_tM t) (0, 1, bz_i (decide (bz_n t ≤ 8))) (fun a => nI (g a), fun a => nI (tr a), w) ++ [(qo, .inl (cL, 1, .inr (.inl (vp_updL O 0 (lN (bz_b (bz_ht t (bz_fu f) r)))))))])) := hD
      refine lv_istore (lv' := [(6, .int (nI (bz_b (bz_ht t (bz_fu g) r)))), (5, .int 0), (0, .ref b), (1, .ref (ad 0)), (2, .ref (am 0)), (3, .ref qo), (4, .int (nI (4 * k)))]) hx hb d_law_459 hl (by decide) rfl (fun ls hl => ?_)
      refine lv_aload_n hx hb d_law_461 rfl (lv_at hl 4 rfl) ?_
      refine bz_si (va_runV (As := []) (rest := []) ⟨hx, hb, hml, hown, htb⟩ (c_M_thrown l dC dI am cI cL cZ t 0 1 (bz_i (decide (bz_n t ≤ 8))) (fun a => nI (g a)) (fun a => nI (tr a)) w ht) (cwV 0 htb (bz_gV wd_452 wd_449 wd_450 wd_451 wd_23) rfl rfl rfl (by decide +kernel) ⟨Nat.le_of_ble_eq_true rfl, Nat.le_of_ble_eq_true rfl⟩) (bz_rv hN hK (hP.sub (ws' := bz_wM am cI cL cZ (bz_tM t) (0, 1, bz_i (decide (bz_n t ≤ 8))) (fun a => nI (g a), fun a => nI (tr a), w)) [13, 14, 15, 16, 17, 18, 19, 20, 21] rfl) (q0 := 0) rfl rfl) rfl rfl hl.1 rfl (lv_room (Nat.le_of_ble_eq_true rfl)) d_law_462 ⟨show 23 + (k + 1) + 0 ≤ 601024 by omega, show 1349 + 6 * (k + 1) + 0 ≤ 7293034 by omega⟩) ?_
      refine lv_iload hx hb d_law_465 (lv_at hl 1 rfl) ?_
      refine lv_icmp_eq (tgt := 472) hx hb d_law_467 (by decide) (fun c_467 => ?_) (fun c_467 => ?_)
      · skip
        refine lv_iload hx hb d_law_472 (lv_at hl 1 rfl) ?_
        refine lv_if_ne (tgt := 496) hx hb d_law_474 (by decide) (fun c_474 => ?_) (fun c_474 => ?_)
        · skip
          exact absurd (by decide) c_474
        · skip
          refine lv_aload_n hx hb d_law_477 rfl (lv_at hl 5 rfl) ?_
          refine lv_iconst (v := 0) hx hb d_law_478 (by decide) ?_
          refine bz_ri (y := nI 0) (rfl) ?_
          refine bz_lald (v := lN (bz_b (bz_ht t (bz_fu f) r))) hx hb hK hP 22 1 rfl rfl (a9 := 0) (by omega) (by decide) (if_pos rfl) d_law_479 ?_
          refine lv_iload hx hb d_law_480 (lv_at hl 0 rfl) ?_
          refine lv_if_eq (tgt := 489) hx hb d_law_482 (by decide) (fun c_482 => ?_) (fun c_482 => ?_)
          · skip
            refine lv_lconst (v := 0) hx hb d_law_489 (by decide) ?_
            refine bz_rl (y := lN (bz_b (bz_ht t (bz_fu f) r))) (by rw [hbe, bz_b0 (bz_bI0 c_482)]; rfl) ?_
            refine W.lcmp hx hb d_law_490 ?_
            refine lv_if_eq (tgt := 496) hx hb d_law_491 (by decide) (fun c_491 => ?_) (fun c_491 => ?_)
            · skip
              refine lv_goto (tgt := 564) hx hb d_law_496 (by decide) ?_
              refine W.widen (k := 23 + (k + 1)) (n := 1349 + 6 * (k + 1)) (by omega) (by omega) ?_
              exact ih _ _ _ ⟨t, true, f, (bz_sR t (bz_fu f)).2.1, (bz_sR t (bz_fu f)).2.2.1, (bz_sR t (bz_fu f)).2.2.2.1, (bz_sR t (bz_fu f)).2.2.2.2, rw, co, 0, g, tr, w, vp_updL O 0 (lN (bz_b (bz_ht t (bz_fu f) r))), ht, fun _ => ⟨rfl, hfg, hg4⟩, hP, hD, hS⟩ (lv_sub hl [2, 3, 4, 5, 6] rfl)
            · skip
              exact absurd ((lg_cmp_eq _ _).mpr rfl) c_491
          · skip
            refine lv_lconst (v := 1) hx hb d_law_485 (by decide) ?_
            refine bz_rl (y := lN (bz_b (bz_ht t (bz_fu f) r))) (by rw [hbe, bz_b1 (bz_bI1 c_482)]; rfl) ?_
            refine lv_goto (tgt := 490) hx hb d_law_486 (by decide) ?_
            refine W.lcmp hx hb d_law_490 ?_
            refine lv_if_eq (tgt := 496) hx hb d_law_491 (by decide) (fun c_491 => ?_) (fun c_491 => ?_)
            · skip
              refine lv_goto (tgt := 564) hx hb d_law_496 (by decide) ?_
              refine W.widen (k := 23 + (k + 1)) (n := 1349 + 6 * (k + 1)) (by omega) (by omega) ?_
              exact ih _ _ _ ⟨t, true, f, (bz_sR t (bz_fu f)).2.1, (bz_sR t (bz_fu f)).2.2.1, (bz_sR t (bz_fu f)).2.2.2.1, (bz_sR t (bz_fu f)).2.2.2.2, rw, co, 0, g, tr, w, vp_updL O 0 (lN (bz_b (bz_ht t (bz_fu f) r))), ht, fun _ => ⟨rfl, hfg, hg4⟩, hP, hD, hS⟩ (lv_sub hl [2, 3, 4, 5, 6] rfl)
            · skip
              exact absurd ((lg_cmp_eq _ _).mpr rfl) c_491
      · skip
        exact absurd rfl c_467
