set_option maxHeartbeats 4000000 in
set_option maxRecDepth 100000 in
theorem law_joined {p : Program} {l : Launch} {e : Env} {s : State} {m : MethodId} {below : List Frame} {meth : Method} {c : Code} {dC : Nat → ClassId} {dI : Nat → Nat → Nat} {ad am : Nat → Nat} {cI cL cZ : ClassId} {qo b L : Nat} {xs : Nat → Int32} (hL : L ≤ 2048) (C0 : lw_At p s m meth c b L xs) (hK : va_K (dC, dI) vwCl [(cI, .int), (cL, .long), (cZ, .boolean)] s) (hN : bz_N s) (k : Nat) (hk : 4 * k + 4 ≤ L) (ih : ∀ (H : Heap) (locs : List Loc) (ls : Array Slot), bz_I (dC, dI) ad am cI cL cZ qo s H locs → lv_has ls 7 [(0, .ref b), (1, .ref (ad 0)), (2, .ref (am 0)), (3, .ref qo), (4, .int (nI (4 * k)))] → W p l e room_1 s m #[Value.ref b] below meth c H locs (23 + (k + 1)) (1349 + 6 * (k + 1)) (lw_Z below #[Value.ref b] s) (F0 m 564 ls [])) :
    ∀ (H : Heap) (locs : List Loc) (ls : Array Slot), bz_I (dC, dI) ad am cI cL cZ qo s H locs → lv_has ls 7 [(0, .ref b), (1, .ref (ad 0)), (2, .ref (am 0)), (3, .ref qo), (4, .int (nI (4 * k)))] → W p l e room_1 s m #[Value.ref b] below meth c H locs (23 + k) (1349 + 6 * k) (lw_Z below #[Value.ref b] s) (F0 m 169 ls []) := by
  obtain ⟨hx, hb, hr, hml, hown, hts, hX, hbl, hlocks, hgv⟩ := id C0
  have htb : ∀ w ∈ bz_tb, w.before #[Value.ref b] s = true := fun w h => hts w (List.mem_filter.mp h).1
  have hA : ∀ q : Nat, s.heap.size ≤ q → (fun q : Nat => s.heap.size ≤ q) q := fun _ h => h
  have hbA : ¬ (fun q : Nat => s.heap.size ≤ q) b := Nat.not_le.mpr hbl
  have hK2 := hK.sub (tys' := [(cI, .int), (cL, .long)]) [0, 1] rfl
  intro H locs ls hI hl
  obtain ⟨t, slv, f, A1, A2, o1, c1, rw, co, th, g, tr, S3, O, ht, hR, hP, hD, hS⟩ := hI
  have hn30 := ht.1
  by_cases hb0 : xs (4 * k + 3) = 0
  · skip
    by_cases hz : bz_ia (bz_n t) (xs (4 * k + 1)) = true ∧ bz_ia (bz_n t) (xs (4 * k + 2)) = true ∧ xs (4 * k + 1) ≠ xs (4 * k + 2)
    · obtain ⟨a, ha, hq1⟩ := bz_ia_of hn30 hz.1
      obtain ⟨b2, hbn, hq2⟩ := bz_ia_of hn30 hz.2.1
      have hab : a ≠ b2 := fun z => hz.2.2 (by rw [hq1, hq2, z])
      by_cases hj : bz_j t a b2 = false
      · skip
        refine lv_aload_n hx hb d_law_169 rfl (lv_at hl 1 rfl) ?_
        refine lv_aload_n hx hb d_law_170 rfl (lv_at hl 0 rfl) ?_
        refine lv_iload hx hb d_law_171 (lv_at hl 4 rfl) ?_
        refine lv_iconst (v := 1) hx hb d_law_173 (by decide) ?_
        refine lv_iadd hx hb d_law_174 ?_
        refine bz_ri (y := nI (4 * k + 1)) (nI_1 _) ?_
        refine bz_sld (j := (4 * k + 1)) hx hb hX hbl hbA hS (by omega) (by omega) d_law_175 ?_
        refine bz_ri (y := nI (a + 1)) (hq1) ?_
        refine lv_aload_n hx hb d_law_176 rfl (lv_at hl 0 rfl) ?_
        refine lv_iload hx hb d_law_177 (lv_at hl 4 rfl) ?_
        refine lv_iconst (v := 2) hx hb d_law_179 (by decide) ?_
        refine lv_iadd hx hb d_law_180 ?_
        refine bz_ri (y := nI (4 * k + 2)) (nI_add _ 2) ?_
        refine bz_sld (j := (4 * k + 2)) hx hb hX hbl hbA hS (by omega) (by omega) d_law_181 ?_
        refine bz_ri (y := nI (b2 + 1)) (hq2) ?_
        refine lv_aload_n hx hb d_law_182 rfl (lv_at hl 0 rfl) ?_
        refine lv_iload hx hb d_law_183 (lv_at hl 4 rfl) ?_
        refine lv_iconst (v := 3) hx hb d_law_185 (by decide) ?_
        refine lv_iadd hx hb d_law_186 ?_
        refine bz_ri (y := nI (4 * k + 3)) (nI_add _ 3) ?_
        refine bz_sld (j := (4 * k + 3)) hx hb hX hbl hbA hS (by omega) (by omega) d_law_187 ?_
        refine lv_if_eq (tgt := 195) hx hb d_law_188 (by decide) (fun c_188 => ?_) (fun c_188 => ?_)
        · skip
          refine lv_iconst (v := 0) hx hb d_law_195 (by decide) ?_
          have hPc := hP.sub (ws' := bz_wB ad cI cL (bz_tR t) (fun a => nI (f a), A1, A2, o1, c1) (fun j => nI (rw j), co) (bz_i slv)) [0, 1, 2, 3, 4, 5, 6, 7, 8, 9, 10, 11, 12] rfl
          have hDc := hD.sub (ws' := bz_wB ad cI cL (bz_tR t) (fun a => nI (f a), A1, A2, o1, c1) (fun j => nI (rw j), co) (bz_i slv)) [0, 1, 2, 3, 4, 5, 6, 7, 8, 9, 10, 11, 12] (by decide) rfl
          have hFc := va_free (wc := bz_wB ad cI cL (bz_tR t) (fun a => nI (f a), A1, A2, o1, c1) (fun j => nI (rw j), co) (bz_i slv)) hD hS hA [0, 1, 2, 3, 4, 5, 6, 7, 8, 9, 10, 11, 12] rfl
          refine va_calli (va_runV (As := [.int (nI (a + 1)), .int (nI (b2 + 1)), .int 0]) (rest := []) ⟨hx, hb, hml, hown, htb⟩ (c_B_joined l dC dI _ ad cI cL t (fun a => nI (f a), A1, A2, o1, c1) (fun j => nI (rw j), co) (bz_i slv) ht a b2 false ha hbn hab hj) (cwV 3 htb (bz_gV wd_145 wd_142 wd_143 wd_144 wd_19) rfl rfl rfl (by decide +kernel) ⟨Nat.le_of_ble_eq_true rfl, Nat.le_of_ble_eq_true rfl⟩) (bz_wv hN hK2 hPc hDc (q0 := 0) rfl rfl) rfl rfl hl.1 rfl (lv_room (Nat.le_of_ble_eq_true rfl)) d_law_196 ⟨show 23 + k + 0 ≤ 601024 by omega, show 1349 + 6 * k + 0 ≤ 7293034 by omega⟩) hS (fun q _ h => hFc q h) hFc (fun r9 u t9 H locs ht9 hvm hw9 hB9 hz9 hk9 hS => ?_)
          obtain ⟨hP1, hK1, hD1⟩ := hB9
          rw [ht9] at hP1
          obtain ⟨hP, hD⟩ := bz_jB hP hD hk9 hFc hP1 hD1
          obtain rfl : r9 = bz_i (!false) := hw9
          have hP : va_P (dC, dI) vwCl (bz_wB ad cI cL (bz_tR (bz_sJ t a b2 (!false))) (fun a => nI (f a), A1, A2, o1, c1) (fun j => nI (rw j), co) (0) ++ (bz_wM am cI cL cZ (bz_tM t) (th, bz_i slv, bz_i (slv && decide (bz_n t ≤ 8))) (fun a => nI (g a), fun a => nI (tr a), S3) ++ [(qo, .inl (cL, 1, .inr (.inl O)))])) H := hP
          have hD : va_D (fun q : Nat => s.heap.size ≤ q) (bz_wB ad cI cL (bz_tR (bz_sJ t a b2 (!false))) (fun a => nI (f a), A1, A2, o1, c1) (fun j => nI (rw j), co) (0) ++ (bz_wM am cI cL cZ (bz_tM t) (th, bz_i slv, bz_i (slv && decide (bz_n t ≤ 8))) (fun a => nI (g a), fun a => nI (tr a), S3) ++ [(qo, .inl (cL, 1, .inr (.inl O)))])) := hD
          refine lv_aload_n hx hb d_law_199 rfl (lv_at hl 2 rfl) ?_
          refine lv_aload_n hx hb d_law_200 rfl (lv_at hl 0 rfl) ?_
          refine lv_iload hx hb d_law_201 (lv_at hl 4 rfl) ?_
          refine lv_iconst (v := 1) hx hb d_law_203 (by decide) ?_
          refine lv_iadd hx hb d_law_204 ?_
          refine bz_ri (y := nI (4 * k + 1)) (nI_1 _) ?_
          refine bz_sld (j := (4 * k + 1)) hx hb hX hbl hbA hS (by omega) (by omega) d_law_205 ?_
          refine bz_ri (y := nI (a + 1)) (hq1) ?_
          refine lv_aload_n hx hb d_law_206 rfl (lv_at hl 0 rfl) ?_
          refine lv_iload hx hb d_law_207 (lv_at hl 4 rfl) ?_
          refine lv_iconst (v := 2) hx hb d_law_209 (by decide) ?_
          refine lv_iadd hx hb d_law_210 ?_
          refine bz_ri (y := nI (4 * k + 2)) (nI_add _ 2) ?_
          refine bz_sld (j := (4 * k + 2)) hx hb hX hbl hbA hS (by omega) (by omega) d_law_211 ?_
          refine bz_ri (y := nI (b2 + 1)) (hq2) ?_
          refine lv_aload_n hx hb d_law_212 rfl (lv_at hl 0 rfl) ?_
          refine lv_iload hx hb d_law_213 (lv_at hl 4 rfl) ?_
          refine lv_iconst (v := 3) hx hb d_law_215 (by decide) ?_
          refine lv_iadd hx hb d_law_216 ?_
          refine bz_ri (y := nI (4 * k + 3)) (nI_add _ 3) ?_
          refine bz_sld (j := (4 * k + 3)) hx hb hX hbl hbA hS (by omega) (by omega) d_law_217 ?_
          refine lv_if_eq (tgt := 225) hx hb d_law_218 (by decide) (fun c_218 => ?_) (fun c_218 => ?_)
          · skip
            refine lv_iconst (v := 0) hx hb d_law_225 (by decide) ?_
            have hPc := hP.sub (ws' := bz_wM am cI cL cZ (bz_tM t) (th, bz_i slv, bz_i (slv && decide (bz_n t ≤ 8))) (fun a => nI (g a), fun a => nI (tr a), S3)) [13, 14, 15, 16, 17, 18, 19, 20, 21] rfl
            have hDc := hD.sub (ws' := bz_wM am cI cL cZ (bz_tM t) (th, bz_i slv, bz_i (slv && decide (bz_n t ≤ 8))) (fun a => nI (g a), fun a => nI (tr a), S3)) [13, 14, 15, 16, 17, 18, 19, 20, 21] (by decide) rfl
            have hFc := va_free (wc := bz_wM am cI cL cZ (bz_tM t) (th, bz_i slv, bz_i (slv && decide (bz_n t ≤ 8))) (fun a => nI (g a), fun a => nI (tr a), S3)) hD hS hA [13, 14, 15, 16, 17, 18, 19, 20, 21] rfl
            refine va_calli (va_runV (As := [.int (nI (a + 1)), .int (nI (b2 + 1)), .int 0]) (rest := [.int (bz_i (!false))]) ⟨hx, hb, hml, hown, htb⟩ (c_M_joined_F l dC dI _ am cI cL cZ t th (bz_i slv) (bz_i (slv && decide (bz_n t ≤ 8))) (fun a => nI (g a)) (fun a => nI (tr a)) S3 ht a b2 ha hbn hab hj) (cwV 3 htb (bz_gV wd_469 wd_466 wd_467 wd_468 wd_23) rfl rfl rfl (by decide +kernel) ⟨Nat.le_of_ble_eq_true rfl, Nat.le_of_ble_eq_true rfl⟩) (bz_wv hN hK hPc hDc (q0 := 0) rfl rfl) rfl rfl hl.1 rfl (lv_room (Nat.le_of_ble_eq_true rfl)) d_law_226 ⟨show 23 + k + 0 ≤ 601024 by omega, show 1349 + 6 * k + 0 ≤ 7293034 by omega⟩) hS (fun q _ h => hFc q h) hFc (fun r9 w t9 H locs ht9 hvm hw9 hB9 hz9 hk9 hS => ?_)
            obtain ⟨hP1, hK1, hD1⟩ := hB9
            rw [ht9] at hP1
            obtain ⟨hP, hD⟩ := bz_jM hP hD hk9 hFc hP1 hD1
            obtain rfl : r9 = 1 := hw9
            have hP : va_P (dC, dI) vwCl (bz_wB ad cI cL (bz_tR (bz_sJ t a b2 (!false))) (fun a => nI (f a), A1, A2, o1, c1) (fun j => nI (rw j), co) (0) ++ (bz_wM am cI cL cZ (bz_tM (bz_sJ t a b2 true)) (0, 0, 0) (fun a => nI (g a), fun a => nI (tr a), S3) ++ [(qo, .inl (cL, 1, .inr (.inl O)))])) H := hP
            have hD : va_D (fun q : Nat => s.heap.size ≤ q) (bz_wB ad cI cL (bz_tR (bz_sJ t a b2 (!false))) (fun a => nI (f a), A1, A2, o1, c1) (fun j => nI (rw j), co) (0) ++ (bz_wM am cI cL cZ (bz_tM (bz_sJ t a b2 true)) (0, 0, 0) (fun a => nI (g a), fun a => nI (tr a), S3) ++ [(qo, .inl (cL, 1, .inr (.inl O)))])) := hD
            refine lv_icmp_eq (tgt := 564) hx hb d_law_229 (by decide) (fun c_229 => ?_) (fun c_229 => ?_)
            · skip
              refine W.widen (k := 23 + (k + 1)) (n := 1349 + 6 * (k + 1)) (by omega) (by omega) ?_
              exact ih _ _ _ ⟨bz_sJ t a b2 true, false, f, A1, A2, o1, c1, rw, co, 0, g, tr, S3, O, bz_sJ_ok ht ha hbn hab, fun h => absurd h (by decide), hP, hD, hS⟩ (lv_sub hl [0, 1, 2, 3, 4] rfl)
            · skip
              exact absurd rfl c_229
          · skip
            exact absurd hb0 c_218
        · skip
          exact absurd hb0 c_188
      · have hj : bz_j t a b2 = true := by cases e9 : bz_j t a b2 <;> simp [e9] at hj ⊢
        refine lv_aload_n hx hb d_law_169 rfl (lv_at hl 1 rfl) ?_
        refine lv_aload_n hx hb d_law_170 rfl (lv_at hl 0 rfl) ?_
        refine lv_iload hx hb d_law_171 (lv_at hl 4 rfl) ?_
        refine lv_iconst (v := 1) hx hb d_law_173 (by decide) ?_
        refine lv_iadd hx hb d_law_174 ?_
        refine bz_ri (y := nI (4 * k + 1)) (nI_1 _) ?_
        refine bz_sld (j := (4 * k + 1)) hx hb hX hbl hbA hS (by omega) (by omega) d_law_175 ?_
        refine bz_ri (y := nI (a + 1)) (hq1) ?_
        refine lv_aload_n hx hb d_law_176 rfl (lv_at hl 0 rfl) ?_
        refine lv_iload hx hb d_law_177 (lv_at hl 4 rfl) ?_
        refine lv_iconst (v := 2) hx hb d_law_179 (by decide) ?_
        refine lv_iadd hx hb d_law_180 ?_
        refine bz_ri (y := nI (4 * k + 2)) (nI_add _ 2) ?_
        refine bz_sld (j := (4 * k + 2)) hx hb hX hbl hbA hS (by omega) (by omega) d_law_181 ?_
        refine bz_ri (y := nI (b2 + 1)) (hq2) ?_
        refine lv_aload_n hx hb d_law_182 rfl (lv_at hl 0 rfl) ?_
        refine lv_iload hx hb d_law_183 (lv_at hl 4 rfl) ?_
        refine lv_iconst (v := 3) hx hb d_law_185 (by decide) ?_
        refine lv_iadd hx hb d_law_186 ?_
        refine bz_ri (y := nI (4 * k + 3)) (nI_add _ 3) ?_
        refine bz_sld (j := (4 * k + 3)) hx hb hX hbl hbA hS (by omega) (by omega) d_law_187 ?_
        refine lv_if_eq (tgt := 195) hx hb d_law_188 (by decide) (fun c_188 => ?_) (fun c_188 => ?_)
        · skip
          refine lv_iconst (v := 0) hx hb d_law_195 (by decide) ?_
          refine bz_si (va_runV (As := [.int (nI (a + 1)), .int (nI (b2 + 1)), .int 0]) (rest := []) ⟨hx, hb, hml, hown, htb⟩ (c_B_joined_s l dC dI ad cI cL t (fun a => nI (f a), A1, A2, o1, c1) (fun j => nI (rw j), co) (bz_i slv) ht a b2 false ha hbn hab hj) (cwV 3 htb (bz_gV wd_145 wd_142 wd_143 wd_144 wd_19) rfl rfl rfl (by decide +kernel) ⟨Nat.le_of_ble_eq_true rfl, Nat.le_of_ble_eq_true rfl⟩) (bz_rv hN hK2 (hP.sub (ws' := bz_wB ad cI cL (bz_tR t) (fun a => nI (f a), A1, A2, o1, c1) (fun j => nI (rw j), co) (bz_i slv)) [0, 1, 2, 3, 4, 5, 6, 7, 8, 9, 10, 11, 12] rfl) (q0 := 0) rfl rfl) rfl rfl hl.1 rfl (lv_room (Nat.le_of_ble_eq_true rfl)) d_law_196 ⟨show 23 + k + 0 ≤ 601024 by omega, show 1349 + 6 * k + 0 ≤ 7293034 by omega⟩) ?_
          refine lv_aload_n hx hb d_law_199 rfl (lv_at hl 2 rfl) ?_
          refine lv_aload_n hx hb d_law_200 rfl (lv_at hl 0 rfl) ?_
          refine lv_iload hx hb d_law_201 (lv_at hl 4 rfl) ?_
          refine lv_iconst (v := 1) hx hb d_law_203 (by decide) ?_
          refine lv_iadd hx hb d_law_204 ?_
          refine bz_ri (y := nI (4 * k + 1)) (nI_1 _) ?_
          refine bz_sld (j := (4 * k + 1)) hx hb hX hbl hbA hS (by omega) (by omega) d_law_205 ?_
          refine bz_ri (y := nI (a + 1)) (hq1) ?_
          refine lv_aload_n hx hb d_law_206 rfl (lv_at hl 0 rfl) ?_
          refine lv_iload hx hb d_law_207 (lv_at hl 4 rfl) ?_
          refine lv_iconst (v := 2) hx hb d_law_209 (by decide) ?_
          refine lv_iadd hx hb d_law_210 ?_
          refine bz_ri (y := nI (4 * k + 2)) (nI_add _ 2) ?_
          refine bz_sld (j := (4 * k + 2)) hx hb hX hbl hbA hS (by omega) (by omega) d_law_211 ?_
          refine bz_ri (y := nI (b2 + 1)) (hq2) ?_
          refine lv_aload_n hx hb d_law_212 rfl (lv_at hl 0 rfl) ?_
          refine lv_iload hx hb d_law_213 (lv_at hl 4 rfl) ?_
          refine lv_iconst (v := 3) hx hb d_law_215 (by decide) ?_
          refine lv_iadd hx hb d_law_216 ?_
          refine bz_ri (y := nI (4 * k + 3)) (nI_add _ 3) ?_
          refine bz_sld (j := (4 * k + 3)) hx hb hX hbl hbA hS (by omega) (by omega) d_law_217 ?_
          refine lv_if_eq (tgt := 225) hx hb d_law_218 (by decide) (fun c_218 => ?_) (fun c_218 => ?_)
          · skip
            refine lv_iconst (v := 0) hx hb d_law_225 (by decide) ?_
            have hPc := hP.sub (ws' := bz_wM am cI cL cZ (bz_tM t) (th, bz_i slv, bz_i (slv && decide (bz_n t ≤ 8))) (fun a => nI (g a), fun a => nI (tr a), S3)) [13, 14, 15, 16, 17, 18, 19, 20, 21] rfl
            have hDc := hD.sub (ws' := bz_wM am cI cL cZ (bz_tM t) (th, bz_i slv, bz_i (slv && decide (bz_n t ≤ 8))) (fun a => nI (g a), fun a => nI (tr a), S3)) [13, 14, 15, 16, 17, 18, 19, 20, 21] (by decide) rfl
            have hFc := va_free (wc := bz_wM am cI cL cZ (bz_tM t) (th, bz_i slv, bz_i (slv && decide (bz_n t ≤ 8))) (fun a => nI (g a), fun a => nI (tr a), S3)) hD hS hA [13, 14, 15, 16, 17, 18, 19, 20, 21] rfl
            refine va_calli (va_runV (As := [.int (nI (a + 1)), .int (nI (b2 + 1)), .int 0]) (rest := [.int (bz_i (!false))]) ⟨hx, hb, hml, hown, htb⟩ (c_M_joined_sF l dC dI _ am cI cL cZ t th (bz_i slv) (bz_i (slv && decide (bz_n t ≤ 8))) (fun a => nI (g a)) (fun a => nI (tr a)) S3 ht a b2 ha hbn hab hj) (cwV 3 htb (bz_gV wd_469 wd_466 wd_467 wd_468 wd_23) rfl rfl rfl (by decide +kernel) ⟨Nat.le_of_ble_eq_true rfl, Nat.le_of_ble_eq_true rfl⟩) (bz_wv hN hK hPc hDc (q0 := 0) rfl rfl) rfl rfl hl.1 rfl (lv_room (Nat.le_of_ble_eq_true rfl)) d_law_226 ⟨show 23 + k + 0 ≤ 601024 by omega, show 1349 + 6 * k + 0 ≤ 7293034 by omega⟩) hS (fun q _ h => hFc q h) hFc (fun r9 w t9 H locs ht9 hvm hw9 hB9 hz9 hk9 hS => ?_)
            obtain ⟨hP1, hK1, hD1⟩ := hB9
            rw [ht9] at hP1
            obtain ⟨hP, hD⟩ := bz_jM hP hD hk9 hFc hP1 hD1
            obtain rfl : r9 = 1 := hw9
            have hP : va_P (dC, dI) vwCl (bz_wB ad cI cL (bz_tR t) (fun a => nI (f a), A1, A2, o1, c1) (fun j => nI (rw j), co) (bz_i slv) ++ (bz_wM am cI cL cZ (bz_tM t) (0, bz_i slv, bz_i (slv && decide (bz_n t ≤ 8))) (fun a => nI (g a), fun a => nI (tr a), S3) ++ [(qo, .inl (cL, 1, .inr (.inl O)))])) H := hP
            have hD : va_D (fun q : Nat => s.heap.size ≤ q) (bz_wB ad cI cL (bz_tR t) (fun a => nI (f a), A1, A2, o1, c1) (fun j => nI (rw j), co) (bz_i slv) ++ (bz_wM am cI cL cZ (bz_tM t) (0, bz_i slv, bz_i (slv && decide (bz_n t ≤ 8))) (fun a => nI (g a), fun a => nI (tr a), S3) ++ [(qo, .inl (cL, 1, .inr (.inl O)))])) := hD
            refine lv_icmp_eq (tgt := 564) hx hb d_law_229 (by decide) (fun c_229 => ?_) (fun c_229 => ?_)
            · skip
              refine W.widen (k := 23 + (k + 1)) (n := 1349 + 6 * (k + 1)) (by omega) (by omega) ?_
              exact ih _ _ _ ⟨t, slv, f, A1, A2, o1, c1, rw, co, 0, g, tr, S3, O, ht, hR, hP, hD, hS⟩ (lv_sub hl [0, 1, 2, 3, 4] rfl)
            · skip
              exact absurd rfl c_229
          · skip
            exact absurd hb0 c_218
        · skip
          exact absurd hb0 c_188
    · skip
      refine lv_aload_n hx hb d_law_169 rfl (lv_at hl 1 rfl) ?_
      refine lv_aload_n hx hb d_law_170 rfl (lv_at hl 0 rfl) ?_
      refine lv_iload hx hb d_law_171 (lv_at hl 4 rfl) ?_
      refine lv_iconst (v := 1) hx hb d_law_173 (by decide) ?_
      refine lv_iadd hx hb d_law_174 ?_
      refine bz_ri (y := nI (4 * k + 1)) (nI_1 _) ?_
      refine bz_sld (j := (4 * k + 1)) hx hb hX hbl hbA hS (by omega) (by omega) d_law_175 ?_
      refine lv_aload_n hx hb d_law_176 rfl (lv_at hl 0 rfl) ?_
      refine lv_iload hx hb d_law_177 (lv_at hl 4 rfl) ?_
      refine lv_iconst (v := 2) hx hb d_law_179 (by decide) ?_
      refine lv_iadd hx hb d_law_180 ?_
      refine bz_ri (y := nI (4 * k + 2)) (nI_add _ 2) ?_
      refine bz_sld (j := (4 * k + 2)) hx hb hX hbl hbA hS (by omega) (by omega) d_law_181 ?_
      refine lv_aload_n hx hb d_law_182 rfl (lv_at hl 0 rfl) ?_
      refine lv_iload hx hb d_law_183 (lv_at hl 4 rfl) ?_
      refine lv_iconst (v := 3) hx hb d_law_185 (by decide) ?_
      refine lv_iadd hx hb d_law_186 ?_
      refine bz_ri (y := nI (4 * k + 3)) (nI_add _ 3) ?_
      refine bz_sld (j := (4 * k + 3)) hx hb hX hbl hbA hS (by omega) (by omega) d_law_187 ?_
      refine lv_if_eq (tgt := 195) hx hb d_law_188 (by decide) (fun c_188 => ?_) (fun c_188 => ?_)
      · skip
        refine lv_iconst (v := 0) hx hb d_law_195 (by decide) ?_
        refine bz_si (va_runV (As := [.int (xs (4 * k + 1)), .int (xs (4 * k + 2)), .int 0]) (rest := []) ⟨hx, hb, hml, hown, htb⟩ (c_B_joined_o l dC dI ad cI cL t (fun a => nI (f a), A1, A2, o1, c1) (fun j => nI (rw j), co) (bz_i slv) ht _ _ false hz) (cwV 3 htb (bz_gV wd_145 wd_142 wd_143 wd_144 wd_19) rfl rfl rfl (by decide +kernel) ⟨Nat.le_of_ble_eq_true rfl, Nat.le_of_ble_eq_true rfl⟩) (bz_rv hN hK2 (hP.sub (ws' := bz_wB ad cI cL (bz_tR t) (fun a => nI (f a), A1, A2, o1, c1) (fun j => nI (rw j), co) (bz_i slv)) [0, 1, 2, 3, 4, 5, 6, 7, 8, 9, 10, 11, 12] rfl) (q0 := 0) rfl rfl) rfl rfl hl.1 rfl (lv_room (Nat.le_of_ble_eq_true rfl)) d_law_196 ⟨show 23 + k + 0 ≤ 601024 by omega, show 1349 + 6 * k + 0 ≤ 7293034 by omega⟩) ?_
        refine lv_aload_n hx hb d_law_199 rfl (lv_at hl 2 rfl) ?_
        refine lv_aload_n hx hb d_law_200 rfl (lv_at hl 0 rfl) ?_
        refine lv_iload hx hb d_law_201 (lv_at hl 4 rfl) ?_
        refine lv_iconst (v := 1) hx hb d_law_203 (by decide) ?_
        refine lv_iadd hx hb d_law_204 ?_
        refine bz_ri (y := nI (4 * k + 1)) (nI_1 _) ?_
        refine bz_sld (j := (4 * k + 1)) hx hb hX hbl hbA hS (by omega) (by omega) d_law_205 ?_
        refine lv_aload_n hx hb d_law_206 rfl (lv_at hl 0 rfl) ?_
        refine lv_iload hx hb d_law_207 (lv_at hl 4 rfl) ?_
        refine lv_iconst (v := 2) hx hb d_law_209 (by decide) ?_
        refine lv_iadd hx hb d_law_210 ?_
        refine bz_ri (y := nI (4 * k + 2)) (nI_add _ 2) ?_
        refine bz_sld (j := (4 * k + 2)) hx hb hX hbl hbA hS (by omega) (by omega) d_law_211 ?_
        refine lv_aload_n hx hb d_law_212 rfl (lv_at hl 0 rfl) ?_
        refine lv_iload hx hb d_law_213 (lv_at hl 4 rfl) ?_
        refine lv_iconst (v := 3) hx hb d_law_215 (by decide) ?_
        refine lv_iadd hx hb d_law_216 ?_
        refine bz_ri (y := nI (4 * k + 3)) (nI_add _ 3) ?_
        refine bz_sld (j := (4 * k + 3)) hx hb hX hbl hbA hS (by omega) (by omega) d_law_217 ?_
        refine lv_if_eq (tgt := 225) hx hb d_law_218 (by decide) (fun c_218 => ?_) (fun c_218 => ?_)
        · skip
          refine lv_iconst (v := 0) hx hb d_law_225 (by decide) ?_
          have hPc := hP.sub (ws' := bz_wM am cI cL cZ (bz_tM t) (th, bz_i slv, bz_i (slv && decide (bz_n t ≤ 8))) (fun a => nI (g a), fun a => nI (tr a), S3)) [13, 14, 15, 16, 17, 18, 19, 20, 21] rfl
          have hDc := hD.sub (ws' := bz_wM am cI cL cZ (bz_tM t) (th, bz_i slv, bz_i (slv && decide (bz_n t ≤ 8))) (fun a => nI (g a), fun a => nI (tr a), S3)) [13, 14, 15, 16, 17, 18, 19, 20, 21] (by decide) rfl
          have hFc := va_free (wc := bz_wM am cI cL cZ (bz_tM t) (th, bz_i slv, bz_i (slv && decide (bz_n t ≤ 8))) (fun a => nI (g a), fun a => nI (tr a), S3)) hD hS hA [13, 14, 15, 16, 17, 18, 19, 20, 21] rfl
          refine va_calli (va_runV (As := [.int (xs (4 * k + 1)), .int (xs (4 * k + 2)), .int 0]) (rest := [.int 0]) ⟨hx, hb, hml, hown, htb⟩ (c_M_joined_o l dC dI _ am cI cL cZ t th (bz_i slv) (bz_i (slv && decide (bz_n t ≤ 8))) (fun a => nI (g a)) (fun a => nI (tr a)) S3 ht _ _ _ hz) (cwV 3 htb (bz_gV wd_469 wd_466 wd_467 wd_468 wd_23) rfl rfl rfl (by decide +kernel) ⟨Nat.le_of_ble_eq_true rfl, Nat.le_of_ble_eq_true rfl⟩) (bz_wv hN hK hPc hDc (q0 := 0) rfl rfl) rfl rfl hl.1 rfl (lv_room (Nat.le_of_ble_eq_true rfl)) d_law_226 ⟨show 23 + k + 0 ≤ 601024 by omega, show 1349 + 6 * k + 0 ≤ 7293034 by omega⟩) hS (fun q _ h => hFc q h) hFc (fun r9 w t9 H locs ht9 hvm hw9 hB9 hz9 hk9 hS => ?_)
          obtain ⟨hP1, hK1, hD1⟩ := hB9
          rw [ht9] at hP1
          obtain ⟨hP, hD⟩ := bz_jM hP hD hk9 hFc hP1 hD1
          obtain rfl : r9 = 0 := hw9
          have hP : va_P (dC, dI) vwCl (bz_wB ad cI cL (bz_tR t) (fun a => nI (f a), A1, A2, o1, c1) (fun j => nI (rw j), co) (bz_i slv) ++ (bz_wM am cI cL cZ (bz_tM t) (0, bz_i slv, bz_i (slv && decide (bz_n t ≤ 8))) (fun a => nI (g a), fun a => nI (tr a), S3) ++ [(qo, .inl (cL, 1, .inr (.inl O)))])) H := hP
          have hD : va_D (fun q : Nat => s.heap.size ≤ q) (bz_wB ad cI cL (bz_tR t) (fun a => nI (f a), A1, A2, o1, c1) (fun j => nI (rw j), co) (bz_i slv) ++ (bz_wM am cI cL cZ (bz_tM t) (0, bz_i slv, bz_i (slv && decide (bz_n t ≤ 8))) (fun a => nI (g a), fun a => nI (tr a), S3) ++ [(qo, .inl (cL, 1, .inr (.inl O)))])) := hD
          refine lv_icmp_eq (tgt := 564) hx hb d_law_229 (by decide) (fun c_229 => ?_) (fun c_229 => ?_)
          · skip
            refine W.widen (k := 23 + (k + 1)) (n := 1349 + 6 * (k + 1)) (by omega) (by omega) ?_
            exact ih _ _ _ ⟨t, slv, f, A1, A2, o1, c1, rw, co, 0, g, tr, S3, O, ht, hR, hP, hD, hS⟩ (lv_sub hl [0, 1, 2, 3, 4] rfl)
          · skip
            exact absurd rfl c_229
        · skip
          exact absurd hb0 c_218
      · skip
        exact absurd hb0 c_188
  · skip
    by_cases hz : bz_ia (bz_n t) (xs (4 * k + 1)) = true ∧ bz_ia (bz_n t) (xs (4 * k + 2)) = true ∧ xs (4 * k + 1) ≠ xs (4 * k + 2)
    · obtain ⟨a, ha, hq1⟩ := bz_ia_of hn30 hz.1
      obtain ⟨b2, hbn, hq2⟩ := bz_ia_of hn30 hz.2.1
      have hab : a ≠ b2 := fun z => hz.2.2 (by rw [hq1, hq2, z])
      by_cases hj : bz_j t a b2 = true
      · skip
        refine lv_aload_n hx hb d_law_169 rfl (lv_at hl 1 rfl) ?_
        refine lv_aload_n hx hb d_law_170 rfl (lv_at hl 0 rfl) ?_
        refine lv_iload hx hb d_law_171 (lv_at hl 4 rfl) ?_
        refine lv_iconst (v := 1) hx hb d_law_173 (by decide) ?_
        refine lv_iadd hx hb d_law_174 ?_
        refine bz_ri (y := nI (4 * k + 1)) (nI_1 _) ?_
        refine bz_sld (j := (4 * k + 1)) hx hb hX hbl hbA hS (by omega) (by omega) d_law_175 ?_
        refine bz_ri (y := nI (a + 1)) (hq1) ?_
        refine lv_aload_n hx hb d_law_176 rfl (lv_at hl 0 rfl) ?_
        refine lv_iload hx hb d_law_177 (lv_at hl 4 rfl) ?_
        refine lv_iconst (v := 2) hx hb d_law_179 (by decide) ?_
        refine lv_iadd hx hb d_law_180 ?_
        refine bz_ri (y := nI (4 * k + 2)) (nI_add _ 2) ?_
        refine bz_sld (j := (4 * k + 2)) hx hb hX hbl hbA hS (by omega) (by omega) d_law_181 ?_
        refine bz_ri (y := nI (b2 + 1)) (hq2) ?_
        refine lv_aload_n hx hb d_law_182 rfl (lv_at hl 0 rfl) ?_
        refine lv_iload hx hb d_law_183 (lv_at hl 4 rfl) ?_
        refine lv_iconst (v := 3) hx hb d_law_185 (by decide) ?_
        refine lv_iadd hx hb d_law_186 ?_
        refine bz_ri (y := nI (4 * k + 3)) (nI_add _ 3) ?_
        refine bz_sld (j := (4 * k + 3)) hx hb hX hbl hbA hS (by omega) (by omega) d_law_187 ?_
        refine lv_if_eq (tgt := 195) hx hb d_law_188 (by decide) (fun c_188 => ?_) (fun c_188 => ?_)
        · skip
          exact absurd c_188 hb0
        · skip
          refine lv_iconst (v := 1) hx hb d_law_191 (by decide) ?_
          refine lv_goto (tgt := 196) hx hb d_law_192 (by decide) ?_
          have hPc := hP.sub (ws' := bz_wB ad cI cL (bz_tR t) (fun a => nI (f a), A1, A2, o1, c1) (fun j => nI (rw j), co) (bz_i slv)) [0, 1, 2, 3, 4, 5, 6, 7, 8, 9, 10, 11, 12] rfl
          have hDc := hD.sub (ws' := bz_wB ad cI cL (bz_tR t) (fun a => nI (f a), A1, A2, o1, c1) (fun j => nI (rw j), co) (bz_i slv)) [0, 1, 2, 3, 4, 5, 6, 7, 8, 9, 10, 11, 12] (by decide) rfl
          have hFc := va_free (wc := bz_wB ad cI cL (bz_tR t) (fun a => nI (f a), A1, A2, o1, c1) (fun j => nI (rw j), co) (bz_i slv)) hD hS hA [0, 1, 2, 3, 4, 5, 6, 7, 8, 9, 10, 11, 12] rfl
          refine va_calli (va_runV (As := [.int (nI (a + 1)), .int (nI (b2 + 1)), .int 1]) (rest := []) ⟨hx, hb, hml, hown, htb⟩ (c_B_joined l dC dI _ ad cI cL t (fun a => nI (f a), A1, A2, o1, c1) (fun j => nI (rw j), co) (bz_i slv) ht a b2 true ha hbn hab hj) (cwV 3 htb (bz_gV wd_145 wd_142 wd_143 wd_144 wd_19) rfl rfl rfl (by decide +kernel) ⟨Nat.le_of_ble_eq_true rfl, Nat.le_of_ble_eq_true rfl⟩) (bz_wv hN hK2 hPc hDc (q0 := 0) rfl rfl) rfl rfl hl.1 rfl (lv_room (Nat.le_of_ble_eq_true rfl)) d_law_196 ⟨show 23 + k + 0 ≤ 601024 by omega, show 1349 + 6 * k + 0 ≤ 7293034 by omega⟩) hS (fun q _ h => hFc q h) hFc (fun r9 u t9 H locs ht9 hvm hw9 hB9 hz9 hk9 hS => ?_)
          obtain ⟨hP1, hK1, hD1⟩ := hB9
          rw [ht9] at hP1
          obtain ⟨hP, hD⟩ := bz_jB hP hD hk9 hFc hP1 hD1
          obtain rfl : r9 = bz_i (!true) := hw9
          have hP : va_P (dC, dI) vwCl (bz_wB ad cI cL (bz_tR (bz_sJ t a b2 (!true))) (fun a => nI (f a), A1, A2, o1, c1) (fun j => nI (rw j), co) (0) ++ (bz_wM am cI cL cZ (bz_tM t) (th, bz_i slv, bz_i (slv && decide (bz_n t ≤ 8))) (fun a => nI (g a), fun a => nI (tr a), S3) ++ [(qo, .inl (cL, 1, .inr (.inl O)))])) H := hP
          have hD : va_D (fun q : Nat => s.heap.size ≤ q) (bz_wB ad cI cL (bz_tR (bz_sJ t a b2 (!true))) (fun a => nI (f a), A1, A2, o1, c1) (fun j => nI (rw j), co) (0) ++ (bz_wM am cI cL cZ (bz_tM t) (th, bz_i slv, bz_i (slv && decide (bz_n t ≤ 8))) (fun a => nI (g a), fun a => nI (tr a), S3) ++ [(qo, .inl (cL, 1, .inr (.inl O)))])) := hD
          refine lv_aload_n hx hb d_law_199 rfl (lv_at hl 2 rfl) ?_
          refine lv_aload_n hx hb d_law_200 rfl (lv_at hl 0 rfl) ?_
          refine lv_iload hx hb d_law_201 (lv_at hl 4 rfl) ?_
          refine lv_iconst (v := 1) hx hb d_law_203 (by decide) ?_
          refine lv_iadd hx hb d_law_204 ?_
          refine bz_ri (y := nI (4 * k + 1)) (nI_1 _) ?_
          refine bz_sld (j := (4 * k + 1)) hx hb hX hbl hbA hS (by omega) (by omega) d_law_205 ?_
          refine bz_ri (y := nI (a + 1)) (hq1) ?_
          refine lv_aload_n hx hb d_law_206 rfl (lv_at hl 0 rfl) ?_
          refine lv_iload hx hb d_law_207 (lv_at hl 4 rfl) ?_
          refine lv_iconst (v := 2) hx hb d_law_209 (by decide) ?_
          refine lv_iadd hx hb d_law_210 ?_
          refine bz_ri (y := nI (4 * k + 2)) (nI_add _ 2) ?_
          refine bz_sld (j := (4 * k + 2)) hx hb hX hbl hbA hS (by omega) (by omega) d_law_211 ?_
          refine bz_ri (y := nI (b2 + 1)) (hq2) ?_
          refine lv_aload_n hx hb d_law_212 rfl (lv_at hl 0 rfl) ?_
          refine lv_iload hx hb d_law_213 (lv_at hl 4 rfl) ?_
          refine lv_iconst (v := 3) hx hb d_law_215 (by decide) ?_
          refine lv_iadd hx hb d_law_216 ?_
          refine bz_ri (y := nI (4 * k + 3)) (nI_add _ 3) ?_
          refine bz_sld (j := (4 * k + 3)) hx hb hX hbl hbA hS (by omega) (by omega) d_law_217 ?_
          refine lv_if_eq (tgt := 225) hx hb d_law_218 (by decide) (fun c_218 => ?_) (fun c_218 => ?_)
          · skip
            exact absurd c_218 hb0
          · skip
            refine lv_iconst (v := 1) hx hb d_law_221 (by decide) ?_
            refine lv_goto (tgt := 226) hx hb d_law_222 (by decide) ?_
            have hPc := hP.sub (ws' := bz_wM am cI cL cZ (bz_tM t) (th, bz_i slv, bz_i (slv && decide (bz_n t ≤ 8))) (fun a => nI (g a), fun a => nI (tr a), S3)) [13, 14, 15, 16, 17, 18, 19, 20, 21] rfl
            have hDc := hD.sub (ws' := bz_wM am cI cL cZ (bz_tM t) (th, bz_i slv, bz_i (slv && decide (bz_n t ≤ 8))) (fun a => nI (g a), fun a => nI (tr a), S3)) [13, 14, 15, 16, 17, 18, 19, 20, 21] (by decide) rfl
            have hFc := va_free (wc := bz_wM am cI cL cZ (bz_tM t) (th, bz_i slv, bz_i (slv && decide (bz_n t ≤ 8))) (fun a => nI (g a), fun a => nI (tr a), S3)) hD hS hA [13, 14, 15, 16, 17, 18, 19, 20, 21] rfl
            refine va_calli (va_runV (As := [.int (nI (a + 1)), .int (nI (b2 + 1)), .int 1]) (rest := [.int (bz_i (!true))]) ⟨hx, hb, hml, hown, htb⟩ (c_M_joined_T l dC dI _ am cI cL cZ t th (bz_i slv) (bz_i (slv && decide (bz_n t ≤ 8))) (fun a => nI (g a)) (fun a => nI (tr a)) S3 ht a b2 ha hbn hab hj) (cwV 3 htb (bz_gV wd_469 wd_466 wd_467 wd_468 wd_23) rfl rfl rfl (by decide +kernel) ⟨Nat.le_of_ble_eq_true rfl, Nat.le_of_ble_eq_true rfl⟩) (bz_wv hN hK hPc hDc (q0 := 0) rfl rfl) rfl rfl hl.1 rfl (lv_room (Nat.le_of_ble_eq_true rfl)) d_law_226 ⟨show 23 + k + 0 ≤ 601024 by omega, show 1349 + 6 * k + 0 ≤ 7293034 by omega⟩) hS (fun q _ h => hFc q h) hFc (fun r9 w t9 H locs ht9 hvm hw9 hB9 hz9 hk9 hS => ?_)
            obtain ⟨hP1, hK1, hD1⟩ := hB9
            rw [ht9] at hP1
            obtain ⟨hP, hD⟩ := bz_jM hP hD hk9 hFc hP1 hD1
            obtain rfl : r9 = 0 := hw9
            have hP : va_P (dC, dI) vwCl (bz_wB ad cI cL (bz_tR (bz_sJ t a b2 (!true))) (fun a => nI (f a), A1, A2, o1, c1) (fun j => nI (rw j), co) (0) ++ (bz_wM am cI cL cZ (bz_tM (bz_sJ t a b2 false)) (0, 0, 0) (fun a => nI (g a), fun a => nI (tr a), S3) ++ [(qo, .inl (cL, 1, .inr (.inl O)))])) H := hP
            have hD : va_D (fun q : Nat => s.heap.size ≤ q) (bz_wB ad cI cL (bz_tR (bz_sJ t a b2 (!true))) (fun a => nI (f a), A1, A2, o1, c1) (fun j => nI (rw j), co) (0) ++ (bz_wM am cI cL cZ (bz_tM (bz_sJ t a b2 false)) (0, 0, 0) (fun a => nI (g a), fun a => nI (tr a), S3) ++ [(qo, .inl (cL, 1, .inr (.inl O)))])) := hD
            refine lv_icmp_eq (tgt := 564) hx hb d_law_229 (by decide) (fun c_229 => ?_) (fun c_229 => ?_)
            · skip
              refine W.widen (k := 23 + (k + 1)) (n := 1349 + 6 * (k + 1)) (by omega) (by omega) ?_
              exact ih _ _ _ ⟨bz_sJ t a b2 false, false, f, A1, A2, o1, c1, rw, co, 0, g, tr, S3, O, bz_sJ_ok ht ha hbn hab, fun h => absurd h (by decide), hP, hD, hS⟩ (lv_sub hl [0, 1, 2, 3, 4] rfl)
            · skip
              exact absurd rfl c_229
      · have hj : bz_j t a b2 = false := by cases e9 : bz_j t a b2 <;> simp [e9] at hj ⊢
        refine lv_aload_n hx hb d_law_169 rfl (lv_at hl 1 rfl) ?_
        refine lv_aload_n hx hb d_law_170 rfl (lv_at hl 0 rfl) ?_
        refine lv_iload hx hb d_law_171 (lv_at hl 4 rfl) ?_
        refine lv_iconst (v := 1) hx hb d_law_173 (by decide) ?_
        refine lv_iadd hx hb d_law_174 ?_
        refine bz_ri (y := nI (4 * k + 1)) (nI_1 _) ?_
        refine bz_sld (j := (4 * k + 1)) hx hb hX hbl hbA hS (by omega) (by omega) d_law_175 ?_
        refine bz_ri (y := nI (a + 1)) (hq1) ?_
        refine lv_aload_n hx hb d_law_176 rfl (lv_at hl 0 rfl) ?_
        refine lv_iload hx hb d_law_177 (lv_at hl 4 rfl) ?_
        refine lv_iconst (v := 2) hx hb d_law_179 (by decide) ?_
        refine lv_iadd hx hb d_law_180 ?_
        refine bz_ri (y := nI (4 * k + 2)) (nI_add _ 2) ?_
        refine bz_sld (j := (4 * k + 2)) hx hb hX hbl hbA hS (by omega) (by omega) d_law_181 ?_
        refine bz_ri (y := nI (b2 + 1)) (hq2) ?_
        refine lv_aload_n hx hb d_law_182 rfl (lv_at hl 0 rfl) ?_
        refine lv_iload hx hb d_law_183 (lv_at hl 4 rfl) ?_
        refine lv_iconst (v := 3) hx hb d_law_185 (by decide) ?_
        refine lv_iadd hx hb d_law_186 ?_
        refine bz_ri (y := nI (4 * k + 3)) (nI_add _ 3) ?_
        refine bz_sld (j := (4 * k + 3)) hx hb hX hbl hbA hS (by omega) (by omega) d_law_187 ?_
        refine lv_if_eq (tgt := 195) hx hb d_law_188 (by decide) (fun c_188 => ?_) (fun c_188 => ?_)
        · skip
          exact absurd c_188 hb0
        · skip
          refine lv_iconst (v := 1) hx hb d_law_191 (by decide) ?_
          refine lv_goto (tgt := 196) hx hb d_law_192 (by decide) ?_
          refine bz_si (va_runV (As := [.int (nI (a + 1)), .int (nI (b2 + 1)), .int 1]) (rest := []) ⟨hx, hb, hml, hown, htb⟩ (c_B_joined_s l dC dI ad cI cL t (fun a => nI (f a), A1, A2, o1, c1) (fun j => nI (rw j), co) (bz_i slv) ht a b2 true ha hbn hab hj) (cwV 3 htb (bz_gV wd_145 wd_142 wd_143 wd_144 wd_19) rfl rfl rfl (by decide +kernel) ⟨Nat.le_of_ble_eq_true rfl, Nat.le_of_ble_eq_true rfl⟩) (bz_rv hN hK2 (hP.sub (ws' := bz_wB ad cI cL (bz_tR t) (fun a => nI (f a), A1, A2, o1, c1) (fun j => nI (rw j), co) (bz_i slv)) [0, 1, 2, 3, 4, 5, 6, 7, 8, 9, 10, 11, 12] rfl) (q0 := 0) rfl rfl) rfl rfl hl.1 rfl (lv_room (Nat.le_of_ble_eq_true rfl)) d_law_196 ⟨show 23 + k + 0 ≤ 601024 by omega, show 1349 + 6 * k + 0 ≤ 7293034 by omega⟩) ?_
          refine lv_aload_n hx hb d_law_199 rfl (lv_at hl 2 rfl) ?_
          refine lv_aload_n hx hb d_law_200 rfl (lv_at hl 0 rfl) ?_
          refine lv_iload hx hb d_law_201 (lv_at hl 4 rfl) ?_
          refine lv_iconst (v := 1) hx hb d_law_203 (by decide) ?_
          refine lv_iadd hx hb d_law_204 ?_
          refine bz_ri (y := nI (4 * k + 1)) (nI_1 _) ?_
          refine bz_sld (j := (4 * k + 1)) hx hb hX hbl hbA hS (by omega) (by omega) d_law_205 ?_
          refine bz_ri (y := nI (a + 1)) (hq1) ?_
          refine lv_aload_n hx hb d_law_206 rfl (lv_at hl 0 rfl) ?_
          refine lv_iload hx hb d_law_207 (lv_at hl 4 rfl) ?_
          refine lv_iconst (v := 2) hx hb d_law_209 (by decide) ?_
          refine lv_iadd hx hb d_law_210 ?_
          refine bz_ri (y := nI (4 * k + 2)) (nI_add _ 2) ?_
          refine bz_sld (j := (4 * k + 2)) hx hb hX hbl hbA hS (by omega) (by omega) d_law_211 ?_
          refine bz_ri (y := nI (b2 + 1)) (hq2) ?_
          refine lv_aload_n hx hb d_law_212 rfl (lv_at hl 0 rfl) ?_
          refine lv_iload hx hb d_law_213 (lv_at hl 4 rfl) ?_
          refine lv_iconst (v := 3) hx hb d_law_215 (by decide) ?_
          refine lv_iadd hx hb d_law_216 ?_
          refine bz_ri (y := nI (4 * k + 3)) (nI_add _ 3) ?_
          refine bz_sld (j := (4 * k + 3)) hx hb hX hbl hbA hS (by omega) (by omega) d_law_217 ?_
          refine lv_if_eq (tgt := 225) hx hb d_law_218 (by decide) (fun c_218 => ?_) (fun c_218 => ?_)
          · skip
            exact absurd c_218 hb0
          · skip
            refine lv_iconst (v := 1) hx hb d_law_221 (by decide) ?_
            refine lv_goto (tgt := 226) hx hb d_law_222 (by decide) ?_
            have hPc := hP.sub (ws' := bz_wM am cI cL cZ (bz_tM t) (th, bz_i slv, bz_i (slv && decide (bz_n t ≤ 8))) (fun a => nI (g a), fun a => nI (tr a), S3)) [13, 14, 15, 16, 17, 18, 19, 20, 21] rfl
            have hDc := hD.sub (ws' := bz_wM am cI cL cZ (bz_tM t) (th, bz_i slv, bz_i (slv && decide (bz_n t ≤ 8))) (fun a => nI (g a), fun a => nI (tr a), S3)) [13, 14, 15, 16, 17, 18, 19, 20, 21] (by decide) rfl
            have hFc := va_free (wc := bz_wM am cI cL cZ (bz_tM t) (th, bz_i slv, bz_i (slv && decide (bz_n t ≤ 8))) (fun a => nI (g a), fun a => nI (tr a), S3)) hD hS hA [13, 14, 15, 16, 17, 18, 19, 20, 21] rfl
            refine va_calli (va_runV (As := [.int (nI (a + 1)), .int (nI (b2 + 1)), .int 1]) (rest := [.int (bz_i (!true))]) ⟨hx, hb, hml, hown, htb⟩ (c_M_joined_sT l dC dI _ am cI cL cZ t th (bz_i slv) (bz_i (slv && decide (bz_n t ≤ 8))) (fun a => nI (g a)) (fun a => nI (tr a)) S3 ht a b2 ha hbn hab hj) (cwV 3 htb (bz_gV wd_469 wd_466 wd_467 wd_468 wd_23) rfl rfl rfl (by decide +kernel) ⟨Nat.le_of_ble_eq_true rfl, Nat.le_of_ble_eq_true rfl⟩) (bz_wv hN hK hPc hDc (q0 := 0) rfl rfl) rfl rfl hl.1 rfl (lv_room (Nat.le_of_ble_eq_true rfl)) d_law_226 ⟨show 23 + k + 0 ≤ 601024 by omega, show 1349 + 6 * k + 0 ≤ 7293034 by omega⟩) hS (fun q _ h => hFc q h) hFc (fun r9 w t9 H locs ht9 hvm hw9 hB9 hz9 hk9 hS => ?_)
            obtain ⟨hP1, hK1, hD1⟩ := hB9
            rw [ht9] at hP1
            obtain ⟨hP, hD⟩ := bz_jM hP hD hk9 hFc hP1 hD1
            obtain rfl : r9 = 0 := hw9
            have hP : va_P (dC, dI) vwCl (bz_wB ad cI cL (bz_tR t) (fun a => nI (f a), A1, A2, o1, c1) (fun j => nI (rw j), co) (bz_i slv) ++ (bz_wM am cI cL cZ (bz_tM t) (0, bz_i slv, bz_i (slv && decide (bz_n t ≤ 8))) (fun a => nI (g a), fun a => nI (tr a), S3) ++ [(qo, .inl (cL, 1, .inr (.inl O)))])) H := hP
            have hD : va_D (fun q : Nat => s.heap.size ≤ q) (bz_wB ad cI cL (bz_tR t) (fun a => nI (f a), A1, A2, o1, c1) (fun j => nI (rw j), co) (bz_i slv) ++ (bz_wM am cI cL cZ (bz_tM t) (0, bz_i slv, bz_i (slv && decide (bz_n t ≤ 8))) (fun a => nI (g a), fun a => nI (tr a), S3) ++ [(qo, .inl (cL, 1, .inr (.inl O)))])) := hD
            refine lv_icmp_eq (tgt := 564) hx hb d_law_229 (by decide) (fun c_229 => ?_) (fun c_229 => ?_)
            · skip
              refine W.widen (k := 23 + (k + 1)) (n := 1349 + 6 * (k + 1)) (by omega) (by omega) ?_
              exact ih _ _ _ ⟨t, slv, f, A1, A2, o1, c1, rw, co, 0, g, tr, S3, O, ht, hR, hP, hD, hS⟩ (lv_sub hl [0, 1, 2, 3, 4] rfl)
            · skip
              exact absurd rfl c_229
    · skip
      refine lv_aload_n hx hb d_law_169 rfl (lv_at hl 1 rfl) ?_
      refine lv_aload_n hx hb d_law_170 rfl (lv_at hl 0 rfl) ?_
      refine lv_iload hx hb d_law_171 (lv_at hl 4 rfl) ?_
      refine lv_iconst (v := 1) hx hb d_law_173 (by decide) ?_
      refine lv_iadd hx hb d_law_174 ?_
      refine bz_ri (y := nI (4 * k + 1)) (nI_1 _) ?_
      refine bz_sld (j := (4 * k + 1)) hx hb hX hbl hbA hS (by omega) (by omega) d_law_175 ?_
      refine lv_aload_n hx hb d_law_176 rfl (lv_at hl 0 rfl) ?_
      refine lv_iload hx hb d_law_177 (lv_at hl 4 rfl) ?_
      refine lv_iconst (v := 2) hx hb d_law_179 (by decide) ?_
      refine lv_iadd hx hb d_law_180 ?_
      refine bz_ri (y := nI (4 * k + 2)) (nI_add _ 2) ?_
      refine bz_sld (j := (4 * k + 2)) hx hb hX hbl hbA hS (by omega) (by omega) d_law_181 ?_
      refine lv_aload_n hx hb d_law_182 rfl (lv_at hl 0 rfl) ?_
      refine lv_iload hx hb d_law_183 (lv_at hl 4 rfl) ?_
      refine lv_iconst (v := 3) hx hb d_law_185 (by decide) ?_
      refine lv_iadd hx hb d_law_186 ?_
      refine bz_ri (y := nI (4 * k + 3)) (nI_add _ 3) ?_
      refine bz_sld (j := (4 * k + 3)) hx hb hX hbl hbA hS (by omega) (by omega) d_law_187 ?_
      refine lv_if_eq (tgt := 195) hx hb d_law_188 (by decide) (fun c_188 => ?_) (fun c_188 => ?_)
      · skip
        exact absurd c_188 hb0
      · skip
        refine lv_iconst (v := 1) hx hb d_law_191 (by decide) ?_
        refine lv_goto (tgt := 196) hx hb d_law_192 (by decide) ?_
        refine bz_si (va_runV (As := [.int (xs (4 * k + 1)), .int (xs (4 * k + 2)), .int 1]) (rest := []) ⟨hx, hb, hml, hown, htb⟩ (c_B_joined_o l dC dI ad cI cL t (fun a => nI (f a), A1, A2, o1, c1) (fun j => nI (rw j), co) (bz_i slv) ht _ _ true hz) (cwV 3 htb (bz_gV wd_145 wd_142 wd_143 wd_144 wd_19) rfl rfl rfl (by decide +kernel) ⟨Nat.le_of_ble_eq_true rfl, Nat.le_of_ble_eq_true rfl⟩) (bz_rv hN hK2 (hP.sub (ws' := bz_wB ad cI cL (bz_tR t) (fun a => nI (f a), A1, A2, o1, c1) (fun j => nI (rw j), co) (bz_i slv)) [0, 1, 2, 3, 4, 5, 6, 7, 8, 9, 10, 11, 12] rfl) (q0 := 0) rfl rfl) rfl rfl hl.1 rfl (lv_room (Nat.le_of_ble_eq_true rfl)) d_law_196 ⟨show 23 + k + 0 ≤ 601024 by omega, show 1349 + 6 * k + 0 ≤ 7293034 by omega⟩) ?_
        refine lv_aload_n hx hb d_law_199 rfl (lv_at hl 2 rfl) ?_
        refine lv_aload_n hx hb d_law_200 rfl (lv_at hl 0 rfl) ?_
        refine lv_iload hx hb d_law_201 (lv_at hl 4 rfl) ?_
        refine lv_iconst (v := 1) hx hb d_law_203 (by decide) ?_
        refine lv_iadd hx hb d_law_204 ?_
        refine bz_ri (y := nI (4 * k + 1)) (nI_1 _) ?_
        refine bz_sld (j := (4 * k + 1)) hx hb hX hbl hbA hS (by omega) (by omega) d_law_205 ?_
        refine lv_aload_n hx hb d_law_206 rfl (lv_at hl 0 rfl) ?_
        refine lv_iload hx hb d_law_207 (lv_at hl 4 rfl) ?_
        refine lv_iconst (v := 2) hx hb d_law_209 (by decide) ?_
        refine lv_iadd hx hb d_law_210 ?_
        refine bz_ri (y := nI (4 * k + 2)) (nI_add _ 2) ?_
        refine bz_sld (j := (4 * k + 2)) hx hb hX hbl hbA hS (by omega) (by omega) d_law_211 ?_
        refine lv_aload_n hx hb d_law_212 rfl (lv_at hl 0 rfl) ?_
        refine lv_iload hx hb d_law_213 (lv_at hl 4 rfl) ?_
        refine lv_iconst (v := 3) hx hb d_law_215 (by decide) ?_
        refine lv_iadd hx hb d_law_216 ?_
        refine bz_ri (y := nI (4 * k + 3)) (nI_add _ 3) ?_
        refine bz_sld (j := (4 * k + 3)) hx hb hX hbl hbA hS (by omega) (by omega) d_law_217 ?_
        refine lv_if_eq (tgt := 225) hx hb d_law_218 (by decide) (fun c_218 => ?_) (fun c_218 => ?_)
        · skip
          exact absurd c_218 hb0
        · skip
          refine lv_iconst (v := 1) hx hb d_law_221 (by decide) ?_
          refine lv_goto (tgt := 226) hx hb d_law_222 (by decide) ?_
          have hPc := hP.sub (ws' := bz_wM am cI cL cZ (bz_tM t) (th, bz_i slv, bz_i (slv && decide (bz_n t ≤ 8))) (fun a => nI (g a), fun a => nI (tr a), S3)) [13, 14, 15, 16, 17, 18, 19, 20, 21] rfl
          have hDc := hD.sub (ws' := bz_wM am cI cL cZ (bz_tM t) (th, bz_i slv, bz_i (slv && decide (bz_n t ≤ 8))) (fun a => nI (g a), fun a => nI (tr a), S3)) [13, 14, 15, 16, 17, 18, 19, 20, 21] (by decide) rfl
          have hFc := va_free (wc := bz_wM am cI cL cZ (bz_tM t) (th, bz_i slv, bz_i (slv && decide (bz_n t ≤ 8))) (fun a => nI (g a), fun a => nI (tr a), S3)) hD hS hA [13, 14, 15, 16, 17, 18, 19, 20, 21] rfl
          refine va_calli (va_runV (As := [.int (xs (4 * k + 1)), .int (xs (4 * k + 2)), .int 1]) (rest := [.int 0]) ⟨hx, hb, hml, hown, htb⟩ (c_M_joined_o l dC dI _ am cI cL cZ t th (bz_i slv) (bz_i (slv && decide (bz_n t ≤ 8))) (fun a => nI (g a)) (fun a => nI (tr a)) S3 ht _ _ _ hz) (cwV 3 htb (bz_gV wd_469 wd_466 wd_467 wd_468 wd_23) rfl rfl rfl (by decide +kernel) ⟨Nat.le_of_ble_eq_true rfl, Nat.le_of_ble_eq_true rfl⟩) (bz_wv hN hK hPc hDc (q0 := 0) rfl rfl) rfl rfl hl.1 rfl (lv_room (Nat.le_of_ble_eq_true rfl)) d_law_226 ⟨show 23 + k + 0 ≤ 601024 by omega, show 1349 + 6 * k + 0 ≤ 7293034 by omega⟩) hS (fun q _ h => hFc q h) hFc (fun r9 w t9 H locs ht9 hvm hw9 hB9 hz9 hk9 hS => ?_)
          obtain ⟨hP1, hK1, hD1⟩ := hB9
          rw [ht9] at hP1
          obtain ⟨hP, hD⟩ := bz_jM hP hD hk9 hFc hP1 hD1
          obtain rfl : r9 = 0 := hw9
          have hP : va_P (dC, dI) vwCl (bz_wB ad cI cL (bz_tR t) (fun a => nI (f a), A1, A2, o1, c1) (fun j => nI (rw j), co) (bz_i slv) ++ (bz_wM am cI cL cZ (bz_tM t) (0, bz_i slv, bz_i (slv && decide (bz_n t ≤ 8))) (fun a => nI (g a), fun a => nI (tr a), S3) ++ [(qo, .inl (cL, 1, .inr (.inl O)))])) H := hP
          have hD : va_D (fun q : Nat => s.heap.size ≤ q) (bz_wB ad cI cL (bz_tR t) (fun a => nI (f a), A1, A2, o1, c1) (fun j => nI (rw j), co) (bz_i slv) ++ (bz_wM am cI cL cZ (bz_tM t) (0, bz_i slv, bz_i (slv && decide (bz_n t ≤ 8))) (fun a => nI (g a), fun a => nI (tr a), S3) ++ [(qo, .inl (cL, 1, .inr (.inl O)))])) := hD
          refine lv_icmp_eq (tgt := 564) hx hb d_law_229 (by decide) (fun c_229 => ?_) (fun c_229 => ?_)
          · skip
            refine W.widen (k := 23 + (k + 1)) (n := 1349 + 6 * (k + 1)) (by omega) (by omega) ?_
            exact ih _ _ _ ⟨t, slv, f, A1, A2, o1, c1, rw, co, 0, g, tr, S3, O, ht, hR, hP, hD, hS⟩ (lv_sub hl [0, 1, 2, 3, 4] rfl)
          · skip
            exact absurd rfl c_229

set_option maxHeartbeats 4000000 in
set_option maxRecDepth 100000 in
theorem law_carrier {p : Program} {l : Launch} {e : Env} {s : State} {m : MethodId} {below : List Frame} {meth : Method} {c : Code} {dC : Nat → ClassId} {dI : Nat → Nat → Nat} {ad am : Nat → Nat} {cI cL cZ : ClassId} {qo b L : Nat} {xs : Nat → Int32} (hL : L ≤ 2048) (C0 : lw_At p s m meth c b L xs) (hK : va_K (dC, dI) vwCl [(cI, .int), (cL, .long), (cZ, .boolean)] s) (hN : bz_N s) (k : Nat) (hk : 4 * k + 4 ≤ L) (ih : ∀ (H : Heap) (locs : List Loc) (ls : Array Slot), bz_I (dC, dI) ad am cI cL cZ qo s H locs → lv_has ls 7 [(0, .ref b), (1, .ref (ad 0)), (2, .ref (am 0)), (3, .ref qo), (4, .int (nI (4 * k)))] → W p l e room_1 s m #[Value.ref b] below meth c H locs (23 + (k + 1)) (1349 + 6 * (k + 1)) (lw_Z below #[Value.ref b] s) (F0 m 564 ls [])) :
    ∀ (H : Heap) (locs : List Loc) (ls : Array Slot), bz_I (dC, dI) ad am cI cL cZ qo s H locs → lv_has ls 7 [(0, .ref b), (1, .ref (ad 0)), (2, .ref (am 0)), (3, .ref qo), (4, .int (nI (4 * k)))] → W p l e room_1 s m #[Value.ref b] below meth c H locs (23 + k) (1349 + 6 * k) (lw_Z below #[Value.ref b] s) (F0 m 234 ls []) := by
  obtain ⟨hx, hb, hr, hml, hown, hts, hX, hbl, hlocks, hgv⟩ := id C0
  have htb : ∀ w ∈ bz_tb, w.before #[Value.ref b] s = true := fun w h => hts w (List.mem_filter.mp h).1
  have hA : ∀ q : Nat, s.heap.size ≤ q → (fun q : Nat => s.heap.size ≤ q) q := fun _ h => h
  have hbA : ¬ (fun q : Nat => s.heap.size ≤ q) b := Nat.not_le.mpr hbl
  have hK2 := hK.sub (tys' := [(cI, .int), (cL, .long)]) [0, 1] rfl
  intro H locs ls hI hl
  obtain ⟨t, slv, f, A1, A2, o1, c1, rw, co, th, g, tr, S3, O, ht, hR, hP, hD, hS⟩ := hI
  have hn30 := ht.1
  obtain ⟨z, hz0⟩ : ∃ z : Int64, z = ((xs (4 * k + 2)).toInt64 <<< (Int32.toInt64 32 &&& 63)) ||| ((xs (4 * k + 3)).toInt64 &&& 4294967295) := ⟨_, rfl⟩
  by_cases hz : bz_ir (xs (4 * k + 1)) = true ∧ 0 ≤ z ∧ z ≤ 1000000000
  · obtain ⟨x, hx63, rfl⟩ := pk_lOf (Int64.not_lt.mpr hz.2.1)
    have hx0 : x ≤ 1000000000 := (pk_lLE (b := 1000000000) hx63 (by omega)).mp hz.2.2
    obtain ⟨r, hr4, hq1⟩ := bz_ir_of hz.1
    by_cases hh : bz_h t r = x
    · skip
      refine lv_aload_n hx hb d_law_234 rfl (lv_at hl 1 rfl) ?_
      refine lv_aload_n hx hb d_law_235 rfl (lv_at hl 0 rfl) ?_
      refine lv_iload hx hb d_law_236 (lv_at hl 4 rfl) ?_
      refine lv_iconst (v := 1) hx hb d_law_238 (by decide) ?_
      refine lv_iadd hx hb d_law_239 ?_
      refine bz_ri (y := nI (4 * k + 1)) (nI_1 _) ?_
      refine bz_sld (j := (4 * k + 1)) hx hb hX hbl hbA hS (by omega) (by omega) d_law_240 ?_
      refine bz_ri (y := nI r) (hq1) ?_
      refine lv_aload_n hx hb d_law_241 rfl (lv_at hl 0 rfl) ?_
      refine lv_iload hx hb d_law_242 (lv_at hl 4 rfl) ?_
      refine lv_iconst (v := 2) hx hb d_law_244 (by decide) ?_
      refine lv_iadd hx hb d_law_245 ?_
      refine bz_ri (y := nI (4 * k + 2)) (nI_add _ 2) ?_
      refine bz_sld (j := (4 * k + 2)) hx hb hX hbl hbA hS (by omega) (by omega) d_law_246 ?_
      refine lv_i2l hx hb d_law_247 rfl ?_
      refine lv_bipush (v := 32) hx hb d_law_248 (by decide) ?_
      refine lv_lshl hx hb d_law_250 rfl ?_
      refine lv_aload_n hx hb d_law_251 rfl (lv_at hl 0 rfl) ?_
      refine lv_iload hx hb d_law_252 (lv_at hl 4 rfl) ?_
      refine lv_iconst (v := 3) hx hb d_law_254 (by decide) ?_
      refine lv_iadd hx hb d_law_255 ?_
      refine bz_ri (y := nI (4 * k + 3)) (nI_add _ 3) ?_
      refine bz_sld (j := (4 * k + 3)) hx hb hX hbl hbA hS (by omega) (by omega) d_law_256 ?_
      refine lv_i2l hx hb d_law_257 rfl ?_
      refine lv_ldc2 (v := 4294967295) hx hb hown (htb _ wd_567) d_law_258 ?_
      refine lv_land hx hb d_law_261 ?_
      refine lv_lor hx hb d_law_262 ?_
      refine bz_rl (y := lN x) (hz0.symm) ?_
      refine bz_si (va_runV (As := [.int (nI r), .long (lN x)]) (rest := []) ⟨hx, hb, hml, hown, htb⟩ (c_B_carrier_s l dC dI ad cI cL t (fun a => nI (f a), A1, A2, o1, c1) (fun j => nI (rw j), co) (bz_i slv) ht r x hr4 hx0 hh) (cwV 2 htb (bz_gV wd_161 wd_158 wd_159 wd_160 wd_19) rfl rfl rfl (by decide +kernel) ⟨Nat.le_of_ble_eq_true rfl, Nat.le_of_ble_eq_true rfl⟩) (bz_rv hN hK2 (hP.sub (ws' := bz_wB ad cI cL (bz_tR t) (fun a => nI (f a), A1, A2, o1, c1) (fun j => nI (rw j), co) (bz_i slv)) [0, 1, 2, 3, 4, 5, 6, 7, 8, 9, 10, 11, 12] rfl) (q0 := 0) rfl rfl) rfl rfl hl.1 rfl (lv_room (Nat.le_of_ble_eq_true rfl)) d_law_263 ⟨show 23 + k + 0 ≤ 601024 by omega, show 1349 + 6 * k + 0 ≤ 7293034 by omega⟩) ?_
      refine lv_aload_n hx hb d_law_266 rfl (lv_at hl 2 rfl) ?_
      refine lv_aload_n hx hb d_law_267 rfl (lv_at hl 0 rfl) ?_
      refine lv_iload hx hb d_law_268 (lv_at hl 4 rfl) ?_
      refine lv_iconst (v := 1) hx hb d_law_270 (by decide) ?_
      refine lv_iadd hx hb d_law_271 ?_
      refine bz_ri (y := nI (4 * k + 1)) (nI_1 _) ?_
      refine bz_sld (j := (4 * k + 1)) hx hb hX hbl hbA hS (by omega) (by omega) d_law_272 ?_
      refine bz_ri (y := nI r) (hq1) ?_
      refine lv_aload_n hx hb d_law_273 rfl (lv_at hl 0 rfl) ?_
      refine lv_iload hx hb d_law_274 (lv_at hl 4 rfl) ?_
      refine lv_iconst (v := 2) hx hb d_law_276 (by decide) ?_
      refine lv_iadd hx hb d_law_277 ?_
      refine bz_ri (y := nI (4 * k + 2)) (nI_add _ 2) ?_
      refine bz_sld (j := (4 * k + 2)) hx hb hX hbl hbA hS (by omega) (by omega) d_law_278 ?_
      refine lv_i2l hx hb d_law_279 rfl ?_
      refine lv_bipush (v := 32) hx hb d_law_280 (by decide) ?_
      refine lv_lshl hx hb d_law_282 rfl ?_
      refine lv_aload_n hx hb d_law_283 rfl (lv_at hl 0 rfl) ?_
      refine lv_iload hx hb d_law_284 (lv_at hl 4 rfl) ?_
      refine lv_iconst (v := 3) hx hb d_law_286 (by decide) ?_
      refine lv_iadd hx hb d_law_287 ?_
      refine bz_ri (y := nI (4 * k + 3)) (nI_add _ 3) ?_
      refine bz_sld (j := (4 * k + 3)) hx hb hX hbl hbA hS (by omega) (by omega) d_law_288 ?_
      refine lv_i2l hx hb d_law_289 rfl ?_
      refine lv_ldc2 (v := 4294967295) hx hb hown (htb _ wd_567) d_law_290 ?_
      refine lv_land hx hb d_law_293 ?_
      refine lv_lor hx hb d_law_294 ?_
      refine bz_rl (y := lN x) (hz0.symm) ?_
      have hPc := hP.sub (ws' := bz_wM am cI cL cZ (bz_tM t) (th, bz_i slv, bz_i (slv && decide (bz_n t ≤ 8))) (fun a => nI (g a), fun a => nI (tr a), S3)) [13, 14, 15, 16, 17, 18, 19, 20, 21] rfl
      have hDc := hD.sub (ws' := bz_wM am cI cL cZ (bz_tM t) (th, bz_i slv, bz_i (slv && decide (bz_n t ≤ 8))) (fun a => nI (g a), fun a => nI (tr a), S3)) [13, 14, 15, 16, 17, 18, 19, 20, 21] (by decide) rfl
      have hFc := va_free (wc := bz_wM am cI cL cZ (bz_tM t) (th, bz_i slv, bz_i (slv && decide (bz_n t ≤ 8))) (fun a => nI (g a), fun a => nI (tr a), S3)) hD hS hA [13, 14, 15, 16, 17, 18, 19, 20, 21] rfl
      refine va_calli (va_runV (As := [.int (nI r), .long (lN x)]) (rest := [.int (nI (bz_h t r))]) ⟨hx, hb, hml, hown, htb⟩ (c_M_carrier_s l dC dI _ am cI cL cZ t th (bz_i slv) (bz_i (slv && decide (bz_n t ≤ 8))) (fun a => nI (g a)) (fun a => nI (tr a)) S3 ht r x hr4 hx0 hh) (cwV 2 htb (bz_gV wd_477 wd_474 wd_475 wd_476 wd_23) rfl rfl rfl (by decide +kernel) ⟨Nat.le_of_ble_eq_true rfl, Nat.le_of_ble_eq_true rfl⟩) (bz_wv hN hK hPc hDc (q0 := 0) rfl rfl) rfl rfl hl.1 rfl (lv_room (Nat.le_of_ble_eq_true rfl)) d_law_295 ⟨show 23 + k + 0 ≤ 601024 by omega, show 1349 + 6 * k + 0 ≤ 7293034 by omega⟩) hS (fun q _ h => hFc q h) hFc (fun r9 w t9 H locs ht9 hvm hw9 hB9 hz9 hk9 hS => ?_)
      obtain ⟨hP1, hK1, hD1⟩ := hB9
      rw [ht9] at hP1
      obtain ⟨hP, hD⟩ := bz_jM hP hD hk9 hFc hP1 hD1
      obtain rfl : r9 = nI (bz_h t r) := hw9
      have hP : va_P (dC, dI) vwCl (bz_wB ad cI cL (bz_tR t) (fun a => nI (f a), A1, A2, o1, c1) (fun j => nI (rw j), co) (bz_i slv) ++ (bz_wM am cI cL cZ (bz_tM t) (0, bz_i slv, bz_i (slv && decide (bz_n t ≤ 8))) (fun a => nI (g a), fun a => nI (tr a), S3) ++ [(qo, .inl (cL, 1, .inr (.inl O)))])) H := hP
      have hD : va_D (fun q : Nat => s.heap.size ≤ q) (bz_wB ad cI cL (bz_tR t) (fun a => nI (f a), A1, A2, o1, c1) (fun j => nI (rw j), co) (bz_i slv) ++ (bz_wM am cI cL cZ (bz_tM t) (0, bz_i slv, bz_i (slv && decide (bz_n t ≤ 8))) (fun a => nI (g a), fun a => nI (tr a), S3) ++ [(qo, .inl (cL, 1, .inr (.inl O)))])) := hD
      refine lv_icmp_eq (tgt := 564) hx hb d_law_298 (by decide) (fun c_298 => ?_) (fun c_298 => ?_)
      · skip
        refine W.widen (k := 23 + (k + 1)) (n := 1349 + 6 * (k + 1)) (by omega) (by omega) ?_
        exact ih _ _ _ ⟨t, slv, f, A1, A2, o1, c1, rw, co, 0, g, tr, S3, O, ht, hR, hP, hD, hS⟩ (lv_sub hl [0, 1, 2, 3, 4] rfl)
      · skip
        exact absurd rfl c_298
    · skip
      refine lv_aload_n hx hb d_law_234 rfl (lv_at hl 1 rfl) ?_
      refine lv_aload_n hx hb d_law_235 rfl (lv_at hl 0 rfl) ?_
      refine lv_iload hx hb d_law_236 (lv_at hl 4 rfl) ?_
      refine lv_iconst (v := 1) hx hb d_law_238 (by decide) ?_
      refine lv_iadd hx hb d_law_239 ?_
      refine bz_ri (y := nI (4 * k + 1)) (nI_1 _) ?_
      refine bz_sld (j := (4 * k + 1)) hx hb hX hbl hbA hS (by omega) (by omega) d_law_240 ?_
      refine bz_ri (y := nI r) (hq1) ?_
      refine lv_aload_n hx hb d_law_241 rfl (lv_at hl 0 rfl) ?_
      refine lv_iload hx hb d_law_242 (lv_at hl 4 rfl) ?_
      refine lv_iconst (v := 2) hx hb d_law_244 (by decide) ?_
      refine lv_iadd hx hb d_law_245 ?_
      refine bz_ri (y := nI (4 * k + 2)) (nI_add _ 2) ?_
      refine bz_sld (j := (4 * k + 2)) hx hb hX hbl hbA hS (by omega) (by omega) d_law_246 ?_
      refine lv_i2l hx hb d_law_247 rfl ?_
      refine lv_bipush (v := 32) hx hb d_law_248 (by decide) ?_
      refine lv_lshl hx hb d_law_250 rfl ?_
      refine lv_aload_n hx hb d_law_251 rfl (lv_at hl 0 rfl) ?_
      refine lv_iload hx hb d_law_252 (lv_at hl 4 rfl) ?_
      refine lv_iconst (v := 3) hx hb d_law_254 (by decide) ?_
      refine lv_iadd hx hb d_law_255 ?_
      refine bz_ri (y := nI (4 * k + 3)) (nI_add _ 3) ?_
      refine bz_sld (j := (4 * k + 3)) hx hb hX hbl hbA hS (by omega) (by omega) d_law_256 ?_
      refine lv_i2l hx hb d_law_257 rfl ?_
      refine lv_ldc2 (v := 4294967295) hx hb hown (htb _ wd_567) d_law_258 ?_
      refine lv_land hx hb d_law_261 ?_
      refine lv_lor hx hb d_law_262 ?_
      refine bz_rl (y := lN x) (hz0.symm) ?_
      have hPc := hP.sub (ws' := bz_wB ad cI cL (bz_tR t) (fun a => nI (f a), A1, A2, o1, c1) (fun j => nI (rw j), co) (bz_i slv)) [0, 1, 2, 3, 4, 5, 6, 7, 8, 9, 10, 11, 12] rfl
      have hDc := hD.sub (ws' := bz_wB ad cI cL (bz_tR t) (fun a => nI (f a), A1, A2, o1, c1) (fun j => nI (rw j), co) (bz_i slv)) [0, 1, 2, 3, 4, 5, 6, 7, 8, 9, 10, 11, 12] (by decide) rfl
      have hFc := va_free (wc := bz_wB ad cI cL (bz_tR t) (fun a => nI (f a), A1, A2, o1, c1) (fun j => nI (rw j), co) (bz_i slv)) hD hS hA [0, 1, 2, 3, 4, 5, 6, 7, 8, 9, 10, 11, 12] rfl
      refine va_calli (va_runV (As := [.int (nI r), .long (lN x)]) (rest := []) ⟨hx, hb, hml, hown, htb⟩ (c_B_carrier l dC dI _ ad cI cL t (fun a => nI (f a), A1, A2, o1, c1) (fun j => nI (rw j), co) (bz_i slv) ht r x hr4 hx0 hh) (cwV 2 htb (bz_gV wd_161 wd_158 wd_159 wd_160 wd_19) rfl rfl rfl (by decide +kernel) ⟨Nat.le_of_ble_eq_true rfl, Nat.le_of_ble_eq_true rfl⟩) (bz_wv hN hK2 hPc hDc (q0 := 0) rfl rfl) rfl rfl hl.1 rfl (lv_room (Nat.le_of_ble_eq_true rfl)) d_law_263 ⟨show 23 + k + 0 ≤ 601024 by omega, show 1349 + 6 * k + 0 ≤ 7293034 by omega⟩) hS (fun q _ h => hFc q h) hFc (fun r9 u t9 H locs ht9 hvm hw9 hB9 hz9 hk9 hS => ?_)
      obtain ⟨hP1, hK1, hD1⟩ := hB9
      rw [ht9] at hP1
      obtain ⟨hP, hD⟩ := bz_jB hP hD hk9 hFc hP1 hD1
      obtain rfl : r9 = nI (bz_h t r) := hw9
      have hP : va_P (dC, dI) vwCl (bz_wB ad cI cL (bz_tR (bz_sH t r x)) (fun a => nI (f a), A1, A2, o1, c1) (fun j => nI (rw j), co) (0) ++ (bz_wM am cI cL cZ (bz_tM t) (th, bz_i slv, bz_i (slv && decide (bz_n t ≤ 8))) (fun a => nI (g a), fun a => nI (tr a), S3) ++ [(qo, .inl (cL, 1, .inr (.inl O)))])) H := hP
      have hD : va_D (fun q : Nat => s.heap.size ≤ q) (bz_wB ad cI cL (bz_tR (bz_sH t r x)) (fun a => nI (f a), A1, A2, o1, c1) (fun j => nI (rw j), co) (0) ++ (bz_wM am cI cL cZ (bz_tM t) (th, bz_i slv, bz_i (slv && decide (bz_n t ≤ 8))) (fun a => nI (g a), fun a => nI (tr a), S3) ++ [(qo, .inl (cL, 1, .inr (.inl O)))])) := hD
      refine lv_aload_n hx hb d_law_266 rfl (lv_at hl 2 rfl) ?_
      refine lv_aload_n hx hb d_law_267 rfl (lv_at hl 0 rfl) ?_
      refine lv_iload hx hb d_law_268 (lv_at hl 4 rfl) ?_
      refine lv_iconst (v := 1) hx hb d_law_270 (by decide) ?_
      refine lv_iadd hx hb d_law_271 ?_
      refine bz_ri (y := nI (4 * k + 1)) (nI_1 _) ?_
      refine bz_sld (j := (4 * k + 1)) hx hb hX hbl hbA hS (by omega) (by omega) d_law_272 ?_
      refine bz_ri (y := nI r) (hq1) ?_
      refine lv_aload_n hx hb d_law_273 rfl (lv_at hl 0 rfl) ?_
      refine lv_iload hx hb d_law_274 (lv_at hl 4 rfl) ?_
      refine lv_iconst (v := 2) hx hb d_law_276 (by decide) ?_
      refine lv_iadd hx hb d_law_277 ?_
      refine bz_ri (y := nI (4 * k + 2)) (nI_add _ 2) ?_
      refine bz_sld (j := (4 * k + 2)) hx hb hX hbl hbA hS (by omega) (by omega) d_law_278 ?_
      refine lv_i2l hx hb d_law_279 rfl ?_
      refine lv_bipush (v := 32) hx hb d_law_280 (by decide) ?_
      refine lv_lshl hx hb d_law_282 rfl ?_
      refine lv_aload_n hx hb d_law_283 rfl (lv_at hl 0 rfl) ?_
      refine lv_iload hx hb d_law_284 (lv_at hl 4 rfl) ?_
      refine lv_iconst (v := 3) hx hb d_law_286 (by decide) ?_
      refine lv_iadd hx hb d_law_287 ?_
      refine bz_ri (y := nI (4 * k + 3)) (nI_add _ 3) ?_
      refine bz_sld (j := (4 * k + 3)) hx hb hX hbl hbA hS (by omega) (by omega) d_law_288 ?_
      refine lv_i2l hx hb d_law_289 rfl ?_
      refine lv_ldc2 (v := 4294967295) hx hb hown (htb _ wd_567) d_law_290 ?_
      refine lv_land hx hb d_law_293 ?_
      refine lv_lor hx hb d_law_294 ?_
      refine bz_rl (y := lN x) (hz0.symm) ?_
      have hPc := hP.sub (ws' := bz_wM am cI cL cZ (bz_tM t) (th, bz_i slv, bz_i (slv && decide (bz_n t ≤ 8))) (fun a => nI (g a), fun a => nI (tr a), S3)) [13, 14, 15, 16, 17, 18, 19, 20, 21] rfl
      have hDc := hD.sub (ws' := bz_wM am cI cL cZ (bz_tM t) (th, bz_i slv, bz_i (slv && decide (bz_n t ≤ 8))) (fun a => nI (g a), fun a => nI (tr a), S3)) [13, 14, 15, 16, 17, 18, 19, 20, 21] (by decide) rfl
      have hFc := va_free (wc := bz_wM am cI cL cZ (bz_tM t) (th, bz_i slv, bz_i (slv && decide (bz_n t ≤ 8))) (fun a => nI (g a), fun a => nI (tr a), S3)) hD hS hA [13, 14, 15, 16, 17, 18, 19, 20, 21] rfl
      refine va_calli (va_runV (As := [.int (nI r), .long (lN x)]) (rest := [.int (nI (bz_h t r))]) ⟨hx, hb, hml, hown, htb⟩ (c_M_carrier l dC dI _ am cI cL cZ t th (bz_i slv) (bz_i (slv && decide (bz_n t ≤ 8))) (fun a => nI (g a)) (fun a => nI (tr a)) S3 ht r x hr4 hx0 hh) (cwV 2 htb (bz_gV wd_477 wd_474 wd_475 wd_476 wd_23) rfl rfl rfl (by decide +kernel) ⟨Nat.le_of_ble_eq_true rfl, Nat.le_of_ble_eq_true rfl⟩) (bz_wv hN hK hPc hDc (q0 := 0) rfl rfl) rfl rfl hl.1 rfl (lv_room (Nat.le_of_ble_eq_true rfl)) d_law_295 ⟨show 23 + k + 0 ≤ 601024 by omega, show 1349 + 6 * k + 0 ≤ 7293034 by omega⟩) hS (fun q _ h => hFc q h) hFc (fun r9 w t9 H locs ht9 hvm hw9 hB9 hz9 hk9 hS => ?_)
      obtain ⟨hP1, hK1, hD1⟩ := hB9
      rw [ht9] at hP1
      obtain ⟨hP, hD⟩ := bz_jM hP hD hk9 hFc hP1 hD1
      obtain rfl : r9 = nI (bz_h t r) := hw9
      have hP : va_P (dC, dI) vwCl (bz_wB ad cI cL (bz_tR (bz_sH t r x)) (fun a => nI (f a), A1, A2, o1, c1) (fun j => nI (rw j), co) (0) ++ (bz_wM am cI cL cZ (bz_tM (bz_sH t r x)) (0, 0, 0) (fun a => nI (g a), fun a => nI (tr a), S3) ++ [(qo, .inl (cL, 1, .inr (.inl O)))])) H := hP
      have hD : va_D (fun q : Nat => s.heap.size ≤ q) (bz_wB ad cI cL (bz_tR (bz_sH t r x)) (fun a => nI (f a), A1, A2, o1, c1) (fun j => nI (rw j), co) (0) ++ (bz_wM am cI cL cZ (bz_tM (bz_sH t r x)) (0, 0, 0) (fun a => nI (g a), fun a => nI (tr a), S3) ++ [(qo, .inl (cL, 1, .inr (.inl O)))])) := hD
      refine lv_icmp_eq (tgt := 564) hx hb d_law_298 (by decide) (fun c_298 => ?_) (fun c_298 => ?_)
      · skip
        refine W.widen (k := 23 + (k + 1)) (n := 1349 + 6 * (k + 1)) (by omega) (by omega) ?_
        exact ih _ _ _ ⟨bz_sH t r x, false, f, A1, A2, o1, c1, rw, co, 0, g, tr, S3, O, bz_sH_ok ht hx0, fun h => absurd h (by decide), hP, hD, hS⟩ (lv_sub hl [0, 1, 2, 3, 4] rfl)
      · skip
        exact absurd rfl c_298
  · skip
    refine lv_aload_n hx hb d_law_234 rfl (lv_at hl 1 rfl) ?_
    refine lv_aload_n hx hb d_law_235 rfl (lv_at hl 0 rfl) ?_
    refine lv_iload hx hb d_law_236 (lv_at hl 4 rfl) ?_
    refine lv_iconst (v := 1) hx hb d_law_238 (by decide) ?_
    refine lv_iadd hx hb d_law_239 ?_
    refine bz_ri (y := nI (4 * k + 1)) (nI_1 _) ?_
    refine bz_sld (j := (4 * k + 1)) hx hb hX hbl hbA hS (by omega) (by omega) d_law_240 ?_
    refine lv_aload_n hx hb d_law_241 rfl (lv_at hl 0 rfl) ?_
    refine lv_iload hx hb d_law_242 (lv_at hl 4 rfl) ?_
    refine lv_iconst (v := 2) hx hb d_law_244 (by decide) ?_
    refine lv_iadd hx hb d_law_245 ?_
    refine bz_ri (y := nI (4 * k + 2)) (nI_add _ 2) ?_
    refine bz_sld (j := (4 * k + 2)) hx hb hX hbl hbA hS (by omega) (by omega) d_law_246 ?_
    refine lv_i2l hx hb d_law_247 rfl ?_
    refine lv_bipush (v := 32) hx hb d_law_248 (by decide) ?_
    refine lv_lshl hx hb d_law_250 rfl ?_
    refine lv_aload_n hx hb d_law_251 rfl (lv_at hl 0 rfl) ?_
    refine lv_iload hx hb d_law_252 (lv_at hl 4 rfl) ?_
    refine lv_iconst (v := 3) hx hb d_law_254 (by decide) ?_
    refine lv_iadd hx hb d_law_255 ?_
    refine bz_ri (y := nI (4 * k + 3)) (nI_add _ 3) ?_
    refine bz_sld (j := (4 * k + 3)) hx hb hX hbl hbA hS (by omega) (by omega) d_law_256 ?_
    refine lv_i2l hx hb d_law_257 rfl ?_
    refine lv_ldc2 (v := 4294967295) hx hb hown (htb _ wd_567) d_law_258 ?_
    refine lv_land hx hb d_law_261 ?_
    refine lv_lor hx hb d_law_262 ?_
    refine bz_rl (y := z) (hz0.symm) ?_
    refine bz_si (va_runV (As := [.int (xs (4 * k + 1)), .long z]) (rest := []) ⟨hx, hb, hml, hown, htb⟩ (c_B_carrier_o l dC dI ad cI cL t (fun a => nI (f a), A1, A2, o1, c1) (fun j => nI (rw j), co) (bz_i slv) ht _ z hz) (cwV 2 htb (bz_gV wd_161 wd_158 wd_159 wd_160 wd_19) rfl rfl rfl (by decide +kernel) ⟨Nat.le_of_ble_eq_true rfl, Nat.le_of_ble_eq_true rfl⟩) (bz_rv hN hK2 (hP.sub (ws' := bz_wB ad cI cL (bz_tR t) (fun a => nI (f a), A1, A2, o1, c1) (fun j => nI (rw j), co) (bz_i slv)) [0, 1, 2, 3, 4, 5, 6, 7, 8, 9, 10, 11, 12] rfl) (q0 := 0) rfl rfl) rfl rfl hl.1 rfl (lv_room (Nat.le_of_ble_eq_true rfl)) d_law_263 ⟨show 23 + k + 0 ≤ 601024 by omega, show 1349 + 6 * k + 0 ≤ 7293034 by omega⟩) ?_
    refine lv_aload_n hx hb d_law_266 rfl (lv_at hl 2 rfl) ?_
    refine lv_aload_n hx hb d_law_267 rfl (lv_at hl 0 rfl) ?_
    refine lv_iload hx hb d_law_268 (lv_at hl 4 rfl) ?_
    refine lv_iconst (v := 1) hx hb d_law_270 (by decide) ?_
    refine lv_iadd hx hb d_law_271 ?_
    refine bz_ri (y := nI (4 * k + 1)) (nI_1 _) ?_
    refine bz_sld (j := (4 * k + 1)) hx hb hX hbl hbA hS (by omega) (by omega) d_law_272 ?_
    refine lv_aload_n hx hb d_law_273 rfl (lv_at hl 0 rfl) ?_
    refine lv_iload hx hb d_law_274 (lv_at hl 4 rfl) ?_
    refine lv_iconst (v := 2) hx hb d_law_276 (by decide) ?_
    refine lv_iadd hx hb d_law_277 ?_
    refine bz_ri (y := nI (4 * k + 2)) (nI_add _ 2) ?_
    refine bz_sld (j := (4 * k + 2)) hx hb hX hbl hbA hS (by omega) (by omega) d_law_278 ?_
    refine lv_i2l hx hb d_law_279 rfl ?_
    refine lv_bipush (v := 32) hx hb d_law_280 (by decide) ?_
    refine lv_lshl hx hb d_law_282 rfl ?_
    refine lv_aload_n hx hb d_law_283 rfl (lv_at hl 0 rfl) ?_
    refine lv_iload hx hb d_law_284 (lv_at hl 4 rfl) ?_
    refine lv_iconst (v := 3) hx hb d_law_286 (by decide) ?_
    refine lv_iadd hx hb d_law_287 ?_
    refine bz_ri (y := nI (4 * k + 3)) (nI_add _ 3) ?_
    refine bz_sld (j := (4 * k + 3)) hx hb hX hbl hbA hS (by omega) (by omega) d_law_288 ?_
    refine lv_i2l hx hb d_law_289 rfl ?_
    refine lv_ldc2 (v := 4294967295) hx hb hown (htb _ wd_567) d_law_290 ?_
    refine lv_land hx hb d_law_293 ?_
    refine lv_lor hx hb d_law_294 ?_
    refine bz_rl (y := z) (hz0.symm) ?_
    have hPc := hP.sub (ws' := bz_wM am cI cL cZ (bz_tM t) (th, bz_i slv, bz_i (slv && decide (bz_n t ≤ 8))) (fun a => nI (g a), fun a => nI (tr a), S3)) [13, 14, 15, 16, 17, 18, 19, 20, 21] rfl
    have hDc := hD.sub (ws' := bz_wM am cI cL cZ (bz_tM t) (th, bz_i slv, bz_i (slv && decide (bz_n t ≤ 8))) (fun a => nI (g a), fun a => nI (tr a), S3)) [13, 14, 15, 16, 17, 18, 19, 20, 21] (by decide) rfl
    have hFc := va_free (wc := bz_wM am cI cL cZ (bz_tM t) (th, bz_i slv, bz_i (slv && decide (bz_n t ≤ 8))) (fun a => nI (g a), fun a => nI (tr a), S3)) hD hS hA [13, 14, 15, 16, 17, 18, 19, 20, 21] rfl
    refine va_calli (va_runV (As := [.int (xs (4 * k + 1)), .long z]) (rest := [.int (-12)]) ⟨hx, hb, hml, hown, htb⟩ (c_M_carrier_o l dC dI _ am cI cL cZ t th (bz_i slv) (bz_i (slv && decide (bz_n t ≤ 8))) (fun a => nI (g a)) (fun a => nI (tr a)) S3 ht _ z hz) (cwV 2 htb (bz_gV wd_477 wd_474 wd_475 wd_476 wd_23) rfl rfl rfl (by decide +kernel) ⟨Nat.le_of_ble_eq_true rfl, Nat.le_of_ble_eq_true rfl⟩) (bz_wv hN hK hPc hDc (q0 := 0) rfl rfl) rfl rfl hl.1 rfl (lv_room (Nat.le_of_ble_eq_true rfl)) d_law_295 ⟨show 23 + k + 0 ≤ 601024 by omega, show 1349 + 6 * k + 0 ≤ 7293034 by omega⟩) hS (fun q _ h => hFc q h) hFc (fun r9 w t9 H locs ht9 hvm hw9 hB9 hz9 hk9 hS => ?_)
    obtain ⟨hP1, hK1, hD1⟩ := hB9
    rw [ht9] at hP1
    obtain ⟨hP, hD⟩ := bz_jM hP hD hk9 hFc hP1 hD1
    obtain rfl : r9 = (-12) := hw9
    have hP : va_P (dC, dI) vwCl (bz_wB ad cI cL (bz_tR t) (fun a => nI (f a), A1, A2, o1, c1) (fun j => nI (rw j), co) (bz_i slv) ++ (bz_wM am cI cL cZ (bz_tM t) (0, bz_i slv, bz_i (slv && decide (bz_n t ≤ 8))) (fun a => nI (g a), fun a => nI (tr a), S3) ++ [(qo, .inl (cL, 1, .inr (.inl O)))])) H := hP
    have hD : va_D (fun q : Nat => s.heap.size ≤ q) (bz_wB ad cI cL (bz_tR t) (fun a => nI (f a), A1, A2, o1, c1) (fun j => nI (rw j), co) (bz_i slv) ++ (bz_wM am cI cL cZ (bz_tM t) (0, bz_i slv, bz_i (slv && decide (bz_n t ≤ 8))) (fun a => nI (g a), fun a => nI (tr a), S3) ++ [(qo, .inl (cL, 1, .inr (.inl O)))])) := hD
    refine lv_icmp_eq (tgt := 564) hx hb d_law_298 (by decide) (fun c_298 => ?_) (fun c_298 => ?_)
    · skip
      refine W.widen (k := 23 + (k + 1)) (n := 1349 + 6 * (k + 1)) (by omega) (by omega) ?_
      exact ih _ _ _ ⟨t, slv, f, A1, A2, o1, c1, rw, co, 0, g, tr, S3, O, ht, hR, hP, hD, hS⟩ (lv_sub hl [0, 1, 2, 3, 4] rfl)
    · skip
      exact absurd rfl c_298

set_option maxHeartbeats 4000000 in
set_option maxRecDepth 100000 in
theorem law_know {p : Program} {l : Launch} {e : Env} {s : State} {m : MethodId} {below : List Frame} {meth : Method} {c : Code} {dC : Nat → ClassId} {dI : Nat → Nat → Nat} {ad am : Nat → Nat} {cI cL cZ : ClassId} {qo b L : Nat} {xs : Nat → Int32} (hL : L ≤ 2048) (C0 : lw_At p s m meth c b L xs) (hK : va_K (dC, dI) vwCl [(cI, .int), (cL, .long), (cZ, .boolean)] s) (hN : bz_N s) (k : Nat) (hk : 4 * k + 4 ≤ L) (ih : ∀ (H : Heap) (locs : List Loc) (ls : Array Slot), bz_I (dC, dI) ad am cI cL cZ qo s H locs → lv_has ls 7 [(0, .ref b), (1, .ref (ad 0)), (2, .ref (am 0)), (3, .ref qo), (4, .int (nI (4 * k)))] → W p l e room_1 s m #[Value.ref b] below meth c H locs (23 + (k + 1)) (1349 + 6 * (k + 1)) (lw_Z below #[Value.ref b] s) (F0 m 564 ls [])) :
    ∀ (H : Heap) (locs : List Loc) (ls : Array Slot), bz_I (dC, dI) ad am cI cL cZ qo s H locs → lv_has ls 7 [(0, .ref b), (1, .ref (ad 0)), (2, .ref (am 0)), (3, .ref qo), (4, .int (nI (4 * k)))] → W p l e room_1 s m #[Value.ref b] below meth c H locs (23 + k) (1349 + 6 * k) (lw_Z below #[Value.ref b] s) (F0 m 303 ls []) := by
  obtain ⟨hx, hb, hr, hml, hown, hts, hX, hbl, hlocks, hgv⟩ := id C0
  have htb : ∀ w ∈ bz_tb, w.before #[Value.ref b] s = true := fun w h => hts w (List.mem_filter.mp h).1
  have hA : ∀ q : Nat, s.heap.size ≤ q → (fun q : Nat => s.heap.size ≤ q) q := fun _ h => h
  have hbA : ¬ (fun q : Nat => s.heap.size ≤ q) b := Nat.not_le.mpr hbl
  have hK2 := hK.sub (tys' := [(cI, .int), (cL, .long)]) [0, 1] rfl
  intro H locs ls hI hl
  obtain ⟨t, slv, f, A1, A2, o1, c1, rw, co, th, g, tr, S3, O, ht, hR, hP, hD, hS⟩ := hI
  have hn30 := ht.1
  cases hz : bz_ia (bz_n t) (xs (4 * k + 2))
  · skip
    refine lv_aload_n hx hb d_law_303 rfl (lv_at hl 1 rfl) ?_
    refine lv_aload_n hx hb d_law_304 rfl (lv_at hl 0 rfl) ?_
    refine lv_iload hx hb d_law_305 (lv_at hl 4 rfl) ?_
    refine lv_iconst (v := 1) hx hb d_law_307 (by decide) ?_
    refine lv_iadd hx hb d_law_308 ?_
    refine bz_ri (y := nI (4 * k + 1)) (nI_1 _) ?_
    refine bz_sld (j := (4 * k + 1)) hx hb hX hbl hbA hS (by omega) (by omega) d_law_309 ?_
    refine lv_aload_n hx hb d_law_310 rfl (lv_at hl 0 rfl) ?_
    refine lv_iload hx hb d_law_311 (lv_at hl 4 rfl) ?_
    refine lv_iconst (v := 2) hx hb d_law_313 (by decide) ?_
    refine lv_iadd hx hb d_law_314 ?_
    refine bz_ri (y := nI (4 * k + 2)) (nI_add _ 2) ?_
    refine bz_sld (j := (4 * k + 2)) hx hb hX hbl hbA hS (by omega) (by omega) d_law_315 ?_
    refine bz_si (va_runV (As := [.int (xs (4 * k + 1)), .int (xs (4 * k + 2))]) (rest := []) ⟨hx, hb, hml, hown, htb⟩ (c_B_know_u l dC dI ad cI cL t (fun a => nI (f a), A1, A2, o1, c1) (fun j => nI (rw j), co) (bz_i slv) ht _ _ hz) (cwV 2 htb (bz_gV wd_166 wd_163 wd_164 wd_165 wd_19) rfl rfl rfl (by decide +kernel) ⟨Nat.le_of_ble_eq_true rfl, Nat.le_of_ble_eq_true rfl⟩) (bz_rv hN hK2 (hP.sub (ws' := bz_wB ad cI cL (bz_tR t) (fun a => nI (f a), A1, A2, o1, c1) (fun j => nI (rw j), co) (bz_i slv)) [0, 1, 2, 3, 4, 5, 6, 7, 8, 9, 10, 11, 12] rfl) (q0 := 0) rfl rfl) rfl rfl hl.1 rfl (lv_room (Nat.le_of_ble_eq_true rfl)) d_law_316 ⟨show 23 + k + 0 ≤ 601024 by omega, show 1349 + 6 * k + 0 ≤ 7293034 by omega⟩) ?_
    refine lv_aload_n hx hb d_law_319 rfl (lv_at hl 2 rfl) ?_
    refine lv_aload_n hx hb d_law_320 rfl (lv_at hl 0 rfl) ?_
    refine lv_iload hx hb d_law_321 (lv_at hl 4 rfl) ?_
    refine lv_iconst (v := 1) hx hb d_law_323 (by decide) ?_
    refine lv_iadd hx hb d_law_324 ?_
    refine bz_ri (y := nI (4 * k + 1)) (nI_1 _) ?_
    refine bz_sld (j := (4 * k + 1)) hx hb hX hbl hbA hS (by omega) (by omega) d_law_325 ?_
    refine lv_aload_n hx hb d_law_326 rfl (lv_at hl 0 rfl) ?_
    refine lv_iload hx hb d_law_327 (lv_at hl 4 rfl) ?_
    refine lv_iconst (v := 2) hx hb d_law_329 (by decide) ?_
    refine lv_iadd hx hb d_law_330 ?_
    refine bz_ri (y := nI (4 * k + 2)) (nI_add _ 2) ?_
    refine bz_sld (j := (4 * k + 2)) hx hb hX hbl hbA hS (by omega) (by omega) d_law_331 ?_
    have hPc := hP.sub (ws' := bz_wM am cI cL cZ (bz_tM t) (th, bz_i slv, bz_i (slv && decide (bz_n t ≤ 8))) (fun a => nI (g a), fun a => nI (tr a), S3)) [13, 14, 15, 16, 17, 18, 19, 20, 21] rfl
    have hDc := hD.sub (ws' := bz_wM am cI cL cZ (bz_tM t) (th, bz_i slv, bz_i (slv && decide (bz_n t ≤ 8))) (fun a => nI (g a), fun a => nI (tr a), S3)) [13, 14, 15, 16, 17, 18, 19, 20, 21] (by decide) rfl
    have hFc := va_free (wc := bz_wM am cI cL cZ (bz_tM t) (th, bz_i slv, bz_i (slv && decide (bz_n t ≤ 8))) (fun a => nI (g a), fun a => nI (tr a), S3)) hD hS hA [13, 14, 15, 16, 17, 18, 19, 20, 21] rfl
    refine va_calli (va_runV (As := [.int (xs (4 * k + 1)), .int (xs (4 * k + 2))]) (rest := [.int (-11)]) ⟨hx, hb, hml, hown, htb⟩ (c_M_know_u l dC dI _ am cI cL cZ t th (bz_i slv) (bz_i (slv && decide (bz_n t ≤ 8))) (fun a => nI (g a)) (fun a => nI (tr a)) S3 ht _ _ hz) (cwV 2 htb (bz_gV wd_482 wd_479 wd_480 wd_481 wd_23) rfl rfl rfl (by decide +kernel) ⟨Nat.le_of_ble_eq_true rfl, Nat.le_of_ble_eq_true rfl⟩) (bz_wv hN hK hPc hDc (q0 := 0) rfl rfl) rfl rfl hl.1 rfl (lv_room (Nat.le_of_ble_eq_true rfl)) d_law_332 ⟨show 23 + k + 0 ≤ 601024 by omega, show 1349 + 6 * k + 0 ≤ 7293034 by omega⟩) hS (fun q _ h => hFc q h) hFc (fun r9 w t9 H locs ht9 hvm hw9 hB9 hz9 hk9 hS => ?_)
    obtain ⟨hP1, hK1, hD1⟩ := hB9
    rw [ht9] at hP1
    obtain ⟨hP, hD⟩ := bz_jM hP hD hk9 hFc hP1 hD1
    obtain rfl : r9 = (-11) := hw9
    have hP : va_P (dC, dI) vwCl (bz_wB ad cI cL (bz_tR t) (fun a => nI (f a), A1, A2, o1, c1) (fun j => nI (rw j), co) (bz_i slv) ++ (bz_wM am cI cL cZ (bz_tM t) (0, bz_i slv, bz_i (slv && decide (bz_n t ≤ 8))) (fun a => nI (g a), fun a => nI (tr a), S3) ++ [(qo, .inl (cL, 1, .inr (.inl O)))])) H := hP
    have hD : va_D (fun q : Nat => s.heap.size ≤ q) (bz_wB ad cI cL (bz_tR t) (fun a => nI (f a), A1, A2, o1, c1) (fun j => nI (rw j), co) (bz_i slv) ++ (bz_wM am cI cL cZ (bz_tM t) (0, bz_i slv, bz_i (slv && decide (bz_n t ≤ 8))) (fun a => nI (g a), fun a => nI (tr a), S3) ++ [(qo, .inl (cL, 1, .inr (.inl O)))])) := hD
    refine lv_icmp_eq (tgt := 564) hx hb d_law_335 (by decide) (fun c_335 => ?_) (fun c_335 => ?_)
    · skip
      refine W.widen (k := 23 + (k + 1)) (n := 1349 + 6 * (k + 1)) (by omega) (by omega) ?_
      exact ih _ _ _ ⟨t, slv, f, A1, A2, o1, c1, rw, co, 0, g, tr, S3, O, ht, hR, hP, hD, hS⟩ (lv_sub hl [0, 1, 2, 3, 4] rfl)
    · skip
      exact absurd rfl c_335
  · cases hq : bz_ir (xs (4 * k + 1))
    · skip
      refine lv_aload_n hx hb d_law_303 rfl (lv_at hl 1 rfl) ?_
      refine lv_aload_n hx hb d_law_304 rfl (lv_at hl 0 rfl) ?_
      refine lv_iload hx hb d_law_305 (lv_at hl 4 rfl) ?_
      refine lv_iconst (v := 1) hx hb d_law_307 (by decide) ?_
      refine lv_iadd hx hb d_law_308 ?_
      refine bz_ri (y := nI (4 * k + 1)) (nI_1 _) ?_
      refine bz_sld (j := (4 * k + 1)) hx hb hX hbl hbA hS (by omega) (by omega) d_law_309 ?_
      refine lv_aload_n hx hb d_law_310 rfl (lv_at hl 0 rfl) ?_
      refine lv_iload hx hb d_law_311 (lv_at hl 4 rfl) ?_
      refine lv_iconst (v := 2) hx hb d_law_313 (by decide) ?_
      refine lv_iadd hx hb d_law_314 ?_
      refine bz_ri (y := nI (4 * k + 2)) (nI_add _ 2) ?_
      refine bz_sld (j := (4 * k + 2)) hx hb hX hbl hbA hS (by omega) (by omega) d_law_315 ?_
      refine bz_si (va_runV (As := [.int (xs (4 * k + 1)), .int (xs (4 * k + 2))]) (rest := []) ⟨hx, hb, hml, hown, htb⟩ (c_B_know_o l dC dI ad cI cL t (fun a => nI (f a), A1, A2, o1, c1) (fun j => nI (rw j), co) (bz_i slv) ht _ _ hz hq) (cwV 2 htb (bz_gV wd_166 wd_163 wd_164 wd_165 wd_19) rfl rfl rfl (by decide +kernel) ⟨Nat.le_of_ble_eq_true rfl, Nat.le_of_ble_eq_true rfl⟩) (bz_rv hN hK2 (hP.sub (ws' := bz_wB ad cI cL (bz_tR t) (fun a => nI (f a), A1, A2, o1, c1) (fun j => nI (rw j), co) (bz_i slv)) [0, 1, 2, 3, 4, 5, 6, 7, 8, 9, 10, 11, 12] rfl) (q0 := 0) rfl rfl) rfl rfl hl.1 rfl (lv_room (Nat.le_of_ble_eq_true rfl)) d_law_316 ⟨show 23 + k + 0 ≤ 601024 by omega, show 1349 + 6 * k + 0 ≤ 7293034 by omega⟩) ?_
      refine lv_aload_n hx hb d_law_319 rfl (lv_at hl 2 rfl) ?_
      refine lv_aload_n hx hb d_law_320 rfl (lv_at hl 0 rfl) ?_
      refine lv_iload hx hb d_law_321 (lv_at hl 4 rfl) ?_
      refine lv_iconst (v := 1) hx hb d_law_323 (by decide) ?_
      refine lv_iadd hx hb d_law_324 ?_
      refine bz_ri (y := nI (4 * k + 1)) (nI_1 _) ?_
      refine bz_sld (j := (4 * k + 1)) hx hb hX hbl hbA hS (by omega) (by omega) d_law_325 ?_
      refine lv_aload_n hx hb d_law_326 rfl (lv_at hl 0 rfl) ?_
      refine lv_iload hx hb d_law_327 (lv_at hl 4 rfl) ?_
      refine lv_iconst (v := 2) hx hb d_law_329 (by decide) ?_
      refine lv_iadd hx hb d_law_330 ?_
      refine bz_ri (y := nI (4 * k + 2)) (nI_add _ 2) ?_
      refine bz_sld (j := (4 * k + 2)) hx hb hX hbl hbA hS (by omega) (by omega) d_law_331 ?_
      have hPc := hP.sub (ws' := bz_wM am cI cL cZ (bz_tM t) (th, bz_i slv, bz_i (slv && decide (bz_n t ≤ 8))) (fun a => nI (g a), fun a => nI (tr a), S3)) [13, 14, 15, 16, 17, 18, 19, 20, 21] rfl
      have hDc := hD.sub (ws' := bz_wM am cI cL cZ (bz_tM t) (th, bz_i slv, bz_i (slv && decide (bz_n t ≤ 8))) (fun a => nI (g a), fun a => nI (tr a), S3)) [13, 14, 15, 16, 17, 18, 19, 20, 21] (by decide) rfl
      have hFc := va_free (wc := bz_wM am cI cL cZ (bz_tM t) (th, bz_i slv, bz_i (slv && decide (bz_n t ≤ 8))) (fun a => nI (g a), fun a => nI (tr a), S3)) hD hS hA [13, 14, 15, 16, 17, 18, 19, 20, 21] rfl
      refine va_calli (va_runV (As := [.int (xs (4 * k + 1)), .int (xs (4 * k + 2))]) (rest := [.int (-12)]) ⟨hx, hb, hml, hown, htb⟩ (c_M_know_o l dC dI _ am cI cL cZ t th (bz_i slv) (bz_i (slv && decide (bz_n t ≤ 8))) (fun a => nI (g a)) (fun a => nI (tr a)) S3 ht _ _ hz hq) (cwV 2 htb (bz_gV wd_482 wd_479 wd_480 wd_481 wd_23) rfl rfl rfl (by decide +kernel) ⟨Nat.le_of_ble_eq_true rfl, Nat.le_of_ble_eq_true rfl⟩) (bz_wv hN hK hPc hDc (q0 := 0) rfl rfl) rfl rfl hl.1 rfl (lv_room (Nat.le_of_ble_eq_true rfl)) d_law_332 ⟨show 23 + k + 0 ≤ 601024 by omega, show 1349 + 6 * k + 0 ≤ 7293034 by omega⟩) hS (fun q _ h => hFc q h) hFc (fun r9 w t9 H locs ht9 hvm hw9 hB9 hz9 hk9 hS => ?_)
      obtain ⟨hP1, hK1, hD1⟩ := hB9
      rw [ht9] at hP1
      obtain ⟨hP, hD⟩ := bz_jM hP hD hk9 hFc hP1 hD1
      obtain rfl : r9 = (-12) := hw9
      have hP : va_P (dC, dI) vwCl (bz_wB ad cI cL (bz_tR t) (fun a => nI (f a), A1, A2, o1, c1) (fun j => nI (rw j), co) (bz_i slv) ++ (bz_wM am cI cL cZ (bz_tM t) (0, bz_i slv, bz_i (slv && decide (bz_n t ≤ 8))) (fun a => nI (g a), fun a => nI (tr a), S3) ++ [(qo, .inl (cL, 1, .inr (.inl O)))])) H := hP
      have hD : va_D (fun q : Nat => s.heap.size ≤ q) (bz_wB ad cI cL (bz_tR t) (fun a => nI (f a), A1, A2, o1, c1) (fun j => nI (rw j), co) (bz_i slv) ++ (bz_wM am cI cL cZ (bz_tM t) (0, bz_i slv, bz_i (slv && decide (bz_n t ≤ 8))) (fun a => nI (g a), fun a => nI (tr a), S3) ++ [(qo, .inl (cL, 1, .inr (.inl O)))])) := hD
      refine lv_icmp_eq (tgt := 564) hx hb d_law_335 (by decide) (fun c_335 => ?_) (fun c_335 => ?_)
      · skip
        refine W.widen (k := 23 + (k + 1)) (n := 1349 + 6 * (k + 1)) (by omega) (by omega) ?_
        exact ih _ _ _ ⟨t, slv, f, A1, A2, o1, c1, rw, co, 0, g, tr, S3, O, ht, hR, hP, hD, hS⟩ (lv_sub hl [0, 1, 2, 3, 4] rfl)
      · skip
        exact absurd rfl c_335
    · obtain ⟨r, hr4, hq1⟩ := bz_ir_of hq
      obtain ⟨a, ha, hq2⟩ := bz_ia_of hn30 hz
      cases hk9 : bz_k t r a
      · have hkk := hk9
        refine lv_aload_n hx hb d_law_303 rfl (lv_at hl 1 rfl) ?_
        refine lv_aload_n hx hb d_law_304 rfl (lv_at hl 0 rfl) ?_
        refine lv_iload hx hb d_law_305 (lv_at hl 4 rfl) ?_
        refine lv_iconst (v := 1) hx hb d_law_307 (by decide) ?_
        refine lv_iadd hx hb d_law_308 ?_
        refine bz_ri (y := nI (4 * k + 1)) (nI_1 _) ?_
        refine bz_sld (j := (4 * k + 1)) hx hb hX hbl hbA hS (by omega) (by omega) d_law_309 ?_
        refine bz_ri (y := nI r) (hq1) ?_
        refine lv_aload_n hx hb d_law_310 rfl (lv_at hl 0 rfl) ?_
        refine lv_iload hx hb d_law_311 (lv_at hl 4 rfl) ?_
        refine lv_iconst (v := 2) hx hb d_law_313 (by decide) ?_
        refine lv_iadd hx hb d_law_314 ?_
        refine bz_ri (y := nI (4 * k + 2)) (nI_add _ 2) ?_
        refine bz_sld (j := (4 * k + 2)) hx hb hX hbl hbA hS (by omega) (by omega) d_law_315 ?_
        refine bz_ri (y := nI (a + 1)) (hq2) ?_
        have hPc := hP.sub (ws' := bz_wB ad cI cL (bz_tR t) (fun a => nI (f a), A1, A2, o1, c1) (fun j => nI (rw j), co) (bz_i slv)) [0, 1, 2, 3, 4, 5, 6, 7, 8, 9, 10, 11, 12] rfl
        have hDc := hD.sub (ws' := bz_wB ad cI cL (bz_tR t) (fun a => nI (f a), A1, A2, o1, c1) (fun j => nI (rw j), co) (bz_i slv)) [0, 1, 2, 3, 4, 5, 6, 7, 8, 9, 10, 11, 12] (by decide) rfl
        have hFc := va_free (wc := bz_wB ad cI cL (bz_tR t) (fun a => nI (f a), A1, A2, o1, c1) (fun j => nI (rw j), co) (bz_i slv)) hD hS hA [0, 1, 2, 3, 4, 5, 6, 7, 8, 9, 10, 11, 12] rfl
        refine va_calli (va_runV (As := [.int (nI r), .int (nI (a + 1))]) (rest := []) ⟨hx, hb, hml, hown, htb⟩ (c_B_know l dC dI _ ad cI cL t (fun a => nI (f a), A1, A2, o1, c1) (fun j => nI (rw j), co) (bz_i slv) ht r a hr4 ha hkk) (cwV 2 htb (bz_gV wd_166 wd_163 wd_164 wd_165 wd_19) rfl rfl rfl (by decide +kernel) ⟨Nat.le_of_ble_eq_true rfl, Nat.le_of_ble_eq_true rfl⟩) (bz_wv hN hK2 hPc hDc (q0 := 0) rfl rfl) rfl rfl hl.1 rfl (lv_room (Nat.le_of_ble_eq_true rfl)) d_law_316 ⟨show 23 + k + 0 ≤ 601024 by omega, show 1349 + 6 * k + 0 ≤ 7293034 by omega⟩) hS (fun q _ h => hFc q h) hFc (fun r9 u t9 H locs ht9 hvm hw9 hB9 hz9 hk9 hS => ?_)
        obtain ⟨hP1, hK1, hD1⟩ := hB9
        rw [ht9] at hP1
        obtain ⟨hP, hD⟩ := bz_jB hP hD hk9 hFc hP1 hD1
        obtain rfl : r9 = 1 := hw9
        have hP : va_P (dC, dI) vwCl (bz_wB ad cI cL (bz_tR (bz_sK t r a)) (fun a => nI (f a), A1, A2, o1, c1) (fun j => nI (rw j), co) (0) ++ (bz_wM am cI cL cZ (bz_tM t) (th, bz_i slv, bz_i (slv && decide (bz_n t ≤ 8))) (fun a => nI (g a), fun a => nI (tr a), S3) ++ [(qo, .inl (cL, 1, .inr (.inl O)))])) H := hP
        have hD : va_D (fun q : Nat => s.heap.size ≤ q) (bz_wB ad cI cL (bz_tR (bz_sK t r a)) (fun a => nI (f a), A1, A2, o1, c1) (fun j => nI (rw j), co) (0) ++ (bz_wM am cI cL cZ (bz_tM t) (th, bz_i slv, bz_i (slv && decide (bz_n t ≤ 8))) (fun a => nI (g a), fun a => nI (tr a), S3) ++ [(qo, .inl (cL, 1, .inr (.inl O)))])) := hD
        refine lv_aload_n hx hb d_law_319 rfl (lv_at hl 2 rfl) ?_
        refine lv_aload_n hx hb d_law_320 rfl (lv_at hl 0 rfl) ?_
        refine lv_iload hx hb d_law_321 (lv_at hl 4 rfl) ?_
        refine lv_iconst (v := 1) hx hb d_law_323 (by decide) ?_
        refine lv_iadd hx hb d_law_324 ?_
        refine bz_ri (y := nI (4 * k + 1)) (nI_1 _) ?_
        refine bz_sld (j := (4 * k + 1)) hx hb hX hbl hbA hS (by omega) (by omega) d_law_325 ?_
        refine bz_ri (y := nI r) (hq1) ?_
        refine lv_aload_n hx hb d_law_326 rfl (lv_at hl 0 rfl) ?_
        refine lv_iload hx hb d_law_327 (lv_at hl 4 rfl) ?_
        refine lv_iconst (v := 2) hx hb d_law_329 (by decide) ?_
        refine lv_iadd hx hb d_law_330 ?_
        refine bz_ri (y := nI (4 * k + 2)) (nI_add _ 2) ?_
        refine bz_sld (j := (4 * k + 2)) hx hb hX hbl hbA hS (by omega) (by omega) d_law_331 ?_
        refine bz_ri (y := nI (a + 1)) (hq2) ?_
        have hPc := hP.sub (ws' := bz_wM am cI cL cZ (bz_tM t) (th, bz_i slv, bz_i (slv && decide (bz_n t ≤ 8))) (fun a => nI (g a), fun a => nI (tr a), S3)) [13, 14, 15, 16, 17, 18, 19, 20, 21] rfl
        have hDc := hD.sub (ws' := bz_wM am cI cL cZ (bz_tM t) (th, bz_i slv, bz_i (slv && decide (bz_n t ≤ 8))) (fun a => nI (g a), fun a => nI (tr a), S3)) [13, 14, 15, 16, 17, 18, 19, 20, 21] (by decide) rfl
        have hFc := va_free (wc := bz_wM am cI cL cZ (bz_tM t) (th, bz_i slv, bz_i (slv && decide (bz_n t ≤ 8))) (fun a => nI (g a), fun a => nI (tr a), S3)) hD hS hA [13, 14, 15, 16, 17, 18, 19, 20, 21] rfl
        refine va_calli (va_runV (As := [.int (nI r), .int (nI (a + 1))]) (rest := [.int 1]) ⟨hx, hb, hml, hown, htb⟩ (c_M_know l dC dI _ am cI cL cZ t th (bz_i slv) (bz_i (slv && decide (bz_n t ≤ 8))) (fun a => nI (g a)) (fun a => nI (tr a)) S3 ht r a hr4 ha hkk) (cwV 2 htb (bz_gV wd_482 wd_479 wd_480 wd_481 wd_23) rfl rfl rfl (by decide +kernel) ⟨Nat.le_of_ble_eq_true rfl, Nat.le_of_ble_eq_true rfl⟩) (bz_wv hN hK hPc hDc (q0 := 0) rfl rfl) rfl rfl hl.1 rfl (lv_room (Nat.le_of_ble_eq_true rfl)) d_law_332 ⟨show 23 + k + 0 ≤ 601024 by omega, show 1349 + 6 * k + 0 ≤ 7293034 by omega⟩) hS (fun q _ h => hFc q h) hFc (fun r9 w t9 H locs ht9 hvm hw9 hB9 hz9 hk9 hS => ?_)
        obtain ⟨hP1, hK1, hD1⟩ := hB9
        rw [ht9] at hP1
        obtain ⟨hP, hD⟩ := bz_jM hP hD hk9 hFc hP1 hD1
        obtain rfl : r9 = 1 := hw9
        have hP : va_P (dC, dI) vwCl (bz_wB ad cI cL (bz_tR (bz_sK t r a)) (fun a => nI (f a), A1, A2, o1, c1) (fun j => nI (rw j), co) (0) ++ (bz_wM am cI cL cZ (bz_tM (bz_sK t r a)) (0, 0, 0) (fun a => nI (g a), fun a => nI (tr a), S3) ++ [(qo, .inl (cL, 1, .inr (.inl O)))])) H := hP
        have hD : va_D (fun q : Nat => s.heap.size ≤ q) (bz_wB ad cI cL (bz_tR (bz_sK t r a)) (fun a => nI (f a), A1, A2, o1, c1) (fun j => nI (rw j), co) (0) ++ (bz_wM am cI cL cZ (bz_tM (bz_sK t r a)) (0, 0, 0) (fun a => nI (g a), fun a => nI (tr a), S3) ++ [(qo, .inl (cL, 1, .inr (.inl O)))])) := hD
        refine lv_icmp_eq (tgt := 564) hx hb d_law_335 (by decide) (fun c_335 => ?_) (fun c_335 => ?_)
        · skip
          refine W.widen (k := 23 + (k + 1)) (n := 1349 + 6 * (k + 1)) (by omega) (by omega) ?_
          exact ih _ _ _ ⟨bz_sK t r a, false, f, A1, A2, o1, c1, rw, co, 0, g, tr, S3, O, bz_sK_ok ht hr4 ha, fun h => absurd h (by decide), hP, hD, hS⟩ (lv_sub hl [0, 1, 2, 3, 4] rfl)
        · skip
          exact absurd rfl c_335
      · have hkk := hk9
        refine lv_aload_n hx hb d_law_303 rfl (lv_at hl 1 rfl) ?_
        refine lv_aload_n hx hb d_law_304 rfl (lv_at hl 0 rfl) ?_
        refine lv_iload hx hb d_law_305 (lv_at hl 4 rfl) ?_
        refine lv_iconst (v := 1) hx hb d_law_307 (by decide) ?_
        refine lv_iadd hx hb d_law_308 ?_
        refine bz_ri (y := nI (4 * k + 1)) (nI_1 _) ?_
        refine bz_sld (j := (4 * k + 1)) hx hb hX hbl hbA hS (by omega) (by omega) d_law_309 ?_
        refine bz_ri (y := nI r) (hq1) ?_
        refine lv_aload_n hx hb d_law_310 rfl (lv_at hl 0 rfl) ?_
        refine lv_iload hx hb d_law_311 (lv_at hl 4 rfl) ?_
        refine lv_iconst (v := 2) hx hb d_law_313 (by decide) ?_
        refine lv_iadd hx hb d_law_314 ?_
        refine bz_ri (y := nI (4 * k + 2)) (nI_add _ 2) ?_
        refine bz_sld (j := (4 * k + 2)) hx hb hX hbl hbA hS (by omega) (by omega) d_law_315 ?_
        refine bz_ri (y := nI (a + 1)) (hq2) ?_
        refine bz_si (va_runV (As := [.int (nI r), .int (nI (a + 1))]) (rest := []) ⟨hx, hb, hml, hown, htb⟩ (c_B_know_s l dC dI ad cI cL t (fun a => nI (f a), A1, A2, o1, c1) (fun j => nI (rw j), co) (bz_i slv) ht r a hr4 ha hkk) (cwV 2 htb (bz_gV wd_166 wd_163 wd_164 wd_165 wd_19) rfl rfl rfl (by decide +kernel) ⟨Nat.le_of_ble_eq_true rfl, Nat.le_of_ble_eq_true rfl⟩) (bz_rv hN hK2 (hP.sub (ws' := bz_wB ad cI cL (bz_tR t) (fun a => nI (f a), A1, A2, o1, c1) (fun j => nI (rw j), co) (bz_i slv)) [0, 1, 2, 3, 4, 5, 6, 7, 8, 9, 10, 11, 12] rfl) (q0 := 0) rfl rfl) rfl rfl hl.1 rfl (lv_room (Nat.le_of_ble_eq_true rfl)) d_law_316 ⟨show 23 + k + 0 ≤ 601024 by omega, show 1349 + 6 * k + 0 ≤ 7293034 by omega⟩) ?_
        refine lv_aload_n hx hb d_law_319 rfl (lv_at hl 2 rfl) ?_
        refine lv_aload_n hx hb d_law_320 rfl (lv_at hl 0 rfl) ?_
        refine lv_iload hx hb d_law_321 (lv_at hl 4 rfl) ?_
        refine lv_iconst (v := 1) hx hb d_law_323 (by decide) ?_
        refine lv_iadd hx hb d_law_324 ?_
        refine bz_ri (y := nI (4 * k + 1)) (nI_1 _) ?_
        refine bz_sld (j := (4 * k + 1)) hx hb hX hbl hbA hS (by omega) (by omega) d_law_325 ?_
        refine bz_ri (y := nI r) (hq1) ?_
        refine lv_aload_n hx hb d_law_326 rfl (lv_at hl 0 rfl) ?_
        refine lv_iload hx hb d_law_327 (lv_at hl 4 rfl) ?_
        refine lv_iconst (v := 2) hx hb d_law_329 (by decide) ?_
        refine lv_iadd hx hb d_law_330 ?_
        refine bz_ri (y := nI (4 * k + 2)) (nI_add _ 2) ?_
        refine bz_sld (j := (4 * k + 2)) hx hb hX hbl hbA hS (by omega) (by omega) d_law_331 ?_
        refine bz_ri (y := nI (a + 1)) (hq2) ?_
        have hPc := hP.sub (ws' := bz_wM am cI cL cZ (bz_tM t) (th, bz_i slv, bz_i (slv && decide (bz_n t ≤ 8))) (fun a => nI (g a), fun a => nI (tr a), S3)) [13, 14, 15, 16, 17, 18, 19, 20, 21] rfl
        have hDc := hD.sub (ws' := bz_wM am cI cL cZ (bz_tM t) (th, bz_i slv, bz_i (slv && decide (bz_n t ≤ 8))) (fun a => nI (g a), fun a => nI (tr a), S3)) [13, 14, 15, 16, 17, 18, 19, 20, 21] (by decide) rfl
        have hFc := va_free (wc := bz_wM am cI cL cZ (bz_tM t) (th, bz_i slv, bz_i (slv && decide (bz_n t ≤ 8))) (fun a => nI (g a), fun a => nI (tr a), S3)) hD hS hA [13, 14, 15, 16, 17, 18, 19, 20, 21] rfl
        refine va_calli (va_runV (As := [.int (nI r), .int (nI (a + 1))]) (rest := [.int 0]) ⟨hx, hb, hml, hown, htb⟩ (c_M_know_s l dC dI _ am cI cL cZ t th (bz_i slv) (bz_i (slv && decide (bz_n t ≤ 8))) (fun a => nI (g a)) (fun a => nI (tr a)) S3 ht r a hr4 ha hkk) (cwV 2 htb (bz_gV wd_482 wd_479 wd_480 wd_481 wd_23) rfl rfl rfl (by decide +kernel) ⟨Nat.le_of_ble_eq_true rfl, Nat.le_of_ble_eq_true rfl⟩) (bz_wv hN hK hPc hDc (q0 := 0) rfl rfl) rfl rfl hl.1 rfl (lv_room (Nat.le_of_ble_eq_true rfl)) d_law_332 ⟨show 23 + k + 0 ≤ 601024 by omega, show 1349 + 6 * k + 0 ≤ 7293034 by omega⟩) hS (fun q _ h => hFc q h) hFc (fun r9 w t9 H locs ht9 hvm hw9 hB9 hz9 hk9 hS => ?_)
        obtain ⟨hP1, hK1, hD1⟩ := hB9
        rw [ht9] at hP1
        obtain ⟨hP, hD⟩ := bz_jM hP hD hk9 hFc hP1 hD1
        obtain rfl : r9 = 0 := hw9
        have hP : va_P (dC, dI) vwCl (bz_wB ad cI cL (bz_tR t) (fun a => nI (f a), A1, A2, o1, c1) (fun j => nI (rw j), co) (bz_i slv) ++ (bz_wM am cI cL cZ (bz_tM t) (0, bz_i slv, bz_i (slv && decide (bz_n t ≤ 8))) (fun a => nI (g a), fun a => nI (tr a), S3) ++ [(qo, .inl (cL, 1, .inr (.inl O)))])) H := hP
        have hD : va_D (fun q : Nat => s.heap.size ≤ q) (bz_wB ad cI cL (bz_tR t) (fun a => nI (f a), A1, A2, o1, c1) (fun j => nI (rw j), co) (bz_i slv) ++ (bz_wM am cI cL cZ (bz_tM t) (0, bz_i slv, bz_i (slv && decide (bz_n t ≤ 8))) (fun a => nI (g a), fun a => nI (tr a), S3) ++ [(qo, .inl (cL, 1, .inr (.inl O)))])) := hD
        refine lv_icmp_eq (tgt := 564) hx hb d_law_335 (by decide) (fun c_335 => ?_) (fun c_335 => ?_)
        · skip
          refine W.widen (k := 23 + (k + 1)) (n := 1349 + 6 * (k + 1)) (by omega) (by omega) ?_
          exact ih _ _ _ ⟨t, slv, f, A1, A2, o1, c1, rw, co, 0, g, tr, S3, O, ht, hR, hP, hD, hS⟩ (lv_sub hl [0, 1, 2, 3, 4] rfl)
        · skip
          exact absurd rfl c_335

set_option maxHeartbeats 4000000 in
set_option maxRecDepth 100000 in
theorem law_solve {p : Program} {l : Launch} {e : Env} {s : State} {m : MethodId} {below : List Frame} {meth : Method} {c : Code} {dC : Nat → ClassId} {dI : Nat → Nat → Nat} {ad am : Nat → Nat} {cI cL cZ : ClassId} {qo b L : Nat} {xs : Nat → Int32} (hL : L ≤ 2048) (C0 : lw_At p s m meth c b L xs) (hK : va_K (dC, dI) vwCl [(cI, .int), (cL, .long), (cZ, .boolean)] s) (hN : bz_N s) (k : Nat) (hk : 4 * k + 4 ≤ L) (ih : ∀ (H : Heap) (locs : List Loc) (ls : Array Slot), bz_I (dC, dI) ad am cI cL cZ qo s H locs → lv_has ls 7 [(0, .ref b), (1, .ref (ad 0)), (2, .ref (am 0)), (3, .ref qo), (4, .int (nI (4 * k)))] → W p l e room_1 s m #[Value.ref b] below meth c H locs (23 + (k + 1)) (1349 + 6 * (k + 1)) (lw_Z below #[Value.ref b] s) (F0 m 564 ls [])) :
    ∀ (H : Heap) (locs : List Loc) (ls : Array Slot), bz_I (dC, dI) ad am cI cL cZ qo s H locs → lv_has ls 7 [(0, .ref b), (1, .ref (ad 0)), (2, .ref (am 0)), (3, .ref qo), (4, .int (nI (4 * k)))] → W p l e room_1 s m #[Value.ref b] below meth c H locs (23 + k) (1349 + 6 * k) (lw_Z below #[Value.ref b] s) (F0 m 340 ls []) := by
  obtain ⟨hx, hb, hr, hml, hown, hts, hX, hbl, hlocks, hgv⟩ := id C0
  have htb : ∀ w ∈ bz_tb, w.before #[Value.ref b] s = true := fun w h => hts w (List.mem_filter.mp h).1
  have hA : ∀ q : Nat, s.heap.size ≤ q → (fun q : Nat => s.heap.size ≤ q) q := fun _ h => h
  have hbA : ¬ (fun q : Nat => s.heap.size ≤ q) b := Nat.not_le.mpr hbl
  have hK2 := hK.sub (tys' := [(cI, .int), (cL, .long)]) [0, 1] rfl
  intro H locs ls hI hl
  obtain ⟨t, slv, f, A1, A2, o1, c1, rw, co, th, g, tr, S3, O, ht, hR, hP, hD, hS⟩ := hI
  have hn30 := ht.1
  obtain ⟨z, hz0⟩ : ∃ z : Int64, z = ((xs (4 * k + 1)).toInt64 <<< (Int32.toInt64 32 &&& 63)) ||| ((xs (4 * k + 2)).toInt64 &&& 4294967295) := ⟨_, rfl⟩
  by_cases hz : 0 ≤ z ∧ z ≤ 100000
  · obtain ⟨K, hx63, rfl⟩ := pk_lOf (Int64.not_lt.mpr hz.1)
    have hK0 : K ≤ 100000 := (pk_lLE (b := 100000) hx63 (by omega)).mp hz.2
    refine lv_aload_n hx hb d_law_340 rfl (lv_at hl 1 rfl) ?_
    refine lv_aload_n hx hb d_law_341 rfl (lv_at hl 0 rfl) ?_
    refine lv_iload hx hb d_law_342 (lv_at hl 4 rfl) ?_
    refine lv_iconst (v := 1) hx hb d_law_344 (by decide) ?_
    refine lv_iadd hx hb d_law_345 ?_
    refine bz_ri (y := nI (4 * k + 1)) (nI_1 _) ?_
    refine bz_sld (j := (4 * k + 1)) hx hb hX hbl hbA hS (by omega) (by omega) d_law_346 ?_
    refine lv_i2l hx hb d_law_347 rfl ?_
    refine lv_bipush (v := 32) hx hb d_law_348 (by decide) ?_
    refine lv_lshl hx hb d_law_350 rfl ?_
    refine lv_aload_n hx hb d_law_351 rfl (lv_at hl 0 rfl) ?_
    refine lv_iload hx hb d_law_352 (lv_at hl 4 rfl) ?_
    refine lv_iconst (v := 2) hx hb d_law_354 (by decide) ?_
    refine lv_iadd hx hb d_law_355 ?_
    refine bz_ri (y := nI (4 * k + 2)) (nI_add _ 2) ?_
    refine bz_sld (j := (4 * k + 2)) hx hb hX hbl hbA hS (by omega) (by omega) d_law_356 ?_
    refine lv_i2l hx hb d_law_357 rfl ?_
    refine lv_ldc2 (v := 4294967295) hx hb hown (htb _ wd_567) d_law_358 ?_
    refine lv_land hx hb d_law_361 ?_
    refine lv_lor hx hb d_law_362 ?_
    refine bz_rl (y := lN K) (hz0.symm) ?_
    have hPc := hP.sub (ws' := bz_wB ad cI cL (bz_tR t) (fun a => nI (f a), A1, A2, o1, c1) (fun j => nI (rw j), co) (bz_i slv)) [0, 1, 2, 3, 4, 5, 6, 7, 8, 9, 10, 11, 12] rfl
    have hDc := hD.sub (ws' := bz_wB ad cI cL (bz_tR t) (fun a => nI (f a), A1, A2, o1, c1) (fun j => nI (rw j), co) (bz_i slv)) [0, 1, 2, 3, 4, 5, 6, 7, 8, 9, 10, 11, 12] (by decide) rfl
    have hFc := va_free (wc := bz_wB ad cI cL (bz_tR t) (fun a => nI (f a), A1, A2, o1, c1) (fun j => nI (rw j), co) (bz_i slv)) hD hS hA [0, 1, 2, 3, 4, 5, 6, 7, 8, 9, 10, 11, 12] rfl
    refine va_calll (va_runV (As := [.long (lN K)]) (rest := []) ⟨hx, hb, hml, hown, htb⟩ (c_B_solve l dC dI _ ad cI cL t f A1 A2 o1 c1 rw co (bz_i slv) ht K hK0) (cwV 1 htb (bz_gV wd_178 wd_175 wd_176 wd_177 wd_19) rfl rfl rfl (by decide +kernel) ⟨Nat.le_of_ble_eq_true rfl, Nat.le_of_ble_eq_true rfl⟩) (bz_wv hN hK2 hPc hDc (q0 := 0) rfl rfl) rfl rfl hl.1 rfl (lv_room (Nat.le_of_ble_eq_true rfl)) d_law_363 ⟨show 23 + k + 0 ≤ 601024 by omega, show 1349 + 6 * k + 0 ≤ 7293034 by omega⟩) hS (fun q _ h => hFc q h) hFc (fun r9 u t9 H locs ht9 hvm hw9 hB9 hz9 hk9 hS => ?_)
    obtain ⟨hP1, hK1, hD1⟩ := hB9
    rw [ht9] at hP1
    obtain ⟨hP, hD⟩ := bz_jB hP hD hk9 hFc hP1 hD1
    obtain ⟨hr9, hsou⟩ := hw9
    obtain rfl : r9 = lN (bz_gl t (bz_fu u.1)) := hr9
    have hP : va_P (dC, dI) vwCl (bz_wB ad cI cL (bz_tR t) (bz_sR t (bz_fu u.1)) (fun j => nI (u.2.1 j), u.2.2) (1) ++ (bz_wM am cI cL cZ (bz_tM t) (th, bz_i slv, bz_i (slv && decide (bz_n t ≤ 8))) (fun a => nI (g a), fun a => nI (tr a), S3) ++ [(qo, .inl (cL, 1, .inr (.inl O)))])) H := hP
    have hD : va_D (fun q : Nat => s.heap.size ≤ q) (bz_wB ad cI cL (bz_tR t) (bz_sR t (bz_fu u.1)) (fun j => nI (u.2.1 j), u.2.2) (1) ++ (bz_wM am cI cL cZ (bz_tM t) (th, bz_i slv, bz_i (slv && decide (bz_n t ≤ 8))) (fun a => nI (g a), fun a => nI (tr a), S3) ++ [(qo, .inl (cL, 1, .inr (.inl O)))])) := hD
    refine lv_aload_n hx hb d_law_366 rfl (lv_at hl 2 rfl) ?_
    refine lv_aload_n hx hb d_law_367 rfl (lv_at hl 0 rfl) ?_
    refine lv_iload hx hb d_law_368 (lv_at hl 4 rfl) ?_
    refine lv_iconst (v := 1) hx hb d_law_370 (by decide) ?_
    refine lv_iadd hx hb d_law_371 ?_
    refine bz_ri (y := nI (4 * k + 1)) (nI_1 _) ?_
    refine bz_sld (j := (4 * k + 1)) hx hb hX hbl hbA hS (by omega) (by omega) d_law_372 ?_
    refine lv_i2l hx hb d_law_373 rfl ?_
    refine lv_bipush (v := 32) hx hb d_law_374 (by decide) ?_
    refine lv_lshl hx hb d_law_376 rfl ?_
    refine lv_aload_n hx hb d_law_377 rfl (lv_at hl 0 rfl) ?_
    refine lv_iload hx hb d_law_378 (lv_at hl 4 rfl) ?_
    refine lv_iconst (v := 2) hx hb d_law_380 (by decide) ?_
    refine lv_iadd hx hb d_law_381 ?_
    refine bz_ri (y := nI (4 * k + 2)) (nI_add _ 2) ?_
    refine bz_sld (j := (4 * k + 2)) hx hb hX hbl hbA hS (by omega) (by omega) d_law_382 ?_
    refine lv_i2l hx hb d_law_383 rfl ?_
    refine lv_ldc2 (v := 4294967295) hx hb hown (htb _ wd_567) d_law_384 ?_
    refine lv_land hx hb d_law_387 ?_
    refine lv_lor hx hb d_law_388 ?_
    refine bz_rl (y := lN K) (hz0.symm) ?_
    have hPc := hP.sub (ws' := bz_wM am cI cL cZ (bz_tM t) (th, bz_i slv, bz_i (slv && decide (bz_n t ≤ 8))) (fun a => nI (g a), fun a => nI (tr a), S3)) [13, 14, 15, 16, 17, 18, 19, 20, 21] rfl
    have hDc := hD.sub (ws' := bz_wM am cI cL cZ (bz_tM t) (th, bz_i slv, bz_i (slv && decide (bz_n t ≤ 8))) (fun a => nI (g a), fun a => nI (tr a), S3)) [13, 14, 15, 16, 17, 18, 19, 20, 21] (by decide) rfl
    have hFc := va_free (wc := bz_wM am cI cL cZ (bz_tM t) (th, bz_i slv, bz_i (slv && decide (bz_n t ≤ 8))) (fun a => nI (g a), fun a => nI (tr a), S3)) hD hS hA [13, 14, 15, 16, 17, 18, 19, 20, 21] rfl
    refine va_calll (va_runV (As := [.long (lN K)]) (rest := [.long (lN (bz_gl t (bz_fu u.1)))]) ⟨hx, hb, hml, hown, htb⟩ (c_M_solve l dC dI _ am cI cL cZ t th (bz_i slv) (bz_i (slv && decide (bz_n t ≤ 8))) g tr S3 ht K hK0) (cwV 1 htb (bz_gV wd_486 wd_483 wd_484 wd_485 wd_23) rfl rfl rfl (by decide +kernel) ⟨Nat.le_of_ble_eq_true rfl, Nat.le_of_ble_eq_true rfl⟩) (bz_wv hN hK hPc hDc (q0 := 0) rfl rfl) rfl rfl hl.1 rfl (lv_room (Nat.le_of_ble_eq_true rfl)) d_law_389 ⟨show 23 + k + 0 ≤ 601024 by omega, show 1349 + 6 * k + 0 ≤ 7293034 by omega⟩) hS (fun q _ h => hFc q h) hFc (fun r9 w t9 H locs ht9 hvm hw9 hB9 hz9 hk9 hS => ?_)
    obtain ⟨hP1, hK1, hD1⟩ := hB9
    rw [ht9] at hP1
    obtain ⟨hP, hD⟩ := bz_jM hP hD hk9 hFc hP1 hD1
    obtain ⟨hr9, hsow⟩ := hw9
    obtain rfl : r9 = lN (bz_gl t (bz_fu w.1)) := hr9
    have hP : va_P (dC, dI) vwCl (bz_wB ad cI cL (bz_tR t) (bz_sR t (bz_fu u.1)) (fun j => nI (u.2.1 j), u.2.2) (1) ++ (bz_wM am cI cL cZ (bz_tM t) (0, 1, bz_i (decide (bz_n t ≤ 8))) (fun a => nI (w.1 a), fun a => nI (w.2.1 a), w.2.2) ++ [(qo, .inl (cL, 1, .inr (.inl O)))])) H := hP
    have hD : va_D (fun q : Nat => s.heap.size ≤ q) (bz_wB ad cI cL (bz_tR t) (bz_sR t (bz_fu u.1)) (fun j => nI (u.2.1 j), u.2.2) (1) ++ (bz_wM am cI cL cZ (bz_tM t) (0, 1, bz_i (decide (bz_n t ≤ 8))) (fun a => nI (w.1 a), fun a => nI (w.2.1 a), w.2.2) ++ [(qo, .inl (cL, 1, .inr (.inl O)))])) := hD
    refine W.lcmp hx hb d_law_392 ?_
    refine lv_if_eq (tgt := 564) hx hb d_law_393 (by decide) (fun c_393 => ?_) (fun c_393 => ?_)
    · skip
      refine W.widen (k := 23 + (k + 1)) (n := 1349 + 6 * (k + 1)) (by omega) (by omega) ?_
      exact ih _ _ _ ⟨t, true, u.1, (bz_sR t (bz_fu u.1)).2.1, (bz_sR t (bz_fu u.1)).2.2.1, (bz_sR t (bz_fu u.1)).2.2.2.1, (bz_sR t (bz_fu u.1)).2.2.2.2, u.2.1, u.2.2, 0, w.1, w.2.1, w.2.2, O, ht, fun _ => ⟨rfl, bz_so_eq hsou hsow, hsow.1⟩, hP, hD, hS⟩ (lv_sub hl [0, 1, 2, 3, 4] rfl)
    · skip
      exact absurd ((lg_cmp_eq _ _).mpr (by rw [bz_gl_ext (s := bz_fu u.1) (s2 := bz_fu w.1) fun a ha => ⟨bz_so_eq hsou hsow a ha, rfl⟩])) c_393
  · skip
    refine lv_aload_n hx hb d_law_340 rfl (lv_at hl 1 rfl) ?_
    refine lv_aload_n hx hb d_law_341 rfl (lv_at hl 0 rfl) ?_
    refine lv_iload hx hb d_law_342 (lv_at hl 4 rfl) ?_
    refine lv_iconst (v := 1) hx hb d_law_344 (by decide) ?_
    refine lv_iadd hx hb d_law_345 ?_
    refine bz_ri (y := nI (4 * k + 1)) (nI_1 _) ?_
    refine bz_sld (j := (4 * k + 1)) hx hb hX hbl hbA hS (by omega) (by omega) d_law_346 ?_
    refine lv_i2l hx hb d_law_347 rfl ?_
    refine lv_bipush (v := 32) hx hb d_law_348 (by decide) ?_
    refine lv_lshl hx hb d_law_350 rfl ?_
    refine lv_aload_n hx hb d_law_351 rfl (lv_at hl 0 rfl) ?_
    refine lv_iload hx hb d_law_352 (lv_at hl 4 rfl) ?_
    refine lv_iconst (v := 2) hx hb d_law_354 (by decide) ?_
    refine lv_iadd hx hb d_law_355 ?_
    refine bz_ri (y := nI (4 * k + 2)) (nI_add _ 2) ?_
    refine bz_sld (j := (4 * k + 2)) hx hb hX hbl hbA hS (by omega) (by omega) d_law_356 ?_
    refine lv_i2l hx hb d_law_357 rfl ?_
    refine lv_ldc2 (v := 4294967295) hx hb hown (htb _ wd_567) d_law_358 ?_
    refine lv_land hx hb d_law_361 ?_
    refine lv_lor hx hb d_law_362 ?_
    refine bz_rl (y := z) (hz0.symm) ?_
    refine bz_sl (va_runV (As := [.long z]) (rest := []) ⟨hx, hb, hml, hown, htb⟩ (c_B_solve_o l dC dI ad cI cL t (fun a => nI (f a), A1, A2, o1, c1) (fun j => nI (rw j), co) (bz_i slv) ht z hz) (cwV 1 htb (bz_gV wd_178 wd_175 wd_176 wd_177 wd_19) rfl rfl rfl (by decide +kernel) ⟨Nat.le_of_ble_eq_true rfl, Nat.le_of_ble_eq_true rfl⟩) (bz_rv hN hK2 (hP.sub (ws' := bz_wB ad cI cL (bz_tR t) (fun a => nI (f a), A1, A2, o1, c1) (fun j => nI (rw j), co) (bz_i slv)) [0, 1, 2, 3, 4, 5, 6, 7, 8, 9, 10, 11, 12] rfl) (q0 := 0) rfl rfl) rfl rfl hl.1 rfl (lv_room (Nat.le_of_ble_eq_true rfl)) d_law_363 ⟨show 23 + k + 0 ≤ 601024 by omega, show 1349 + 6 * k + 0 ≤ 7293034 by omega⟩) ?_
    refine lv_aload_n hx hb d_law_366 rfl (lv_at hl 2 rfl) ?_
    refine lv_aload_n hx hb d_law_367 rfl (lv_at hl 0 rfl) ?_
    refine lv_iload hx hb d_law_368 (lv_at hl 4 rfl) ?_
    refine lv_iconst (v := 1) hx hb d_law_370 (by decide) ?_
    refine lv_iadd hx hb d_law_371 ?_
    refine bz_ri (y := nI (4 * k + 1)) (nI_1 _) ?_
    refine bz_sld (j := (4 * k + 1)) hx hb hX hbl hbA hS (by omega) (by omega) d_law_372 ?_
    refine lv_i2l hx hb d_law_373 rfl ?_
    refine lv_bipush (v := 32) hx hb d_law_374 (by decide) ?_
    refine lv_lshl hx hb d_law_376 rfl ?_
    refine lv_aload_n hx hb d_law_377 rfl (lv_at hl 0 rfl) ?_
    refine lv_iload hx hb d_law_378 (lv_at hl 4 rfl) ?_
    refine lv_iconst (v := 2) hx hb d_law_380 (by decide) ?_
    refine lv_iadd hx hb d_law_381 ?_
    refine bz_ri (y := nI (4 * k + 2)) (nI_add _ 2) ?_
    refine bz_sld (j := (4 * k + 2)) hx hb hX hbl hbA hS (by omega) (by omega) d_law_382 ?_
    refine lv_i2l hx hb d_law_383 rfl ?_
    refine lv_ldc2 (v := 4294967295) hx hb hown (htb _ wd_567) d_law_384 ?_
    refine lv_land hx hb d_law_387 ?_
    refine lv_lor hx hb d_law_388 ?_
    refine bz_rl (y := z) (hz0.symm) ?_
    have hPc := hP.sub (ws' := bz_wM am cI cL cZ (bz_tM t) (th, bz_i slv, bz_i (slv && decide (bz_n t ≤ 8))) (fun a => nI (g a), fun a => nI (tr a), S3)) [13, 14, 15, 16, 17, 18, 19, 20, 21] rfl
    have hDc := hD.sub (ws' := bz_wM am cI cL cZ (bz_tM t) (th, bz_i slv, bz_i (slv && decide (bz_n t ≤ 8))) (fun a => nI (g a), fun a => nI (tr a), S3)) [13, 14, 15, 16, 17, 18, 19, 20, 21] (by decide) rfl
    have hFc := va_free (wc := bz_wM am cI cL cZ (bz_tM t) (th, bz_i slv, bz_i (slv && decide (bz_n t ≤ 8))) (fun a => nI (g a), fun a => nI (tr a), S3)) hD hS hA [13, 14, 15, 16, 17, 18, 19, 20, 21] rfl
    refine va_calll (va_runV (As := [.long z]) (rest := [.long (-12)]) ⟨hx, hb, hml, hown, htb⟩ (c_M_solve_o l dC dI _ am cI cL cZ t th (bz_i slv) (bz_i (slv && decide (bz_n t ≤ 8))) (fun a => nI (g a)) (fun a => nI (tr a)) S3 ht z hz) (cwV 1 htb (bz_gV wd_486 wd_483 wd_484 wd_485 wd_23) rfl rfl rfl (by decide +kernel) ⟨Nat.le_of_ble_eq_true rfl, Nat.le_of_ble_eq_true rfl⟩) (bz_wv hN hK hPc hDc (q0 := 0) rfl rfl) rfl rfl hl.1 rfl (lv_room (Nat.le_of_ble_eq_true rfl)) d_law_389 ⟨show 23 + k + 0 ≤ 601024 by omega, show 1349 + 6 * k + 0 ≤ 7293034 by omega⟩) hS (fun q _ h => hFc q h) hFc (fun r9 w t9 H locs ht9 hvm hw9 hB9 hz9 hk9 hS => ?_)
    obtain ⟨hP1, hK1, hD1⟩ := hB9
    rw [ht9] at hP1
    obtain ⟨hP, hD⟩ := bz_jM hP hD hk9 hFc hP1 hD1
    obtain rfl : r9 = (-12) := hw9
    have hP : va_P (dC, dI) vwCl (bz_wB ad cI cL (bz_tR t) (fun a => nI (f a), A1, A2, o1, c1) (fun j => nI (rw j), co) (bz_i slv) ++ (bz_wM am cI cL cZ (bz_tM t) (0, bz_i slv, bz_i (slv && decide (bz_n t ≤ 8))) (fun a => nI (g a), fun a => nI (tr a), S3) ++ [(qo, .inl (cL, 1, .inr (.inl O)))])) H := hP
    have hD : va_D (fun q : Nat => s.heap.size ≤ q) (bz_wB ad cI cL (bz_tR t) (fun a => nI (f a), A1, A2, o1, c1) (fun j => nI (rw j), co) (bz_i slv) ++ (bz_wM am cI cL cZ (bz_tM t) (0, bz_i slv, bz_i (slv && decide (bz_n t ≤ 8))) (fun a => nI (g a), fun a => nI (tr a), S3) ++ [(qo, .inl (cL, 1, .inr (.inl O)))])) := hD
    refine W.lcmp hx hb d_law_392 ?_
    refine lv_if_eq (tgt := 564) hx hb d_law_393 (by decide) (fun c_393 => ?_) (fun c_393 => ?_)
    · skip
      refine W.widen (k := 23 + (k + 1)) (n := 1349 + 6 * (k + 1)) (by omega) (by omega) ?_
      exact ih _ _ _ ⟨t, slv, f, A1, A2, o1, c1, rw, co, 0, g, tr, S3, O, ht, hR, hP, hD, hS⟩ (lv_sub hl [0, 1, 2, 3, 4] rfl)
    · skip
      exact absurd ((lg_cmp_eq _ _).mpr rfl) c_393
