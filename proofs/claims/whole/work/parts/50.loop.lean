theorem bz_end {L k : Nat} (hL : L ≤ 2048) (hk : 4 * k ≤ L + 4) (h : ¬ 4 * k + 4 ≤ L) : Int32.ofNat L - 4 < nI (4 * k) := by
  rw [Int32.lt_iff_toInt_lt, show Int32.ofNat L - 4 = nI L - nI 4 from rfl, pk_sub_toInt (by omega) (by omega), nI_toInt (by omega)]
  omega
theorem bz_end2 {L k : Nat} (hL : L ≤ 2048) (hk : 4 * k ≤ L + 4) (h : 4 * k + 4 ≤ L) : ¬ Int32.ofNat L - 4 < nI (4 * k) := by
  rw [Int32.lt_iff_toInt_lt, show Int32.ofNat L - 4 = nI L - nI 4 from rfl, pk_sub_toInt (by omega) (by omega), nI_toInt (by omega)]
  omega

set_option maxHeartbeats 4000000 in
set_option maxRecDepth 100000 in
/-- THE LAW'S LOOP -/
theorem law_loop {p : Program} {l : Launch} {e : Env} {s : State} {m : MethodId} {below : List Frame} {meth : Method} {c : Code} {dC : Nat → ClassId} {dI : Nat → Nat → Nat} {ad am : Nat → Nat} {cI cL cZ : ClassId} {qo b L : Nat} {xs : Nat → Int32} (hL : L ≤ 2048) (hlt : l.stackTraces = false) (C0 : lw_At p s m meth c b L xs) (hK : va_K (dC, dI) vwCl [(cI, .int), (cL, .long), (cZ, .boolean)] s) (hN : bz_N s) : ∀ (n k : Nat), L + 1 ≤ 4 * k + n → 4 * k ≤ L + 4 → ∀ (H : Heap) (locs : List Loc) (ls : Array Slot), bz_I (dC, dI) ad am cI cL cZ qo s H locs → lv_has ls 7 [(0, .ref b), (1, .ref (ad 0)), (2, .ref (am 0)), (3, .ref qo), (4, .int (nI (4 * k)))] → W p l e room_1 s m #[Value.ref b] below meth c H locs (23 + k) (1349 + 6 * k) (lw_Z below #[Value.ref b] s) (F0 m 23 ls []) := by
  obtain ⟨hx, hb, hr, hml, hown, hts, hX, hbl, hlocks, hgv⟩ := id C0
  have hbA : ¬ (fun q : Nat => s.heap.size ≤ q) b := Nat.not_le.mpr hbl
  have bye : ∀ k, 4 * k ≤ L + 4 → ¬ 4 * k + 4 ≤ L → ∀ (H : Heap) (locs : List Loc) (ls : Array Slot), bz_I (dC, dI) ad am cI cL cZ qo s H locs → W p l e room_1 s m #[Value.ref b] below meth c H locs (23 + k) (1349 + 6 * k) (lw_Z below #[Value.ref b] s) (F0 m 570 ls []) := by
    intro k hk4 hno H locs ls hI
    obtain ⟨t, slv, f, A1, A2, o1, c1, rw, co, th, g, tr, S3, O, ht, hR, hP, hD, hS⟩ := hI
    refine lv_iconst (v := 1) hx hb d_law_570 (by decide) ?_
    refine va_forget (fun q hq => hS.2.2 q hq) ?_
    refine W.widen (k := 601024) (n := 7293034) (by omega) (by omega) ?_
    exact lw_ret hx hb hr hlocks d_law_571
  intro n
  induction n with
  | zero =>
    intro k h1 hk4 H locs ls hI hl
    have hno : ¬ 4 * k + 4 ≤ L := by omega
    obtain ⟨t, slv, f, A1, A2, o1, c1, rw, co, th, g, tr, S3, O, ht, hR, hP, hD, hS⟩ := id hI
    refine lv_iload hx hb d_law_23 (lv_at hl 4 rfl) ?_
    refine lv_aload_n hx hb d_law_25 rfl (lv_at hl 0 rfl) ?_
    refine va_slen hx hb hX hbl hbA hS d_law_26 ?_
    refine lv_iconst (v := 4) hx hb d_law_27 (by decide) ?_
    refine lv_isub hx hb d_law_28 ?_
    refine lv_icmp_gt (tgt := 570) hx hb d_law_29 (by decide) (fun c_29 => ?_) (fun c_29 => ?_)
    · exact bye k hk4 hno H locs ls hI
    · exact absurd (bz_end (by omega) (by omega) hno) c_29
  | succ n ihn =>
    intro k h1 hk4 H locs ls hI hl
    obtain ⟨t, slv, f, A1, A2, o1, c1, rw, co, th, g, tr, S3, O, ht, hR, hP, hD, hS⟩ := id hI
    refine lv_iload hx hb d_law_23 (lv_at hl 4 rfl) ?_
    refine lv_aload_n hx hb d_law_25 rfl (lv_at hl 0 rfl) ?_
    refine va_slen hx hb hX hbl hbA hS d_law_26 ?_
    refine lv_iconst (v := 4) hx hb d_law_27 (by decide) ?_
    refine lv_isub hx hb d_law_28 ?_
    refine lv_icmp_gt (tgt := 570) hx hb d_law_29 (by decide) (fun c_29 => ?_) (fun c_29 => ?_)
    · exact bye k hk4 (fun z => bz_end2 (by omega) (by omega) z c_29) H locs ls hI
    · have hk : 4 * k + 4 ≤ L := Classical.byContradiction fun z => c_29 (bz_end (by omega) (by omega) z)
      have ih : ∀ (H : Heap) (locs : List Loc) (ls : Array Slot), bz_I (dC, dI) ad am cI cL cZ qo s H locs → lv_has ls 7 [(0, .ref b), (1, .ref (ad 0)), (2, .ref (am 0)), (3, .ref qo), (4, .int (nI (4 * k)))] → W p l e room_1 s m #[Value.ref b] below meth c H locs (23 + (k + 1)) (1349 + 6 * (k + 1)) (lw_Z below #[Value.ref b] s) (F0 m 564 ls []) := by
        intro H locs ls hI hl
        refine lv_iinc (v := nI (4 * (k + 1))) (lv' := [(4, .int (nI (4 * (k + 1)))), (0, .ref b), (1, .ref (ad 0)), (2, .ref (am 0)), (3, .ref qo)]) hx hb d_law_564 hl (k := 4) rfl (nI_add (4 * k) 4) (by decide) rfl (fun ls hl => ?_)
        refine lv_goto (tgt := 23) hx hb d_law_567 (by decide) ?_
        exact ihn (k + 1) (by omega) (by omega) H locs ls hI (lv_sub hl [1, 2, 3, 4, 0] rfl)
      refine lv_aload_n hx hb d_law_32 rfl (lv_at hl 0 rfl) ?_
      refine lv_iload hx hb d_law_33 (lv_at hl 4 rfl) ?_
      refine bz_sld (j := 4 * k) hx hb hX hbl hbA hS (by omega) (by omega) d_law_35 ?_
      refine lv_bipush (v := 15) hx hb d_law_36 (by decide) ?_
      refine lv_iand hx hb d_law_38 ?_
      obtain ⟨j, hj16, hj⟩ := pk_andE (xs (4 * k)) (m := 15) 4 (by decide)
      refine bz_ri (y := nI j) hj ?_
      rcases (show j = 0 ∨ j = 1 ∨ j = 2 ∨ j = 3 ∨ j = 4 ∨ j = 5 ∨ j = 6 ∨ j = 7 ∨ j = 8 ∨ j = 9 ∨ j = 10 ∨ j = 11 ∨ j = 12 ∨ j = 13 ∨ j = 14 ∨ j = 15 by omega) with rfl | rfl | rfl | rfl | rfl | rfl | rfl | rfl | rfl | rfl | rfl | rfl | rfl | rfl | rfl | rfl
      · refine lv_tableIn (off := 61) (tgt := 100) hx hb d_law_39 (by decide) (by decide) (by decide) (by decide) ?_
        exact law_area hL C0 hK hN k hk ih H locs ls hI hl
      · refine lv_tableIn (off := 130) (tgt := 169) hx hb d_law_39 (by decide) (by decide) (by decide) (by decide) ?_
        exact law_joined hL C0 hK hN k hk ih H locs ls hI hl
      · refine lv_tableIn (off := 195) (tgt := 234) hx hb d_law_39 (by decide) (by decide) (by decide) (by decide) ?_
        exact law_carrier hL C0 hK hN k hk ih H locs ls hI hl
      · refine lv_tableIn (off := 264) (tgt := 303) hx hb d_law_39 (by decide) (by decide) (by decide) (by decide) ?_
        exact law_know hL C0 hK hN k hk ih H locs ls hI hl
      · refine lv_tableIn (off := 301) (tgt := 340) hx hb d_law_39 (by decide) (by decide) (by decide) (by decide) ?_
        exact law_solve hL C0 hK hN k hk ih H locs ls hI hl
      · refine lv_tableIn (off := 359) (tgt := 398) hx hb d_law_39 (by decide) (by decide) (by decide) (by decide) ?_
        exact law_round hL C0 hK hN k hk ih H locs ls hI hl
      · refine lv_tableIn (off := 384) (tgt := 423) hx hb d_law_39 (by decide) (by decide) (by decide) (by decide) ?_
        exact law_changed hL C0 hK hN k hk ih H locs ls hI hl
      · refine lv_tableIn (off := 397) (tgt := 436) hx hb d_law_39 (by decide) (by decide) (by decide) (by decide) ?_
        exact law_together hL hlt C0 hK hN k hk ih H locs ls hI hl
      · refine lv_tableIn (off := 460) (tgt := 499) hx hb d_law_39 (by decide) (by decide) (by decide) (by decide) ?_
        exact law_faults hL C0 hK hN k hk ih H locs ls hI hl
      · refine lv_tableIn (off := 473) (tgt := 512) hx hb d_law_39 (by decide) (by decide) (by decide) (by decide) ?_
        exact law_bound hL C0 hK hN k hk ih H locs ls hI hl
      · refine lv_tableIn (off := 487) (tgt := 526) hx hb d_law_39 (by decide) (by decide) (by decide) (by decide) ?_
        exact law_tooLarge hL C0 hK hN k hk ih H locs ls hI hl
      · refine lv_tableIn (off := 512) (tgt := 551) hx hb d_law_39 (by decide) (by decide) (by decide) (by decide) ?_
        exact law_exact hL C0 hK hN k hk ih H locs ls hI hl
      · refine lv_tableOut (tgt := 564) hx hb d_law_39 (by decide) (by decide) ?_
        refine W.widen (k := 23 + (k + 1)) (n := 1349 + 6 * (k + 1)) (by omega) (by omega) ?_
        exact ih H locs ls hI hl
      · refine lv_tableOut (tgt := 564) hx hb d_law_39 (by decide) (by decide) ?_
        refine W.widen (k := 23 + (k + 1)) (n := 1349 + 6 * (k + 1)) (by omega) (by omega) ?_
        exact ih H locs ls hI hl
      · refine lv_tableOut (tgt := 564) hx hb d_law_39 (by decide) (by decide) ?_
        refine W.widen (k := 23 + (k + 1)) (n := 1349 + 6 * (k + 1)) (by omega) (by omega) ?_
        exact ih H locs ls hI hl
      · refine lv_tableOut (tgt := 564) hx hb d_law_39 (by decide) (by decide) ?_
        refine W.widen (k := 23 + (k + 1)) (n := 1349 + 6 * (k + 1)) (by omega) (by omega) ?_
        exact ih H locs ls hI hl
