set_option maxHeartbeats 4000000 in
set_option maxRecDepth 100000 in
theorem law_together {p : Program} {l : Launch} {e : Env} {s : State} {m : MethodId} {below : List Frame} {meth : Method} {c : Code} {dC : Nat → ClassId} {dI : Nat → Nat → Nat} {ad am : Nat → Nat} {cI cL cZ : ClassId} {qo b L : Nat} {xs : Nat → Int32} (hL : L ≤ 2048) (hlt : l.stackTraces = false) (C0 : lw_At p s m meth c b L xs) (hK : va_K (dC, dI) vwCl [(cI, .int), (cL, .long), (cZ, .boolean)] s) (hN : bz_N s) (k : Nat) (hk : 4 * k + 4 ≤ L) (ih : ∀ (H : Heap) (locs : List Loc) (ls : Array Slot), bz_I (dC, dI) ad am cI cL cZ qo s H locs → lv_has ls 7 [(0, .ref b), (1, .ref (ad 0)), (2, .ref (am 0)), (3, .ref qo), (4, .int (nI (4 * k)))] → W p l e room_1 s m #[Value.ref b] below meth c H locs (23 + (k + 1)) (1349 + 6 * (k + 1)) (lw_Z below #[Value.ref b] s) (F0 m 564 ls [])) :
    ∀ (H : Heap) (locs : List Loc) (ls : Array Slot), bz_I (dC, dI) ad am cI cL cZ qo s H locs → lv_has ls 7 [(0, .ref b), (1, .ref (ad 0)), (2, .ref (am 0)), (3, .ref qo), (4, .int (nI (4 * k)))] → W p l e room_1 s m #[Value.ref b] below meth c H locs (23 + k) (1349 + 6 * k) (lw_Z below #[Value.ref b] s) (F0 m 436 ls []) := by
  obtain ⟨hx, hb, hr, hml, hown, hts, hX, hbl, hlocks, hgv⟩ := id C0
  have htb : ∀ w ∈ bz_tb, w.before #[Value.ref b] s = true := fun w h => hts w (List.mem_filter.mp h).1
  have hA : ∀ q : Nat, s.heap.size ≤ q → (fun q : Nat => s.heap.size ≤ q) q := fun _ h => h
  have hbA : ¬ (fun q : Nat => s.heap.size ≤ q) b := Nat.not_le.mpr hbl
  have hK2 := hK.sub (tys' := [(cI, .int), (cL, .long)]) [0, 1] rfl
  intro H locs ls hI hl
  obtain ⟨t, slv, f, A1, A2, o1, c1, rw, co, th, g, tr, S3, O, ht, hR, hP, hD, hS⟩ := hI
  have hn30 := ht.1
  sorry
