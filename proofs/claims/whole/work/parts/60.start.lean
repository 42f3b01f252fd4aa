theorem bz_arrI0 {args : Array Value} {s : State} (h : (Cond.arrayClass .int).before args s = true) : ∃ cA : ClassId, ArrOfT s cA .int ∧ va_RA s cA .int := by
  obtain ⟨cA, kA, comp, h1, h2, h3⟩ := Cond.arrayClass_spec h
  exact ⟨cA, fun n z => ⟨fun k h => (by cases h), kA, h2, comp, h3⟩, h1⟩
theorem bz_arrL0 {args : Array Value} {s : State} (h : (Cond.arrayClass .long).before args s = true) : ∃ cA : ClassId, ArrOfT s cA .long ∧ va_RA s cA .long := by
  obtain ⟨cA, kA, comp, h1, h2, h3⟩ := Cond.arrayClass_spec h
  exact ⟨cA, fun n z => ⟨fun k h => (by cases h), kA, h2, comp, h3⟩, h1⟩
theorem bz_arrZ0 {args : Array Value} {s : State} (h : (Cond.arrayClass .boolean).before args s = true) : ∃ cA : ClassId, ArrOfT s cA .boolean ∧ va_RA s cA .boolean := by
  obtain ⟨cA, kA, comp, h1, h2, h3⟩ := Cond.arrayClass_spec h
  exact ⟨cA, fun n z => ⟨fun k h => (by cases h), kA, h2, comp, h3⟩, h1⟩
def bz_t0 : bz_T := (0, fun _ => 0, fun _ => 0, fun _ _ => false, fun _ _ => false, fun _ => 0)
theorem bz_t0_ok : bz_ok bz_t0 := ⟨by decide, fun _ => Nat.zero_le _, fun _ => Nat.zero_lt_succ _, fun _ _ h => absurd h (by simp [bz_t0]), fun _ _ => rfl, fun _ _ h => absurd h (by simp [bz_t0]), fun _ => Nat.zero_le _⟩
theorem bz_t0_R : bz_tR bz_t0 = (fun _ => 0, fun _ => 0, fun _ => 0, fun _ => 0, fun _ => 0, 0) := Prod.ext rfl (Prod.ext rfl (Prod.ext (funext fun _ => bz_zero.symm) (Prod.ext (funext fun _ => bz_zero.symm) rfl)))

set_option maxHeartbeats 4000000 in
set_option maxRecDepth 100000 in
/-- THE LAW, from its entry -/
theorem whole_start {p : Program} {e : Env} {s : State} {m : MethodId} {below : List Frame} {meth : Method} {c : Code} (l : Launch) (hlt : l.stackTraces = false) {b L : Nat} {xs : Nat → Int32} (hL : L ≤ 2048) (C0 : lw_At p s m meth c b L xs) : W p l e room_1 s m #[Value.ref b] below meth c s.heap [] 0 0 (lw_Z below #[Value.ref b] s) (entryFrame m ([Value.ref b] : List Value).toArray 7) := by
  obtain ⟨hx, hb, hr, hml, hown, hts, hX, hbl, hlocks, hgv⟩ := id C0
  have htb : ∀ w ∈ bz_tb, w.before #[Value.ref b] s = true := fun w h => hts w (List.mem_filter.mp h).1
  have hN : bz_N s := bz_N_of hts
  have hA : ∀ q : Nat, s.heap.size ≤ q → (fun q : Nat => s.heap.size ≤ q) q := fun _ h => h
  obtain ⟨k0, iS0, hKn0⟩ := u_known (C := R_Le) (T := F_Le) (N := 2) (n := 2) htb in_Le (htb _ wd_103)
  obtain ⟨k1, iS1, hKn1⟩ := u_known (C := R_S) (T := F_S) (N := 6) (n := 6) htb in_S (htb _ wd_74)
  obtain ⟨k2, iS2, hKn2⟩ := u_known (C := R_T) (T := F_T) (N := 6) (n := 6) htb in_T (htb _ wd_41)
  obtain ⟨k3, iS3, hKn3⟩ := u_known (C := R_B) (T := F_B) (N := 4) (n := 4) htb in_B (htb _ wd_33)
  obtain ⟨k4, iS4, hKn4⟩ := u_known (C := R_M) (T := F_M) (N := 12) (n := 12) htb in_M (htb _ wd_406)
  obtain ⟨dC, dI, hKc⟩ : ∃ (dC : Nat → ClassId) (dI : Nat → Nat → Nat), ∀ (k : Nat) (q : vw_C), vwCl[k]? = some q → u_Kn s q.1 q.2.1 q.2.2 (dC k) (dI k) := by
    refine ⟨fun k => if k = 0 then k0 else if k = 1 then k1 else if k = 2 then k2 else if k = 3 then k3 else k4, fun k => if k = 0 then iS0 else if k = 1 then iS1 else if k = 2 then iS2 else if k = 3 then iS3 else iS4, ?_⟩
    intro k q hq
    match k, hq with
    | 0, hq => cases hq; exact hKn0
    | 1, hq => cases hq; exact hKn1
    | 2, hq => cases hq; exact hKn2
    | 3, hq => cases hq; exact hKn3
    | 4, hq => cases hq; exact hKn4
    | k + 5, hq => simp [vwCl] at hq
  obtain ⟨cI, hcI⟩ := bz_arrI0 (htb _ wd_72)
  obtain ⟨cL, hcL⟩ := bz_arrL0 (htb _ wd_71)
  obtain ⟨cZ, hcZ⟩ := bz_arrZ0 (htb _ wd_448)
  have hS : va_S (fun q : Nat => s.heap.size ≤ q) s.heap s.heap [] := va_S.rf
  have hK : va_K (dC, dI) vwCl [(cI, .int), (cL, .long), (cZ, .boolean)] s := ⟨hKc, fun k q h => by
    match k, h with
    | 0, h => cases h; exact hcI
    | 1, h => cases h; exact hcL
    | 2, h => cases h; exact hcZ
    | k + 3, h => simp at h⟩
  have hK2 := hK.sub (tys' := [(cI, .int), (cL, .long)]) [0, 1] rfl
  have hP : va_P (dC, dI) vwCl [] s.heap := fun k q h => by simp at h
  have hD : va_D (fun q : Nat => s.heap.size ≤ q) [] := ⟨fun i j p q h => by simp at h, fun k q h => by simp at h⟩
  have hl := lv_entry ([.ref b]) (n := 7) (Nat.le_of_ble_eq_true rfl)
  rw [lg_entry_eq]
  generalize (lg_sl ([.ref b]) ++ List.replicate (7 - (lg_sl ([.ref b])).length) Slot.unset).toArray = ls at hl ⊢
  have hl : lv_has ls 7 [(0, .ref b)] := hl
  refine va_new (ci := 3) (fs := [.null, .null, .null, .int 0]) (C := R_B) (T := F_B) (N := 4) hx hb htb in_B tf_B tok_B hown (htb _ wd_32) (htb _ wd_33) (htb _ wd_19) hK hP hD hS hA rfl (fun j hj => by rcases (show j = 0 ∨ j = 1 ∨ j = 2 ∨ j = 3 by omega) with rfl | rfl | rfl | rfl <;> rfl) (Nat.le_of_ble_eq_true rfl) (Nat.le_of_ble_eq_true rfl) d_law_0 (fun q1 H hP hD hS => ?_)
  refine W.widen (k := 1) (n := 4) (Nat.le_of_ble_eq_true rfl) (Nat.le_of_ble_eq_true rfl) ?_
  have hP : va_P (dC, dI) vwCl ([(q1, .inr (3, [.null, .null, .null, .int 0]))]) H := hP
  have hD : va_D (fun q : Nat => s.heap.size ≤ q) ([(q1, .inr (3, [.null, .null, .null, .int 0]))]) := hD
  refine lv_dup hx hb d_law_3 rfl ?_
  have hPc := hP.sub (ws' := [(q1, .inr (3, [.null, .null, .null, .int 0]))]) [0] rfl
  have hDc := hD.sub (ws' := [(q1, .inr (3, [.null, .null, .null, .int 0]))]) [0] (by decide) rfl
  have hFc := va_free (wc := [(q1, .inr (3, [.null, .null, .null, .int 0]))]) hD hS hA [0] rfl
  refine va_callv (va_runI (As := []) (rest := [.ref q1]) ⟨hx, hb, hml, hown, htb⟩ (c_B_init l dC dI _ cI cL _) (cwI 0 htb (bz_g0 wd_36) rfl rfl rfl (htb _ wd_19) (htb _ wd_34) (htb _ wd_35) rfl (by decide +kernel) ⟨Nat.le_of_ble_eq_true rfl, Nat.le_of_ble_eq_true rfl⟩) ⟨bz_Pw_bl, fun U hU hW => ⟨rfl, by rw [hU], by rw [hU]; exact hPc, va_K.moved hW.alike hK2, hDc.weaken (fun _ _ _ _ => trivial), bz_N_warm hW hN⟩⟩ rfl rfl hl.1 rfl (lv_room (Nat.le_of_ble_eq_true rfl)) d_law_4 ⟨Nat.le_of_ble_eq_true rfl, Nat.le_of_ble_eq_true rfl⟩) hS (fun q _ h => hFc q h) hFc (fun aB t9 H1 locs ht9 hvm hw hB9 hz1 hk1 hS => ?_)
  obtain ⟨hP1, hK1, hD1⟩ := hB9
  rw [ht9] at hP1
  obtain ⟨hP, hD⟩ := va_join (wr := []) (w1 := [(q1, .inr (3, [.ref (aB 1), .ref (aB 7), .ref (aB 11), .int 0])), (aB 1, .inr (2, [.ref (aB 2), .ref (aB 3), .ref (aB 4), .ref (aB 5), .ref (aB 6), .int 0])), (aB 2, .inl (cL, 30, .inr (.inl (fun _ => 0)))), (aB 3, .inl (cI, 30, .inl (fun _ => 0))), (aB 4, .inl (cI, 30, .inl (fun _ => 0))), (aB 5, .inl (cI, 4, .inl (fun _ => 0))), (aB 6, .inl (cL, 4, .inr (.inl (fun _ => 0)))), (aB 7, .inr (1, [.ref (aB 1), .ref (aB 8), .ref (aB 9), .ref (aB 10), .int 0, .int 0])), (aB 8, .inl (cI, 30, .inl (fun _ => 0))), (aB 9, .inl (cI, 4, .inl (fun _ => 0))), (aB 10, .inl (cL, 4, .inr (.inl (fun _ => 0)))), (aB 11, .inr (0, [.ref (aB 12), .long 0])), (aB 12, .inl (cI, 8, .inl (fun _ => 0)))]) hP hD [0] [] rfl rfl (by decide) (by decide) hk1 hFc hP1 hD1
  generalize H1 = H at hP hS ⊢
  refine W.widen (k := 13) (n := 162) (Nat.le_of_ble_eq_true rfl) (Nat.le_of_ble_eq_true rfl) ?_
  have hP : va_P (dC, dI) vwCl ([(q1, .inr (3, [.ref (aB 1), .ref (aB 7), .ref (aB 11), .int 0])), (aB 1, .inr (2, [.ref (aB 2), .ref (aB 3), .ref (aB 4), .ref (aB 5), .ref (aB 6), .int 0])), (aB 2, .inl (cL, 30, .inr (.inl (fun _ => 0)))), (aB 3, .inl (cI, 30, .inl (fun _ => 0))), (aB 4, .inl (cI, 30, .inl (fun _ => 0))), (aB 5, .inl (cI, 4, .inl (fun _ => 0))), (aB 6, .inl (cL, 4, .inr (.inl (fun _ => 0)))), (aB 7, .inr (1, [.ref (aB 1), .ref (aB 8), .ref (aB 9), .ref (aB 10), .int 0, .int 0])), (aB 8, .inl (cI, 30, .inl (fun _ => 0))), (aB 9, .inl (cI, 4, .inl (fun _ => 0))), (aB 10, .inl (cL, 4, .inr (.inl (fun _ => 0)))), (aB 11, .inr (0, [.ref (aB 12), .long 0])), (aB 12, .inl (cI, 8, .inl (fun _ => 0)))]) H := hP
  have hD : va_D (fun q : Nat => s.heap.size ≤ q) ([(q1, .inr (3, [.ref (aB 1), .ref (aB 7), .ref (aB 11), .int 0])), (aB 1, .inr (2, [.ref (aB 2), .ref (aB 3), .ref (aB 4), .ref (aB 5), .ref (aB 6), .int 0])), (aB 2, .inl (cL, 30, .inr (.inl (fun _ => 0)))), (aB 3, .inl (cI, 30, .inl (fun _ => 0))), (aB 4, .inl (cI, 30, .inl (fun _ => 0))), (aB 5, .inl (cI, 4, .inl (fun _ => 0))), (aB 6, .inl (cL, 4, .inr (.inl (fun _ => 0)))), (aB 7, .inr (1, [.ref (aB 1), .ref (aB 8), .ref (aB 9), .ref (aB 10), .int 0, .int 0])), (aB 8, .inl (cI, 30, .inl (fun _ => 0))), (aB 9, .inl (cI, 4, .inl (fun _ => 0))), (aB 10, .inl (cL, 4, .inr (.inl (fun _ => 0)))), (aB 11, .inr (0, [.ref (aB 12), .long 0])), (aB 12, .inl (cI, 8, .inl (fun _ => 0)))]) := hD
  refine lv_astore_n (lv' := [(1, .ref q1), (0, .ref b)]) hx hb d_law_7 rfl hl (by decide) rfl (fun ls hl => ?_)
  refine va_new (ci := 4) (fs := [.int 0, .int 0, .null, .null, .null, .null, .null, .int 0, .int 0, .null, .null, .null]) (C := R_M) (T := F_M) (N := 12) hx hb htb in_M tf_M tok_M hown (htb _ wd_405) (htb _ wd_406) (htb _ wd_23) hK hP hD hS hA rfl (fun j hj => by rcases (show j = 0 ∨ j = 1 ∨ j = 2 ∨ j = 3 ∨ j = 4 ∨ j = 5 ∨ j = 6 ∨ j = 7 ∨ j = 8 ∨ j = 9 ∨ j = 10 ∨ j = 11 by omega) with rfl | rfl | rfl | rfl | rfl | rfl | rfl | rfl | rfl | rfl | rfl | rfl <;> rfl) (Nat.le_of_ble_eq_true rfl) (Nat.le_of_ble_eq_true rfl) d_law_8 (fun q2 H hP hD hS => ?_)
  refine W.widen (k := 14) (n := 174) (Nat.le_of_ble_eq_true rfl) (Nat.le_of_ble_eq_true rfl) ?_
  have hP : va_P (dC, dI) vwCl ([(q1, .inr (3, [.ref (aB 1), .ref (aB 7), .ref (aB 11), .int 0])), (aB 1, .inr (2, [.ref (aB 2), .ref (aB 3), .ref (aB 4), .ref (aB 5), .ref (aB 6), .int 0])), (aB 2, .inl (cL, 30, .inr (.inl (fun _ => 0)))), (aB 3, .inl (cI, 30, .inl (fun _ => 0))), (aB 4, .inl (cI, 30, .inl (fun _ => 0))), (aB 5, .inl (cI, 4, .inl (fun _ => 0))), (aB 6, .inl (cL, 4, .inr (.inl (fun _ => 0)))), (aB 7, .inr (1, [.ref (aB 1), .ref (aB 8), .ref (aB 9), .ref (aB 10), .int 0, .int 0])), (aB 8, .inl (cI, 30, .inl (fun _ => 0))), (aB 9, .inl (cI, 4, .inl (fun _ => 0))), (aB 10, .inl (cL, 4, .inr (.inl (fun _ => 0)))), (aB 11, .inr (0, [.ref (aB 12), .long 0])), (aB 12, .inl (cI, 8, .inl (fun _ => 0))), (q2, .inr (4, [.int 0, .int 0, .null, .null, .null, .null, .null, .int 0, .int 0, .null, .null, .null]))]) H := hP
  have hD : va_D (fun q : Nat => s.heap.size ≤ q) ([(q1, .inr (3, [.ref (aB 1), .ref (aB 7), .ref (aB 11), .int 0])), (aB 1, .inr (2, [.ref (aB 2), .ref (aB 3), .ref (aB 4), .ref (aB 5), .ref (aB 6), .int 0])), (aB 2, .inl (cL, 30, .inr (.inl (fun _ => 0)))), (aB 3, .inl (cI, 30, .inl (fun _ => 0))), (aB 4, .inl (cI, 30, .inl (fun _ => 0))), (aB 5, .inl (cI, 4, .inl (fun _ => 0))), (aB 6, .inl (cL, 4, .inr (.inl (fun _ => 0)))), (aB 7, .inr (1, [.ref (aB 1), .ref (aB 8), .ref (aB 9), .ref (aB 10), .int 0, .int 0])), (aB 8, .inl (cI, 30, .inl (fun _ => 0))), (aB 9, .inl (cI, 4, .inl (fun _ => 0))), (aB 10, .inl (cL, 4, .inr (.inl (fun _ => 0)))), (aB 11, .inr (0, [.ref (aB 12), .long 0])), (aB 12, .inl (cI, 8, .inl (fun _ => 0))), (q2, .inr (4, [.int 0, .int 0, .null, .null, .null, .null, .null, .int 0, .int 0, .null, .null, .null]))]) := hD
  refine lv_dup hx hb d_law_11 rfl ?_
  have hPc := hP.sub (ws' := [(q2, .inr (4, [.int 0, .int 0, .null, .null, .null, .null, .null, .int 0, .int 0, .null, .null, .null]))]) [13] rfl
  have hDc := hD.sub (ws' := [(q2, .inr (4, [.int 0, .int 0, .null, .null, .null, .null, .null, .int 0, .int 0, .null, .null, .null]))]) [13] (by decide) rfl
  have hFc := va_free (wc := [(q2, .inr (4, [.int 0, .int 0, .null, .null, .null, .null, .null, .int 0, .int 0, .null, .null, .null]))]) hD hS hA [13] rfl
  refine va_callv (va_runI (As := []) (rest := [.ref q2]) ⟨hx, hb, hml, hown, htb⟩ (c_M_init l dC dI _ cI cL cZ _) (cwI 0 htb (bz_g0 wd_409) rfl rfl rfl (htb _ wd_23) (htb _ wd_407) (htb _ wd_408) rfl (by decide +kernel) ⟨Nat.le_of_ble_eq_true rfl, Nat.le_of_ble_eq_true rfl⟩) ⟨bz_Pw_bl, fun U hU hW => ⟨rfl, by rw [hU], by rw [hU]; exact hPc, va_K.moved hW.alike hK, hDc.weaken (fun _ _ _ _ => trivial), bz_N_warm hW hN⟩⟩ rfl rfl hl.1 rfl (lv_room (Nat.le_of_ble_eq_true rfl)) d_law_12 ⟨Nat.le_of_ble_eq_true rfl, Nat.le_of_ble_eq_true rfl⟩) hS (fun q _ h => hFc q h) hFc (fun aM t9 H1 locs ht9 hvm hw hB9 hz1 hk1 hS => ?_)
  obtain ⟨hP1, hK1, hD1⟩ := hB9
  rw [ht9] at hP1
  obtain ⟨hP, hD⟩ := va_join (wr := [(q1, .inr (3, [.ref (aB 1), .ref (aB 7), .ref (aB 11), .int 0])), (aB 1, .inr (2, [.ref (aB 2), .ref (aB 3), .ref (aB 4), .ref (aB 5), .ref (aB 6), .int 0])), (aB 2, .inl (cL, 30, .inr (.inl (fun _ => 0)))), (aB 3, .inl (cI, 30, .inl (fun _ => 0))), (aB 4, .inl (cI, 30, .inl (fun _ => 0))), (aB 5, .inl (cI, 4, .inl (fun _ => 0))), (aB 6, .inl (cL, 4, .inr (.inl (fun _ => 0)))), (aB 7, .inr (1, [.ref (aB 1), .ref (aB 8), .ref (aB 9), .ref (aB 10), .int 0, .int 0])), (aB 8, .inl (cI, 30, .inl (fun _ => 0))), (aB 9, .inl (cI, 4, .inl (fun _ => 0))), (aB 10, .inl (cL, 4, .inr (.inl (fun _ => 0)))), (aB 11, .inr (0, [.ref (aB 12), .long 0])), (aB 12, .inl (cI, 8, .inl (fun _ => 0)))]) (w1 := [(q2, .inr (4, [.int 0, .int 0, .ref (aM 1), .ref (aM 2), .ref (aM 3), .ref (aM 4), .ref (aM 5), .int 0, .int 0, .ref (aM 6), .ref (aM 7), .ref (aM 8)])), (aM 1, .inl (cL, 30, .inr (.inl (fun _ => 0)))), (aM 2, .inl (cI, 30, .inl (fun _ => 0))), (aM 3, .inl (cZ, 900, .inl (fun _ => 0))), (aM 4, .inl (cZ, 120, .inl (fun _ => 0))), (aM 5, .inl (cL, 4, .inr (.inl (fun _ => 0)))), (aM 6, .inl (cI, 30, .inl (fun _ => 0))), (aM 7, .inl (cI, 30, .inl (fun _ => 0))), (aM 8, .inl (cZ, 30, .inl (fun _ => 0)))]) hP hD [13] [0, 1, 2, 3, 4, 5, 6, 7, 8, 9, 10, 11, 12] rfl rfl (by decide) (by decide) hk1 hFc hP1 hD1
  generalize H1 = H at hP hS ⊢
  refine W.widen (k := 22) (n := 1348) (Nat.le_of_ble_eq_true rfl) (Nat.le_of_ble_eq_true rfl) ?_
  have hP : va_P (dC, dI) vwCl ([(q1, .inr (3, [.ref (aB 1), .ref (aB 7), .ref (aB 11), .int 0])), (aB 1, .inr (2, [.ref (aB 2), .ref (aB 3), .ref (aB 4), .ref (aB 5), .ref (aB 6), .int 0])), (aB 2, .inl (cL, 30, .inr (.inl (fun _ => 0)))), (aB 3, .inl (cI, 30, .inl (fun _ => 0))), (aB 4, .inl (cI, 30, .inl (fun _ => 0))), (aB 5, .inl (cI, 4, .inl (fun _ => 0))), (aB 6, .inl (cL, 4, .inr (.inl (fun _ => 0)))), (aB 7, .inr (1, [.ref (aB 1), .ref (aB 8), .ref (aB 9), .ref (aB 10), .int 0, .int 0])), (aB 8, .inl (cI, 30, .inl (fun _ => 0))), (aB 9, .inl (cI, 4, .inl (fun _ => 0))), (aB 10, .inl (cL, 4, .inr (.inl (fun _ => 0)))), (aB 11, .inr (0, [.ref (aB 12), .long 0])), (aB 12, .inl (cI, 8, .inl (fun _ => 0))), (q2, .inr (4, [.int 0, .int 0, .ref (aM 1), .ref (aM 2), .ref (aM 3), .ref (aM 4), .ref (aM 5), .int 0, .int 0, .ref (aM 6), .ref (aM 7), .ref (aM 8)])), (aM 1, .inl (cL, 30, .inr (.inl (fun _ => 0)))), (aM 2, .inl (cI, 30, .inl (fun _ => 0))), (aM 3, .inl (cZ, 900, .inl (fun _ => 0))), (aM 4, .inl (cZ, 120, .inl (fun _ => 0))), (aM 5, .inl (cL, 4, .inr (.inl (fun _ => 0)))), (aM 6, .inl (cI, 30, .inl (fun _ => 0))), (aM 7, .inl (cI, 30, .inl (fun _ => 0))), (aM 8, .inl (cZ, 30, .inl (fun _ => 0)))]) H := hP
  have hD : va_D (fun q : Nat => s.heap.size ≤ q) ([(q1, .inr (3, [.ref (aB 1), .ref (aB 7), .ref (aB 11), .int 0])), (aB 1, .inr (2, [.ref (aB 2), .ref (aB 3), .ref (aB 4), .ref (aB 5), .ref (aB 6), .int 0])), (aB 2, .inl (cL, 30, .inr (.inl (fun _ => 0)))), (aB 3, .inl (cI, 30, .inl (fun _ => 0))), (aB 4, .inl (cI, 30, .inl (fun _ => 0))), (aB 5, .inl (cI, 4, .inl (fun _ => 0))), (aB 6, .inl (cL, 4, .inr (.inl (fun _ => 0)))), (aB 7, .inr (1, [.ref (aB 1), .ref (aB 8), .ref (aB 9), .ref (aB 10), .int 0, .int 0])), (aB 8, .inl (cI, 30, .inl (fun _ => 0))), (aB 9, .inl (cI, 4, .inl (fun _ => 0))), (aB 10, .inl (cL, 4, .inr (.inl (fun _ => 0)))), (aB 11, .inr (0, [.ref (aB 12), .long 0])), (aB 12, .inl (cI, 8, .inl (fun _ => 0))), (q2, .inr (4, [.int 0, .int 0, .ref (aM 1), .ref (aM 2), .ref (aM 3), .ref (aM 4), .ref (aM 5), .int 0, .int 0, .ref (aM 6), .ref (aM 7), .ref (aM 8)])), (aM 1, .inl (cL, 30, .inr (.inl (fun _ => 0)))), (aM 2, .inl (cI, 30, .inl (fun _ => 0))), (aM 3, .inl (cZ, 900, .inl (fun _ => 0))), (aM 4, .inl (cZ, 120, .inl (fun _ => 0))), (aM 5, .inl (cL, 4, .inr (.inl (fun _ => 0)))), (aM 6, .inl (cI, 30, .inl (fun _ => 0))), (aM 7, .inl (cI, 30, .inl (fun _ => 0))), (aM 8, .inl (cZ, 30, .inl (fun _ => 0)))]) := hD
  refine lv_astore_n (lv' := [(2, .ref q2), (1, .ref q1), (0, .ref b)]) hx hb d_law_15 rfl hl (by decide) rfl (fun ls hl => ?_)
  refine lv_iconst (v := 1) hx hb d_law_16 (by decide) ?_
  refine bz_newa (atype := .long) hx hb (htb _ wd_71) 1 rfl hK hP hD hS hA (a0 := (1, .inr (.inl (fun _ => 0)))) (bz_a0l) (by decide) (by decide) (by decide) (Nat.le_of_ble_eq_true rfl) (Nat.le_of_ble_eq_true rfl) d_law_17 (fun q3 H hP hD hS => ?_)
  refine W.widen (k := 23) (n := 1349) (Nat.le_of_ble_eq_true rfl) (Nat.le_of_ble_eq_true rfl) ?_
  have hP : va_P (dC, dI) vwCl ([(q1, .inr (3, [.ref (aB 1), .ref (aB 7), .ref (aB 11), .int 0])), (aB 1, .inr (2, [.ref (aB 2), .ref (aB 3), .ref (aB 4), .ref (aB 5), .ref (aB 6), .int 0])), (aB 2, .inl (cL, 30, .inr (.inl (fun _ => 0)))), (aB 3, .inl (cI, 30, .inl (fun _ => 0))), (aB 4, .inl (cI, 30, .inl (fun _ => 0))), (aB 5, .inl (cI, 4, .inl (fun _ => 0))), (aB 6, .inl (cL, 4, .inr (.inl (fun _ => 0)))), (aB 7, .inr (1, [.ref (aB 1), .ref (aB 8), .ref (aB 9), .ref (aB 10), .int 0, .int 0])), (aB 8, .inl (cI, 30, .inl (fun _ => 0))), (aB 9, .inl (cI, 4, .inl (fun _ => 0))), (aB 10, .inl (cL, 4, .inr (.inl (fun _ => 0)))), (aB 11, .inr (0, [.ref (aB 12), .long 0])), (aB 12, .inl (cI, 8, .inl (fun _ => 0))), (q2, .inr (4, [.int 0, .int 0, .ref (aM 1), .ref (aM 2), .ref (aM 3), .ref (aM 4), .ref (aM 5), .int 0, .int 0, .ref (aM 6), .ref (aM 7), .ref (aM 8)])), (aM 1, .inl (cL, 30, .inr (.inl (fun _ => 0)))), (aM 2, .inl (cI, 30, .inl (fun _ => 0))), (aM 3, .inl (cZ, 900, .inl (fun _ => 0))), (aM 4, .inl (cZ, 120, .inl (fun _ => 0))), (aM 5, .inl (cL, 4, .inr (.inl (fun _ => 0)))), (aM 6, .inl (cI, 30, .inl (fun _ => 0))), (aM 7, .inl (cI, 30, .inl (fun _ => 0))), (aM 8, .inl (cZ, 30, .inl (fun _ => 0))), (q3, .inl (cL, 1, .inr (.inl (fun _ => 0))))]) H := hP
  have hD : va_D (fun q : Nat => s.heap.size ≤ q) ([(q1, .inr (3, [.ref (aB 1), .ref (aB 7), .ref (aB 11), .int 0])), (aB 1, .inr (2, [.ref (aB 2), .ref (aB 3), .ref (aB 4), .ref (aB 5), .ref (aB 6), .int 0])), (aB 2, .inl (cL, 30, .inr (.inl (fun _ => 0)))), (aB 3, .inl (cI, 30, .inl (fun _ => 0))), (aB 4, .inl (cI, 30, .inl (fun _ => 0))), (aB 5, .inl (cI, 4, .inl (fun _ => 0))), (aB 6, .inl (cL, 4, .inr (.inl (fun _ => 0)))), (aB 7, .inr (1, [.ref (aB 1), .ref (aB 8), .ref (aB 9), .ref (aB 10), .int 0, .int 0])), (aB 8, .inl (cI, 30, .inl (fun _ => 0))), (aB 9, .inl (cI, 4, .inl (fun _ => 0))), (aB 10, .inl (cL, 4, .inr (.inl (fun _ => 0)))), (aB 11, .inr (0, [.ref (aB 12), .long 0])), (aB 12, .inl (cI, 8, .inl (fun _ => 0))), (q2, .inr (4, [.int 0, .int 0, .ref (aM 1), .ref (aM 2), .ref (aM 3), .ref (aM 4), .ref (aM 5), .int 0, .int 0, .ref (aM 6), .ref (aM 7), .ref (aM 8)])), (aM 1, .inl (cL, 30, .inr (.inl (fun _ => 0)))), (aM 2, .inl (cI, 30, .inl (fun _ => 0))), (aM 3, .inl (cZ, 900, .inl (fun _ => 0))), (aM 4, .inl (cZ, 120, .inl (fun _ => 0))), (aM 5, .inl (cL, 4, .inr (.inl (fun _ => 0)))), (aM 6, .inl (cI, 30, .inl (fun _ => 0))), (aM 7, .inl (cI, 30, .inl (fun _ => 0))), (aM 8, .inl (cZ, 30, .inl (fun _ => 0))), (q3, .inl (cL, 1, .inr (.inl (fun _ => 0))))]) := hD
  refine lv_astore_n (lv' := [(3, .ref q3), (2, .ref q2), (1, .ref q1), (0, .ref b)]) hx hb d_law_19 rfl hl (by decide) rfl (fun ls hl => ?_)
  refine lv_iconst (v := nI 0) hx hb d_law_20 (by decide) ?_
  refine lv_istore (lv' := [(4, .int (nI 0)), (3, .ref q3), (2, .ref q2), (1, .ref q1), (0, .ref b)]) hx hb d_law_21 hl (by decide) rfl (fun ls hl => ?_)
  have eW : bz_wB (fun k9 => if k9 = 0 then q1 else aB k9) cI cL (bz_tR bz_t0) (fun a => nI ((fun _ => 0) a), fun _ => 0, fun _ => 0, 0, 0) (fun j => nI ((fun _ => 0) j), 0) (bz_i false) ++ (bz_wM (fun k9 => if k9 = 0 then q2 else aM k9) cI cL cZ (bz_tM bz_t0) (0, bz_i false, bz_i (false && decide (bz_n bz_t0 ≤ 8))) (fun a => nI ((fun _ => 0) a), fun a => nI ((fun _ => 0) a), fun _ => 0) ++ [(q3, .inl (cL, 1, .inr (.inl (fun _ => 0))))]) = [(q1, .inr (3, [.ref (aB 1), .ref (aB 7), .ref (aB 11), .int 0])), (aB 1, .inr (2, [.ref (aB 2), .ref (aB 3), .ref (aB 4), .ref (aB 5), .ref (aB 6), .int 0])), (aB 2, .inl (cL, 30, .inr (.inl (fun _ => 0)))), (aB 3, .inl (cI, 30, .inl (fun _ => 0))), (aB 4, .inl (cI, 30, .inl (fun _ => 0))), (aB 5, .inl (cI, 4, .inl (fun _ => 0))), (aB 6, .inl (cL, 4, .inr (.inl (fun _ => 0)))), (aB 7, .inr (1, [.ref (aB 1), .ref (aB 8), .ref (aB 9), .ref (aB 10), .int 0, .int 0])), (aB 8, .inl (cI, 30, .inl (fun _ => 0))), (aB 9, .inl (cI, 4, .inl (fun _ => 0))), (aB 10, .inl (cL, 4, .inr (.inl (fun _ => 0)))), (aB 11, .inr (0, [.ref (aB 12), .long 0])), (aB 12, .inl (cI, 8, .inl (fun _ => 0))), (q2, .inr (4, [.int 0, .int 0, .ref (aM 1), .ref (aM 2), .ref (aM 3), .ref (aM 4), .ref (aM 5), .int 0, .int 0, .ref (aM 6), .ref (aM 7), .ref (aM 8)])), (aM 1, .inl (cL, 30, .inr (.inl (fun _ => 0)))), (aM 2, .inl (cI, 30, .inl (fun _ => 0))), (aM 3, .inl (cZ, 900, .inl (fun _ => 0))), (aM 4, .inl (cZ, 120, .inl (fun _ => 0))), (aM 5, .inl (cL, 4, .inr (.inl (fun _ => 0)))), (aM 6, .inl (cI, 30, .inl (fun _ => 0))), (aM 7, .inl (cI, 30, .inl (fun _ => 0))), (aM 8, .inl (cZ, 30, .inl (fun _ => 0))), (q3, .inl (cL, 1, .inr (.inl (fun _ => 0))))] := by rw [bz_t0_R]; rfl
  rw [← eW] at hP hD
  exact law_loop (ad := (fun k9 => if k9 = 0 then q1 else aB k9)) (am := (fun k9 => if k9 = 0 then q2 else aM k9)) hL hlt C0 hK hN (L + 1) 0 (by omega) (by omega) _ _ _ ⟨bz_t0, false, fun _ => 0, fun _ => 0, fun _ => 0, 0, 0, fun _ => 0, 0, 0, fun _ => 0, fun _ => 0, fun _ => 0, fun _ => 0, bz_t0_ok, fun h => absurd h (by decide), hP, hD, hS⟩ (lv_sub hl [4, 3, 2, 1, 0] rfl)

-- ===== YOUR PART ENDS =====
set_option maxHeartbeats 4000000 in
theorem lw_walk (l : Launch) (hlt : l.stackTraces = false) (b : Addr) (xs : List Int32) : MetFree l x (headSpec (Jvm.Cond.code x code maxLocals ret :: tables_1) room_1) (lw_P b xs) (fun _ _ _ _ _ => True) lw_Q := by
  refine MetFree.of_bodyS (code := code) (maxLocals := maxLocals) (ret := ret) (by decide) ?_ ?_
  · intro args s m h hn
    obtain ⟨meth, c, h1, h2, h3, h4, h5, h6, -, -⟩ := Cond.code_spec hn (atoms_spec (ws := Jvm.Cond.code x code maxLocals ret :: tables_1) h _ List.mem_cons_self)
    exact ⟨meth, c, h1, h2, h3, h4, h5, h6⟩
  · intro p e s m args below meth c s₁ B hml0 hP _
    obtain ⟨rfl, hx, hbd, hgv⟩ := hP
    obtain ⟨scr, harrAt, hlist, hof, hsmall⟩ := hx
    obtain ⟨hcb, hkn, -, -⟩ := State.arrayAt?_spec harrAt
    have hown : s.vm.findClass R_law = some m.cls := findClass_of_methodNamed B.named
    have hts0 : ∀ c ∈ (Jvm.Cond.code x code maxLocals ret :: tables_1), c.before #[Value.ref b] s = true := atoms_spec (ws := Jvm.Cond.code x code maxLocals ret :: tables_1) B.pre
    have hts : ∀ w ∈ lw_tbl, w.before #[Value.ref b] s = true := k2_hts_sels lw_privs (fun w hw => hts0 w (List.mem_cons_of_mem _ hw)) lw_privs_ok
    have hml : c.maxLocals = 7 := B.maxLocals_eq (hts0 _ List.mem_cons_self)
    have X₀ : Stand p l e room_1 s m #[Value.ref b] below meth c s₁ [] 0 0 := Stand.of_body B
    have hh0 : s₁.heap = s.heap := by rw [B.state]; rfl
    have hsz : scr.slots.size = xs.length := by rw [← Array.length_toList, hlist, List.length_map]
    have hval : ∀ j : Nat, j < xs.length → scr.slots[j]? = some (.int (xs.getD j 0)) := fun j hj => by
      rw [← Array.getElem?_toList, hlist]
      simp [hj]
    have hbl : b < s.heap.size := (Array.getElem?_eq_some_iff.mp hcb).1
    have hX : va_X b xs.length (fun j => xs.getD j 0) s s.heap := ⟨scr, hcb, hof, hkn, hsz, hval⟩
    have K : W p l e room_1 s m #[Value.ref b] below meth c s₁.heap [] 0 0 (lw_Z below #[Value.ref b] s) (entryFrame m ([Value.ref b] : List Value).toArray 7) := by
      rw [hh0]
      exact whole_start l hlt hbd ⟨B.exec, B.bytes, B.returns, hml, hown, hts, hX, hbl, B.notSynchronized, hgv⟩
    obtain ⟨t, a1, o, b1, b2, b3⟩ := K s₁ rfl X₀
    exact ⟨t, o, a1, b1, b2, b3⟩
theorem lw_pre_spec {args : Array Value} {s : State} (h : (Jvm.Cond.and given_1 narrow_1).before args s = true) (hr : rest_1_c.before args s = true) : ∃ (b : Addr) (xs : List Int32), lw_P b xs args s := by
  have hs := flat_of_before _ h
  have hq := flat_of_before _ hr
  have hc : (Cond.count 1).before args s = true := hs _ (by decide +kernel)
  have harr : (Cond.arrayOf (.arg 0) .int).before args s = true := hs _ (by decide +kernel)
  have hle : (Cond.le (.length (.arg 0)) (.int 2048)).before args s = true := hs _ (by decide +kernel)
  have hlen : (Cond.isInt (.length (.arg 0))).before args s = true := hq _ (by decide +kernel)
  have hall : (Cond.all (.arg 0) (.isInt (.elem (.arg 0) (.index 0)))).before args s = true := hq _ (by decide +kernel)
  obtain ⟨b, xs, hb, hx⟩ := State.ints_of_pre rfl harr hlen hall
  have hsm : xs.length < 2 ^ 31 := hx.choose_spec.2.2.2
  have hev : (Term.length (.arg 0)).eval args s none [] s = some (.int xs.length.toInt32) := hx.length_eval hb
  have hv := Cond.le_ints hev (show (Term.int 2048).eval args s none [] s = some (.int 2048) from rfl)
  have hd : xs.length.toInt32 ≤ 2048 := by
    simpa [Cond.before, Cond.holds, hv] using hle
  have hN : xs.length ≤ 2048 := (Int32.ofNat_le_ofNat hsm (by decide)).mp (show Int32.ofNat xs.length ≤ Int32.ofNat 2048 from hd)
  exact ⟨b, xs, Cond.one_arg hc (show args[0]? = some (.ref b) from hb), hx, hN, h⟩
theorem lw_comes (l : Launch) (hlt : l.stackTraces = false) : Comes l x (Jvm.Cond.code x code maxLocals ret :: tables_1) room_1 (fun tb e args s => Calls_1 tb e args s ∧ rest_1 tb e args s ∧ Pre_1 tb e args s)
    (fun _ _ args s o t => lw_Q args s o t) := by
  intro p e ha hc hk s m args below hf hfit hheap happ hpre
  obtain ⟨b, xs, hP⟩ := lw_pre_spec hpre.2.2 hpre.2.1
  obtain ⟨k, o, h1, h2, h3, hQ⟩ := lw_walk l hlt b xs p e ha hc hk s m args below hf ((Spec.applies_iff_loose hf).mp happ).1 hP trivial
  exact ⟨k, o, h1, h2, h3, hQ⟩
theorem lw_frame {s t : State} {o : Outcome} {args : Array Value} (h : Framed s o t [] 601024 7293034) :
    Framed s o t (fieldLocs frame_1_writes args s ++ arrayLocs frame_1_arrays args s ++ staticLocs frame_1_statics s) 601024 7293034 := h
theorem lw_limb (L : Cond) (hL : ∀ (args : Array Value) (s t : State), L.after args s (.returned (some (.int 1))) t = true) :
    ArmFor flags0 classFile x code maxLocals ret World_1 tables_1 room_1 Calls_1 rest_1 Pre_1
      (fun tb e a s o t => postC L tb e a s o t ∧ Framed s o t (fieldLocs frame_1_writes a s ++ arrayLocs frame_1_arrays a s ++ staticLocs frame_1_statics s) 601024 7293034) := by
  intro l hfl _ _ p e ha hc hk s m args below hf hfit hheap happ hpre
  obtain ⟨k, o, h1, h2, h3, rfl, hF⟩ := lw_comes l (by unfold Launch.stackTraces; rw [hfl]; decide) p e ha hc hk s m args below hf hfit hheap happ hpre
  exact ⟨k, _, h1, h2, h3, hL args s _, lw_frame hF⟩
theorem i_vc : Claimed_1_1 ∧ Claimed_1_2 := ⟨lw_limb limb_1_1 (fun args s t => by simp [limb_1_1, Cond.after, Cond.holds, Cond.value]), lw_limb limb_1_2 (fun args s t => Cond.after_iff.mpr (by
  first | (rw [show limb_1_2 = Cond.eq .result (.int 1) from rfl, Cond.eq_ints (x := 1) (y := 1) rfl rfl]; simp; done) | (simp [limb_1_2, Cond.value, Term.eval]; done)))⟩
