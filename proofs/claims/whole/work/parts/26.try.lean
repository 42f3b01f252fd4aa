theorem d_B_tryRoundsFrom_0 : decode b_B_tryRoundsFrom 0 = .ok (.aload_n 1, 1) := by decide +kernel
theorem d_B_tryRoundsFrom_1 : decode b_B_tryRoundsFrom 1 = .ok (.invokevirtual 143, 3) := by decide +kernel
theorem d_B_tryRoundsFrom_4 : decode b_B_tryRoundsFrom 4 = .ok (.lstore_n 3, 1) := by decide +kernel
theorem d_B_tryRoundsFrom_5 : decode b_B_tryRoundsFrom 5 = .ok (.lload_n 3, 1) := by decide +kernel
theorem d_B_tryRoundsFrom_6 : decode b_B_tryRoundsFrom 6 = .ok (.aload_n 2, 1) := by decide +kernel
theorem d_B_tryRoundsFrom_7 : decode b_B_tryRoundsFrom 7 = .ok (.getfield 146, 3) := by decide +kernel
theorem d_B_tryRoundsFrom_10 : decode b_B_tryRoundsFrom 10 = .ok (.lcmp, 1) := by decide +kernel
theorem d_B_tryRoundsFrom_11 : decode b_B_tryRoundsFrom 11 = .ok (.ifCond .lt 4, 3) := by decide +kernel
theorem d_B_tryRoundsFrom_14 : decode b_B_tryRoundsFrom 14 = .ok (.return_, 1) := by decide +kernel
theorem d_B_tryRoundsFrom_15 : decode b_B_tryRoundsFrom 15 = .ok (.iload_n 0, 1) := by decide +kernel
theorem d_B_tryRoundsFrom_16 : decode b_B_tryRoundsFrom 16 = .ok (.aload_n 1, 1) := by decide +kernel
theorem d_B_tryRoundsFrom_17 : decode b_B_tryRoundsFrom 17 = .ok (.getfield 159, 3) := by decide +kernel
theorem d_B_tryRoundsFrom_20 : decode b_B_tryRoundsFrom 20 = .ok (.getfield 42, 3) := by decide +kernel
theorem d_B_tryRoundsFrom_23 : decode b_B_tryRoundsFrom 23 = .ok (.if_icmp .ge 9, 3) := by decide +kernel
theorem d_B_tryRoundsFrom_26 : decode b_B_tryRoundsFrom 26 = .ok (.iload_n 0, 1) := by decide +kernel
theorem d_B_tryRoundsFrom_27 : decode b_B_tryRoundsFrom 27 = .ok (.bipush 8, 2) := by decide +kernel
theorem d_B_tryRoundsFrom_29 : decode b_B_tryRoundsFrom 29 = .ok (.if_icmp .lt 10, 3) := by decide +kernel
theorem d_B_tryRoundsFrom_32 : decode b_B_tryRoundsFrom 32 = .ok (.aload_n 2, 1) := by decide +kernel
theorem d_B_tryRoundsFrom_33 : decode b_B_tryRoundsFrom 33 = .ok (.aload_n 1, 1) := by decide +kernel
theorem d_B_tryRoundsFrom_34 : decode b_B_tryRoundsFrom 34 = .ok (.lload_n 3, 1) := by decide +kernel
theorem d_B_tryRoundsFrom_35 : decode b_B_tryRoundsFrom 35 = .ok (.invokevirtual 160, 3) := by decide +kernel
theorem d_B_tryRoundsFrom_38 : decode b_B_tryRoundsFrom 38 = .ok (.return_, 1) := by decide +kernel
theorem d_B_tryRoundsFrom_39 : decode b_B_tryRoundsFrom 39 = .ok (.iconst 0, 1) := by decide +kernel
theorem d_B_tryRoundsFrom_40 : decode b_B_tryRoundsFrom 40 = .ok (.istore 5, 2) := by decide +kernel
theorem d_B_tryRoundsFrom_42 : decode b_B_tryRoundsFrom 42 = .ok (.iload 5, 2) := by decide +kernel
theorem d_B_tryRoundsFrom_44 : decode b_B_tryRoundsFrom 44 = .ok (.iconst 4, 1) := by decide +kernel
theorem d_B_tryRoundsFrom_45 : decode b_B_tryRoundsFrom 45 = .ok (.if_icmp .ge 29, 3) := by decide +kernel
theorem d_B_tryRoundsFrom_48 : decode b_B_tryRoundsFrom 48 = .ok (.aload_n 1, 1) := by decide +kernel
theorem d_B_tryRoundsFrom_49 : decode b_B_tryRoundsFrom 49 = .ok (.iload_n 0, 1) := by decide +kernel
theorem d_B_tryRoundsFrom_50 : decode b_B_tryRoundsFrom 50 = .ok (.iload 5, 2) := by decide +kernel
theorem d_B_tryRoundsFrom_52 : decode b_B_tryRoundsFrom 52 = .ok (.invokevirtual 164, 3) := by decide +kernel
theorem d_B_tryRoundsFrom_55 : decode b_B_tryRoundsFrom 55 = .ok (.iload_n 0, 1) := by decide +kernel
theorem d_B_tryRoundsFrom_56 : decode b_B_tryRoundsFrom 56 = .ok (.iconst 1, 1) := by decide +kernel
theorem d_B_tryRoundsFrom_57 : decode b_B_tryRoundsFrom 57 = .ok (.iadd, 1) := by decide +kernel
theorem d_B_tryRoundsFrom_58 : decode b_B_tryRoundsFrom 58 = .ok (.aload_n 1, 1) := by decide +kernel
theorem d_B_tryRoundsFrom_59 : decode b_B_tryRoundsFrom 59 = .ok (.aload_n 2, 1) := by decide +kernel
theorem d_B_tryRoundsFrom_60 : decode b_B_tryRoundsFrom 60 = .ok (.invokestatic 152, 3) := by decide +kernel
theorem d_B_tryRoundsFrom_63 : decode b_B_tryRoundsFrom 63 = .ok (.aload_n 1, 1) := by decide +kernel
theorem d_B_tryRoundsFrom_64 : decode b_B_tryRoundsFrom 64 = .ok (.iload_n 0, 1) := by decide +kernel
theorem d_B_tryRoundsFrom_65 : decode b_B_tryRoundsFrom 65 = .ok (.invokevirtual 167, 3) := by decide +kernel
theorem d_B_tryRoundsFrom_68 : decode b_B_tryRoundsFrom 68 = .ok (.iinc 5 1, 3) := by decide +kernel
theorem d_B_tryRoundsFrom_71 : decode b_B_tryRoundsFrom 71 = .ok (.goto (-29), 3) := by decide +kernel
theorem d_B_tryRoundsFrom_74 : decode b_B_tryRoundsFrom 74 = .ok (.return_, 1) := by decide +kernel
theorem d_B_findLeastShare_0 : decode b_B_findLeastShare 0 = .ok (.aload_n 0, 1) := by decide +kernel
theorem d_B_findLeastShare_1 : decode b_B_findLeastShare 1 = .ok (.getfield 21, 3) := by decide +kernel
theorem d_B_findLeastShare_4 : decode b_B_findLeastShare 4 = .ok (.aload_n 0, 1) := by decide +kernel
theorem d_B_findLeastShare_5 : decode b_B_findLeastShare 5 = .ok (.getfield 12, 3) := by decide +kernel
theorem d_B_findLeastShare_8 : decode b_B_findLeastShare 8 = .ok (.getfield 136, 3) := by decide +kernel
theorem d_B_findLeastShare_11 : decode b_B_findLeastShare 11 = .ok (.invokevirtual 139, 3) := by decide +kernel
theorem d_B_findLeastShare_14 : decode b_B_findLeastShare 14 = .ok (.aload_n 0, 1) := by decide +kernel
theorem d_B_findLeastShare_15 : decode b_B_findLeastShare 15 = .ok (.getfield 28, 3) := by decide +kernel
theorem d_B_findLeastShare_18 : decode b_B_findLeastShare 18 = .ok (.aload_n 0, 1) := by decide +kernel
theorem d_B_findLeastShare_19 : decode b_B_findLeastShare 19 = .ok (.getfield 21, 3) := by decide +kernel
theorem d_B_findLeastShare_22 : decode b_B_findLeastShare 22 = .ok (.invokevirtual 143, 3) := by decide +kernel
theorem d_B_findLeastShare_25 : decode b_B_findLeastShare 25 = .ok (.lconst 1, 1) := by decide +kernel
theorem d_B_findLeastShare_26 : decode b_B_findLeastShare 26 = .ok (.ladd, 1) := by decide +kernel
theorem d_B_findLeastShare_27 : decode b_B_findLeastShare 27 = .ok (.putfield 146, 3) := by decide +kernel
theorem d_B_findLeastShare_30 : decode b_B_findLeastShare 30 = .ok (.aload_n 0, 1) := by decide +kernel
theorem d_B_findLeastShare_31 : decode b_B_findLeastShare 31 = .ok (.getfield 21, 3) := by decide +kernel
theorem d_B_findLeastShare_34 : decode b_B_findLeastShare 34 = .ok (.invokevirtual 149, 3) := by decide +kernel
theorem d_B_findLeastShare_37 : decode b_B_findLeastShare 37 = .ok (.iconst 0, 1) := by decide +kernel
theorem d_B_findLeastShare_38 : decode b_B_findLeastShare 38 = .ok (.aload_n 0, 1) := by decide +kernel
theorem d_B_findLeastShare_39 : decode b_B_findLeastShare 39 = .ok (.getfield 21, 3) := by decide +kernel
theorem d_B_findLeastShare_42 : decode b_B_findLeastShare 42 = .ok (.aload_n 0, 1) := by decide +kernel
theorem d_B_findLeastShare_43 : decode b_B_findLeastShare 43 = .ok (.getfield 28, 3) := by decide +kernel
theorem d_B_findLeastShare_46 : decode b_B_findLeastShare 46 = .ok (.invokestatic 152, 3) := by decide +kernel
theorem d_B_findLeastShare_49 : decode b_B_findLeastShare 49 = .ok (.aload_n 0, 1) := by decide +kernel
theorem d_B_findLeastShare_50 : decode b_B_findLeastShare 50 = .ok (.getfield 21, 3) := by decide +kernel
theorem d_B_findLeastShare_53 : decode b_B_findLeastShare 53 = .ok (.aload_n 0, 1) := by decide +kernel
theorem d_B_findLeastShare_54 : decode b_B_findLeastShare 54 = .ok (.getfield 28, 3) := by decide +kernel
theorem d_B_findLeastShare_57 : decode b_B_findLeastShare 57 = .ok (.getfield 156, 3) := by decide +kernel
theorem d_B_findLeastShare_60 : decode b_B_findLeastShare 60 = .ok (.invokevirtual 139, 3) := by decide +kernel
theorem d_B_findLeastShare_63 : decode b_B_findLeastShare 63 = .ok (.return_, 1) := by decide +kernel

theorem bz_be_pu (k r : Nat) (f : Nat → Nat) : bz_pu (bz_be k f) k r = bz_be (k + 1) (va_up f k r) := by
  refine Prod.ext rfl (funext fun a => ?_)
  show va_up _ k false a = decide (k + 1 ≤ a)
  by_cases e : a = k
  · subst e
    rw [bz_up_s, decide_eq_false (by omega)]
  · rw [bz_up_n _ _ e]
    show decide (k ≤ a) = _
    exact decide_eq_decide.mpr (by omega)
theorem bz_be_ta (k : Nat) (f : Nat → Nat) : bz_ta (bz_be (k + 1) f) k = bz_be k f := by
  refine Prod.ext rfl (funext fun a => ?_)
  show va_up _ k true a = decide (k ≤ a)
  by_cases e : a = k
  · subst e
    rw [bz_up_s, decide_eq_true (by omega)]
  · rw [bz_up_n _ _ e]
    show decide (k + 1 ≤ a) = _
    exact decide_eq_decide.mpr (by omega)
theorem bz_be_0 (f : Nat → Nat) : bz_be 0 f = (f, fun _ => true) := Prod.ext rfl (funext fun a => decide_eq_true (Nat.zero_le a))

/-- the contract of the search from area k on, d areas being open -/
def bz_TC (l : Launch) (dC : Nat → ClassId) (dI : Nat → Nat → Nat) (ad : Nat → Nat) (cI cL : ClassId) (t : bz_T) (v : Int32) (d : Nat) : Prop :=
  ∀ (sz k : Nat) (f : Nat → Nat) (b : Nat × (Nat → Nat)), k + d = bz_n t → (∀ a, a < k → f a < 4) → b.1 ≤ 154003000000031 → bz_n t ≤ 8 → Met l y_B_tryRoundsFrom w_B_tryRoundsFrom ({ frames := 4 + d, cells := 0, slots := 0, locals := 89 + 25 * d }) (bz_Pw (dC, dI) [(cI, .int), (cL, .long)] (bz_wB ad cI cL (bz_tR t) (bz_sR t (bz_be k f)) (fun j => nI (b.2 j), lN b.1) v) sz [.int (nI k), .ref (ad 7), .ref (ad 11)]) (bz_Qx (dC, dI) [(cI, .int), (cL, .long)] (va_A (bz_wB ad cI cL (bz_tR t) (bz_sR t (bz_be k f)) (fun j => nI (b.2 j), lN b.1) v) sz) (fun u : (Nat → Nat) × (Nat × (Nat → Nat)) => (∀ a, a < k → u.1 a = f a) ∧ bz_up t (bz_E t k f) b u.2 ∧ u.2.1 ≤ b.1) (fun u : (Nat → Nat) × (Nat × (Nat → Nat)) => bz_wB ad cI cL (bz_tR t) (bz_sR t (bz_be k u.1)) (fun j => nI (u.2.2 j), lN u.2.1) v)) 0 0 (va_A (bz_wB ad cI cL (bz_tR t) (bz_sR t (bz_be k f)) (fun j => nI (b.2 j), lN b.1) v) sz)

set_option maxHeartbeats 4000000 in
set_option maxRecDepth 100000 in
/-- tryRoundsFrom, one level -/
theorem c_B_tryRoundsFrom (l : Launch) (dC : Nat → ClassId) (dI : Nat → Nat → Nat) (sz : Nat) (ad : Nat → Nat) (cI cL : ClassId) (t : bz_T) (v : Int32) (ht : bz_ok t) (d : Nat) (ih : ∀ d2, d2 + 1 = d → bz_TC l dC dI ad cI cL t v d2) (k : Nat) (f : Nat → Nat) (b : Nat × (Nat → Nat)) (hkd : k + d = bz_n t) (hf : ∀ a, a < k → f a < 4) (hb0 : b.1 ≤ 154003000000031) (hn8 : bz_n t ≤ 8) : Met l y_B_tryRoundsFrom w_B_tryRoundsFrom ({ frames := 4 + d, cells := 0, slots := 0, locals := 89 + 25 * d }) (bz_Pw (dC, dI) [(cI, .int), (cL, .long)] (bz_wB ad cI cL (bz_tR t) (bz_sR t (bz_be k f)) (fun j => nI (b.2 j), lN b.1) v) sz [.int (nI k), .ref (ad 7), .ref (ad 11)]) (bz_Qx (dC, dI) [(cI, .int), (cL, .long)] (va_A (bz_wB ad cI cL (bz_tR t) (bz_sR t (bz_be k f)) (fun j => nI (b.2 j), lN b.1) v) sz) (fun u : (Nat → Nat) × (Nat × (Nat → Nat)) => (∀ a, a < k → u.1 a = f a) ∧ bz_up t (bz_E t k f) b u.2 ∧ u.2.1 ≤ b.1) (fun u : (Nat → Nat) × (Nat × (Nat → Nat)) => bz_wB ad cI cL (bz_tR t) (bz_sR t (bz_be k u.1)) (fun j => nI (u.2.2 j), lN u.2.1) v)) 0 0 (va_A (bz_wB ad cI cL (bz_tR t) (bz_sR t (bz_be k f)) (fun j => nI (b.2 j), lN b.1) v) sz) := by
  refine Met.ofW (cc := b_B_tryRoundsFrom) (maxL := 6) (ret := none) (by decide) rfl ?_
  intro p e s m args below meth c s₁ B hml hv
  obtain ⟨rfl, hsz, hP, hK, hD0, hN⟩ := hv
  have hx := B.exec
  have hb := B.bytes
  have hr := B.returns
  have hts := atoms_spec (ws := w_B_tryRoundsFrom) B.pre
  have hown : s.vm.findClass R_B = some m.cls := findClass_of_methodNamed B.named
  have htb : ∀ w ∈ bz_tb, w.before _ s = true := fun w h => hts w (List.mem_cons_of_mem _ h)
  have hlocks := B.notSynchronized
  subst hsz
  have hD := hD0.self (sz := s.heap.size)
  generalize hAe : va_A (bz_wB ad cI cL (bz_tR t) (bz_sR t (bz_be k f)) (fun j => nI (b.2 j), lN b.1) v) s.heap.size = A at hD ⊢
  have hA : ∀ q : Nat, s.heap.size ≤ q → A q := fun q h => by rw [← hAe]; exact Or.inr h
  have hS : va_S A s.heap s.heap [] := va_S.rf
  have hl := lv_entry ([.int (nI k), .ref (ad 7), .ref (ad 11)]) (n := 6) (Nat.le_of_ble_eq_true rfl)
  rw [lg_entry_eq]
  generalize (lg_sl ([.int (nI k), .ref (ad 7), .ref (ad 11)]) ++ List.replicate (6 - (lg_sl ([.int (nI k), .ref (ad 7), .ref (ad 11)])).length) Slot.unset).toArray = ls at hl ⊢
  have hl : lv_has ls 6 [(0, .int (nI k)), (1, .ref (ad 7)), (2, .ref (ad 11))] := hl
  have hn30 := ht.1
  have hcb := bz_co_le ht (bz_be k f)
  refine lv_aload_n hx hb d_B_tryRoundsFrom_0 rfl (lv_at hl 1 rfl) ?_
  refine bz_sl (va_runV (As := []) (rest := []) ⟨hx, hb, hml, hown, htb⟩ (c_S_cost l dC dI ad cI cL t (bz_be k f) (fun j => nI (b.2 j), lN b.1) v ht) (cwV 0 htb (bz_gV wd_211 wd_208 wd_209 wd_210 wd_21) rfl rfl rfl (by decide +kernel) ⟨show 4 ≤ 4 + d by omega, show 89 ≤ 89 + 25 * d by omega⟩) (bz_rv hN hK hP (q0 := 7) rfl rfl) rfl rfl hl.1 rfl (lv_room (Nat.le_of_ble_eq_true rfl)) d_B_tryRoundsFrom_1 ⟨Nat.zero_le _, Nat.zero_le _⟩) ?_
  refine lv_lstore_n (lv' := [(3, .long (lN (bz_co t (bz_be k f)))), (0, .int (nI k)), (1, .ref (ad 7)), (2, .ref (ad 11))]) hx hb d_B_tryRoundsFrom_4 rfl hl (by decide) rfl (fun ls hl => ?_)
  refine lv_lload_n hx hb d_B_tryRoundsFrom_5 rfl (lv_at hl 0 rfl) ?_
  refine lv_aload_n hx hb d_B_tryRoundsFrom_6 rfl (lv_at hl 3 rfl) ?_
  refine va_getN (D := (dC, dI)) (ci := 0) (v := .long (lN b.1)) (C := R_Le) (T := F_Le) (N := 2) hx hb htb in_Le hown hK hP 11 rfl rfl 1 (by decide) (va_Nw.use rfl (hN _ nd_111)) (fun _ h9 => h9) rfl d_B_tryRoundsFrom_7 ?_
  refine W.lcmp hx hb d_B_tryRoundsFrom_10 ?_
  refine lv_if_lt (tgt := 15) hx hb d_B_tryRoundsFrom_11 (by decide) (fun c_11 => ?_) (fun c_11 => ?_)
  · skip
    have hco : bz_co t (bz_be k f) < b.1 := (bz_lc_lt (by omega) (by omega)).mp c_11
    refine lv_iload_n hx hb d_B_tryRoundsFrom_15 rfl (lv_at hl 1 rfl) ?_
    refine lv_aload_n hx hb d_B_tryRoundsFrom_16 rfl (lv_at hl 2 rfl) ?_
    refine va_getN (D := (dC, dI)) (ci := 1) (v := .ref (ad 1)) (C := R_S) (T := F_S) (N := 6) hx hb htb in_S hown hK hP 7 rfl rfl 0 (by decide) (va_Nw.use rfl (hN _ nd_80)) (fun _ h9 => h9) rfl d_B_tryRoundsFrom_17 ?_
    refine va_getN (D := (dC, dI)) (ci := 2) (v := .int (nI (bz_n t))) (C := R_T) (T := F_T) (N := 6) hx hb htb in_T hown hK hP 1 rfl rfl 5 (by decide) (va_Nw.use rfl (hN _ nd_57)) (fun _ h9 => h9) rfl d_B_tryRoundsFrom_20 ?_
    refine lv_icmp_ge (tgt := 32) hx hb d_B_tryRoundsFrom_23 (by decide) (fun c_23 => ?_) (fun c_23 => ?_)
    · skip
      have hkn := (nI_leI (by omega) (by omega)).mp c_23
      refine lv_aload_n hx hb d_B_tryRoundsFrom_32 rfl (lv_at hl 3 rfl) ?_
      refine lv_aload_n hx hb d_B_tryRoundsFrom_33 rfl (lv_at hl 2 rfl) ?_
      refine lv_lload_n hx hb d_B_tryRoundsFrom_34 rfl (lv_at hl 0 rfl) ?_
      refine bz_cv (va_runV (As := [.ref (ad 7), .long (lN (bz_co t (bz_be k f)))]) (rest := []) ⟨hx, hb, hml, hown, htb⟩ (c_Le_keep l dC dI _ ad cI cL t (bz_be k f) (fun j => nI (b.2 j), lN b.1) v ht _) (cwV 2 htb (bz_gV wd_250 wd_247 wd_248 wd_249 wd_22) rfl rfl rfl (by decide +kernel) ⟨show 2 ≤ 4 + d by omega, show 83 ≤ 89 + 25 * d by omega⟩) (bz_wv hN hK hP hD (q0 := 11) rfl rfl) rfl rfl hl.1 rfl (lv_room (Nat.le_of_ble_eq_true rfl)) d_B_tryRoundsFrom_35 ⟨Nat.zero_le _, Nat.zero_le _⟩) hD hS hA (fun H locs hP hD hS => ?_)
      have hP : va_P (dC, dI) vwCl (bz_wB ad cI cL (bz_tR t) (bz_sR t (bz_be k f)) ((fun j => nI ((bz_be k f).1 j)), lN (bz_co t (bz_be k f))) v) H := hP
      have hD : va_D A (bz_wB ad cI cL (bz_tR t) (bz_sR t (bz_be k f)) ((fun j => nI ((bz_be k f).1 j)), lN (bz_co t (bz_be k f))) v) := hD
      exact W.vret hx hb hr (fun t9 ht9 hW => ⟨⟨(f, (bz_co t (bz_be k f), f)), rfl, ⟨fun _ _ => rfl, bz_leaf (by omega) (fun a ha => hf a (by omega)) (fun _ _ => rfl) hco, Nat.le_of_lt hco⟩, by rw [ht9]; exact hP, va_K.moved hW.alike hK, hD⟩, hS.F ht9⟩) hS.2.2 d_B_tryRoundsFrom_38
    · skip
      have hkn : k < bz_n t := Nat.lt_of_not_le fun z => c_23 ((nI_leI (by omega) (by omega)).mpr z)
      refine lv_iload_n hx hb d_B_tryRoundsFrom_26 rfl (lv_at hl 1 rfl) ?_
      refine lv_bipush (v := 8) hx hb d_B_tryRoundsFrom_27 (by decide) ?_
      refine lv_icmp_lt (tgt := 39) hx hb d_B_tryRoundsFrom_29 (by decide) (fun c_29 => ?_) (fun c_29 => ?_)
      · skip
        refine lv_iconst (v := nI 0) hx hb d_B_tryRoundsFrom_39 (by decide) ?_
        refine lv_istore (lv' := [(5, .int (nI 0)), (3, .long (lN (bz_co t (bz_be k f)))), (0, .int (nI k)), (1, .ref (ad 7)), (2, .ref (ad 11))]) hx hb d_B_tryRoundsFrom_40 hl (by decide) rfl (fun ls hl => ?_)
        have lp : ∀ (k9 : Nat) (j : Nat) (f2 : Nat → Nat) (c2 : Nat × (Nat → Nat)), 4 - j < k9 → (j ≤ 4) → (∀ a, a < k → f2 a = f a) → (bz_up t (fun s => bz_E t k f s ∧ s k < j) b c2) → (c2.1 ≤ b.1) → ∀ (H : Heap) (locs : List Loc), va_P (dC, dI) vwCl (bz_wB ad cI cL (bz_tR t) (bz_sR t (bz_be k f2)) (fun j => nI (c2.2 j), lN c2.1) v) H → va_D A (bz_wB ad cI cL (bz_tR t) (bz_sR t (bz_be k f2)) (fun j => nI (c2.2 j), lN c2.1) v) → va_S A s.heap H locs → ∀ (ls : Array Slot), lv_has ls 6 [(0, .int (nI k)), (1, .ref (ad 7)), (2, .ref (ad 11)), (5, .int (nI j))] → W p l e (headSpec w_B_tryRoundsFrom ({ frames := 4 + d, cells := 0, slots := 0, locals := 89 + 25 * d })).room s m ([.int (nI k), .ref (ad 7), .ref (ad 11)]).toArray below meth c H locs 0 0 (MQ below (bz_Qx (dC, dI) [(cI, .int), (cL, .long)] A (fun u : (Nat → Nat) × (Nat × (Nat → Nat)) => (∀ a, a < k → u.1 a = f a) ∧ bz_up t (bz_E t k f) b u.2 ∧ u.2.1 ≤ b.1) (fun u : (Nat → Nat) × (Nat × (Nat → Nat)) => bz_wB ad cI cL (bz_tR t) (bz_sR t (bz_be k u.1)) (fun j => nI (u.2.2 j), lN u.2.1) v)) ([.int (nI k), .ref (ad 7), .ref (ad 11)]).toArray s 0 0 (A)) (F0 m 42 ls []) := by
          intro k9
          induction k9 with
          | zero =>
            intro j f2 c2 h9
            exact absurd h9 (Nat.not_lt_zero _)
          | succ k9 ihlp =>
            intro j f2 c2 h9_lp hj hf2 hup hc2 H locs hP hD hS ls hl
            refine lv_iload hx hb d_B_tryRoundsFrom_42 (lv_at hl 3 rfl) ?_
            refine lv_iconst (v := 4) hx hb d_B_tryRoundsFrom_44 (by decide) ?_
            refine lv_icmp_ge (tgt := 74) hx hb d_B_tryRoundsFrom_45 (by decide) (fun c_45 => ?_) (fun c_45 => ?_)
            · skip
              have hj4 : j = 4 := by have := (nI_leI (a := 4) (by omega) (by omega)).mp c_45; omega
              exact W.vret hx hb hr (fun t9 ht9 hW => ⟨⟨(f2, c2), rfl, ⟨hf2, bz_rd4 (by omega) (by rw [← hj4]; exact hup), hc2⟩, by rw [ht9]; exact hP, va_K.moved hW.alike hK, hD⟩, hS.F ht9⟩) hS.2.2 d_B_tryRoundsFrom_74
            · skip
              have hj4 : j < 4 := Nat.lt_of_not_le fun z => c_45 ((nI_leI (a := 4) (b := j) (by omega) (by omega)).mpr z)
              refine lv_aload_n hx hb d_B_tryRoundsFrom_48 rfl (lv_at hl 1 rfl) ?_
              refine lv_iload_n hx hb d_B_tryRoundsFrom_49 rfl (lv_at hl 0 rfl) ?_
              refine lv_iload hx hb d_B_tryRoundsFrom_50 (lv_at hl 3 rfl) ?_
              refine bz_cv (va_runV (As := [.int (nI k), .int (nI j)]) (rest := []) ⟨hx, hb, hml, hown, htb⟩ (c_S_put l dC dI _ ad cI cL t (bz_be k f2) (fun j => nI (c2.2 j), lN c2.1) v ht _ _ (by omega) (by omega) (decide_eq_true (Nat.le_refl _))) (cwV 2 htb (bz_gV wd_200 wd_254 wd_198 wd_199 wd_21) rfl rfl rfl (by decide +kernel) ⟨show 3 ≤ 4 + d by omega, show 66 ≤ 89 + 25 * d by omega⟩) (bz_wv hN hK hP hD (q0 := 7) rfl rfl) rfl rfl hl.1 rfl (lv_room (Nat.le_of_ble_eq_true rfl)) d_B_tryRoundsFrom_52 ⟨Nat.zero_le _, Nat.zero_le _⟩) hD hS hA (fun H locs hP hD hS => ?_)
              have hP : va_P (dC, dI) vwCl (bz_wB ad cI cL (bz_tR t) (bz_sR t (bz_pu (bz_be k f2) k j)) (fun j => nI (c2.2 j), lN c2.1) v) H := hP
              have hD : va_D A (bz_wB ad cI cL (bz_tR t) (bz_sR t (bz_pu (bz_be k f2) k j)) (fun j => nI (c2.2 j), lN c2.1) v) := hD
              have e9 : bz_sR t (bz_be (k + 1) (va_up f2 k j)) = bz_sR t (bz_pu (bz_be k f2) k j) := by rw [bz_be_pu]
              have hP : va_P (dC, dI) vwCl (bz_wB ad cI cL (bz_tR t) (bz_sR t (bz_be (k + 1) (va_up f2 k j))) (fun j => nI (c2.2 j), lN c2.1) v) H := by rw [e9]; exact hP
              have hD : va_D A (bz_wB ad cI cL (bz_tR t) (bz_sR t (bz_be (k + 1) (va_up f2 k j))) (fun j => nI (c2.2 j), lN c2.1) v) := by rw [e9]; exact hD
              refine lv_iload_n hx hb d_B_tryRoundsFrom_55 rfl (lv_at hl 0 rfl) ?_
              refine lv_iconst (v := 1) hx hb d_B_tryRoundsFrom_56 (by decide) ?_
              refine lv_iadd hx hb d_B_tryRoundsFrom_57 ?_
              refine bz_ri (y := nI (k + 1)) (nI_1 _) ?_
              refine lv_aload_n hx hb d_B_tryRoundsFrom_58 rfl (lv_at hl 1 rfl) ?_
              refine lv_aload_n hx hb d_B_tryRoundsFrom_59 rfl (lv_at hl 2 rfl) ?_
              obtain ⟨d2, hd2⟩ : ∃ d2, d2 + 1 = d := ⟨d - 1, by omega⟩
              refine bz_cx (va_runS (As := [.int (nI (k + 1)), .ref (ad 7), .ref (ad 11)]) (rest := []) ⟨hx, hb, hml, hown, htb⟩ (ih d2 hd2 _ (k + 1) (va_up f2 k j) c2 (by omega) (fun a ha => by by_cases e : a = k; { subst e; rw [bz_up_s]; omega }; { rw [bz_up_n _ _ e, hf2 a (by omega)]; exact hf a (by omega) }) (by omega) hn8) (va_cwS 3 htb (bz_gS wd_246 wd_244 wd_245 wd_19) rfl rfl rfl (by decide +kernel) ⟨show 4 + d2 + 1 ≤ 4 + d by omega, show 8 + (6 + 11) + (89 + 25 * d2) ≤ 89 + 25 * d by omega⟩) (bz_ws hN hK hP hD) rfl rfl hl.1 rfl (lv_room (Nat.le_of_ble_eq_true rfl)) d_B_tryRoundsFrom_60 ⟨Nat.zero_le _, Nat.zero_le _⟩) hD hS hA (fun u hu H locs hP hD hS => ?_)
              obtain ⟨f3, c3⟩ := u
              obtain ⟨hu1, hu2, hu3⟩ := hu
              dsimp only at hu1 hu2 hu3 hP hD
              have hP : va_P (dC, dI) vwCl (bz_wB ad cI cL (bz_tR t) (bz_sR t (bz_be (k + 1) f3)) (fun j => nI (c3.2 j), lN c3.1) v) H := hP
              have hD : va_D A (bz_wB ad cI cL (bz_tR t) (bz_sR t (bz_be (k + 1) f3)) (fun j => nI (c3.2 j), lN c3.1) v) := hD
              have hk3 : f3 k = j := by rw [hu1 k (by omega), bz_up_s]
              refine lv_aload_n hx hb d_B_tryRoundsFrom_63 rfl (lv_at hl 1 rfl) ?_
              refine lv_iload_n hx hb d_B_tryRoundsFrom_64 rfl (lv_at hl 0 rfl) ?_
              refine bz_cv (va_runV (As := [.int (nI k)]) (rest := []) ⟨hx, hb, hml, hown, htb⟩ (c_S_take l dC dI _ ad cI cL t (bz_be (k + 1) f3) (fun j => nI (c3.2 j), lN c3.1) v ht _ (by omega) (by show f3 k < 4; omega) (decide_eq_false (Nat.not_succ_le_self k))) (cwV 1 htb (bz_gV wd_258 wd_255 wd_256 wd_257 wd_21) rfl rfl rfl (by decide +kernel) ⟨show 3 ≤ 4 + d by omega, show 66 ≤ 89 + 25 * d by omega⟩) (bz_wv hN hK hP hD (q0 := 7) rfl rfl) rfl rfl hl.1 rfl (lv_room (Nat.le_of_ble_eq_true rfl)) d_B_tryRoundsFrom_65 ⟨Nat.zero_le _, Nat.zero_le _⟩) hD hS hA (fun H locs hP hD hS => ?_)
              have hP : va_P (dC, dI) vwCl (bz_wB ad cI cL (bz_tR t) (bz_sR t (bz_ta (bz_be (k + 1) f3) k)) (fun j => nI (c3.2 j), lN c3.1) v) H := hP
              have hD : va_D A (bz_wB ad cI cL (bz_tR t) (bz_sR t (bz_ta (bz_be (k + 1) f3) k)) (fun j => nI (c3.2 j), lN c3.1) v) := hD
              have e9 : bz_sR t (bz_be k f3) = bz_sR t (bz_ta (bz_be (k + 1) f3) k) := by rw [bz_be_ta]
              have hP : va_P (dC, dI) vwCl (bz_wB ad cI cL (bz_tR t) (bz_sR t (bz_be k f3)) (fun j => nI (c3.2 j), lN c3.1) v) H := by rw [e9]; exact hP
              have hD : va_D A (bz_wB ad cI cL (bz_tR t) (bz_sR t (bz_be k f3)) (fun j => nI (c3.2 j), lN c3.1) v) := by rw [e9]; exact hD
              refine lv_iinc (v := nI (j + 1)) (lv' := [(5, .int (nI (j + 1))), (0, .int (nI k)), (1, .ref (ad 7)), (2, .ref (ad 11))]) hx hb d_B_tryRoundsFrom_68 hl (k := 3) rfl (nI_1 _) (by decide) rfl (fun ls hl => ?_)
              refine lv_goto (tgt := 42) hx hb d_B_tryRoundsFrom_71 (by decide) ?_
              exact ihlp (j + 1) f3 c3 (by omega) (by omega) (fun a ha => by rw [hu1 a (by omega), bz_up_n _ _ (by omega), hf2 a ha]) (bz_rd1 (by omega) (fun a ha => by rw [bz_up_n _ _ (by omega), hf2 a ha]) (bz_up_s _ _ _) hup hu2) (by omega) _ _ hP hD hS ls (lv_sub hl [1, 2, 3, 0] rfl)
        exact lp _ 0 f b (Nat.lt_succ_self _) (by omega) (fun _ _ => rfl) (bz_rd0) (Nat.le_refl _) _ _ hP hD hS ls (lv_sub hl [2, 3, 4, 0] rfl)
      · skip
        exact absurd ((nI_ltI (a := k) (b := 8) (by omega) (by omega)).mpr (by omega)) c_29
  · skip
    have hco : b.1 ≤ bz_co t (bz_be k f) := Nat.le_of_not_lt fun z => c_11 ((bz_lc_lt (by omega) (by omega)).mpr z)
    exact W.vret hx hb hr (fun t9 ht9 hW => ⟨⟨(f, b), rfl, ⟨fun _ _ => rfl, bz_cut (by omega) hco, Nat.le_refl _⟩, by rw [ht9]; exact hP, va_K.moved hW.alike hK, hD⟩, hS.F ht9⟩) hS.2.2 d_B_tryRoundsFrom_14

theorem bz_TC_all (l : Launch) (dC : Nat → ClassId) (dI : Nat → Nat → Nat) (ad : Nat → Nat) (cI cL : ClassId) (t : bz_T) (v : Int32) (ht : bz_ok t) : ∀ d, bz_TC l dC dI ad cI cL t v d := by
  intro d
  induction d with
  | zero => exact fun sz k f b h1 h2 h3 h4 => c_B_tryRoundsFrom l dC dI sz ad cI cL t v ht 0 (fun d2 h => absurd h (by omega)) k f b h1 h2 h3 h4
  | succ d ih => exact fun sz k f b h1 h2 h3 h4 => c_B_tryRoundsFrom l dC dI sz ad cI cL t v ht (d + 1) (fun d2 h => by rw [show d2 = d by omega]; exact ih) k f b h1 h2 h3 h4
