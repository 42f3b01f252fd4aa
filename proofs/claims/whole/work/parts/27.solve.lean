theorem d_B_improveByMoves_0 : decode b_B_improveByMoves 0 = .ok (.aload_n 0, 1) := by decide +kernel
theorem d_B_improveByMoves_1 : decode b_B_improveByMoves 1 = .ok (.getfield 21, 3) := by decide +kernel
theorem d_B_improveByMoves_4 : decode b_B_improveByMoves 4 = .ok (.aload_n 0, 1) := by decide +kernel
theorem d_B_improveByMoves_5 : decode b_B_improveByMoves 5 = .ok (.getfield 12, 3) := by decide +kernel
theorem d_B_improveByMoves_8 : decode b_B_improveByMoves 8 = .ok (.getfield 136, 3) := by decide +kernel
theorem d_B_improveByMoves_11 : decode b_B_improveByMoves 11 = .ok (.invokevirtual 139, 3) := by decide +kernel
theorem d_B_improveByMoves_14 : decode b_B_improveByMoves 14 = .ok (.aload_n 0, 1) := by decide +kernel
theorem d_B_improveByMoves_15 : decode b_B_improveByMoves 15 = .ok (.getfield 21, 3) := by decide +kernel
theorem d_B_improveByMoves_18 : decode b_B_improveByMoves 18 = .ok (.invokevirtual 143, 3) := by decide +kernel
theorem d_B_improveByMoves_21 : decode b_B_improveByMoves 21 = .ok (.lstore_n 3, 1) := by decide +kernel
theorem d_B_improveByMoves_22 : decode b_B_improveByMoves 22 = .ok (.aload_n 0, 1) := by decide +kernel
theorem d_B_improveByMoves_23 : decode b_B_improveByMoves 23 = .ok (.getfield 12, 3) := by decide +kernel
theorem d_B_improveByMoves_26 : decode b_B_improveByMoves 26 = .ok (.getfield 42, 3) := by decide +kernel
theorem d_B_improveByMoves_29 : decode b_B_improveByMoves 29 = .ok (.iconst 3, 1) := by decide +kernel
theorem d_B_improveByMoves_30 : decode b_B_improveByMoves 30 = .ok (.imul, 1) := by decide +kernel
theorem d_B_improveByMoves_31 : decode b_B_improveByMoves 31 = .ok (.istore 5, 2) := by decide +kernel
theorem d_B_improveByMoves_33 : decode b_B_improveByMoves 33 = .ok (.iconst 0, 1) := by decide +kernel
theorem d_B_improveByMoves_34 : decode b_B_improveByMoves 34 = .ok (.istore 6, 2) := by decide +kernel
theorem d_B_improveByMoves_36 : decode b_B_improveByMoves 36 = .ok (.lconst 0, 1) := by decide +kernel
theorem d_B_improveByMoves_37 : decode b_B_improveByMoves 37 = .ok (.lstore 7, 2) := by decide +kernel
theorem d_B_improveByMoves_39 : decode b_B_improveByMoves 39 = .ok (.lload 7, 2) := by decide +kernel
theorem d_B_improveByMoves_41 : decode b_B_improveByMoves 41 = .ok (.lload_n 1, 1) := by decide +kernel
theorem d_B_improveByMoves_42 : decode b_B_improveByMoves 42 = .ok (.lcmp, 1) := by decide +kernel
theorem d_B_improveByMoves_43 : decode b_B_improveByMoves 43 = .ok (.ifCond .ge 94, 3) := by decide +kernel
theorem d_B_improveByMoves_46 : decode b_B_improveByMoves 46 = .ok (.iload 6, 2) := by decide +kernel
theorem d_B_improveByMoves_48 : decode b_B_improveByMoves 48 = .ok (.iload 5, 2) := by decide +kernel
theorem d_B_improveByMoves_50 : decode b_B_improveByMoves 50 = .ok (.if_icmp .ge 87, 3) := by decide +kernel
theorem d_B_improveByMoves_53 : decode b_B_improveByMoves 53 = .ok (.iload 6, 2) := by decide +kernel
theorem d_B_improveByMoves_55 : decode b_B_improveByMoves 55 = .ok (.iconst 3, 1) := by decide +kernel
theorem d_B_improveByMoves_56 : decode b_B_improveByMoves 56 = .ok (.idiv, 1) := by decide +kernel
theorem d_B_improveByMoves_57 : decode b_B_improveByMoves 57 = .ok (.istore 9, 2) := by decide +kernel
theorem d_B_improveByMoves_59 : decode b_B_improveByMoves 59 = .ok (.aload_n 0, 1) := by decide +kernel
theorem d_B_improveByMoves_60 : decode b_B_improveByMoves 60 = .ok (.getfield 21, 3) := by decide +kernel
theorem d_B_improveByMoves_63 : decode b_B_improveByMoves 63 = .ok (.getfield 92, 3) := by decide +kernel
theorem d_B_improveByMoves_66 : decode b_B_improveByMoves 66 = .ok (.iload 9, 2) := by decide +kernel
theorem d_B_improveByMoves_68 : decode b_B_improveByMoves 68 = .ok (.iaload, 1) := by decide +kernel
theorem d_B_improveByMoves_69 : decode b_B_improveByMoves 69 = .ok (.istore 10, 2) := by decide +kernel
theorem d_B_improveByMoves_71 : decode b_B_improveByMoves 71 = .ok (.aload_n 0, 1) := by decide +kernel
theorem d_B_improveByMoves_72 : decode b_B_improveByMoves 72 = .ok (.getfield 21, 3) := by decide +kernel
theorem d_B_improveByMoves_75 : decode b_B_improveByMoves 75 = .ok (.iload 9, 2) := by decide +kernel
theorem d_B_improveByMoves_77 : decode b_B_improveByMoves 77 = .ok (.iload 10, 2) := by decide +kernel
theorem d_B_improveByMoves_79 : decode b_B_improveByMoves 79 = .ok (.iload 6, 2) := by decide +kernel
theorem d_B_improveByMoves_81 : decode b_B_improveByMoves 81 = .ok (.iconst 3, 1) := by decide +kernel
theorem d_B_improveByMoves_82 : decode b_B_improveByMoves 82 = .ok (.irem, 1) := by decide +kernel
theorem d_B_improveByMoves_83 : decode b_B_improveByMoves 83 = .ok (.invokestatic 171, 3) := by decide +kernel
theorem d_B_improveByMoves_86 : decode b_B_improveByMoves 86 = .ok (.invokevirtual 175, 3) := by decide +kernel
theorem d_B_improveByMoves_89 : decode b_B_improveByMoves 89 = .ok (.aload_n 0, 1) := by decide +kernel
theorem d_B_improveByMoves_90 : decode b_B_improveByMoves 90 = .ok (.getfield 21, 3) := by decide +kernel
theorem d_B_improveByMoves_93 : decode b_B_improveByMoves 93 = .ok (.invokevirtual 143, 3) := by decide +kernel
theorem d_B_improveByMoves_96 : decode b_B_improveByMoves 96 = .ok (.lstore 11, 2) := by decide +kernel
theorem d_B_improveByMoves_98 : decode b_B_improveByMoves 98 = .ok (.lload 11, 2) := by decide +kernel
theorem d_B_improveByMoves_100 : decode b_B_improveByMoves 100 = .ok (.lload_n 3, 1) := by decide +kernel
theorem d_B_improveByMoves_101 : decode b_B_improveByMoves 101 = .ok (.lcmp, 1) := by decide +kernel
theorem d_B_improveByMoves_102 : decode b_B_improveByMoves 102 = .ok (.ifCond .ge 12, 3) := by decide +kernel
theorem d_B_improveByMoves_105 : decode b_B_improveByMoves 105 = .ok (.lload 11, 2) := by decide +kernel
theorem d_B_improveByMoves_107 : decode b_B_improveByMoves 107 = .ok (.lstore_n 3, 1) := by decide +kernel
theorem d_B_improveByMoves_108 : decode b_B_improveByMoves 108 = .ok (.iconst 0, 1) := by decide +kernel
theorem d_B_improveByMoves_109 : decode b_B_improveByMoves 109 = .ok (.istore 6, 2) := by decide +kernel
theorem d_B_improveByMoves_111 : decode b_B_improveByMoves 111 = .ok (.goto 17, 3) := by decide +kernel
theorem d_B_improveByMoves_114 : decode b_B_improveByMoves 114 = .ok (.aload_n 0, 1) := by decide +kernel
theorem d_B_improveByMoves_115 : decode b_B_improveByMoves 115 = .ok (.getfield 21, 3) := by decide +kernel
theorem d_B_improveByMoves_118 : decode b_B_improveByMoves 118 = .ok (.iload 9, 2) := by decide +kernel
theorem d_B_improveByMoves_120 : decode b_B_improveByMoves 120 = .ok (.iload 10, 2) := by decide +kernel
theorem d_B_improveByMoves_122 : decode b_B_improveByMoves 122 = .ok (.invokevirtual 175, 3) := by decide +kernel
theorem d_B_improveByMoves_125 : decode b_B_improveByMoves 125 = .ok (.iinc 6 1, 3) := by decide +kernel
theorem d_B_improveByMoves_128 : decode b_B_improveByMoves 128 = .ok (.lload 7, 2) := by decide +kernel
theorem d_B_improveByMoves_130 : decode b_B_improveByMoves 130 = .ok (.lconst 1, 1) := by decide +kernel
theorem d_B_improveByMoves_131 : decode b_B_improveByMoves 131 = .ok (.ladd, 1) := by decide +kernel
theorem d_B_improveByMoves_132 : decode b_B_improveByMoves 132 = .ok (.lstore 7, 2) := by decide +kernel
theorem d_B_improveByMoves_134 : decode b_B_improveByMoves 134 = .ok (.goto (-95), 3) := by decide +kernel
theorem d_B_improveByMoves_137 : decode b_B_improveByMoves 137 = .ok (.return_, 1) := by decide +kernel
theorem d_B_solve_0 : decode b_B_solve 0 = .ok (.lload_n 1, 1) := by decide +kernel
theorem d_B_solve_1 : decode b_B_solve 1 = .ok (.lconst 0, 1) := by decide +kernel
theorem d_B_solve_2 : decode b_B_solve 2 = .ok (.lcmp, 1) := by decide +kernel
theorem d_B_solve_3 : decode b_B_solve 3 = .ok (.ifCond .lt 11, 3) := by decide +kernel
theorem d_B_solve_6 : decode b_B_solve 6 = .ok (.lload_n 1, 1) := by decide +kernel
theorem d_B_solve_7 : decode b_B_solve 7 = .ok (.ldc2_w 73, 3) := by decide +kernel
theorem d_B_solve_10 : decode b_B_solve 10 = .ok (.lcmp, 1) := by decide +kernel
theorem d_B_solve_11 : decode b_B_solve 11 = .ok (.ifCond .le 7, 3) := by decide +kernel
theorem d_B_solve_14 : decode b_B_solve 14 = .ok (.ldc2_w 75, 3) := by decide +kernel
theorem d_B_solve_17 : decode b_B_solve 17 = .ok (.lreturn, 1) := by decide +kernel
theorem d_B_solve_18 : decode b_B_solve 18 = .ok (.aload_n 0, 1) := by decide +kernel
theorem d_B_solve_19 : decode b_B_solve 19 = .ok (.invokevirtual 77, 3) := by decide +kernel
theorem d_B_solve_22 : decode b_B_solve 22 = .ok (.ifCond .eq 10, 3) := by decide +kernel
theorem d_B_solve_25 : decode b_B_solve 25 = .ok (.aload_n 0, 1) := by decide +kernel
theorem d_B_solve_26 : decode b_B_solve 26 = .ok (.invokevirtual 81, 3) := by decide +kernel
theorem d_B_solve_29 : decode b_B_solve 29 = .ok (.goto 8, 3) := by decide +kernel
theorem d_B_solve_32 : decode b_B_solve 32 = .ok (.aload_n 0, 1) := by decide +kernel
theorem d_B_solve_33 : decode b_B_solve 33 = .ok (.lload_n 1, 1) := by decide +kernel
theorem d_B_solve_34 : decode b_B_solve 34 = .ok (.invokevirtual 84, 3) := by decide +kernel
theorem d_B_solve_37 : decode b_B_solve 37 = .ok (.aload_n 0, 1) := by decide +kernel
theorem d_B_solve_38 : decode b_B_solve 38 = .ok (.iconst 1, 1) := by decide +kernel
theorem d_B_solve_39 : decode b_B_solve 39 = .ok (.putfield 32, 3) := by decide +kernel
theorem d_B_solve_42 : decode b_B_solve 42 = .ok (.aload_n 0, 1) := by decide +kernel
theorem d_B_solve_43 : decode b_B_solve 43 = .ok (.getfield 21, 3) := by decide +kernel
theorem d_B_solve_46 : decode b_B_solve 46 = .ok (.invokevirtual 88, 3) := by decide +kernel
theorem d_B_solve_49 : decode b_B_solve 49 = .ok (.lreturn, 1) := by decide +kernel

theorem bz_sR_ext {t : bz_T} {s s2 : bz_S} (h0 : s.1 = s2.1) (h : ∀ a, a < bz_n t → s.2 a = s2.2 a) : bz_sR t s = bz_sR t s2 := by
  have h' : ∀ a, a < bz_n t → s.1 a = s2.1 a ∧ s.2 a = s2.2 a := fun a ha => ⟨by rw [h0], h a ha⟩
  unfold bz_sR
  rw [h0, bz_op_ext h', bz_ch_ext h', show (fun r => bz_m (bz_in t s r)) = fun r => bz_m (bz_in t s2 r) from funext fun r => by rw [bz_in_ext h'], show (fun r => lN (bz_ld t s r)) = fun r => lN (bz_ld t s2 r) from funext fun r => by rw [bz_ld_ext h']]
theorem bz_bg_fu (t : bz_T) (g x : Nat → Nat) : bz_sR t (bz_fu (bz_bg g x (bz_n t)).1) = bz_sR t (bz_bg g x (bz_n t)) := bz_sR_ext rfl fun a ha => by
  show false = decide (bz_n t ≤ a)
  rw [decide_eq_false (by omega)]
theorem bz_bg_lo {g x : Nat → Nat} {n a : Nat} (h : a < n) : (bz_bg g x n).1 a = g a := by
  show (if a < n then g a else x a) = g a
  rw [if_pos h]
theorem bz_bg_co (t : bz_T) (g x : Nat → Nat) : bz_co t (bz_bg g x (bz_n t)) = bz_co t (bz_fu g) := bz_co_ext fun a ha => ⟨bz_bg_lo ha, decide_eq_false (by omega)⟩
theorem bz_bs_ext {t : bz_T} {f g : Nat → Nat} (h : bz_bs t f) (e : ∀ a, a < bz_n t → g a = f a) : bz_bs t g := by
  have ec : bz_co t (bz_fu g) = bz_co t (bz_fu f) := bz_co_ext fun a ha => ⟨e a ha, rfl⟩
  refine ⟨fun a ha => by rw [e a ha]; exact h.1 a ha, fun s hs => ?_⟩
  rw [ec]
  rcases h.2 s hs with q | ⟨q1, q2⟩
  · exact Or.inl q
  · refine Or.inr ⟨q1, ?_⟩
    rcases q2 with q | ⟨a, a1, a2, a3⟩
    · exact Or.inl fun a ha => (e a ha).trans (q a ha)
    · exact Or.inr ⟨a, a1, fun i hi => (e i (by omega)).trans (a2 i hi), by rw [e a a1]; exact a3⟩
theorem bz_fu_mv (g : Nat → Nat) (a r : Nat) : bz_pu (bz_ta (bz_fu g) a) a r = bz_fu (va_up g a r) := by
  refine Prod.ext rfl (funext fun i => ?_)
  show va_up (va_up (fun _ => false) a true) a false i = false
  by_cases e : i = a
  · subst e
    rw [bz_up_s]
  · rw [bz_up_n _ _ e, bz_up_n _ _ e]
theorem bz_up_back (g : Nat → Nat) (a r : Nat) : va_up (va_up g a r) a (g a) = g := by
  funext i
  by_cases e : i = a
  · subst e
    rw [bz_up_s]
  · rw [bz_up_n _ _ e, bz_up_n _ _ e]
theorem bz_ot_lt {r i : Nat} (hr : r < 4) (hi : i < 3) : bz_ot r i < 4 := by
  unfold bz_ot
  split <;> omega
theorem bz_mv_ext {t : bz_T} : ∀ (k mi : Nat) (f g : Nat → Nat), (∀ a, a < bz_n t → f a = g a) → ∀ a, a < bz_n t → bz_mv t k mi f a = bz_mv t k mi g a
  | 0, _, _, _, h => h
  | k + 1, mi, f, g, h => by
    by_cases hm : mi < 3 * bz_n t
    · have hfg := h (mi / 3) (by omega)
      have hu : ∀ a, a < bz_n t → va_up f (mi / 3) (bz_ot (f (mi / 3)) (mi % 3)) a = va_up g (mi / 3) (bz_ot (g (mi / 3)) (mi % 3)) a := by
        intro a ha
        by_cases e : a = mi / 3
        · rw [e, bz_up_s, bz_up_s, hfg]
        · rw [bz_up_n _ _ e, bz_up_n _ _ e, h a ha]
      have e1 : bz_co t (bz_fu (va_up f (mi / 3) (bz_ot (f (mi / 3)) (mi % 3)))) = bz_co t (bz_fu (va_up g (mi / 3) (bz_ot (g (mi / 3)) (mi % 3)))) := bz_co_ext fun a ha => ⟨hu a ha, rfl⟩
      have e2 : bz_co t (bz_fu f) = bz_co t (bz_fu g) := bz_co_ext fun a ha => ⟨h a ha, rfl⟩
      by_cases hc : bz_co t (bz_fu (va_up f (mi / 3) (bz_ot (f (mi / 3)) (mi % 3)))) < bz_co t (bz_fu f)
      · rw [bz_mv_do hm hc, bz_mv_do hm (by rw [← e1, ← e2]; exact hc)]
        exact bz_mv_ext k 0 _ _ hu
      · rw [bz_mv_no hm hc, bz_mv_no hm (by rw [← e1, ← e2]; exact hc)]
        exact bz_mv_ext k (mi + 1) f g h
    · rw [bz_mv_end (by omega), bz_mv_end (by omega)]
      exact h
/-- what a share is when it is solved with so many steps -/
def bz_so (t : bz_T) (k : Nat) (f : Nat → Nat) : Prop := (∀ a, a < bz_n t → f a < 4) ∧ (bz_n t ≤ 8 → bz_bs t f) ∧ (¬ bz_n t ≤ 8 → ∀ a, a < bz_n t → f a = bz_mv t k 0 (bz_d t) a)

set_option maxHeartbeats 4000000 in
set_option maxRecDepth 100000 in
/-- findLeastShare -/
theorem c_B_findLeastShare (l : Launch) (dC : Nat → ClassId) (dI : Nat → Nat → Nat) (sz : Nat) (ad : Nat → Nat) (cI cL : ClassId) (t : bz_T) (x : Nat → Nat) (A1 : Nat → Int32) (A2 : Nat → Int64) (o1 c1 : Int32) (rw : Nat → Nat) (co : Int64) (v : Int32) (ht : bz_ok t) (hn8 : bz_n t ≤ 8) : Met l y_B_findLeastShare w_B_findLeastShare ({ frames := 13, cells := 0, slots := 0, locals := 314 }) (bz_Pw (dC, dI) [(cI, .int), (cL, .long)] (bz_wB ad cI cL (bz_tR t) (fun a => nI (x a), A1, A2, o1, c1) (fun j => nI (rw j), co) v) sz [.ref (ad 0)]) (bz_Qx (dC, dI) [(cI, .int), (cL, .long)] (va_A (bz_wB ad cI cL (bz_tR t) (fun a => nI (x a), A1, A2, o1, c1) (fun j => nI (rw j), co) v) sz) (fun u : (Nat → Nat) × (Nat → Nat) × Int64 => bz_bs t u.1) (fun u : (Nat → Nat) × (Nat → Nat) × Int64 => bz_wB ad cI cL (bz_tR t) (bz_sR t (bz_fu u.1)) (fun j => nI (u.2.1 j), u.2.2) v)) 0 0 (va_A (bz_wB ad cI cL (bz_tR t) (fun a => nI (x a), A1, A2, o1, c1) (fun j => nI (rw j), co) v) sz) := by
  refine Met.ofW (cc := b_B_findLeastShare) (maxL := 1) (ret := none) (by decide) rfl ?_
  intro p e s m args below meth c s₁ B hml hv
  obtain ⟨rfl, hsz, hP, hK, hD0, hN⟩ := hv
  have hx := B.exec
  have hb := B.bytes
  have hr := B.returns
  have hts := atoms_spec (ws := w_B_findLeastShare) B.pre
  have hown : s.vm.findClass R_B = some m.cls := findClass_of_methodNamed B.named
  have htb : ∀ w ∈ bz_tb, w.before _ s = true := fun w h => hts w (List.mem_cons_of_mem _ h)
  have hlocks := B.notSynchronized
  subst hsz
  have hD := hD0.self (sz := s.heap.size)
  generalize hAe : va_A (bz_wB ad cI cL (bz_tR t) (fun a => nI (x a), A1, A2, o1, c1) (fun j => nI (rw j), co) v) s.heap.size = A at hD ⊢
  have hA : ∀ q : Nat, s.heap.size ≤ q → A q := fun q h => by rw [← hAe]; exact Or.inr h
  have hS : va_S A s.heap s.heap [] := va_S.rf
  have hl := lv_entry ([.ref (ad 0)]) (n := 1) (Nat.le_of_ble_eq_true rfl)
  rw [lg_entry_eq]
  generalize (lg_sl ([.ref (ad 0)]) ++ List.replicate (1 - (lg_sl ([.ref (ad 0)])).length) Slot.unset).toArray = ls at hl ⊢
  have hl : lv_has ls 1 [(0, .ref (ad 0))] := hl
  have hn30 := ht.1
  refine lv_aload_n hx hb d_B_findLeastShare_0 rfl (lv_at hl 0 rfl) ?_
  refine va_get (D := (dC, dI)) (ci := 3) (v := .ref (ad 7)) (C := R_B) (T := F_B) (N := 4) hx hb htb in_B hown hK hP 0 rfl rfl 1 (by decide) (htb _ wd_118) (fun _ h9 => h9) rfl d_B_findLeastShare_1 ?_
  refine lv_aload_n hx hb d_B_findLeastShare_4 rfl (lv_at hl 0 rfl) ?_
  refine va_get (D := (dC, dI)) (ci := 3) (v := .ref (ad 1)) (C := R_B) (T := F_B) (N := 4) hx hb htb in_B hown hK hP 0 rfl rfl 0 (by decide) (htb _ wd_117) (fun _ h9 => h9) rfl d_B_findLeastShare_5 ?_
  refine va_getN (D := (dC, dI)) (ci := 2) (v := .ref (ad 3)) (C := R_T) (T := F_T) (N := 6) hx hb htb in_T hown hK hP 1 rfl rfl 1 (by decide) (va_Nw.use rfl (hN _ nd_49)) (fun _ h9 => h9) rfl d_B_findLeastShare_8 ?_
  refine bz_cv (va_runV (As := [.ref (ad 3)]) (rest := []) ⟨hx, hb, hml, hown, htb⟩ (c_S_beginWithT l dC dI _ ad cI cL t x A1 A2 o1 c1 (fun j => nI (rw j), co) v ht) (cwV 1 htb (bz_gV wd_192 wd_189 wd_190 wd_191 wd_21) rfl rfl rfl (by decide +kernel) ⟨Nat.le_of_ble_eq_true rfl, Nat.le_of_ble_eq_true rfl⟩) (bz_wv hN hK hP hD (q0 := 7) rfl rfl) rfl rfl hl.1 rfl (lv_room (Nat.le_of_ble_eq_true rfl)) d_B_findLeastShare_11 ⟨Nat.zero_le _, Nat.zero_le _⟩) hD hS hA (fun H locs hP hD hS => ?_)
  have hP : va_P (dC, dI) vwCl (bz_wB ad cI cL (bz_tR t) (bz_sR t (bz_bg (bz_d t) x (bz_n t))) (fun j => nI (rw j), co) v) H := hP
  have hD : va_D A (bz_wB ad cI cL (bz_tR t) (bz_sR t (bz_bg (bz_d t) x (bz_n t))) (fun j => nI (rw j), co) v) := hD
  refine lv_aload_n hx hb d_B_findLeastShare_14 rfl (lv_at hl 0 rfl) ?_
  refine va_get (D := (dC, dI)) (ci := 3) (v := .ref (ad 11)) (C := R_B) (T := F_B) (N := 4) hx hb htb in_B hown hK hP 0 rfl rfl 2 (by decide) (htb _ wd_119) (fun _ h9 => h9) rfl d_B_findLeastShare_15 ?_
  refine lv_aload_n hx hb d_B_findLeastShare_18 rfl (lv_at hl 0 rfl) ?_
  refine va_get (D := (dC, dI)) (ci := 3) (v := .ref (ad 7)) (C := R_B) (T := F_B) (N := 4) hx hb htb in_B hown hK hP 0 rfl rfl 1 (by decide) (htb _ wd_118) (fun _ h9 => h9) rfl d_B_findLeastShare_19 ?_
  refine bz_sl (va_runV (As := []) (rest := [.ref (ad 11)]) ⟨hx, hb, hml, hown, htb⟩ (c_S_cost l dC dI ad cI cL t (bz_bg (bz_d t) x (bz_n t)) (fun j => nI (rw j), co) v ht) (cwV 0 htb (bz_gV wd_211 wd_208 wd_209 wd_210 wd_21) rfl rfl rfl (by decide +kernel) ⟨Nat.le_of_ble_eq_true rfl, Nat.le_of_ble_eq_true rfl⟩) (bz_rv hN hK hP (q0 := 7) rfl rfl) rfl rfl hl.1 rfl (lv_room (Nat.le_of_ble_eq_true rfl)) d_B_findLeastShare_22 ⟨Nat.zero_le _, Nat.zero_le _⟩) ?_
  refine lv_lconst (v := 1) hx hb d_B_findLeastShare_25 (by decide) ?_
  refine lv_ladd hx hb d_B_findLeastShare_26 ?_
  refine bz_rl (y := lN (bz_co t (bz_bg (bz_d t) x (bz_n t)) + 1)) (lN_1 _) ?_
  refine va_putN (D := (dC, dI)) (ci := 0) (v := .long (lN (bz_co t (bz_bg (bz_d t) x (bz_n t)) + 1))) (ty := .long) (C := R_Le) (T := F_Le) (N := 2) hx hb htb in_Le tf_Le tok_Le n_Le hown hK hP hD hS 11 rfl rfl 1 (by decide) (va_Nw.use rfl (hN _ nd_111)) (fun _ h9 => h9) rfl (by decide +kernel) rfl rfl (Nat.le_of_ble_eq_true rfl) d_B_findLeastShare_27 (fun H locs hP hD hS => ?_)
  have hP : va_P (dC, dI) vwCl (bz_wB ad cI cL (bz_tR t) (bz_sR t (bz_bg (bz_d t) x (bz_n t))) ((fun j => nI (rw j), co).1, lN (bz_co t (bz_bg (bz_d t) x (bz_n t)) + 1)) v) H := hP
  have hD : va_D A (bz_wB ad cI cL (bz_tR t) (bz_sR t (bz_bg (bz_d t) x (bz_n t))) ((fun j => nI (rw j), co).1, lN (bz_co t (bz_bg (bz_d t) x (bz_n t)) + 1)) v) := hD
  refine lv_aload_n hx hb d_B_findLeastShare_30 rfl (lv_at hl 0 rfl) ?_
  refine va_get (D := (dC, dI)) (ci := 3) (v := .ref (ad 7)) (C := R_B) (T := F_B) (N := 4) hx hb htb in_B hown hK hP 0 rfl rfl 1 (by decide) (htb _ wd_118) (fun _ h9 => h9) rfl d_B_findLeastShare_31 ?_
  refine bz_cv (va_runV (As := []) (rest := []) ⟨hx, hb, hml, hown, htb⟩ (c_S_clear l dC dI _ ad cI cL t (bz_bg (bz_d t) x (bz_n t)).1 (bz_sR t (bz_bg (bz_d t) x (bz_n t))).2.1 (bz_sR t (bz_bg (bz_d t) x (bz_n t))).2.2.1 (bz_sR t (bz_bg (bz_d t) x (bz_n t))).2.2.2.1 (bz_sR t (bz_bg (bz_d t) x (bz_n t))).2.2.2.2 ((fun j => nI (rw j), co).1, lN (bz_co t (bz_bg (bz_d t) x (bz_n t)) + 1)) v ht) (cwV 0 htb (bz_gV wd_196 wd_243 wd_194 wd_195 wd_21) rfl rfl rfl (by decide +kernel) ⟨Nat.le_of_ble_eq_true rfl, Nat.le_of_ble_eq_true rfl⟩) (bz_wv hN hK hP hD (q0 := 7) rfl rfl) rfl rfl hl.1 rfl (lv_room (Nat.le_of_ble_eq_true rfl)) d_B_findLeastShare_34 ⟨Nat.zero_le _, Nat.zero_le _⟩) hD hS hA (fun H locs hP hD hS => ?_)
  have hP : va_P (dC, dI) vwCl (bz_wB ad cI cL (bz_tR t) (bz_sR t ((bz_bg (bz_d t) x (bz_n t)).1, fun _ => true)) ((fun j => nI (rw j), co).1, lN (bz_co t (bz_bg (bz_d t) x (bz_n t)) + 1)) v) H := hP
  have hD : va_D A (bz_wB ad cI cL (bz_tR t) (bz_sR t ((bz_bg (bz_d t) x (bz_n t)).1, fun _ => true)) ((fun j => nI (rw j), co).1, lN (bz_co t (bz_bg (bz_d t) x (bz_n t)) + 1)) v) := hD
  refine lv_iconst (v := 0) hx hb d_B_findLeastShare_37 (by decide) ?_
  refine bz_ri (y := nI 0) (rfl) ?_
  refine lv_aload_n hx hb d_B_findLeastShare_38 rfl (lv_at hl 0 rfl) ?_
  refine va_get (D := (dC, dI)) (ci := 3) (v := .ref (ad 7)) (C := R_B) (T := F_B) (N := 4) hx hb htb in_B hown hK hP 0 rfl rfl 1 (by decide) (htb _ wd_118) (fun _ h9 => h9) rfl d_B_findLeastShare_39 ?_
  refine lv_aload_n hx hb d_B_findLeastShare_42 rfl (lv_at hl 0 rfl) ?_
  refine va_get (D := (dC, dI)) (ci := 3) (v := .ref (ad 11)) (C := R_B) (T := F_B) (N := 4) hx hb htb in_B hown hK hP 0 rfl rfl 2 (by decide) (htb _ wd_119) (fun _ h9 => h9) rfl d_B_findLeastShare_43 ?_
  have e9 : bz_sR t (bz_be 0 (bz_bg (bz_d t) x (bz_n t)).1) = bz_sR t ((bz_bg (bz_d t) x (bz_n t)).1, fun _ => true) := by rw [bz_be_0]
  have hP : va_P (dC, dI) vwCl (bz_wB ad cI cL (bz_tR t) (bz_sR t (bz_be 0 (bz_bg (bz_d t) x (bz_n t)).1)) ((fun j => nI (rw j), co).1, lN (bz_co t (bz_bg (bz_d t) x (bz_n t)) + 1)) v) H := by rw [e9]; exact hP
  have hD : va_D A (bz_wB ad cI cL (bz_tR t) (bz_sR t (bz_be 0 (bz_bg (bz_d t) x (bz_n t)).1)) ((fun j => nI (rw j), co).1, lN (bz_co t (bz_bg (bz_d t) x (bz_n t)) + 1)) v) := by rw [e9]; exact hD
  refine bz_cx (va_runS (As := [.int (nI 0), .ref (ad 7), .ref (ad 11)]) (rest := []) ⟨hx, hb, hml, hown, htb⟩ (bz_TC_all l dC dI ad cI cL t v ht (bz_n t) _ 0 (bz_bg (bz_d t) x (bz_n t)).1 (bz_co t (bz_bg (bz_d t) x (bz_n t)) + 1, rw) (by omega) (fun a ha => absurd ha (by omega)) (by show bz_co t (bz_bg (bz_d t) x (bz_n t)) + 1 ≤ 154003000000031; have := bz_co_le ht (bz_bg (bz_d t) x (bz_n t)); omega) hn8) (va_cwS 3 htb (bz_gS wd_246 wd_244 wd_245 wd_19) rfl rfl rfl (by decide +kernel) ⟨show 4 + bz_n t + 1 ≤ 13 by omega, show 8 + (6 + 11) + (89 + 25 * bz_n t) ≤ 314 by omega⟩) (bz_ws hN hK hP hD) rfl rfl hl.1 rfl (lv_room (Nat.le_of_ble_eq_true rfl)) d_B_findLeastShare_46 ⟨Nat.zero_le _, Nat.zero_le _⟩) hD hS hA (fun u hu H locs hP hD hS => ?_)
  obtain ⟨f3, c3⟩ := u
  obtain ⟨hu1, hu2, hu3⟩ := hu
  dsimp only at hu1 hu2 hu3 hP hD
  have hbs : bz_bs t c3.2 := bz_bs_of ht.2.2.1 (by show _ < bz_co t (bz_bg (bz_d t) x (bz_n t)) + 1; rw [bz_bg_co]; omega) hu2
  have hP : va_P (dC, dI) vwCl (bz_wB ad cI cL (bz_tR t) (bz_sR t (bz_be 0 f3)) (fun j => nI (c3.2 j), lN c3.1) v) H := hP
  have hD : va_D A (bz_wB ad cI cL (bz_tR t) (bz_sR t (bz_be 0 f3)) (fun j => nI (c3.2 j), lN c3.1) v) := hD
  refine lv_aload_n hx hb d_B_findLeastShare_49 rfl (lv_at hl 0 rfl) ?_
  refine va_get (D := (dC, dI)) (ci := 3) (v := .ref (ad 7)) (C := R_B) (T := F_B) (N := 4) hx hb htb in_B hown hK hP 0 rfl rfl 1 (by decide) (htb _ wd_118) (fun _ h9 => h9) rfl d_B_findLeastShare_50 ?_
  refine lv_aload_n hx hb d_B_findLeastShare_53 rfl (lv_at hl 0 rfl) ?_
  refine va_get (D := (dC, dI)) (ci := 3) (v := .ref (ad 11)) (C := R_B) (T := F_B) (N := 4) hx hb htb in_B hown hK hP 0 rfl rfl 2 (by decide) (htb _ wd_119) (fun _ h9 => h9) rfl d_B_findLeastShare_54 ?_
  refine va_getN (D := (dC, dI)) (ci := 0) (v := .ref (ad 12)) (C := R_Le) (T := F_Le) (N := 2) hx hb htb in_Le hown hK hP 11 rfl rfl 0 (by decide) (va_Nw.use rfl (hN _ nd_109)) (fun _ h9 => h9) rfl d_B_findLeastShare_57 ?_
  refine bz_cv (va_runV (As := [.ref (ad 12)]) (rest := []) ⟨hx, hb, hml, hown, htb⟩ (c_S_beginWithL l dC dI _ ad cI cL t (bz_be 0 f3).1 (bz_sR t (bz_be 0 f3)).2.1 (bz_sR t (bz_be 0 f3)).2.2.1 (bz_sR t (bz_be 0 f3)).2.2.2.1 (bz_sR t (bz_be 0 f3)).2.2.2.2 c3.2 (lN c3.1) v ht hn8 (hbs.1)) (cwV 1 htb (bz_gV wd_192 wd_189 wd_190 wd_191 wd_21) rfl rfl rfl (by decide +kernel) ⟨Nat.le_of_ble_eq_true rfl, Nat.le_of_ble_eq_true rfl⟩) (bz_wv hN hK hP hD (q0 := 7) rfl rfl) rfl rfl hl.1 rfl (lv_room (Nat.le_of_ble_eq_true rfl)) d_B_findLeastShare_60 ⟨Nat.zero_le _, Nat.zero_le _⟩) hD hS hA (fun H locs hP hD hS => ?_)
  have hP : va_P (dC, dI) vwCl (bz_wB ad cI cL (bz_tR t) (bz_sR t (bz_bg c3.2 (bz_be 0 f3).1 (bz_n t))) (fun j => nI (c3.2 j), lN c3.1) v) H := hP
  have hD : va_D A (bz_wB ad cI cL (bz_tR t) (bz_sR t (bz_bg c3.2 (bz_be 0 f3).1 (bz_n t))) (fun j => nI (c3.2 j), lN c3.1) v) := hD
  have e9 : bz_sR t (bz_fu (bz_bg c3.2 (bz_be 0 f3).1 (bz_n t)).1) = bz_sR t (bz_bg c3.2 (bz_be 0 f3).1 (bz_n t)) := bz_bg_fu t c3.2 (bz_be 0 f3).1
  have hP : va_P (dC, dI) vwCl (bz_wB ad cI cL (bz_tR t) (bz_sR t (bz_fu (bz_bg c3.2 (bz_be 0 f3).1 (bz_n t)).1)) (fun j => nI (c3.2 j), lN c3.1) v) H := by rw [e9]; exact hP
  have hD : va_D A (bz_wB ad cI cL (bz_tR t) (bz_sR t (bz_fu (bz_bg c3.2 (bz_be 0 f3).1 (bz_n t)).1)) (fun j => nI (c3.2 j), lN c3.1) v) := by rw [e9]; exact hD
  exact W.vret hx hb hr (fun t9 ht9 hW => ⟨⟨((bz_bg c3.2 (bz_be 0 f3).1 (bz_n t)).1, c3.2, lN c3.1), rfl, bz_bs_ext hbs fun a ha => bz_bg_lo ha, by rw [ht9]; exact hP, va_K.moved hW.alike hK, hD⟩, hS.F ht9⟩) hS.2.2 d_B_findLeastShare_63

set_option maxHeartbeats 4000000 in
set_option maxRecDepth 100000 in
/-- improveByMoves -/
theorem c_B_improveByMoves (l : Launch) (dC : Nat → ClassId) (dI : Nat → Nat → Nat) (sz : Nat) (ad : Nat → Nat) (cI cL : ClassId) (t : bz_T) (x : Nat → Nat) (A1 : Nat → Int32) (A2 : Nat → Int64) (o1 c1 : Int32) (rw : Nat → Nat) (co : Int64) (v : Int32) (ht : bz_ok t) (K : Nat) (hK0 : K ≤ 100000) : Met l y_B_improveByMoves w_B_improveByMoves ({ frames := 4, cells := 0, slots := 0, locals := 89 }) (bz_Pw (dC, dI) [(cI, .int), (cL, .long)] (bz_wB ad cI cL (bz_tR t) (fun a => nI (x a), A1, A2, o1, c1) (fun j => nI (rw j), co) v) sz [.ref (ad 0), .long (lN K)]) (bz_Qx (dC, dI) [(cI, .int), (cL, .long)] (va_A (bz_wB ad cI cL (bz_tR t) (fun a => nI (x a), A1, A2, o1, c1) (fun j => nI (rw j), co) v) sz) (fun u : (Nat → Nat) × (Nat → Nat) × Int64 => (∀ a, a < bz_n t → u.1 a < 4) ∧ ∀ a, a < bz_n t → u.1 a = bz_mv t K 0 (bz_d t) a) (fun u : (Nat → Nat) × (Nat → Nat) × Int64 => bz_wB ad cI cL (bz_tR t) (bz_sR t (bz_fu u.1)) (fun j => nI (u.2.1 j), u.2.2) v)) 0 0 (va_A (bz_wB ad cI cL (bz_tR t) (fun a => nI (x a), A1, A2, o1, c1) (fun j => nI (rw j), co) v) sz) := by
  refine Met.ofW (cc := b_B_improveByMoves) (maxL := 13) (ret := none) (by decide) rfl ?_
  intro p e s m args below meth c s₁ B hml hv
  obtain ⟨rfl, hsz, hP, hK, hD0, hN⟩ := hv
  have hx := B.exec
  have hb := B.bytes
  have hr := B.returns
  have hts := atoms_spec (ws := w_B_improveByMoves) B.pre
  have hown : s.vm.findClass R_B = some m.cls := findClass_of_methodNamed B.named
  have htb : ∀ w ∈ bz_tb, w.before _ s = true := fun w h => hts w (List.mem_cons_of_mem _ h)
  have hlocks := B.notSynchronized
  subst hsz
  have hD := hD0.self (sz := s.heap.size)
  generalize hAe : va_A (bz_wB ad cI cL (bz_tR t) (fun a => nI (x a), A1, A2, o1, c1) (fun j => nI (rw j), co) v) s.heap.size = A at hD ⊢
  have hA : ∀ q : Nat, s.heap.size ≤ q → A q := fun q h => by rw [← hAe]; exact Or.inr h
  have hS : va_S A s.heap s.heap [] := va_S.rf
  have hl := lv_entry ([.ref (ad 0), .long (lN K)]) (n := 13) (Nat.le_of_ble_eq_true rfl)
  rw [lg_entry_eq]
  generalize (lg_sl ([.ref (ad 0), .long (lN K)]) ++ List.replicate (13 - (lg_sl ([.ref (ad 0), .long (lN K)])).length) Slot.unset).toArray = ls at hl ⊢
  have hl : lv_has ls 13 [(0, .ref (ad 0)), (1, .long (lN K))] := hl
  have hn30 := ht.1
  refine lv_aload_n hx hb d_B_improveByMoves_0 rfl (lv_at hl 0 rfl) ?_
  refine va_get (D := (dC, dI)) (ci := 3) (v := .ref (ad 7)) (C := R_B) (T := F_B) (N := 4) hx hb htb in_B hown hK hP 0 rfl rfl 1 (by decide) (htb _ wd_118) (fun _ h9 => h9) rfl d_B_improveByMoves_1 ?_
  refine lv_aload_n hx hb d_B_improveByMoves_4 rfl (lv_at hl 0 rfl) ?_
  refine va_get (D := (dC, dI)) (ci := 3) (v := .ref (ad 1)) (C := R_B) (T := F_B) (N := 4) hx hb htb in_B hown hK hP 0 rfl rfl 0 (by decide) (htb _ wd_117) (fun _ h9 => h9) rfl d_B_improveByMoves_5 ?_
  refine va_getN (D := (dC, dI)) (ci := 2) (v := .ref (ad 3)) (C := R_T) (T := F_T) (N := 6) hx hb htb in_T hown hK hP 1 rfl rfl 1 (by decide) (va_Nw.use rfl (hN _ nd_49)) (fun _ h9 => h9) rfl d_B_improveByMoves_8 ?_
  refine bz_cv (va_runV (As := [.ref (ad 3)]) (rest := []) ⟨hx, hb, hml, hown, htb⟩ (c_S_beginWithT l dC dI _ ad cI cL t x A1 A2 o1 c1 (fun j => nI (rw j), co) v ht) (cwV 1 htb (bz_gV wd_192 wd_189 wd_190 wd_191 wd_21) rfl rfl rfl (by decide +kernel) ⟨Nat.le_of_ble_eq_true rfl, Nat.le_of_ble_eq_true rfl⟩) (bz_wv hN hK hP hD (q0 := 7) rfl rfl) rfl rfl hl.1 rfl (lv_room (Nat.le_of_ble_eq_true rfl)) d_B_improveByMoves_11 ⟨Nat.zero_le _, Nat.zero_le _⟩) hD hS hA (fun H locs hP hD hS => ?_)
  have hP : va_P (dC, dI) vwCl (bz_wB ad cI cL (bz_tR t) (bz_sR t (bz_bg (bz_d t) x (bz_n t))) (fun j => nI (rw j), co) v) H := hP
  have hD : va_D A (bz_wB ad cI cL (bz_tR t) (bz_sR t (bz_bg (bz_d t) x (bz_n t))) (fun j => nI (rw j), co) v) := hD
  have e9 : bz_sR t (bz_fu (bz_bg (bz_d t) x (bz_n t)).1) = bz_sR t (bz_bg (bz_d t) x (bz_n t)) := bz_bg_fu t (bz_d t) x
  have hP : va_P (dC, dI) vwCl (bz_wB ad cI cL (bz_tR t) (bz_sR t (bz_fu (bz_bg (bz_d t) x (bz_n t)).1)) (fun j => nI (rw j), co) v) H := by rw [e9]; exact hP
  have hD : va_D A (bz_wB ad cI cL (bz_tR t) (bz_sR t (bz_fu (bz_bg (bz_d t) x (bz_n t)).1)) (fun j => nI (rw j), co) v) := by rw [e9]; exact hD
  refine lv_aload_n hx hb d_B_improveByMoves_14 rfl (lv_at hl 0 rfl) ?_
  refine va_get (D := (dC, dI)) (ci := 3) (v := .ref (ad 7)) (C := R_B) (T := F_B) (N := 4) hx hb htb in_B hown hK hP 0 rfl rfl 1 (by decide) (htb _ wd_118) (fun _ h9 => h9) rfl d_B_improveByMoves_15 ?_
  refine bz_sl (va_runV (As := []) (rest := []) ⟨hx, hb, hml, hown, htb⟩ (c_S_cost l dC dI ad cI cL t (bz_fu (bz_bg (bz_d t) x (bz_n t)).1) (fun j => nI (rw j), co) v ht) (cwV 0 htb (bz_gV wd_211 wd_208 wd_209 wd_210 wd_21) rfl rfl rfl (by decide +kernel) ⟨Nat.le_of_ble_eq_true rfl, Nat.le_of_ble_eq_true rfl⟩) (bz_rv hN hK hP (q0 := 7) rfl rfl) rfl rfl hl.1 rfl (lv_room (Nat.le_of_ble_eq_true rfl)) d_B_improveByMoves_18 ⟨Nat.zero_le _, Nat.zero_le _⟩) ?_
  refine lv_lstore_n (lv' := [(3, .long (lN (bz_co t (bz_fu (bz_bg (bz_d t) x (bz_n t)).1)))), (0, .ref (ad 0)), (1, .long (lN K))]) hx hb d_B_improveByMoves_21 rfl hl (by decide) rfl (fun ls hl => ?_)
  refine lv_aload_n hx hb d_B_improveByMoves_22 rfl (lv_at hl 1 rfl) ?_
  refine va_get (D := (dC, dI)) (ci := 3) (v := .ref (ad 1)) (C := R_B) (T := F_B) (N := 4) hx hb htb in_B hown hK hP 0 rfl rfl 0 (by decide) (htb _ wd_117) (fun _ h9 => h9) rfl d_B_improveByMoves_23 ?_
  refine va_getN (D := (dC, dI)) (ci := 2) (v := .int (nI (bz_n t))) (C := R_T) (T := F_T) (N := 6) hx hb htb in_T hown hK hP 1 rfl rfl 5 (by decide) (va_Nw.use rfl (hN _ nd_57)) (fun _ h9 => h9) rfl d_B_improveByMoves_26 ?_
  refine lv_iconst (v := 3) hx hb d_B_improveByMoves_29 (by decide) ?_
  refine lv_imul hx hb d_B_improveByMoves_30 ?_
  refine bz_ri (y := nI (3 * bz_n t)) (by rw [show (3 : Int32) = nI 3 from rfl, pk_mul, Nat.mul_comm]) ?_
  refine lv_istore (lv' := [(5, .int (nI (3 * bz_n t))), (3, .long (lN (bz_co t (bz_fu (bz_bg (bz_d t) x (bz_n t)).1)))), (0, .ref (ad 0)), (1, .long (lN K))]) hx hb d_B_improveByMoves_31 hl (by decide) rfl (fun ls hl => ?_)
  refine lv_iconst (v := nI 0) hx hb d_B_improveByMoves_33 (by decide) ?_
  refine lv_istore (lv' := [(6, .int (nI 0)), (5, .int (nI (3 * bz_n t))), (3, .long (lN (bz_co t (bz_fu (bz_bg (bz_d t) x (bz_n t)).1)))), (0, .ref (ad 0)), (1, .long (lN K))]) hx hb d_B_improveByMoves_34 hl (by decide) rfl (fun ls hl => ?_)
  refine lv_lconst (v := 0) hx hb d_B_improveByMoves_36 (by decide) ?_
  refine bz_rl (y := lN 0) (rfl) ?_
  refine lv_lstore (lv' := [(7, .long (lN 0)), (6, .int (nI 0)), (5, .int (nI (3 * bz_n t))), (3, .long (lN (bz_co t (bz_fu (bz_bg (bz_d t) x (bz_n t)).1)))), (0, .ref (ad 0)), (1, .long (lN K))]) hx hb d_B_improveByMoves_37 hl (by decide) rfl (fun ls hl => ?_)
  have lp : ∀ (k9 : Nat) (q : Nat) (mi : Nat) (g : Nat → Nat), K - q < k9 → (q ≤ K) → (mi ≤ 3 * bz_n t) → (∀ a, a < bz_n t → g a < 4) → (bz_mv t K 0 (bz_bg (bz_d t) x (bz_n t)).1 = bz_mv t (K - q) mi g) → ∀ (H : Heap) (locs : List Loc), va_P (dC, dI) vwCl (bz_wB ad cI cL (bz_tR t) (bz_sR t (bz_fu g)) (fun j => nI (rw j), co) v) H → va_D A (bz_wB ad cI cL (bz_tR t) (bz_sR t (bz_fu g)) (fun j => nI (rw j), co) v) → va_S A s.heap H locs → ∀ (ls : Array Slot), lv_has ls 13 [(0, .ref (ad 0)), (1, .long (lN K)), (3, .long (lN (bz_co t (bz_fu g)))), (5, .int (nI (3 * bz_n t))), (6, .int (nI mi)), (7, .long (lN q))] → W p l e (headSpec w_B_improveByMoves ({ frames := 4, cells := 0, slots := 0, locals := 89 })).room s m ([.ref (ad 0), .long (lN K)]).toArray below meth c H locs 0 0 (MQ below (bz_Qx (dC, dI) [(cI, .int), (cL, .long)] A (fun u : (Nat → Nat) × (Nat → Nat) × Int64 => (∀ a, a < bz_n t → u.1 a < 4) ∧ ∀ a, a < bz_n t → u.1 a = bz_mv t K 0 (bz_d t) a) (fun u : (Nat → Nat) × (Nat → Nat) × Int64 => bz_wB ad cI cL (bz_tR t) (bz_sR t (bz_fu u.1)) (fun j => nI (u.2.1 j), u.2.2) v)) ([.ref (ad 0), .long (lN K)]).toArray s 0 0 (A)) (F0 m 39 ls []) := by
    intro k9
    induction k9 with
    | zero =>
      intro q mi g h9
      exact absurd h9 (Nat.not_lt_zero _)
    | succ k9 ihlp =>
      intro q mi g h9_lp hq hmi hg hmv H locs hP hD hS ls hl
      refine lv_lload hx hb d_B_improveByMoves_39 (lv_at hl 5 rfl) ?_
      refine lv_lload_n hx hb d_B_improveByMoves_41 rfl (lv_at hl 1 rfl) ?_
      refine W.lcmp hx hb d_B_improveByMoves_42 ?_
      refine lv_if_ge (tgt := 137) hx hb d_B_improveByMoves_43 (by decide) (fun c_43 => ?_) (fun c_43 => ?_)
      · skip
        have hend : bz_mv t (K - q) mi g = g := by have := (bz_lc_ge (by omega) (by omega)).mp c_43; rw [show K - q = 0 by omega]; rfl
        exact W.vret hx hb hr (fun t9 ht9 hW => ⟨⟨(g, rw, co), rfl, ⟨hg, fun a ha => by rw [← bz_mv_ext K 0 _ _ (fun a ha => bz_bg_lo (x := x) ha) a ha, hmv, hend]⟩, by rw [ht9]; exact hP, va_K.moved hW.alike hK, hD⟩, hS.F ht9⟩) hS.2.2 d_B_improveByMoves_137
      · skip
        have hqK : q < K := Nat.lt_of_not_le fun z => c_43 ((bz_lc_ge (by omega) (by omega)).mpr z)
        refine lv_iload hx hb d_B_improveByMoves_46 (lv_at hl 4 rfl) ?_
        refine lv_iload hx hb d_B_improveByMoves_48 (lv_at hl 3 rfl) ?_
        refine lv_icmp_ge (tgt := 137) hx hb d_B_improveByMoves_50 (by decide) (fun c_50 => ?_) (fun c_50 => ?_)
        · skip
          have hend : bz_mv t (K - q) mi g = g := bz_mv_end ((nI_leI (by omega) (by omega)).mp c_50) _ _
          exact W.vret hx hb hr (fun t9 ht9 hW => ⟨⟨(g, rw, co), rfl, ⟨hg, fun a ha => by rw [← bz_mv_ext K 0 _ _ (fun a ha => bz_bg_lo (x := x) ha) a ha, hmv, hend]⟩, by rw [ht9]; exact hP, va_K.moved hW.alike hK, hD⟩, hS.F ht9⟩) hS.2.2 d_B_improveByMoves_137
        · skip
          have hm : mi < 3 * bz_n t := Nat.lt_of_not_le fun z => c_50 ((nI_leI (by omega) (by omega)).mpr z)
          have hcb1 := bz_co_le ht (bz_fu g)
          have hcb2 := bz_co_le ht (bz_fu (va_up g (mi / 3) (bz_ot (g (mi / 3)) (mi % 3))))
          refine lv_iload hx hb d_B_improveByMoves_53 (lv_at hl 4 rfl) ?_
          refine lv_iconst (v := 3) hx hb d_B_improveByMoves_55 (by decide) ?_
          refine lv_idiv hx hb d_B_improveByMoves_56 (by decide) ?_
          refine bz_ri (y := nI (mi / 3)) (pk_div (d := 3) (by omega) (by omega) (by omega)) ?_
          refine lv_istore (lv' := [(9, .int (nI (mi / 3))), (0, .ref (ad 0)), (1, .long (lN K)), (3, .long (lN (bz_co t (bz_fu g)))), (5, .int (nI (3 * bz_n t))), (6, .int (nI mi)), (7, .long (lN q))]) hx hb d_B_improveByMoves_57 hl (by decide) rfl (fun ls hl => ?_)
          refine lv_aload_n hx hb d_B_improveByMoves_59 rfl (lv_at hl 1 rfl) ?_
          refine va_get (D := (dC, dI)) (ci := 3) (v := .ref (ad 7)) (C := R_B) (T := F_B) (N := 4) hx hb htb in_B hown hK hP 0 rfl rfl 1 (by decide) (htb _ wd_118) (fun _ h9 => h9) rfl d_B_improveByMoves_60 ?_
          refine va_getN (D := (dC, dI)) (ci := 1) (v := .ref (ad 8)) (C := R_S) (T := F_S) (N := 6) hx hb htb in_S hown hK hP 7 rfl rfl 1 (by decide) (va_Nw.use rfl (hN _ nd_83)) (fun _ h9 => h9) rfl d_B_improveByMoves_63 ?_
          refine lv_iload hx hb d_B_improveByMoves_66 (lv_at hl 0 rfl) ?_
          refine bz_iald (v := nI (g (mi / 3))) hx hb hK hP 8 0 rfl rfl (a9 := (mi / 3)) (by omega) (by decide) (rfl) d_B_improveByMoves_68 ?_
          refine lv_istore (lv' := [(10, .int (nI (g (mi / 3)))), (9, .int (nI (mi / 3))), (0, .ref (ad 0)), (1, .long (lN K)), (3, .long (lN (bz_co t (bz_fu g)))), (5, .int (nI (3 * bz_n t))), (6, .int (nI mi)), (7, .long (lN q))]) hx hb d_B_improveByMoves_69 hl (by decide) rfl (fun ls hl => ?_)
          refine lv_aload_n hx hb d_B_improveByMoves_71 rfl (lv_at hl 2 rfl) ?_
          refine va_get (D := (dC, dI)) (ci := 3) (v := .ref (ad 7)) (C := R_B) (T := F_B) (N := 4) hx hb htb in_B hown hK hP 0 rfl rfl 1 (by decide) (htb _ wd_118) (fun _ h9 => h9) rfl d_B_improveByMoves_72 ?_
          refine lv_iload hx hb d_B_improveByMoves_75 (lv_at hl 1 rfl) ?_
          refine lv_iload hx hb d_B_improveByMoves_77 (lv_at hl 0 rfl) ?_
          refine lv_iload hx hb d_B_improveByMoves_79 (lv_at hl 6 rfl) ?_
          refine lv_iconst (v := 3) hx hb d_B_improveByMoves_81 (by decide) ?_
          refine lv_irem hx hb d_B_improveByMoves_82 (by decide) ?_
          refine bz_ri (y := nI (mi % 3)) (pk_rem (d := 3) (by omega) (by omega) (by omega)) ?_
          refine bz_si (va_runS (As := [.int (nI (g (mi / 3))), .int (nI (mi % 3))]) (rest := [.int (nI (mi / 3)), .ref (ad 7)]) ⟨hx, hb, hml, hown, htb⟩ (c_B_otherRound l dC dI ad cI cL t (bz_sR t (bz_fu g)) (fun j => nI (rw j), co) v _ _ (hg _ (by omega)) (by omega)) (va_cwS 2 htb (bz_gS wd_265 wd_263 wd_264 wd_19) rfl rfl rfl (by decide +kernel) ⟨Nat.le_of_ble_eq_true rfl, Nat.le_of_ble_eq_true rfl⟩) (bz_rs hN hK hP) rfl rfl hl.1 rfl (lv_room (Nat.le_of_ble_eq_true rfl)) d_B_improveByMoves_83 ⟨Nat.zero_le _, Nat.zero_le _⟩) ?_
          refine bz_cv (va_runV (As := [.int (nI (mi / 3)), .int (nI (bz_ot (g (mi / 3)) (mi % 3)))]) (rest := []) ⟨hx, hb, hml, hown, htb⟩ (c_S_move l dC dI _ ad cI cL t (bz_fu g) (fun j => nI (rw j), co) v ht _ _ (by omega) (hg _ (by omega)) (rfl) (bz_ot_lt (hg _ (by omega)) (by omega))) (cwV 2 htb (bz_gV wd_269 wd_266 wd_267 wd_268 wd_21) rfl rfl rfl (by decide +kernel) ⟨Nat.le_of_ble_eq_true rfl, Nat.le_of_ble_eq_true rfl⟩) (bz_wv hN hK hP hD (q0 := 7) rfl rfl) rfl rfl hl.1 rfl (lv_room (Nat.le_of_ble_eq_true rfl)) d_B_improveByMoves_86 ⟨Nat.zero_le _, Nat.zero_le _⟩) hD hS hA (fun H locs hP hD hS => ?_)
          have hP : va_P (dC, dI) vwCl (bz_wB ad cI cL (bz_tR t) (bz_sR t (bz_pu (bz_ta (bz_fu g) (mi / 3)) (mi / 3) (bz_ot (g (mi / 3)) (mi % 3)))) (fun j => nI (rw j), co) v) H := hP
          have hD : va_D A (bz_wB ad cI cL (bz_tR t) (bz_sR t (bz_pu (bz_ta (bz_fu g) (mi / 3)) (mi / 3) (bz_ot (g (mi / 3)) (mi % 3)))) (fun j => nI (rw j), co) v) := hD
          have e9 : bz_sR t (bz_fu (va_up g (mi / 3) (bz_ot (g (mi / 3)) (mi % 3)))) = bz_sR t (bz_pu (bz_ta (bz_fu g) (mi / 3)) (mi / 3) (bz_ot (g (mi / 3)) (mi % 3))) := by rw [bz_fu_mv]
          have hP : va_P (dC, dI) vwCl (bz_wB ad cI cL (bz_tR t) (bz_sR t (bz_fu (va_up g (mi / 3) (bz_ot (g (mi / 3)) (mi % 3))))) (fun j => nI (rw j), co) v) H := by rw [e9]; exact hP
          have hD : va_D A (bz_wB ad cI cL (bz_tR t) (bz_sR t (bz_fu (va_up g (mi / 3) (bz_ot (g (mi / 3)) (mi % 3))))) (fun j => nI (rw j), co) v) := by rw [e9]; exact hD
          refine lv_aload_n hx hb d_B_improveByMoves_89 rfl (lv_at hl 2 rfl) ?_
          refine va_get (D := (dC, dI)) (ci := 3) (v := .ref (ad 7)) (C := R_B) (T := F_B) (N := 4) hx hb htb in_B hown hK hP 0 rfl rfl 1 (by decide) (htb _ wd_118) (fun _ h9 => h9) rfl d_B_improveByMoves_90 ?_
          refine bz_sl (va_runV (As := []) (rest := []) ⟨hx, hb, hml, hown, htb⟩ (c_S_cost l dC dI ad cI cL t (bz_fu (va_up g (mi / 3) (bz_ot (g (mi / 3)) (mi % 3)))) (fun j => nI (rw j), co) v ht) (cwV 0 htb (bz_gV wd_211 wd_208 wd_209 wd_210 wd_21) rfl rfl rfl (by decide +kernel) ⟨Nat.le_of_ble_eq_true rfl, Nat.le_of_ble_eq_true rfl⟩) (bz_rv hN hK hP (q0 := 7) rfl rfl) rfl rfl hl.1 rfl (lv_room (Nat.le_of_ble_eq_true rfl)) d_B_improveByMoves_93 ⟨Nat.zero_le _, Nat.zero_le _⟩) ?_
          refine lv_lstore (lv' := [(11, .long (lN (bz_co t (bz_fu (va_up g (mi / 3) (bz_ot (g (mi / 3)) (mi % 3))))))), (10, .int (nI (g (mi / 3)))), (9, .int (nI (mi / 3))), (0, .ref (ad 0)), (1, .long (lN K)), (3, .long (lN (bz_co t (bz_fu g)))), (5, .int (nI (3 * bz_n t))), (6, .int (nI mi)), (7, .long (lN q))]) hx hb d_B_improveByMoves_96 hl (by decide) rfl (fun ls hl => ?_)
          refine lv_lload hx hb d_B_improveByMoves_98 (lv_at hl 0 rfl) ?_
          refine lv_lload_n hx hb d_B_improveByMoves_100 rfl (lv_at hl 5 rfl) ?_
          refine W.lcmp hx hb d_B_improveByMoves_101 ?_
          refine lv_if_ge (tgt := 114) hx hb d_B_improveByMoves_102 (by decide) (fun c_102 => ?_) (fun c_102 => ?_)
          · skip
            have hless : ¬ bz_co t (bz_fu (va_up g (mi / 3) (bz_ot (g (mi / 3)) (mi % 3)))) < bz_co t (bz_fu g) := Nat.not_lt.mpr ((bz_lc_ge (by omega) (by omega)).mp c_102)
            refine lv_aload_n hx hb d_B_improveByMoves_114 rfl (lv_at hl 3 rfl) ?_
            refine va_get (D := (dC, dI)) (ci := 3) (v := .ref (ad 7)) (C := R_B) (T := F_B) (N := 4) hx hb htb in_B hown hK hP 0 rfl rfl 1 (by decide) (htb _ wd_118) (fun _ h9 => h9) rfl d_B_improveByMoves_115 ?_
            refine lv_iload hx hb d_B_improveByMoves_118 (lv_at hl 2 rfl) ?_
            refine lv_iload hx hb d_B_improveByMoves_120 (lv_at hl 1 rfl) ?_
            refine bz_cv (va_runV (As := [.int (nI (mi / 3)), .int (nI (g (mi / 3)))]) (rest := []) ⟨hx, hb, hml, hown, htb⟩ (c_S_move l dC dI _ ad cI cL t (bz_fu (va_up g (mi / 3) (bz_ot (g (mi / 3)) (mi % 3)))) (fun j => nI (rw j), co) v ht _ _ (by omega) (by show (va_up g (mi / 3) (bz_ot (g (mi / 3)) (mi % 3))) (mi / 3) < 4; rw [bz_up_s]; exact bz_ot_lt (hg _ (by omega)) (by omega)) (rfl) (hg _ (by omega))) (cwV 2 htb (bz_gV wd_269 wd_266 wd_267 wd_268 wd_21) rfl rfl rfl (by decide +kernel) ⟨Nat.le_of_ble_eq_true rfl, Nat.le_of_ble_eq_true rfl⟩) (bz_wv hN hK hP hD (q0 := 7) rfl rfl) rfl rfl hl.1 rfl (lv_room (Nat.le_of_ble_eq_true rfl)) d_B_improveByMoves_122 ⟨Nat.zero_le _, Nat.zero_le _⟩) hD hS hA (fun H locs hP hD hS => ?_)
            have hP : va_P (dC, dI) vwCl (bz_wB ad cI cL (bz_tR t) (bz_sR t (bz_pu (bz_ta (bz_fu (va_up g (mi / 3) (bz_ot (g (mi / 3)) (mi % 3)))) (mi / 3)) (mi / 3) (g (mi / 3)))) (fun j => nI (rw j), co) v) H := hP
            have hD : va_D A (bz_wB ad cI cL (bz_tR t) (bz_sR t (bz_pu (bz_ta (bz_fu (va_up g (mi / 3) (bz_ot (g (mi / 3)) (mi % 3)))) (mi / 3)) (mi / 3) (g (mi / 3)))) (fun j => nI (rw j), co) v) := hD
            have e9 : bz_sR t (bz_fu g) = bz_sR t (bz_pu (bz_ta (bz_fu (va_up g (mi / 3) (bz_ot (g (mi / 3)) (mi % 3)))) (mi / 3)) (mi / 3) (g (mi / 3))) := by rw [bz_fu_mv, bz_up_back]
            have hP : va_P (dC, dI) vwCl (bz_wB ad cI cL (bz_tR t) (bz_sR t (bz_fu g)) (fun j => nI (rw j), co) v) H := by rw [e9]; exact hP
            have hD : va_D A (bz_wB ad cI cL (bz_tR t) (bz_sR t (bz_fu g)) (fun j => nI (rw j), co) v) := by rw [e9]; exact hD
            refine lv_iinc (v := nI (mi + 1)) (lv' := [(6, .int (nI (mi + 1))), (11, .long (lN (bz_co t (bz_fu (va_up g (mi / 3) (bz_ot (g (mi / 3)) (mi % 3))))))), (10, .int (nI (g (mi / 3)))), (9, .int (nI (mi / 3))), (0, .ref (ad 0)), (1, .long (lN K)), (3, .long (lN (bz_co t (bz_fu g)))), (5, .int (nI (3 * bz_n t))), (7, .long (lN q))]) hx hb d_B_improveByMoves_125 hl (k := 7) rfl (nI_1 _) (by decide) rfl (fun ls hl => ?_)
            refine lv_lload hx hb d_B_improveByMoves_128 (lv_at hl 8 rfl) ?_
            refine lv_lconst (v := 1) hx hb d_B_improveByMoves_130 (by decide) ?_
            refine lv_ladd hx hb d_B_improveByMoves_131 ?_
            refine bz_rl (y := lN (q + 1)) (lN_1 _) ?_
            refine lv_lstore (lv' := [(7, .long (lN (q + 1))), (6, .int (nI (mi + 1))), (11, .long (lN (bz_co t (bz_fu (va_up g (mi / 3) (bz_ot (g (mi / 3)) (mi % 3))))))), (10, .int (nI (g (mi / 3)))), (9, .int (nI (mi / 3))), (0, .ref (ad 0)), (1, .long (lN K)), (3, .long (lN (bz_co t (bz_fu g)))), (5, .int (nI (3 * bz_n t)))]) hx hb d_B_improveByMoves_132 hl (by decide) rfl (fun ls hl => ?_)
            refine lv_goto (tgt := 39) hx hb d_B_improveByMoves_134 (by decide) ?_
            exact ihlp (q + 1) (mi + 1) g (by omega) (by omega) (by omega) (hg) (by rw [hmv, show K - q = K - (q + 1) + 1 by omega, bz_mv_no hm hless]) _ _ hP hD hS ls (lv_sub hl [5, 6, 7, 8, 1, 0] rfl)
          · skip
            have hless : bz_co t (bz_fu (va_up g (mi / 3) (bz_ot (g (mi / 3)) (mi % 3)))) < bz_co t (bz_fu g) := Nat.lt_of_not_le fun z => c_102 ((bz_lc_ge (by omega) (by omega)).mpr z)
            refine lv_lload hx hb d_B_improveByMoves_105 (lv_at hl 0 rfl) ?_
            refine lv_lstore_n (lv' := [(3, .long (lN (bz_co t (bz_fu (va_up g (mi / 3) (bz_ot (g (mi / 3)) (mi % 3))))))), (11, .long (lN (bz_co t (bz_fu (va_up g (mi / 3) (bz_ot (g (mi / 3)) (mi % 3))))))), (10, .int (nI (g (mi / 3)))), (9, .int (nI (mi / 3))), (0, .ref (ad 0)), (1, .long (lN K)), (5, .int (nI (3 * bz_n t))), (6, .int (nI mi)), (7, .long (lN q))]) hx hb d_B_improveByMoves_107 rfl hl (by decide) rfl (fun ls hl => ?_)
            refine lv_iconst (v := nI 0) hx hb d_B_improveByMoves_108 (by decide) ?_
            refine lv_istore (lv' := [(6, .int (nI 0)), (3, .long (lN (bz_co t (bz_fu (va_up g (mi / 3) (bz_ot (g (mi / 3)) (mi % 3))))))), (11, .long (lN (bz_co t (bz_fu (va_up g (mi / 3) (bz_ot (g (mi / 3)) (mi % 3))))))), (10, .int (nI (g (mi / 3)))), (9, .int (nI (mi / 3))), (0, .ref (ad 0)), (1, .long (lN K)), (5, .int (nI (3 * bz_n t))), (7, .long (lN q))]) hx hb d_B_improveByMoves_109 hl (by decide) rfl (fun ls hl => ?_)
            refine lv_goto (tgt := 128) hx hb d_B_improveByMoves_111 (by decide) ?_
            refine lv_lload hx hb d_B_improveByMoves_128 (lv_at hl 8 rfl) ?_
            refine lv_lconst (v := 1) hx hb d_B_improveByMoves_130 (by decide) ?_
            refine lv_ladd hx hb d_B_improveByMoves_131 ?_
            refine bz_rl (y := lN (q + 1)) (lN_1 _) ?_
            refine lv_lstore (lv' := [(7, .long (lN (q + 1))), (6, .int (nI 0)), (3, .long (lN (bz_co t (bz_fu (va_up g (mi / 3) (bz_ot (g (mi / 3)) (mi % 3))))))), (11, .long (lN (bz_co t (bz_fu (va_up g (mi / 3) (bz_ot (g (mi / 3)) (mi % 3))))))), (10, .int (nI (g (mi / 3)))), (9, .int (nI (mi / 3))), (0, .ref (ad 0)), (1, .long (lN K)), (5, .int (nI (3 * bz_n t)))]) hx hb d_B_improveByMoves_132 hl (by decide) rfl (fun ls hl => ?_)
            refine lv_goto (tgt := 39) hx hb d_B_improveByMoves_134 (by decide) ?_
            exact ihlp (q + 1) 0 (va_up g (mi / 3) (bz_ot (g (mi / 3)) (mi % 3))) (by omega) (by omega) (by omega) (fun a ha => by by_cases e : a = mi / 3; { rw [e, bz_up_s]; exact bz_ot_lt (hg _ (by omega)) (by omega) }; { rw [bz_up_n _ _ e]; exact hg a ha }) (by rw [hmv, show K - q = K - (q + 1) + 1 by omega, bz_mv_do hm hless]) _ _ hP hD hS ls (lv_sub hl [6, 7, 2, 8, 1, 0] rfl)
  exact lp _ 0 0 ((bz_bg (bz_d t) x (bz_n t)).1) (Nat.lt_succ_self _) (by omega) (by omega) (fun a ha => by rw [bz_bg_lo ha]; exact ht.2.2.1 a) (rfl) _ _ hP hD hS ls (lv_sub hl [4, 5, 3, 2, 1, 0] rfl)
