theorem d_B_round_0 : decode b_B_round 0 = .ok (.aload_n 0, 1) := by decide +kernel
theorem d_B_round_1 : decode b_B_round 1 = .ok (.iload_n 1, 1) := by decide +kernel
theorem d_B_round_2 : decode b_B_round 2 = .ok (.invokevirtual 50, 3) := by decide +kernel
theorem d_B_round_5 : decode b_B_round 5 = .ok (.ifCond .ne 6, 3) := by decide +kernel
theorem d_B_round_8 : decode b_B_round 8 = .ok (.bipush (-11), 2) := by decide +kernel
theorem d_B_round_10 : decode b_B_round 10 = .ok (.ireturn, 1) := by decide +kernel
theorem d_B_round_11 : decode b_B_round 11 = .ok (.aload_n 0, 1) := by decide +kernel
theorem d_B_round_12 : decode b_B_round 12 = .ok (.getfield 32, 3) := by decide +kernel
theorem d_B_round_15 : decode b_B_round 15 = .ok (.ifCond .eq 17, 3) := by decide +kernel
theorem d_B_round_18 : decode b_B_round 18 = .ok (.aload_n 0, 1) := by decide +kernel
theorem d_B_round_19 : decode b_B_round 19 = .ok (.getfield 21, 3) := by decide +kernel
theorem d_B_round_22 : decode b_B_round 22 = .ok (.getfield 92, 3) := by decide +kernel
theorem d_B_round_25 : decode b_B_round 25 = .ok (.iload_n 1, 1) := by decide +kernel
theorem d_B_round_26 : decode b_B_round 26 = .ok (.iconst 1, 1) := by decide +kernel
theorem d_B_round_27 : decode b_B_round 27 = .ok (.isub, 1) := by decide +kernel
theorem d_B_round_28 : decode b_B_round 28 = .ok (.iaload, 1) := by decide +kernel
theorem d_B_round_29 : decode b_B_round 29 = .ok (.goto 5, 3) := by decide +kernel
theorem d_B_round_32 : decode b_B_round 32 = .ok (.bipush (-13), 2) := by decide +kernel
theorem d_B_round_34 : decode b_B_round 34 = .ok (.ireturn, 1) := by decide +kernel
theorem d_B_changed_0 : decode b_B_changed 0 = .ok (.aload_n 0, 1) := by decide +kernel
theorem d_B_changed_1 : decode b_B_changed 1 = .ok (.getfield 32, 3) := by decide +kernel
theorem d_B_changed_4 : decode b_B_changed 4 = .ok (.ifCond .eq 13, 3) := by decide +kernel
theorem d_B_changed_7 : decode b_B_changed 7 = .ok (.aload_n 0, 1) := by decide +kernel
theorem d_B_changed_8 : decode b_B_changed 8 = .ok (.getfield 21, 3) := by decide +kernel
theorem d_B_changed_11 : decode b_B_changed 11 = .ok (.getfield 96, 3) := by decide +kernel
theorem d_B_changed_14 : decode b_B_changed 14 = .ok (.goto 5, 3) := by decide +kernel
theorem d_B_changed_17 : decode b_B_changed 17 = .ok (.bipush (-13), 2) := by decide +kernel
theorem d_B_changed_19 : decode b_B_changed 19 = .ok (.ireturn, 1) := by decide +kernel
theorem d_B_faults_0 : decode b_B_faults 0 = .ok (.aload_n 0, 1) := by decide +kernel
theorem d_B_faults_1 : decode b_B_faults 1 = .ok (.getfield 32, 3) := by decide +kernel
theorem d_B_faults_4 : decode b_B_faults 4 = .ok (.ifCond .eq 13, 3) := by decide +kernel
theorem d_B_faults_7 : decode b_B_faults 7 = .ok (.aload_n 0, 1) := by decide +kernel
theorem d_B_faults_8 : decode b_B_faults 8 = .ok (.getfield 21, 3) := by decide +kernel
theorem d_B_faults_11 : decode b_B_faults 11 = .ok (.invokevirtual 114, 3) := by decide +kernel
theorem d_B_faults_14 : decode b_B_faults 14 = .ok (.goto 5, 3) := by decide +kernel
theorem d_B_faults_17 : decode b_B_faults 17 = .ok (.bipush (-13), 2) := by decide +kernel
theorem d_B_faults_19 : decode b_B_faults 19 = .ok (.ireturn, 1) := by decide +kernel
theorem d_B_exact_0 : decode b_B_exact 0 = .ok (.aload_n 0, 1) := by decide +kernel
theorem d_B_exact_1 : decode b_B_exact 1 = .ok (.getfield 32, 3) := by decide +kernel
theorem d_B_exact_4 : decode b_B_exact 4 = .ok (.ifCond .eq 14, 3) := by decide +kernel
theorem d_B_exact_7 : decode b_B_exact 7 = .ok (.aload_n 0, 1) := by decide +kernel
theorem d_B_exact_8 : decode b_B_exact 8 = .ok (.invokevirtual 77, 3) := by decide +kernel
theorem d_B_exact_11 : decode b_B_exact 11 = .ok (.ifCond .eq 7, 3) := by decide +kernel
theorem d_B_exact_14 : decode b_B_exact 14 = .ok (.iconst 1, 1) := by decide +kernel
theorem d_B_exact_15 : decode b_B_exact 15 = .ok (.goto 4, 3) := by decide +kernel
theorem d_B_exact_18 : decode b_B_exact 18 = .ok (.iconst 0, 1) := by decide +kernel
theorem d_B_exact_19 : decode b_B_exact 19 = .ok (.ireturn, 1) := by decide +kernel
theorem d_B_bound_0 : decode b_B_bound 0 = .ok (.aload_n 0, 1) := by decide +kernel
theorem d_B_bound_1 : decode b_B_bound 1 = .ok (.getfield 12, 3) := by decide +kernel
theorem d_B_bound_4 : decode b_B_bound 4 = .ok (.invokevirtual 118, 3) := by decide +kernel
theorem d_B_bound_7 : decode b_B_bound 7 = .ok (.istore_n 1, 1) := by decide +kernel
theorem d_B_bound_8 : decode b_B_bound 8 = .ok (.iload_n 1, 1) := by decide +kernel
theorem d_B_bound_9 : decode b_B_bound 9 = .ok (.ifCond .gt 7, 3) := by decide +kernel
theorem d_B_bound_12 : decode b_B_bound 12 = .ok (.ldc2_w 121, 3) := by decide +kernel
theorem d_B_bound_15 : decode b_B_bound 15 = .ok (.lreturn, 1) := by decide +kernel
theorem d_B_bound_16 : decode b_B_bound 16 = .ok (.lconst 0, 1) := by decide +kernel
theorem d_B_bound_17 : decode b_B_bound 17 = .ok (.lstore_n 2, 1) := by decide +kernel
theorem d_B_bound_18 : decode b_B_bound 18 = .ok (.lconst 0, 1) := by decide +kernel
theorem d_B_bound_19 : decode b_B_bound 19 = .ok (.lstore 4, 2) := by decide +kernel
theorem d_B_bound_21 : decode b_B_bound 21 = .ok (.iconst 0, 1) := by decide +kernel
theorem d_B_bound_22 : decode b_B_bound 22 = .ok (.istore 6, 2) := by decide +kernel
theorem d_B_bound_24 : decode b_B_bound 24 = .ok (.iload 6, 2) := by decide +kernel
theorem d_B_bound_26 : decode b_B_bound 26 = .ok (.aload_n 0, 1) := by decide +kernel
theorem d_B_bound_27 : decode b_B_bound 27 = .ok (.getfield 12, 3) := by decide +kernel
theorem d_B_bound_30 : decode b_B_bound 30 = .ok (.getfield 42, 3) := by decide +kernel
theorem d_B_bound_33 : decode b_B_bound 33 = .ok (.if_icmp .ge 34, 3) := by decide +kernel
theorem d_B_bound_36 : decode b_B_bound 36 = .ok (.aload_n 0, 1) := by decide +kernel
theorem d_B_bound_37 : decode b_B_bound 37 = .ok (.getfield 12, 3) := by decide +kernel
theorem d_B_bound_40 : decode b_B_bound 40 = .ok (.iload 6, 2) := by decide +kernel
theorem d_B_bound_42 : decode b_B_bound 42 = .ok (.invokevirtual 123, 3) := by decide +kernel
theorem d_B_bound_45 : decode b_B_bound 45 = .ok (.lstore 7, 2) := by decide +kernel
theorem d_B_bound_47 : decode b_B_bound 47 = .ok (.lload_n 2, 1) := by decide +kernel
theorem d_B_bound_48 : decode b_B_bound 48 = .ok (.lload 7, 2) := by decide +kernel
theorem d_B_bound_50 : decode b_B_bound 50 = .ok (.ladd, 1) := by decide +kernel
theorem d_B_bound_51 : decode b_B_bound 51 = .ok (.lstore_n 2, 1) := by decide +kernel
theorem d_B_bound_52 : decode b_B_bound 52 = .ok (.lload 4, 2) := by decide +kernel
theorem d_B_bound_54 : decode b_B_bound 54 = .ok (.lload 7, 2) := by decide +kernel
theorem d_B_bound_56 : decode b_B_bound 56 = .ok (.invokestatic 127, 3) := by decide +kernel
theorem d_B_bound_59 : decode b_B_bound 59 = .ok (.lstore 4, 2) := by decide +kernel
theorem d_B_bound_61 : decode b_B_bound 61 = .ok (.iinc 6 1, 3) := by decide +kernel
theorem d_B_bound_64 : decode b_B_bound 64 = .ok (.goto (-40), 3) := by decide +kernel
theorem d_B_bound_67 : decode b_B_bound 67 = .ok (.lload 4, 2) := by decide +kernel
theorem d_B_bound_69 : decode b_B_bound 69 = .ok (.lload_n 2, 1) := by decide +kernel
theorem d_B_bound_70 : decode b_B_bound 70 = .ok (.iload_n 1, 1) := by decide +kernel
theorem d_B_bound_71 : decode b_B_bound 71 = .ok (.i2l, 1) := by decide +kernel
theorem d_B_bound_72 : decode b_B_bound 72 = .ok (.ladd, 1) := by decide +kernel
theorem d_B_bound_73 : decode b_B_bound 73 = .ok (.lconst 1, 1) := by decide +kernel
theorem d_B_bound_74 : decode b_B_bound 74 = .ok (.lsub, 1) := by decide +kernel
theorem d_B_bound_75 : decode b_B_bound 75 = .ok (.iload_n 1, 1) := by decide +kernel
theorem d_B_bound_76 : decode b_B_bound 76 = .ok (.i2l, 1) := by decide +kernel
theorem d_B_bound_77 : decode b_B_bound 77 = .ok (.ldiv, 1) := by decide +kernel
theorem d_B_bound_78 : decode b_B_bound 78 = .ok (.invokestatic 127, 3) := by decide +kernel
theorem d_B_bound_81 : decode b_B_bound 81 = .ok (.lreturn, 1) := by decide +kernel
theorem d_B_tooLarge_0 : decode b_B_tooLarge 0 = .ok (.iload_n 1, 1) := by decide +kernel
theorem d_B_tooLarge_1 : decode b_B_tooLarge 1 = .ok (.ifCond .lt 13, 3) := by decide +kernel
theorem d_B_tooLarge_4 : decode b_B_tooLarge 4 = .ok (.aload_n 0, 1) := by decide +kernel
theorem d_B_tooLarge_5 : decode b_B_tooLarge 5 = .ok (.getfield 12, 3) := by decide +kernel
theorem d_B_tooLarge_8 : decode b_B_tooLarge 8 = .ok (.invokevirtual 118, 3) := by decide +kernel
theorem d_B_tooLarge_11 : decode b_B_tooLarge 11 = .ok (.ifCond .ne 5, 3) := by decide +kernel
theorem d_B_tooLarge_14 : decode b_B_tooLarge 14 = .ok (.iconst 0, 1) := by decide +kernel
theorem d_B_tooLarge_15 : decode b_B_tooLarge 15 = .ok (.ireturn, 1) := by decide +kernel
theorem d_B_tooLarge_16 : decode b_B_tooLarge 16 = .ok (.iconst 0, 1) := by decide +kernel
theorem d_B_tooLarge_17 : decode b_B_tooLarge 17 = .ok (.istore_n 2, 1) := by decide +kernel
theorem d_B_tooLarge_18 : decode b_B_tooLarge 18 = .ok (.iconst 0, 1) := by decide +kernel
theorem d_B_tooLarge_19 : decode b_B_tooLarge 19 = .ok (.istore_n 3, 1) := by decide +kernel
theorem d_B_tooLarge_20 : decode b_B_tooLarge 20 = .ok (.iload_n 3, 1) := by decide +kernel
theorem d_B_tooLarge_21 : decode b_B_tooLarge 21 = .ok (.aload_n 0, 1) := by decide +kernel
theorem d_B_tooLarge_22 : decode b_B_tooLarge 22 = .ok (.getfield 12, 3) := by decide +kernel
theorem d_B_tooLarge_25 : decode b_B_tooLarge 25 = .ok (.getfield 42, 3) := by decide +kernel
theorem d_B_tooLarge_28 : decode b_B_tooLarge 28 = .ok (.if_icmp .ge 32, 3) := by decide +kernel
theorem d_B_tooLarge_31 : decode b_B_tooLarge 31 = .ok (.aload_n 0, 1) := by decide +kernel
theorem d_B_tooLarge_32 : decode b_B_tooLarge 32 = .ok (.getfield 12, 3) := by decide +kernel
theorem d_B_tooLarge_35 : decode b_B_tooLarge 35 = .ok (.iload_n 3, 1) := by decide +kernel
theorem d_B_tooLarge_36 : decode b_B_tooLarge 36 = .ok (.invokevirtual 133, 3) := by decide +kernel
theorem d_B_tooLarge_39 : decode b_B_tooLarge 39 = .ok (.ifCond .eq 15, 3) := by decide +kernel
theorem d_B_tooLarge_42 : decode b_B_tooLarge 42 = .ok (.iload_n 2, 1) := by decide +kernel
theorem d_B_tooLarge_43 : decode b_B_tooLarge 43 = .ok (.iload_n 1, 1) := by decide +kernel
theorem d_B_tooLarge_44 : decode b_B_tooLarge 44 = .ok (.if_icmp .ne 7, 3) := by decide +kernel
theorem d_B_tooLarge_47 : decode b_B_tooLarge 47 = .ok (.iload_n 3, 1) := by decide +kernel
theorem d_B_tooLarge_48 : decode b_B_tooLarge 48 = .ok (.iconst 1, 1) := by decide +kernel
theorem d_B_tooLarge_49 : decode b_B_tooLarge 49 = .ok (.iadd, 1) := by decide +kernel
theorem d_B_tooLarge_50 : decode b_B_tooLarge 50 = .ok (.ireturn, 1) := by decide +kernel
theorem d_B_tooLarge_51 : decode b_B_tooLarge 51 = .ok (.iinc 2 1, 3) := by decide +kernel
theorem d_B_tooLarge_54 : decode b_B_tooLarge 54 = .ok (.iinc 3 1, 3) := by decide +kernel
theorem d_B_tooLarge_57 : decode b_B_tooLarge 57 = .ok (.goto (-37), 3) := by decide +kernel
theorem d_B_tooLarge_60 : decode b_B_tooLarge 60 = .ok (.iconst 0, 1) := by decide +kernel
theorem d_B_tooLarge_61 : decode b_B_tooLarge 61 = .ok (.ireturn, 1) := by decide +kernel

def bz_mx (f : Nat → Nat) : Nat → Nat
  | 0 => 0
  | k + 1 => max (bz_mx f k) (f k)
theorem bz_mx_le {f : Nat → Nat} {b : Nat} (h : ∀ a, f a ≤ b) : ∀ k, bz_mx f k ≤ b
  | 0 => Nat.zero_le _
  | k + 1 => by
    have h1 := bz_mx_le h k
    have h2 := h k
    unfold bz_mx
    omega
/-- what each area has where it is lightest -/
def bz_lg (t : bz_T) (a : Nat) : Nat := bz_mn t a 4
theorem bz_lg_le {t : bz_T} (h : bz_ok t) (a : Nat) : bz_lg t a ≤ 1000000 := bz_mn_le h a 4
theorem bz_ls_le {t : bz_T} (h : bz_ok t) {k : Nat} (hk : k ≤ bz_n t) : bz_sm (bz_lg t) k ≤ 30000000 := by
  have h1 := bz_sm_bd (f := bz_lg t) (b := 1000000) (n := k) (fun i _ => bz_lg_le h i)
  have h2 := h.1
  omega
def bz_bd (t : bz_T) : Nat := max (bz_mx (bz_lg t) (bz_n t)) ((bz_sm (bz_lg t) (bz_n t) + bz_ct (bz_wh t) 4 - 1) / bz_ct (bz_wh t) 4)
/-- the i-th of those that are so, from k on with c of them before: its number, counted from 1 -/
def bz_it (f : Nat → Bool) (i : Nat) : Nat → Nat → Nat → Nat
  | 0, _, _ => 0
  | m + 1, k, c => if f k then (if c = i then k + 1 else bz_it f i m (k + 1) (c + 1)) else bz_it f i m (k + 1) c
theorem bz_it_y {f : Nat → Bool} {i m k : Nat} (h : f k = true) : bz_it f i (m + 1) k i = k + 1 := by
  show (if f k then (if i = i then k + 1 else _) else _) = _
  rw [if_pos h, if_pos rfl]
theorem bz_it_n {f : Nat → Bool} {i m k c : Nat} (h : f k = true) (hc : ¬ c = i) : bz_it f i (m + 1) k c = bz_it f i m (k + 1) (c + 1) := by
  show (if f k then (if c = i then k + 1 else _) else _) = _
  rw [if_pos h, if_neg hc]
theorem bz_it_f {f : Nat → Bool} {i m k c : Nat} (h : f k = false) : bz_it f i (m + 1) k c = bz_it f i m (k + 1) c := by
  show (if f k then (if c = i then k + 1 else _) else _) = _
  rw [if_neg (by simp [h])]

set_option maxHeartbeats 4000000 in
set_option maxRecDepth 100000 in
/-- solve, refused -/
theorem c_B_solve_o (l : Launch) (dC : Nat → ClassId) (dI : Nat → Nat → Nat) (ad : Nat → Nat) (cI cL : ClassId) (t : bz_T) (R : bz_RS) (L : (Nat → Int32) × Int64) (v : Int32) (ht : bz_ok t) (z : Int64) (hz : ¬ (0 ≤ z ∧ z ≤ 100000)) : Met l y_B_solve w_B_solve ({ frames := 14, cells := 0, slots := 0, locals := 334 }) (bz_Pr (dC, dI) [(cI, .int), (cL, .long)] (bz_wB ad cI cL (bz_tR t) R L v) [.ref (ad 0), .long z]) (vp_Sl (fun r9 => r9 = (-12))) 0 0 (fun _ => False) := by
  refine Met.ofW (cc := b_B_solve) (maxL := 3) (ret := (some .long)) (by decide) rfl ?_
  intro p e s m args below meth c s₁ B hml hv
  obtain ⟨rfl, hP, hK, hN⟩ := hv
  have hx := B.exec
  have hb := B.bytes
  have hr := B.returns
  have hts := atoms_spec (ws := w_B_solve) B.pre
  have hown : s.vm.findClass R_B = some m.cls := findClass_of_methodNamed B.named
  have htb : ∀ w ∈ bz_tb, w.before _ s = true := fun w h => hts w (List.mem_cons_of_mem _ h)
  have hlocks := B.notSynchronized
  have hl := lv_entry ([.ref (ad 0), .long z]) (n := 3) (Nat.le_of_ble_eq_true rfl)
  rw [lg_entry_eq]
  generalize (lg_sl ([.ref (ad 0), .long z]) ++ List.replicate (3 - (lg_sl ([.ref (ad 0), .long z])).length) Slot.unset).toArray = ls at hl ⊢
  have hl : lv_has ls 3 [(0, .ref (ad 0)), (1, .long z)] := hl
  refine lv_lload_n hx hb d_B_solve_0 rfl (lv_at hl 1 rfl) ?_
  refine lv_lconst (v := 0) hx hb d_B_solve_1 (by decide) ?_
  refine W.lcmp hx hb d_B_solve_2 ?_
  refine lv_if_lt (tgt := 14) hx hb d_B_solve_3 (by decide) (fun c_3 => ?_) (fun c_3 => ?_)
  · skip
    refine lv_ldc2 (v := (-12)) hx hb hown (htb _ wd_180) d_B_solve_14 ?_
    exact W.lret (v := (-12)) hx hb hr (fun t9 ht9 hW => ⟨(-12), rfl, rfl, ht9⟩) (fun _ h => nomatch h) d_B_solve_17
  · skip
    refine lv_lload_n hx hb d_B_solve_6 rfl (lv_at hl 1 rfl) ?_
    refine lv_ldc2 (v := 100000) hx hb hown (htb _ wd_179) d_B_solve_7 ?_
    refine W.lcmp hx hb d_B_solve_10 ?_
    refine lv_if_le (tgt := 18) hx hb d_B_solve_11 (by decide) (fun c_11 => ?_) (fun c_11 => ?_)
    · skip
      exact absurd ⟨Int64.not_lt.mp (fun y => c_3 ((lg_cmp_lt z 0).mpr y)), (lg_cmp_le z 100000).mp c_11⟩ hz
    · skip
      refine lv_ldc2 (v := (-12)) hx hb hown (htb _ wd_180) d_B_solve_14 ?_
      exact W.lret (v := (-12)) hx hb hr (fun t9 ht9 hW => ⟨(-12), rfl, rfl, ht9⟩) (fun _ h => nomatch h) d_B_solve_17

set_option maxHeartbeats 4000000 in
set_option maxRecDepth 100000 in
/-- solve -/
theorem c_B_solve (l : Launch) (dC : Nat → ClassId) (dI : Nat → Nat → Nat) (sz : Nat) (ad : Nat → Nat) (cI cL : ClassId) (t : bz_T) (x : Nat → Nat) (A1 : Nat → Int32) (A2 : Nat → Int64) (o1 c1 : Int32) (rw : Nat → Nat) (co : Int64) (v : Int32) (ht : bz_ok t) (K : Nat) (hK0 : K ≤ 100000) : Met l y_B_solve w_B_solve ({ frames := 14, cells := 0, slots := 0, locals := 334 }) (bz_Pw (dC, dI) [(cI, .int), (cL, .long)] (bz_wB ad cI cL (bz_tR t) (fun a => nI (x a), A1, A2, o1, c1) (fun j => nI (rw j), co) v) sz [.ref (ad 0), .long (lN K)]) (bz_Qxl (dC, dI) [(cI, .int), (cL, .long)] (va_A (bz_wB ad cI cL (bz_tR t) (fun a => nI (x a), A1, A2, o1, c1) (fun j => nI (rw j), co) v) sz) (fun r9 (u : (Nat → Nat) × (Nat → Nat) × Int64) => r9 = lN (bz_gl t (bz_fu u.1)) ∧ bz_so t K u.1) (fun u : (Nat → Nat) × (Nat → Nat) × Int64 => bz_wB ad cI cL (bz_tR t) (bz_sR t (bz_fu u.1)) (fun j => nI (u.2.1 j), u.2.2) 1)) 0 0 (va_A (bz_wB ad cI cL (bz_tR t) (fun a => nI (x a), A1, A2, o1, c1) (fun j => nI (rw j), co) v) sz) := by
  refine Met.ofW (cc := b_B_solve) (maxL := 3) (ret := (some .long)) (by decide) rfl ?_
  intro p e s m args below meth c s₁ B hml hv
  obtain ⟨rfl, hsz, hP, hK, hD0, hN⟩ := hv
  have hx := B.exec
  have hb := B.bytes
  have hr := B.returns
  have hts := atoms_spec (ws := w_B_solve) B.pre
  have hown : s.vm.findClass R_B = some m.cls := findClass_of_methodNamed B.named
  have htb : ∀ w ∈ bz_tb, w.before _ s = true := fun w h => hts w (List.mem_cons_of_mem _ h)
  have hlocks := B.notSynchronized
  subst hsz
  have hD := hD0.self (sz := s.heap.size)
  generalize hAe : va_A (bz_wB ad cI cL (bz_tR t) (fun a => nI (x a), A1, A2, o1, c1) (fun j => nI (rw j), co) v) s.heap.size = A at hD ⊢
  have hA : ∀ q : Nat, s.heap.size ≤ q → A q := fun q h => by rw [← hAe]; exact Or.inr h
  have hS : va_S A s.heap s.heap [] := va_S.rf
  have hl := lv_entry ([.ref (ad 0), .long (lN K)]) (n := 3) (Nat.le_of_ble_eq_true rfl)
  rw [lg_entry_eq]
  generalize (lg_sl ([.ref (ad 0), .long (lN K)]) ++ List.replicate (3 - (lg_sl ([.ref (ad 0), .long (lN K)])).length) Slot.unset).toArray = ls at hl ⊢
  have hl : lv_has ls 3 [(0, .ref (ad 0)), (1, .long (lN K))] := hl
  have hn30 := ht.1
  refine lv_lload_n hx hb d_B_solve_0 rfl (lv_at hl 1 rfl) ?_
  refine lv_lconst (v := 0) hx hb d_B_solve_1 (by decide) ?_
  refine W.lcmp hx hb d_B_solve_2 ?_
  refine lv_if_lt (tgt := 14) hx hb d_B_solve_3 (by decide) (fun c_3 => ?_) (fun c_3 => ?_)
  · skip
    exact absurd ((bz_lc_lt (b := 0) (by omega) (by omega)).mp c_3) (by omega)
  · skip
    refine lv_lload_n hx hb d_B_solve_6 rfl (lv_at hl 1 rfl) ?_
    refine lv_ldc2 (v := 100000) hx hb hown (htb _ wd_179) d_B_solve_7 ?_
    refine W.lcmp hx hb d_B_solve_10 ?_
    refine lv_if_le (tgt := 18) hx hb d_B_solve_11 (by decide) (fun c_11 => ?_) (fun c_11 => ?_)
    · skip
      refine lv_aload_n hx hb d_B_solve_18 rfl (lv_at hl 0 rfl) ?_
      refine bz_si (va_runV (As := []) (rest := []) ⟨hx, hb, hml, hown, htb⟩ (c_B_isForExact l dC dI ad cI cL t (fun a => nI (x a), A1, A2, o1, c1) (fun j => nI (rw j), co) v ht) (cwV 0 htb (bz_gV wd_184 wd_181 wd_183 wd_1 wd_19) rfl rfl rfl (by decide +kernel) ⟨Nat.le_of_ble_eq_true rfl, Nat.le_of_ble_eq_true rfl⟩) (bz_rv hN hK hP (q0 := 0) rfl rfl) rfl rfl hl.1 rfl (lv_room (Nat.le_of_ble_eq_true rfl)) d_B_solve_19 ⟨Nat.zero_le _, Nat.zero_le _⟩) ?_
      refine lv_if_eq (tgt := 32) hx hb d_B_solve_22 (by decide) (fun c_22 => ?_) (fun c_22 => ?_)
      · skip
        have hn8 : ¬ bz_n t ≤ 8 := of_decide_eq_false (bz_i_eq c_22)
        refine lv_aload_n hx hb d_B_solve_32 rfl (lv_at hl 0 rfl) ?_
        refine lv_lload_n hx hb d_B_solve_33 rfl (lv_at hl 1 rfl) ?_
        refine bz_cx (va_runV (As := [.long (lN K)]) (rest := []) ⟨hx, hb, hml, hown, htb⟩ (c_B_improveByMoves l dC dI _ ad cI cL t x A1 A2 o1 c1 rw co v ht K hK0) (cwV 1 htb (bz_gV wd_262 wd_259 wd_261 wd_3 wd_19) rfl rfl rfl (by decide +kernel) ⟨Nat.le_of_ble_eq_true rfl, Nat.le_of_ble_eq_true rfl⟩) (bz_wv hN hK hP hD (q0 := 0) rfl rfl) rfl rfl hl.1 rfl (lv_room (Nat.le_of_ble_eq_true rfl)) d_B_solve_34 ⟨Nat.zero_le _, Nat.zero_le _⟩) hD hS hA (fun u hu H locs hP hD hS => ?_)
        have hso : bz_so t K u.1 := ⟨hu.1, fun z => absurd z hn8, fun _ => hu.2⟩
        clear hu
        have hP : va_P (dC, dI) vwCl (bz_wB ad cI cL (bz_tR t) (bz_sR t (bz_fu u.1)) (fun j => nI (u.2.1 j), u.2.2) v) H := hP
        have hD : va_D A (bz_wB ad cI cL (bz_tR t) (bz_sR t (bz_fu u.1)) (fun j => nI (u.2.1 j), u.2.2) v) := hD
        refine lv_aload_n hx hb d_B_solve_37 rfl (lv_at hl 0 rfl) ?_
        refine lv_iconst (v := 1) hx hb d_B_solve_38 (by decide) ?_
        refine va_put (D := (dC, dI)) (ci := 3) (v := .int 1) (ty := .boolean) (C := R_B) (T := F_B) (N := 4) hx hb htb in_B tf_B tok_B n_B hown hK hP hD hS 0 rfl rfl 3 (by decide) (htb _ wd_120) (fun _ h9 => h9) rfl (by decide +kernel) rfl rfl (Nat.le_of_ble_eq_true rfl) d_B_solve_39 (fun H locs hP hD hS => ?_)
        have hP : va_P (dC, dI) vwCl (bz_wB ad cI cL (bz_tR t) (bz_sR t (bz_fu u.1)) (fun j => nI (u.2.1 j), u.2.2) 1) H := hP
        have hD : va_D A (bz_wB ad cI cL (bz_tR t) (bz_sR t (bz_fu u.1)) (fun j => nI (u.2.1 j), u.2.2) 1) := hD
        refine lv_aload_n hx hb d_B_solve_42 rfl (lv_at hl 0 rfl) ?_
        refine va_get (D := (dC, dI)) (ci := 3) (v := .ref (ad 7)) (C := R_B) (T := F_B) (N := 4) hx hb htb in_B hown hK hP 0 rfl rfl 1 (by decide) (htb _ wd_118) (fun _ h9 => h9) rfl d_B_solve_43 ?_
        refine bz_sl (va_runV (As := []) (rest := []) ⟨hx, hb, hml, hown, htb⟩ (c_S_greatestLoad l dC dI ad cI cL t (bz_fu u.1) (fun j => nI (u.2.1 j), u.2.2) 1 ht) (cwV 0 htb (bz_gV wd_239 wd_271 wd_237 wd_238 wd_21) rfl rfl rfl (by decide +kernel) ⟨Nat.le_of_ble_eq_true rfl, Nat.le_of_ble_eq_true rfl⟩) (bz_rv hN hK hP (q0 := 7) rfl rfl) rfl rfl hl.1 rfl (lv_room (Nat.le_of_ble_eq_true rfl)) d_B_solve_46 ⟨Nat.zero_le _, Nat.zero_le _⟩) ?_
        exact W.lret (v := lN (bz_gl t (bz_fu u.1))) hx hb hr (fun t9 ht9 hW => ⟨⟨_, u, rfl, ⟨rfl, hso⟩, by rw [ht9]; exact hP, va_K.moved hW.alike hK, hD⟩, hS.F ht9⟩) hS.2.2 d_B_solve_49
      · skip
        have hn8 : bz_n t ≤ 8 := of_decide_eq_true (bz_i_ne c_22)
        refine lv_aload_n hx hb d_B_solve_25 rfl (lv_at hl 0 rfl) ?_
        refine bz_cx (va_runV (As := []) (rest := []) ⟨hx, hb, hml, hown, htb⟩ (c_B_findLeastShare l dC dI _ ad cI cL t x A1 A2 o1 c1 rw co v ht hn8) (cwV 0 htb (bz_gV wd_188 wd_185 wd_187 wd_2 wd_19) rfl rfl rfl (by decide +kernel) ⟨Nat.le_of_ble_eq_true rfl, Nat.le_of_ble_eq_true rfl⟩) (bz_wv hN hK hP hD (q0 := 0) rfl rfl) rfl rfl hl.1 rfl (lv_room (Nat.le_of_ble_eq_true rfl)) d_B_solve_26 ⟨Nat.zero_le _, Nat.zero_le _⟩) hD hS hA (fun u hu H locs hP hD hS => ?_)
        have hso : bz_so t K u.1 := ⟨hu.1, fun _ => hu, fun z => absurd hn8 z⟩
        clear hu
        have hP : va_P (dC, dI) vwCl (bz_wB ad cI cL (bz_tR t) (bz_sR t (bz_fu u.1)) (fun j => nI (u.2.1 j), u.2.2) v) H := hP
        have hD : va_D A (bz_wB ad cI cL (bz_tR t) (bz_sR t (bz_fu u.1)) (fun j => nI (u.2.1 j), u.2.2) v) := hD
        refine lv_goto (tgt := 37) hx hb d_B_solve_29 (by decide) ?_
        refine lv_aload_n hx hb d_B_solve_37 rfl (lv_at hl 0 rfl) ?_
        refine lv_iconst (v := 1) hx hb d_B_solve_38 (by decide) ?_
        refine va_put (D := (dC, dI)) (ci := 3) (v := .int 1) (ty := .boolean) (C := R_B) (T := F_B) (N := 4) hx hb htb in_B tf_B tok_B n_B hown hK hP hD hS 0 rfl rfl 3 (by decide) (htb _ wd_120) (fun _ h9 => h9) rfl (by decide +kernel) rfl rfl (Nat.le_of_ble_eq_true rfl) d_B_solve_39 (fun H locs hP hD hS => ?_)
        have hP : va_P (dC, dI) vwCl (bz_wB ad cI cL (bz_tR t) (bz_sR t (bz_fu u.1)) (fun j => nI (u.2.1 j), u.2.2) 1) H := hP
        have hD : va_D A (bz_wB ad cI cL (bz_tR t) (bz_sR t (bz_fu u.1)) (fun j => nI (u.2.1 j), u.2.2) 1) := hD
        refine lv_aload_n hx hb d_B_solve_42 rfl (lv_at hl 0 rfl) ?_
        refine va_get (D := (dC, dI)) (ci := 3) (v := .ref (ad 7)) (C := R_B) (T := F_B) (N := 4) hx hb htb in_B hown hK hP 0 rfl rfl 1 (by decide) (htb _ wd_118) (fun _ h9 => h9) rfl d_B_solve_43 ?_
        refine bz_sl (va_runV (As := []) (rest := []) ⟨hx, hb, hml, hown, htb⟩ (c_S_greatestLoad l dC dI ad cI cL t (bz_fu u.1) (fun j => nI (u.2.1 j), u.2.2) 1 ht) (cwV 0 htb (bz_gV wd_239 wd_271 wd_237 wd_238 wd_21) rfl rfl rfl (by decide +kernel) ⟨Nat.le_of_ble_eq_true rfl, Nat.le_of_ble_eq_true rfl⟩) (bz_rv hN hK hP (q0 := 7) rfl rfl) rfl rfl hl.1 rfl (lv_room (Nat.le_of_ble_eq_true rfl)) d_B_solve_46 ⟨Nat.zero_le _, Nat.zero_le _⟩) ?_
        exact W.lret (v := lN (bz_gl t (bz_fu u.1))) hx hb hr (fun t9 ht9 hW => ⟨⟨_, u, rfl, ⟨rfl, hso⟩, by rw [ht9]; exact hP, va_K.moved hW.alike hK, hD⟩, hS.F ht9⟩) hS.2.2 d_B_solve_49
    · skip
      exact absurd ((bz_lc_le (b := 100000) (by omega) (by omega)).mpr hK0) c_11

set_option maxHeartbeats 4000000 in
set_option maxRecDepth 100000 in
/-- round, no such area -/
theorem c_B_round_u (l : Launch) (dC : Nat → ClassId) (dI : Nat → Nat → Nat) (ad : Nat → Nat) (cI cL : ClassId) (t : bz_T) (R : bz_RS) (L : (Nat → Int32) × Int64) (v : Int32) (ht : bz_ok t) (x : Int32) (hz : bz_ia (bz_n t) x = false) : Met l y_B_round w_B_round ({ frames := 1, cells := 0, slots := 0, locals := 21 }) (bz_Pr (dC, dI) [(cI, .int), (cL, .long)] (bz_wB ad cI cL (bz_tR t) R L v) [.ref (ad 0), .int x]) (vp_Si (fun r9 => r9 = (-11))) 0 0 (fun _ => False) := by
  refine Met.ofW (cc := b_B_round) (maxL := 2) (ret := (some .int)) (by decide) rfl ?_
  intro p e s m args below meth c s₁ B hml hv
  obtain ⟨rfl, hP, hK, hN⟩ := hv
  have hx := B.exec
  have hb := B.bytes
  have hr := B.returns
  have hts := atoms_spec (ws := w_B_round) B.pre
  have hown : s.vm.findClass R_B = some m.cls := findClass_of_methodNamed B.named
  have htb : ∀ w ∈ bz_tb, w.before _ s = true := fun w h => hts w (List.mem_cons_of_mem _ h)
  have hlocks := B.notSynchronized
  have hl := lv_entry ([.ref (ad 0), .int x]) (n := 2) (Nat.le_of_ble_eq_true rfl)
  rw [lg_entry_eq]
  generalize (lg_sl ([.ref (ad 0), .int x]) ++ List.replicate (2 - (lg_sl ([.ref (ad 0), .int x])).length) Slot.unset).toArray = ls at hl ⊢
  have hl : lv_has ls 2 [(0, .ref (ad 0)), (1, .int x)] := hl
  refine lv_aload_n hx hb d_B_round_0 rfl (lv_at hl 0 rfl) ?_
  refine lv_iload_n hx hb d_B_round_1 rfl (lv_at hl 1 rfl) ?_
  refine bz_si (va_runV (As := [.int x]) (rest := []) ⟨hx, hb, hml, hown, htb⟩ (c_B_isArea l dC dI ad cI cL t R L v _) (cwV 1 htb (bz_gV wd_149 wd_146 wd_148 wd_0 wd_19) rfl rfl rfl (by decide +kernel) ⟨Nat.le_of_ble_eq_true rfl, Nat.le_of_ble_eq_true rfl⟩) (bz_rv hN hK hP (q0 := 0) rfl rfl) rfl rfl hl.1 rfl (lv_room (Nat.le_of_ble_eq_true rfl)) d_B_round_2 ⟨Nat.zero_le _, Nat.zero_le _⟩) ?_
  refine lv_if_ne (tgt := 11) hx hb d_B_round_5 (by decide) (fun c_5 => ?_) (fun c_5 => ?_)
  · skip
    exact absurd (bz_i_ne c_5) (by rw [hz]; decide)
  · skip
    refine lv_bipush (v := (-11)) hx hb d_B_round_8 (by decide) ?_
    exact W.iret (v := (-11)) hx hb hr (fun t9 ht9 hW => ⟨(-11), rfl, rfl, ht9⟩) (fun _ h => nomatch h) d_B_round_10

set_option maxHeartbeats 4000000 in
set_option maxRecDepth 100000 in
/-- round, not solved -/
theorem c_B_round_s (l : Launch) (dC : Nat → ClassId) (dI : Nat → Nat → Nat) (ad : Nat → Nat) (cI cL : ClassId) (t : bz_T) (R : bz_RS) (L : (Nat → Int32) × Int64) (ht : bz_ok t) (x : Int32) (hz : bz_ia (bz_n t) x = true) : Met l y_B_round w_B_round ({ frames := 1, cells := 0, slots := 0, locals := 21 }) (bz_Pr (dC, dI) [(cI, .int), (cL, .long)] (bz_wB ad cI cL (bz_tR t) R L 0) [.ref (ad 0), .int x]) (vp_Si (fun r9 => r9 = (-13))) 0 0 (fun _ => False) := by
  refine Met.ofW (cc := b_B_round) (maxL := 2) (ret := (some .int)) (by decide) rfl ?_
  intro p e s m args below meth c s₁ B hml hv
  obtain ⟨rfl, hP, hK, hN⟩ := hv
  have hx := B.exec
  have hb := B.bytes
  have hr := B.returns
  have hts := atoms_spec (ws := w_B_round) B.pre
  have hown : s.vm.findClass R_B = some m.cls := findClass_of_methodNamed B.named
  have htb : ∀ w ∈ bz_tb, w.before _ s = true := fun w h => hts w (List.mem_cons_of_mem _ h)
  have hlocks := B.notSynchronized
  have hl := lv_entry ([.ref (ad 0), .int x]) (n := 2) (Nat.le_of_ble_eq_true rfl)
  rw [lg_entry_eq]
  generalize (lg_sl ([.ref (ad 0), .int x]) ++ List.replicate (2 - (lg_sl ([.ref (ad 0), .int x])).length) Slot.unset).toArray = ls at hl ⊢
  have hl : lv_has ls 2 [(0, .ref (ad 0)), (1, .int x)] := hl
  refine lv_aload_n hx hb d_B_round_0 rfl (lv_at hl 0 rfl) ?_
  refine lv_iload_n hx hb d_B_round_1 rfl (lv_at hl 1 rfl) ?_
  refine bz_si (va_runV (As := [.int x]) (rest := []) ⟨hx, hb, hml, hown, htb⟩ (c_B_isArea l dC dI ad cI cL t R L 0 _) (cwV 1 htb (bz_gV wd_149 wd_146 wd_148 wd_0 wd_19) rfl rfl rfl (by decide +kernel) ⟨Nat.le_of_ble_eq_true rfl, Nat.le_of_ble_eq_true rfl⟩) (bz_rv hN hK hP (q0 := 0) rfl rfl) rfl rfl hl.1 rfl (lv_room (Nat.le_of_ble_eq_true rfl)) d_B_round_2 ⟨Nat.zero_le _, Nat.zero_le _⟩) ?_
  refine lv_if_ne (tgt := 11) hx hb d_B_round_5 (by decide) (fun c_5 => ?_) (fun c_5 => ?_)
  · skip
    refine lv_aload_n hx hb d_B_round_11 rfl (lv_at hl 0 rfl) ?_
    refine va_get (D := (dC, dI)) (ci := 3) (v := .int 0) (C := R_B) (T := F_B) (N := 4) hx hb htb in_B hown hK hP 0 rfl rfl 3 (by decide) (htb _ wd_120) (fun _ h9 => h9) rfl d_B_round_12 ?_
    refine lv_if_eq (tgt := 32) hx hb d_B_round_15 (by decide) (fun c_15 => ?_) (fun c_15 => ?_)
    · skip
      refine lv_bipush (v := (-13)) hx hb d_B_round_32 (by decide) ?_
      exact W.iret (v := (-13)) hx hb hr (fun t9 ht9 hW => ⟨(-13), rfl, rfl, ht9⟩) (fun _ h => nomatch h) d_B_round_34
    · skip
      exact absurd (by decide) c_15
  · skip
    exact absurd (bz_i_eq c_5) (by rw [hz]; decide)

set_option maxHeartbeats 4000000 in
set_option maxRecDepth 100000 in
/-- round -/
theorem c_B_round (l : Launch) (dC : Nat → ClassId) (dI : Nat → Nat → Nat) (ad : Nat → Nat) (cI cL : ClassId) (t : bz_T) (f : Nat → Nat) (L : (Nat → Int32) × Int64) (ht : bz_ok t) (a : Nat) (ha : a < bz_n t) : Met l y_B_round w_B_round ({ frames := 1, cells := 0, slots := 0, locals := 21 }) (bz_Pr (dC, dI) [(cI, .int), (cL, .long)] (bz_wB ad cI cL (bz_tR t) (bz_sR t (bz_fu f)) L 1) [.ref (ad 0), .int (nI (a + 1))]) (vp_Si (fun r9 => r9 = nI (f a))) 0 0 (fun _ => False) := by
  refine Met.ofW (cc := b_B_round) (maxL := 2) (ret := (some .int)) (by decide) rfl ?_
  intro p e s m args below meth c s₁ B hml hv
  obtain ⟨rfl, hP, hK, hN⟩ := hv
  have hx := B.exec
  have hb := B.bytes
  have hr := B.returns
  have hts := atoms_spec (ws := w_B_round) B.pre
  have hown : s.vm.findClass R_B = some m.cls := findClass_of_methodNamed B.named
  have htb : ∀ w ∈ bz_tb, w.before _ s = true := fun w h => hts w (List.mem_cons_of_mem _ h)
  have hlocks := B.notSynchronized
  have hl := lv_entry ([.ref (ad 0), .int (nI (a + 1))]) (n := 2) (Nat.le_of_ble_eq_true rfl)
  rw [lg_entry_eq]
  generalize (lg_sl ([.ref (ad 0), .int (nI (a + 1))]) ++ List.replicate (2 - (lg_sl ([.ref (ad 0), .int (nI (a + 1))])).length) Slot.unset).toArray = ls at hl ⊢
  have hl : lv_has ls 2 [(0, .ref (ad 0)), (1, .int (nI (a + 1)))] := hl
  have hn30 := ht.1
  have hia : bz_ia (bz_n t) (nI (a + 1)) = true := decide_eq_true ⟨(nI_leI (a := 1) (by omega) (by omega)).mpr (by omega), (nI_leI (by omega) (by omega)).mpr (by omega)⟩
  refine lv_aload_n hx hb d_B_round_0 rfl (lv_at hl 0 rfl) ?_
  refine lv_iload_n hx hb d_B_round_1 rfl (lv_at hl 1 rfl) ?_
  refine bz_si (va_runV (As := [.int (nI (a + 1))]) (rest := []) ⟨hx, hb, hml, hown, htb⟩ (c_B_isArea l dC dI ad cI cL t (bz_sR t (bz_fu f)) L 1 _) (cwV 1 htb (bz_gV wd_149 wd_146 wd_148 wd_0 wd_19) rfl rfl rfl (by decide +kernel) ⟨Nat.le_of_ble_eq_true rfl, Nat.le_of_ble_eq_true rfl⟩) (bz_rv hN hK hP (q0 := 0) rfl rfl) rfl rfl hl.1 rfl (lv_room (Nat.le_of_ble_eq_true rfl)) d_B_round_2 ⟨Nat.zero_le _, Nat.zero_le _⟩) ?_
  refine lv_if_ne (tgt := 11) hx hb d_B_round_5 (by decide) (fun c_5 => ?_) (fun c_5 => ?_)
  · skip
    refine lv_aload_n hx hb d_B_round_11 rfl (lv_at hl 0 rfl) ?_
    refine va_get (D := (dC, dI)) (ci := 3) (v := .int 1) (C := R_B) (T := F_B) (N := 4) hx hb htb in_B hown hK hP 0 rfl rfl 3 (by decide) (htb _ wd_120) (fun _ h9 => h9) rfl d_B_round_12 ?_
    refine lv_if_eq (tgt := 32) hx hb d_B_round_15 (by decide) (fun c_15 => ?_) (fun c_15 => ?_)
    · skip
      exact absurd c_15 (by decide)
    · skip
      refine lv_aload_n hx hb d_B_round_18 rfl (lv_at hl 0 rfl) ?_
      refine va_get (D := (dC, dI)) (ci := 3) (v := .ref (ad 7)) (C := R_B) (T := F_B) (N := 4) hx hb htb in_B hown hK hP 0 rfl rfl 1 (by decide) (htb _ wd_118) (fun _ h9 => h9) rfl d_B_round_19 ?_
      refine va_getN (D := (dC, dI)) (ci := 1) (v := .ref (ad 8)) (C := R_S) (T := F_S) (N := 6) hx hb htb in_S hown hK hP 7 rfl rfl 1 (by decide) (va_Nw.use rfl (hN _ nd_83)) (fun _ h9 => h9) rfl d_B_round_22 ?_
      refine lv_iload_n hx hb d_B_round_25 rfl (lv_at hl 1 rfl) ?_
      refine lv_iconst (v := 1) hx hb d_B_round_26 (by decide) ?_
      refine lv_isub hx hb d_B_round_27 ?_
      refine bz_ri (y := nI a) (nI_pred a) ?_
      refine bz_iald (v := nI (f a)) hx hb hK hP 8 0 rfl rfl (a9 := a) (by omega) (by decide) (rfl) d_B_round_28 ?_
      refine lv_goto (tgt := 34) hx hb d_B_round_29 (by decide) ?_
      exact W.iret (v := nI (f a)) hx hb hr (fun t9 ht9 hW => ⟨nI (f a), rfl, rfl, ht9⟩) (fun _ h => nomatch h) d_B_round_34
  · skip
    exact absurd (bz_i_eq c_5) (by rw [hia]; decide)

set_option maxHeartbeats 4000000 in
set_option maxRecDepth 100000 in
/-- B_changed, not solved -/
theorem c_B_changed_s (l : Launch) (dC : Nat → ClassId) (dI : Nat → Nat → Nat) (ad : Nat → Nat) (cI cL : ClassId) (t : bz_T) (R : bz_RS) (L : (Nat → Int32) × Int64) (ht : bz_ok t) : Met l y_B_changed w_B_changed ({ frames := 0, cells := 0, slots := 0, locals := 0 }) (bz_Pr (dC, dI) [(cI, .int), (cL, .long)] (bz_wB ad cI cL (bz_tR t) R L 0) [.ref (ad 0)]) (vp_Si (fun r9 => r9 = (-13))) 0 0 (fun _ => False) := by
  refine Met.ofW (cc := b_B_changed) (maxL := 1) (ret := (some .int)) (by decide) rfl ?_
  intro p e s m args below meth c s₁ B hml hv
  obtain ⟨rfl, hP, hK, hN⟩ := hv
  have hx := B.exec
  have hb := B.bytes
  have hr := B.returns
  have hts := atoms_spec (ws := w_B_changed) B.pre
  have hown : s.vm.findClass R_B = some m.cls := findClass_of_methodNamed B.named
  have htb : ∀ w ∈ bz_tb, w.before _ s = true := fun w h => hts w (List.mem_cons_of_mem _ h)
  have hlocks := B.notSynchronized
  have hl := lv_entry ([.ref (ad 0)]) (n := 1) (Nat.le_of_ble_eq_true rfl)
  rw [lg_entry_eq]
  generalize (lg_sl ([.ref (ad 0)]) ++ List.replicate (1 - (lg_sl ([.ref (ad 0)])).length) Slot.unset).toArray = ls at hl ⊢
  have hl : lv_has ls 1 [(0, .ref (ad 0))] := hl
  refine lv_aload_n hx hb d_B_changed_0 rfl (lv_at hl 0 rfl) ?_
  refine va_get (D := (dC, dI)) (ci := 3) (v := .int 0) (C := R_B) (T := F_B) (N := 4) hx hb htb in_B hown hK hP 0 rfl rfl 3 (by decide) (htb _ wd_120) (fun _ h9 => h9) rfl d_B_changed_1 ?_
  refine lv_if_eq (tgt := 17) hx hb d_B_changed_4 (by decide) (fun c_4 => ?_) (fun c_4 => ?_)
  · skip
    refine lv_bipush (v := (-13)) hx hb d_B_changed_17 (by decide) ?_
    exact W.iret (v := (-13)) hx hb hr (fun t9 ht9 hW => ⟨(-13), rfl, rfl, ht9⟩) (fun _ h => nomatch h) d_B_changed_19
  · skip
    exact absurd (by decide) c_4

set_option maxHeartbeats 4000000 in
set_option maxRecDepth 100000 in
/-- B_changed -/
theorem c_B_changed (l : Launch) (dC : Nat → ClassId) (dI : Nat → Nat → Nat) (ad : Nat → Nat) (cI cL : ClassId) (t : bz_T) (f : Nat → Nat) (L : (Nat → Int32) × Int64) (ht : bz_ok t) : Met l y_B_changed w_B_changed ({ frames := 0, cells := 0, slots := 0, locals := 0 }) (bz_Pr (dC, dI) [(cI, .int), (cL, .long)] (bz_wB ad cI cL (bz_tR t) (bz_sR t (bz_fu f)) L 1) [.ref (ad 0)]) (vp_Si (fun r9 => r9 = nI (bz_ch t (bz_fu f)))) 0 0 (fun _ => False) := by
  refine Met.ofW (cc := b_B_changed) (maxL := 1) (ret := (some .int)) (by decide) rfl ?_
  intro p e s m args below meth c s₁ B hml hv
  obtain ⟨rfl, hP, hK, hN⟩ := hv
  have hx := B.exec
  have hb := B.bytes
  have hr := B.returns
  have hts := atoms_spec (ws := w_B_changed) B.pre
  have hown : s.vm.findClass R_B = some m.cls := findClass_of_methodNamed B.named
  have htb : ∀ w ∈ bz_tb, w.before _ s = true := fun w h => hts w (List.mem_cons_of_mem _ h)
  have hlocks := B.notSynchronized
  have hl := lv_entry ([.ref (ad 0)]) (n := 1) (Nat.le_of_ble_eq_true rfl)
  rw [lg_entry_eq]
  generalize (lg_sl ([.ref (ad 0)]) ++ List.replicate (1 - (lg_sl ([.ref (ad 0)])).length) Slot.unset).toArray = ls at hl ⊢
  have hl : lv_has ls 1 [(0, .ref (ad 0))] := hl
  refine lv_aload_n hx hb d_B_changed_0 rfl (lv_at hl 0 rfl) ?_
  refine va_get (D := (dC, dI)) (ci := 3) (v := .int 1) (C := R_B) (T := F_B) (N := 4) hx hb htb in_B hown hK hP 0 rfl rfl 3 (by decide) (htb _ wd_120) (fun _ h9 => h9) rfl d_B_changed_1 ?_
  refine lv_if_eq (tgt := 17) hx hb d_B_changed_4 (by decide) (fun c_4 => ?_) (fun c_4 => ?_)
  · skip
    exact absurd c_4 (by decide)
  · skip
    refine lv_aload_n hx hb d_B_changed_7 rfl (lv_at hl 0 rfl) ?_
    refine va_get (D := (dC, dI)) (ci := 3) (v := .ref (ad 7)) (C := R_B) (T := F_B) (N := 4) hx hb htb in_B hown hK hP 0 rfl rfl 1 (by decide) (htb _ wd_118) (fun _ h9 => h9) rfl d_B_changed_8 ?_
    refine va_getN (D := (dC, dI)) (ci := 1) (v := .int (nI (bz_ch t (bz_fu f)))) (C := R_S) (T := F_S) (N := 6) hx hb htb in_S hown hK hP 7 rfl rfl 5 (by decide) (va_Nw.use rfl (hN _ nd_88)) (fun _ h9 => h9) rfl d_B_changed_11 ?_
    refine lv_goto (tgt := 19) hx hb d_B_changed_14 (by decide) ?_
    exact W.iret (v := nI (bz_ch t (bz_fu f))) hx hb hr (fun t9 ht9 hW => ⟨nI (bz_ch t (bz_fu f)), rfl, rfl, ht9⟩) (fun _ h => nomatch h) d_B_changed_19


set_option maxHeartbeats 4000000 in
set_option maxRecDepth 100000 in
/-- B_faults -/
theorem c_B_faults (l : Launch) (dC : Nat → ClassId) (dI : Nat → Nat → Nat) (ad : Nat → Nat) (cI cL : ClassId) (t : bz_T) (f : Nat → Nat) (L : (Nat → Int32) × Int64) (ht : bz_ok t) : Met l y_B_faults w_B_faults ({ frames := 3, cells := 0, slots := 0, locals := 69 }) (bz_Pr (dC, dI) [(cI, .int), (cL, .long)] (bz_wB ad cI cL (bz_tR t) (bz_sR t (bz_fu f)) L 1) [.ref (ad 0)]) (vp_Si (fun r9 => r9 = nI (bz_ft t (bz_fu f)))) 0 0 (fun _ => False) := by
  refine Met.ofW (cc := b_B_faults) (maxL := 1) (ret := (some .int)) (by decide) rfl ?_
  intro p e s m args below meth c s₁ B hml hv
  obtain ⟨rfl, hP, hK, hN⟩ := hv
  have hx := B.exec
  have hb := B.bytes
  have hr := B.returns
  have hts := atoms_spec (ws := w_B_faults) B.pre
  have hown : s.vm.findClass R_B = some m.cls := findClass_of_methodNamed B.named
  have htb : ∀ w ∈ bz_tb, w.before _ s = true := fun w h => hts w (List.mem_cons_of_mem _ h)
  have hlocks := B.notSynchronized
  have hl := lv_entry ([.ref (ad 0)]) (n := 1) (Nat.le_of_ble_eq_true rfl)
  rw [lg_entry_eq]
  generalize (lg_sl ([.ref (ad 0)]) ++ List.replicate (1 - (lg_sl ([.ref (ad 0)])).length) Slot.unset).toArray = ls at hl ⊢
  have hl : lv_has ls 1 [(0, .ref (ad 0))] := hl
  refine lv_aload_n hx hb d_B_faults_0 rfl (lv_at hl 0 rfl) ?_
  refine va_get (D := (dC, dI)) (ci := 3) (v := .int 1) (C := R_B) (T := F_B) (N := 4) hx hb htb in_B hown hK hP 0 rfl rfl 3 (by decide) (htb _ wd_120) (fun _ h9 => h9) rfl d_B_faults_1 ?_
  refine lv_if_eq (tgt := 17) hx hb d_B_faults_4 (by decide) (fun c_4 => ?_) (fun c_4 => ?_)
  · skip
    exact absurd c_4 (by decide)
  · skip
    refine lv_aload_n hx hb d_B_faults_7 rfl (lv_at hl 0 rfl) ?_
    refine va_get (D := (dC, dI)) (ci := 3) (v := .ref (ad 7)) (C := R_B) (T := F_B) (N := 4) hx hb htb in_B hown hK hP 0 rfl rfl 1 (by decide) (htb _ wd_118) (fun _ h9 => h9) rfl d_B_faults_8 ?_
    refine bz_si (va_runV (As := []) (rest := []) ⟨hx, hb, hml, hown, htb⟩ (c_S_allFaults l dC dI ad cI cL t (bz_fu f) L 1 ht) (cwV 0 htb (bz_gV wd_216 wd_284 wd_214 wd_215 wd_21) rfl rfl rfl (by decide +kernel) ⟨Nat.le_of_ble_eq_true rfl, Nat.le_of_ble_eq_true rfl⟩) (bz_rv hN hK hP (q0 := 7) rfl rfl) rfl rfl hl.1 rfl (lv_room (Nat.le_of_ble_eq_true rfl)) d_B_faults_11 ⟨Nat.zero_le _, Nat.zero_le _⟩) ?_
    refine lv_goto (tgt := 19) hx hb d_B_faults_14 (by decide) ?_
    exact W.iret (v := nI (bz_ft t (bz_fu f))) hx hb hr (fun t9 ht9 hW => ⟨nI (bz_ft t (bz_fu f)), rfl, rfl, ht9⟩) (fun _ h => nomatch h) d_B_faults_19

set_option maxHeartbeats 4000000 in
set_option maxRecDepth 100000 in
/-- faults, not solved -/
theorem c_B_faults_s (l : Launch) (dC : Nat → ClassId) (dI : Nat → Nat → Nat) (ad : Nat → Nat) (cI cL : ClassId) (t : bz_T) (R : bz_RS) (L : (Nat → Int32) × Int64) (ht : bz_ok t) : Met l y_B_faults w_B_faults ({ frames := 3, cells := 0, slots := 0, locals := 69 }) (bz_Pr (dC, dI) [(cI, .int), (cL, .long)] (bz_wB ad cI cL (bz_tR t) R L 0) [.ref (ad 0)]) (vp_Si (fun r9 => r9 = (-13))) 0 0 (fun _ => False) := by
  refine Met.ofW (cc := b_B_faults) (maxL := 1) (ret := (some .int)) (by decide) rfl ?_
  intro p e s m args below meth c s₁ B hml hv
  obtain ⟨rfl, hP, hK, hN⟩ := hv
  have hx := B.exec
  have hb := B.bytes
  have hr := B.returns
  have hts := atoms_spec (ws := w_B_faults) B.pre
  have hown : s.vm.findClass R_B = some m.cls := findClass_of_methodNamed B.named
  have htb : ∀ w ∈ bz_tb, w.before _ s = true := fun w h => hts w (List.mem_cons_of_mem _ h)
  have hlocks := B.notSynchronized
  have hl := lv_entry ([.ref (ad 0)]) (n := 1) (Nat.le_of_ble_eq_true rfl)
  rw [lg_entry_eq]
  generalize (lg_sl ([.ref (ad 0)]) ++ List.replicate (1 - (lg_sl ([.ref (ad 0)])).length) Slot.unset).toArray = ls at hl ⊢
  have hl : lv_has ls 1 [(0, .ref (ad 0))] := hl
  refine lv_aload_n hx hb d_B_faults_0 rfl (lv_at hl 0 rfl) ?_
  refine va_get (D := (dC, dI)) (ci := 3) (v := .int 0) (C := R_B) (T := F_B) (N := 4) hx hb htb in_B hown hK hP 0 rfl rfl 3 (by decide) (htb _ wd_120) (fun _ h9 => h9) rfl d_B_faults_1 ?_
  refine lv_if_eq (tgt := 17) hx hb d_B_faults_4 (by decide) (fun c_4 => ?_) (fun c_4 => ?_)
  · skip
    refine lv_bipush (v := (-13)) hx hb d_B_faults_17 (by decide) ?_
    exact W.iret (v := (-13)) hx hb hr (fun t9 ht9 hW => ⟨(-13), rfl, rfl, ht9⟩) (fun _ h => nomatch h) d_B_faults_19
  · skip
    exact absurd (by decide) c_4

set_option maxHeartbeats 4000000 in
set_option maxRecDepth 100000 in
/-- exact, not solved -/
theorem c_B_exact_s (l : Launch) (dC : Nat → ClassId) (dI : Nat → Nat → Nat) (ad : Nat → Nat) (cI cL : ClassId) (t : bz_T) (R : bz_RS) (L : (Nat → Int32) × Int64) (ht : bz_ok t) : Met l y_B_exact w_B_exact ({ frames := 1, cells := 0, slots := 0, locals := 20 }) (bz_Pr (dC, dI) [(cI, .int), (cL, .long)] (bz_wB ad cI cL (bz_tR t) R L 0) [.ref (ad 0)]) (vp_Si (fun r9 => r9 = 0)) 0 0 (fun _ => False) := by
  refine Met.ofW (cc := b_B_exact) (maxL := 1) (ret := (some .boolean)) (by decide) rfl ?_
  intro p e s m args below meth c s₁ B hml hv
  obtain ⟨rfl, hP, hK, hN⟩ := hv
  have hx := B.exec
  have hb := B.bytes
  have hr := B.returns
  have hts := atoms_spec (ws := w_B_exact) B.pre
  have hown : s.vm.findClass R_B = some m.cls := findClass_of_methodNamed B.named
  have htb : ∀ w ∈ bz_tb, w.before _ s = true := fun w h => hts w (List.mem_cons_of_mem _ h)
  have hlocks := B.notSynchronized
  have hl := lv_entry ([.ref (ad 0)]) (n := 1) (Nat.le_of_ble_eq_true rfl)
  rw [lg_entry_eq]
  generalize (lg_sl ([.ref (ad 0)]) ++ List.replicate (1 - (lg_sl ([.ref (ad 0)])).length) Slot.unset).toArray = ls at hl ⊢
  have hl : lv_has ls 1 [(0, .ref (ad 0))] := hl
  refine lv_aload_n hx hb d_B_exact_0 rfl (lv_at hl 0 rfl) ?_
  refine va_get (D := (dC, dI)) (ci := 3) (v := .int 0) (C := R_B) (T := F_B) (N := 4) hx hb htb in_B hown hK hP 0 rfl rfl 3 (by decide) (htb _ wd_120) (fun _ h9 => h9) rfl d_B_exact_1 ?_
  refine lv_if_eq (tgt := 18) hx hb d_B_exact_4 (by decide) (fun c_4 => ?_) (fun c_4 => ?_)
  · skip
    refine lv_iconst (v := 0) hx hb d_B_exact_18 (by decide) ?_
    exact W.zret (v := 0) hx hb hr (rfl) (fun t9 ht9 hW => ⟨0, rfl, rfl, ht9⟩) (fun _ h => nomatch h) d_B_exact_19
  · skip
    exact absurd (by decide) c_4

set_option maxHeartbeats 4000000 in
set_option maxRecDepth 100000 in
/-- exact -/
theorem c_B_exact (l : Launch) (dC : Nat → ClassId) (dI : Nat → Nat → Nat) (ad : Nat → Nat) (cI cL : ClassId) (t : bz_T) (R : bz_RS) (L : (Nat → Int32) × Int64) (ht : bz_ok t) : Met l y_B_exact w_B_exact ({ frames := 1, cells := 0, slots := 0, locals := 20 }) (bz_Pr (dC, dI) [(cI, .int), (cL, .long)] (bz_wB ad cI cL (bz_tR t) R L 1) [.ref (ad 0)]) (vp_Si (fun r9 => r9 = bz_i (decide (bz_n t ≤ 8)))) 0 0 (fun _ => False) := by
  refine Met.ofW (cc := b_B_exact) (maxL := 1) (ret := (some .boolean)) (by decide) rfl ?_
  intro p e s m args below meth c s₁ B hml hv
  obtain ⟨rfl, hP, hK, hN⟩ := hv
  have hx := B.exec
  have hb := B.bytes
  have hr := B.returns
  have hts := atoms_spec (ws := w_B_exact) B.pre
  have hown : s.vm.findClass R_B = some m.cls := findClass_of_methodNamed B.named
  have htb : ∀ w ∈ bz_tb, w.before _ s = true := fun w h => hts w (List.mem_cons_of_mem _ h)
  have hlocks := B.notSynchronized
  have hl := lv_entry ([.ref (ad 0)]) (n := 1) (Nat.le_of_ble_eq_true rfl)
  rw [lg_entry_eq]
  generalize (lg_sl ([.ref (ad 0)]) ++ List.replicate (1 - (lg_sl ([.ref (ad 0)])).length) Slot.unset).toArray = ls at hl ⊢
  have hl : lv_has ls 1 [(0, .ref (ad 0))] := hl
  refine lv_aload_n hx hb d_B_exact_0 rfl (lv_at hl 0 rfl) ?_
  refine va_get (D := (dC, dI)) (ci := 3) (v := .int 1) (C := R_B) (T := F_B) (N := 4) hx hb htb in_B hown hK hP 0 rfl rfl 3 (by decide) (htb _ wd_120) (fun _ h9 => h9) rfl d_B_exact_1 ?_
  refine lv_if_eq (tgt := 18) hx hb d_B_exact_4 (by decide) (fun c_4 => ?_) (fun c_4 => ?_)
  · skip
    exact absurd c_4 (by decide)
  · skip
    refine lv_aload_n hx hb d_B_exact_7 rfl (lv_at hl 0 rfl) ?_
    refine bz_si (va_runV (As := []) (rest := []) ⟨hx, hb, hml, hown, htb⟩ (c_B_isForExact l dC dI ad cI cL t R L 1 ht) (cwV 0 htb (bz_gV wd_184 wd_181 wd_183 wd_1 wd_19) rfl rfl rfl (by decide +kernel) ⟨Nat.le_of_ble_eq_true rfl, Nat.le_of_ble_eq_true rfl⟩) (bz_rv hN hK hP (q0 := 0) rfl rfl) rfl rfl hl.1 rfl (lv_room (Nat.le_of_ble_eq_true rfl)) d_B_exact_8 ⟨Nat.zero_le _, Nat.zero_le _⟩) ?_
    refine lv_if_eq (tgt := 18) hx hb d_B_exact_11 (by decide) (fun c_11 => ?_) (fun c_11 => ?_)
    · skip
      have hq := bz_i_eq c_11
      refine lv_iconst (v := 0) hx hb d_B_exact_18 (by decide) ?_
      exact W.zret (v := 0) hx hb hr (rfl) (fun t9 ht9 hW => ⟨0, rfl, by rw [hq]; rfl, ht9⟩) (fun _ h => nomatch h) d_B_exact_19
    · skip
      have hq := bz_i_ne c_11
      refine lv_iconst (v := 1) hx hb d_B_exact_14 (by decide) ?_
      refine lv_goto (tgt := 19) hx hb d_B_exact_15 (by decide) ?_
      exact W.zret (v := 1) hx hb hr (rfl) (fun t9 ht9 hW => ⟨1, rfl, by rw [hq]; rfl, ht9⟩) (fun _ h => nomatch h) d_B_exact_19

set_option maxHeartbeats 4000000 in
set_option maxRecDepth 100000 in
/-- bound -/
theorem c_B_bound (l : Launch) (dC : Nat → ClassId) (dI : Nat → Nat → Nat) (ad : Nat → Nat) (cI cL : ClassId) (t : bz_T) (R : bz_RS) (L : (Nat → Int32) × Int64) (v : Int32) (ht : bz_ok t) : Met l y_B_bound w_B_bound ({ frames := 3, cells := 0, slots := 0, locals := 68 }) (bz_Pr (dC, dI) [(cI, .int), (cL, .long)] (bz_wB ad cI cL (bz_tR t) R L v) [.ref (ad 0)]) (vp_Sl (fun r9 => r9 = if bz_ct (bz_wh t) 4 = 0 then -1 else lN (bz_bd t))) 0 0 (fun _ => False) := by
  refine Met.ofW (cc := b_B_bound) (maxL := 9) (ret := (some .long)) (by decide) rfl ?_
  intro p e s m args below meth c s₁ B hml hv
  obtain ⟨rfl, hP, hK, hN⟩ := hv
  have hx := B.exec
  have hb := B.bytes
  have hr := B.returns
  have hts := atoms_spec (ws := w_B_bound) B.pre
  have hown : s.vm.findClass R_B = some m.cls := findClass_of_methodNamed B.named
  have htb : ∀ w ∈ bz_tb, w.before _ s = true := fun w h => hts w (List.mem_cons_of_mem _ h)
  have hlocks := B.notSynchronized
  have hl := lv_entry ([.ref (ad 0)]) (n := 9) (Nat.le_of_ble_eq_true rfl)
  rw [lg_entry_eq]
  generalize (lg_sl ([.ref (ad 0)]) ++ List.replicate (9 - (lg_sl ([.ref (ad 0)])).length) Slot.unset).toArray = ls at hl ⊢
  have hl : lv_has ls 9 [(0, .ref (ad 0))] := hl
  have hn30 := ht.1
  have hcc := bz_ct_le (bz_wh t) 4
  refine lv_aload_n hx hb d_B_bound_0 rfl (lv_at hl 0 rfl) ?_
  refine va_get (D := (dC, dI)) (ci := 3) (v := .ref (ad 1)) (C := R_B) (T := F_B) (N := 4) hx hb htb in_B hown hK hP 0 rfl rfl 0 (by decide) (htb _ wd_117) (fun _ h9 => h9) rfl d_B_bound_1 ?_
  refine bz_si (va_runV (As := []) (rest := []) ⟨hx, hb, hml, hown, htb⟩ (c_T_roundsWithHours l dC dI ad cI cL t R L v ht) (cwV 0 htb (bz_gV wd_220 wd_289 wd_218 wd_219 wd_20) rfl rfl rfl (by decide +kernel) ⟨Nat.le_of_ble_eq_true rfl, Nat.le_of_ble_eq_true rfl⟩) (bz_rv hN hK hP (q0 := 1) rfl rfl) rfl rfl hl.1 rfl (lv_room (Nat.le_of_ble_eq_true rfl)) d_B_bound_4 ⟨Nat.zero_le _, Nat.zero_le _⟩) ?_
  refine lv_istore_n (lv' := [(1, .int (nI (bz_ct (bz_wh t) 4))), (0, .ref (ad 0))]) hx hb d_B_bound_7 rfl hl (by decide) rfl (fun ls hl => ?_)
  refine lv_iload_n hx hb d_B_bound_8 rfl (lv_at hl 0 rfl) ?_
  refine lv_if_gt (tgt := 16) hx hb d_B_bound_9 (by decide) (fun c_9 => ?_) (fun c_9 => ?_)
  · skip
    have hc0 : ¬ bz_ct (bz_wh t) 4 = 0 := fun z => by rw [z] at c_9; exact absurd c_9 (by decide)
    refine lv_lconst (v := 0) hx hb d_B_bound_16 (by decide) ?_
    refine bz_rl (y := lN (bz_sm (bz_lg t) 0)) (rfl) ?_
    refine lv_lstore_n (lv' := [(2, .long (lN (bz_sm (bz_lg t) 0))), (1, .int (nI (bz_ct (bz_wh t) 4))), (0, .ref (ad 0))]) hx hb d_B_bound_17 rfl hl (by decide) rfl (fun ls hl => ?_)
    refine lv_lconst (v := 0) hx hb d_B_bound_18 (by decide) ?_
    refine bz_rl (y := lN (bz_mx (bz_lg t) 0)) (rfl) ?_
    refine lv_lstore (lv' := [(4, .long (lN (bz_mx (bz_lg t) 0))), (2, .long (lN (bz_sm (bz_lg t) 0))), (1, .int (nI (bz_ct (bz_wh t) 4))), (0, .ref (ad 0))]) hx hb d_B_bound_19 hl (by decide) rfl (fun ls hl => ?_)
    refine lv_iconst (v := nI 0) hx hb d_B_bound_21 (by decide) ?_
    refine lv_istore (lv' := [(6, .int (nI 0)), (4, .long (lN (bz_mx (bz_lg t) 0))), (2, .long (lN (bz_sm (bz_lg t) 0))), (1, .int (nI (bz_ct (bz_wh t) 4))), (0, .ref (ad 0))]) hx hb d_B_bound_22 hl (by decide) rfl (fun ls hl => ?_)
    have lp : ∀ (k9 : Nat) (i : Nat), bz_n t - i < k9 → (i ≤ bz_n t) → ∀ (ls : Array Slot), lv_has ls 9 [(0, .ref (ad 0)), (1, .int (nI (bz_ct (bz_wh t) 4))), (2, .long (lN (bz_sm (bz_lg t) i))), (4, .long (lN (bz_mx (bz_lg t) i))), (6, .int (nI i))] → W p l e (headSpec w_B_bound ({ frames := 3, cells := 0, slots := 0, locals := 68 })).room s m ([.ref (ad 0)]).toArray below meth c s.heap [] 0 0 (MQ below (vp_Sl (fun r9 => r9 = if bz_ct (bz_wh t) 4 = 0 then -1 else lN (bz_bd t))) ([.ref (ad 0)]).toArray s 0 0 (fun _ => False)) (F0 m 24 ls []) := by
      intro k9
      induction k9 with
      | zero =>
        intro i h9
        exact absurd h9 (Nat.not_lt_zero _)
      | succ k9 ihlp =>
        intro i h9_lp hi ls hl
        refine lv_iload hx hb d_B_bound_24 (lv_at hl 4 rfl) ?_
        refine lv_aload_n hx hb d_B_bound_26 rfl (lv_at hl 0 rfl) ?_
        refine va_get (D := (dC, dI)) (ci := 3) (v := .ref (ad 1)) (C := R_B) (T := F_B) (N := 4) hx hb htb in_B hown hK hP 0 rfl rfl 0 (by decide) (htb _ wd_117) (fun _ h9 => h9) rfl d_B_bound_27 ?_
        refine va_getN (D := (dC, dI)) (ci := 2) (v := .int (nI (bz_n t))) (C := R_T) (T := F_T) (N := 6) hx hb htb in_T hown hK hP 1 rfl rfl 5 (by decide) (va_Nw.use rfl (hN _ nd_57)) (fun _ h9 => h9) rfl d_B_bound_30 ?_
        refine lv_icmp_ge (tgt := 67) hx hb d_B_bound_33 (by decide) (fun c_33 => ?_) (fun c_33 => ?_)
        · skip
          have hls := bz_ls_le ht hi
          have hmx := bz_mx_le (bz_lg_le ht) i
          have hin : i = bz_n t := by have := (nI_leI (by omega) (by omega)).mp c_33; omega
          have hl : lv_has ls 9 [(0, .ref (ad 0)), (1, .int (nI (bz_ct (bz_wh t) 4))), (2, .long (lN (bz_sm (bz_lg t) (bz_n t)))), (4, .long (lN (bz_mx (bz_lg t) i))), (6, .int (nI i))] := by rw [show lN (bz_sm (bz_lg t) (bz_n t)) = lN (bz_sm (bz_lg t) i) from by rw [hin]]; exact hl
          have hl : lv_has ls 9 [(0, .ref (ad 0)), (1, .int (nI (bz_ct (bz_wh t) 4))), (2, .long (lN (bz_sm (bz_lg t) (bz_n t)))), (4, .long (lN (bz_mx (bz_lg t) (bz_n t)))), (6, .int (nI i))] := by rw [show lN (bz_mx (bz_lg t) (bz_n t)) = lN (bz_mx (bz_lg t) i) from by rw [hin]]; exact hl
          rw [hin] at hls hmx
          refine lv_lload hx hb d_B_bound_67 (lv_at hl 3 rfl) ?_
          refine lv_lload_n hx hb d_B_bound_69 rfl (lv_at hl 2 rfl) ?_
          refine lv_iload_n hx hb d_B_bound_70 rfl (lv_at hl 1 rfl) ?_
          refine lv_i2l hx hb d_B_bound_71 rfl ?_
          refine bz_rl (y := lN (bz_ct (bz_wh t) 4)) (nI_l (by omega)) ?_
          refine lv_ladd hx hb d_B_bound_72 ?_
          refine bz_rl (y := lN (bz_sm (bz_lg t) (bz_n t) + bz_ct (bz_wh t) 4)) (lN_add _ _) ?_
          refine lv_lconst (v := 1) hx hb d_B_bound_73 (by decide) ?_
          refine lv_lsub hx hb d_B_bound_74 ?_
          refine bz_rl (y := lN (bz_sm (bz_lg t) (bz_n t) + bz_ct (bz_wh t) 4 - 1)) (lN_sub (b := 1) (by omega)) ?_
          refine lv_iload_n hx hb d_B_bound_75 rfl (lv_at hl 1 rfl) ?_
          refine lv_i2l hx hb d_B_bound_76 rfl ?_
          refine bz_rl (y := lN (bz_ct (bz_wh t) 4)) (nI_l (by omega)) ?_
          refine lv_ldiv hx hb d_B_bound_77 (fun z => hc0 ((pk_lEQ (b := 0) (by omega) (by omega)).mp z)) ?_
          refine bz_rl (y := lN ((bz_sm (bz_lg t) (bz_n t) + bz_ct (bz_wh t) 4 - 1) / bz_ct (bz_wh t) 4)) (pk_lDiv (by omega) (by omega) (by omega)) ?_
          refine va_mmax_long hx hb (hml.trans hl.1.symm) hown (htb _ wd_299) (htb _ wd_241) (htb _ wd_25) (htb _ wd_242) (Nat.le_of_ble_eq_true rfl) (Nat.le_of_ble_eq_true rfl) (Nat.le_of_ble_eq_true rfl) (Nat.le_of_ble_eq_true rfl) d_B_bound_78 ?_
          refine bz_rl (y := lN (bz_bd t)) (bz_lmax (by omega) (by have := Nat.div_le_self (bz_sm (bz_lg t) (bz_n t) + bz_ct (bz_wh t) 4 - 1) (bz_ct (bz_wh t) 4); omega)) ?_
          exact W.lret (v := lN (bz_bd t)) hx hb hr (fun t9 ht9 hW => ⟨lN (bz_bd t), rfl, by rw [if_neg hc0], ht9⟩) (fun _ h => nomatch h) d_B_bound_81
        · skip
          have hin : i < bz_n t := Nat.lt_of_not_le fun z => c_33 ((nI_leI (by omega) (by omega)).mpr z)
          have hls := bz_ls_le ht hi
          have hmx := bz_mx_le (bz_lg_le ht) i
          have hlg := bz_lg_le ht i
          refine lv_aload_n hx hb d_B_bound_36 rfl (lv_at hl 0 rfl) ?_
          refine va_get (D := (dC, dI)) (ci := 3) (v := .ref (ad 1)) (C := R_B) (T := F_B) (N := 4) hx hb htb in_B hown hK hP 0 rfl rfl 0 (by decide) (htb _ wd_117) (fun _ h9 => h9) rfl d_B_bound_37 ?_
          refine lv_iload hx hb d_B_bound_40 (lv_at hl 4 rfl) ?_
          refine bz_sl (va_runV (As := [.int (nI i)]) (rest := []) ⟨hx, hb, hml, hown, htb⟩ (c_T_lightestLoad l dC dI ad cI cL t R L v ht _ (by omega)) (cwV 1 htb (bz_gV wd_294 wd_291 wd_292 wd_293 wd_20) rfl rfl rfl (by decide +kernel) ⟨Nat.le_of_ble_eq_true rfl, Nat.le_of_ble_eq_true rfl⟩) (bz_rv hN hK hP (q0 := 1) rfl rfl) rfl rfl hl.1 rfl (lv_room (Nat.le_of_ble_eq_true rfl)) d_B_bound_42 ⟨Nat.zero_le _, Nat.zero_le _⟩) ?_
          refine lv_lstore (lv' := [(7, .long (lN (bz_mn t i 4))), (0, .ref (ad 0)), (1, .int (nI (bz_ct (bz_wh t) 4))), (2, .long (lN (bz_sm (bz_lg t) i))), (4, .long (lN (bz_mx (bz_lg t) i))), (6, .int (nI i))]) hx hb d_B_bound_45 hl (by decide) rfl (fun ls hl => ?_)
          refine lv_lload_n hx hb d_B_bound_47 rfl (lv_at hl 3 rfl) ?_
          refine lv_lload hx hb d_B_bound_48 (lv_at hl 0 rfl) ?_
          refine lv_ladd hx hb d_B_bound_50 ?_
          refine bz_rl (y := lN (bz_sm (bz_lg t) (i + 1))) (lN_add _ _) ?_
          refine lv_lstore_n (lv' := [(2, .long (lN (bz_sm (bz_lg t) (i + 1)))), (7, .long (lN (bz_mn t i 4))), (0, .ref (ad 0)), (1, .int (nI (bz_ct (bz_wh t) 4))), (4, .long (lN (bz_mx (bz_lg t) i))), (6, .int (nI i))]) hx hb d_B_bound_51 rfl hl (by decide) rfl (fun ls hl => ?_)
          refine lv_lload hx hb d_B_bound_52 (lv_at hl 4 rfl) ?_
          refine lv_lload hx hb d_B_bound_54 (lv_at hl 1 rfl) ?_
          refine va_mmax_long hx hb (hml.trans hl.1.symm) hown (htb _ wd_299) (htb _ wd_241) (htb _ wd_25) (htb _ wd_242) (Nat.le_of_ble_eq_true rfl) (Nat.le_of_ble_eq_true rfl) (Nat.le_of_ble_eq_true rfl) (Nat.le_of_ble_eq_true rfl) d_B_bound_56 ?_
          refine bz_rl (y := lN (bz_mx (bz_lg t) (i + 1))) (bz_lmax (b := bz_lg t i) (by omega) (by omega)) ?_
          refine lv_lstore (lv' := [(4, .long (lN (bz_mx (bz_lg t) (i + 1)))), (2, .long (lN (bz_sm (bz_lg t) (i + 1)))), (7, .long (lN (bz_mn t i 4))), (0, .ref (ad 0)), (1, .int (nI (bz_ct (bz_wh t) 4))), (6, .int (nI i))]) hx hb d_B_bound_59 hl (by decide) rfl (fun ls hl => ?_)
          refine lv_iinc (v := nI (i + 1)) (lv' := [(6, .int (nI (i + 1))), (4, .long (lN (bz_mx (bz_lg t) (i + 1)))), (2, .long (lN (bz_sm (bz_lg t) (i + 1)))), (7, .long (lN (bz_mn t i 4))), (0, .ref (ad 0)), (1, .int (nI (bz_ct (bz_wh t) 4)))]) hx hb d_B_bound_61 hl (k := 5) rfl (nI_1 _) (by decide) rfl (fun ls hl => ?_)
          refine lv_goto (tgt := 24) hx hb d_B_bound_64 (by decide) ?_
          exact ihlp (i + 1) (by omega) (by omega) ls (lv_sub hl [4, 5, 2, 1, 0] rfl)
    exact lp _ 0 (Nat.lt_succ_self _) (by omega) ls (lv_sub hl [4, 3, 2, 1, 0] rfl)
  · skip
    have hc0 : bz_ct (bz_wh t) 4 = 0 := Classical.byContradiction fun z => c_9 ((nI_ltI (a := 0) (by omega) (by omega)).mpr (by omega))
    refine lv_ldc2 (v := (-1)) hx hb hown (htb _ wd_290) d_B_bound_12 ?_
    exact W.lret (v := (-1)) hx hb hr (fun t9 ht9 hW => ⟨(-1), rfl, by rw [if_pos hc0], ht9⟩) (fun _ h => nomatch h) d_B_bound_15

set_option maxHeartbeats 4000000 in
set_option maxRecDepth 100000 in
/-- tooLarge, none -/
theorem c_B_tooLarge_o (l : Launch) (dC : Nat → ClassId) (dI : Nat → Nat → Nat) (ad : Nat → Nat) (cI cL : ClassId) (t : bz_T) (R : bz_RS) (L : (Nat → Int32) × Int64) (v : Int32) (ht : bz_ok t) (z : Int32) (hz : z < 0 ∨ bz_ct (bz_wh t) 4 = 0) : Met l y_B_tooLarge w_B_tooLarge ({ frames := 3, cells := 0, slots := 0, locals := 66 }) (bz_Pr (dC, dI) [(cI, .int), (cL, .long)] (bz_wB ad cI cL (bz_tR t) R L v) [.ref (ad 0), .int z]) (vp_Si (fun r9 => r9 = 0)) 0 0 (fun _ => False) := by
  refine Met.ofW (cc := b_B_tooLarge) (maxL := 4) (ret := (some .int)) (by decide) rfl ?_
  intro p e s m args below meth c s₁ B hml hv
  obtain ⟨rfl, hP, hK, hN⟩ := hv
  have hx := B.exec
  have hb := B.bytes
  have hr := B.returns
  have hts := atoms_spec (ws := w_B_tooLarge) B.pre
  have hown : s.vm.findClass R_B = some m.cls := findClass_of_methodNamed B.named
  have htb : ∀ w ∈ bz_tb, w.before _ s = true := fun w h => hts w (List.mem_cons_of_mem _ h)
  have hlocks := B.notSynchronized
  have hl := lv_entry ([.ref (ad 0), .int z]) (n := 4) (Nat.le_of_ble_eq_true rfl)
  rw [lg_entry_eq]
  generalize (lg_sl ([.ref (ad 0), .int z]) ++ List.replicate (4 - (lg_sl ([.ref (ad 0), .int z])).length) Slot.unset).toArray = ls at hl ⊢
  have hl : lv_has ls 4 [(0, .ref (ad 0)), (1, .int z)] := hl
  have hcc := bz_ct_le (bz_wh t) 4
  refine lv_iload_n hx hb d_B_tooLarge_0 rfl (lv_at hl 1 rfl) ?_
  refine lv_if_lt (tgt := 14) hx hb d_B_tooLarge_1 (by decide) (fun c_1 => ?_) (fun c_1 => ?_)
  · skip
    refine lv_iconst (v := 0) hx hb d_B_tooLarge_14 (by decide) ?_
    exact W.iret (v := 0) hx hb hr (fun t9 ht9 hW => ⟨0, rfl, rfl, ht9⟩) (fun _ h => nomatch h) d_B_tooLarge_15
  · skip
    refine lv_aload_n hx hb d_B_tooLarge_4 rfl (lv_at hl 0 rfl) ?_
    refine va_get (D := (dC, dI)) (ci := 3) (v := .ref (ad 1)) (C := R_B) (T := F_B) (N := 4) hx hb htb in_B hown hK hP 0 rfl rfl 0 (by decide) (htb _ wd_117) (fun _ h9 => h9) rfl d_B_tooLarge_5 ?_
    refine bz_si (va_runV (As := []) (rest := []) ⟨hx, hb, hml, hown, htb⟩ (c_T_roundsWithHours l dC dI ad cI cL t R L v ht) (cwV 0 htb (bz_gV wd_220 wd_289 wd_218 wd_219 wd_20) rfl rfl rfl (by decide +kernel) ⟨Nat.le_of_ble_eq_true rfl, Nat.le_of_ble_eq_true rfl⟩) (bz_rv hN hK hP (q0 := 1) rfl rfl) rfl rfl hl.1 rfl (lv_room (Nat.le_of_ble_eq_true rfl)) d_B_tooLarge_8 ⟨Nat.zero_le _, Nat.zero_le _⟩) ?_
    refine lv_if_ne (tgt := 16) hx hb d_B_tooLarge_11 (by decide) (fun c_11 => ?_) (fun c_11 => ?_)
    · skip
      exact absurd (hz.elim (fun y => absurd y c_1) (fun y => by rw [y]; rfl)) c_11
    · skip
      refine lv_iconst (v := 0) hx hb d_B_tooLarge_14 (by decide) ?_
      exact W.iret (v := 0) hx hb hr (fun t9 ht9 hW => ⟨0, rfl, rfl, ht9⟩) (fun _ h => nomatch h) d_B_tooLarge_15

set_option maxHeartbeats 4000000 in
set_option maxRecDepth 100000 in
/-- tooLarge -/
theorem c_B_tooLarge (l : Launch) (dC : Nat → ClassId) (dI : Nat → Nat → Nat) (ad : Nat → Nat) (cI cL : ClassId) (t : bz_T) (R : bz_RS) (L : (Nat → Int32) × Int64) (v : Int32) (ht : bz_ok t) (i0 : Nat) (hi0 : i0 < 2 ^ 31) (hc0 : ¬ bz_ct (bz_wh t) 4 = 0) : Met l y_B_tooLarge w_B_tooLarge ({ frames := 3, cells := 0, slots := 0, locals := 66 }) (bz_Pr (dC, dI) [(cI, .int), (cL, .long)] (bz_wB ad cI cL (bz_tR t) R L v) [.ref (ad 0), .int (nI i0)]) (vp_Si (fun r9 => r9 = nI (bz_it (fun a => bz_tl t a 4) i0 (bz_n t) 0 0))) 0 0 (fun _ => False) := by
  refine Met.ofW (cc := b_B_tooLarge) (maxL := 4) (ret := (some .int)) (by decide) rfl ?_
  intro p e s m args below meth c s₁ B hml hv
  obtain ⟨rfl, hP, hK, hN⟩ := hv
  have hx := B.exec
  have hb := B.bytes
  have hr := B.returns
  have hts := atoms_spec (ws := w_B_tooLarge) B.pre
  have hown : s.vm.findClass R_B = some m.cls := findClass_of_methodNamed B.named
  have htb : ∀ w ∈ bz_tb, w.before _ s = true := fun w h => hts w (List.mem_cons_of_mem _ h)
  have hlocks := B.notSynchronized
  have hl := lv_entry ([.ref (ad 0), .int (nI i0)]) (n := 4) (Nat.le_of_ble_eq_true rfl)
  rw [lg_entry_eq]
  generalize (lg_sl ([.ref (ad 0), .int (nI i0)]) ++ List.replicate (4 - (lg_sl ([.ref (ad 0), .int (nI i0)])).length) Slot.unset).toArray = ls at hl ⊢
  have hl : lv_has ls 4 [(0, .ref (ad 0)), (1, .int (nI i0))] := hl
  have hn30 := ht.1
  have hcc := bz_ct_le (bz_wh t) 4
  refine lv_iload_n hx hb d_B_tooLarge_0 rfl (lv_at hl 1 rfl) ?_
  refine lv_if_lt (tgt := 14) hx hb d_B_tooLarge_1 (by decide) (fun c_1 => ?_) (fun c_1 => ?_)
  · skip
    exact absurd c_1 (nI_pos hi0)
  · skip
    refine lv_aload_n hx hb d_B_tooLarge_4 rfl (lv_at hl 0 rfl) ?_
    refine va_get (D := (dC, dI)) (ci := 3) (v := .ref (ad 1)) (C := R_B) (T := F_B) (N := 4) hx hb htb in_B hown hK hP 0 rfl rfl 0 (by decide) (htb _ wd_117) (fun _ h9 => h9) rfl d_B_tooLarge_5 ?_
    refine bz_si (va_runV (As := []) (rest := []) ⟨hx, hb, hml, hown, htb⟩ (c_T_roundsWithHours l dC dI ad cI cL t R L v ht) (cwV 0 htb (bz_gV wd_220 wd_289 wd_218 wd_219 wd_20) rfl rfl rfl (by decide +kernel) ⟨Nat.le_of_ble_eq_true rfl, Nat.le_of_ble_eq_true rfl⟩) (bz_rv hN hK hP (q0 := 1) rfl rfl) rfl rfl hl.1 rfl (lv_room (Nat.le_of_ble_eq_true rfl)) d_B_tooLarge_8 ⟨Nat.zero_le _, Nat.zero_le _⟩) ?_
    refine lv_if_ne (tgt := 16) hx hb d_B_tooLarge_11 (by decide) (fun c_11 => ?_) (fun c_11 => ?_)
    · skip
      refine lv_iconst (v := nI 0) hx hb d_B_tooLarge_16 (by decide) ?_
      refine lv_istore_n (lv' := [(2, .int (nI 0)), (0, .ref (ad 0)), (1, .int (nI i0))]) hx hb d_B_tooLarge_17 rfl hl (by decide) rfl (fun ls hl => ?_)
      refine lv_iconst (v := nI 0) hx hb d_B_tooLarge_18 (by decide) ?_
      refine lv_istore_n (lv' := [(3, .int (nI 0)), (2, .int (nI 0)), (0, .ref (ad 0)), (1, .int (nI i0))]) hx hb d_B_tooLarge_19 rfl hl (by decide) rfl (fun ls hl => ?_)
      have lp : ∀ (k9 : Nat) (i : Nat) (cn : Nat), bz_n t - i < k9 → (i ≤ bz_n t) → (cn ≤ i) → (bz_it (fun a => bz_tl t a 4) i0 (bz_n t) 0 0 = bz_it (fun a => bz_tl t a 4) i0 (bz_n t - i) i cn) → ∀ (ls : Array Slot), lv_has ls 4 [(0, .ref (ad 0)), (1, .int (nI i0)), (2, .int (nI cn)), (3, .int (nI i))] → W p l e (headSpec w_B_tooLarge ({ frames := 3, cells := 0, slots := 0, locals := 66 })).room s m ([.ref (ad 0), .int (nI i0)]).toArray below meth c s.heap [] 0 0 (MQ below (vp_Si (fun r9 => r9 = nI (bz_it (fun a => bz_tl t a 4) i0 (bz_n t) 0 0))) ([.ref (ad 0), .int (nI i0)]).toArray s 0 0 (fun _ => False)) (F0 m 20 ls []) := by
        intro k9
        induction k9 with
        | zero =>
          intro i cn h9
          exact absurd h9 (Nat.not_lt_zero _)
        | succ k9 ihlp =>
          intro i cn h9_lp hi hc hit ls hl
          refine lv_iload_n hx hb d_B_tooLarge_20 rfl (lv_at hl 3 rfl) ?_
          refine lv_aload_n hx hb d_B_tooLarge_21 rfl (lv_at hl 0 rfl) ?_
          refine va_get (D := (dC, dI)) (ci := 3) (v := .ref (ad 1)) (C := R_B) (T := F_B) (N := 4) hx hb htb in_B hown hK hP 0 rfl rfl 0 (by decide) (htb _ wd_117) (fun _ h9 => h9) rfl d_B_tooLarge_22 ?_
          refine va_getN (D := (dC, dI)) (ci := 2) (v := .int (nI (bz_n t))) (C := R_T) (T := F_T) (N := 6) hx hb htb in_T hown hK hP 1 rfl rfl 5 (by decide) (va_Nw.use rfl (hN _ nd_57)) (fun _ h9 => h9) rfl d_B_tooLarge_25 ?_
          refine lv_icmp_ge (tgt := 60) hx hb d_B_tooLarge_28 (by decide) (fun c_28 => ?_) (fun c_28 => ?_)
          · skip
            have hin : i = bz_n t := by have := (nI_leI (by omega) (by omega)).mp c_28; omega
            refine lv_iconst (v := 0) hx hb d_B_tooLarge_60 (by decide) ?_
            exact W.iret (v := 0) hx hb hr (fun t9 ht9 hW => ⟨0, rfl, by rw [hit, hin, Nat.sub_self]; rfl, ht9⟩) (fun _ h => nomatch h) d_B_tooLarge_61
          · skip
            have hin : i < bz_n t := Nat.lt_of_not_le fun z => c_28 ((nI_leI (by omega) (by omega)).mpr z)
            refine lv_aload_n hx hb d_B_tooLarge_31 rfl (lv_at hl 0 rfl) ?_
            refine va_get (D := (dC, dI)) (ci := 3) (v := .ref (ad 1)) (C := R_B) (T := F_B) (N := 4) hx hb htb in_B hown hK hP 0 rfl rfl 0 (by decide) (htb _ wd_117) (fun _ h9 => h9) rfl d_B_tooLarge_32 ?_
            refine lv_iload_n hx hb d_B_tooLarge_35 rfl (lv_at hl 3 rfl) ?_
            refine bz_si (va_runV (As := [.int (nI i)]) (rest := []) ⟨hx, hb, hml, hown, htb⟩ (c_T_fitsNowhere l dC dI ad cI cL t R L v ht _ (by omega)) (cwV 1 htb (bz_gV wd_307 wd_304 wd_305 wd_306 wd_20) rfl rfl rfl (by decide +kernel) ⟨Nat.le_of_ble_eq_true rfl, Nat.le_of_ble_eq_true rfl⟩) (bz_rv hN hK hP (q0 := 1) rfl rfl) rfl rfl hl.1 rfl (lv_room (Nat.le_of_ble_eq_true rfl)) d_B_tooLarge_36 ⟨Nat.zero_le _, Nat.zero_le _⟩) ?_
            refine lv_if_eq (tgt := 54) hx hb d_B_tooLarge_39 (by decide) (fun c_39 => ?_) (fun c_39 => ?_)
            · skip
              have hf1 : bz_tl t i 4 = false := bz_i_eq c_39
              refine lv_iinc (v := nI (i + 1)) (lv' := [(3, .int (nI (i + 1))), (0, .ref (ad 0)), (1, .int (nI i0)), (2, .int (nI cn))]) hx hb d_B_tooLarge_54 hl (k := 3) rfl (nI_1 _) (by decide) rfl (fun ls hl => ?_)
              refine lv_goto (tgt := 20) hx hb d_B_tooLarge_57 (by decide) ?_
              exact ihlp (i + 1) cn (by omega) (by omega) (by omega) (by rw [hit, show bz_n t - i = bz_n t - (i + 1) + 1 by omega, bz_it_f (f := (fun a => bz_tl t a 4)) hf1]) ls (lv_sub hl [1, 2, 3, 0] rfl)
            · skip
              have hf1 : bz_tl t i 4 = true := bz_i_ne c_39
              refine lv_iload_n hx hb d_B_tooLarge_42 rfl (lv_at hl 2 rfl) ?_
              refine lv_iload_n hx hb d_B_tooLarge_43 rfl (lv_at hl 1 rfl) ?_
              refine lv_icmp_ne (tgt := 51) hx hb d_B_tooLarge_44 (by decide) (fun c_44 => ?_) (fun c_44 => ?_)
              · skip
                have hci : ¬ cn = i0 := fun z => c_44 (by rw [z])
                refine lv_iinc (v := nI (cn + 1)) (lv' := [(2, .int (nI (cn + 1))), (0, .ref (ad 0)), (1, .int (nI i0)), (3, .int (nI i))]) hx hb d_B_tooLarge_51 hl (k := 2) rfl (nI_1 _) (by decide) rfl (fun ls hl => ?_)
                refine lv_iinc (v := nI (i + 1)) (lv' := [(3, .int (nI (i + 1))), (2, .int (nI (cn + 1))), (0, .ref (ad 0)), (1, .int (nI i0))]) hx hb d_B_tooLarge_54 hl (k := 3) rfl (nI_1 _) (by decide) rfl (fun ls hl => ?_)
                refine lv_goto (tgt := 20) hx hb d_B_tooLarge_57 (by decide) ?_
                exact ihlp (i + 1) (cn + 1) (by omega) (by omega) (by omega) (by rw [hit, show bz_n t - i = bz_n t - (i + 1) + 1 by omega, bz_it_n (f := (fun a => bz_tl t a 4)) hf1 hci]) ls (lv_sub hl [2, 3, 1, 0] rfl)
              · skip
                have hci : cn = i0 := (nI_eq (by omega) hi0).mp c_44
                refine lv_iload_n hx hb d_B_tooLarge_47 rfl (lv_at hl 3 rfl) ?_
                refine lv_iconst (v := 1) hx hb d_B_tooLarge_48 (by decide) ?_
                refine lv_iadd hx hb d_B_tooLarge_49 ?_
                refine bz_ri (y := nI (i + 1)) (nI_1 _) ?_
                exact W.iret (v := nI (i + 1)) hx hb hr (fun t9 ht9 hW => ⟨nI (i + 1), rfl, by rw [hit, show bz_n t - i = bz_n t - (i + 1) + 1 by omega, hci, bz_it_y (f := (fun a => bz_tl t a 4)) hf1], ht9⟩) (fun _ h => nomatch h) d_B_tooLarge_50
      exact lp _ 0 0 (Nat.lt_succ_self _) (by omega) (by omega) (rfl) ls (lv_sub hl [2, 3, 1, 0] rfl)
    · skip
      exact absurd ((nI_eq (b := 0) (by omega) (by omega)).mp c_11) hc0
