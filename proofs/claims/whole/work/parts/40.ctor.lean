theorem d_T_init_0 : decode b_T_init 0 = .ok (.aload_n 0, 1) := by decide +kernel
theorem d_T_init_1 : decode b_T_init 1 = .ok (.invokespecial 3, 3) := by decide +kernel
theorem d_T_init_4 : decode b_T_init 4 = .ok (.aload_n 0, 1) := by decide +kernel
theorem d_T_init_5 : decode b_T_init 5 = .ok (.bipush 30, 2) := by decide +kernel
theorem d_T_init_7 : decode b_T_init 7 = .ok (.newarray .long, 2) := by decide +kernel
theorem d_T_init_9 : decode b_T_init 9 = .ok (.putfield 9, 3) := by decide +kernel
theorem d_T_init_12 : decode b_T_init 12 = .ok (.aload_n 0, 1) := by decide +kernel
theorem d_T_init_13 : decode b_T_init 13 = .ok (.bipush 30, 2) := by decide +kernel
theorem d_T_init_15 : decode b_T_init 15 = .ok (.newarray .int, 2) := by decide +kernel
theorem d_T_init_17 : decode b_T_init 17 = .ok (.putfield 15, 3) := by decide +kernel
theorem d_T_init_20 : decode b_T_init 20 = .ok (.aload_n 0, 1) := by decide +kernel
theorem d_T_init_21 : decode b_T_init 21 = .ok (.bipush 30, 2) := by decide +kernel
theorem d_T_init_23 : decode b_T_init 23 = .ok (.newarray .int, 2) := by decide +kernel
theorem d_T_init_25 : decode b_T_init 25 = .ok (.putfield 19, 3) := by decide +kernel
theorem d_T_init_28 : decode b_T_init 28 = .ok (.aload_n 0, 1) := by decide +kernel
theorem d_T_init_29 : decode b_T_init 29 = .ok (.iconst 4, 1) := by decide +kernel
theorem d_T_init_30 : decode b_T_init 30 = .ok (.newarray .int, 2) := by decide +kernel
theorem d_T_init_32 : decode b_T_init 32 = .ok (.putfield 22, 3) := by decide +kernel
theorem d_T_init_35 : decode b_T_init 35 = .ok (.aload_n 0, 1) := by decide +kernel
theorem d_T_init_36 : decode b_T_init 36 = .ok (.iconst 4, 1) := by decide +kernel
theorem d_T_init_37 : decode b_T_init 37 = .ok (.newarray .long, 2) := by decide +kernel
theorem d_T_init_39 : decode b_T_init 39 = .ok (.putfield 25, 3) := by decide +kernel
theorem d_T_init_42 : decode b_T_init 42 = .ok (.aload_n 0, 1) := by decide +kernel
theorem d_T_init_43 : decode b_T_init 43 = .ok (.iconst 0, 1) := by decide +kernel
theorem d_T_init_44 : decode b_T_init 44 = .ok (.putfield 28, 3) := by decide +kernel
theorem d_T_init_47 : decode b_T_init 47 = .ok (.return_, 1) := by decide +kernel
theorem d_S_init_0 : decode b_S_init 0 = .ok (.aload_n 0, 1) := by decide +kernel
theorem d_S_init_1 : decode b_S_init 1 = .ok (.invokespecial 3, 3) := by decide +kernel
theorem d_S_init_4 : decode b_S_init 4 = .ok (.aload_n 0, 1) := by decide +kernel
theorem d_S_init_5 : decode b_S_init 5 = .ok (.bipush 30, 2) := by decide +kernel
theorem d_S_init_7 : decode b_S_init 7 = .ok (.newarray .int, 2) := by decide +kernel
theorem d_S_init_9 : decode b_S_init 9 = .ok (.putfield 9, 3) := by decide +kernel
theorem d_S_init_12 : decode b_S_init 12 = .ok (.aload_n 0, 1) := by decide +kernel
theorem d_S_init_13 : decode b_S_init 13 = .ok (.iconst 4, 1) := by decide +kernel
theorem d_S_init_14 : decode b_S_init 14 = .ok (.newarray .int, 2) := by decide +kernel
theorem d_S_init_16 : decode b_S_init 16 = .ok (.putfield 15, 3) := by decide +kernel
theorem d_S_init_19 : decode b_S_init 19 = .ok (.aload_n 0, 1) := by decide +kernel
theorem d_S_init_20 : decode b_S_init 20 = .ok (.iconst 4, 1) := by decide +kernel
theorem d_S_init_21 : decode b_S_init 21 = .ok (.newarray .long, 2) := by decide +kernel
theorem d_S_init_23 : decode b_S_init 23 = .ok (.putfield 18, 3) := by decide +kernel
theorem d_S_init_26 : decode b_S_init 26 = .ok (.aload_n 0, 1) := by decide +kernel
theorem d_S_init_27 : decode b_S_init 27 = .ok (.iconst 0, 1) := by decide +kernel
theorem d_S_init_28 : decode b_S_init 28 = .ok (.putfield 22, 3) := by decide +kernel
theorem d_S_init_31 : decode b_S_init 31 = .ok (.aload_n 0, 1) := by decide +kernel
theorem d_S_init_32 : decode b_S_init 32 = .ok (.iconst 0, 1) := by decide +kernel
theorem d_S_init_33 : decode b_S_init 33 = .ok (.putfield 26, 3) := by decide +kernel
theorem d_S_init_36 : decode b_S_init 36 = .ok (.aload_n 0, 1) := by decide +kernel
theorem d_S_init_37 : decode b_S_init 37 = .ok (.aload_n 1, 1) := by decide +kernel
theorem d_S_init_38 : decode b_S_init 38 = .ok (.putfield 29, 3) := by decide +kernel
theorem d_S_init_41 : decode b_S_init 41 = .ok (.return_, 1) := by decide +kernel
theorem d_Le_init_0 : decode b_Le_init 0 = .ok (.aload_n 0, 1) := by decide +kernel
theorem d_Le_init_1 : decode b_Le_init 1 = .ok (.invokespecial 3, 3) := by decide +kernel
theorem d_Le_init_4 : decode b_Le_init 4 = .ok (.aload_n 0, 1) := by decide +kernel
theorem d_Le_init_5 : decode b_Le_init 5 = .ok (.bipush 8, 2) := by decide +kernel
theorem d_Le_init_7 : decode b_Le_init 7 = .ok (.newarray .int, 2) := by decide +kernel
theorem d_Le_init_9 : decode b_Le_init 9 = .ok (.putfield 9, 3) := by decide +kernel
theorem d_Le_init_12 : decode b_Le_init 12 = .ok (.aload_n 0, 1) := by decide +kernel
theorem d_Le_init_13 : decode b_Le_init 13 = .ok (.lconst 0, 1) := by decide +kernel
theorem d_Le_init_14 : decode b_Le_init 14 = .ok (.putfield 15, 3) := by decide +kernel
theorem d_Le_init_17 : decode b_Le_init 17 = .ok (.return_, 1) := by decide +kernel
theorem d_B_init_0 : decode b_B_init 0 = .ok (.aload_n 0, 1) := by decide +kernel
theorem d_B_init_1 : decode b_B_init 1 = .ok (.invokespecial 3, 3) := by decide +kernel
theorem d_B_init_4 : decode b_B_init 4 = .ok (.aload_n 0, 1) := by decide +kernel
theorem d_B_init_5 : decode b_B_init 5 = .ok (.new 9, 3) := by decide +kernel
theorem d_B_init_8 : decode b_B_init 8 = .ok (.dup, 1) := by decide +kernel
theorem d_B_init_9 : decode b_B_init 9 = .ok (.invokespecial 11, 3) := by decide +kernel
theorem d_B_init_12 : decode b_B_init 12 = .ok (.putfield 12, 3) := by decide +kernel
theorem d_B_init_15 : decode b_B_init 15 = .ok (.aload_n 0, 1) := by decide +kernel
theorem d_B_init_16 : decode b_B_init 16 = .ok (.new 16, 3) := by decide +kernel
theorem d_B_init_19 : decode b_B_init 19 = .ok (.dup, 1) := by decide +kernel
theorem d_B_init_20 : decode b_B_init 20 = .ok (.aload_n 0, 1) := by decide +kernel
theorem d_B_init_21 : decode b_B_init 21 = .ok (.getfield 12, 3) := by decide +kernel
theorem d_B_init_24 : decode b_B_init 24 = .ok (.invokespecial 18, 3) := by decide +kernel
theorem d_B_init_27 : decode b_B_init 27 = .ok (.putfield 21, 3) := by decide +kernel
theorem d_B_init_30 : decode b_B_init 30 = .ok (.aload_n 0, 1) := by decide +kernel
theorem d_B_init_31 : decode b_B_init 31 = .ok (.new 25, 3) := by decide +kernel
theorem d_B_init_34 : decode b_B_init 34 = .ok (.dup, 1) := by decide +kernel
theorem d_B_init_35 : decode b_B_init 35 = .ok (.invokespecial 27, 3) := by decide +kernel
theorem d_B_init_38 : decode b_B_init 38 = .ok (.putfield 28, 3) := by decide +kernel
theorem d_B_init_41 : decode b_B_init 41 = .ok (.aload_n 0, 1) := by decide +kernel
theorem d_B_init_42 : decode b_B_init 42 = .ok (.iconst 0, 1) := by decide +kernel
theorem d_B_init_43 : decode b_B_init 43 = .ok (.putfield 32, 3) := by decide +kernel
theorem d_B_init_46 : decode b_B_init 46 = .ok (.return_, 1) := by decide +kernel
theorem d_M_init_0 : decode b_M_init 0 = .ok (.aload_n 0, 1) := by decide +kernel
theorem d_M_init_1 : decode b_M_init 1 = .ok (.invokespecial 1, 3) := by decide +kernel
theorem d_M_init_4 : decode b_M_init 4 = .ok (.aload_n 0, 1) := by decide +kernel
theorem d_M_init_5 : decode b_M_init 5 = .ok (.bipush 30, 2) := by decide +kernel
theorem d_M_init_7 : decode b_M_init 7 = .ok (.newarray .long, 2) := by decide +kernel
theorem d_M_init_9 : decode b_M_init 9 = .ok (.putfield 7, 3) := by decide +kernel
theorem d_M_init_12 : decode b_M_init 12 = .ok (.aload_n 0, 1) := by decide +kernel
theorem d_M_init_13 : decode b_M_init 13 = .ok (.bipush 30, 2) := by decide +kernel
theorem d_M_init_15 : decode b_M_init 15 = .ok (.newarray .int, 2) := by decide +kernel
theorem d_M_init_17 : decode b_M_init 17 = .ok (.putfield 13, 3) := by decide +kernel
theorem d_M_init_20 : decode b_M_init 20 = .ok (.aload_n 0, 1) := by decide +kernel
theorem d_M_init_21 : decode b_M_init 21 = .ok (.sipush 900, 3) := by decide +kernel
theorem d_M_init_24 : decode b_M_init 24 = .ok (.newarray .boolean, 2) := by decide +kernel
theorem d_M_init_26 : decode b_M_init 26 = .ok (.putfield 17, 3) := by decide +kernel
theorem d_M_init_29 : decode b_M_init 29 = .ok (.aload_n 0, 1) := by decide +kernel
theorem d_M_init_30 : decode b_M_init 30 = .ok (.bipush 120, 2) := by decide +kernel
theorem d_M_init_32 : decode b_M_init 32 = .ok (.newarray .boolean, 2) := by decide +kernel
theorem d_M_init_34 : decode b_M_init 34 = .ok (.putfield 21, 3) := by decide +kernel
theorem d_M_init_37 : decode b_M_init 37 = .ok (.aload_n 0, 1) := by decide +kernel
theorem d_M_init_38 : decode b_M_init 38 = .ok (.iconst 4, 1) := by decide +kernel
theorem d_M_init_39 : decode b_M_init 39 = .ok (.newarray .long, 2) := by decide +kernel
theorem d_M_init_41 : decode b_M_init 41 = .ok (.putfield 24, 3) := by decide +kernel
theorem d_M_init_44 : decode b_M_init 44 = .ok (.aload_n 0, 1) := by decide +kernel
theorem d_M_init_45 : decode b_M_init 45 = .ok (.bipush 30, 2) := by decide +kernel
theorem d_M_init_47 : decode b_M_init 47 = .ok (.newarray .int, 2) := by decide +kernel
theorem d_M_init_49 : decode b_M_init 49 = .ok (.putfield 27, 3) := by decide +kernel
theorem d_M_init_52 : decode b_M_init 52 = .ok (.aload_n 0, 1) := by decide +kernel
theorem d_M_init_53 : decode b_M_init 53 = .ok (.bipush 30, 2) := by decide +kernel
theorem d_M_init_55 : decode b_M_init 55 = .ok (.newarray .int, 2) := by decide +kernel
theorem d_M_init_57 : decode b_M_init 57 = .ok (.putfield 30, 3) := by decide +kernel
theorem d_M_init_60 : decode b_M_init 60 = .ok (.aload_n 0, 1) := by decide +kernel
theorem d_M_init_61 : decode b_M_init 61 = .ok (.bipush 30, 2) := by decide +kernel
theorem d_M_init_63 : decode b_M_init 63 = .ok (.newarray .boolean, 2) := by decide +kernel
theorem d_M_init_65 : decode b_M_init 65 = .ok (.putfield 33, 3) := by decide +kernel
theorem d_M_init_68 : decode b_M_init 68 = .ok (.aload_n 0, 1) := by decide +kernel
theorem d_M_init_69 : decode b_M_init 69 = .ok (.iconst 0, 1) := by decide +kernel
theorem d_M_init_70 : decode b_M_init 70 = .ok (.putfield 36, 3) := by decide +kernel
theorem d_M_init_73 : decode b_M_init 73 = .ok (.return_, 1) := by decide +kernel

section BZN
variable {p : Program} {l : Launch} {e : Env} {R : Room} {s : State} {m : MethodId} {args : Array Value} {below : List Frame} {meth : Method} {c : Code} {H : Heap} {locs : List Loc} {cells slots : Nat} {Q : State → Prop}
variable {pc : Nat} {ls : Array Slot} {rest st0 : List Value} {D : va_G} {cl : List vw_C} {tys : List (ClassId × FieldType)} {ws : va_W} {cc : ByteArray} {A : Nat → Prop} {H0 : Heap}
theorem bz_newa (hexec : p.tables.exec = Jvm.exec) (hb : c.code = cc) {atype : ArrayType} (harr : (Cond.arrayClass (newarray.typeOf atype)).before args s = true) (t0 : Nat) {cI : ClassId} (ht : tys[t0]? = some (cI, newarray.typeOf atype)) (hK : va_K D cl tys s) (hP : va_P D cl ws H) (hD : va_D A ws) (hS : va_S A H0 H locs) (hA : ∀ q, H0.size ≤ q → A q)
    {n : Int32} {N' : Nat} {a0 : vp_A} (ha : ∀ cA : ClassId, vp_cell cA a0 = arrV cA N' (fun _ => defaultValue (newarray.typeOf atype))) (hn : ¬ n < 0) (hN : n.toNatClampNeg = N') (hbytes : N' * componentBytes (newarray.typeOf atype) ≤ 536870912) (hcells : cells + 1 ≤ R.cells) (hslots : slots + N' ≤ R.slots) (hdg : decode cc pc = .ok (.newarray atype, 2))
    (kk : ∀ (q : Nat) (H1 : Heap), va_P D cl (ws ++ [(q, .inl (cI, a0))]) H1 → va_D A (ws ++ [(q, .inl (cI, a0))]) → va_S A H0 H1 locs →
      W p l e R s m args below meth c H1 locs (cells + 1) (slots + N') Q (F0 m (pc + 2) ls (.ref q :: rest))) : W p l e R s m args below meth c H locs cells slots Q (F0 m pc ls (.int n :: rest)) := by
  refine va_newa hexec hb harr rfl hK hP hD hS hA ha hn hN hbytes hcells hslots hdg fun q cA H1 hK1 hP1 hD1 hS1 => ?_
  have h1 := (hK1.2 tys.length (cA, newarray.typeOf atype) (by simp)).2
  have h2 := (hK.2 t0 _ ht).2
  have e : cA = cI := by
    cases atype <;> exact Option.some.inj (h1.symm.trans h2)
  subst e
  exact kk q H1 hP1 hD1 hS1
end BZN
theorem bz_a0i {N : Nat} (cA : ClassId) : vp_cell cA (N, .inl (fun _ => 0)) = arrV cA N (fun _ => defaultValue .int) := rfl
theorem bz_a0z {N : Nat} (cA : ClassId) : vp_cell cA (N, .inl (fun _ => 0)) = arrV cA N (fun _ => defaultValue .boolean) := rfl
theorem bz_a0l {N : Nat} (cA : ClassId) : vp_cell cA (N, .inr (.inl (fun _ => 0))) = arrV cA N (fun _ => defaultValue .long) := rfl

set_option maxHeartbeats 4000000 in
set_option maxRecDepth 100000 in
theorem c_T_init (l : Launch) (dC : Nat → ClassId) (dI : Nat → Nat → Nat) (sz : Nat) (cI cL : ClassId) (h0 : Nat) : Met l y_T_init w_T_init ({ frames := 1, cells := 5, slots := 98, locals := 12 }) (bz_Pw (dC, dI) [(cI, .int), (cL, .long)] [(h0, .inr (2, [.null, .null, .null, .null, .null, .int 0]))] sz [.ref h0]) (bz_Qx (dC, dI) [(cI, .int), (cL, .long)] (va_A [(h0, .inr (2, [.null, .null, .null, .null, .null, .int 0]))] sz) (fun _ : Nat → Nat => True) (fun ad => [(h0, .inr (2, [.ref (ad 2), .ref (ad 3), .ref (ad 4), .ref (ad 5), .ref (ad 6), .int 0])), (ad 2, .inl (cL, 30, .inr (.inl (fun _ => 0)))), (ad 3, .inl (cI, 30, .inl (fun _ => 0))), (ad 4, .inl (cI, 30, .inl (fun _ => 0))), (ad 5, .inl (cI, 4, .inl (fun _ => 0))), (ad 6, .inl (cL, 4, .inr (.inl (fun _ => 0))))])) 5 98 (va_A [(h0, .inr (2, [.null, .null, .null, .null, .null, .int 0]))] sz) := by
  refine Met.ofW (cc := b_T_init) (maxL := 1) (ret := none) (by decide) rfl ?_
  intro p e s m args below meth c s₁ B hml hv
  obtain ⟨rfl, hsz, hP, hK, hD0, hN⟩ := hv
  have hx := B.exec
  have hb := B.bytes
  have hr := B.returns
  have hts := atoms_spec (ws := w_T_init) B.pre
  have hown : s.vm.findClass R_T = some m.cls := findClass_of_methodNamed B.named
  have htb : ∀ w ∈ bz_tb, w.before _ s = true := fun w h => hts w (List.mem_cons_of_mem _ h)
  have hlocks := B.notSynchronized
  have hin : meth.name = "<init>" := (name_of_methodNamed B.named B.method).1
  subst hsz
  have hD := hD0.self (sz := s.heap.size)
  generalize hAe : va_A [(h0, .inr (2, [.null, .null, .null, .null, .null, .int 0]))] s.heap.size = A at hD ⊢
  have hA : ∀ q : Nat, s.heap.size ≤ q → A q := fun q h => by rw [← hAe]; exact Or.inr h
  have hS : va_S A s.heap s.heap [] := va_S.rf
  have hl := lv_entry ([.ref h0]) (n := 1) (Nat.le_of_ble_eq_true rfl)
  rw [lg_entry_eq]
  generalize (lg_sl ([.ref h0]) ++ List.replicate (1 - (lg_sl ([.ref h0])).length) Slot.unset).toArray = ls at hl ⊢
  have hl : lv_has ls 1 [(0, .ref h0)] := hl
  refine lv_aload_n hx hb d_T_init_0 rfl (lv_at hl 0 rfl) ?_
  refine W.objInit hx hb hown (htb _ wd_45) (htb _ wd_38) (htb _ wd_39) rfl (by rw [hml]; exact hl.1) rfl d_T_init_1 (Nat.le_of_ble_eq_true rfl) (Nat.le_of_ble_eq_true rfl) ?_
  refine W.eq (g2 := F0 m 4 ls []) rfl ?_
  refine lv_aload_n hx hb d_T_init_4 rfl (lv_at hl 0 rfl) ?_
  refine lv_bipush (v := 30) hx hb d_T_init_5 (by decide) ?_
  refine bz_newa (atype := .long) hx hb (htb _ wd_71) 1 rfl hK hP hD hS hA (a0 := (30, .inr (.inl (fun _ => 0)))) (bz_a0l) (by decide) (by decide) (by decide) (Nat.le_of_ble_eq_true rfl) (Nat.le_of_ble_eq_true rfl) d_T_init_7 (fun q1 H hP hD hS => ?_)
  refine W.widen (k := 1) (n := 30) (Nat.le_of_ble_eq_true rfl) (Nat.le_of_ble_eq_true rfl) ?_
  have hP : va_P (dC, dI) vwCl ([(h0, .inr (2, [.null, .null, .null, .null, .null, .int 0])), (q1, .inl (cL, 30, .inr (.inl (fun _ => 0))))]) H := hP
  have hD : va_D A ([(h0, .inr (2, [.null, .null, .null, .null, .null, .int 0])), (q1, .inl (cL, 30, .inr (.inl (fun _ => 0))))]) := hD
  refine va_putF (D := (dC, dI)) (ci := 2) (v := .ref q1) (ty := (.array .long)) (C := R_T) (T := F_T) (N := 6) hx hb htb in_T tf_T tok_T n_T hown hK hP hD hS 0 rfl rfl 0 (by decide) (htb _ wd_46) (fun _ h9 => h9) rfl hin rfl (by decide +kernel) rfl rfl (Nat.le_of_ble_eq_true rfl) d_T_init_9 (fun H locs hP hD hS => ?_)
  have hP : va_P (dC, dI) vwCl ([(h0, .inr (2, [.ref q1, .null, .null, .null, .null, .int 0])), (q1, .inl (cL, 30, .inr (.inl (fun _ => 0))))]) H := hP
  have hD : va_D A ([(h0, .inr (2, [.ref q1, .null, .null, .null, .null, .int 0])), (q1, .inl (cL, 30, .inr (.inl (fun _ => 0))))]) := hD
  refine lv_aload_n hx hb d_T_init_12 rfl (lv_at hl 0 rfl) ?_
  refine lv_bipush (v := 30) hx hb d_T_init_13 (by decide) ?_
  refine bz_newa (atype := .int) hx hb (htb _ wd_72) 0 rfl hK hP hD hS hA (a0 := (30, .inl (fun _ => 0))) (bz_a0i) (by decide) (by decide) (by decide) (Nat.le_of_ble_eq_true rfl) (Nat.le_of_ble_eq_true rfl) d_T_init_15 (fun q2 H hP hD hS => ?_)
  refine W.widen (k := 2) (n := 60) (Nat.le_of_ble_eq_true rfl) (Nat.le_of_ble_eq_true rfl) ?_
  have hP : va_P (dC, dI) vwCl ([(h0, .inr (2, [.ref q1, .null, .null, .null, .null, .int 0])), (q1, .inl (cL, 30, .inr (.inl (fun _ => 0)))), (q2, .inl (cI, 30, .inl (fun _ => 0)))]) H := hP
  have hD : va_D A ([(h0, .inr (2, [.ref q1, .null, .null, .null, .null, .int 0])), (q1, .inl (cL, 30, .inr (.inl (fun _ => 0)))), (q2, .inl (cI, 30, .inl (fun _ => 0)))]) := hD
  refine va_putF (D := (dC, dI)) (ci := 2) (v := .ref q2) (ty := (.array .int)) (C := R_T) (T := F_T) (N := 6) hx hb htb in_T tf_T tok_T n_T hown hK hP hD hS 0 rfl rfl 1 (by decide) (htb _ wd_47) (fun _ h9 => h9) rfl hin rfl (by decide +kernel) rfl rfl (Nat.le_of_ble_eq_true rfl) d_T_init_17 (fun H locs hP hD hS => ?_)
  have hP : va_P (dC, dI) vwCl ([(h0, .inr (2, [.ref q1, .ref q2, .null, .null, .null, .int 0])), (q1, .inl (cL, 30, .inr (.inl (fun _ => 0)))), (q2, .inl (cI, 30, .inl (fun _ => 0)))]) H := hP
  have hD : va_D A ([(h0, .inr (2, [.ref q1, .ref q2, .null, .null, .null, .int 0])), (q1, .inl (cL, 30, .inr (.inl (fun _ => 0)))), (q2, .inl (cI, 30, .inl (fun _ => 0)))]) := hD
  refine lv_aload_n hx hb d_T_init_20 rfl (lv_at hl 0 rfl) ?_
  refine lv_bipush (v := 30) hx hb d_T_init_21 (by decide) ?_
  refine bz_newa (atype := .int) hx hb (htb _ wd_72) 0 rfl hK hP hD hS hA (a0 := (30, .inl (fun _ => 0))) (bz_a0i) (by decide) (by decide) (by decide) (Nat.le_of_ble_eq_true rfl) (Nat.le_of_ble_eq_true rfl) d_T_init_23 (fun q3 H hP hD hS => ?_)
  refine W.widen (k := 3) (n := 90) (Nat.le_of_ble_eq_true rfl) (Nat.le_of_ble_eq_true rfl) ?_
  have hP : va_P (dC, dI) vwCl ([(h0, .inr (2, [.ref q1, .ref q2, .null, .null, .null, .int 0])), (q1, .inl (cL, 30, .inr (.inl (fun _ => 0)))), (q2, .inl (cI, 30, .inl (fun _ => 0))), (q3, .inl (cI, 30, .inl (fun _ => 0)))]) H := hP
  have hD : va_D A ([(h0, .inr (2, [.ref q1, .ref q2, .null, .null, .null, .int 0])), (q1, .inl (cL, 30, .inr (.inl (fun _ => 0)))), (q2, .inl (cI, 30, .inl (fun _ => 0))), (q3, .inl (cI, 30, .inl (fun _ => 0)))]) := hD
  refine va_putF (D := (dC, dI)) (ci := 2) (v := .ref q3) (ty := (.array .int)) (C := R_T) (T := F_T) (N := 6) hx hb htb in_T tf_T tok_T n_T hown hK hP hD hS 0 rfl rfl 2 (by decide) (htb _ wd_50) (fun _ h9 => h9) rfl hin rfl (by decide +kernel) rfl rfl (Nat.le_of_ble_eq_true rfl) d_T_init_25 (fun H locs hP hD hS => ?_)
  have hP : va_P (dC, dI) vwCl ([(h0, .inr (2, [.ref q1, .ref q2, .ref q3, .null, .null, .int 0])), (q1, .inl (cL, 30, .inr (.inl (fun _ => 0)))), (q2, .inl (cI, 30, .inl (fun _ => 0))), (q3, .inl (cI, 30, .inl (fun _ => 0)))]) H := hP
  have hD : va_D A ([(h0, .inr (2, [.ref q1, .ref q2, .ref q3, .null, .null, .int 0])), (q1, .inl (cL, 30, .inr (.inl (fun _ => 0)))), (q2, .inl (cI, 30, .inl (fun _ => 0))), (q3, .inl (cI, 30, .inl (fun _ => 0)))]) := hD
  refine lv_aload_n hx hb d_T_init_28 rfl (lv_at hl 0 rfl) ?_
  refine lv_iconst (v := 4) hx hb d_T_init_29 (by decide) ?_
  refine bz_newa (atype := .int) hx hb (htb _ wd_72) 0 rfl hK hP hD hS hA (a0 := (4, .inl (fun _ => 0))) (bz_a0i) (by decide) (by decide) (by decide) (Nat.le_of_ble_eq_true rfl) (Nat.le_of_ble_eq_true rfl) d_T_init_30 (fun q4 H hP hD hS => ?_)
  refine W.widen (k := 4) (n := 94) (Nat.le_of_ble_eq_true rfl) (Nat.le_of_ble_eq_true rfl) ?_
  have hP : va_P (dC, dI) vwCl ([(h0, .inr (2, [.ref q1, .ref q2, .ref q3, .null, .null, .int 0])), (q1, .inl (cL, 30, .inr (.inl (fun _ => 0)))), (q2, .inl (cI, 30, .inl (fun _ => 0))), (q3, .inl (cI, 30, .inl (fun _ => 0))), (q4, .inl (cI, 4, .inl (fun _ => 0)))]) H := hP
  have hD : va_D A ([(h0, .inr (2, [.ref q1, .ref q2, .ref q3, .null, .null, .int 0])), (q1, .inl (cL, 30, .inr (.inl (fun _ => 0)))), (q2, .inl (cI, 30, .inl (fun _ => 0))), (q3, .inl (cI, 30, .inl (fun _ => 0))), (q4, .inl (cI, 4, .inl (fun _ => 0)))]) := hD
  refine va_putF (D := (dC, dI)) (ci := 2) (v := .ref q4) (ty := (.array .int)) (C := R_T) (T := F_T) (N := 6) hx hb htb in_T tf_T tok_T n_T hown hK hP hD hS 0 rfl rfl 3 (by decide) (htb _ wd_51) (fun _ h9 => h9) rfl hin rfl (by decide +kernel) rfl rfl (Nat.le_of_ble_eq_true rfl) d_T_init_32 (fun H locs hP hD hS => ?_)
  have hP : va_P (dC, dI) vwCl ([(h0, .inr (2, [.ref q1, .ref q2, .ref q3, .ref q4, .null, .int 0])), (q1, .inl (cL, 30, .inr (.inl (fun _ => 0)))), (q2, .inl (cI, 30, .inl (fun _ => 0))), (q3, .inl (cI, 30, .inl (fun _ => 0))), (q4, .inl (cI, 4, .inl (fun _ => 0)))]) H := hP
  have hD : va_D A ([(h0, .inr (2, [.ref q1, .ref q2, .ref q3, .ref q4, .null, .int 0])), (q1, .inl (cL, 30, .inr (.inl (fun _ => 0)))), (q2, .inl (cI, 30, .inl (fun _ => 0))), (q3, .inl (cI, 30, .inl (fun _ => 0))), (q4, .inl (cI, 4, .inl (fun _ => 0)))]) := hD
  refine lv_aload_n hx hb d_T_init_35 rfl (lv_at hl 0 rfl) ?_
  refine lv_iconst (v := 4) hx hb d_T_init_36 (by decide) ?_
  refine bz_newa (atype := .long) hx hb (htb _ wd_71) 1 rfl hK hP hD hS hA (a0 := (4, .inr (.inl (fun _ => 0)))) (bz_a0l) (by decide) (by decide) (by decide) (Nat.le_of_ble_eq_true rfl) (Nat.le_of_ble_eq_true rfl) d_T_init_37 (fun q5 H hP hD hS => ?_)
  refine W.widen (k := 5) (n := 98) (Nat.le_of_ble_eq_true rfl) (Nat.le_of_ble_eq_true rfl) ?_
  have hP : va_P (dC, dI) vwCl ([(h0, .inr (2, [.ref q1, .ref q2, .ref q3, .ref q4, .null, .int 0])), (q1, .inl (cL, 30, .inr (.inl (fun _ => 0)))), (q2, .inl (cI, 30, .inl (fun _ => 0))), (q3, .inl (cI, 30, .inl (fun _ => 0))), (q4, .inl (cI, 4, .inl (fun _ => 0))), (q5, .inl (cL, 4, .inr (.inl (fun _ => 0))))]) H := hP
  have hD : va_D A ([(h0, .inr (2, [.ref q1, .ref q2, .ref q3, .ref q4, .null, .int 0])), (q1, .inl (cL, 30, .inr (.inl (fun _ => 0)))), (q2, .inl (cI, 30, .inl (fun _ => 0))), (q3, .inl (cI, 30, .inl (fun _ => 0))), (q4, .inl (cI, 4, .inl (fun _ => 0))), (q5, .inl (cL, 4, .inr (.inl (fun _ => 0))))]) := hD
  refine va_putF (D := (dC, dI)) (ci := 2) (v := .ref q5) (ty := (.array .long)) (C := R_T) (T := F_T) (N := 6) hx hb htb in_T tf_T tok_T n_T hown hK hP hD hS 0 rfl rfl 4 (by decide) (htb _ wd_52) (fun _ h9 => h9) rfl hin rfl (by decide +kernel) rfl rfl (Nat.le_of_ble_eq_true rfl) d_T_init_39 (fun H locs hP hD hS => ?_)
  have hP : va_P (dC, dI) vwCl ([(h0, .inr (2, [.ref q1, .ref q2, .ref q3, .ref q4, .ref q5, .int 0])), (q1, .inl (cL, 30, .inr (.inl (fun _ => 0)))), (q2, .inl (cI, 30, .inl (fun _ => 0))), (q3, .inl (cI, 30, .inl (fun _ => 0))), (q4, .inl (cI, 4, .inl (fun _ => 0))), (q5, .inl (cL, 4, .inr (.inl (fun _ => 0))))]) H := hP
  have hD : va_D A ([(h0, .inr (2, [.ref q1, .ref q2, .ref q3, .ref q4, .ref q5, .int 0])), (q1, .inl (cL, 30, .inr (.inl (fun _ => 0)))), (q2, .inl (cI, 30, .inl (fun _ => 0))), (q3, .inl (cI, 30, .inl (fun _ => 0))), (q4, .inl (cI, 4, .inl (fun _ => 0))), (q5, .inl (cL, 4, .inr (.inl (fun _ => 0))))]) := hD
  refine lv_aload_n hx hb d_T_init_42 rfl (lv_at hl 0 rfl) ?_
  refine lv_iconst (v := 0) hx hb d_T_init_43 (by decide) ?_
  refine va_put (D := (dC, dI)) (ci := 2) (v := .int 0) (ty := .int) (C := R_T) (T := F_T) (N := 6) hx hb htb in_T tf_T tok_T n_T hown hK hP hD hS 0 rfl rfl 5 (by decide) (htb _ wd_55) (fun _ h9 => h9) rfl (by decide +kernel) rfl rfl (Nat.le_of_ble_eq_true rfl) d_T_init_44 (fun H locs hP hD hS => ?_)
  have hP : va_P (dC, dI) vwCl ([(h0, .inr (2, [.ref q1, .ref q2, .ref q3, .ref q4, .ref q5, .int 0])), (q1, .inl (cL, 30, .inr (.inl (fun _ => 0)))), (q2, .inl (cI, 30, .inl (fun _ => 0))), (q3, .inl (cI, 30, .inl (fun _ => 0))), (q4, .inl (cI, 4, .inl (fun _ => 0))), (q5, .inl (cL, 4, .inr (.inl (fun _ => 0))))]) H := hP
  have hD : va_D A ([(h0, .inr (2, [.ref q1, .ref q2, .ref q3, .ref q4, .ref q5, .int 0])), (q1, .inl (cL, 30, .inr (.inl (fun _ => 0)))), (q2, .inl (cI, 30, .inl (fun _ => 0))), (q3, .inl (cI, 30, .inl (fun _ => 0))), (q4, .inl (cI, 4, .inl (fun _ => 0))), (q5, .inl (cL, 4, .inr (.inl (fun _ => 0))))]) := hD
  have hP := hP.sub (ws' := [(h0, .inr (2, [.ref q1, .ref q2, .ref q3, .ref q4, .ref q5, .int 0])), (q1, .inl (cL, 30, .inr (.inl (fun _ => 0)))), (q2, .inl (cI, 30, .inl (fun _ => 0))), (q3, .inl (cI, 30, .inl (fun _ => 0))), (q4, .inl (cI, 4, .inl (fun _ => 0))), (q5, .inl (cL, 4, .inr (.inl (fun _ => 0))))]) [0, 1, 2, 3, 4, 5] rfl
  have hD := hD.sub (ws' := [(h0, .inr (2, [.ref q1, .ref q2, .ref q3, .ref q4, .ref q5, .int 0])), (q1, .inl (cL, 30, .inr (.inl (fun _ => 0)))), (q2, .inl (cI, 30, .inl (fun _ => 0))), (q3, .inl (cI, 30, .inl (fun _ => 0))), (q4, .inl (cI, 4, .inl (fun _ => 0))), (q5, .inl (cL, 4, .inr (.inl (fun _ => 0))))]) [0, 1, 2, 3, 4, 5] (by decide) rfl
  exact W.vret hx hb hr (fun t9 ht9 hW => ⟨⟨(fun k9 => if k9 = 2 then q1 else if k9 = 3 then q2 else if k9 = 4 then q3 else if k9 = 5 then q4 else if k9 = 6 then q5 else 0), rfl, trivial, by rw [ht9]; exact hP, va_K.moved hW.alike hK, hD⟩, hS.F ht9⟩) hS.2.2 d_T_init_47

set_option maxHeartbeats 4000000 in
set_option maxRecDepth 100000 in
theorem c_S_init (l : Launch) (dC : Nat → ClassId) (dI : Nat → Nat → Nat) (sz : Nat) (cI cL : ClassId) (h0 h1 : Nat) : Met l y_S_init w_S_init ({ frames := 1, cells := 3, slots := 38, locals := 12 }) (bz_Pw (dC, dI) [(cI, .int), (cL, .long)] [(h0, .inr (1, [.null, .null, .null, .null, .int 0, .int 0]))] sz [.ref h0, .ref h1]) (bz_Qx (dC, dI) [(cI, .int), (cL, .long)] (va_A [(h0, .inr (1, [.null, .null, .null, .null, .int 0, .int 0]))] sz) (fun _ : Nat → Nat => True) (fun ad => [(h0, .inr (1, [.ref h1, .ref (ad 8), .ref (ad 9), .ref (ad 10), .int 0, .int 0])), (ad 8, .inl (cI, 30, .inl (fun _ => 0))), (ad 9, .inl (cI, 4, .inl (fun _ => 0))), (ad 10, .inl (cL, 4, .inr (.inl (fun _ => 0))))])) 3 38 (va_A [(h0, .inr (1, [.null, .null, .null, .null, .int 0, .int 0]))] sz) := by
  refine Met.ofW (cc := b_S_init) (maxL := 2) (ret := none) (by decide) rfl ?_
  intro p e s m args below meth c s₁ B hml hv
  obtain ⟨rfl, hsz, hP, hK, hD0, hN⟩ := hv
  have hx := B.exec
  have hb := B.bytes
  have hr := B.returns
  have hts := atoms_spec (ws := w_S_init) B.pre
  have hown : s.vm.findClass R_S = some m.cls := findClass_of_methodNamed B.named
  have htb : ∀ w ∈ bz_tb, w.before _ s = true := fun w h => hts w (List.mem_cons_of_mem _ h)
  have hlocks := B.notSynchronized
  have hin : meth.name = "<init>" := (name_of_methodNamed B.named B.method).1
  subst hsz
  have hD := hD0.self (sz := s.heap.size)
  generalize hAe : va_A [(h0, .inr (1, [.null, .null, .null, .null, .int 0, .int 0]))] s.heap.size = A at hD ⊢
  have hA : ∀ q : Nat, s.heap.size ≤ q → A q := fun q h => by rw [← hAe]; exact Or.inr h
  have hS : va_S A s.heap s.heap [] := va_S.rf
  have hl := lv_entry ([.ref h0, .ref h1]) (n := 2) (Nat.le_of_ble_eq_true rfl)
  rw [lg_entry_eq]
  generalize (lg_sl ([.ref h0, .ref h1]) ++ List.replicate (2 - (lg_sl ([.ref h0, .ref h1])).length) Slot.unset).toArray = ls at hl ⊢
  have hl : lv_has ls 2 [(0, .ref h0), (1, .ref h1)] := hl
  refine lv_aload_n hx hb d_S_init_0 rfl (lv_at hl 0 rfl) ?_
  refine W.objInit hx hb hown (htb _ wd_78) (htb _ wd_38) (htb _ wd_39) rfl (by rw [hml]; exact hl.1) rfl d_S_init_1 (Nat.le_of_ble_eq_true rfl) (Nat.le_of_ble_eq_true rfl) ?_
  refine W.eq (g2 := F0 m 4 ls []) rfl ?_
  refine lv_aload_n hx hb d_S_init_4 rfl (lv_at hl 0 rfl) ?_
  refine lv_bipush (v := 30) hx hb d_S_init_5 (by decide) ?_
  refine bz_newa (atype := .int) hx hb (htb _ wd_72) 0 rfl hK hP hD hS hA (a0 := (30, .inl (fun _ => 0))) (bz_a0i) (by decide) (by decide) (by decide) (Nat.le_of_ble_eq_true rfl) (Nat.le_of_ble_eq_true rfl) d_S_init_7 (fun q1 H hP hD hS => ?_)
  refine W.widen (k := 1) (n := 30) (Nat.le_of_ble_eq_true rfl) (Nat.le_of_ble_eq_true rfl) ?_
  have hP : va_P (dC, dI) vwCl ([(h0, .inr (1, [.null, .null, .null, .null, .int 0, .int 0])), (q1, .inl (cI, 30, .inl (fun _ => 0)))]) H := hP
  have hD : va_D A ([(h0, .inr (1, [.null, .null, .null, .null, .int 0, .int 0])), (q1, .inl (cI, 30, .inl (fun _ => 0)))]) := hD
  refine va_putF (D := (dC, dI)) (ci := 1) (v := .ref q1) (ty := (.array .int)) (C := R_S) (T := F_S) (N := 6) hx hb htb in_S tf_S tok_S n_S hown hK hP hD hS 0 rfl rfl 1 (by decide) (htb _ wd_81) (fun _ h9 => h9) rfl hin rfl (by decide +kernel) rfl rfl (Nat.le_of_ble_eq_true rfl) d_S_init_9 (fun H locs hP hD hS => ?_)
  have hP : va_P (dC, dI) vwCl ([(h0, .inr (1, [.null, .ref q1, .null, .null, .int 0, .int 0])), (q1, .inl (cI, 30, .inl (fun _ => 0)))]) H := hP
  have hD : va_D A ([(h0, .inr (1, [.null, .ref q1, .null, .null, .int 0, .int 0])), (q1, .inl (cI, 30, .inl (fun _ => 0)))]) := hD
  refine lv_aload_n hx hb d_S_init_12 rfl (lv_at hl 0 rfl) ?_
  refine lv_iconst (v := 4) hx hb d_S_init_13 (by decide) ?_
  refine bz_newa (atype := .int) hx hb (htb _ wd_72) 0 rfl hK hP hD hS hA (a0 := (4, .inl (fun _ => 0))) (bz_a0i) (by decide) (by decide) (by decide) (Nat.le_of_ble_eq_true rfl) (Nat.le_of_ble_eq_true rfl) d_S_init_14 (fun q2 H hP hD hS => ?_)
  refine W.widen (k := 2) (n := 34) (Nat.le_of_ble_eq_true rfl) (Nat.le_of_ble_eq_true rfl) ?_
  have hP : va_P (dC, dI) vwCl ([(h0, .inr (1, [.null, .ref q1, .null, .null, .int 0, .int 0])), (q1, .inl (cI, 30, .inl (fun _ => 0))), (q2, .inl (cI, 4, .inl (fun _ => 0)))]) H := hP
  have hD : va_D A ([(h0, .inr (1, [.null, .ref q1, .null, .null, .int 0, .int 0])), (q1, .inl (cI, 30, .inl (fun _ => 0))), (q2, .inl (cI, 4, .inl (fun _ => 0)))]) := hD
  refine va_putF (D := (dC, dI)) (ci := 1) (v := .ref q2) (ty := (.array .int)) (C := R_S) (T := F_S) (N := 6) hx hb htb in_S tf_S tok_S n_S hown hK hP hD hS 0 rfl rfl 2 (by decide) (htb _ wd_84) (fun _ h9 => h9) rfl hin rfl (by decide +kernel) rfl rfl (Nat.le_of_ble_eq_true rfl) d_S_init_16 (fun H locs hP hD hS => ?_)
  have hP : va_P (dC, dI) vwCl ([(h0, .inr (1, [.null, .ref q1, .ref q2, .null, .int 0, .int 0])), (q1, .inl (cI, 30, .inl (fun _ => 0))), (q2, .inl (cI, 4, .inl (fun _ => 0)))]) H := hP
  have hD : va_D A ([(h0, .inr (1, [.null, .ref q1, .ref q2, .null, .int 0, .int 0])), (q1, .inl (cI, 30, .inl (fun _ => 0))), (q2, .inl (cI, 4, .inl (fun _ => 0)))]) := hD
  refine lv_aload_n hx hb d_S_init_19 rfl (lv_at hl 0 rfl) ?_
  refine lv_iconst (v := 4) hx hb d_S_init_20 (by decide) ?_
  refine bz_newa (atype := .long) hx hb (htb _ wd_71) 1 rfl hK hP hD hS hA (a0 := (4, .inr (.inl (fun _ => 0)))) (bz_a0l) (by decide) (by decide) (by decide) (Nat.le_of_ble_eq_true rfl) (Nat.le_of_ble_eq_true rfl) d_S_init_21 (fun q3 H hP hD hS => ?_)
  refine W.widen (k := 3) (n := 38) (Nat.le_of_ble_eq_true rfl) (Nat.le_of_ble_eq_true rfl) ?_
  have hP : va_P (dC, dI) vwCl ([(h0, .inr (1, [.null, .ref q1, .ref q2, .null, .int 0, .int 0])), (q1, .inl (cI, 30, .inl (fun _ => 0))), (q2, .inl (cI, 4, .inl (fun _ => 0))), (q3, .inl (cL, 4, .inr (.inl (fun _ => 0))))]) H := hP
  have hD : va_D A ([(h0, .inr (1, [.null, .ref q1, .ref q2, .null, .int 0, .int 0])), (q1, .inl (cI, 30, .inl (fun _ => 0))), (q2, .inl (cI, 4, .inl (fun _ => 0))), (q3, .inl (cL, 4, .inr (.inl (fun _ => 0))))]) := hD
  refine va_putF (D := (dC, dI)) (ci := 1) (v := .ref q3) (ty := (.array .long)) (C := R_S) (T := F_S) (N := 6) hx hb htb in_S tf_S tok_S n_S hown hK hP hD hS 0 rfl rfl 3 (by decide) (htb _ wd_85) (fun _ h9 => h9) rfl hin rfl (by decide +kernel) rfl rfl (Nat.le_of_ble_eq_true rfl) d_S_init_23 (fun H locs hP hD hS => ?_)
  have hP : va_P (dC, dI) vwCl ([(h0, .inr (1, [.null, .ref q1, .ref q2, .ref q3, .int 0, .int 0])), (q1, .inl (cI, 30, .inl (fun _ => 0))), (q2, .inl (cI, 4, .inl (fun _ => 0))), (q3, .inl (cL, 4, .inr (.inl (fun _ => 0))))]) H := hP
  have hD : va_D A ([(h0, .inr (1, [.null, .ref q1, .ref q2, .ref q3, .int 0, .int 0])), (q1, .inl (cI, 30, .inl (fun _ => 0))), (q2, .inl (cI, 4, .inl (fun _ => 0))), (q3, .inl (cL, 4, .inr (.inl (fun _ => 0))))]) := hD
  refine lv_aload_n hx hb d_S_init_26 rfl (lv_at hl 0 rfl) ?_
  refine lv_iconst (v := 0) hx hb d_S_init_27 (by decide) ?_
  refine va_put (D := (dC, dI)) (ci := 1) (v := .int 0) (ty := .int) (C := R_S) (T := F_S) (N := 6) hx hb htb in_S tf_S tok_S n_S hown hK hP hD hS 0 rfl rfl 4 (by decide) (htb _ wd_86) (fun _ h9 => h9) rfl (by decide +kernel) rfl rfl (Nat.le_of_ble_eq_true rfl) d_S_init_28 (fun H locs hP hD hS => ?_)
  have hP : va_P (dC, dI) vwCl ([(h0, .inr (1, [.null, .ref q1, .ref q2, .ref q3, .int 0, .int 0])), (q1, .inl (cI, 30, .inl (fun _ => 0))), (q2, .inl (cI, 4, .inl (fun _ => 0))), (q3, .inl (cL, 4, .inr (.inl (fun _ => 0))))]) H := hP
  have hD : va_D A ([(h0, .inr (1, [.null, .ref q1, .ref q2, .ref q3, .int 0, .int 0])), (q1, .inl (cI, 30, .inl (fun _ => 0))), (q2, .inl (cI, 4, .inl (fun _ => 0))), (q3, .inl (cL, 4, .inr (.inl (fun _ => 0))))]) := hD
  refine lv_aload_n hx hb d_S_init_31 rfl (lv_at hl 0 rfl) ?_
  refine lv_iconst (v := 0) hx hb d_S_init_32 (by decide) ?_
  refine va_put (D := (dC, dI)) (ci := 1) (v := .int 0) (ty := .int) (C := R_S) (T := F_S) (N := 6) hx hb htb in_S tf_S tok_S n_S hown hK hP hD hS 0 rfl rfl 5 (by decide) (htb _ wd_87) (fun _ h9 => h9) rfl (by decide +kernel) rfl rfl (Nat.le_of_ble_eq_true rfl) d_S_init_33 (fun H locs hP hD hS => ?_)
  have hP : va_P (dC, dI) vwCl ([(h0, .inr (1, [.null, .ref q1, .ref q2, .ref q3, .int 0, .int 0])), (q1, .inl (cI, 30, .inl (fun _ => 0))), (q2, .inl (cI, 4, .inl (fun _ => 0))), (q3, .inl (cL, 4, .inr (.inl (fun _ => 0))))]) H := hP
  have hD : va_D A ([(h0, .inr (1, [.null, .ref q1, .ref q2, .ref q3, .int 0, .int 0])), (q1, .inl (cI, 30, .inl (fun _ => 0))), (q2, .inl (cI, 4, .inl (fun _ => 0))), (q3, .inl (cL, 4, .inr (.inl (fun _ => 0))))]) := hD
  refine lv_aload_n hx hb d_S_init_36 rfl (lv_at hl 0 rfl) ?_
  refine lv_aload_n hx hb d_S_init_37 rfl (lv_at hl 1 rfl) ?_
  refine va_putF (D := (dC, dI)) (ci := 1) (v := .ref h1) (ty := (.object "BalanceRounds$Town")) (C := R_S) (T := F_S) (N := 6) hx hb htb in_S tf_S tok_S n_S hown hK hP hD hS 0 rfl rfl 0 (by decide) (htb _ wd_79) (fun _ h9 => h9) rfl hin rfl (by decide +kernel) rfl rfl (Nat.le_of_ble_eq_true rfl) d_S_init_38 (fun H locs hP hD hS => ?_)
  have hP : va_P (dC, dI) vwCl ([(h0, .inr (1, [.ref h1, .ref q1, .ref q2, .ref q3, .int 0, .int 0])), (q1, .inl (cI, 30, .inl (fun _ => 0))), (q2, .inl (cI, 4, .inl (fun _ => 0))), (q3, .inl (cL, 4, .inr (.inl (fun _ => 0))))]) H := hP
  have hD : va_D A ([(h0, .inr (1, [.ref h1, .ref q1, .ref q2, .ref q3, .int 0, .int 0])), (q1, .inl (cI, 30, .inl (fun _ => 0))), (q2, .inl (cI, 4, .inl (fun _ => 0))), (q3, .inl (cL, 4, .inr (.inl (fun _ => 0))))]) := hD
  have hP := hP.sub (ws' := [(h0, .inr (1, [.ref h1, .ref q1, .ref q2, .ref q3, .int 0, .int 0])), (q1, .inl (cI, 30, .inl (fun _ => 0))), (q2, .inl (cI, 4, .inl (fun _ => 0))), (q3, .inl (cL, 4, .inr (.inl (fun _ => 0))))]) [0, 1, 2, 3] rfl
  have hD := hD.sub (ws' := [(h0, .inr (1, [.ref h1, .ref q1, .ref q2, .ref q3, .int 0, .int 0])), (q1, .inl (cI, 30, .inl (fun _ => 0))), (q2, .inl (cI, 4, .inl (fun _ => 0))), (q3, .inl (cL, 4, .inr (.inl (fun _ => 0))))]) [0, 1, 2, 3] (by decide) rfl
  exact W.vret hx hb hr (fun t9 ht9 hW => ⟨⟨(fun k9 => if k9 = 8 then q1 else if k9 = 9 then q2 else if k9 = 10 then q3 else 0), rfl, trivial, by rw [ht9]; exact hP, va_K.moved hW.alike hK, hD⟩, hS.F ht9⟩) hS.2.2 d_S_init_41

set_option maxHeartbeats 4000000 in
set_option maxRecDepth 100000 in
theorem c_Le_init (l : Launch) (dC : Nat → ClassId) (dI : Nat → Nat → Nat) (sz : Nat) (cI cL : ClassId) (h0 : Nat) : Met l y_Le_init w_Le_init ({ frames := 1, cells := 1, slots := 8, locals := 12 }) (bz_Pw (dC, dI) [(cI, .int), (cL, .long)] [(h0, .inr (0, [.null, .long 0]))] sz [.ref h0]) (bz_Qx (dC, dI) [(cI, .int), (cL, .long)] (va_A [(h0, .inr (0, [.null, .long 0]))] sz) (fun _ : Nat → Nat => True) (fun ad => [(h0, .inr (0, [.ref (ad 12), .long 0])), (ad 12, .inl (cI, 8, .inl (fun _ => 0)))])) 1 8 (va_A [(h0, .inr (0, [.null, .long 0]))] sz) := by
  refine Met.ofW (cc := b_Le_init) (maxL := 1) (ret := none) (by decide) rfl ?_
  intro p e s m args below meth c s₁ B hml hv
  obtain ⟨rfl, hsz, hP, hK, hD0, hN⟩ := hv
  have hx := B.exec
  have hb := B.bytes
  have hr := B.returns
  have hts := atoms_spec (ws := w_Le_init) B.pre
  have hown : s.vm.findClass R_Le = some m.cls := findClass_of_methodNamed B.named
  have htb : ∀ w ∈ bz_tb, w.before _ s = true := fun w h => hts w (List.mem_cons_of_mem _ h)
  have hlocks := B.notSynchronized
  have hin : meth.name = "<init>" := (name_of_methodNamed B.named B.method).1
  subst hsz
  have hD := hD0.self (sz := s.heap.size)
  generalize hAe : va_A [(h0, .inr (0, [.null, .long 0]))] s.heap.size = A at hD ⊢
  have hA : ∀ q : Nat, s.heap.size ≤ q → A q := fun q h => by rw [← hAe]; exact Or.inr h
  have hS : va_S A s.heap s.heap [] := va_S.rf
  have hl := lv_entry ([.ref h0]) (n := 1) (Nat.le_of_ble_eq_true rfl)
  rw [lg_entry_eq]
  generalize (lg_sl ([.ref h0]) ++ List.replicate (1 - (lg_sl ([.ref h0])).length) Slot.unset).toArray = ls at hl ⊢
  have hl : lv_has ls 1 [(0, .ref h0)] := hl
  refine lv_aload_n hx hb d_Le_init_0 rfl (lv_at hl 0 rfl) ?_
  refine W.objInit hx hb hown (htb _ wd_107) (htb _ wd_38) (htb _ wd_39) rfl (by rw [hml]; exact hl.1) rfl d_Le_init_1 (Nat.le_of_ble_eq_true rfl) (Nat.le_of_ble_eq_true rfl) ?_
  refine W.eq (g2 := F0 m 4 ls []) rfl ?_
  refine lv_aload_n hx hb d_Le_init_4 rfl (lv_at hl 0 rfl) ?_
  refine lv_bipush (v := 8) hx hb d_Le_init_5 (by decide) ?_
  refine bz_newa (atype := .int) hx hb (htb _ wd_72) 0 rfl hK hP hD hS hA (a0 := (8, .inl (fun _ => 0))) (bz_a0i) (by decide) (by decide) (by decide) (Nat.le_of_ble_eq_true rfl) (Nat.le_of_ble_eq_true rfl) d_Le_init_7 (fun q1 H hP hD hS => ?_)
  refine W.widen (k := 1) (n := 8) (Nat.le_of_ble_eq_true rfl) (Nat.le_of_ble_eq_true rfl) ?_
  have hP : va_P (dC, dI) vwCl ([(h0, .inr (0, [.null, .long 0])), (q1, .inl (cI, 8, .inl (fun _ => 0)))]) H := hP
  have hD : va_D A ([(h0, .inr (0, [.null, .long 0])), (q1, .inl (cI, 8, .inl (fun _ => 0)))]) := hD
  refine va_putF (D := (dC, dI)) (ci := 0) (v := .ref q1) (ty := (.array .int)) (C := R_Le) (T := F_Le) (N := 2) hx hb htb in_Le tf_Le tok_Le n_Le hown hK hP hD hS 0 rfl rfl 0 (by decide) (htb _ wd_108) (fun _ h9 => h9) rfl hin rfl (by decide +kernel) rfl rfl (Nat.le_of_ble_eq_true rfl) d_Le_init_9 (fun H locs hP hD hS => ?_)
  have hP : va_P (dC, dI) vwCl ([(h0, .inr (0, [.ref q1, .long 0])), (q1, .inl (cI, 8, .inl (fun _ => 0)))]) H := hP
  have hD : va_D A ([(h0, .inr (0, [.ref q1, .long 0])), (q1, .inl (cI, 8, .inl (fun _ => 0)))]) := hD
  refine lv_aload_n hx hb d_Le_init_12 rfl (lv_at hl 0 rfl) ?_
  refine lv_lconst (v := 0) hx hb d_Le_init_13 (by decide) ?_
  refine va_put (D := (dC, dI)) (ci := 0) (v := .long 0) (ty := .long) (C := R_Le) (T := F_Le) (N := 2) hx hb htb in_Le tf_Le tok_Le n_Le hown hK hP hD hS 0 rfl rfl 1 (by decide) (htb _ wd_110) (fun _ h9 => h9) rfl (by decide +kernel) rfl rfl (Nat.le_of_ble_eq_true rfl) d_Le_init_14 (fun H locs hP hD hS => ?_)
  have hP : va_P (dC, dI) vwCl ([(h0, .inr (0, [.ref q1, .long 0])), (q1, .inl (cI, 8, .inl (fun _ => 0)))]) H := hP
  have hD : va_D A ([(h0, .inr (0, [.ref q1, .long 0])), (q1, .inl (cI, 8, .inl (fun _ => 0)))]) := hD
  have hP := hP.sub (ws' := [(h0, .inr (0, [.ref q1, .long 0])), (q1, .inl (cI, 8, .inl (fun _ => 0)))]) [0, 1] rfl
  have hD := hD.sub (ws' := [(h0, .inr (0, [.ref q1, .long 0])), (q1, .inl (cI, 8, .inl (fun _ => 0)))]) [0, 1] (by decide) rfl
  exact W.vret hx hb hr (fun t9 ht9 hW => ⟨⟨(fun k9 => if k9 = 12 then q1 else 0), rfl, trivial, by rw [ht9]; exact hP, va_K.moved hW.alike hK, hD⟩, hS.F ht9⟩) hS.2.2 d_Le_init_17

set_option maxHeartbeats 4000000 in
set_option maxRecDepth 100000 in
theorem c_M_init (l : Launch) (dC : Nat → ClassId) (dI : Nat → Nat → Nat) (sz : Nat) (cI cL cZ : ClassId) (h0 : Nat) : Met l y_M_init w_M_init ({ frames := 1, cells := 8, slots := 1174, locals := 12 }) (bz_Pw (dC, dI) [(cI, .int), (cL, .long), (cZ, .boolean)] [(h0, .inr (4, [.int 0, .int 0, .null, .null, .null, .null, .null, .int 0, .int 0, .null, .null, .null]))] sz [.ref h0]) (bz_Qx (dC, dI) [(cI, .int), (cL, .long), (cZ, .boolean)] (va_A [(h0, .inr (4, [.int 0, .int 0, .null, .null, .null, .null, .null, .int 0, .int 0, .null, .null, .null]))] sz) (fun _ : Nat → Nat => True) (fun ad => [(h0, .inr (4, [.int 0, .int 0, .ref (ad 1), .ref (ad 2), .ref (ad 3), .ref (ad 4), .ref (ad 5), .int 0, .int 0, .ref (ad 6), .ref (ad 7), .ref (ad 8)])), (ad 1, .inl (cL, 30, .inr (.inl (fun _ => 0)))), (ad 2, .inl (cI, 30, .inl (fun _ => 0))), (ad 3, .inl (cZ, 900, .inl (fun _ => 0))), (ad 4, .inl (cZ, 120, .inl (fun _ => 0))), (ad 5, .inl (cL, 4, .inr (.inl (fun _ => 0)))), (ad 6, .inl (cI, 30, .inl (fun _ => 0))), (ad 7, .inl (cI, 30, .inl (fun _ => 0))), (ad 8, .inl (cZ, 30, .inl (fun _ => 0)))])) 8 1174 (va_A [(h0, .inr (4, [.int 0, .int 0, .null, .null, .null, .null, .null, .int 0, .int 0, .null, .null, .null]))] sz) := by
  refine Met.ofW (cc := b_M_init) (maxL := 1) (ret := none) (by decide) rfl ?_
  intro p e s m args below meth c s₁ B hml hv
  obtain ⟨rfl, hsz, hP, hK, hD0, hN⟩ := hv
  have hx := B.exec
  have hb := B.bytes
  have hr := B.returns
  have hts := atoms_spec (ws := w_M_init) B.pre
  have hown : s.vm.findClass R_M = some m.cls := findClass_of_methodNamed B.named
  have htb : ∀ w ∈ bz_tb, w.before _ s = true := fun w h => hts w (List.mem_cons_of_mem _ h)
  have hlocks := B.notSynchronized
  have hin : meth.name = "<init>" := (name_of_methodNamed B.named B.method).1
  subst hsz
  have hD := hD0.self (sz := s.heap.size)
  generalize hAe : va_A [(h0, .inr (4, [.int 0, .int 0, .null, .null, .null, .null, .null, .int 0, .int 0, .null, .null, .null]))] s.heap.size = A at hD ⊢
  have hA : ∀ q : Nat, s.heap.size ≤ q → A q := fun q h => by rw [← hAe]; exact Or.inr h
  have hS : va_S A s.heap s.heap [] := va_S.rf
  have hl := lv_entry ([.ref h0]) (n := 1) (Nat.le_of_ble_eq_true rfl)
  rw [lg_entry_eq]
  generalize (lg_sl ([.ref h0]) ++ List.replicate (1 - (lg_sl ([.ref h0])).length) Slot.unset).toArray = ls at hl ⊢
  have hl : lv_has ls 1 [(0, .ref h0)] := hl
  refine lv_aload_n hx hb d_M_init_0 rfl (lv_at hl 0 rfl) ?_
  refine W.objInit hx hb hown (htb _ wd_410) (htb _ wd_38) (htb _ wd_39) rfl (by rw [hml]; exact hl.1) rfl d_M_init_1 (Nat.le_of_ble_eq_true rfl) (Nat.le_of_ble_eq_true rfl) ?_
  refine W.eq (g2 := F0 m 4 ls []) rfl ?_
  refine lv_aload_n hx hb d_M_init_4 rfl (lv_at hl 0 rfl) ?_
  refine lv_bipush (v := 30) hx hb d_M_init_5 (by decide) ?_
  refine bz_newa (atype := .long) hx hb (htb _ wd_71) 1 rfl hK hP hD hS hA (a0 := (30, .inr (.inl (fun _ => 0)))) (bz_a0l) (by decide) (by decide) (by decide) (Nat.le_of_ble_eq_true rfl) (Nat.le_of_ble_eq_true rfl) d_M_init_7 (fun q1 H hP hD hS => ?_)
  refine W.widen (k := 1) (n := 30) (Nat.le_of_ble_eq_true rfl) (Nat.le_of_ble_eq_true rfl) ?_
  have hP : va_P (dC, dI) vwCl ([(h0, .inr (4, [.int 0, .int 0, .null, .null, .null, .null, .null, .int 0, .int 0, .null, .null, .null])), (q1, .inl (cL, 30, .inr (.inl (fun _ => 0))))]) H := hP
  have hD : va_D A ([(h0, .inr (4, [.int 0, .int 0, .null, .null, .null, .null, .null, .int 0, .int 0, .null, .null, .null])), (q1, .inl (cL, 30, .inr (.inl (fun _ => 0))))]) := hD
  refine va_putF (D := (dC, dI)) (ci := 4) (v := .ref q1) (ty := (.array .long)) (C := R_M) (T := F_M) (N := 12) hx hb htb in_M tf_M tok_M n_M hown hK hP hD hS 0 rfl rfl 2 (by decide) (htb _ wd_413) (fun _ h9 => h9) rfl hin rfl (by decide +kernel) rfl rfl (Nat.le_of_ble_eq_true rfl) d_M_init_9 (fun H locs hP hD hS => ?_)
  have hP : va_P (dC, dI) vwCl ([(h0, .inr (4, [.int 0, .int 0, .ref q1, .null, .null, .null, .null, .int 0, .int 0, .null, .null, .null])), (q1, .inl (cL, 30, .inr (.inl (fun _ => 0))))]) H := hP
  have hD : va_D A ([(h0, .inr (4, [.int 0, .int 0, .ref q1, .null, .null, .null, .null, .int 0, .int 0, .null, .null, .null])), (q1, .inl (cL, 30, .inr (.inl (fun _ => 0))))]) := hD
  refine lv_aload_n hx hb d_M_init_12 rfl (lv_at hl 0 rfl) ?_
  refine lv_bipush (v := 30) hx hb d_M_init_13 (by decide) ?_
  refine bz_newa (atype := .int) hx hb (htb _ wd_72) 0 rfl hK hP hD hS hA (a0 := (30, .inl (fun _ => 0))) (bz_a0i) (by decide) (by decide) (by decide) (Nat.le_of_ble_eq_true rfl) (Nat.le_of_ble_eq_true rfl) d_M_init_15 (fun q2 H hP hD hS => ?_)
  refine W.widen (k := 2) (n := 60) (Nat.le_of_ble_eq_true rfl) (Nat.le_of_ble_eq_true rfl) ?_
  have hP : va_P (dC, dI) vwCl ([(h0, .inr (4, [.int 0, .int 0, .ref q1, .null, .null, .null, .null, .int 0, .int 0, .null, .null, .null])), (q1, .inl (cL, 30, .inr (.inl (fun _ => 0)))), (q2, .inl (cI, 30, .inl (fun _ => 0)))]) H := hP
  have hD : va_D A ([(h0, .inr (4, [.int 0, .int 0, .ref q1, .null, .null, .null, .null, .int 0, .int 0, .null, .null, .null])), (q1, .inl (cL, 30, .inr (.inl (fun _ => 0)))), (q2, .inl (cI, 30, .inl (fun _ => 0)))]) := hD
  refine va_putF (D := (dC, dI)) (ci := 4) (v := .ref q2) (ty := (.array .int)) (C := R_M) (T := F_M) (N := 12) hx hb htb in_M tf_M tok_M n_M hown hK hP hD hS 0 rfl rfl 3 (by decide) (htb _ wd_414) (fun _ h9 => h9) rfl hin rfl (by decide +kernel) rfl rfl (Nat.le_of_ble_eq_true rfl) d_M_init_17 (fun H locs hP hD hS => ?_)
  have hP : va_P (dC, dI) vwCl ([(h0, .inr (4, [.int 0, .int 0, .ref q1, .ref q2, .null, .null, .null, .int 0, .int 0, .null, .null, .null])), (q1, .inl (cL, 30, .inr (.inl (fun _ => 0)))), (q2, .inl (cI, 30, .inl (fun _ => 0)))]) H := hP
  have hD : va_D A ([(h0, .inr (4, [.int 0, .int 0, .ref q1, .ref q2, .null, .null, .null, .int 0, .int 0, .null, .null, .null])), (q1, .inl (cL, 30, .inr (.inl (fun _ => 0)))), (q2, .inl (cI, 30, .inl (fun _ => 0)))]) := hD
  refine lv_aload_n hx hb d_M_init_20 rfl (lv_at hl 0 rfl) ?_
  refine lv_sipush (v := 900) hx hb d_M_init_21 (by decide) ?_
  refine bz_newa (atype := .boolean) hx hb (htb _ wd_448) 2 rfl hK hP hD hS hA (a0 := (900, .inl (fun _ => 0))) (bz_a0z) (by decide) (by decide) (by decide) (Nat.le_of_ble_eq_true rfl) (Nat.le_of_ble_eq_true rfl) d_M_init_24 (fun q3 H hP hD hS => ?_)
  refine W.widen (k := 3) (n := 960) (Nat.le_of_ble_eq_true rfl) (Nat.le_of_ble_eq_true rfl) ?_
  have hP : va_P (dC, dI) vwCl ([(h0, .inr (4, [.int 0, .int 0, .ref q1, .ref q2, .null, .null, .null, .int 0, .int 0, .null, .null, .null])), (q1, .inl (cL, 30, .inr (.inl (fun _ => 0)))), (q2, .inl (cI, 30, .inl (fun _ => 0))), (q3, .inl (cZ, 900, .inl (fun _ => 0)))]) H := hP
  have hD : va_D A ([(h0, .inr (4, [.int 0, .int 0, .ref q1, .ref q2, .null, .null, .null, .int 0, .int 0, .null, .null, .null])), (q1, .inl (cL, 30, .inr (.inl (fun _ => 0)))), (q2, .inl (cI, 30, .inl (fun _ => 0))), (q3, .inl (cZ, 900, .inl (fun _ => 0)))]) := hD
  refine va_putF (D := (dC, dI)) (ci := 4) (v := .ref q3) (ty := (.array .boolean)) (C := R_M) (T := F_M) (N := 12) hx hb htb in_M tf_M tok_M n_M hown hK hP hD hS 0 rfl rfl 4 (by decide) (htb _ wd_415) (fun _ h9 => h9) rfl hin rfl (by decide +kernel) rfl rfl (Nat.le_of_ble_eq_true rfl) d_M_init_26 (fun H locs hP hD hS => ?_)
  have hP : va_P (dC, dI) vwCl ([(h0, .inr (4, [.int 0, .int 0, .ref q1, .ref q2, .ref q3, .null, .null, .int 0, .int 0, .null, .null, .null])), (q1, .inl (cL, 30, .inr (.inl (fun _ => 0)))), (q2, .inl (cI, 30, .inl (fun _ => 0))), (q3, .inl (cZ, 900, .inl (fun _ => 0)))]) H := hP
  have hD : va_D A ([(h0, .inr (4, [.int 0, .int 0, .ref q1, .ref q2, .ref q3, .null, .null, .int 0, .int 0, .null, .null, .null])), (q1, .inl (cL, 30, .inr (.inl (fun _ => 0)))), (q2, .inl (cI, 30, .inl (fun _ => 0))), (q3, .inl (cZ, 900, .inl (fun _ => 0)))]) := hD
  refine lv_aload_n hx hb d_M_init_29 rfl (lv_at hl 0 rfl) ?_
  refine lv_bipush (v := 120) hx hb d_M_init_30 (by decide) ?_
  refine bz_newa (atype := .boolean) hx hb (htb _ wd_448) 2 rfl hK hP hD hS hA (a0 := (120, .inl (fun _ => 0))) (bz_a0z) (by decide) (by decide) (by decide) (Nat.le_of_ble_eq_true rfl) (Nat.le_of_ble_eq_true rfl) d_M_init_32 (fun q4 H hP hD hS => ?_)
  refine W.widen (k := 4) (n := 1080) (Nat.le_of_ble_eq_true rfl) (Nat.le_of_ble_eq_true rfl) ?_
  have hP : va_P (dC, dI) vwCl ([(h0, .inr (4, [.int 0, .int 0, .ref q1, .ref q2, .ref q3, .null, .null, .int 0, .int 0, .null, .null, .null])), (q1, .inl (cL, 30, .inr (.inl (fun _ => 0)))), (q2, .inl (cI, 30, .inl (fun _ => 0))), (q3, .inl (cZ, 900, .inl (fun _ => 0))), (q4, .inl (cZ, 120, .inl (fun _ => 0)))]) H := hP
  have hD : va_D A ([(h0, .inr (4, [.int 0, .int 0, .ref q1, .ref q2, .ref q3, .null, .null, .int 0, .int 0, .null, .null, .null])), (q1, .inl (cL, 30, .inr (.inl (fun _ => 0)))), (q2, .inl (cI, 30, .inl (fun _ => 0))), (q3, .inl (cZ, 900, .inl (fun _ => 0))), (q4, .inl (cZ, 120, .inl (fun _ => 0)))]) := hD
  refine va_putF (D := (dC, dI)) (ci := 4) (v := .ref q4) (ty := (.array .boolean)) (C := R_M) (T := F_M) (N := 12) hx hb htb in_M tf_M tok_M n_M hown hK hP hD hS 0 rfl rfl 5 (by decide) (htb _ wd_416) (fun _ h9 => h9) rfl hin rfl (by decide +kernel) rfl rfl (Nat.le_of_ble_eq_true rfl) d_M_init_34 (fun H locs hP hD hS => ?_)
  have hP : va_P (dC, dI) vwCl ([(h0, .inr (4, [.int 0, .int 0, .ref q1, .ref q2, .ref q3, .ref q4, .null, .int 0, .int 0, .null, .null, .null])), (q1, .inl (cL, 30, .inr (.inl (fun _ => 0)))), (q2, .inl (cI, 30, .inl (fun _ => 0))), (q3, .inl (cZ, 900, .inl (fun _ => 0))), (q4, .inl (cZ, 120, .inl (fun _ => 0)))]) H := hP
  have hD : va_D A ([(h0, .inr (4, [.int 0, .int 0, .ref q1, .ref q2, .ref q3, .ref q4, .null, .int 0, .int 0, .null, .null, .null])), (q1, .inl (cL, 30, .inr (.inl (fun _ => 0)))), (q2, .inl (cI, 30, .inl (fun _ => 0))), (q3, .inl (cZ, 900, .inl (fun _ => 0))), (q4, .inl (cZ, 120, .inl (fun _ => 0)))]) := hD
  refine lv_aload_n hx hb d_M_init_37 rfl (lv_at hl 0 rfl) ?_
  refine lv_iconst (v := 4) hx hb d_M_init_38 (by decide) ?_
  refine bz_newa (atype := .long) hx hb (htb _ wd_71) 1 rfl hK hP hD hS hA (a0 := (4, .inr (.inl (fun _ => 0)))) (bz_a0l) (by decide) (by decide) (by decide) (Nat.le_of_ble_eq_true rfl) (Nat.le_of_ble_eq_true rfl) d_M_init_39 (fun q5 H hP hD hS => ?_)
  refine W.widen (k := 5) (n := 1084) (Nat.le_of_ble_eq_true rfl) (Nat.le_of_ble_eq_true rfl) ?_
  have hP : va_P (dC, dI) vwCl ([(h0, .inr (4, [.int 0, .int 0, .ref q1, .ref q2, .ref q3, .ref q4, .null, .int 0, .int 0, .null, .null, .null])), (q1, .inl (cL, 30, .inr (.inl (fun _ => 0)))), (q2, .inl (cI, 30, .inl (fun _ => 0))), (q3, .inl (cZ, 900, .inl (fun _ => 0))), (q4, .inl (cZ, 120, .inl (fun _ => 0))), (q5, .inl (cL, 4, .inr (.inl (fun _ => 0))))]) H := hP
  have hD : va_D A ([(h0, .inr (4, [.int 0, .int 0, .ref q1, .ref q2, .ref q3, .ref q4, .null, .int 0, .int 0, .null, .null, .null])), (q1, .inl (cL, 30, .inr (.inl (fun _ => 0)))), (q2, .inl (cI, 30, .inl (fun _ => 0))), (q3, .inl (cZ, 900, .inl (fun _ => 0))), (q4, .inl (cZ, 120, .inl (fun _ => 0))), (q5, .inl (cL, 4, .inr (.inl (fun _ => 0))))]) := hD
  refine va_putF (D := (dC, dI)) (ci := 4) (v := .ref q5) (ty := (.array .long)) (C := R_M) (T := F_M) (N := 12) hx hb htb in_M tf_M tok_M n_M hown hK hP hD hS 0 rfl rfl 6 (by decide) (htb _ wd_417) (fun _ h9 => h9) rfl hin rfl (by decide +kernel) rfl rfl (Nat.le_of_ble_eq_true rfl) d_M_init_41 (fun H locs hP hD hS => ?_)
  have hP : va_P (dC, dI) vwCl ([(h0, .inr (4, [.int 0, .int 0, .ref q1, .ref q2, .ref q3, .ref q4, .ref q5, .int 0, .int 0, .null, .null, .null])), (q1, .inl (cL, 30, .inr (.inl (fun _ => 0)))), (q2, .inl (cI, 30, .inl (fun _ => 0))), (q3, .inl (cZ, 900, .inl (fun _ => 0))), (q4, .inl (cZ, 120, .inl (fun _ => 0))), (q5, .inl (cL, 4, .inr (.inl (fun _ => 0))))]) H := hP
  have hD : va_D A ([(h0, .inr (4, [.int 0, .int 0, .ref q1, .ref q2, .ref q3, .ref q4, .ref q5, .int 0, .int 0, .null, .null, .null])), (q1, .inl (cL, 30, .inr (.inl (fun _ => 0)))), (q2, .inl (cI, 30, .inl (fun _ => 0))), (q3, .inl (cZ, 900, .inl (fun _ => 0))), (q4, .inl (cZ, 120, .inl (fun _ => 0))), (q5, .inl (cL, 4, .inr (.inl (fun _ => 0))))]) := hD
  refine lv_aload_n hx hb d_M_init_44 rfl (lv_at hl 0 rfl) ?_
  refine lv_bipush (v := 30) hx hb d_M_init_45 (by decide) ?_
  refine bz_newa (atype := .int) hx hb (htb _ wd_72) 0 rfl hK hP hD hS hA (a0 := (30, .inl (fun _ => 0))) (bz_a0i) (by decide) (by decide) (by decide) (Nat.le_of_ble_eq_true rfl) (Nat.le_of_ble_eq_true rfl) d_M_init_47 (fun q6 H hP hD hS => ?_)
  refine W.widen (k := 6) (n := 1114) (Nat.le_of_ble_eq_true rfl) (Nat.le_of_ble_eq_true rfl) ?_
  have hP : va_P (dC, dI) vwCl ([(h0, .inr (4, [.int 0, .int 0, .ref q1, .ref q2, .ref q3, .ref q4, .ref q5, .int 0, .int 0, .null, .null, .null])), (q1, .inl (cL, 30, .inr (.inl (fun _ => 0)))), (q2, .inl (cI, 30, .inl (fun _ => 0))), (q3, .inl (cZ, 900, .inl (fun _ => 0))), (q4, .inl (cZ, 120, .inl (fun _ => 0))), (q5, .inl (cL, 4, .inr (.inl (fun _ => 0)))), (q6, .inl (cI, 30, .inl (fun _ => 0)))]) H := hP
  have hD : va_D A ([(h0, .inr (4, [.int 0, .int 0, .ref q1, .ref q2, .ref q3, .ref q4, .ref q5, .int 0, .int 0, .null, .null, .null])), (q1, .inl (cL, 30, .inr (.inl (fun _ => 0)))), (q2, .inl (cI, 30, .inl (fun _ => 0))), (q3, .inl (cZ, 900, .inl (fun _ => 0))), (q4, .inl (cZ, 120, .inl (fun _ => 0))), (q5, .inl (cL, 4, .inr (.inl (fun _ => 0)))), (q6, .inl (cI, 30, .inl (fun _ => 0)))]) := hD
  refine va_putF (D := (dC, dI)) (ci := 4) (v := .ref q6) (ty := (.array .int)) (C := R_M) (T := F_M) (N := 12) hx hb htb in_M tf_M tok_M n_M hown hK hP hD hS 0 rfl rfl 9 (by decide) (htb _ wd_420) (fun _ h9 => h9) rfl hin rfl (by decide +kernel) rfl rfl (Nat.le_of_ble_eq_true rfl) d_M_init_49 (fun H locs hP hD hS => ?_)
  have hP : va_P (dC, dI) vwCl ([(h0, .inr (4, [.int 0, .int 0, .ref q1, .ref q2, .ref q3, .ref q4, .ref q5, .int 0, .int 0, .ref q6, .null, .null])), (q1, .inl (cL, 30, .inr (.inl (fun _ => 0)))), (q2, .inl (cI, 30, .inl (fun _ => 0))), (q3, .inl (cZ, 900, .inl (fun _ => 0))), (q4, .inl (cZ, 120, .inl (fun _ => 0))), (q5, .inl (cL, 4, .inr (.inl (fun _ => 0)))), (q6, .inl (cI, 30, .inl (fun _ => 0)))]) H := hP
  have hD : va_D A ([(h0, .inr (4, [.int 0, .int 0, .ref q1, .ref q2, .ref q3, .ref q4, .ref q5, .int 0, .int 0, .ref q6, .null, .null])), (q1, .inl (cL, 30, .inr (.inl (fun _ => 0)))), (q2, .inl (cI, 30, .inl (fun _ => 0))), (q3, .inl (cZ, 900, .inl (fun _ => 0))), (q4, .inl (cZ, 120, .inl (fun _ => 0))), (q5, .inl (cL, 4, .inr (.inl (fun _ => 0)))), (q6, .inl (cI, 30, .inl (fun _ => 0)))]) := hD
  refine lv_aload_n hx hb d_M_init_52 rfl (lv_at hl 0 rfl) ?_
  refine lv_bipush (v := 30) hx hb d_M_init_53 (by decide) ?_
  refine bz_newa (atype := .int) hx hb (htb _ wd_72) 0 rfl hK hP hD hS hA (a0 := (30, .inl (fun _ => 0))) (bz_a0i) (by decide) (by decide) (by decide) (Nat.le_of_ble_eq_true rfl) (Nat.le_of_ble_eq_true rfl) d_M_init_55 (fun q7 H hP hD hS => ?_)
  refine W.widen (k := 7) (n := 1144) (Nat.le_of_ble_eq_true rfl) (Nat.le_of_ble_eq_true rfl) ?_
  have hP : va_P (dC, dI) vwCl ([(h0, .inr (4, [.int 0, .int 0, .ref q1, .ref q2, .ref q3, .ref q4, .ref q5, .int 0, .int 0, .ref q6, .null, .null])), (q1, .inl (cL, 30, .inr (.inl (fun _ => 0)))), (q2, .inl (cI, 30, .inl (fun _ => 0))), (q3, .inl (cZ, 900, .inl (fun _ => 0))), (q4, .inl (cZ, 120, .inl (fun _ => 0))), (q5, .inl (cL, 4, .inr (.inl (fun _ => 0)))), (q6, .inl (cI, 30, .inl (fun _ => 0))), (q7, .inl (cI, 30, .inl (fun _ => 0)))]) H := hP
  have hD : va_D A ([(h0, .inr (4, [.int 0, .int 0, .ref q1, .ref q2, .ref q3, .ref q4, .ref q5, .int 0, .int 0, .ref q6, .null, .null])), (q1, .inl (cL, 30, .inr (.inl (fun _ => 0)))), (q2, .inl (cI, 30, .inl (fun _ => 0))), (q3, .inl (cZ, 900, .inl (fun _ => 0))), (q4, .inl (cZ, 120, .inl (fun _ => 0))), (q5, .inl (cL, 4, .inr (.inl (fun _ => 0)))), (q6, .inl (cI, 30, .inl (fun _ => 0))), (q7, .inl (cI, 30, .inl (fun _ => 0)))]) := hD
  refine va_putF (D := (dC, dI)) (ci := 4) (v := .ref q7) (ty := (.array .int)) (C := R_M) (T := F_M) (N := 12) hx hb htb in_M tf_M tok_M n_M hown hK hP hD hS 0 rfl rfl 10 (by decide) (htb _ wd_421) (fun _ h9 => h9) rfl hin rfl (by decide +kernel) rfl rfl (Nat.le_of_ble_eq_true rfl) d_M_init_57 (fun H locs hP hD hS => ?_)
  have hP : va_P (dC, dI) vwCl ([(h0, .inr (4, [.int 0, .int 0, .ref q1, .ref q2, .ref q3, .ref q4, .ref q5, .int 0, .int 0, .ref q6, .ref q7, .null])), (q1, .inl (cL, 30, .inr (.inl (fun _ => 0)))), (q2, .inl (cI, 30, .inl (fun _ => 0))), (q3, .inl (cZ, 900, .inl (fun _ => 0))), (q4, .inl (cZ, 120, .inl (fun _ => 0))), (q5, .inl (cL, 4, .inr (.inl (fun _ => 0)))), (q6, .inl (cI, 30, .inl (fun _ => 0))), (q7, .inl (cI, 30, .inl (fun _ => 0)))]) H := hP
  have hD : va_D A ([(h0, .inr (4, [.int 0, .int 0, .ref q1, .ref q2, .ref q3, .ref q4, .ref q5, .int 0, .int 0, .ref q6, .ref q7, .null])), (q1, .inl (cL, 30, .inr (.inl (fun _ => 0)))), (q2, .inl (cI, 30, .inl (fun _ => 0))), (q3, .inl (cZ, 900, .inl (fun _ => 0))), (q4, .inl (cZ, 120, .inl (fun _ => 0))), (q5, .inl (cL, 4, .inr (.inl (fun _ => 0)))), (q6, .inl (cI, 30, .inl (fun _ => 0))), (q7, .inl (cI, 30, .inl (fun _ => 0)))]) := hD
  refine lv_aload_n hx hb d_M_init_60 rfl (lv_at hl 0 rfl) ?_
  refine lv_bipush (v := 30) hx hb d_M_init_61 (by decide) ?_
  refine bz_newa (atype := .boolean) hx hb (htb _ wd_448) 2 rfl hK hP hD hS hA (a0 := (30, .inl (fun _ => 0))) (bz_a0z) (by decide) (by decide) (by decide) (Nat.le_of_ble_eq_true rfl) (Nat.le_of_ble_eq_true rfl) d_M_init_63 (fun q8 H hP hD hS => ?_)
  refine W.widen (k := 8) (n := 1174) (Nat.le_of_ble_eq_true rfl) (Nat.le_of_ble_eq_true rfl) ?_
  have hP : va_P (dC, dI) vwCl ([(h0, .inr (4, [.int 0, .int 0, .ref q1, .ref q2, .ref q3, .ref q4, .ref q5, .int 0, .int 0, .ref q6, .ref q7, .null])), (q1, .inl (cL, 30, .inr (.inl (fun _ => 0)))), (q2, .inl (cI, 30, .inl (fun _ => 0))), (q3, .inl (cZ, 900, .inl (fun _ => 0))), (q4, .inl (cZ, 120, .inl (fun _ => 0))), (q5, .inl (cL, 4, .inr (.inl (fun _ => 0)))), (q6, .inl (cI, 30, .inl (fun _ => 0))), (q7, .inl (cI, 30, .inl (fun _ => 0))), (q8, .inl (cZ, 30, .inl (fun _ => 0)))]) H := hP
  have hD : va_D A ([(h0, .inr (4, [.int 0, .int 0, .ref q1, .ref q2, .ref q3, .ref q4, .ref q5, .int 0, .int 0, .ref q6, .ref q7, .null])), (q1, .inl (cL, 30, .inr (.inl (fun _ => 0)))), (q2, .inl (cI, 30, .inl (fun _ => 0))), (q3, .inl (cZ, 900, .inl (fun _ => 0))), (q4, .inl (cZ, 120, .inl (fun _ => 0))), (q5, .inl (cL, 4, .inr (.inl (fun _ => 0)))), (q6, .inl (cI, 30, .inl (fun _ => 0))), (q7, .inl (cI, 30, .inl (fun _ => 0))), (q8, .inl (cZ, 30, .inl (fun _ => 0)))]) := hD
  refine va_putF (D := (dC, dI)) (ci := 4) (v := .ref q8) (ty := (.array .boolean)) (C := R_M) (T := F_M) (N := 12) hx hb htb in_M tf_M tok_M n_M hown hK hP hD hS 0 rfl rfl 11 (by decide) (htb _ wd_422) (fun _ h9 => h9) rfl hin rfl (by decide +kernel) rfl rfl (Nat.le_of_ble_eq_true rfl) d_M_init_65 (fun H locs hP hD hS => ?_)
  have hP : va_P (dC, dI) vwCl ([(h0, .inr (4, [.int 0, .int 0, .ref q1, .ref q2, .ref q3, .ref q4, .ref q5, .int 0, .int 0, .ref q6, .ref q7, .ref q8])), (q1, .inl (cL, 30, .inr (.inl (fun _ => 0)))), (q2, .inl (cI, 30, .inl (fun _ => 0))), (q3, .inl (cZ, 900, .inl (fun _ => 0))), (q4, .inl (cZ, 120, .inl (fun _ => 0))), (q5, .inl (cL, 4, .inr (.inl (fun _ => 0)))), (q6, .inl (cI, 30, .inl (fun _ => 0))), (q7, .inl (cI, 30, .inl (fun _ => 0))), (q8, .inl (cZ, 30, .inl (fun _ => 0)))]) H := hP
  have hD : va_D A ([(h0, .inr (4, [.int 0, .int 0, .ref q1, .ref q2, .ref q3, .ref q4, .ref q5, .int 0, .int 0, .ref q6, .ref q7, .ref q8])), (q1, .inl (cL, 30, .inr (.inl (fun _ => 0)))), (q2, .inl (cI, 30, .inl (fun _ => 0))), (q3, .inl (cZ, 900, .inl (fun _ => 0))), (q4, .inl (cZ, 120, .inl (fun _ => 0))), (q5, .inl (cL, 4, .inr (.inl (fun _ => 0)))), (q6, .inl (cI, 30, .inl (fun _ => 0))), (q7, .inl (cI, 30, .inl (fun _ => 0))), (q8, .inl (cZ, 30, .inl (fun _ => 0)))]) := hD
  refine lv_aload_n hx hb d_M_init_68 rfl (lv_at hl 0 rfl) ?_
  refine lv_iconst (v := 0) hx hb d_M_init_69 (by decide) ?_
  refine va_put (D := (dC, dI)) (ci := 4) (v := .int 0) (ty := .int) (C := R_M) (T := F_M) (N := 12) hx hb htb in_M tf_M tok_M n_M hown hK hP hD hS 0 rfl rfl 1 (by decide) (htb _ wd_412) (fun _ h9 => h9) rfl (by decide +kernel) rfl rfl (Nat.le_of_ble_eq_true rfl) d_M_init_70 (fun H locs hP hD hS => ?_)
  have hP : va_P (dC, dI) vwCl ([(h0, .inr (4, [.int 0, .int 0, .ref q1, .ref q2, .ref q3, .ref q4, .ref q5, .int 0, .int 0, .ref q6, .ref q7, .ref q8])), (q1, .inl (cL, 30, .inr (.inl (fun _ => 0)))), (q2, .inl (cI, 30, .inl (fun _ => 0))), (q3, .inl (cZ, 900, .inl (fun _ => 0))), (q4, .inl (cZ, 120, .inl (fun _ => 0))), (q5, .inl (cL, 4, .inr (.inl (fun _ => 0)))), (q6, .inl (cI, 30, .inl (fun _ => 0))), (q7, .inl (cI, 30, .inl (fun _ => 0))), (q8, .inl (cZ, 30, .inl (fun _ => 0)))]) H := hP
  have hD : va_D A ([(h0, .inr (4, [.int 0, .int 0, .ref q1, .ref q2, .ref q3, .ref q4, .ref q5, .int 0, .int 0, .ref q6, .ref q7, .ref q8])), (q1, .inl (cL, 30, .inr (.inl (fun _ => 0)))), (q2, .inl (cI, 30, .inl (fun _ => 0))), (q3, .inl (cZ, 900, .inl (fun _ => 0))), (q4, .inl (cZ, 120, .inl (fun _ => 0))), (q5, .inl (cL, 4, .inr (.inl (fun _ => 0)))), (q6, .inl (cI, 30, .inl (fun _ => 0))), (q7, .inl (cI, 30, .inl (fun _ => 0))), (q8, .inl (cZ, 30, .inl (fun _ => 0)))]) := hD
  have hP := hP.sub (ws' := [(h0, .inr (4, [.int 0, .int 0, .ref q1, .ref q2, .ref q3, .ref q4, .ref q5, .int 0, .int 0, .ref q6, .ref q7, .ref q8])), (q1, .inl (cL, 30, .inr (.inl (fun _ => 0)))), (q2, .inl (cI, 30, .inl (fun _ => 0))), (q3, .inl (cZ, 900, .inl (fun _ => 0))), (q4, .inl (cZ, 120, .inl (fun _ => 0))), (q5, .inl (cL, 4, .inr (.inl (fun _ => 0)))), (q6, .inl (cI, 30, .inl (fun _ => 0))), (q7, .inl (cI, 30, .inl (fun _ => 0))), (q8, .inl (cZ, 30, .inl (fun _ => 0)))]) [0, 1, 2, 3, 4, 5, 6, 7, 8] rfl
  have hD := hD.sub (ws' := [(h0, .inr (4, [.int 0, .int 0, .ref q1, .ref q2, .ref q3, .ref q4, .ref q5, .int 0, .int 0, .ref q6, .ref q7, .ref q8])), (q1, .inl (cL, 30, .inr (.inl (fun _ => 0)))), (q2, .inl (cI, 30, .inl (fun _ => 0))), (q3, .inl (cZ, 900, .inl (fun _ => 0))), (q4, .inl (cZ, 120, .inl (fun _ => 0))), (q5, .inl (cL, 4, .inr (.inl (fun _ => 0)))), (q6, .inl (cI, 30, .inl (fun _ => 0))), (q7, .inl (cI, 30, .inl (fun _ => 0))), (q8, .inl (cZ, 30, .inl (fun _ => 0)))]) [0, 1, 2, 3, 4, 5, 6, 7, 8] (by decide) rfl
  exact W.vret hx hb hr (fun t9 ht9 hW => ⟨⟨(fun k9 => if k9 = 1 then q1 else if k9 = 2 then q2 else if k9 = 3 then q3 else if k9 = 4 then q4 else if k9 = 5 then q5 else if k9 = 6 then q6 else if k9 = 7 then q7 else if k9 = 8 then q8 else 0), rfl, trivial, by rw [ht9]; exact hP, va_K.moved hW.alike hK, hD⟩, hS.F ht9⟩) hS.2.2 d_M_init_73

set_option maxHeartbeats 4000000 in
set_option maxRecDepth 100000 in
theorem c_B_init (l : Launch) (dC : Nat → ClassId) (dI : Nat → Nat → Nat) (sz : Nat) (cI cL : ClassId) (h0 : Nat) : Met l y_B_init w_B_init ({ frames := 2, cells := 12, slots := 158, locals := 33 }) (bz_Pw (dC, dI) [(cI, .int), (cL, .long)] [(h0, .inr (3, [.null, .null, .null, .int 0]))] sz [.ref h0]) (bz_Qx (dC, dI) [(cI, .int), (cL, .long)] (va_A [(h0, .inr (3, [.null, .null, .null, .int 0]))] sz) (fun _ : Nat → Nat => True) (fun ad => [(h0, .inr (3, [.ref (ad 1), .ref (ad 7), .ref (ad 11), .int 0])), (ad 1, .inr (2, [.ref (ad 2), .ref (ad 3), .ref (ad 4), .ref (ad 5), .ref (ad 6), .int 0])), (ad 2, .inl (cL, 30, .inr (.inl (fun _ => 0)))), (ad 3, .inl (cI, 30, .inl (fun _ => 0))), (ad 4, .inl (cI, 30, .inl (fun _ => 0))), (ad 5, .inl (cI, 4, .inl (fun _ => 0))), (ad 6, .inl (cL, 4, .inr (.inl (fun _ => 0)))), (ad 7, .inr (1, [.ref (ad 1), .ref (ad 8), .ref (ad 9), .ref (ad 10), .int 0, .int 0])), (ad 8, .inl (cI, 30, .inl (fun _ => 0))), (ad 9, .inl (cI, 4, .inl (fun _ => 0))), (ad 10, .inl (cL, 4, .inr (.inl (fun _ => 0)))), (ad 11, .inr (0, [.ref (ad 12), .long 0])), (ad 12, .inl (cI, 8, .inl (fun _ => 0)))])) 12 158 (va_A [(h0, .inr (3, [.null, .null, .null, .int 0]))] sz) := by
  refine Met.ofW (cc := b_B_init) (maxL := 1) (ret := none) (by decide) rfl ?_
  intro p e s m args below meth c s₁ B hml hv
  obtain ⟨rfl, hsz, hP, hK, hD0, hN⟩ := hv
  have hx := B.exec
  have hb := B.bytes
  have hr := B.returns
  have hts := atoms_spec (ws := w_B_init) B.pre
  have hown : s.vm.findClass R_B = some m.cls := findClass_of_methodNamed B.named
  have htb : ∀ w ∈ bz_tb, w.before _ s = true := fun w h => hts w (List.mem_cons_of_mem _ h)
  have hlocks := B.notSynchronized
  have hin : meth.name = "<init>" := (name_of_methodNamed B.named B.method).1
  subst hsz
  have hD := hD0.self (sz := s.heap.size)
  generalize hAe : va_A [(h0, .inr (3, [.null, .null, .null, .int 0]))] s.heap.size = A at hD ⊢
  have hA : ∀ q : Nat, s.heap.size ≤ q → A q := fun q h => by rw [← hAe]; exact Or.inr h
  have hS : va_S A s.heap s.heap [] := va_S.rf
  have hl := lv_entry ([.ref h0]) (n := 1) (Nat.le_of_ble_eq_true rfl)
  rw [lg_entry_eq]
  generalize (lg_sl ([.ref h0]) ++ List.replicate (1 - (lg_sl ([.ref h0])).length) Slot.unset).toArray = ls at hl ⊢
  have hl : lv_has ls 1 [(0, .ref h0)] := hl
  refine lv_aload_n hx hb d_B_init_0 rfl (lv_at hl 0 rfl) ?_
  refine W.objInit hx hb hown (htb _ wd_37) (htb _ wd_38) (htb _ wd_39) rfl (by rw [hml]; exact hl.1) rfl d_B_init_1 (Nat.le_of_ble_eq_true rfl) (Nat.le_of_ble_eq_true rfl) ?_
  refine W.eq (g2 := F0 m 4 ls []) rfl ?_
  refine lv_aload_n hx hb d_B_init_4 rfl (lv_at hl 0 rfl) ?_
  refine va_new (ci := 2) (fs := [.null, .null, .null, .null, .null, .int 0]) (C := R_T) (T := F_T) (N := 6) hx hb htb in_T tf_T tok_T hown (htb _ wd_40) (htb _ wd_41) (htb _ wd_20) hK hP hD hS hA rfl (fun j hj => by rcases (show j = 0 ∨ j = 1 ∨ j = 2 ∨ j = 3 ∨ j = 4 ∨ j = 5 by omega) with rfl | rfl | rfl | rfl | rfl | rfl <;> rfl) (Nat.le_of_ble_eq_true rfl) (Nat.le_of_ble_eq_true rfl) d_B_init_5 (fun q1 H hP hD hS => ?_)
  refine W.widen (k := 1) (n := 6) (Nat.le_of_ble_eq_true rfl) (Nat.le_of_ble_eq_true rfl) ?_
  have hP : va_P (dC, dI) vwCl ([(h0, .inr (3, [.null, .null, .null, .int 0])), (q1, .inr (2, [.null, .null, .null, .null, .null, .int 0]))]) H := hP
  have hD : va_D A ([(h0, .inr (3, [.null, .null, .null, .int 0])), (q1, .inr (2, [.null, .null, .null, .null, .null, .int 0]))]) := hD
  refine lv_dup hx hb d_B_init_8 rfl ?_
  have hPc := hP.sub (ws' := [(q1, .inr (2, [.null, .null, .null, .null, .null, .int 0]))]) [1] rfl
  have hDc := hD.sub (ws' := [(q1, .inr (2, [.null, .null, .null, .null, .null, .int 0]))]) [1] (by decide) rfl
  have hFc := va_free (wc := [(q1, .inr (2, [.null, .null, .null, .null, .null, .int 0]))]) hD hS hA [1] rfl
  refine va_callv (va_runIN (As := []) (rest := [.ref q1, .ref h0]) ⟨hx, hb, hml, hown, htb⟩ (c_T_init l dC dI _ cI cL _) ⟨va_cnB 0 htb (bz_g0 wd_44) rfl rfl rfl (hN _ nd_42) (htb _ wd_20) (by decide +kernel) ⟨Nat.le_of_ble_eq_true rfl, Nat.le_of_ble_eq_true rfl⟩, rfl, htb _ wd_43⟩ ⟨bz_Pw_bl, fun U hU hW => ⟨rfl, by rw [hU], by rw [hU]; exact hPc, va_K.moved hW.alike hK, hDc.weaken (fun _ _ _ _ => trivial), bz_N_warm hW hN⟩⟩ rfl rfl hl.1 rfl (lv_room (Nat.le_of_ble_eq_true rfl)) d_B_init_9 ⟨Nat.le_of_ble_eq_true rfl, Nat.le_of_ble_eq_true rfl⟩) hS (fun q _ h => hFc q h) hFc (fun aT t9 H1 locs ht9 hvm hw hB hz1 hk1 hS => ?_)
  obtain ⟨hP1, hK1, hD1⟩ := hB
  rw [ht9] at hP1
  obtain ⟨hP, hD⟩ := va_join (wr := [(h0, .inr (3, [.null, .null, .null, .int 0]))]) (w1 := [(q1, .inr (2, [.ref (aT 2), .ref (aT 3), .ref (aT 4), .ref (aT 5), .ref (aT 6), .int 0])), (aT 2, .inl (cL, 30, .inr (.inl (fun _ => 0)))), (aT 3, .inl (cI, 30, .inl (fun _ => 0))), (aT 4, .inl (cI, 30, .inl (fun _ => 0))), (aT 5, .inl (cI, 4, .inl (fun _ => 0))), (aT 6, .inl (cL, 4, .inr (.inl (fun _ => 0))))]) hP hD [1] [0] rfl rfl (by decide) (by decide) hk1 hFc hP1 hD1
  generalize H1 = H at hP hS ⊢
  refine W.widen (k := 6) (n := 104) (Nat.le_of_ble_eq_true rfl) (Nat.le_of_ble_eq_true rfl) ?_
  have hP : va_P (dC, dI) vwCl ([(h0, .inr (3, [.null, .null, .null, .int 0])), (q1, .inr (2, [.ref (aT 2), .ref (aT 3), .ref (aT 4), .ref (aT 5), .ref (aT 6), .int 0])), (aT 2, .inl (cL, 30, .inr (.inl (fun _ => 0)))), (aT 3, .inl (cI, 30, .inl (fun _ => 0))), (aT 4, .inl (cI, 30, .inl (fun _ => 0))), (aT 5, .inl (cI, 4, .inl (fun _ => 0))), (aT 6, .inl (cL, 4, .inr (.inl (fun _ => 0))))]) H := hP
  have hD : va_D A ([(h0, .inr (3, [.null, .null, .null, .int 0])), (q1, .inr (2, [.ref (aT 2), .ref (aT 3), .ref (aT 4), .ref (aT 5), .ref (aT 6), .int 0])), (aT 2, .inl (cL, 30, .inr (.inl (fun _ => 0)))), (aT 3, .inl (cI, 30, .inl (fun _ => 0))), (aT 4, .inl (cI, 30, .inl (fun _ => 0))), (aT 5, .inl (cI, 4, .inl (fun _ => 0))), (aT 6, .inl (cL, 4, .inr (.inl (fun _ => 0))))]) := hD
  refine va_putF (D := (dC, dI)) (ci := 3) (v := .ref q1) (ty := (.object "BalanceRounds$Town")) (C := R_B) (T := F_B) (N := 4) hx hb htb in_B tf_B tok_B n_B hown hK hP hD hS 0 rfl rfl 0 (by decide) (htb _ wd_117) (fun _ h9 => h9) rfl hin rfl (by decide +kernel) rfl rfl (Nat.le_of_ble_eq_true rfl) d_B_init_12 (fun H locs hP hD hS => ?_)
  have hP : va_P (dC, dI) vwCl ([(h0, .inr (3, [.ref q1, .null, .null, .int 0])), (q1, .inr (2, [.ref (aT 2), .ref (aT 3), .ref (aT 4), .ref (aT 5), .ref (aT 6), .int 0])), (aT 2, .inl (cL, 30, .inr (.inl (fun _ => 0)))), (aT 3, .inl (cI, 30, .inl (fun _ => 0))), (aT 4, .inl (cI, 30, .inl (fun _ => 0))), (aT 5, .inl (cI, 4, .inl (fun _ => 0))), (aT 6, .inl (cL, 4, .inr (.inl (fun _ => 0))))]) H := hP
  have hD : va_D A ([(h0, .inr (3, [.ref q1, .null, .null, .int 0])), (q1, .inr (2, [.ref (aT 2), .ref (aT 3), .ref (aT 4), .ref (aT 5), .ref (aT 6), .int 0])), (aT 2, .inl (cL, 30, .inr (.inl (fun _ => 0)))), (aT 3, .inl (cI, 30, .inl (fun _ => 0))), (aT 4, .inl (cI, 30, .inl (fun _ => 0))), (aT 5, .inl (cI, 4, .inl (fun _ => 0))), (aT 6, .inl (cL, 4, .inr (.inl (fun _ => 0))))]) := hD
  refine lv_aload_n hx hb d_B_init_15 rfl (lv_at hl 0 rfl) ?_
  refine va_new (ci := 1) (fs := [.null, .null, .null, .null, .int 0, .int 0]) (C := R_S) (T := F_S) (N := 6) hx hb htb in_S tf_S tok_S hown (htb _ wd_73) (htb _ wd_74) (htb _ wd_21) hK hP hD hS hA rfl (fun j hj => by rcases (show j = 0 ∨ j = 1 ∨ j = 2 ∨ j = 3 ∨ j = 4 ∨ j = 5 by omega) with rfl | rfl | rfl | rfl | rfl | rfl <;> rfl) (Nat.le_of_ble_eq_true rfl) (Nat.le_of_ble_eq_true rfl) d_B_init_16 (fun q2 H hP hD hS => ?_)
  refine W.widen (k := 7) (n := 110) (Nat.le_of_ble_eq_true rfl) (Nat.le_of_ble_eq_true rfl) ?_
  have hP : va_P (dC, dI) vwCl ([(h0, .inr (3, [.ref q1, .null, .null, .int 0])), (q1, .inr (2, [.ref (aT 2), .ref (aT 3), .ref (aT 4), .ref (aT 5), .ref (aT 6), .int 0])), (aT 2, .inl (cL, 30, .inr (.inl (fun _ => 0)))), (aT 3, .inl (cI, 30, .inl (fun _ => 0))), (aT 4, .inl (cI, 30, .inl (fun _ => 0))), (aT 5, .inl (cI, 4, .inl (fun _ => 0))), (aT 6, .inl (cL, 4, .inr (.inl (fun _ => 0)))), (q2, .inr (1, [.null, .null, .null, .null, .int 0, .int 0]))]) H := hP
  have hD : va_D A ([(h0, .inr (3, [.ref q1, .null, .null, .int 0])), (q1, .inr (2, [.ref (aT 2), .ref (aT 3), .ref (aT 4), .ref (aT 5), .ref (aT 6), .int 0])), (aT 2, .inl (cL, 30, .inr (.inl (fun _ => 0)))), (aT 3, .inl (cI, 30, .inl (fun _ => 0))), (aT 4, .inl (cI, 30, .inl (fun _ => 0))), (aT 5, .inl (cI, 4, .inl (fun _ => 0))), (aT 6, .inl (cL, 4, .inr (.inl (fun _ => 0)))), (q2, .inr (1, [.null, .null, .null, .null, .int 0, .int 0]))]) := hD
  refine lv_dup hx hb d_B_init_19 rfl ?_
  refine lv_aload_n hx hb d_B_init_20 rfl (lv_at hl 0 rfl) ?_
  refine va_get (D := (dC, dI)) (ci := 3) (v := .ref q1) (C := R_B) (T := F_B) (N := 4) hx hb htb in_B hown hK hP 0 rfl rfl 0 (by decide) (htb _ wd_117) (fun _ h9 => h9) rfl d_B_init_21 ?_
  have hPc := hP.sub (ws' := [(q2, .inr (1, [.null, .null, .null, .null, .int 0, .int 0]))]) [7] rfl
  have hDc := hD.sub (ws' := [(q2, .inr (1, [.null, .null, .null, .null, .int 0, .int 0]))]) [7] (by decide) rfl
  have hFc := va_free (wc := [(q2, .inr (1, [.null, .null, .null, .null, .int 0, .int 0]))]) hD hS hA [7] rfl
  refine va_callv (va_runI (As := [.ref q1]) (rest := [.ref q2, .ref h0]) ⟨hx, hb, hml, hown, htb⟩ (c_S_init l dC dI _ cI cL _ _) (cwI 1 htb (bz_g0 wd_77) rfl rfl rfl (htb _ wd_21) (htb _ wd_75) (htb _ wd_76) rfl (by decide +kernel) ⟨Nat.le_of_ble_eq_true rfl, Nat.le_of_ble_eq_true rfl⟩) ⟨bz_Pw_bl, fun U hU hW => ⟨rfl, by rw [hU], by rw [hU]; exact hPc, va_K.moved hW.alike hK, hDc.weaken (fun _ _ _ _ => trivial), bz_N_warm hW hN⟩⟩ rfl rfl hl.1 rfl (lv_room (Nat.le_of_ble_eq_true rfl)) d_B_init_24 ⟨Nat.le_of_ble_eq_true rfl, Nat.le_of_ble_eq_true rfl⟩) hS (fun q _ h => hFc q h) hFc (fun aS t9 H1 locs ht9 hvm hw hB hz1 hk1 hS => ?_)
  obtain ⟨hP1, hK1, hD1⟩ := hB
  rw [ht9] at hP1
  obtain ⟨hP, hD⟩ := va_join (wr := [(h0, .inr (3, [.ref q1, .null, .null, .int 0])), (q1, .inr (2, [.ref (aT 2), .ref (aT 3), .ref (aT 4), .ref (aT 5), .ref (aT 6), .int 0])), (aT 2, .inl (cL, 30, .inr (.inl (fun _ => 0)))), (aT 3, .inl (cI, 30, .inl (fun _ => 0))), (aT 4, .inl (cI, 30, .inl (fun _ => 0))), (aT 5, .inl (cI, 4, .inl (fun _ => 0))), (aT 6, .inl (cL, 4, .inr (.inl (fun _ => 0))))]) (w1 := [(q2, .inr (1, [.ref q1, .ref (aS 8), .ref (aS 9), .ref (aS 10), .int 0, .int 0])), (aS 8, .inl (cI, 30, .inl (fun _ => 0))), (aS 9, .inl (cI, 4, .inl (fun _ => 0))), (aS 10, .inl (cL, 4, .inr (.inl (fun _ => 0))))]) hP hD [7] [0, 1, 2, 3, 4, 5, 6] rfl rfl (by decide) (by decide) hk1 hFc hP1 hD1
  generalize H1 = H at hP hS ⊢
  refine W.widen (k := 10) (n := 148) (Nat.le_of_ble_eq_true rfl) (Nat.le_of_ble_eq_true rfl) ?_
  have hP : va_P (dC, dI) vwCl ([(h0, .inr (3, [.ref q1, .null, .null, .int 0])), (q1, .inr (2, [.ref (aT 2), .ref (aT 3), .ref (aT 4), .ref (aT 5), .ref (aT 6), .int 0])), (aT 2, .inl (cL, 30, .inr (.inl (fun _ => 0)))), (aT 3, .inl (cI, 30, .inl (fun _ => 0))), (aT 4, .inl (cI, 30, .inl (fun _ => 0))), (aT 5, .inl (cI, 4, .inl (fun _ => 0))), (aT 6, .inl (cL, 4, .inr (.inl (fun _ => 0)))), (q2, .inr (1, [.ref q1, .ref (aS 8), .ref (aS 9), .ref (aS 10), .int 0, .int 0])), (aS 8, .inl (cI, 30, .inl (fun _ => 0))), (aS 9, .inl (cI, 4, .inl (fun _ => 0))), (aS 10, .inl (cL, 4, .inr (.inl (fun _ => 0))))]) H := hP
  have hD : va_D A ([(h0, .inr (3, [.ref q1, .null, .null, .int 0])), (q1, .inr (2, [.ref (aT 2), .ref (aT 3), .ref (aT 4), .ref (aT 5), .ref (aT 6), .int 0])), (aT 2, .inl (cL, 30, .inr (.inl (fun _ => 0)))), (aT 3, .inl (cI, 30, .inl (fun _ => 0))), (aT 4, .inl (cI, 30, .inl (fun _ => 0))), (aT 5, .inl (cI, 4, .inl (fun _ => 0))), (aT 6, .inl (cL, 4, .inr (.inl (fun _ => 0)))), (q2, .inr (1, [.ref q1, .ref (aS 8), .ref (aS 9), .ref (aS 10), .int 0, .int 0])), (aS 8, .inl (cI, 30, .inl (fun _ => 0))), (aS 9, .inl (cI, 4, .inl (fun _ => 0))), (aS 10, .inl (cL, 4, .inr (.inl (fun _ => 0))))]) := hD
  refine va_putF (D := (dC, dI)) (ci := 3) (v := .ref q2) (ty := (.object "BalanceRounds$Share")) (C := R_B) (T := F_B) (N := 4) hx hb htb in_B tf_B tok_B n_B hown hK hP hD hS 0 rfl rfl 1 (by decide) (htb _ wd_118) (fun _ h9 => h9) rfl hin rfl (by decide +kernel) rfl rfl (Nat.le_of_ble_eq_true rfl) d_B_init_27 (fun H locs hP hD hS => ?_)
  have hP : va_P (dC, dI) vwCl ([(h0, .inr (3, [.ref q1, .ref q2, .null, .int 0])), (q1, .inr (2, [.ref (aT 2), .ref (aT 3), .ref (aT 4), .ref (aT 5), .ref (aT 6), .int 0])), (aT 2, .inl (cL, 30, .inr (.inl (fun _ => 0)))), (aT 3, .inl (cI, 30, .inl (fun _ => 0))), (aT 4, .inl (cI, 30, .inl (fun _ => 0))), (aT 5, .inl (cI, 4, .inl (fun _ => 0))), (aT 6, .inl (cL, 4, .inr (.inl (fun _ => 0)))), (q2, .inr (1, [.ref q1, .ref (aS 8), .ref (aS 9), .ref (aS 10), .int 0, .int 0])), (aS 8, .inl (cI, 30, .inl (fun _ => 0))), (aS 9, .inl (cI, 4, .inl (fun _ => 0))), (aS 10, .inl (cL, 4, .inr (.inl (fun _ => 0))))]) H := hP
  have hD : va_D A ([(h0, .inr (3, [.ref q1, .ref q2, .null, .int 0])), (q1, .inr (2, [.ref (aT 2), .ref (aT 3), .ref (aT 4), .ref (aT 5), .ref (aT 6), .int 0])), (aT 2, .inl (cL, 30, .inr (.inl (fun _ => 0)))), (aT 3, .inl (cI, 30, .inl (fun _ => 0))), (aT 4, .inl (cI, 30, .inl (fun _ => 0))), (aT 5, .inl (cI, 4, .inl (fun _ => 0))), (aT 6, .inl (cL, 4, .inr (.inl (fun _ => 0)))), (q2, .inr (1, [.ref q1, .ref (aS 8), .ref (aS 9), .ref (aS 10), .int 0, .int 0])), (aS 8, .inl (cI, 30, .inl (fun _ => 0))), (aS 9, .inl (cI, 4, .inl (fun _ => 0))), (aS 10, .inl (cL, 4, .inr (.inl (fun _ => 0))))]) := hD
  refine lv_aload_n hx hb d_B_init_30 rfl (lv_at hl 0 rfl) ?_
  refine va_new (ci := 0) (fs := [.null, .long 0]) (C := R_Le) (T := F_Le) (N := 2) hx hb htb in_Le tf_Le tok_Le hown (htb _ wd_102) (htb _ wd_103) (htb _ wd_22) hK hP hD hS hA rfl (fun j hj => by rcases (show j = 0 ∨ j = 1 by omega) with rfl | rfl <;> rfl) (Nat.le_of_ble_eq_true rfl) (Nat.le_of_ble_eq_true rfl) d_B_init_31 (fun q3 H hP hD hS => ?_)
  refine W.widen (k := 11) (n := 150) (Nat.le_of_ble_eq_true rfl) (Nat.le_of_ble_eq_true rfl) ?_
  have hP : va_P (dC, dI) vwCl ([(h0, .inr (3, [.ref q1, .ref q2, .null, .int 0])), (q1, .inr (2, [.ref (aT 2), .ref (aT 3), .ref (aT 4), .ref (aT 5), .ref (aT 6), .int 0])), (aT 2, .inl (cL, 30, .inr (.inl (fun _ => 0)))), (aT 3, .inl (cI, 30, .inl (fun _ => 0))), (aT 4, .inl (cI, 30, .inl (fun _ => 0))), (aT 5, .inl (cI, 4, .inl (fun _ => 0))), (aT 6, .inl (cL, 4, .inr (.inl (fun _ => 0)))), (q2, .inr (1, [.ref q1, .ref (aS 8), .ref (aS 9), .ref (aS 10), .int 0, .int 0])), (aS 8, .inl (cI, 30, .inl (fun _ => 0))), (aS 9, .inl (cI, 4, .inl (fun _ => 0))), (aS 10, .inl (cL, 4, .inr (.inl (fun _ => 0)))), (q3, .inr (0, [.null, .long 0]))]) H := hP
  have hD : va_D A ([(h0, .inr (3, [.ref q1, .ref q2, .null, .int 0])), (q1, .inr (2, [.ref (aT 2), .ref (aT 3), .ref (aT 4), .ref (aT 5), .ref (aT 6), .int 0])), (aT 2, .inl (cL, 30, .inr (.inl (fun _ => 0)))), (aT 3, .inl (cI, 30, .inl (fun _ => 0))), (aT 4, .inl (cI, 30, .inl (fun _ => 0))), (aT 5, .inl (cI, 4, .inl (fun _ => 0))), (aT 6, .inl (cL, 4, .inr (.inl (fun _ => 0)))), (q2, .inr (1, [.ref q1, .ref (aS 8), .ref (aS 9), .ref (aS 10), .int 0, .int 0])), (aS 8, .inl (cI, 30, .inl (fun _ => 0))), (aS 9, .inl (cI, 4, .inl (fun _ => 0))), (aS 10, .inl (cL, 4, .inr (.inl (fun _ => 0)))), (q3, .inr (0, [.null, .long 0]))]) := hD
  refine lv_dup hx hb d_B_init_34 rfl ?_
  have hPc := hP.sub (ws' := [(q3, .inr (0, [.null, .long 0]))]) [11] rfl
  have hDc := hD.sub (ws' := [(q3, .inr (0, [.null, .long 0]))]) [11] (by decide) rfl
  have hFc := va_free (wc := [(q3, .inr (0, [.null, .long 0]))]) hD hS hA [11] rfl
  refine va_callv (va_runIN (As := []) (rest := [.ref q3, .ref h0]) ⟨hx, hb, hml, hown, htb⟩ (c_Le_init l dC dI _ cI cL _) ⟨va_cnB 0 htb (bz_g0 wd_106) rfl rfl rfl (hN _ nd_104) (htb _ wd_22) (by decide +kernel) ⟨Nat.le_of_ble_eq_true rfl, Nat.le_of_ble_eq_true rfl⟩, rfl, htb _ wd_105⟩ ⟨bz_Pw_bl, fun U hU hW => ⟨rfl, by rw [hU], by rw [hU]; exact hPc, va_K.moved hW.alike hK, hDc.weaken (fun _ _ _ _ => trivial), bz_N_warm hW hN⟩⟩ rfl rfl hl.1 rfl (lv_room (Nat.le_of_ble_eq_true rfl)) d_B_init_35 ⟨Nat.le_of_ble_eq_true rfl, Nat.le_of_ble_eq_true rfl⟩) hS (fun q _ h => hFc q h) hFc (fun aLe t9 H1 locs ht9 hvm hw hB hz1 hk1 hS => ?_)
  obtain ⟨hP1, hK1, hD1⟩ := hB
  rw [ht9] at hP1
  obtain ⟨hP, hD⟩ := va_join (wr := [(h0, .inr (3, [.ref q1, .ref q2, .null, .int 0])), (q1, .inr (2, [.ref (aT 2), .ref (aT 3), .ref (aT 4), .ref (aT 5), .ref (aT 6), .int 0])), (aT 2, .inl (cL, 30, .inr (.inl (fun _ => 0)))), (aT 3, .inl (cI, 30, .inl (fun _ => 0))), (aT 4, .inl (cI, 30, .inl (fun _ => 0))), (aT 5, .inl (cI, 4, .inl (fun _ => 0))), (aT 6, .inl (cL, 4, .inr (.inl (fun _ => 0)))), (q2, .inr (1, [.ref q1, .ref (aS 8), .ref (aS 9), .ref (aS 10), .int 0, .int 0])), (aS 8, .inl (cI, 30, .inl (fun _ => 0))), (aS 9, .inl (cI, 4, .inl (fun _ => 0))), (aS 10, .inl (cL, 4, .inr (.inl (fun _ => 0))))]) (w1 := [(q3, .inr (0, [.ref (aLe 12), .long 0])), (aLe 12, .inl (cI, 8, .inl (fun _ => 0)))]) hP hD [11] [0, 1, 2, 3, 4, 5, 6, 7, 8, 9, 10] rfl rfl (by decide) (by decide) hk1 hFc hP1 hD1
  generalize H1 = H at hP hS ⊢
  refine W.widen (k := 12) (n := 158) (Nat.le_of_ble_eq_true rfl) (Nat.le_of_ble_eq_true rfl) ?_
  have hP : va_P (dC, dI) vwCl ([(h0, .inr (3, [.ref q1, .ref q2, .null, .int 0])), (q1, .inr (2, [.ref (aT 2), .ref (aT 3), .ref (aT 4), .ref (aT 5), .ref (aT 6), .int 0])), (aT 2, .inl (cL, 30, .inr (.inl (fun _ => 0)))), (aT 3, .inl (cI, 30, .inl (fun _ => 0))), (aT 4, .inl (cI, 30, .inl (fun _ => 0))), (aT 5, .inl (cI, 4, .inl (fun _ => 0))), (aT 6, .inl (cL, 4, .inr (.inl (fun _ => 0)))), (q2, .inr (1, [.ref q1, .ref (aS 8), .ref (aS 9), .ref (aS 10), .int 0, .int 0])), (aS 8, .inl (cI, 30, .inl (fun _ => 0))), (aS 9, .inl (cI, 4, .inl (fun _ => 0))), (aS 10, .inl (cL, 4, .inr (.inl (fun _ => 0)))), (q3, .inr (0, [.ref (aLe 12), .long 0])), (aLe 12, .inl (cI, 8, .inl (fun _ => 0)))]) H := hP
  have hD : va_D A ([(h0, .inr (3, [.ref q1, .ref q2, .null, .int 0])), (q1, .inr (2, [.ref (aT 2), .ref (aT 3), .ref (aT 4), .ref (aT 5), .ref (aT 6), .int 0])), (aT 2, .inl (cL, 30, .inr (.inl (fun _ => 0)))), (aT 3, .inl (cI, 30, .inl (fun _ => 0))), (aT 4, .inl (cI, 30, .inl (fun _ => 0))), (aT 5, .inl (cI, 4, .inl (fun _ => 0))), (aT 6, .inl (cL, 4, .inr (.inl (fun _ => 0)))), (q2, .inr (1, [.ref q1, .ref (aS 8), .ref (aS 9), .ref (aS 10), .int 0, .int 0])), (aS 8, .inl (cI, 30, .inl (fun _ => 0))), (aS 9, .inl (cI, 4, .inl (fun _ => 0))), (aS 10, .inl (cL, 4, .inr (.inl (fun _ => 0)))), (q3, .inr (0, [.ref (aLe 12), .long 0])), (aLe 12, .inl (cI, 8, .inl (fun _ => 0)))]) := hD
  refine va_putF (D := (dC, dI)) (ci := 3) (v := .ref q3) (ty := (.object "BalanceRounds$Least")) (C := R_B) (T := F_B) (N := 4) hx hb htb in_B tf_B tok_B n_B hown hK hP hD hS 0 rfl rfl 2 (by decide) (htb _ wd_119) (fun _ h9 => h9) rfl hin rfl (by decide +kernel) rfl rfl (Nat.le_of_ble_eq_true rfl) d_B_init_38 (fun H locs hP hD hS => ?_)
  have hP : va_P (dC, dI) vwCl ([(h0, .inr (3, [.ref q1, .ref q2, .ref q3, .int 0])), (q1, .inr (2, [.ref (aT 2), .ref (aT 3), .ref (aT 4), .ref (aT 5), .ref (aT 6), .int 0])), (aT 2, .inl (cL, 30, .inr (.inl (fun _ => 0)))), (aT 3, .inl (cI, 30, .inl (fun _ => 0))), (aT 4, .inl (cI, 30, .inl (fun _ => 0))), (aT 5, .inl (cI, 4, .inl (fun _ => 0))), (aT 6, .inl (cL, 4, .inr (.inl (fun _ => 0)))), (q2, .inr (1, [.ref q1, .ref (aS 8), .ref (aS 9), .ref (aS 10), .int 0, .int 0])), (aS 8, .inl (cI, 30, .inl (fun _ => 0))), (aS 9, .inl (cI, 4, .inl (fun _ => 0))), (aS 10, .inl (cL, 4, .inr (.inl (fun _ => 0)))), (q3, .inr (0, [.ref (aLe 12), .long 0])), (aLe 12, .inl (cI, 8, .inl (fun _ => 0)))]) H := hP
  have hD : va_D A ([(h0, .inr (3, [.ref q1, .ref q2, .ref q3, .int 0])), (q1, .inr (2, [.ref (aT 2), .ref (aT 3), .ref (aT 4), .ref (aT 5), .ref (aT 6), .int 0])), (aT 2, .inl (cL, 30, .inr (.inl (fun _ => 0)))), (aT 3, .inl (cI, 30, .inl (fun _ => 0))), (aT 4, .inl (cI, 30, .inl (fun _ => 0))), (aT 5, .inl (cI, 4, .inl (fun _ => 0))), (aT 6, .inl (cL, 4, .inr (.inl (fun _ => 0)))), (q2, .inr (1, [.ref q1, .ref (aS 8), .ref (aS 9), .ref (aS 10), .int 0, .int 0])), (aS 8, .inl (cI, 30, .inl (fun _ => 0))), (aS 9, .inl (cI, 4, .inl (fun _ => 0))), (aS 10, .inl (cL, 4, .inr (.inl (fun _ => 0)))), (q3, .inr (0, [.ref (aLe 12), .long 0])), (aLe 12, .inl (cI, 8, .inl (fun _ => 0)))]) := hD
  refine lv_aload_n hx hb d_B_init_41 rfl (lv_at hl 0 rfl) ?_
  refine lv_iconst (v := 0) hx hb d_B_init_42 (by decide) ?_
  refine va_put (D := (dC, dI)) (ci := 3) (v := .int 0) (ty := .boolean) (C := R_B) (T := F_B) (N := 4) hx hb htb in_B tf_B tok_B n_B hown hK hP hD hS 0 rfl rfl 3 (by decide) (htb _ wd_120) (fun _ h9 => h9) rfl (by decide +kernel) rfl rfl (Nat.le_of_ble_eq_true rfl) d_B_init_43 (fun H locs hP hD hS => ?_)
  have hP : va_P (dC, dI) vwCl ([(h0, .inr (3, [.ref q1, .ref q2, .ref q3, .int 0])), (q1, .inr (2, [.ref (aT 2), .ref (aT 3), .ref (aT 4), .ref (aT 5), .ref (aT 6), .int 0])), (aT 2, .inl (cL, 30, .inr (.inl (fun _ => 0)))), (aT 3, .inl (cI, 30, .inl (fun _ => 0))), (aT 4, .inl (cI, 30, .inl (fun _ => 0))), (aT 5, .inl (cI, 4, .inl (fun _ => 0))), (aT 6, .inl (cL, 4, .inr (.inl (fun _ => 0)))), (q2, .inr (1, [.ref q1, .ref (aS 8), .ref (aS 9), .ref (aS 10), .int 0, .int 0])), (aS 8, .inl (cI, 30, .inl (fun _ => 0))), (aS 9, .inl (cI, 4, .inl (fun _ => 0))), (aS 10, .inl (cL, 4, .inr (.inl (fun _ => 0)))), (q3, .inr (0, [.ref (aLe 12), .long 0])), (aLe 12, .inl (cI, 8, .inl (fun _ => 0)))]) H := hP
  have hD : va_D A ([(h0, .inr (3, [.ref q1, .ref q2, .ref q3, .int 0])), (q1, .inr (2, [.ref (aT 2), .ref (aT 3), .ref (aT 4), .ref (aT 5), .ref (aT 6), .int 0])), (aT 2, .inl (cL, 30, .inr (.inl (fun _ => 0)))), (aT 3, .inl (cI, 30, .inl (fun _ => 0))), (aT 4, .inl (cI, 30, .inl (fun _ => 0))), (aT 5, .inl (cI, 4, .inl (fun _ => 0))), (aT 6, .inl (cL, 4, .inr (.inl (fun _ => 0)))), (q2, .inr (1, [.ref q1, .ref (aS 8), .ref (aS 9), .ref (aS 10), .int 0, .int 0])), (aS 8, .inl (cI, 30, .inl (fun _ => 0))), (aS 9, .inl (cI, 4, .inl (fun _ => 0))), (aS 10, .inl (cL, 4, .inr (.inl (fun _ => 0)))), (q3, .inr (0, [.ref (aLe 12), .long 0])), (aLe 12, .inl (cI, 8, .inl (fun _ => 0)))]) := hD
  have hP := hP.sub (ws' := [(h0, .inr (3, [.ref q1, .ref q2, .ref q3, .int 0])), (q1, .inr (2, [.ref (aT 2), .ref (aT 3), .ref (aT 4), .ref (aT 5), .ref (aT 6), .int 0])), (aT 2, .inl (cL, 30, .inr (.inl (fun _ => 0)))), (aT 3, .inl (cI, 30, .inl (fun _ => 0))), (aT 4, .inl (cI, 30, .inl (fun _ => 0))), (aT 5, .inl (cI, 4, .inl (fun _ => 0))), (aT 6, .inl (cL, 4, .inr (.inl (fun _ => 0)))), (q2, .inr (1, [.ref q1, .ref (aS 8), .ref (aS 9), .ref (aS 10), .int 0, .int 0])), (aS 8, .inl (cI, 30, .inl (fun _ => 0))), (aS 9, .inl (cI, 4, .inl (fun _ => 0))), (aS 10, .inl (cL, 4, .inr (.inl (fun _ => 0)))), (q3, .inr (0, [.ref (aLe 12), .long 0])), (aLe 12, .inl (cI, 8, .inl (fun _ => 0)))]) [0, 1, 2, 3, 4, 5, 6, 7, 8, 9, 10, 11, 12] rfl
  have hD := hD.sub (ws' := [(h0, .inr (3, [.ref q1, .ref q2, .ref q3, .int 0])), (q1, .inr (2, [.ref (aT 2), .ref (aT 3), .ref (aT 4), .ref (aT 5), .ref (aT 6), .int 0])), (aT 2, .inl (cL, 30, .inr (.inl (fun _ => 0)))), (aT 3, .inl (cI, 30, .inl (fun _ => 0))), (aT 4, .inl (cI, 30, .inl (fun _ => 0))), (aT 5, .inl (cI, 4, .inl (fun _ => 0))), (aT 6, .inl (cL, 4, .inr (.inl (fun _ => 0)))), (q2, .inr (1, [.ref q1, .ref (aS 8), .ref (aS 9), .ref (aS 10), .int 0, .int 0])), (aS 8, .inl (cI, 30, .inl (fun _ => 0))), (aS 9, .inl (cI, 4, .inl (fun _ => 0))), (aS 10, .inl (cL, 4, .inr (.inl (fun _ => 0)))), (q3, .inr (0, [.ref (aLe 12), .long 0])), (aLe 12, .inl (cI, 8, .inl (fun _ => 0)))]) [0, 1, 2, 3, 4, 5, 6, 7, 8, 9, 10, 11, 12] (by decide) rfl
  exact W.vret hx hb hr (fun t9 ht9 hW => ⟨⟨(fun k9 => if k9 = 1 then q1 else if k9 = 2 then aT 2 else if k9 = 3 then aT 3 else if k9 = 4 then aT 4 else if k9 = 5 then aT 5 else if k9 = 6 then aT 6 else if k9 = 7 then q2 else if k9 = 8 then aS 8 else if k9 = 9 then aS 9 else if k9 = 10 then aS 10 else if k9 = 11 then q3 else if k9 = 12 then aLe 12 else 0), rfl, trivial, by rw [ht9]; exact hP, va_K.moved hW.alike hK, hD⟩, hS.F ht9⟩) hS.2.2 d_B_init_46
