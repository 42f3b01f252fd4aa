theorem d_B_together_0 : decode b_B_together 0 = .ok (.iload_n 1, 1) := by decide +kernel
theorem d_B_together_1 : decode b_B_together 1 = .ok (.invokestatic 38, 3) := by decide +kernel
theorem d_B_together_4 : decode b_B_together 4 = .ok (.ifCond .ne 13, 3) := by decide +kernel
theorem d_B_together_7 : decode b_B_together 7 = .ok (.new 99, 3) := by decide +kernel
theorem d_B_together_10 : decode b_B_together 10 = .ok (.dup, 1) := by decide +kernel
theorem d_B_together_11 : decode b_B_together 11 = .ok (.ldc 101, 2) := by decide +kernel
theorem d_B_together_13 : decode b_B_together 13 = .ok (.invokespecial 103, 3) := by decide +kernel
theorem d_B_together_16 : decode b_B_together 16 = .ok (.athrow, 1) := by decide +kernel
theorem d_B_together_17 : decode b_B_together 17 = .ok (.aload_n 0, 1) := by decide +kernel
theorem d_B_together_18 : decode b_B_together 18 = .ok (.getfield 32, 3) := by decide +kernel
theorem d_B_together_21 : decode b_B_together 21 = .ok (.ifCond .ne 13, 3) := by decide +kernel
theorem d_B_together_24 : decode b_B_together 24 = .ok (.new 106, 3) := by decide +kernel
theorem d_B_together_27 : decode b_B_together 27 = .ok (.dup, 1) := by decide +kernel
theorem d_B_together_28 : decode b_B_together 28 = .ok (.ldc 108, 2) := by decide +kernel
theorem d_B_together_30 : decode b_B_together 30 = .ok (.invokespecial 110, 3) := by decide +kernel
theorem d_B_together_33 : decode b_B_together 33 = .ok (.athrow, 1) := by decide +kernel
theorem d_B_together_34 : decode b_B_together 34 = .ok (.aload_n 0, 1) := by decide +kernel
theorem d_B_together_35 : decode b_B_together 35 = .ok (.getfield 21, 3) := by decide +kernel
theorem d_B_together_38 : decode b_B_together 38 = .ok (.iload_n 1, 1) := by decide +kernel
theorem d_B_together_39 : decode b_B_together 39 = .ok (.invokevirtual 111, 3) := by decide +kernel
theorem d_B_together_42 : decode b_B_together 42 = .ok (.ireturn, 1) := by decide +kernel

/-- a throw's end -/
def bz_TQ (below : List Frame) (s : State) (E : String) : State → Prop := fun t => ∃ o, t.status = .running ∧ Ended t below o ∧ bz_TE E s o t
/-- out of B's method: new, dup, ldc, the constructor, athrow -/
theorem bz_throw {p : Program} {l : Launch} {e : Env} {R : Room} {s : State} {m : MethodId} {args : Array Value} {below : List Frame} {meth : Method} {c : Code} {cc : ByteArray} {pc nL idx ic is : Nat} {ls : Array Slot} {E tx : String}
    (hx : p.tables.exec = Jvm.exec) (hb : c.code = cc) (hlt : l.stackTraces = false) (hown : s.vm.findClass R_B = some m.cls) (hth : bz_th s) (hoa : ((bz_oa E ic).all fun w => decide (w ∈ bz_os) || (decide (w ∈ lw_tbl) && bz_wk w)) = true) (hE : Bundle.fit E = true)
    (hcl : (Cond.classLink R_B idx E).before args s = true) (hins : (Cond.instantiable E 6).before args s = true) (hini : (Cond.initialized E).before args s = true) (hst : ∃ a : Nat, vk_R R_B is tx a s) (hne : c.exceptionTable.toList = []) (hlocks : meth.locks = false) (hml : c.maxLocals = nL) (hls : ls.size = nL)
    (hR : 1 ≤ R.cells ∧ 6 ≤ R.slots ∧ 6 ≤ R.frames ∧ 82 ≤ R.locals) (d0 : decode cc pc = .ok (.new idx, 3)) (d3 : decode cc (pc + 3) = .ok (.dup, 1)) (d4 : decode cc (pc + 3 + 1) = .ok (.ldc is, 2)) (d6 : decode cc (pc + 3 + 1 + 2) = .ok (.invokespecial ic, 3)) (d9 : decode cc (pc + 3 + 1 + 2 + 3) = .ok (.athrow, 1)) :
    W p l e R s m args below meth c s.heap [] 0 0 (bz_TQ below s E) (F0 m pc ls []) := by
  intro T hT X
  obtain ⟨vm', cC, kC, h1, h2, h3, h4, X', st⟩ := X.newCold hx hown hcl hins hini (g := F0 m pc ls []) rfl (by rw [hb]; exact d0) (by have := hR.1; omega) (by have := hR.2.1; omega)
  obtain ⟨qs, hqs⟩ := hst
  have kk : W p l e R s m args below meth c ((T.setVm vm').pushCell { cls := cC, slots := kC.instanceTypes.map defaultValue, vm := .none }).heap [] (0 + 1) (0 + 6) (bz_TQ below s E) (F0 m (pc + 3) ls [.ref T.heap.size]) := by
    refine lv_dup hx hb d3 rfl ?_
    refine va_ldcS hx hb hown hqs d4 ?_
    intro T2 hT2 X2
    have htr : e.platform.stackTraces = false := by rw [X2.admits.platform]; exact hlt
    have hcell : T2.heap[T.heap.size]? = some (freshCell cC kC) := by
      rw [hT2]
      show (T.heap.push _)[T.heap.size]? = _
      simp
    obtain ⟨U, s1, s2, s3, s4, s5, ce, s6, s7⟩ := X2.ctorThrowS hx htr hown (cls := E) (names := bz_nm) (ic := ic) hE (by decide) (bz_th_oa hth hoa args) (fun x h => nomatch h) (a := T.heap.size) h1 h2 hcell (by rw [hT]; exact Nat.le_refl _) (msg := .ref qs) rfl
      (g := F0 m (pc + 3 + 1 + 2) ls [.ref qs, .ref T.heap.size, .ref T.heap.size]) rfl (by rw [hml]; exact hls) rfl rfl (rest := []) rfl (by rw [hb]; exact d6) (by rw [hb]; exact d9) (by rw [hne]; exact fun x h => nomatch h) (by have := hR.2.2.1; show 2 + 3 < R.frames; omega) (by have := hR.2.2.2; show 2 * 0 + 1 + (13 * (2 + 1) + 42) ≤ R.locals; omega) hlocks
    exact ⟨U, s1, .threw T.heap.size, s2, s3, T.heap.size, ce, rfl, s4, s5, s6, s7.vm, s7.cls⟩
  obtain ⟨t, a1, b1⟩ := kk _ rfl X'
  exact ⟨t, st t a1, b1⟩
theorem bz_fit : Bundle.fit bz_IA = true ∧ Bundle.fit bz_IS = true := by decide
theorem bz_wIA : (Cond.classLink R_B 99 bz_IA ∈ lw_tbl ∧ Cond.instantiable bz_IA 6 ∈ lw_tbl ∧ Cond.initialized bz_IA ∈ lw_tbl) ∧ Cond.classLink R_B 106 bz_IS ∈ lw_tbl ∧ Cond.instantiable bz_IS 6 ∈ lw_tbl ∧ Cond.initialized bz_IS ∈ lw_tbl := by
  refine ⟨⟨of_decide_eq_true ?_, of_decide_eq_true ?_, of_decide_eq_true ?_⟩, of_decide_eq_true ?_, of_decide_eq_true ?_, of_decide_eq_true ?_⟩ <;> decide +kernel
theorem bz_wSt : (Cond.stringRef R_B 101 "a round is 0 to 3" ∈ lw_tbl ∧ Cond.stringRef R_B 108 "it is not solved" ∈ lw_tbl) ∧ Cond.exactly (.string R_B 101) "java/lang/String" ∈ flatC (Jvm.Cond.and given_1 narrow_1) ∧ Cond.exactly (.string R_B 108) "java/lang/String" ∈ flatC (Jvm.Cond.and given_1 narrow_1) := by
  refine ⟨⟨of_decide_eq_true ?_, of_decide_eq_true ?_⟩, of_decide_eq_true ?_, of_decide_eq_true ?_⟩ <;> decide +kernel

set_option maxHeartbeats 4000000 in
set_option maxRecDepth 100000 in
/-- together -/
theorem c_B_together (l : Launch) (dC : Nat → ClassId) (dI : Nat → Nat → Nat) (ad : Nat → Nat) (cI cL : ClassId) (t : bz_T) (f : Nat → Nat) (L : (Nat → Int32) × Int64) (ht : bz_ok t) (r : Nat) (hr4 : r < 4) : Met l y_B_together w_B_together ({ frames := 2, cells := 0, slots := 0, locals := 47 }) (bz_Pr (dC, dI) [(cI, .int), (cL, .long)] (bz_wB ad cI cL (bz_tR t) (bz_sR t (bz_fu f)) L 1) [.ref (ad 0), .int (nI r)]) (vp_Si (fun r9 => r9 = nI (bz_b (bz_ht t (bz_fu f) r)))) 0 0 (fun _ => False) := by
  refine Met.ofW (cc := b_B_together) (maxL := 2) (ret := (some .boolean)) (by decide) rfl ?_
  intro p e s m args below meth c s₁ B hml hv
  obtain ⟨rfl, hP, hK, hN⟩ := hv
  have hx := B.exec
  have hb := B.bytes
  have hr := B.returns
  have hts := atoms_spec (ws := w_B_together) B.pre
  have hown : s.vm.findClass R_B = some m.cls := findClass_of_methodNamed B.named
  have htb : ∀ w ∈ bz_tb, w.before _ s = true := fun w h => hts w (List.mem_cons_of_mem _ h)
  have hlocks := B.notSynchronized
  have hl := lv_entry ([.ref (ad 0), .int (nI r)]) (n := 2) (Nat.le_of_ble_eq_true rfl)
  rw [lg_entry_eq]
  generalize (lg_sl ([.ref (ad 0), .int (nI r)]) ++ List.replicate (2 - (lg_sl ([.ref (ad 0), .int (nI r)])).length) Slot.unset).toArray = ls at hl ⊢
  have hl : lv_has ls 2 [(0, .ref (ad 0)), (1, .int (nI r))] := hl
  have hir : bz_ir (nI r) = true := decide_eq_true ⟨nI_pos' (by omega), (nI_ltI (b := 4) (by omega) (by omega)).mpr hr4⟩
  refine lv_iload_n hx hb d_B_together_0 rfl (lv_at hl 1 rfl) ?_
  refine bz_si (va_runS (As := [.int (nI r)]) (rest := []) ⟨hx, hb, hml, hown, htb⟩ (c_B_isRound l dC dI ad cI cL t (bz_sR t (bz_fu f)) L 1 _) (va_cwS 1 htb (bz_gS wd_137 wd_135 wd_136 wd_19) rfl rfl rfl (by decide +kernel) ⟨Nat.le_of_ble_eq_true rfl, Nat.le_of_ble_eq_true rfl⟩) (bz_rs hN hK hP) rfl rfl hl.1 rfl (lv_room (Nat.le_of_ble_eq_true rfl)) d_B_together_1 ⟨Nat.zero_le _, Nat.zero_le _⟩) ?_
  refine lv_if_ne (tgt := 17) hx hb d_B_together_4 (by decide) (fun c_4 => ?_) (fun c_4 => ?_)
  · skip
    refine lv_aload_n hx hb d_B_together_17 rfl (lv_at hl 0 rfl) ?_
    refine va_get (D := (dC, dI)) (ci := 3) (v := .int 1) (C := R_B) (T := F_B) (N := 4) hx hb htb in_B hown hK hP 0 rfl rfl 3 (by decide) (htb _ wd_120) (fun _ h9 => h9) rfl d_B_together_18 ?_
    refine lv_if_ne (tgt := 34) hx hb d_B_together_21 (by decide) (fun c_21 => ?_) (fun c_21 => ?_)
    · skip
      refine lv_aload_n hx hb d_B_together_34 rfl (lv_at hl 0 rfl) ?_
      refine va_get (D := (dC, dI)) (ci := 3) (v := .ref (ad 7)) (C := R_B) (T := F_B) (N := 4) hx hb htb in_B hown hK hP 0 rfl rfl 1 (by decide) (htb _ wd_118) (fun _ h9 => h9) rfl d_B_together_35 ?_
      refine lv_iload_n hx hb d_B_together_38 rfl (lv_at hl 1 rfl) ?_
      refine bz_si (va_runV (As := [.int (nI r)]) (rest := []) ⟨hx, hb, hml, hown, htb⟩ (c_S_hangsTogether l dC dI ad cI cL t (bz_fu f) L 1 ht _ (by omega)) (cwV 1 htb (bz_gV wd_230 wd_404 wd_228 wd_229 wd_21) rfl rfl rfl (by decide +kernel) ⟨Nat.le_of_ble_eq_true rfl, Nat.le_of_ble_eq_true rfl⟩) (bz_rv hN hK hP (q0 := 7) rfl rfl) rfl rfl hl.1 rfl (lv_room (Nat.le_of_ble_eq_true rfl)) d_B_together_39 ⟨Nat.zero_le _, Nat.zero_le _⟩) ?_
      exact W.zret (v := nI (bz_b (bz_ht t (bz_fu f) r))) hx hb hr (bz_nar _) (fun t9 ht9 hW => ⟨nI (bz_b (bz_ht t (bz_fu f) r)), rfl, rfl, ht9⟩) (fun _ h => nomatch h) d_B_together_42
    · skip
      exact absurd c_21 (by decide)
  · skip
    exact absurd (bz_i_eq c_4) (by rw [hir]; decide)

set_option maxHeartbeats 4000000 in
set_option maxRecDepth 100000 in
/-- together, no such round -/
theorem c_B_together_o (l : Launch) (hlt : l.stackTraces = false) (dC : Nat → ClassId) (dI : Nat → Nat → Nat) (ad : Nat → Nat) (cI cL : ClassId) (t : bz_T) (R : bz_RS) (L : (Nat → Int32) × Int64) (v : Int32) (ht : bz_ok t) (q : Int32) (hq : bz_ir q = false) : bz_Mt l y_B_together w_B_together ({ frames := 6, cells := 1, slots := 6, locals := 90 }) (fun a9 U9 => bz_Pr (dC, dI) [(cI, .int), (cL, .long)] (bz_wB ad cI cL (bz_tR t) R L v) [.ref (ad 0), .int q] a9 U9 ∧ bz_th U9) bz_IA := by
  refine MetFree.of_bodyS (code := b_B_together) (maxLocals := 2) (ret := (some .boolean)) (by decide) ?_ ?_
  · intro args s m h hn
    obtain ⟨meth, c, h1, h2, h3, h4, h5, h6, -, -⟩ := Cond.code_spec hn (atoms_spec (ws := w_B_together) h _ List.mem_cons_self)
    exact ⟨meth, c, h1, h2, h3, h4, h5, h6⟩
  intro p e s m args below meth c s₁ B hml hv _
  obtain ⟨⟨rfl, hP, hK, hN⟩, hth⟩ := hv
  have hx := B.exec
  have hb := B.bytes
  have hts := atoms_spec (ws := w_B_together) B.pre
  have hown : s.vm.findClass R_B = some m.cls := findClass_of_methodNamed B.named
  have htb : ∀ w ∈ bz_tb, w.before _ s = true := fun w h => hts w (List.mem_cons_of_mem _ h)
  have hlocks := B.notSynchronized
  suffices hw : W p l e (headSpec w_B_together ({ frames := 6, cells := 1, slots := 6, locals := 90 })).room s m ([.ref (ad 0), .int q]).toArray below meth c s.heap [] 0 0 (bz_TQ below s bz_IA) (entryFrame m ([.ref (ad 0), .int q]).toArray 2) by
    obtain ⟨t, a1, o, b1, b2, b3⟩ := hw s₁ (by rw [B.state]; rfl) (Stand.of_body B)
    exact ⟨t, o, a1, b1, b2, b3⟩
  have hne : c.exceptionTable.toList = [] := by
    obtain ⟨meth9, c9, h1, h2, -, -, -, -, h7, -⟩ := Cond.code_spec B.named (hts _ List.mem_cons_self)
    cases Option.some.inj (h1.symm.trans B.method)
    cases Option.some.inj (h2.symm.trans (Stand.of_body B).code)
    have h0 : c.exceptionTable.size = 0 := by simpa [Array.isEmpty] using h7
    exact List.eq_nil_of_length_eq_zero (by simpa using h0)
  have hl := lv_entry ([.ref (ad 0), .int q]) (n := 2) (Nat.le_of_ble_eq_true rfl)
  rw [lg_entry_eq]
  generalize (lg_sl ([.ref (ad 0), .int q]) ++ List.replicate (2 - (lg_sl ([.ref (ad 0), .int q])).length) Slot.unset).toArray = ls at hl ⊢
  have hl : lv_has ls 2 [(0, .ref (ad 0)), (1, .int q)] := hl
  refine lv_iload_n hx hb d_B_together_0 rfl (lv_at hl 1 rfl) ?_
  refine bz_si (va_runS (As := [.int q]) (rest := []) ⟨hx, hb, hml, hown, htb⟩ (c_B_isRound l dC dI ad cI cL t R L v _) (va_cwS 1 htb (bz_gS wd_137 wd_135 wd_136 wd_19) rfl rfl rfl (by decide +kernel) ⟨Nat.le_of_ble_eq_true rfl, Nat.le_of_ble_eq_true rfl⟩) (bz_rs hN hK hP) rfl rfl hl.1 rfl (lv_room (Nat.le_of_ble_eq_true rfl)) d_B_together_1 ⟨Nat.zero_le _, Nat.zero_le _⟩) ?_
  refine lv_if_ne (tgt := 17) hx hb d_B_together_4 (by decide) (fun c_4 => ?_) (fun c_4 => ?_)
  · skip
    exact absurd (bz_i_ne c_4) (by rw [hq]; decide)
  · skip
    exact bz_throw (E := bz_IA) (tx := "a round is 0 to 3") (is := 101) (ic := 103) hx hb hlt hown hth bz_oa_IA bz_fit.1 (bz_th_w hth (w := .classLink R_B 99 bz_IA) bz_wIA.1.1 (by decide) _) (bz_th_w hth (w := .instantiable bz_IA 6) bz_wIA.1.2.1 (by decide) _) (bz_th_w hth (w := .initialized bz_IA) bz_wIA.1.2.2 (by decide) _) (bz_th_st hth bz_wSt.1.1 bz_wSt.2.1) hne hlocks hml hl.1 ⟨Nat.le_of_ble_eq_true rfl, Nat.le_of_ble_eq_true rfl, Nat.le_of_ble_eq_true rfl, Nat.le_of_ble_eq_true rfl⟩ d_B_together_7 d_B_together_10 d_B_together_11 d_B_together_13 d_B_together_16

set_option maxHeartbeats 4000000 in
set_option maxRecDepth 100000 in
/-- together, not solved -/
theorem c_B_together_s (l : Launch) (hlt : l.stackTraces = false) (dC : Nat → ClassId) (dI : Nat → Nat → Nat) (ad : Nat → Nat) (cI cL : ClassId) (t : bz_T) (R : bz_RS) (L : (Nat → Int32) × Int64) (ht : bz_ok t) (q : Int32) (hq : bz_ir q = true) : bz_Mt l y_B_together w_B_together ({ frames := 6, cells := 1, slots := 6, locals := 90 }) (fun a9 U9 => bz_Pr (dC, dI) [(cI, .int), (cL, .long)] (bz_wB ad cI cL (bz_tR t) R L 0) [.ref (ad 0), .int q] a9 U9 ∧ bz_th U9) bz_IS := by
  refine MetFree.of_bodyS (code := b_B_together) (maxLocals := 2) (ret := (some .boolean)) (by decide) ?_ ?_
  · intro args s m h hn
    obtain ⟨meth, c, h1, h2, h3, h4, h5, h6, -, -⟩ := Cond.code_spec hn (atoms_spec (ws := w_B_together) h _ List.mem_cons_self)
    exact ⟨meth, c, h1, h2, h3, h4, h5, h6⟩
  intro p e s m args below meth c s₁ B hml hv _
  obtain ⟨⟨rfl, hP, hK, hN⟩, hth⟩ := hv
  have hx := B.exec
  have hb := B.bytes
  have hts := atoms_spec (ws := w_B_together) B.pre
  have hown : s.vm.findClass R_B = some m.cls := findClass_of_methodNamed B.named
  have htb : ∀ w ∈ bz_tb, w.before _ s = true := fun w h => hts w (List.mem_cons_of_mem _ h)
  have hlocks := B.notSynchronized
  suffices hw : W p l e (headSpec w_B_together ({ frames := 6, cells := 1, slots := 6, locals := 90 })).room s m ([.ref (ad 0), .int q]).toArray below meth c s.heap [] 0 0 (bz_TQ below s bz_IS) (entryFrame m ([.ref (ad 0), .int q]).toArray 2) by
    obtain ⟨t, a1, o, b1, b2, b3⟩ := hw s₁ (by rw [B.state]; rfl) (Stand.of_body B)
    exact ⟨t, o, a1, b1, b2, b3⟩
  have hne : c.exceptionTable.toList = [] := by
    obtain ⟨meth9, c9, h1, h2, -, -, -, -, h7, -⟩ := Cond.code_spec B.named (hts _ List.mem_cons_self)
    cases Option.some.inj (h1.symm.trans B.method)
    cases Option.some.inj (h2.symm.trans (Stand.of_body B).code)
    have h0 : c.exceptionTable.size = 0 := by simpa [Array.isEmpty] using h7
    exact List.eq_nil_of_length_eq_zero (by simpa using h0)
  have hl := lv_entry ([.ref (ad 0), .int q]) (n := 2) (Nat.le_of_ble_eq_true rfl)
  rw [lg_entry_eq]
  generalize (lg_sl ([.ref (ad 0), .int q]) ++ List.replicate (2 - (lg_sl ([.ref (ad 0), .int q])).length) Slot.unset).toArray = ls at hl ⊢
  have hl : lv_has ls 2 [(0, .ref (ad 0)), (1, .int q)] := hl
  refine lv_iload_n hx hb d_B_together_0 rfl (lv_at hl 1 rfl) ?_
  refine bz_si (va_runS (As := [.int q]) (rest := []) ⟨hx, hb, hml, hown, htb⟩ (c_B_isRound l dC dI ad cI cL t R L 0 _) (va_cwS 1 htb (bz_gS wd_137 wd_135 wd_136 wd_19) rfl rfl rfl (by decide +kernel) ⟨Nat.le_of_ble_eq_true rfl, Nat.le_of_ble_eq_true rfl⟩) (bz_rs hN hK hP) rfl rfl hl.1 rfl (lv_room (Nat.le_of_ble_eq_true rfl)) d_B_together_1 ⟨Nat.zero_le _, Nat.zero_le _⟩) ?_
  refine lv_if_ne (tgt := 17) hx hb d_B_together_4 (by decide) (fun c_4 => ?_) (fun c_4 => ?_)
  · skip
    refine lv_aload_n hx hb d_B_together_17 rfl (lv_at hl 0 rfl) ?_
    refine va_get (D := (dC, dI)) (ci := 3) (v := .int 0) (C := R_B) (T := F_B) (N := 4) hx hb htb in_B hown hK hP 0 rfl rfl 3 (by decide) (htb _ wd_120) (fun _ h9 => h9) rfl d_B_together_18 ?_
    refine lv_if_ne (tgt := 34) hx hb d_B_together_21 (by decide) (fun c_21 => ?_) (fun c_21 => ?_)
    · skip
      exact absurd (by decide) c_21
    · skip
      exact bz_throw (E := bz_IS) (tx := "it is not solved") (is := 108) (ic := 110) hx hb hlt hown hth bz_oa_IS bz_fit.2 (bz_th_w hth (w := .classLink R_B 106 bz_IS) bz_wIA.2.1 (by decide) _) (bz_th_w hth (w := .instantiable bz_IS 6) bz_wIA.2.2.1 (by decide) _) (bz_th_w hth (w := .initialized bz_IS) bz_wIA.2.2.2 (by decide) _) (bz_th_st hth bz_wSt.1.2 bz_wSt.2.2) hne hlocks hml hl.1 ⟨Nat.le_of_ble_eq_true rfl, Nat.le_of_ble_eq_true rfl, Nat.le_of_ble_eq_true rfl, Nat.le_of_ble_eq_true rfl⟩ d_B_together_24 d_B_together_27 d_B_together_28 d_B_together_30 d_B_together_33
  · skip
    exact absurd (bz_i_eq c_4) (by rw [hq]; decide)
