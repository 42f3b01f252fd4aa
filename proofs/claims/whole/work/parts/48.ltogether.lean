theorem d_Lt_0 : decode method_3_code 0 = .ok (.aload_n 2, 1) := by decide +kernel
theorem d_Lt_1 : decode method_3_code 1 = .ok (.iconst 0, 1) := by decide +kernel
theorem d_Lt_2 : decode method_3_code 2 = .ok (.aload_n 0, 1) := by decide +kernel
theorem d_Lt_3 : decode method_3_code 3 = .ok (.iload_n 1, 1) := by decide +kernel
theorem d_Lt_4 : decode method_3_code 4 = .ok (.invokevirtual 7, 3) := by decide +kernel
theorem d_Lt_7 : decode method_3_code 7 = .ok (.ifCond .eq 7, 3) := by decide +kernel
theorem d_Lt_10 : decode method_3_code 10 = .ok (.lconst 1, 1) := by decide +kernel
theorem d_Lt_11 : decode method_3_code 11 = .ok (.goto 4, 3) := by decide +kernel
theorem d_Lt_14 : decode method_3_code 14 = .ok (.lconst 0, 1) := by decide +kernel
theorem d_Lt_15 : decode method_3_code 15 = .ok (.lastore, 1) := by decide +kernel
theorem d_Lt_16 : decode method_3_code 16 = .ok (.goto 9, 3) := by decide +kernel
theorem d_Lt_19 : decode method_3_code 19 = .ok (.astore_n 3, 1) := by decide +kernel
theorem d_Lt_20 : decode method_3_code 20 = .ok (.iconst 1, 1) := by decide +kernel
theorem d_Lt_21 : decode method_3_code 21 = .ok (.ireturn, 1) := by decide +kernel
theorem d_Lt_22 : decode method_3_code 22 = .ok (.astore_n 3, 1) := by decide +kernel
theorem d_Lt_23 : decode method_3_code 23 = .ok (.iconst 2, 1) := by decide +kernel
theorem d_Lt_24 : decode method_3_code 24 = .ok (.ireturn, 1) := by decide +kernel
theorem d_Lt_25 : decode method_3_code 25 = .ok (.iconst 0, 1) := by decide +kernel
theorem d_Lt_26 : decode method_3_code 26 = .ok (.ireturn, 1) := by decide +kernel
def y_Lt : MethodName := ⟨R_L, "together", "(LBalanceRounds;I[J)I"⟩
def bz_hh : List (Nat × Nat × Nat × Nat) := [(0, 16, 19, 13), (0, 16, 22, 15)]
theorem bz_cLt : Cond.codeWith y_Lt method_3_code 4 (some .int) bz_hh ∈ bz_tb := List.mem_filter.mpr ⟨of_decide_eq_true (by decide +kernel), by decide +kernel⟩
def w_Lt : List Cond := .codeWith y_Lt method_3_code 4 (some .int) bz_hh :: bz_tb
theorem bz_wLt {args : Array Value} {s : State} (htb : ∀ w ∈ bz_tb, w.before args s = true) : ∀ w ∈ w_Lt, ∀ (a' : Array Value) (U : State), s.WarmedH U.vm → w.before a' U = true := by
  intro w hw a' U hW
  have hm : w ∈ bz_tb := (List.mem_cons.mp hw).elim (fun h => h ▸ bz_cLt) id
  exact word_at hW (good_of_word (List.mem_filter.mp hm).2) (htb w hm)
def bz_r1 : ExceptionTableEntry := ⟨0, 16, 19, 13⟩
def bz_r2 : ExceptionTableEntry := ⟨0, 16, 22, 15⟩
theorem bz_tab {L : List ExceptionTableEntry} (h : L.map (fun z => (z.startPc, z.endPc, z.handlerPc, z.catchType)) = bz_hh) : L = [bz_r1, bz_r2] := by
  match L, h with
  | [⟨a1, a2, a3, a4⟩, ⟨b1, b2, b3, b4⟩], h =>
    simp only [bz_hh, List.map_cons, List.map_nil, List.cons.injEq, Prod.mk.injEq, and_true] at h
    obtain ⟨⟨rfl, rfl, rfl, rfl⟩, rfl, rfl, rfl, rfl⟩ := h
    rfl
  | [], h => simp [bz_hh] at h
  | [_], h => simp [bz_hh] at h
  | _ :: _ :: _ :: _, h => simp [bz_hh] at h
theorem bz_wCa : (Cond.classLink R_L 13 bz_IA ∈ lw_tbl ∧ Cond.castable bz_IA bz_IA ∈ lw_tbl) ∧ Cond.classLink R_L 15 bz_IS ∈ lw_tbl ∧ Cond.castable bz_IS bz_IS ∈ lw_tbl := by
  refine ⟨⟨of_decide_eq_true ?_, of_decide_eq_true ?_⟩, of_decide_eq_true ?_, of_decide_eq_true ?_⟩ <;> decide +kernel
theorem bz_wNc : Cond.not (.castable bz_IS bz_IA) ∈ flatC (Jvm.Cond.and given_1 narrow_1) := of_decide_eq_true (by decide +kernel)
theorem bz_rvT {s : State} {H : Heap} {D : va_G} {tys : List (ClassId × FieldType)} {ws : va_W} {b ci q0 N : Nat} {C : String} {T : u_T} {fs As : List Value} (hN : bz_N s) (hK : va_K D vwCl tys s) (hP : va_P D vwCl ws H) (hq : ws[q0]? = some (b, .inr (ci, fs))) (hc : vwCl[ci]? = some (C, T, N)) (hth : bz_th s) (hH : H = s.heap) :
    PreV s H C b (fun a9 U9 => bz_Pr D tys ws (.ref b :: As) a9 U9 ∧ bz_th U9) As :=
  ⟨fun a U g mk q => ⟨bz_Pr_bl a U g mk q.1, bz_th_bl g mk a q.2⟩, va_recv hK hP (ci := ci) (q0 := q0) hc hq, fun U hU hW => ⟨⟨rfl, by rw [hU]; exact hP, va_K.moved hW.alike hK, bz_N_warm hW hN⟩, bz_th_go hth hW (hU.trans hH)⟩⟩
theorem bz_pk {D : va_G} {ws : va_W} {H H1 : Heap} (hk : ∀ a : Nat, a < H.size → H1[a]? = H[a]?) (hP : va_P D vwCl ws H) (hl : ∀ (k : Nat) (q : Nat × va_E), ws[k]? = some q → q.1 < H.size) : va_P D vwCl ws H1 := hP.kept fun k q h => hk _ (hl k q h)

set_option maxHeartbeats 4000000 in
set_option maxRecDepth 100000 in
/-- together, no such round -/
theorem c_L_together_o (l : Launch) (hlt : l.stackTraces = false) (dC : Nat → ClassId) (dI : Nat → Nat → Nat) (sz : Nat) (ad : Nat → Nat) (cI cL : ClassId) (t : bz_T) (R : bz_RS) (L : (Nat → Int32) × Int64) (v : Int32) (ht : bz_ok t) (qo : Nat) (O : Nat → Int64) (q : Int32) (hq : bz_ir q = false) : Met l y_Lt w_Lt ({ frames := 7, cells := 1, slots := 6, locals := 112 }) (fun a9 U9 => bz_Pw (dC, dI) [(cI, .int), (cL, .long)] (bz_wB ad cI cL (bz_tR t) R L v ++ [(qo, .inl (cL, 1, .inr (.inl O)))]) sz [.ref (ad 0), .int q, .ref qo] a9 U9 ∧ bz_th U9) (bz_Qi (dC, dI) [(cI, .int), (cL, .long)] (va_A (bz_wB ad cI cL (bz_tR t) R L v ++ [(qo, .inl (cL, 1, .inr (.inl O)))]) sz) 1 (bz_wB ad cI cL (bz_tR t) R L v ++ [(qo, .inl (cL, 1, .inr (.inl O)))])) 1 6 (va_A (bz_wB ad cI cL (bz_tR t) R L v ++ [(qo, .inl (cL, 1, .inr (.inl O)))]) sz) := by
  refine va_MetW (cc := method_3_code) (maxL := 4) (ret := some .int) (hh := bz_hh) (by decide) rfl ?_
  intro p e s m args below meth c s₁ B hml hv
  obtain ⟨⟨rfl, hsz, hP, hK, hD0, hN⟩, hth⟩ := hv
  have hx := B.exec
  have hb := B.bytes
  have hr := B.returns
  have hts := atoms_spec (ws := w_Lt) B.pre
  have hown : s.vm.findClass R_L = some m.cls := findClass_of_methodNamed B.named
  have htb : ∀ w ∈ bz_tb, w.before _ s = true := fun w h => hts w (List.mem_cons_of_mem _ h)
  have hlocks := B.notSynchronized
  have htab : c.exceptionTable.toList = [bz_r1, bz_r2] := by
    obtain ⟨m9, meth9, c9, h0, h1, h2, -, -, h7, -⟩ := Cond.codeWith_spec (hts _ List.mem_cons_self)
    cases Option.some.inj (h0.symm.trans B.named)
    cases Option.some.inj (h1.symm.trans B.method)
    cases Option.some.inj (h2.symm.trans (Stand.of_body B).code)
    exact bz_tab h7
  subst hsz
  have hD := hD0.self (sz := s.heap.size)
  have hlt9 : ∀ (k : Nat) (q : Nat × va_E), (bz_wB ad cI cL (bz_tR t) R L v ++ [(qo, .inl (cL, 1, .inr (.inl O)))])[k]? = some q → q.1 < s.heap.size := fun k q h => by
    have h9 := hP k q h
    exact h9.lt
  generalize hAe : va_A (bz_wB ad cI cL (bz_tR t) R L v ++ [(qo, .inl (cL, 1, .inr (.inl O)))]) s.heap.size = A at hD ⊢
  have hA : ∀ q : Nat, s.heap.size ≤ q → A q := fun q h => by rw [← hAe]; exact Or.inr h
  have hS : va_S A s.heap s.heap [] := va_S.rf
  have hl := lv_entry ([.ref (ad 0), .int q, .ref qo]) (n := 4) (Nat.le_of_ble_eq_true rfl)
  rw [lg_entry_eq]
  generalize (lg_sl ([.ref (ad 0), .int q, .ref qo]) ++ List.replicate (4 - (lg_sl ([.ref (ad 0), .int q, .ref qo])).length) Slot.unset).toArray = ls at hl ⊢
  have hl : lv_has ls 4 [(0, .ref (ad 0)), (1, .int q), (2, .ref qo)] := hl
  refine lv_aload_n hx hb d_Lt_0 rfl (lv_at hl 2 rfl) ?_
  refine lv_iconst (v := 0) hx hb d_Lt_1 (by decide) ?_
  refine bz_ri (y := nI 0) (rfl) ?_
  refine lv_aload_n hx hb d_Lt_2 rfl (lv_at hl 0 rfl) ?_
  refine lv_iload_n hx hb d_Lt_3 rfl (lv_at hl 1 rfl) ?_
  refine bz_callT (C := R_B) (As := [.int q]) (rest := [.int (nI 0), .ref qo]) ⟨hx, hb, hml, hown, htb⟩ (c_B_together_o l hlt dC dI ad cI cL t R L v ht q hq) (cwV 1 htb (bz_gV wd_320 wd_317 wd_318 wd_319 wd_19) rfl rfl rfl (by decide +kernel) ⟨Nat.le_of_ble_eq_true rfl, Nat.le_of_ble_eq_true rfl⟩) (bz_rvT hN hK (hP.sub (ws' := bz_wB ad cI cL (bz_tR t) R L v) [0, 1, 2, 3, 4, 5, 6, 7, 8, 9, 10, 11, 12] rfl) (q0 := 0) rfl rfl hth rfl) rfl rfl hl.1 rfl (lv_room (Nat.le_of_ble_eq_true rfl)) d_Lt_4 ⟨Nat.le_of_ble_eq_true rfl, Nat.le_of_ble_eq_true rfl⟩ (fun q9 ce9 H hz9 hk9 ha9 hv9 hc9 => ?_)
  have hP := bz_pk hk9 hP hlt9
  have hS : va_S A s.heap H [] := ⟨hz9, fun q9 h9 _ => hk9 q9 h9, fun _ h9 => nomatch h9⟩
  refine bz_cat1 (own := R_L) (E := bz_IA) rfl hown htab (show covers bz_r1 4 = true by decide) (by decide) (bz_th_w hth (w := .classLink R_L 13 bz_IA) bz_wCa.1.1 (by decide) _) (bz_th_w hth (w := .castable bz_IA bz_IA) bz_wCa.1.2 (by decide) _) ha9 hv9 hc9 ?_
  refine W.widen (k := 1) (n := 6) (Nat.le_of_ble_eq_true rfl) (Nat.le_of_ble_eq_true rfl) ?_
  refine W.eq (g2 := F0 m 19 ls [.ref q9]) rfl ?_
  refine lv_astore_n (lv' := [(3, .ref q9), (0, .ref (ad 0)), (1, .int q), (2, .ref qo)]) hx hb d_Lt_19 rfl hl (by decide) rfl (fun ls hl => ?_)
  refine lv_iconst (v := 1) hx hb d_Lt_20 (by decide) ?_
  exact W.iret (v := 1) hx hb hr (fun t9 ht9 hW => ⟨⟨1, (), rfl, rfl, by rw [ht9]; exact hP, va_K.moved hW.alike hK, hD⟩, hS.F ht9⟩) hS.2.2 d_Lt_21

set_option maxHeartbeats 4000000 in
set_option maxRecDepth 100000 in
/-- together, not solved -/
theorem c_L_together_s (l : Launch) (hlt : l.stackTraces = false) (dC : Nat → ClassId) (dI : Nat → Nat → Nat) (sz : Nat) (ad : Nat → Nat) (cI cL : ClassId) (t : bz_T) (R : bz_RS) (L : (Nat → Int32) × Int64) (ht : bz_ok t) (qo : Nat) (O : Nat → Int64) (q : Int32) (hq : bz_ir q = true) : Met l y_Lt w_Lt ({ frames := 7, cells := 1, slots := 6, locals := 112 }) (fun a9 U9 => bz_Pw (dC, dI) [(cI, .int), (cL, .long)] (bz_wB ad cI cL (bz_tR t) R L 0 ++ [(qo, .inl (cL, 1, .inr (.inl O)))]) sz [.ref (ad 0), .int q, .ref qo] a9 U9 ∧ bz_th U9) (bz_Qi (dC, dI) [(cI, .int), (cL, .long)] (va_A (bz_wB ad cI cL (bz_tR t) R L 0 ++ [(qo, .inl (cL, 1, .inr (.inl O)))]) sz) 2 (bz_wB ad cI cL (bz_tR t) R L 0 ++ [(qo, .inl (cL, 1, .inr (.inl O)))])) 1 6 (va_A (bz_wB ad cI cL (bz_tR t) R L 0 ++ [(qo, .inl (cL, 1, .inr (.inl O)))]) sz) := by
  refine va_MetW (cc := method_3_code) (maxL := 4) (ret := some .int) (hh := bz_hh) (by decide) rfl ?_
  intro p e s m args below meth c s₁ B hml hv
  obtain ⟨⟨rfl, hsz, hP, hK, hD0, hN⟩, hth⟩ := hv
  have hx := B.exec
  have hb := B.bytes
  have hr := B.returns
  have hts := atoms_spec (ws := w_Lt) B.pre
  have hown : s.vm.findClass R_L = some m.cls := findClass_of_methodNamed B.named
  have htb : ∀ w ∈ bz_tb, w.before _ s = true := fun w h => hts w (List.mem_cons_of_mem _ h)
  have hlocks := B.notSynchronized
  have htab : c.exceptionTable.toList = [bz_r1, bz_r2] := by
    obtain ⟨m9, meth9, c9, h0, h1, h2, -, -, h7, -⟩ := Cond.codeWith_spec (hts _ List.mem_cons_self)
    cases Option.some.inj (h0.symm.trans B.named)
    cases Option.some.inj (h1.symm.trans B.method)
    cases Option.some.inj (h2.symm.trans (Stand.of_body B).code)
    exact bz_tab h7
  subst hsz
  have hD := hD0.self (sz := s.heap.size)
  have hlt9 : ∀ (k : Nat) (q : Nat × va_E), (bz_wB ad cI cL (bz_tR t) R L 0 ++ [(qo, .inl (cL, 1, .inr (.inl O)))])[k]? = some q → q.1 < s.heap.size := fun k q h => by
    have h9 := hP k q h
    exact h9.lt
  generalize hAe : va_A (bz_wB ad cI cL (bz_tR t) R L 0 ++ [(qo, .inl (cL, 1, .inr (.inl O)))]) s.heap.size = A at hD ⊢
  have hA : ∀ q : Nat, s.heap.size ≤ q → A q := fun q h => by rw [← hAe]; exact Or.inr h
  have hS : va_S A s.heap s.heap [] := va_S.rf
  have hl := lv_entry ([.ref (ad 0), .int q, .ref qo]) (n := 4) (Nat.le_of_ble_eq_true rfl)
  rw [lg_entry_eq]
  generalize (lg_sl ([.ref (ad 0), .int q, .ref qo]) ++ List.replicate (4 - (lg_sl ([.ref (ad 0), .int q, .ref qo])).length) Slot.unset).toArray = ls at hl ⊢
  have hl : lv_has ls 4 [(0, .ref (ad 0)), (1, .int q), (2, .ref qo)] := hl
  refine lv_aload_n hx hb d_Lt_0 rfl (lv_at hl 2 rfl) ?_
  refine lv_iconst (v := 0) hx hb d_Lt_1 (by decide) ?_
  refine bz_ri (y := nI 0) (rfl) ?_
  refine lv_aload_n hx hb d_Lt_2 rfl (lv_at hl 0 rfl) ?_
  refine lv_iload_n hx hb d_Lt_3 rfl (lv_at hl 1 rfl) ?_
  refine bz_callT (C := R_B) (As := [.int q]) (rest := [.int (nI 0), .ref qo]) ⟨hx, hb, hml, hown, htb⟩ (c_B_together_s l hlt dC dI ad cI cL t R L ht q hq) (cwV 1 htb (bz_gV wd_320 wd_317 wd_318 wd_319 wd_19) rfl rfl rfl (by decide +kernel) ⟨Nat.le_of_ble_eq_true rfl, Nat.le_of_ble_eq_true rfl⟩) (bz_rvT hN hK (hP.sub (ws' := bz_wB ad cI cL (bz_tR t) R L 0) [0, 1, 2, 3, 4, 5, 6, 7, 8, 9, 10, 11, 12] rfl) (q0 := 0) rfl rfl hth rfl) rfl rfl hl.1 rfl (lv_room (Nat.le_of_ble_eq_true rfl)) d_Lt_4 ⟨Nat.le_of_ble_eq_true rfl, Nat.le_of_ble_eq_true rfl⟩ (fun q9 ce9 H hz9 hk9 ha9 hv9 hc9 => ?_)
  have hP := bz_pk hk9 hP hlt9
  have hS : va_S A s.heap H [] := ⟨hz9, fun q9 h9 _ => hk9 q9 h9, fun _ h9 => nomatch h9⟩
  refine bz_cat2 (own := R_L) (E := bz_IS) (F := bz_IA) rfl hown htab (show covers bz_r1 4 = true by decide) (by decide) (show covers bz_r2 4 = true by decide) (by decide) (bz_th_w hth (w := .classLink R_L 13 bz_IA) bz_wCa.1.1 (by decide) _) (bz_th_nc hth bz_wNc) (bz_th_w hth (w := .classLink R_L 15 bz_IS) bz_wCa.2.1 (by decide) _) (bz_th_w hth (w := .castable bz_IS bz_IS) bz_wCa.2.2 (by decide) _) ha9 hv9 hc9 ?_
  refine W.widen (k := 1) (n := 6) (Nat.le_of_ble_eq_true rfl) (Nat.le_of_ble_eq_true rfl) ?_
  refine W.eq (g2 := F0 m 22 ls [.ref q9]) rfl ?_
  refine lv_astore_n (lv' := [(3, .ref q9), (0, .ref (ad 0)), (1, .int q), (2, .ref qo)]) hx hb d_Lt_22 rfl hl (by decide) rfl (fun ls hl => ?_)
  refine lv_iconst (v := 2) hx hb d_Lt_23 (by decide) ?_
  exact W.iret (v := 2) hx hb hr (fun t9 ht9 hW => ⟨⟨2, (), rfl, rfl, by rw [ht9]; exact hP, va_K.moved hW.alike hK, hD⟩, hS.F ht9⟩) hS.2.2 d_Lt_24

set_option maxHeartbeats 4000000 in
set_option maxRecDepth 100000 in
/-- together -/
theorem c_L_together (l : Launch) (hlt : l.stackTraces = false) (dC : Nat → ClassId) (dI : Nat → Nat → Nat) (sz : Nat) (ad : Nat → Nat) (cI cL : ClassId) (t : bz_T) (f : Nat → Nat) (L : (Nat → Int32) × Int64) (ht : bz_ok t) (qo : Nat) (O : Nat → Int64) (r : Nat) (hr4 : r < 4) : Met l y_Lt w_Lt ({ frames := 7, cells := 1, slots := 6, locals := 112 }) (fun a9 U9 => bz_Pw (dC, dI) [(cI, .int), (cL, .long)] (bz_wB ad cI cL (bz_tR t) (bz_sR t (bz_fu f)) L 1 ++ [(qo, .inl (cL, 1, .inr (.inl O)))]) sz [.ref (ad 0), .int (nI r), .ref qo] a9 U9 ∧ bz_th U9) (bz_Qi (dC, dI) [(cI, .int), (cL, .long)] (va_A (bz_wB ad cI cL (bz_tR t) (bz_sR t (bz_fu f)) L 1 ++ [(qo, .inl (cL, 1, .inr (.inl O)))]) sz) 0 (bz_wB ad cI cL (bz_tR t) (bz_sR t (bz_fu f)) L 1 ++ [(qo, .inl (cL, 1, .inr (.inl (vp_updL O 0 (lN (bz_b (bz_ht t (bz_fu f) r)))))))])) 1 6 (va_A (bz_wB ad cI cL (bz_tR t) (bz_sR t (bz_fu f)) L 1 ++ [(qo, .inl (cL, 1, .inr (.inl O)))]) sz) := by
  refine va_MetW (cc := method_3_code) (maxL := 4) (ret := some .int) (hh := bz_hh) (by decide) rfl ?_
  intro p e s m args below meth c s₁ B hml hv
  obtain ⟨⟨rfl, hsz, hP, hK, hD0, hN⟩, hth⟩ := hv
  have hx := B.exec
  have hb := B.bytes
  have hr := B.returns
  have hts := atoms_spec (ws := w_Lt) B.pre
  have hown : s.vm.findClass R_L = some m.cls := findClass_of_methodNamed B.named
  have htb : ∀ w ∈ bz_tb, w.before _ s = true := fun w h => hts w (List.mem_cons_of_mem _ h)
  have hlocks := B.notSynchronized
  have htab : c.exceptionTable.toList = [bz_r1, bz_r2] := by
    obtain ⟨m9, meth9, c9, h0, h1, h2, -, -, h7, -⟩ := Cond.codeWith_spec (hts _ List.mem_cons_self)
    cases Option.some.inj (h0.symm.trans B.named)
    cases Option.some.inj (h1.symm.trans B.method)
    cases Option.some.inj (h2.symm.trans (Stand.of_body B).code)
    exact bz_tab h7
  subst hsz
  have hD := hD0.self (sz := s.heap.size)
  have hlt9 : ∀ (k : Nat) (q : Nat × va_E), (bz_wB ad cI cL (bz_tR t) (bz_sR t (bz_fu f)) L 1 ++ [(qo, .inl (cL, 1, .inr (.inl O)))])[k]? = some q → q.1 < s.heap.size := fun k q h => by
    have h9 := hP k q h
    exact h9.lt
  generalize hAe : va_A (bz_wB ad cI cL (bz_tR t) (bz_sR t (bz_fu f)) L 1 ++ [(qo, .inl (cL, 1, .inr (.inl O)))]) s.heap.size = A at hD ⊢
  have hA : ∀ q : Nat, s.heap.size ≤ q → A q := fun q h => by rw [← hAe]; exact Or.inr h
  have hS : va_S A s.heap s.heap [] := va_S.rf
  have hl := lv_entry ([.ref (ad 0), .int (nI r), .ref qo]) (n := 4) (Nat.le_of_ble_eq_true rfl)
  rw [lg_entry_eq]
  generalize (lg_sl ([.ref (ad 0), .int (nI r), .ref qo]) ++ List.replicate (4 - (lg_sl ([.ref (ad 0), .int (nI r), .ref qo])).length) Slot.unset).toArray = ls at hl ⊢
  have hl : lv_has ls 4 [(0, .ref (ad 0)), (1, .int (nI r)), (2, .ref qo)] := hl
  refine lv_aload_n hx hb d_Lt_0 rfl (lv_at hl 2 rfl) ?_
  refine lv_iconst (v := 0) hx hb d_Lt_1 (by decide) ?_
  refine bz_ri (y := nI 0) (rfl) ?_
  refine lv_aload_n hx hb d_Lt_2 rfl (lv_at hl 0 rfl) ?_
  refine lv_iload_n hx hb d_Lt_3 rfl (lv_at hl 1 rfl) ?_
  refine bz_si (va_runV (As := [.int (nI r)]) (rest := [.int (nI 0), .ref qo]) ⟨hx, hb, hml, hown, htb⟩ (c_B_together l dC dI ad cI cL t f L ht r hr4) (cwV 1 htb (bz_gV wd_320 wd_317 wd_318 wd_319 wd_19) rfl rfl rfl (by decide +kernel) ⟨Nat.le_of_ble_eq_true rfl, Nat.le_of_ble_eq_true rfl⟩) (bz_rv hN hK (hP.sub (ws' := bz_wB ad cI cL (bz_tR t) (bz_sR t (bz_fu f)) L 1) [0, 1, 2, 3, 4, 5, 6, 7, 8, 9, 10, 11, 12] rfl) (q0 := 0) rfl rfl) rfl rfl hl.1 rfl (lv_room (Nat.le_of_ble_eq_true rfl)) d_Lt_4 ⟨Nat.zero_le _, Nat.zero_le _⟩) ?_
  refine lv_if_eq (tgt := 14) hx hb d_Lt_7 (by decide) (fun c_7 => ?_) (fun c_7 => ?_)
  · skip
    refine lv_lconst (v := 0) hx hb d_Lt_14 (by decide) ?_
    refine bz_rl (y := lN (bz_b (bz_ht t (bz_fu f) r))) (by rw [bz_b0 (bz_bI0 c_7)]; rfl) ?_
    refine bz_last hx hb hK hP hD hS 13 1 rfl rfl (a9 := 0) (by omega) (by decide) d_Lt_15 (fun H locs hP hD hS => ?_)
    have hP : va_P (dC, dI) vwCl (bz_wB ad cI cL (bz_tR t) (bz_sR t (bz_fu f)) L 1 ++ [(qo, .inl (cL, 1, .inr (.inl (vp_updL O 0 (lN (bz_b (bz_ht t (bz_fu f) r)))))))]) H := hP
    have hD : va_D A (bz_wB ad cI cL (bz_tR t) (bz_sR t (bz_fu f)) L 1 ++ [(qo, .inl (cL, 1, .inr (.inl (vp_updL O 0 (lN (bz_b (bz_ht t (bz_fu f) r)))))))]) := hD
    refine lv_goto (tgt := 25) hx hb d_Lt_16 (by decide) ?_
    refine lv_iconst (v := 0) hx hb d_Lt_25 (by decide) ?_
    refine W.widen (k := 1) (n := 6) (Nat.le_of_ble_eq_true rfl) (Nat.le_of_ble_eq_true rfl) ?_
    exact W.iret (v := 0) hx hb hr (fun t9 ht9 hW => ⟨⟨0, (), rfl, rfl, by rw [ht9]; exact hP, va_K.moved hW.alike hK, hD⟩, hS.F ht9⟩) hS.2.2 d_Lt_26
  · skip
    refine lv_lconst (v := 1) hx hb d_Lt_10 (by decide) ?_
    refine bz_rl (y := lN (bz_b (bz_ht t (bz_fu f) r))) (by rw [bz_b1 (bz_bI1 c_7)]; rfl) ?_
    refine lv_goto (tgt := 15) hx hb d_Lt_11 (by decide) ?_
    refine bz_last hx hb hK hP hD hS 13 1 rfl rfl (a9 := 0) (by omega) (by decide) d_Lt_15 (fun H locs hP hD hS => ?_)
    have hP : va_P (dC, dI) vwCl (bz_wB ad cI cL (bz_tR t) (bz_sR t (bz_fu f)) L 1 ++ [(qo, .inl (cL, 1, .inr (.inl (vp_updL O 0 (lN (bz_b (bz_ht t (bz_fu f) r)))))))]) H := hP
    have hD : va_D A (bz_wB ad cI cL (bz_tR t) (bz_sR t (bz_fu f)) L 1 ++ [(qo, .inl (cL, 1, .inr (.inl (vp_updL O 0 (lN (bz_b (bz_ht t (bz_fu f) r)))))))]) := hD
    refine lv_goto (tgt := 25) hx hb d_Lt_16 (by decide) ?_
    refine lv_iconst (v := 0) hx hb d_Lt_25 (by decide) ?_
    refine W.widen (k := 1) (n := 6) (Nat.le_of_ble_eq_true rfl) (Nat.le_of_ble_eq_true rfl) ?_
    exact W.iret (v := 0) hx hb hr (fun t9 ht9 hW => ⟨⟨0, (), rfl, rfl, by rw [ht9]; exact hP, va_K.moved hW.alike hK, hD⟩, hS.F ht9⟩) hS.2.2 d_Lt_26
