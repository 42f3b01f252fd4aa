/-! rows of my own: an array's place by a plain number; contracts of methods that only read, and of methods that take the whole world to another -/
def bz_i (b : Bool) : Int32 := if b then 1 else 0
theorem bz_i_ne {b : Bool} (h : ¬ bz_i b = 0) : b = true := by cases b; exact absurd rfl h; rfl
theorem bz_i_eq {b : Bool} (h : bz_i b = 0) : b = false := by cases b; rfl; exact absurd h (by decide)
section BZR
variable {p : Program} {l : Launch} {e : Env} {R : Room} {s : State} {m : MethodId} {args : Array Value} {below : List Frame} {meth : Method} {c : Code} {H : Heap} {locs : List Loc} {cells slots : Nat} {Q : State → Prop}
variable {pc : Nat} {ls : Array Slot} {rest st0 : List Value} {a : Array Value} {D : va_G} {cl : List vw_C} {tys : List (ClassId × FieldType)} {ws ws0 ws1 : va_W} {ad : Nat} {cc : ByteArray} {A A0 : Nat → Prop} {H0 : Heap}
theorem bz_ri {x y : Int32} (h : x = y) (k : W p l e R s m args below meth c H locs cells slots Q (F0 m pc ls (.int y :: rest))) : W p l e R s m args below meth c H locs cells slots Q (F0 m pc ls (.int x :: rest)) := by
  rw [h]; exact k
theorem bz_rl {x y : Int64} (h : x = y) (k : W p l e R s m args below meth c H locs cells slots Q (F0 m pc ls (.long y :: rest))) : W p l e R s m args below meth c H locs cells slots Q (F0 m pc ls (.long x :: rest)) := by
  rw [h]; exact k
theorem bz_iald (hexec : p.tables.exec = Jvm.exec) (hb : c.code = cc) (hK : va_K D cl tys s) (hP : va_P D cl ws H) (q0 t0 : Nat) {cA : ClassId} {n : Nat} {f : Nat → Int32} (ha : ws[q0]? = some (ad, .inl (cA, n, .inl f))) (ht : tys[t0]? = some (cA, .int)) {a9 : Nat} (h9 : a9 < n) (hn : n < 2 ^ 31) {v : Int32} (hv : f a9 = v) (hdg : decode cc pc = .ok (.iaload, 1))
    (kk : W p l e R s m args below meth c H locs cells slots Q (F0 m (pc + 1) ls (.int v :: rest))) : W p l e R s m args below meth c H locs cells slots Q (F0 m pc ls (.int (nI a9) :: .ref ad :: rest)) := by
  refine va_iald hexec hb hK hP q0 t0 ha ht (vp_in_nI h9 hn) hdg ?_
  rw [nI_clamp (Nat.lt_trans h9 hn), hv]
  exact kk
theorem bz_lald (hexec : p.tables.exec = Jvm.exec) (hb : c.code = cc) (hK : va_K D cl tys s) (hP : va_P D cl ws H) (q0 t0 : Nat) {cA : ClassId} {n : Nat} {f : Nat → Int64} (ha : ws[q0]? = some (ad, .inl (cA, n, .inr (.inl f)))) (ht : tys[t0]? = some (cA, .long)) {a9 : Nat} (h9 : a9 < n) (hn : n < 2 ^ 31) {v : Int64} (hv : f a9 = v) (hdg : decode cc pc = .ok (.laload, 1))
    (kk : W p l e R s m args below meth c H locs cells slots Q (F0 m (pc + 1) ls (.long v :: rest))) : W p l e R s m args below meth c H locs cells slots Q (F0 m pc ls (.int (nI a9) :: .ref ad :: rest)) := by
  refine va_lald hexec hb hK hP q0 t0 ha ht (vp_in_nI h9 hn) hdg ?_
  rw [nI_clamp (Nat.lt_trans h9 hn), hv]
  exact kk
theorem bz_iast (hexec : p.tables.exec = Jvm.exec) (hb : c.code = cc) (hK : va_K D cl tys s) (hP : va_P D cl ws H) (hD : va_D A ws) (hS : va_S A H0 H locs) (q0 t0 : Nat) {cA : ClassId} {n : Nat} {f : Nat → Int32} (ha : ws[q0]? = some (ad, .inl (cA, n, .inl f))) (ht : tys[t0]? = some (cA, .int)) {a9 : Nat} {x : Int32} (h9 : a9 < n) (hn : n < 2 ^ 31) (hdg : decode cc pc = .ok (.iastore, 1))
    (kk : ∀ (H1 : Heap) (locs1 : List Loc), va_P D cl (ws.set q0 (ad, .inl (cA, n, .inl (upd f a9 x)))) H1 → va_D A (ws.set q0 (ad, .inl (cA, n, .inl (upd f a9 x)))) → va_S A H0 H1 locs1 → W p l e R s m args below meth c H1 locs1 cells slots Q (F0 m (pc + 1) ls rest)) : W p l e R s m args below meth c H locs cells slots Q (F0 m pc ls (.int x :: .int (nI a9) :: .ref ad :: rest)) := by
  refine va_iast hexec hb hK hP hD hS q0 t0 ha ht (vp_in_nI h9 hn) hdg ?_
  rw [nI_clamp (Nat.lt_trans h9 hn)]
  exact kk
theorem bz_last (hexec : p.tables.exec = Jvm.exec) (hb : c.code = cc) (hK : va_K D cl tys s) (hP : va_P D cl ws H) (hD : va_D A ws) (hS : va_S A H0 H locs) (q0 t0 : Nat) {cA : ClassId} {n : Nat} {f : Nat → Int64} (ha : ws[q0]? = some (ad, .inl (cA, n, .inr (.inl f)))) (ht : tys[t0]? = some (cA, .long)) {a9 : Nat} {x : Int64} (h9 : a9 < n) (hn : n < 2 ^ 31) (hdg : decode cc pc = .ok (.lastore, 1))
    (kk : ∀ (H1 : Heap) (locs1 : List Loc), va_P D cl (ws.set q0 (ad, .inl (cA, n, .inr (.inl (vp_updL f a9 x))))) H1 → va_D A (ws.set q0 (ad, .inl (cA, n, .inr (.inl (vp_updL f a9 x))))) → va_S A H0 H1 locs1 → W p l e R s m args below meth c H1 locs1 cells slots Q (F0 m (pc + 1) ls rest)) : W p l e R s m args below meth c H locs cells slots Q (F0 m pc ls (.long x :: .int (nI a9) :: .ref ad :: rest)) := by
  refine va_last hexec hb hK hP hD hS q0 t0 ha ht (vp_in_nI h9 hn) hdg ?_
  rw [nI_clamp (Nat.lt_trans h9 hn)]
  exact kk
/-- a contract's start: it reads -/
def bz_Pr (D : va_G) (tys : List (ClassId × FieldType)) (ws : va_W) (av : List Value) : Array Value → State → Prop := va_Pc av (fun U => va_P D vwCl ws U.heap ∧ va_K D vwCl tys U ∧ bz_N U)
/-- a contract's start: it writes -/
def bz_Pw (D : va_G) (tys : List (ClassId × FieldType)) (ws : va_W) (sz : Nat) (av : List Value) : Array Value → State → Prop := va_Pc av (fun U => U.heap.size = sz ∧ va_P D vwCl ws U.heap ∧ va_K D vwCl tys U ∧ va_D (fun _ => True) ws ∧ bz_N U)
theorem bz_Pr_bl {av : List Value} : FrameBlind (bz_Pr D tys ws av) := fun a U g mk q => ⟨q.1, q.2.1, va_K.moved (u := U) (U := U.calling g mk a) (Vm.Alike.refl U.vm) q.2.2.1, bz_N_same (s := U) (U := U.calling g mk a) rfl q.2.2.2⟩
theorem bz_Pw_bl {sz : Nat} {av : List Value} : FrameBlind (bz_Pw D tys ws sz av) := fun a U g mk q => ⟨q.1, q.2.1, q.2.2.1, va_K.moved (u := U) (U := U.calling g mk a) (Vm.Alike.refl U.vm) q.2.2.2.1, q.2.2.2.2.1, bz_N_same (s := U) (U := U.calling g mk a) rfl q.2.2.2.2.2⟩
theorem bz_rv {b ci q0 N : Nat} {C : String} {T : u_T} {fs As : List Value} (hN : bz_N s) (hK : va_K D vwCl tys s) (hP : va_P D vwCl ws H) (hq : ws[q0]? = some (b, .inr (ci, fs))) (hc : vwCl[ci]? = some (C, T, N)) : PreV s H C b (bz_Pr D tys ws (.ref b :: As)) As := ⟨bz_Pr_bl, va_recv hK hP (ci := ci) (q0 := q0) hc hq, fun U hU hW => ⟨rfl, by rw [hU]; exact hP, va_K.moved hW.alike hK, bz_N_warm hW hN⟩⟩
theorem bz_rs {As : List Value} (hN : bz_N s) (hK : va_K D vwCl tys s) (hP : va_P D vwCl ws H) : PreS s H (bz_Pr D tys ws As) As := ⟨bz_Pr_bl, fun U hU hW => ⟨rfl, by rw [hU]; exact hP, va_K.moved hW.alike hK, bz_N_warm hW hN⟩⟩
theorem bz_wv {b ci q0 N : Nat} {C : String} {T : u_T} {fs As : List Value} (hN : bz_N s) (hK : va_K D vwCl tys s) (hP : va_P D vwCl ws H) (hD : va_D A ws) (hq : ws[q0]? = some (b, .inr (ci, fs))) (hc : vwCl[ci]? = some (C, T, N)) : PreV s H C b (bz_Pw D tys ws H.size (.ref b :: As)) As := ⟨bz_Pw_bl, va_recv hK hP (ci := ci) (q0 := q0) hc hq, fun U hU hW => ⟨rfl, by rw [hU], by rw [hU]; exact hP, va_K.moved hW.alike hK, hD.weaken (fun _ _ _ _ => trivial), bz_N_warm hW hN⟩⟩
theorem bz_ws {As : List Value} (hN : bz_N s) (hK : va_K D vwCl tys s) (hP : va_P D vwCl ws H) (hD : va_D A ws) : PreS s H (bz_Pw D tys ws H.size As) As := ⟨bz_Pw_bl, fun U hU hW => ⟨rfl, by rw [hU], by rw [hU]; exact hP, va_K.moved hW.alike hK, hD.weaken (fun _ _ _ _ => trivial), bz_N_warm hW hN⟩⟩
/-- a contract's end: the world is another one -/
def bz_Bw (D : va_G) (tys : List (ClassId × FieldType)) (A : Nat → Prop) (ws1 : va_W) (t : State) : Prop := va_P D vwCl ws1 t.heap ∧ va_K D vwCl tys t ∧ va_D A ws1
def bz_Qv (D : va_G) (tys : List (ClassId × FieldType)) (A : Nat → Prop) (ws1 : va_W) : Array Value → State → Outcome → State → Prop := va_Qv (fun _ : Unit => True) (fun _ => bz_Bw D tys A ws1) A
def bz_Qi (D : va_G) (tys : List (ClassId × FieldType)) (A : Nat → Prop) (r0 : Int32) (ws1 : va_W) : Array Value → State → Outcome → State → Prop := va_Qi (fun r (_ : Unit) => r = r0) (fun _ => bz_Bw D tys A ws1) A
def bz_Ql (D : va_G) (tys : List (ClassId × FieldType)) (A : Nat → Prop) (r0 : Int64) (ws1 : va_W) : Array Value → State → Outcome → State → Prop := va_Ql (fun r (_ : Unit) => r = r0) (fun _ => bz_Bw D tys A ws1) A
theorem bz_fA (hD : va_D A0 ws0) (hS : va_S A0 H0 H locs) (hA : ∀ q, H0.size ≤ q → A0 q) : ∀ q, va_A ws0 H.size q → A0 q := by
  intro q h
  rcases h with ⟨k, e, h⟩ | h
  · exact hD.2 k (q, e) h
  · exact hA q (Nat.le_trans hS.1 h)
theorem bz_cv (hr : va_Run p l e R s m args below meth c H locs cells slots 0 0 (F0 m pc ls st0) rest (bz_Qv D tys (va_A ws0 H.size) ws1 a) (va_A ws0 H.size)) (hD : va_D A0 ws0) (hS : va_S A0 H0 H locs) (hA : ∀ q, H0.size ≤ q → A0 q)
    (kk : ∀ (H1 : Heap) (locs1 : List Loc), va_P D vwCl ws1 H1 → va_D A0 ws1 → va_S A0 H0 H1 locs1 → W p l e R s m args below meth c H1 locs1 cells slots Q (F0 m (pc + 3) ls rest)) : W p l e R s m args below meth c H locs cells slots Q (F0 m pc ls st0) :=
  va_callv hr hS (fun q _ h => bz_fA hD hS hA q h) (bz_fA hD hS hA) (fun _ t H1 locs1 ht _ _ hB _ _ hS1 => kk H1 locs1 (by rw [← ht]; exact hB.1) (hB.2.2.weaken (fun _ q _ h => bz_fA hD hS hA q.1 h)) hS1)
theorem bz_ci {r0 : Int32} (hr : va_Run p l e R s m args below meth c H locs cells slots 0 0 (F0 m pc ls st0) rest (bz_Qi D tys (va_A ws0 H.size) r0 ws1 a) (va_A ws0 H.size)) (hD : va_D A0 ws0) (hS : va_S A0 H0 H locs) (hA : ∀ q, H0.size ≤ q → A0 q)
    (kk : ∀ (H1 : Heap) (locs1 : List Loc), va_P D vwCl ws1 H1 → va_D A0 ws1 → va_S A0 H0 H1 locs1 → W p l e R s m args below meth c H1 locs1 cells slots Q (F0 m (pc + 3) ls (.int r0 :: rest))) : W p l e R s m args below meth c H locs cells slots Q (F0 m pc ls st0) :=
  va_calli hr hS (fun q _ h => bz_fA hD hS hA q h) (bz_fA hD hS hA) (fun r _ t H1 locs1 ht _ hw hB _ _ hS1 => by rw [hw]; exact kk H1 locs1 (by rw [← ht]; exact hB.1) (hB.2.2.weaken (fun _ q _ h => bz_fA hD hS hA q.1 h)) hS1)
theorem bz_cl {r0 : Int64} (hr : va_Run p l e R s m args below meth c H locs cells slots 0 0 (F0 m pc ls st0) rest (bz_Ql D tys (va_A ws0 H.size) r0 ws1 a) (va_A ws0 H.size)) (hD : va_D A0 ws0) (hS : va_S A0 H0 H locs) (hA : ∀ q, H0.size ≤ q → A0 q)
    (kk : ∀ (H1 : Heap) (locs1 : List Loc), va_P D vwCl ws1 H1 → va_D A0 ws1 → va_S A0 H0 H1 locs1 → W p l e R s m args below meth c H1 locs1 cells slots Q (F0 m (pc + 3) ls (.long r0 :: rest))) : W p l e R s m args below meth c H locs cells slots Q (F0 m pc ls st0) :=
  va_calll hr hS (fun q _ h => bz_fA hD hS hA q h) (bz_fA hD hS hA) (fun r _ t H1 locs1 ht _ hw hB _ _ hS1 => by rw [hw]; exact kk H1 locs1 (by rw [← ht]; exact hB.1) (hB.2.2.weaken (fun _ q _ h => bz_fA hD hS hA q.1 h)) hS1)
/-- a call of a method that only reads: nothing has moved -/
theorem bz_si {r0 : Int32} (hr : va_Run p l e R s m args below meth c H locs cells slots 0 0 (F0 m pc ls st0) rest (vp_Si (fun r => r = r0) a) (fun _ => False))
    (kk : W p l e R s m args below meth c H locs cells slots Q (F0 m (pc + 3) ls (.int r0 :: rest))) : W p l e R s m args below meth c H locs cells slots Q (F0 m pc ls st0) := by
  intro T hT X
  obtain ⟨v, st₀, t, T', L, h0, X', hL, e1, -, ⟨r, hv, hp, hh⟩, st⟩ := hr T hT X
  cases hv
  subst hp
  obtain ⟨t2, a1, b1⟩ := kk T' (by rw [e1, hh, h0]) (Stand.forget X' (fun q h => (hL q h).elim))
  exact ⟨t2, st t2 a1, b1⟩
theorem bz_sl {r0 : Int64} (hr : va_Run p l e R s m args below meth c H locs cells slots 0 0 (F0 m pc ls st0) rest (vp_Sl (fun r => r = r0) a) (fun _ => False))
    (kk : W p l e R s m args below meth c H locs cells slots Q (F0 m (pc + 3) ls (.long r0 :: rest))) : W p l e R s m args below meth c H locs cells slots Q (F0 m pc ls st0) := by
  intro T hT X
  obtain ⟨v, st₀, t, T', L, h0, X', hL, e1, -, ⟨r, hv, hp, hh⟩, st⟩ := hr T hT X
  cases hv
  subst hp
  obtain ⟨t2, a1, b1⟩ := kk T' (by rw [e1, hh, h0]) (Stand.forget X' (fun q h => (hL q h).elim))
  exact ⟨t2, st t2 a1, b1⟩
end BZR
theorem bz_g0 {y : MethodName} {cc : ByteArray} {n : Nat} {ret : Option FieldType} (h : Cond.code y cc n ret ∈ bz_tb) : GoodIn bz_tb (.code y cc n ret :: bz_tb) := by
  have hg : ∀ w ∈ bz_tb, w ∈ bz_tb ∧ ((w.onTables && w.keeps) = true ∨ ∃ ty, w = .arrayClass ty) := fun w hw => ⟨hw, good_of_word (List.mem_filter.mp hw).2⟩
  intro w hw
  rcases List.mem_cons.mp hw with rfl | hw
  · exact hg _ h
  · exact hg w hw
theorem bz_gl1 {ws : List Cond} (h : ∀ w ∈ ws, w ∈ bz_tb) : GoodIn bz_tb ws := fun w hw => ⟨h w hw, good_of_word (List.mem_filter.mp (h w hw)).2⟩
theorem bz_gV {own C : String} {idx : Nat} {y : MethodName} {cc : ByteArray} {n : Nat} {ret : Option FieldType} (h0 : Cond.code y cc n ret ∈ bz_tb) (h1 : Cond.methodLink own idx y ∈ bz_tb) (h2 : Cond.instanceMethod y ∈ bz_tb) (h3 : Cond.selects C y y ∈ bz_tb) (h4 : Cond.initialized C ∈ bz_tb) : GoodIn bz_tb (wsV own idx C y (.code y cc n ret :: bz_tb)) := by
  have hg : ∀ w ∈ bz_tb, w ∈ bz_tb ∧ ((w.onTables && w.keeps) = true ∨ ∃ ty, w = .arrayClass ty) := fun w hw => ⟨hw, good_of_word (List.mem_filter.mp hw).2⟩
  intro w hw
  unfold wsV at hw
  simp only [List.cons_append, List.nil_append, List.mem_cons] at hw
  rcases hw with rfl | rfl | rfl | rfl | rfl | hw
  · exact hg _ h1
  · exact hg _ h2
  · exact hg _ h3
  · exact hg _ h4
  · exact hg _ h0
  · exact hg w hw
theorem bz_gS {own : String} {idx : Nat} {y : MethodName} {cc : ByteArray} {n : Nat} {ret : Option FieldType} (h0 : Cond.code y cc n ret ∈ bz_tb) (h1 : Cond.methodLink own idx y ∈ bz_tb) (h2 : Cond.static y ∈ bz_tb) (h4 : Cond.initialized y.cls ∈ bz_tb) : GoodIn bz_tb (va_wsS own idx y (.code y cc n ret :: bz_tb)) := by
  have hg : ∀ w ∈ bz_tb, w ∈ bz_tb ∧ ((w.onTables && w.keeps) = true ∨ ∃ ty, w = .arrayClass ty) := fun w hw => ⟨hw, good_of_word (List.mem_filter.mp hw).2⟩
  intro w hw
  unfold va_wsS at hw
  simp only [List.cons_append, List.nil_append, List.mem_cons] at hw
  rcases hw with rfl | rfl | rfl | rfl | hw
  · exact hg _ h1
  · exact hg _ h2
  · exact hg _ h4
  · exact hg _ h0
  · exact hg w hw
section BZX
variable {p : Program} {l : Launch} {e : Env} {R : Room} {s : State} {m : MethodId} {args : Array Value} {below : List Frame} {meth : Method} {c : Code} {H : Heap} {locs : List Loc} {cells slots : Nat} {Q : State → Prop}
variable {pc : Nat} {ls : Array Slot} {rest st0 : List Value} {a : Array Value} {D : va_G} {tys : List (ClassId × FieldType)} {ws0 : va_W} {A0 : Nat → Prop} {H0 : Heap}
/-- a contract's end: the world is one of a kind -/
def bz_Qx {S : Type} (D : va_G) (tys : List (ClassId × FieldType)) (A : Nat → Prop) (post : S → Prop) (wf : S → va_W) : Array Value → State → Outcome → State → Prop := va_Qv post (fun u => bz_Bw D tys A (wf u)) A
def bz_Qxl {S : Type} (D : va_G) (tys : List (ClassId × FieldType)) (A : Nat → Prop) (post : Int64 → S → Prop) (wf : S → va_W) : Array Value → State → Outcome → State → Prop := va_Ql post (fun u => bz_Bw D tys A (wf u)) A
theorem bz_cx {S : Type} {post : S → Prop} {wf : S → va_W} (hr : va_Run p l e R s m args below meth c H locs cells slots 0 0 (F0 m pc ls st0) rest (bz_Qx D tys (va_A ws0 H.size) post wf a) (va_A ws0 H.size)) (hD : va_D A0 ws0) (hS : va_S A0 H0 H locs) (hA : ∀ q, H0.size ≤ q → A0 q)
    (kk : ∀ (u : S), post u → ∀ (H1 : Heap) (locs1 : List Loc), va_P D vwCl (wf u) H1 → va_D A0 (wf u) → va_S A0 H0 H1 locs1 → W p l e R s m args below meth c H1 locs1 cells slots Q (F0 m (pc + 3) ls rest)) : W p l e R s m args below meth c H locs cells slots Q (F0 m pc ls st0) :=
  va_callv hr hS (fun q _ h => bz_fA hD hS hA q h) (bz_fA hD hS hA) (fun u t H1 locs1 ht _ hw hB _ _ hS1 => kk u hw H1 locs1 (by rw [← ht]; exact hB.1) (hB.2.2.weaken (fun _ q _ h => bz_fA hD hS hA q.1 h)) hS1)
theorem bz_cxl {S : Type} {post : Int64 → S → Prop} {wf : S → va_W} (hr : va_Run p l e R s m args below meth c H locs cells slots 0 0 (F0 m pc ls st0) rest (bz_Qxl D tys (va_A ws0 H.size) post wf a) (va_A ws0 H.size)) (hD : va_D A0 ws0) (hS : va_S A0 H0 H locs) (hA : ∀ q, H0.size ≤ q → A0 q)
    (kk : ∀ (r : Int64) (u : S), post r u → ∀ (H1 : Heap) (locs1 : List Loc), va_P D vwCl (wf u) H1 → va_D A0 (wf u) → va_S A0 H0 H1 locs1 → W p l e R s m args below meth c H1 locs1 cells slots Q (F0 m (pc + 3) ls (.long r :: rest))) : W p l e R s m args below meth c H locs cells slots Q (F0 m pc ls st0) :=
  va_calll hr hS (fun q _ h => bz_fA hD hS hA q h) (bz_fA hD hS hA) (fun r u t H1 locs1 ht _ hw hB _ _ hS1 => kk r u hw H1 locs1 (by rw [← ht]; exact hB.1) (hB.2.2.weaken (fun _ q _ h => bz_fA hD hS hA q.1 h)) hS1)
end BZX
