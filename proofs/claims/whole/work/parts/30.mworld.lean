/-! the reference's cells, and rows for arrays of booleans -/
section BZZ
variable {p : Program} {l : Launch} {e : Env} {R : Room} {s : State} {m : MethodId} {args : Array Value} {below : List Frame} {meth : Method} {c : Code} {H : Heap} {locs : List Loc} {cells slots : Nat} {Q : State → Prop}
variable {pc : Nat} {ls : Array Slot} {rest st0 : List Value} {a : Array Value} {D : va_G} {cl : List vw_C} {tys : List (ClassId × FieldType)} {ws ws0 : va_W} {ad : Nat} {cc : ByteArray} {A A0 : Nat → Prop} {H0 : Heap}
theorem bz_zald (hexec : p.tables.exec = Jvm.exec) (hb : c.code = cc) (hK : va_K D cl tys s) (hP : va_P D cl ws H) (q0 t0 : Nat) {cA : ClassId} {n : Nat} {f : Nat → Int32} (ha : ws[q0]? = some (ad, .inl (cA, n, .inl f))) (ht : tys[t0]? = some (cA, .boolean)) {a9 : Nat} (h9 : a9 < n) (hn : n < 2 ^ 31) {v : Int32} (hv : f a9 = v) (hdg : decode cc pc = .ok (.baload, 1))
    (kk : W p l e R s m args below meth c H locs cells slots Q (F0 m (pc + 1) ls (.int v :: rest))) : W p l e R s m args below meth c H locs cells slots Q (F0 m pc ls (.int (nI a9) :: .ref ad :: rest)) := by
  refine va_zald hexec hb hK hP q0 t0 ha ht (vp_in_nI h9 hn) hdg ?_
  rw [nI_clamp (Nat.lt_trans h9 hn), hv]
  exact kk
theorem bz_zast (hexec : p.tables.exec = Jvm.exec) (hb : c.code = cc) (hK : va_K D cl tys s) (hP : va_P D cl ws H) (hD : va_D A ws) (hS : va_S A H0 H locs) (q0 t0 : Nat) {cA : ClassId} {n : Nat} {f : Nat → Int32} (ha : ws[q0]? = some (ad, .inl (cA, n, .inl f))) (ht : tys[t0]? = some (cA, .boolean)) {a9 : Nat} {x : Int32} {b9 : Bool} (h9 : a9 < n) (hn : n < 2 ^ 31) (hv : x = bz_i b9) (hdg : decode cc pc = .ok (.bastore, 1))
    (kk : ∀ (H1 : Heap) (locs1 : List Loc), va_P D cl (ws.set q0 (ad, .inl (cA, n, .inl (upd f a9 (bz_i b9))))) H1 → va_D A (ws.set q0 (ad, .inl (cA, n, .inl (upd f a9 (bz_i b9))))) → va_S A H0 H1 locs1 → W p l e R s m args below meth c H1 locs1 cells slots Q (F0 m (pc + 1) ls rest)) : W p l e R s m args below meth c H locs cells slots Q (F0 m pc ls (.int x :: .int (nI a9) :: .ref ad :: rest)) := by
  have e9 : vp_nar .boolean x = bz_i b9 := by rw [hv]; cases b9 <;> rfl
  refine va_zast hexec hb hK hP hD hS q0 t0 ha ht (vp_in_nI h9 hn) hdg ?_
  rw [nI_clamp (Nat.lt_trans h9 hn), e9]
  exact kk
def bz_Qxi {S : Type} (D : va_G) (tys : List (ClassId × FieldType)) (A : Nat → Prop) (post : Int32 → S → Prop) (wf : S → va_W) : Array Value → State → Outcome → State → Prop := va_Qi post (fun u => bz_Bw D tys A (wf u)) A
theorem bz_cxi {S : Type} {post : Int32 → S → Prop} {wf : S → va_W} (hr : va_Run p l e R s m args below meth c H locs cells slots 0 0 (F0 m pc ls st0) rest (bz_Qxi D tys (va_A ws0 H.size) post wf a) (va_A ws0 H.size)) (hD : va_D A0 ws0) (hS : va_S A0 H0 H locs) (hA : ∀ q, H0.size ≤ q → A0 q)
    (kk : ∀ (r : Int32) (u : S), post r u → ∀ (H1 : Heap) (locs1 : List Loc), va_P D vwCl (wf u) H1 → va_D A0 (wf u) → va_S A0 H0 H1 locs1 → W p l e R s m args below meth c H1 locs1 cells slots Q (F0 m (pc + 3) ls (.int r :: rest))) : W p l e R s m args below meth c H locs cells slots Q (F0 m pc ls st0) :=
  va_calli hr hS (fun q _ h => bz_fA hD hS hA q h) (bz_fA hD hS hA) (fun r u t H1 locs1 ht _ hw hB _ _ hS1 => kk r u hw H1 locs1 (by rw [← ht]; exact hB.1) (hB.2.2.weaken (fun _ q _ h => bz_fA hD hS hA q.1 h)) hS1)
end BZZ
def bz_tM (t : bz_T) : bz_RT := (fun j => lN (bz_l t j), fun j => nI (bz_d t j), fun i => bz_i (bz_j t (i / 30) (i % 30)), fun i => bz_i (bz_k t (i / 30) (i % 30)), fun r => lN (bz_h t r), nI (bz_n t))
def bz_wM (am : Nat → Nat) (cI cL cZ : ClassId) (T : bz_RT) (V : Int32 × Int32 × Int32) (S : (Nat → Int32) × (Nat → Int32) × (Nat → Int32)) : va_W :=
  [(am 0, .inr (4, [.int V.1, .int T.2.2.2.2.2, .ref (am 1), .ref (am 2), .ref (am 3), .ref (am 4), .ref (am 5), .int V.2.1, .int V.2.2, .ref (am 6), .ref (am 7), .ref (am 8)])),
   (am 1, .inl (cL, 30, .inr (.inl T.1))),
   (am 2, .inl (cI, 30, .inl T.2.1)),
   (am 3, .inl (cZ, 900, .inl T.2.2.1)),
   (am 4, .inl (cZ, 120, .inl T.2.2.2.1)),
   (am 5, .inl (cL, 4, .inr (.inl T.2.2.2.2.1))),
   (am 6, .inl (cI, 30, .inl S.1)),
   (am 7, .inl (cI, 30, .inl S.2.1)),
   (am 8, .inl (cZ, 30, .inl S.2.2))]
