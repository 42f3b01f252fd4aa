theorem bz_ps_1 {j : Nat → Nat → Bool} {o x : Nat → Bool} {k : Nat} (h : bz_ps j o x k k = true) : bz_ps j o x (k + 1) = fun i => bz_ps j o x k i || (j k i && o i) := by
  show (if bz_ps j o x k k then (fun i => bz_ps j o x k i || (j k i && o i)) else bz_ps j o x k) = _
  rw [if_pos h]
theorem bz_ps_0 {j : Nat → Nat → Bool} {o x : Nat → Bool} {k : Nat} (h : bz_ps j o x k k = false) : bz_ps j o x (k + 1) = bz_ps j o x k := by
  show (if bz_ps j o x k k then (fun i => bz_ps j o x k i || (j k i && o i)) else bz_ps j o x k) = _
  rw [if_neg (by simp [h])]

set_option maxHeartbeats 4000000 in
set_option maxRecDepth 100000 in
/-- Town.haveWays -/
theorem c_T_haveWays (l : Launch) (dC : Nat → ClassId) (dI : Nat → Nat → Nat) (ad : Nat → Nat) (cI cL : ClassId) (t : bz_T) (R : bz_RS) (L : (Nat → Int32) × Int64) (v : Int32) (ht : bz_ok t) (f o : Nat → Bool) (hf : ∀ i, f i = true → i < bz_n t) : Met l y_T_haveWays w_T_haveWays ({ frames := 0, cells := 0, slots := 0, locals := 0 }) (bz_Pr (dC, dI) [(cI, .int), (cL, .long)] (bz_wB ad cI cL (bz_tR t) R L v) [.ref (ad 1), .int (bz_m f), .int (bz_m o)]) (vp_Si (fun r9 => r9 = nI (bz_b (bz_tg (bz_j t) f o)))) 0 0 (fun _ => False) := by
  refine Met.ofW (cc := b_T_haveWays) (maxL := 7) (ret := (some .boolean)) (by decide) rfl ?_
  intro p e s m args below meth c s₁ B hml hv
  obtain ⟨rfl, hP, hK, hN⟩ := hv
  have hx := B.exec
  have hb := B.bytes
  have hr := B.returns
  have hts := atoms_spec (ws := w_T_haveWays) B.pre
  have hown : s.vm.findClass R_T = some m.cls := findClass_of_methodNamed B.named
  have htb : ∀ w ∈ bz_tb, w.before _ s = true := fun w h => hts w (List.mem_cons_of_mem _ h)
  have hlocks := B.notSynchronized
  have hl := lv_entry ([.ref (ad 1), .int (bz_m f), .int (bz_m o)]) (n := 7) (Nat.le_of_ble_eq_true rfl)
  rw [lg_entry_eq]
  generalize (lg_sl ([.ref (ad 1), .int (bz_m f), .int (bz_m o)]) ++ List.replicate (7 - (lg_sl ([.ref (ad 1), .int (bz_m f), .int (bz_m o)])).length) Slot.unset).toArray = ls at hl ⊢
  have hl : lv_has ls 7 [(0, .ref (ad 1)), (1, .int (bz_m f)), (2, .int (bz_m o))] := hl
  refine lv_iload_n hx hb d_T_haveWays_0 rfl (lv_at hl 1 rfl) ?_
  refine lv_iload_n hx hb d_T_haveWays_1 rfl (lv_at hl 1 rfl) ?_
  refine lv_ineg hx hb d_T_haveWays_2 ?_
  refine lv_iand hx hb d_T_haveWays_3 ?_
  refine bz_ri (y := bz_m (fun i => f i && !(decide (∃ j, j < i ∧ f j = true)))) (bz_low f) ?_
  refine lv_istore_n (lv' := [(3, .int (bz_m (fun i => f i && !(decide (∃ j, j < i ∧ f j = true))))), (0, .ref (ad 1)), (1, .int (bz_m f)), (2, .int (bz_m o))]) hx hb d_T_haveWays_4 rfl hl (by decide) rfl (fun ls hl => ?_)
  refine lv_iconst (v := nI 0) hx hb d_T_haveWays_5 (by decide) ?_
  refine bz_ri (y := bz_m (fun _ => false)) (bz_zero) ?_
  refine lv_istore (lv' := [(4, .int (bz_m (fun _ => false))), (3, .int (bz_m (fun i => f i && !(decide (∃ j, j < i ∧ f j = true))))), (0, .ref (ad 1)), (1, .int (bz_m f)), (2, .int (bz_m o))]) hx hb d_T_haveWays_6 hl (by decide) rfl (fun ls hl => ?_)
  refine lv_iconst (v := nI 0) hx hb d_T_haveWays_8 (by decide) ?_
  refine lv_istore (lv' := [(5, .int (nI 0)), (4, .int (bz_m (fun _ => false))), (3, .int (bz_m (fun i => f i && !(decide (∃ j, j < i ∧ f j = true))))), (0, .ref (ad 1)), (1, .int (bz_m f)), (2, .int (bz_m o))]) hx hb d_T_haveWays_9 hl (by decide) rfl (fun ls hl => ?_)
  have lp : ∀ (k9 : Nat) (x : Nat → Bool) (y : Nat → Bool) (q : Nat), 30 - q < k9 → (bz_hw t f o x y q) → (q ≤ 30) → ∀ (ls : Array Slot), lv_has ls 7 [(0, .ref (ad 1)), (1, .int (bz_m f)), (2, .int (bz_m o)), (3, .int (bz_m x)), (4, .int (bz_m y)), (5, .int (nI q))] → W p l e (headSpec w_T_haveWays ({ frames := 0, cells := 0, slots := 0, locals := 0 })).room s m ([.ref (ad 1), .int (bz_m f), .int (bz_m o)]).toArray below meth c s.heap [] 0 0 (MQ below (vp_Si (fun r9 => r9 = nI (bz_b (bz_tg (bz_j t) f o)))) ([.ref (ad 1), .int (bz_m f), .int (bz_m o)]).toArray s 0 0 (fun _ => False)) (F0 m 11 ls []) := by
    intro k9
    induction k9 with
    | zero =>
      intro x y q h9
      exact absurd h9 (Nat.not_lt_zero _)
    | succ k9 ihlp =>
      intro x y q h9_lp hw hq ls hl
      refine lv_iload hx hb d_T_haveWays_11 (lv_at hl 5 rfl) ?_
      refine lv_bipush (v := 30) hx hb d_T_haveWays_13 (by decide) ?_
      refine lv_icmp_ge (tgt := 80) hx hb d_T_haveWays_15 (by decide) (fun c_15 => ?_) (fun c_15 => ?_)
      · skip
        have hend : 30 ≤ q ∨ ∀ i, i < 32 → x i = y i := Or.inl ((nI_leI (a := 30) (by omega) (by omega)).mp c_15)
        refine lv_iload_n hx hb d_T_haveWays_80 rfl (lv_at hl 1 rfl) ?_
        refine lv_iload_n hx hb d_T_haveWays_81 rfl (lv_at hl 3 rfl) ?_
        refine lv_iconst (v := (-1)) hx hb d_T_haveWays_82 (by decide) ?_
        refine lv_ixor hx hb d_T_haveWays_83 ?_
        refine bz_ri (y := bz_m (fun i => !x i)) (bz_not _) ?_
        refine lv_iand hx hb d_T_haveWays_84 ?_
        refine bz_ri (y := bz_m (fun i => f i && !x i)) (bz_and _ _) ?_
        refine lv_if_ne (tgt := 92) hx hb d_T_haveWays_85 (by decide) (fun c_85 => ?_) (fun c_85 => ?_)
        · skip
          obtain ⟨b, hb1, hb2⟩ : ∃ b, f b = true ∧ x b = false := Classical.byContradiction fun z => c_85 ((bz_eq0 _).mpr fun i hi => by
            cases e1 : f i
            · rfl
            · cases e2 : x i
              · exact absurd ⟨i, e1, e2⟩ z
              · rfl)
          have hres := bz_hw_f ht hf hw hend hb1 hb2
          refine lv_iconst (v := 0) hx hb d_T_haveWays_92 (by decide) ?_
          exact W.zret (v := 0) hx hb hr (rfl) (fun t9 ht9 hW => ⟨0, rfl, by rw [bz_b0 hres]; rfl, ht9⟩) (fun _ h => nomatch h) d_T_haveWays_93
        · skip
          have c_85 := (bz_eq0 _).mp c_85
          have hres := bz_hw_t hw fun i hi => by
            have h1 := c_85 i (by have := hf i hi; have := ht.1; omega)
            rw [hi] at h1
            cases e : x i
            · rw [e] at h1; exact absurd h1 (by decide)
            · rfl
          refine lv_iconst (v := 1) hx hb d_T_haveWays_88 (by decide) ?_
          refine lv_goto (tgt := 93) hx hb d_T_haveWays_89 (by decide) ?_
          exact W.zret (v := 1) hx hb hr (rfl) (fun t9 ht9 hW => ⟨1, rfl, by rw [bz_b1 hres]; rfl, ht9⟩) (fun _ h => nomatch h) d_T_haveWays_93
      · skip
        have hq30 : q < 30 := Nat.lt_of_not_le fun z => c_15 ((nI_leI (a := 30) (b := q) (by omega) (by omega)).mpr z)
        refine lv_iload_n hx hb d_T_haveWays_18 rfl (lv_at hl 3 rfl) ?_
        refine lv_iload hx hb d_T_haveWays_19 (lv_at hl 4 rfl) ?_
        refine lv_icmp_eq (tgt := 80) hx hb d_T_haveWays_21 (by decide) (fun c_21 => ?_) (fun c_21 => ?_)
        · skip
          have hend : 30 ≤ q ∨ ∀ i, i < 32 → x i = y i := Or.inr ((bz_eqI x y).mp c_21)
          refine lv_iload_n hx hb d_T_haveWays_80 rfl (lv_at hl 1 rfl) ?_
          refine lv_iload_n hx hb d_T_haveWays_81 rfl (lv_at hl 3 rfl) ?_
          refine lv_iconst (v := (-1)) hx hb d_T_haveWays_82 (by decide) ?_
          refine lv_ixor hx hb d_T_haveWays_83 ?_
          refine bz_ri (y := bz_m (fun i => !x i)) (bz_not _) ?_
          refine lv_iand hx hb d_T_haveWays_84 ?_
          refine bz_ri (y := bz_m (fun i => f i && !x i)) (bz_and _ _) ?_
          refine lv_if_ne (tgt := 92) hx hb d_T_haveWays_85 (by decide) (fun c_85 => ?_) (fun c_85 => ?_)
          · skip
            obtain ⟨b, hb1, hb2⟩ : ∃ b, f b = true ∧ x b = false := Classical.byContradiction fun z => c_85 ((bz_eq0 _).mpr fun i hi => by
              cases e1 : f i
              · rfl
              · cases e2 : x i
                · exact absurd ⟨i, e1, e2⟩ z
                · rfl)
            have hres := bz_hw_f ht hf hw hend hb1 hb2
            refine lv_iconst (v := 0) hx hb d_T_haveWays_92 (by decide) ?_
            exact W.zret (v := 0) hx hb hr (rfl) (fun t9 ht9 hW => ⟨0, rfl, by rw [bz_b0 hres]; rfl, ht9⟩) (fun _ h => nomatch h) d_T_haveWays_93
          · skip
            have c_85 := (bz_eq0 _).mp c_85
            have hres := bz_hw_t hw fun i hi => by
              have h1 := c_85 i (by have := hf i hi; have := ht.1; omega)
              rw [hi] at h1
              cases e : x i
              · rw [e] at h1; exact absurd h1 (by decide)
              · rfl
            refine lv_iconst (v := 1) hx hb d_T_haveWays_88 (by decide) ?_
            refine lv_goto (tgt := 93) hx hb d_T_haveWays_89 (by decide) ?_
            exact W.zret (v := 1) hx hb hr (rfl) (fun t9 ht9 hW => ⟨1, rfl, by rw [bz_b1 hres]; rfl, ht9⟩) (fun _ h => nomatch h) d_T_haveWays_93
        · skip
          have hne : ¬ ∀ i, i < 32 → x i = y i := fun z => c_21 ((bz_eqI x y).mpr z)
          refine lv_iload_n hx hb d_T_haveWays_24 rfl (lv_at hl 1 rfl) ?_
          refine lv_iload_n hx hb d_T_haveWays_25 rfl (lv_at hl 3 rfl) ?_
          refine lv_iconst (v := (-1)) hx hb d_T_haveWays_26 (by decide) ?_
          refine lv_ixor hx hb d_T_haveWays_27 ?_
          refine bz_ri (y := bz_m (fun i => !x i)) (bz_not _) ?_
          refine lv_iand hx hb d_T_haveWays_28 ?_
          refine bz_ri (y := bz_m (fun i => f i && !x i)) (bz_and _ _) ?_
          refine lv_if_eq (tgt := 80) hx hb d_T_haveWays_29 (by decide) (fun c_29 => ?_) (fun c_29 => ?_)
          · skip
            refine lv_iload_n hx hb d_T_haveWays_80 rfl (lv_at hl 1 rfl) ?_
            refine lv_iload_n hx hb d_T_haveWays_81 rfl (lv_at hl 3 rfl) ?_
            refine lv_iconst (v := (-1)) hx hb d_T_haveWays_82 (by decide) ?_
            refine lv_ixor hx hb d_T_haveWays_83 ?_
            refine bz_ri (y := bz_m (fun i => !x i)) (bz_not _) ?_
            refine lv_iand hx hb d_T_haveWays_84 ?_
            refine bz_ri (y := bz_m (fun i => f i && !x i)) (bz_and _ _) ?_
            refine lv_if_ne (tgt := 92) hx hb d_T_haveWays_85 (by decide) (fun c_85 => ?_) (fun c_85 => ?_)
            · skip
              exact absurd c_29 c_85
            · skip
              have c_85 := (bz_eq0 _).mp c_85
              have hres := bz_hw_t hw fun i hi => by
                have h1 := c_85 i (by have := hf i hi; have := ht.1; omega)
                rw [hi] at h1
                cases e : x i
                · rw [e] at h1; exact absurd h1 (by decide)
                · rfl
              refine lv_iconst (v := 1) hx hb d_T_haveWays_88 (by decide) ?_
              refine lv_goto (tgt := 93) hx hb d_T_haveWays_89 (by decide) ?_
              exact W.zret (v := 1) hx hb hr (rfl) (fun t9 ht9 hW => ⟨1, rfl, by rw [bz_b1 hres]; rfl, ht9⟩) (fun _ h => nomatch h) d_T_haveWays_93
          · skip
            refine lv_iload_n hx hb d_T_haveWays_32 rfl (lv_at hl 3 rfl) ?_
            refine lv_istore (lv' := [(4, .int (bz_m x)), (0, .ref (ad 1)), (1, .int (bz_m f)), (2, .int (bz_m o)), (3, .int (bz_m x)), (5, .int (nI q))]) hx hb d_T_haveWays_33 hl (by decide) rfl (fun ls hl => ?_)
            refine lv_iconst (v := nI 0) hx hb d_T_haveWays_35 (by decide) ?_
            refine lv_istore (lv' := [(6, .int (nI 0)), (4, .int (bz_m x)), (0, .ref (ad 1)), (1, .int (bz_m f)), (2, .int (bz_m o)), (3, .int (bz_m x)), (5, .int (nI q))]) hx hb d_T_haveWays_36 hl (by decide) rfl (fun ls hl => ?_)
            have lpi : ∀ (k9 : Nat) (k : Nat), bz_n t - k < k9 → (k ≤ bz_n t) → ∀ (ls : Array Slot), lv_has ls 7 [(0, .ref (ad 1)), (1, .int (bz_m f)), (2, .int (bz_m o)), (3, .int (bz_m (bz_ps (bz_j t) o x k))), (4, .int (bz_m x)), (5, .int (nI q)), (6, .int (nI k))] → W p l e (headSpec w_T_haveWays ({ frames := 0, cells := 0, slots := 0, locals := 0 })).room s m ([.ref (ad 1), .int (bz_m f), .int (bz_m o)]).toArray below meth c s.heap [] 0 0 (MQ below (vp_Si (fun r9 => r9 = nI (bz_b (bz_tg (bz_j t) f o)))) ([.ref (ad 1), .int (bz_m f), .int (bz_m o)]).toArray s 0 0 (fun _ => False)) (F0 m 38 ls []) := by
              intro k9
              induction k9 with
              | zero =>
                intro k h9
                exact absurd h9 (Nat.not_lt_zero _)
              | succ k9 ihlpi =>
                intro k h9_lpi hk ls hl
                refine lv_iload hx hb d_T_haveWays_38 (lv_at hl 6 rfl) ?_
                refine lv_aload_n hx hb d_T_haveWays_40 rfl (lv_at hl 0 rfl) ?_
                refine va_get (D := (dC, dI)) (ci := 2) (v := .int (nI (bz_n t))) (C := R_T) (T := F_T) (N := 6) hx hb htb in_T hown hK hP 1 rfl rfl 5 (by decide) (htb _ wd_55) (fun _ h9 => h9) rfl d_T_haveWays_41 ?_
                refine lv_icmp_ge (tgt := 74) hx hb d_T_haveWays_44 (by decide) (fun c_44 => ?_) (fun c_44 => ?_)
                · skip
                  have hkn : k = bz_n t := by have := (nI_leI (by have := ht.1; omega) (by have := ht.1; omega)).mp c_44; omega
                  have hl : lv_has ls 7 [(0, .ref (ad 1)), (1, .int (bz_m f)), (2, .int (bz_m o)), (3, .int (bz_m (bz_ps (bz_j t) o x (bz_n t)))), (4, .int (bz_m x)), (5, .int (nI q)), (6, .int (nI k))] := by rw [show bz_m (bz_ps (bz_j t) o x (bz_n t)) = bz_m (bz_ps (bz_j t) o x k) from by rw [hkn]]; exact hl
                  refine lv_iinc (v := nI (q + 1)) (lv' := [(5, .int (nI (q + 1))), (0, .ref (ad 1)), (1, .int (bz_m f)), (2, .int (bz_m o)), (3, .int (bz_m (bz_ps (bz_j t) o x (bz_n t)))), (4, .int (bz_m x)), (6, .int (nI k))]) hx hb d_T_haveWays_74 hl (k := 5) rfl (nI_1 _) (by decide) rfl (fun ls hl => ?_)
                  refine lv_goto (tgt := 11) hx hb d_T_haveWays_77 (by decide) ?_
                  exact ihlp (bz_ps (bz_j t) o x (bz_n t)) x (q + 1) (by omega) (bz_hw1 ht hw hne) (by omega) ls (lv_sub hl [1, 2, 3, 4, 5, 0] rfl)
                · skip
                  have hkn : k < bz_n t := Nat.lt_of_not_le fun z => c_44 ((nI_leI (by have := ht.1; omega) (by have := ht.1; omega)).mpr z)
                  refine lv_iload_n hx hb d_T_haveWays_47 rfl (lv_at hl 3 rfl) ?_
                  refine lv_iconst (v := 1) hx hb d_T_haveWays_48 (by decide) ?_
                  refine lv_iload hx hb d_T_haveWays_49 (lv_at hl 6 rfl) ?_
                  refine lv_ishl hx hb d_T_haveWays_51 ?_
                  refine lv_iand hx hb d_T_haveWays_52 ?_
                  refine lv_if_eq (tgt := 68) hx hb d_T_haveWays_53 (by decide) (fun c_53 => ?_) (fun c_53 => ?_)
                  · skip
                    have hq0 := (bz_test _ (by have := ht.1; omega)).mp c_53
                    have hl : lv_has ls 7 [(0, .ref (ad 1)), (1, .int (bz_m f)), (2, .int (bz_m o)), (3, .int (bz_m (bz_ps (bz_j t) o x (k + 1)))), (4, .int (bz_m x)), (5, .int (nI q)), (6, .int (nI k))] := by rw [show bz_m (bz_ps (bz_j t) o x (k + 1)) = bz_m (bz_ps (bz_j t) o x k) from by rw [bz_ps_0 hq0]]; exact hl
                    refine lv_iinc (v := nI (k + 1)) (lv' := [(6, .int (nI (k + 1))), (0, .ref (ad 1)), (1, .int (bz_m f)), (2, .int (bz_m o)), (3, .int (bz_m (bz_ps (bz_j t) o x (k + 1)))), (4, .int (bz_m x)), (5, .int (nI q))]) hx hb d_T_haveWays_68 hl (k := 6) rfl (nI_1 _) (by decide) rfl (fun ls hl => ?_)
                    refine lv_goto (tgt := 38) hx hb d_T_haveWays_71 (by decide) ?_
                    exact ihlpi (k + 1) (by omega) (by omega) ls (lv_sub hl [1, 2, 3, 4, 5, 6, 0] rfl)
                  · skip
                    have hq1 := ts_nf (fun z => c_53 ((bz_test _ (by have := ht.1; omega)).mpr z))
                    refine lv_iload_n hx hb d_T_haveWays_56 rfl (lv_at hl 3 rfl) ?_
                    refine lv_aload_n hx hb d_T_haveWays_57 rfl (lv_at hl 0 rfl) ?_
                    refine va_get (D := (dC, dI)) (ci := 2) (v := .ref (ad 4)) (C := R_T) (T := F_T) (N := 6) hx hb htb in_T hown hK hP 1 rfl rfl 2 (by decide) (htb _ wd_50) (fun _ h9 => h9) rfl d_T_haveWays_58 ?_
                    refine lv_iload hx hb d_T_haveWays_61 (lv_at hl 6 rfl) ?_
                    refine bz_iald (v := bz_m (bz_j t k)) hx hb hK hP 4 0 rfl rfl (a9 := k) (by have := ht.1; omega) (by decide) (rfl) d_T_haveWays_63 ?_
                    refine lv_iload_n hx hb d_T_haveWays_64 rfl (lv_at hl 2 rfl) ?_
                    refine lv_iand hx hb d_T_haveWays_65 ?_
                    refine bz_ri (y := bz_m (fun i => bz_j t k i && o i)) (bz_and _ _) ?_
                    refine lv_ior hx hb d_T_haveWays_66 ?_
                    refine bz_ri (y := bz_m (bz_ps (bz_j t) o x (k + 1))) (by rw [bz_or, bz_ps_1 hq1]) ?_
                    refine lv_istore_n (lv' := [(3, .int (bz_m (bz_ps (bz_j t) o x (k + 1)))), (0, .ref (ad 1)), (1, .int (bz_m f)), (2, .int (bz_m o)), (4, .int (bz_m x)), (5, .int (nI q)), (6, .int (nI k))]) hx hb d_T_haveWays_67 rfl hl (by decide) rfl (fun ls hl => ?_)
                    refine lv_iinc (v := nI (k + 1)) (lv' := [(6, .int (nI (k + 1))), (3, .int (bz_m (bz_ps (bz_j t) o x (k + 1)))), (0, .ref (ad 1)), (1, .int (bz_m f)), (2, .int (bz_m o)), (4, .int (bz_m x)), (5, .int (nI q))]) hx hb d_T_haveWays_68 hl (k := 6) rfl (nI_1 _) (by decide) rfl (fun ls hl => ?_)
                    refine lv_goto (tgt := 38) hx hb d_T_haveWays_71 (by decide) ?_
                    exact ihlpi (k + 1) (by omega) (by omega) ls (lv_sub hl [2, 3, 4, 1, 5, 6, 0] rfl)
            exact lpi _ 0 (Nat.lt_succ_self _) (by omega) ls (lv_sub hl [2, 3, 4, 5, 1, 6, 0] rfl)
  exact lp _ (fun i => f i && !(decide (∃ j, j < i ∧ f j = true))) (fun _ => false) 0 (Nat.lt_succ_self _) (bz_hw0 hf) (by omega) ls (lv_sub hl [3, 4, 5, 2, 1, 0] rfl)
