theorem d_M_tryAll_0 : decode b_M_tryAll 0 = .ok (.iconst 1, 1) := by decide +kernel
theorem d_M_tryAll_1 : decode b_M_tryAll 1 = .ok (.istore_n 1, 1) := by decide +kernel
theorem d_M_tryAll_2 : decode b_M_tryAll 2 = .ok (.iconst 0, 1) := by decide +kernel
theorem d_M_tryAll_3 : decode b_M_tryAll 3 = .ok (.istore_n 2, 1) := by decide +kernel
theorem d_M_tryAll_4 : decode b_M_tryAll 4 = .ok (.iload_n 2, 1) := by decide +kernel
theorem d_M_tryAll_5 : decode b_M_tryAll 5 = .ok (.aload_n 0, 1) := by decide +kernel
theorem d_M_tryAll_6 : decode b_M_tryAll 6 = .ok (.getfield 36, 3) := by decide +kernel
theorem d_M_tryAll_9 : decode b_M_tryAll 9 = .ok (.if_icmp .ge 13, 3) := by decide +kernel
theorem d_M_tryAll_12 : decode b_M_tryAll 12 = .ok (.iconst 4, 1) := by decide +kernel
theorem d_M_tryAll_13 : decode b_M_tryAll 13 = .ok (.iload_n 1, 1) := by decide +kernel
theorem d_M_tryAll_14 : decode b_M_tryAll 14 = .ok (.imul, 1) := by decide +kernel
theorem d_M_tryAll_15 : decode b_M_tryAll 15 = .ok (.istore_n 1, 1) := by decide +kernel
theorem d_M_tryAll_16 : decode b_M_tryAll 16 = .ok (.iinc 2 1, 3) := by decide +kernel
theorem d_M_tryAll_19 : decode b_M_tryAll 19 = .ok (.goto (-15), 3) := by decide +kernel
theorem d_M_tryAll_22 : decode b_M_tryAll 22 = .ok (.ldc2_w 98, 3) := by decide +kernel
theorem d_M_tryAll_25 : decode b_M_tryAll 25 = .ok (.lstore_n 2, 1) := by decide +kernel
theorem d_M_tryAll_26 : decode b_M_tryAll 26 = .ok (.iconst 0, 1) := by decide +kernel
theorem d_M_tryAll_27 : decode b_M_tryAll 27 = .ok (.istore 4, 2) := by decide +kernel
theorem d_M_tryAll_29 : decode b_M_tryAll 29 = .ok (.iload 4, 2) := by decide +kernel
theorem d_M_tryAll_31 : decode b_M_tryAll 31 = .ok (.iload_n 1, 1) := by decide +kernel
theorem d_M_tryAll_32 : decode b_M_tryAll 32 = .ok (.if_icmp .ge 101, 3) := by decide +kernel
theorem d_M_tryAll_35 : decode b_M_tryAll 35 = .ok (.iload 4, 2) := by decide +kernel
theorem d_M_tryAll_37 : decode b_M_tryAll 37 = .ok (.istore 5, 2) := by decide +kernel
theorem d_M_tryAll_39 : decode b_M_tryAll 39 = .ok (.aload_n 0, 1) := by decide +kernel
theorem d_M_tryAll_40 : decode b_M_tryAll 40 = .ok (.getfield 36, 3) := by decide +kernel
theorem d_M_tryAll_43 : decode b_M_tryAll 43 = .ok (.iconst 1, 1) := by decide +kernel
theorem d_M_tryAll_44 : decode b_M_tryAll 44 = .ok (.isub, 1) := by decide +kernel
theorem d_M_tryAll_45 : decode b_M_tryAll 45 = .ok (.istore 6, 2) := by decide +kernel
theorem d_M_tryAll_47 : decode b_M_tryAll 47 = .ok (.iload 6, 2) := by decide +kernel
theorem d_M_tryAll_49 : decode b_M_tryAll 49 = .ok (.ifCond .lt 26, 3) := by decide +kernel
theorem d_M_tryAll_52 : decode b_M_tryAll 52 = .ok (.aload_n 0, 1) := by decide +kernel
theorem d_M_tryAll_53 : decode b_M_tryAll 53 = .ok (.getfield 30, 3) := by decide +kernel
theorem d_M_tryAll_56 : decode b_M_tryAll 56 = .ok (.iload 6, 2) := by decide +kernel
theorem d_M_tryAll_58 : decode b_M_tryAll 58 = .ok (.iload 5, 2) := by decide +kernel
theorem d_M_tryAll_60 : decode b_M_tryAll 60 = .ok (.iconst 4, 1) := by decide +kernel
theorem d_M_tryAll_61 : decode b_M_tryAll 61 = .ok (.irem, 1) := by decide +kernel
theorem d_M_tryAll_62 : decode b_M_tryAll 62 = .ok (.iastore, 1) := by decide +kernel
theorem d_M_tryAll_63 : decode b_M_tryAll 63 = .ok (.iload 5, 2) := by decide +kernel
theorem d_M_tryAll_65 : decode b_M_tryAll 65 = .ok (.iconst 4, 1) := by decide +kernel
theorem d_M_tryAll_66 : decode b_M_tryAll 66 = .ok (.idiv, 1) := by decide +kernel
theorem d_M_tryAll_67 : decode b_M_tryAll 67 = .ok (.istore 5, 2) := by decide +kernel
theorem d_M_tryAll_69 : decode b_M_tryAll 69 = .ok (.iinc 6 (-1), 3) := by decide +kernel
theorem d_M_tryAll_72 : decode b_M_tryAll 72 = .ok (.goto (-25), 3) := by decide +kernel
theorem d_M_tryAll_75 : decode b_M_tryAll 75 = .ok (.aload_n 0, 1) := by decide +kernel
theorem d_M_tryAll_76 : decode b_M_tryAll 76 = .ok (.aload_n 0, 1) := by decide +kernel
theorem d_M_tryAll_77 : decode b_M_tryAll 77 = .ok (.getfield 30, 3) := by decide +kernel
theorem d_M_tryAll_80 : decode b_M_tryAll 80 = .ok (.invokevirtual 100, 3) := by decide +kernel
theorem d_M_tryAll_83 : decode b_M_tryAll 83 = .ok (.lstore 6, 2) := by decide +kernel
theorem d_M_tryAll_85 : decode b_M_tryAll 85 = .ok (.lload 6, 2) := by decide +kernel
theorem d_M_tryAll_87 : decode b_M_tryAll 87 = .ok (.lload_n 2, 1) := by decide +kernel
theorem d_M_tryAll_88 : decode b_M_tryAll 88 = .ok (.lcmp, 1) := by decide +kernel
theorem d_M_tryAll_89 : decode b_M_tryAll 89 = .ok (.ifCond .ge 38, 3) := by decide +kernel
theorem d_M_tryAll_92 : decode b_M_tryAll 92 = .ok (.lload 6, 2) := by decide +kernel
theorem d_M_tryAll_94 : decode b_M_tryAll 94 = .ok (.lstore_n 2, 1) := by decide +kernel
theorem d_M_tryAll_95 : decode b_M_tryAll 95 = .ok (.iconst 0, 1) := by decide +kernel
theorem d_M_tryAll_96 : decode b_M_tryAll 96 = .ok (.istore 8, 2) := by decide +kernel
theorem d_M_tryAll_98 : decode b_M_tryAll 98 = .ok (.iload 8, 2) := by decide +kernel
theorem d_M_tryAll_100 : decode b_M_tryAll 100 = .ok (.aload_n 0, 1) := by decide +kernel
theorem d_M_tryAll_101 : decode b_M_tryAll 101 = .ok (.getfield 36, 3) := by decide +kernel
theorem d_M_tryAll_104 : decode b_M_tryAll 104 = .ok (.if_icmp .ge 23, 3) := by decide +kernel
theorem d_M_tryAll_107 : decode b_M_tryAll 107 = .ok (.aload_n 0, 1) := by decide +kernel
theorem d_M_tryAll_108 : decode b_M_tryAll 108 = .ok (.getfield 27, 3) := by decide +kernel
theorem d_M_tryAll_111 : decode b_M_tryAll 111 = .ok (.iload 8, 2) := by decide +kernel
theorem d_M_tryAll_113 : decode b_M_tryAll 113 = .ok (.aload_n 0, 1) := by decide +kernel
theorem d_M_tryAll_114 : decode b_M_tryAll 114 = .ok (.getfield 30, 3) := by decide +kernel
theorem d_M_tryAll_117 : decode b_M_tryAll 117 = .ok (.iload 8, 2) := by decide +kernel
theorem d_M_tryAll_119 : decode b_M_tryAll 119 = .ok (.iaload, 1) := by decide +kernel
theorem d_M_tryAll_120 : decode b_M_tryAll 120 = .ok (.iastore, 1) := by decide +kernel
theorem d_M_tryAll_121 : decode b_M_tryAll 121 = .ok (.iinc 8 1, 3) := by decide +kernel
theorem d_M_tryAll_124 : decode b_M_tryAll 124 = .ok (.goto (-26), 3) := by decide +kernel
theorem d_M_tryAll_127 : decode b_M_tryAll 127 = .ok (.iinc 4 1, 3) := by decide +kernel
theorem d_M_tryAll_130 : decode b_M_tryAll 130 = .ok (.goto (-101), 3) := by decide +kernel
theorem d_M_tryAll_133 : decode b_M_tryAll 133 = .ok (.return_, 1) := by decide +kernel

theorem bz_mr_x (x : Nat) : bz_mr x x = x := if_pos (Nat.le_refl x)
def bz_ms (lf n a r : Nat) : Nat := lf * (4 * n + 5) + (4 * (n - a) - r)
theorem bz_ms_1 {lf n a r a2 r2 : Nat} (h : 0 < lf) : bz_ms (lf - 1) n a2 r2 < bz_ms lf n a r := by
  unfold bz_ms
  obtain ⟨k, rfl⟩ : ∃ k, lf = k + 1 := ⟨lf - 1, by omega⟩
  have e : (k + 1) * (4 * n + 5) = k * (4 * n + 5) + (4 * n + 5) := Nat.succ_mul _ _
  rw [Nat.add_sub_cancel, e]
  omega
theorem bz_ms_2 {lf n a r : Nat} (ha : a < n) (hr : r < 4) : bz_ms lf n a (r + 1) < bz_ms lf n a r := by
  unfold bz_ms
  omega
theorem bz_ms_3 {lf n a r : Nat} (ha : a < n) (hr : r + 1 = 4) : bz_ms lf n (a + 1) 0 < bz_ms lf n a r := by
  unfold bz_ms
  omega
/-- a row as a number to the base of four -/
def bz_cd (s : Nat → Nat) : Nat → Nat
  | 0 => 0
  | i + 1 => 4 * bz_cd s i + s i
theorem bz_cd_lt {s : Nat → Nat} : ∀ {n : Nat}, (∀ a, a < n → s a < 4) → bz_cd s n < 4 ^ n
  | 0, _ => by
    show (0 : Nat) < 1
    omega
  | n + 1, h => by
    have h1 := bz_cd_lt (s := s) (n := n) (fun a ha => h a (by omega))
    have h2 := h n (by omega)
    show 4 * bz_cd s n + s n < 4 ^ (n + 1)
    rw [Nat.pow_succ]
    omega
theorem bz_cd_ext {s s2 : Nat → Nat} : ∀ {n : Nat}, (∀ a, a < n → s a = s2 a) → bz_cd s n = bz_cd s2 n
  | 0, _ => rfl
  | n + 1, h => by
    show 4 * bz_cd s n + s n = 4 * bz_cd s2 n + s2 n
    rw [bz_cd_ext (fun a ha => h a (by omega)), h n (by omega)]
theorem bz_cd_inj {s s2 : Nat → Nat} : ∀ {n : Nat}, (∀ a, a < n → s a < 4) → (∀ a, a < n → s2 a < 4) → bz_cd s n = bz_cd s2 n → ∀ a, a < n → s a = s2 a
  | 0, _, _, _, a, ha => absurd ha (by omega)
  | n + 1, h1, h2, he, a, ha => by
    have he : 4 * bz_cd s n + s n = 4 * bz_cd s2 n + s2 n := he
    have q1 := h1 n (by omega)
    have q2 := h2 n (by omega)
    by_cases e : a = n
    · subst e
      omega
    · exact bz_cd_inj (n := n) (fun a ha => h1 a (by omega)) (fun a ha => h2 a (by omega)) (by omega) a (by omega)
theorem bz_cd_lx {s s2 : Nat → Nat} : ∀ {n : Nat}, (∀ a, a < n → s a < 4) → (∀ a, a < n → s2 a < 4) → bz_cd s n < bz_cd s2 n → ∃ a, a < n ∧ (∀ i, i < a → s i = s2 i) ∧ s a < s2 a
  | 0, _, _, h => absurd h (by simp [bz_cd])
  | n + 1, h1, h2, h => by
    have h : 4 * bz_cd s n + s n < 4 * bz_cd s2 n + s2 n := h
    have q1 := h1 n (by omega)
    have q2 := h2 n (by omega)
    by_cases e : bz_cd s n = bz_cd s2 n
    · exact ⟨n, by omega, bz_cd_inj (fun a ha => h1 a (by omega)) (fun a ha => h2 a (by omega)) e, by omega⟩
    · obtain ⟨a, a1, a2, a3⟩ := bz_cd_lx (s := s) (s2 := s2) (n := n) (fun a ha => h1 a (by omega)) (fun a ha => h2 a (by omega)) (by omega)
      exact ⟨a, by omega, a2, a3⟩
theorem bz_cd_dg {y : Nat → Nat} {n k : Nat} (hk : k < 4 ^ n) (hy : ∀ a, a < n → y a = k / 4 ^ (n - 1 - a) % 4) : ∀ i, i ≤ n → bz_cd y i = k / 4 ^ (n - i)
  | 0, _ => by
    show 0 = _
    rw [Nat.sub_zero, Nat.div_eq_of_lt hk]
  | i + 1, hi => by
    have ih := bz_cd_dg hk hy i (by omega)
    show 4 * bz_cd y i + y i = _
    rw [ih, hy i (by omega), show n - 1 - i = n - (i + 1) by omega, show n - i = n - (i + 1) + 1 by omega, Nat.pow_succ, ← Nat.div_div_eq_div_mul]
    omega
def bz_Ec (t : bz_T) (k : Nat) (s : Nat → Nat) : Prop := (∀ a, a < bz_n t → s a < 4) ∧ bz_cd s (bz_n t) < k
theorem bz_Ec_0 {t : bz_T} {b : Nat × (Nat → Nat)} : bz_up t (bz_Ec t 0) b b := Or.inl ⟨rfl, fun _ _ => rfl, fun _ hs => absurd hs.2 (by omega)⟩
theorem bz_Ec_1 {t : bz_T} {k : Nat} {y : Nat → Nat} {b c d : Nat × (Nat → Nat)} (hk : k < 4 ^ bz_n t) (hy : ∀ a, a < bz_n t → y a = k / 4 ^ (bz_n t - 1 - a) % 4) (h1 : bz_up t (bz_Ec t k) b c) (h2 : bz_up t (bz_E t (bz_n t) y) c d) : bz_up t (bz_Ec t (k + 1)) b d := by
  have hy4 : ∀ a, a < bz_n t → y a < 4 := fun a ha => by rw [hy a ha]; exact Nat.mod_lt _ (by omega)
  have hcy : bz_cd y (bz_n t) = k := by
    rw [bz_cd_dg hk hy (bz_n t) (Nat.le_refl _), Nat.sub_self, Nat.pow_zero, Nat.div_one]
  have hE2 : ∀ s, bz_E t (bz_n t) y s → bz_cd s (bz_n t) = k := fun s hs => by
    rw [bz_cd_ext fun a ha => hs.2 a ha ha]
    exact hcy
  refine bz_seq (E1 := bz_Ec t k) (E2 := bz_E t (bz_n t) y) (fun s => ⟨?_, ?_⟩) (fun s1 s2 q1 q2 => ?_) (fun s s2 q h => ?_) h1 h2
  · rintro ⟨q1, q2⟩
    by_cases e : bz_cd s (bz_n t) < k
    · exact Or.inl ⟨q1, e⟩
    · exact Or.inr ⟨q1, fun a _ ha => bz_cd_inj q1 hy4 (by omega) a ha⟩
  · rintro (⟨q1, q2⟩ | q)
    · exact ⟨q1, by omega⟩
    · exact ⟨q.1, by have := hE2 s q; omega⟩
  · exact Or.inr (bz_cd_lx q1.1 q2.1 (by rw [hE2 s2 q2]; exact q1.2))
  · exact ⟨fun a ha => by rw [h a ha]; exact q.1 a ha, by rw [bz_cd_ext h]; exact q.2⟩
theorem bz_Ec_n {t : bz_T} (ht : bz_ok t) {k : Nat} (hk : 4 ^ bz_n t ≤ k) {g : Nat → Nat} {c : Nat × (Nat → Nat)} (h : bz_up t (bz_Ec t k) (9223372036854775807, g) c) : bz_bs t c.2 :=
  bz_bs_of ht.2.2.1 (by show bz_co t (bz_fu (bz_d t)) < 9223372036854775807; have := bz_co_le ht (bz_fu (bz_d t)); omega) (bz_up_iff (E2 := bz_E t 0 g) (fun s => ⟨fun q => ⟨q.1, fun a ha => absurd ha (by omega)⟩, fun q => ⟨q.1, by have := bz_cd_lt q.1; omega⟩⟩) h)
theorem bz_im1 (x : Int32) : x + Int32.ofInt (-1) = x - 1 := by rw [Int32.sub_eq_add_neg]; rfl

set_option maxHeartbeats 4000000 in
set_option maxRecDepth 100000 in
/-- tryMoves -/
theorem c_M_tryMoves (l : Launch) (dC : Nat → ClassId) (dI : Nat → Nat → Nat) (sz : Nat) (am : Nat → Nat) (cI cL cZ : ClassId) (t : bz_T) (th sv ex : Int32) (g0 : Nat → Nat) (S2 S3 : Nat → Int32) (ht : bz_ok t) (K : Nat) (hK0 : K ≤ 100000) : Met l y_M_tryMoves w_M_tryMoves ({ frames := 4, cells := 0, slots := 0, locals := 96 }) (bz_Pw (dC, dI) [(cI, .int), (cL, .long), (cZ, .boolean)] (bz_wM am cI cL cZ (bz_tM t) (th, sv, ex) ((fun a => nI (g0 a)), S2, S3)) sz [.ref (am 0), .long (lN K)]) (bz_Qx (dC, dI) [(cI, .int), (cL, .long), (cZ, .boolean)] (va_A (bz_wM am cI cL cZ (bz_tM t) (th, sv, ex) ((fun a => nI (g0 a)), S2, S3)) sz) (fun u : (Nat → Nat) × (Nat → Int32) => (∀ a, a < bz_n t → u.1 a < 4) ∧ ∀ a, a < bz_n t → u.1 a = bz_mv t K 0 (bz_d t) a) (fun u : (Nat → Nat) × (Nat → Int32) => bz_wM am cI cL cZ (bz_tM t) (th, sv, ex) ((fun a => nI (u.1 a)), S2, u.2))) 0 0 (va_A (bz_wM am cI cL cZ (bz_tM t) (th, sv, ex) ((fun a => nI (g0 a)), S2, S3)) sz) := by
  refine Met.ofW (cc := b_M_tryMoves) (maxL := 13) (ret := none) (by decide) rfl ?_
  intro p e s m args below meth c s₁ B hml hv
  obtain ⟨rfl, hsz, hP, hK, hD0, hN⟩ := hv
  have hx := B.exec
  have hb := B.bytes
  have hr := B.returns
  have hts := atoms_spec (ws := w_M_tryMoves) B.pre
  have hown : s.vm.findClass R_M = some m.cls := findClass_of_methodNamed B.named
  have htb : ∀ w ∈ bz_tb, w.before _ s = true := fun w h => hts w (List.mem_cons_of_mem _ h)
  have hlocks := B.notSynchronized
  subst hsz
  have hD := hD0.self (sz := s.heap.size)
  generalize hAe : va_A (bz_wM am cI cL cZ (bz_tM t) (th, sv, ex) ((fun a => nI (g0 a)), S2, S3)) s.heap.size = A at hD ⊢
  have hA : ∀ q : Nat, s.heap.size ≤ q → A q := fun q h => by rw [← hAe]; exact Or.inr h
  have hS : va_S A s.heap s.heap [] := va_S.rf
  have hl := lv_entry ([.ref (am 0), .long (lN K)]) (n := 13) (Nat.le_of_ble_eq_true rfl)
  rw [lg_entry_eq]
  generalize (lg_sl ([.ref (am 0), .long (lN K)]) ++ List.replicate (13 - (lg_sl ([.ref (am 0), .long (lN K)])).length) Slot.unset).toArray = ls at hl ⊢
  have hl : lv_has ls 13 [(0, .ref (am 0)), (1, .long (lN K))] := hl
  have hn30 := ht.1
  refine lv_iconst (v := nI 0) hx hb d_M_tryMoves_0 (by decide) ?_
  refine lv_istore_n (lv' := [(3, .int (nI 0)), (0, .ref (am 0)), (1, .long (lN K))]) hx hb d_M_tryMoves_1 rfl hl (by decide) rfl (fun ls hl => ?_)
  have e9 : (fun a => nI (bz_cp (bz_d t) g0 0 a)) = (fun a => nI (g0 a)) := by rw [bz_cp_0]
  rw [← e9] at hP hD
  have lpc : ∀ (k9 : Nat) (i : Nat), bz_n t - i < k9 → (i ≤ bz_n t) → ∀ (H : Heap) (locs : List Loc), va_P (dC, dI) vwCl (bz_wM am cI cL cZ (bz_tM t) (th, sv, ex) ((fun a => nI (bz_cp (bz_d t) g0 i a)), S2, S3)) H → va_D A (bz_wM am cI cL cZ (bz_tM t) (th, sv, ex) ((fun a => nI (bz_cp (bz_d t) g0 i a)), S2, S3)) → va_S A s.heap H locs → ∀ (ls : Array Slot), lv_has ls 13 [(0, .ref (am 0)), (1, .long (lN K)), (3, .int (nI i))] → W p l e (headSpec w_M_tryMoves ({ frames := 4, cells := 0, slots := 0, locals := 96 })).room s m ([.ref (am 0), .long (lN K)]).toArray below meth c H locs 0 0 (MQ below (bz_Qx (dC, dI) [(cI, .int), (cL, .long), (cZ, .boolean)] A (fun u : (Nat → Nat) × (Nat → Int32) => (∀ a, a < bz_n t → u.1 a < 4) ∧ ∀ a, a < bz_n t → u.1 a = bz_mv t K 0 (bz_d t) a) (fun u : (Nat → Nat) × (Nat → Int32) => bz_wM am cI cL cZ (bz_tM t) (th, sv, ex) ((fun a => nI (u.1 a)), S2, u.2))) ([.ref (am 0), .long (lN K)]).toArray s 0 0 (A)) (F0 m 2 ls []) := by
    intro k9
    induction k9 with
    | zero =>
      intro i h9
      exact absurd h9 (Nat.not_lt_zero _)
    | succ k9 ihlpc =>
      intro i h9_lpc hi H locs hP hD hS ls hl
      refine lv_iload_n hx hb d_M_tryMoves_2 rfl (lv_at hl 2 rfl) ?_
      refine lv_aload_n hx hb d_M_tryMoves_3 rfl (lv_at hl 0 rfl) ?_
      refine va_get (D := (dC, dI)) (ci := 4) (v := .int (nI (bz_n t))) (C := R_M) (T := F_M) (N := 12) hx hb htb in_M hown hK hP 0 rfl rfl 1 (by decide) (htb _ wd_412) (fun _ h9 => h9) rfl d_M_tryMoves_4 ?_
      refine lv_icmp_ge (tgt := 28) hx hb d_M_tryMoves_7 (by decide) (fun c_7 => ?_) (fun c_7 => ?_)
      · skip
        have hin : i = bz_n t := by have := (nI_leI (by omega) (by omega)).mp c_7; omega
        have e9 : (fun a => nI (bz_cp (bz_d t) g0 (bz_n t) a)) = (fun a => nI (bz_cp (bz_d t) g0 i a)) := by rw [hin]
        rw [← e9] at hP hD
        refine lv_aload_n hx hb d_M_tryMoves_28 rfl (lv_at hl 0 rfl) ?_
        refine lv_aload_n hx hb d_M_tryMoves_29 rfl (lv_at hl 0 rfl) ?_
        refine va_get (D := (dC, dI)) (ci := 4) (v := .ref (am 6)) (C := R_M) (T := F_M) (N := 12) hx hb htb in_M hown hK hP 0 rfl rfl 9 (by decide) (htb _ wd_420) (fun _ h9 => h9) rfl d_M_tryMoves_30 ?_
        have hf : ∀ a, a < bz_n t → bz_cp (bz_d t) g0 (bz_n t) a < 4 := fun a ha => by rw [bz_cp_lo ha]; exact ht.2.2.1 a
        refine bz_cxl (va_runV (As := [.ref (am 6)]) (rest := []) ⟨hx, hb, hml, hown, htb⟩ (c_M_cost_share l dC dI _ am cI cL cZ t th sv ex (bz_cp (bz_d t) g0 (bz_n t)) S2 S3 ht hf) (cwV 1 htb (bz_gV wd_497 wd_494 wd_496 wd_8 wd_23) rfl rfl rfl (by decide +kernel) ⟨Nat.le_of_ble_eq_true rfl, Nat.le_of_ble_eq_true rfl⟩) (bz_wv hN hK hP hD (q0 := 0) rfl rfl) rfl rfl hl.1 rfl (lv_room (Nat.le_of_ble_eq_true rfl)) d_M_tryMoves_33 ⟨Nat.zero_le _, Nat.zero_le _⟩) hD hS hA (fun r9 u hu H locs hP hD hS => ?_)
        obtain rfl : r9 = lN (bz_co t (bz_fu (bz_cp (bz_d t) g0 (bz_n t)))) := hu
        have hP : va_P (dC, dI) vwCl (bz_wM am cI cL cZ (bz_tM t) (th, sv, ex) ((fun a => nI (bz_cp (bz_d t) g0 (bz_n t) a)), S2, u)) H := hP
        have hD : va_D A (bz_wM am cI cL cZ (bz_tM t) (th, sv, ex) ((fun a => nI (bz_cp (bz_d t) g0 (bz_n t) a)), S2, u)) := hD
        refine lv_lstore_n (lv' := [(3, .long (lN (bz_co t (bz_fu (bz_cp (bz_d t) g0 (bz_n t)))))), (0, .ref (am 0)), (1, .long (lN K))]) hx hb d_M_tryMoves_36 rfl hl (by decide) rfl (fun ls hl => ?_)
        refine lv_lload_n hx hb d_M_tryMoves_37 rfl (lv_at hl 2 rfl) ?_
        refine lv_lstore (lv' := [(5, .long (lN K)), (3, .long (lN (bz_co t (bz_fu (bz_cp (bz_d t) g0 (bz_n t)))))), (0, .ref (am 0)), (1, .long (lN K))]) hx hb d_M_tryMoves_38 hl (by decide) rfl (fun ls hl => ?_)
        refine lv_iconst (v := nI 0) hx hb d_M_tryMoves_40 (by decide) ?_
        refine lv_istore (lv' := [(7, .int (nI 0)), (5, .long (lN K)), (3, .long (lN (bz_co t (bz_fu (bz_cp (bz_d t) g0 (bz_n t)))))), (0, .ref (am 0)), (1, .long (lN K))]) hx hb d_M_tryMoves_41 hl (by decide) rfl (fun ls hl => ?_)
        refine lv_iconst (v := nI 0) hx hb d_M_tryMoves_43 (by decide) ?_
        refine lv_istore (lv' := [(8, .int (nI 0)), (7, .int (nI 0)), (5, .long (lN K)), (3, .long (lN (bz_co t (bz_fu (bz_cp (bz_d t) g0 (bz_n t)))))), (0, .ref (am 0)), (1, .long (lN K))]) hx hb d_M_tryMoves_44 hl (by decide) rfl (fun ls hl => ?_)
        have lpm : ∀ (k9 : Nat) (ai : Nat) (r : Nat) (lf : Nat) (g : Nat → Nat) (u : Nat → Int32), bz_ms lf (bz_n t) ai r < k9 → (ai ≤ bz_n t) → (r < 4) → (lf ≤ K) → (∀ a, a < bz_n t → g a < 4) → (bz_mv t K 0 (bz_cp (bz_d t) g0 (bz_n t)) = bz_mv t lf (3 * ai + bz_mr r (g ai)) g) → ∀ (H : Heap) (locs : List Loc), va_P (dC, dI) vwCl (bz_wM am cI cL cZ (bz_tM t) (th, sv, ex) ((fun a => nI (g a)), S2, u)) H → va_D A (bz_wM am cI cL cZ (bz_tM t) (th, sv, ex) ((fun a => nI (g a)), S2, u)) → va_S A s.heap H locs → ∀ (ls : Array Slot), lv_has ls 13 [(0, .ref (am 0)), (1, .long (lN K)), (3, .long (lN (bz_co t (bz_fu g)))), (5, .long (lN lf)), (7, .int (nI ai)), (8, .int (nI r))] → W p l e (headSpec w_M_tryMoves ({ frames := 4, cells := 0, slots := 0, locals := 96 })).room s m ([.ref (am 0), .long (lN K)]).toArray below meth c H locs 0 0 (MQ below (bz_Qx (dC, dI) [(cI, .int), (cL, .long), (cZ, .boolean)] A (fun u : (Nat → Nat) × (Nat → Int32) => (∀ a, a < bz_n t → u.1 a < 4) ∧ ∀ a, a < bz_n t → u.1 a = bz_mv t K 0 (bz_d t) a) (fun u : (Nat → Nat) × (Nat → Int32) => bz_wM am cI cL cZ (bz_tM t) (th, sv, ex) ((fun a => nI (u.1 a)), S2, u.2))) ([.ref (am 0), .long (lN K)]).toArray s 0 0 (A)) (F0 m 46 ls []) := by
          intro k9
          induction k9 with
          | zero =>
            intro ai r lf g u h9
            exact absurd h9 (Nat.not_lt_zero _)
          | succ k9 ihlpm =>
            intro ai r lf g u h9_lpm hai hr4 hlf hg hmv H locs hP hD hS ls hl
            refine lv_iload hx hb d_M_tryMoves_46 (lv_at hl 4 rfl) ?_
            refine lv_aload_n hx hb d_M_tryMoves_48 rfl (lv_at hl 0 rfl) ?_
            refine va_get (D := (dC, dI)) (ci := 4) (v := .int (nI (bz_n t))) (C := R_M) (T := F_M) (N := 12) hx hb htb in_M hown hK hP 0 rfl rfl 1 (by decide) (htb _ wd_412) (fun _ h9 => h9) rfl d_M_tryMoves_49 ?_
            refine lv_icmp_ge (tgt := 202) hx hb d_M_tryMoves_52 (by decide) (fun c_52 => ?_) (fun c_52 => ?_)
            · skip
              have hend : bz_mv t lf (3 * ai + bz_mr r (g ai)) g = g := bz_mv_end (by have := (nI_leI (by omega) (by omega)).mp c_52; omega) _ _
              exact W.vret hx hb hr (fun t9 ht9 hW => ⟨⟨(g, u), rfl, ⟨hg, fun a ha => by rw [← bz_mv_ext K 0 _ _ (fun a ha => bz_cp_lo (x := g0) ha) a ha, hmv, hend]⟩, by rw [ht9]; exact hP, va_K.moved hW.alike hK, hD⟩, hS.F ht9⟩) hS.2.2 d_M_tryMoves_202
            · skip
              have hain : ai < bz_n t := Nat.lt_of_not_le fun z => c_52 ((nI_leI (by omega) (by omega)).mpr z)
              have hga := hg ai hain
              refine lv_lload hx hb d_M_tryMoves_55 (lv_at hl 3 rfl) ?_
              refine lv_lconst (v := 0) hx hb d_M_tryMoves_57 (by decide) ?_
              refine W.lcmp hx hb d_M_tryMoves_58 ?_
              refine lv_if_le (tgt := 202) hx hb d_M_tryMoves_59 (by decide) (fun c_59 => ?_) (fun c_59 => ?_)
              · skip
                have hend : bz_mv t lf (3 * ai + bz_mr r (g ai)) g = g := by rw [show lf = 0 by have := (bz_lc_le (b := 0) (by omega) (by omega)).mp c_59; omega]; rfl
                exact W.vret hx hb hr (fun t9 ht9 hW => ⟨⟨(g, u), rfl, ⟨hg, fun a ha => by rw [← bz_mv_ext K 0 _ _ (fun a ha => bz_cp_lo (x := g0) ha) a ha, hmv, hend]⟩, by rw [ht9]; exact hP, va_K.moved hW.alike hK, hD⟩, hS.F ht9⟩) hS.2.2 d_M_tryMoves_202
              · skip
                have hlf0 : 0 < lf := Nat.lt_of_not_le fun z => c_59 ((bz_lc_le (b := 0) (by omega) (by omega)).mpr z)
                have hcb1 := bz_co_le ht (bz_fu g)
                have hcb2 := bz_co_le ht (bz_fu (va_up g ai r))
                refine lv_aload_n hx hb d_M_tryMoves_62 rfl (lv_at hl 0 rfl) ?_
                refine va_get (D := (dC, dI)) (ci := 4) (v := .ref (am 6)) (C := R_M) (T := F_M) (N := 12) hx hb htb in_M hown hK hP 0 rfl rfl 9 (by decide) (htb _ wd_420) (fun _ h9 => h9) rfl d_M_tryMoves_63 ?_
                refine lv_iload hx hb d_M_tryMoves_66 (lv_at hl 4 rfl) ?_
                refine bz_iald (v := nI (g ai)) hx hb hK hP 6 0 rfl rfl (a9 := ai) (by omega) (by decide) (rfl) d_M_tryMoves_68 ?_
                refine lv_istore (lv' := [(9, .int (nI (g ai))), (0, .ref (am 0)), (1, .long (lN K)), (3, .long (lN (bz_co t (bz_fu g)))), (5, .long (lN lf)), (7, .int (nI ai)), (8, .int (nI r))]) hx hb d_M_tryMoves_69 hl (by decide) rfl (fun ls hl => ?_)
                refine lv_iconst (v := nI 0) hx hb d_M_tryMoves_71 (by decide) ?_
                refine lv_istore (lv' := [(10, .int (nI 0)), (9, .int (nI (g ai))), (0, .ref (am 0)), (1, .long (lN K)), (3, .long (lN (bz_co t (bz_fu g)))), (5, .long (lN lf)), (7, .int (nI ai)), (8, .int (nI r))]) hx hb d_M_tryMoves_72 hl (by decide) rfl (fun ls hl => ?_)
                refine lv_iload hx hb d_M_tryMoves_74 (lv_at hl 7 rfl) ?_
                refine lv_iload hx hb d_M_tryMoves_76 (lv_at hl 1 rfl) ?_
                refine lv_icmp_eq (tgt := 151) hx hb d_M_tryMoves_78 (by decide) (fun c_78 => ?_) (fun c_78 => ?_)
                · skip
                  have hne : r = g ai := (nI_eq (by omega) (by omega)).mp c_78
                  refine lv_iinc (v := nI (r + 1)) (lv' := [(8, .int (nI (r + 1))), (10, .int (nI 0)), (9, .int (nI (g ai))), (0, .ref (am 0)), (1, .long (lN K)), (3, .long (lN (bz_co t (bz_fu g)))), (5, .long (lN lf)), (7, .int (nI ai))]) hx hb d_M_tryMoves_151 hl (k := 7) rfl (nI_1 _) (by decide) rfl (fun ls hl => ?_)
                  refine lv_iload hx hb d_M_tryMoves_154 (lv_at hl 1 rfl) ?_
                  refine lv_if_eq (tgt := 163) hx hb d_M_tryMoves_156 (by decide) (fun c_156 => ?_) (fun c_156 => ?_)
                  · skip
                    refine lv_iload hx hb d_M_tryMoves_163 (lv_at hl 0 rfl) ?_
                    refine lv_iconst (v := 4) hx hb d_M_tryMoves_165 (by decide) ?_
                    refine lv_icmp_ne (tgt := 176) hx hb d_M_tryMoves_166 (by decide) (fun c_166 => ?_) (fun c_166 => ?_)
                    · skip
                      have hr3 : ¬ r + 1 = 4 := fun z => c_166 (by rw [z]; rfl)
                      refine lv_iload hx hb d_M_tryMoves_176 (lv_at hl 7 rfl) ?_
                      refine lv_istore (lv' := [(7, .int (nI ai)), (8, .int (nI (r + 1))), (10, .int (nI 0)), (9, .int (nI (g ai))), (0, .ref (am 0)), (1, .long (lN K)), (3, .long (lN (bz_co t (bz_fu g)))), (5, .long (lN lf))]) hx hb d_M_tryMoves_178 hl (by decide) rfl (fun ls hl => ?_)
                      refine lv_iload hx hb d_M_tryMoves_180 (lv_at hl 2 rfl) ?_
                      refine lv_if_ne (tgt := 191) hx hb d_M_tryMoves_182 (by decide) (fun c_182 => ?_) (fun c_182 => ?_)
                      · skip
                        exact absurd (by decide) c_182
                      · skip
                        refine lv_iload hx hb d_M_tryMoves_185 (lv_at hl 1 rfl) ?_
                        refine lv_iconst (v := 4) hx hb d_M_tryMoves_187 (by decide) ?_
                        refine lv_icmp_ne (tgt := 195) hx hb d_M_tryMoves_188 (by decide) (fun c_188 => ?_) (fun c_188 => ?_)
                        · skip
                          have hr3b : ¬ r + 1 = 4 := fun z => c_188 (by rw [z]; rfl)
                          refine lv_iload hx hb d_M_tryMoves_195 (lv_at hl 1 rfl) ?_
                          refine lv_istore (lv' := [(8, .int (nI (r + 1))), (7, .int (nI ai)), (10, .int (nI 0)), (9, .int (nI (g ai))), (0, .ref (am 0)), (1, .long (lN K)), (3, .long (lN (bz_co t (bz_fu g)))), (5, .long (lN lf))]) hx hb d_M_tryMoves_197 hl (by decide) rfl (fun ls hl => ?_)
                          refine lv_goto (tgt := 46) hx hb d_M_tryMoves_199 (by decide) ?_
                          exact ihlpm ai (r + 1) lf g u (Nat.lt_of_lt_of_le (bz_ms_2 hain hr4) (Nat.le_of_lt_succ h9_lpm)) (by omega) (by omega) (by omega) (hg) (by rw [hmv, hne, bz_mr_e]) _ _ hP hD hS ls (lv_sub hl [4, 5, 6, 7, 1, 0] rfl)
                        · skip
                          have hr3b : r + 1 = 4 := (nI_eq (b := 4) (by omega) (by omega)).mp c_188
                          exact absurd hr3b hr3
                    · skip
                      have hr3 : r + 1 = 4 := (nI_eq (b := 4) (by omega) (by omega)).mp c_166
                      refine lv_iload hx hb d_M_tryMoves_169 (lv_at hl 7 rfl) ?_
                      refine lv_iconst (v := 1) hx hb d_M_tryMoves_171 (by decide) ?_
                      refine lv_iadd hx hb d_M_tryMoves_172 ?_
                      refine bz_ri (y := nI (ai + 1)) (nI_1 _) ?_
                      refine lv_goto (tgt := 178) hx hb d_M_tryMoves_173 (by decide) ?_
                      refine lv_istore (lv' := [(7, .int (nI (ai + 1))), (8, .int (nI (r + 1))), (10, .int (nI 0)), (9, .int (nI (g ai))), (0, .ref (am 0)), (1, .long (lN K)), (3, .long (lN (bz_co t (bz_fu g)))), (5, .long (lN lf))]) hx hb d_M_tryMoves_178 hl (by decide) rfl (fun ls hl => ?_)
                      refine lv_iload hx hb d_M_tryMoves_180 (lv_at hl 2 rfl) ?_
                      refine lv_if_ne (tgt := 191) hx hb d_M_tryMoves_182 (by decide) (fun c_182 => ?_) (fun c_182 => ?_)
                      · skip
                        exact absurd (by decide) c_182
                      · skip
                        refine lv_iload hx hb d_M_tryMoves_185 (lv_at hl 1 rfl) ?_
                        refine lv_iconst (v := 4) hx hb d_M_tryMoves_187 (by decide) ?_
                        refine lv_icmp_ne (tgt := 195) hx hb d_M_tryMoves_188 (by decide) (fun c_188 => ?_) (fun c_188 => ?_)
                        · skip
                          have hr3b : ¬ r + 1 = 4 := fun z => c_188 (by rw [z]; rfl)
                          exact absurd hr3 hr3b
                        · skip
                          have hr3b : r + 1 = 4 := (nI_eq (b := 4) (by omega) (by omega)).mp c_188
                          refine lv_iconst (v := 0) hx hb d_M_tryMoves_191 (by decide) ?_
                          refine lv_goto (tgt := 197) hx hb d_M_tryMoves_192 (by decide) ?_
                          refine lv_istore (lv' := [(8, .int 0), (7, .int (nI (ai + 1))), (10, .int (nI 0)), (9, .int (nI (g ai))), (0, .ref (am 0)), (1, .long (lN K)), (3, .long (lN (bz_co t (bz_fu g)))), (5, .long (lN lf))]) hx hb d_M_tryMoves_197 hl (by decide) rfl (fun ls hl => ?_)
                          refine lv_goto (tgt := 46) hx hb d_M_tryMoves_199 (by decide) ?_
                          exact ihlpm (ai + 1) 0 lf g u (Nat.lt_of_lt_of_le (bz_ms_3 hain hr3) (Nat.le_of_lt_succ h9_lpm)) (by omega) (by omega) (by omega) (hg) (by rw [hmv, bz_mr_0, show 3 * ai + bz_mr r (g ai) = 3 * (ai + 1) + 0 by rw [← hne, bz_mr_x]; omega]) _ _ hP hD hS ls (lv_sub hl [4, 5, 6, 7, 1, 0] rfl)
                  · skip
                    exact absurd (by decide) c_156
                · skip
                  have hne : r ≠ g ai := fun z => c_78 (by rw [z])
                  refine lv_lload hx hb d_M_tryMoves_81 (lv_at hl 5 rfl) ?_
                  refine lv_lconst (v := 1) hx hb d_M_tryMoves_83 (by decide) ?_
                  refine lv_lsub hx hb d_M_tryMoves_84 ?_
                  refine bz_rl (y := lN (lf - 1)) (lN_sub (b := 1) (by omega)) ?_
                  refine lv_lstore (lv' := [(5, .long (lN (lf - 1))), (10, .int (nI 0)), (9, .int (nI (g ai))), (0, .ref (am 0)), (1, .long (lN K)), (3, .long (lN (bz_co t (bz_fu g)))), (7, .int (nI ai)), (8, .int (nI r))]) hx hb d_M_tryMoves_85 hl (by decide) rfl (fun ls hl => ?_)
                  refine lv_aload_n hx hb d_M_tryMoves_87 rfl (lv_at hl 3 rfl) ?_
                  refine va_get (D := (dC, dI)) (ci := 4) (v := .ref (am 6)) (C := R_M) (T := F_M) (N := 12) hx hb htb in_M hown hK hP 0 rfl rfl 9 (by decide) (htb _ wd_420) (fun _ h9 => h9) rfl d_M_tryMoves_88 ?_
                  refine lv_iload hx hb d_M_tryMoves_91 (lv_at hl 6 rfl) ?_
                  refine lv_iload hx hb d_M_tryMoves_93 (lv_at hl 7 rfl) ?_
                  refine bz_iast hx hb hK hP hD hS 6 0 rfl rfl (a9 := ai) (by omega) (by decide) d_M_tryMoves_95 (fun H locs hP hD hS => ?_)
                  have hP : va_P (dC, dI) vwCl (bz_wM am cI cL cZ (bz_tM t) (th, sv, ex) ((upd (fun a => nI (g a)) ai (nI r)), S2, u)) H := hP
                  have hD : va_D A (bz_wM am cI cL cZ (bz_tM t) (th, sv, ex) ((upd (fun a => nI (g a)) ai (nI r)), S2, u)) := hD
                  have e9 : (fun a => nI (va_up g ai r a)) = (upd (fun a => nI (g a)) ai (nI r)) := (bz_updI g ai r).symm
                  rw [← e9] at hP hD
                  refine lv_aload_n hx hb d_M_tryMoves_96 rfl (lv_at hl 3 rfl) ?_
                  refine lv_aload_n hx hb d_M_tryMoves_97 rfl (lv_at hl 3 rfl) ?_
                  refine va_get (D := (dC, dI)) (ci := 4) (v := .ref (am 6)) (C := R_M) (T := F_M) (N := 12) hx hb htb in_M hown hK hP 0 rfl rfl 9 (by decide) (htb _ wd_420) (fun _ h9 => h9) rfl d_M_tryMoves_98 ?_
                  have hf : ∀ a, a < bz_n t → va_up g ai r a < 4 := fun a ha => by by_cases e : a = ai; { rw [e, bz_up_s]; exact hr4 }; { rw [bz_up_n _ _ e]; exact hg a ha }
                  refine bz_cxl (va_runV (As := [.ref (am 6)]) (rest := []) ⟨hx, hb, hml, hown, htb⟩ (c_M_cost_share l dC dI _ am cI cL cZ t th sv ex (va_up g ai r) S2 u ht hf) (cwV 1 htb (bz_gV wd_497 wd_494 wd_496 wd_8 wd_23) rfl rfl rfl (by decide +kernel) ⟨Nat.le_of_ble_eq_true rfl, Nat.le_of_ble_eq_true rfl⟩) (bz_wv hN hK hP hD (q0 := 0) rfl rfl) rfl rfl hl.1 rfl (lv_room (Nat.le_of_ble_eq_true rfl)) d_M_tryMoves_101 ⟨Nat.zero_le _, Nat.zero_le _⟩) hD hS hA (fun r9 u hu H locs hP hD hS => ?_)
                  obtain rfl : r9 = lN (bz_co t (bz_fu (va_up g ai r))) := hu
                  have hP : va_P (dC, dI) vwCl (bz_wM am cI cL cZ (bz_tM t) (th, sv, ex) ((fun a => nI (va_up g ai r a)), S2, u)) H := hP
                  have hD : va_D A (bz_wM am cI cL cZ (bz_tM t) (th, sv, ex) ((fun a => nI (va_up g ai r a)), S2, u)) := hD
                  refine lv_lstore (lv' := [(11, .long (lN (bz_co t (bz_fu (va_up g ai r))))), (5, .long (lN (lf - 1))), (10, .int (nI 0)), (9, .int (nI (g ai))), (0, .ref (am 0)), (1, .long (lN K)), (3, .long (lN (bz_co t (bz_fu g)))), (7, .int (nI ai)), (8, .int (nI r))]) hx hb d_M_tryMoves_104 hl (by decide) rfl (fun ls hl => ?_)
                  refine lv_lload hx hb d_M_tryMoves_106 (lv_at hl 0 rfl) ?_
                  refine lv_lload_n hx hb d_M_tryMoves_108 rfl (lv_at hl 6 rfl) ?_
                  refine W.lcmp hx hb d_M_tryMoves_109 ?_
                  refine lv_if_ge (tgt := 117) hx hb d_M_tryMoves_110 (by decide) (fun c_110 => ?_) (fun c_110 => ?_)
                  · skip
                    have hless : ¬ bz_co t (bz_fu (va_up g ai r)) < bz_co t (bz_fu g) := Nat.not_lt.mpr ((bz_lc_ge (by omega) (by omega)).mp c_110)
                    refine lv_iconst (v := nI 0) hx hb d_M_tryMoves_117 (by decide) ?_
                    refine lv_istore (lv' := [(10, .int (nI 0)), (11, .long (lN (bz_co t (bz_fu (va_up g ai r))))), (5, .long (lN (lf - 1))), (9, .int (nI (g ai))), (0, .ref (am 0)), (1, .long (lN K)), (3, .long (lN (bz_co t (bz_fu g)))), (7, .int (nI ai)), (8, .int (nI r))]) hx hb d_M_tryMoves_118 hl (by decide) rfl (fun ls hl => ?_)
                    refine lv_iload hx hb d_M_tryMoves_120 (lv_at hl 0 rfl) ?_
                    refine lv_if_eq (tgt := 130) hx hb d_M_tryMoves_122 (by decide) (fun c_122 => ?_) (fun c_122 => ?_)
                    · skip
                      refine lv_lload_n hx hb d_M_tryMoves_130 rfl (lv_at hl 6 rfl) ?_
                      refine lv_lstore_n (lv' := [(3, .long (lN (bz_co t (bz_fu g)))), (10, .int (nI 0)), (11, .long (lN (bz_co t (bz_fu (va_up g ai r))))), (5, .long (lN (lf - 1))), (9, .int (nI (g ai))), (0, .ref (am 0)), (1, .long (lN K)), (7, .int (nI ai)), (8, .int (nI r))]) hx hb d_M_tryMoves_131 rfl hl (by decide) rfl (fun ls hl => ?_)
                      refine lv_aload_n hx hb d_M_tryMoves_132 rfl (lv_at hl 5 rfl) ?_
                      refine va_get (D := (dC, dI)) (ci := 4) (v := .ref (am 6)) (C := R_M) (T := F_M) (N := 12) hx hb htb in_M hown hK hP 0 rfl rfl 9 (by decide) (htb _ wd_420) (fun _ h9 => h9) rfl d_M_tryMoves_133 ?_
                      refine lv_iload hx hb d_M_tryMoves_136 (lv_at hl 7 rfl) ?_
                      refine lv_iload hx hb d_M_tryMoves_138 (lv_at hl 1 rfl) ?_
                      refine lv_if_eq (tgt := 148) hx hb d_M_tryMoves_140 (by decide) (fun c_140 => ?_) (fun c_140 => ?_)
                      · skip
                        refine lv_iload hx hb d_M_tryMoves_148 (lv_at hl 4 rfl) ?_
                        refine bz_iast hx hb hK hP hD hS 6 0 rfl rfl (a9 := ai) (by omega) (by decide) d_M_tryMoves_150 (fun H locs hP hD hS => ?_)
                        have hP : va_P (dC, dI) vwCl (bz_wM am cI cL cZ (bz_tM t) (th, sv, ex) ((upd (fun a => nI (va_up g ai r a)) ai (nI (g ai))), S2, u)) H := hP
                        have hD : va_D A (bz_wM am cI cL cZ (bz_tM t) (th, sv, ex) ((upd (fun a => nI (va_up g ai r a)) ai (nI (g ai))), S2, u)) := hD
                        have e9 : (fun a => nI (g a)) = (upd (fun a => nI (va_up g ai r a)) ai (nI (g ai))) := by rw [bz_updI, bz_up_back]
                        rw [← e9] at hP hD
                        refine lv_iinc (v := nI (r + 1)) (lv' := [(8, .int (nI (r + 1))), (3, .long (lN (bz_co t (bz_fu g)))), (10, .int (nI 0)), (11, .long (lN (bz_co t (bz_fu (va_up g ai r))))), (5, .long (lN (lf - 1))), (9, .int (nI (g ai))), (0, .ref (am 0)), (1, .long (lN K)), (7, .int (nI ai))]) hx hb d_M_tryMoves_151 hl (k := 8) rfl (nI_1 _) (by decide) rfl (fun ls hl => ?_)
                        refine lv_iload hx hb d_M_tryMoves_154 (lv_at hl 2 rfl) ?_
                        refine lv_if_eq (tgt := 163) hx hb d_M_tryMoves_156 (by decide) (fun c_156 => ?_) (fun c_156 => ?_)
                        · skip
                          refine lv_iload hx hb d_M_tryMoves_163 (lv_at hl 0 rfl) ?_
                          refine lv_iconst (v := 4) hx hb d_M_tryMoves_165 (by decide) ?_
                          refine lv_icmp_ne (tgt := 176) hx hb d_M_tryMoves_166 (by decide) (fun c_166 => ?_) (fun c_166 => ?_)
                          · skip
                            have hr3 : ¬ r + 1 = 4 := fun z => c_166 (by rw [z]; rfl)
                            refine lv_iload hx hb d_M_tryMoves_176 (lv_at hl 8 rfl) ?_
                            refine lv_istore (lv' := [(7, .int (nI ai)), (8, .int (nI (r + 1))), (3, .long (lN (bz_co t (bz_fu g)))), (10, .int (nI 0)), (11, .long (lN (bz_co t (bz_fu (va_up g ai r))))), (5, .long (lN (lf - 1))), (9, .int (nI (g ai))), (0, .ref (am 0)), (1, .long (lN K))]) hx hb d_M_tryMoves_178 hl (by decide) rfl (fun ls hl => ?_)
                            refine lv_iload hx hb d_M_tryMoves_180 (lv_at hl 3 rfl) ?_
                            refine lv_if_ne (tgt := 191) hx hb d_M_tryMoves_182 (by decide) (fun c_182 => ?_) (fun c_182 => ?_)
                            · skip
                              exact absurd (by decide) c_182
                            · skip
                              refine lv_iload hx hb d_M_tryMoves_185 (lv_at hl 1 rfl) ?_
                              refine lv_iconst (v := 4) hx hb d_M_tryMoves_187 (by decide) ?_
                              refine lv_icmp_ne (tgt := 195) hx hb d_M_tryMoves_188 (by decide) (fun c_188 => ?_) (fun c_188 => ?_)
                              · skip
                                have hr3b : ¬ r + 1 = 4 := fun z => c_188 (by rw [z]; rfl)
                                refine lv_iload hx hb d_M_tryMoves_195 (lv_at hl 1 rfl) ?_
                                refine lv_istore (lv' := [(8, .int (nI (r + 1))), (7, .int (nI ai)), (3, .long (lN (bz_co t (bz_fu g)))), (10, .int (nI 0)), (11, .long (lN (bz_co t (bz_fu (va_up g ai r))))), (5, .long (lN (lf - 1))), (9, .int (nI (g ai))), (0, .ref (am 0)), (1, .long (lN K))]) hx hb d_M_tryMoves_197 hl (by decide) rfl (fun ls hl => ?_)
                                refine lv_goto (tgt := 46) hx hb d_M_tryMoves_199 (by decide) ?_
                                exact ihlpm ai (r + 1) (lf - 1) g u (Nat.lt_of_lt_of_le (bz_ms_1 hlf0) (Nat.le_of_lt_succ h9_lpm)) (by omega) (by omega) (by omega) (hg) (by rw [hmv, bz_mr_no hlf0 hain hr4 hga hne hless]) _ _ hP hD hS ls (lv_sub hl [7, 8, 2, 5, 1, 0] rfl)
                              · skip
                                have hr3b : r + 1 = 4 := (nI_eq (b := 4) (by omega) (by omega)).mp c_188
                                exact absurd hr3b hr3
                          · skip
                            have hr3 : r + 1 = 4 := (nI_eq (b := 4) (by omega) (by omega)).mp c_166
                            refine lv_iload hx hb d_M_tryMoves_169 (lv_at hl 8 rfl) ?_
                            refine lv_iconst (v := 1) hx hb d_M_tryMoves_171 (by decide) ?_
                            refine lv_iadd hx hb d_M_tryMoves_172 ?_
                            refine bz_ri (y := nI (ai + 1)) (nI_1 _) ?_
                            refine lv_goto (tgt := 178) hx hb d_M_tryMoves_173 (by decide) ?_
                            refine lv_istore (lv' := [(7, .int (nI (ai + 1))), (8, .int (nI (r + 1))), (3, .long (lN (bz_co t (bz_fu g)))), (10, .int (nI 0)), (11, .long (lN (bz_co t (bz_fu (va_up g ai r))))), (5, .long (lN (lf - 1))), (9, .int (nI (g ai))), (0, .ref (am 0)), (1, .long (lN K))]) hx hb d_M_tryMoves_178 hl (by decide) rfl (fun ls hl => ?_)
                            refine lv_iload hx hb d_M_tryMoves_180 (lv_at hl 3 rfl) ?_
                            refine lv_if_ne (tgt := 191) hx hb d_M_tryMoves_182 (by decide) (fun c_182 => ?_) (fun c_182 => ?_)
                            · skip
                              exact absurd (by decide) c_182
                            · skip
                              refine lv_iload hx hb d_M_tryMoves_185 (lv_at hl 1 rfl) ?_
                              refine lv_iconst (v := 4) hx hb d_M_tryMoves_187 (by decide) ?_
                              refine lv_icmp_ne (tgt := 195) hx hb d_M_tryMoves_188 (by decide) (fun c_188 => ?_) (fun c_188 => ?_)
                              · skip
                                have hr3b : ¬ r + 1 = 4 := fun z => c_188 (by rw [z]; rfl)
                                exact absurd hr3 hr3b
                              · skip
                                have hr3b : r + 1 = 4 := (nI_eq (b := 4) (by omega) (by omega)).mp c_188
                                refine lv_iconst (v := 0) hx hb d_M_tryMoves_191 (by decide) ?_
                                refine lv_goto (tgt := 197) hx hb d_M_tryMoves_192 (by decide) ?_
                                refine lv_istore (lv' := [(8, .int 0), (7, .int (nI (ai + 1))), (3, .long (lN (bz_co t (bz_fu g)))), (10, .int (nI 0)), (11, .long (lN (bz_co t (bz_fu (va_up g ai r))))), (5, .long (lN (lf - 1))), (9, .int (nI (g ai))), (0, .ref (am 0)), (1, .long (lN K))]) hx hb d_M_tryMoves_197 hl (by decide) rfl (fun ls hl => ?_)
                                refine lv_goto (tgt := 46) hx hb d_M_tryMoves_199 (by decide) ?_
                                exact ihlpm (ai + 1) 0 (lf - 1) g u (Nat.lt_of_lt_of_le (bz_ms_1 hlf0) (Nat.le_of_lt_succ h9_lpm)) (by omega) (by omega) (by omega) (hg) (by rw [hmv, bz_mr_no hlf0 hain hr4 hga hne hless, hr3, bz_mr_4 hga, bz_mr_0, show 3 * (ai + 1) + 0 = 3 * ai + 3 by omega]) _ _ hP hD hS ls (lv_sub hl [7, 8, 2, 5, 1, 0] rfl)
                        · skip
                          exact absurd (by decide) c_156
                      · skip
                        exact absurd (by decide) c_140
                    · skip
                      exact absurd (by decide) c_122
                  · skip
                    have hless : bz_co t (bz_fu (va_up g ai r)) < bz_co t (bz_fu g) := Nat.lt_of_not_le fun z => c_110 ((bz_lc_ge (by omega) (by omega)).mpr z)
                    refine lv_iconst (v := 1) hx hb d_M_tryMoves_113 (by decide) ?_
                    refine lv_goto (tgt := 118) hx hb d_M_tryMoves_114 (by decide) ?_
                    refine lv_istore (lv' := [(10, .int 1), (11, .long (lN (bz_co t (bz_fu (va_up g ai r))))), (5, .long (lN (lf - 1))), (9, .int (nI (g ai))), (0, .ref (am 0)), (1, .long (lN K)), (3, .long (lN (bz_co t (bz_fu g)))), (7, .int (nI ai)), (8, .int (nI r))]) hx hb d_M_tryMoves_118 hl (by decide) rfl (fun ls hl => ?_)
                    refine lv_iload hx hb d_M_tryMoves_120 (lv_at hl 0 rfl) ?_
                    refine lv_if_eq (tgt := 130) hx hb d_M_tryMoves_122 (by decide) (fun c_122 => ?_) (fun c_122 => ?_)
                    · skip
                      exact absurd c_122 (by decide)
                    · skip
                      refine lv_lload hx hb d_M_tryMoves_125 (lv_at hl 1 rfl) ?_
                      refine lv_goto (tgt := 131) hx hb d_M_tryMoves_127 (by decide) ?_
                      refine lv_lstore_n (lv' := [(3, .long (lN (bz_co t (bz_fu (va_up g ai r))))), (10, .int 1), (11, .long (lN (bz_co t (bz_fu (va_up g ai r))))), (5, .long (lN (lf - 1))), (9, .int (nI (g ai))), (0, .ref (am 0)), (1, .long (lN K)), (7, .int (nI ai)), (8, .int (nI r))]) hx hb d_M_tryMoves_131 rfl hl (by decide) rfl (fun ls hl => ?_)
                      refine lv_aload_n hx hb d_M_tryMoves_132 rfl (lv_at hl 5 rfl) ?_
                      refine va_get (D := (dC, dI)) (ci := 4) (v := .ref (am 6)) (C := R_M) (T := F_M) (N := 12) hx hb htb in_M hown hK hP 0 rfl rfl 9 (by decide) (htb _ wd_420) (fun _ h9 => h9) rfl d_M_tryMoves_133 ?_
                      refine lv_iload hx hb d_M_tryMoves_136 (lv_at hl 7 rfl) ?_
                      refine lv_iload hx hb d_M_tryMoves_138 (lv_at hl 1 rfl) ?_
                      refine lv_if_eq (tgt := 148) hx hb d_M_tryMoves_140 (by decide) (fun c_140 => ?_) (fun c_140 => ?_)
                      · skip
                        exact absurd c_140 (by decide)
                      · skip
                        refine lv_iload hx hb d_M_tryMoves_143 (lv_at hl 8 rfl) ?_
                        refine lv_goto (tgt := 150) hx hb d_M_tryMoves_145 (by decide) ?_
                        refine bz_iast hx hb hK hP hD hS 6 0 rfl rfl (a9 := ai) (by omega) (by decide) d_M_tryMoves_150 (fun H locs hP hD hS => ?_)
                        have hP : va_P (dC, dI) vwCl (bz_wM am cI cL cZ (bz_tM t) (th, sv, ex) ((upd (fun a => nI (va_up g ai r a)) ai (nI r)), S2, u)) H := hP
                        have hD : va_D A (bz_wM am cI cL cZ (bz_tM t) (th, sv, ex) ((upd (fun a => nI (va_up g ai r a)) ai (nI r)), S2, u)) := hD
                        have e9 : (fun a => nI (va_up g ai r a)) = (upd (fun a => nI (va_up g ai r a)) ai (nI r)) := by rw [bz_updI, bz_up_same]
                        rw [← e9] at hP hD
                        refine lv_iinc (v := nI (r + 1)) (lv' := [(8, .int (nI (r + 1))), (3, .long (lN (bz_co t (bz_fu (va_up g ai r))))), (10, .int 1), (11, .long (lN (bz_co t (bz_fu (va_up g ai r))))), (5, .long (lN (lf - 1))), (9, .int (nI (g ai))), (0, .ref (am 0)), (1, .long (lN K)), (7, .int (nI ai))]) hx hb d_M_tryMoves_151 hl (k := 8) rfl (nI_1 _) (by decide) rfl (fun ls hl => ?_)
                        refine lv_iload hx hb d_M_tryMoves_154 (lv_at hl 2 rfl) ?_
                        refine lv_if_eq (tgt := 163) hx hb d_M_tryMoves_156 (by decide) (fun c_156 => ?_) (fun c_156 => ?_)
                        · skip
                          exact absurd c_156 (by decide)
                        · skip
                          refine lv_iconst (v := 0) hx hb d_M_tryMoves_159 (by decide) ?_
                          refine lv_goto (tgt := 178) hx hb d_M_tryMoves_160 (by decide) ?_
                          refine lv_istore (lv' := [(7, .int 0), (8, .int (nI (r + 1))), (3, .long (lN (bz_co t (bz_fu (va_up g ai r))))), (10, .int 1), (11, .long (lN (bz_co t (bz_fu (va_up g ai r))))), (5, .long (lN (lf - 1))), (9, .int (nI (g ai))), (0, .ref (am 0)), (1, .long (lN K))]) hx hb d_M_tryMoves_178 hl (by decide) rfl (fun ls hl => ?_)
                          refine lv_iload hx hb d_M_tryMoves_180 (lv_at hl 3 rfl) ?_
                          refine lv_if_ne (tgt := 191) hx hb d_M_tryMoves_182 (by decide) (fun c_182 => ?_) (fun c_182 => ?_)
                          · skip
                            refine lv_iconst (v := 0) hx hb d_M_tryMoves_191 (by decide) ?_
                            refine lv_goto (tgt := 197) hx hb d_M_tryMoves_192 (by decide) ?_
                            refine lv_istore (lv' := [(8, .int 0), (7, .int 0), (3, .long (lN (bz_co t (bz_fu (va_up g ai r))))), (10, .int 1), (11, .long (lN (bz_co t (bz_fu (va_up g ai r))))), (5, .long (lN (lf - 1))), (9, .int (nI (g ai))), (0, .ref (am 0)), (1, .long (lN K))]) hx hb d_M_tryMoves_197 hl (by decide) rfl (fun ls hl => ?_)
                            refine lv_goto (tgt := 46) hx hb d_M_tryMoves_199 (by decide) ?_
                            exact ihlpm 0 0 (lf - 1) (va_up g ai r) u (Nat.lt_of_lt_of_le (bz_ms_1 hlf0) (Nat.le_of_lt_succ h9_lpm)) (by omega) (by omega) (by omega) (hf) (by rw [hmv, bz_mr_do hlf0 hain hr4 hga hne hless, bz_mr_0]) _ _ hP hD hS ls (lv_sub hl [7, 8, 2, 5, 1, 0] rfl)
                          · skip
                            exact absurd c_182 (by decide)
        exact lpm _ 0 0 K (bz_cp (bz_d t) g0 (bz_n t)) u (Nat.lt_succ_self _) (by omega) (by omega) (Nat.le_refl _) (hf) (by rw [bz_mr_0]) _ _ hP hD hS ls (lv_sub hl [4, 5, 3, 2, 1, 0] rfl)
      · skip
        have hin : i < bz_n t := Nat.lt_of_not_le fun z => c_7 ((nI_leI (by omega) (by omega)).mpr z)
        refine lv_aload_n hx hb d_M_tryMoves_10 rfl (lv_at hl 0 rfl) ?_
        refine va_get (D := (dC, dI)) (ci := 4) (v := .ref (am 6)) (C := R_M) (T := F_M) (N := 12) hx hb htb in_M hown hK hP 0 rfl rfl 9 (by decide) (htb _ wd_420) (fun _ h9 => h9) rfl d_M_tryMoves_11 ?_
        refine lv_iload_n hx hb d_M_tryMoves_14 rfl (lv_at hl 2 rfl) ?_
        refine lv_aload_n hx hb d_M_tryMoves_15 rfl (lv_at hl 0 rfl) ?_
        refine va_get (D := (dC, dI)) (ci := 4) (v := .ref (am 2)) (C := R_M) (T := F_M) (N := 12) hx hb htb in_M hown hK hP 0 rfl rfl 3 (by decide) (htb _ wd_414) (fun _ h9 => h9) rfl d_M_tryMoves_16 ?_
        refine lv_iload_n hx hb d_M_tryMoves_19 rfl (lv_at hl 2 rfl) ?_
        refine bz_iald (v := nI (bz_d t i)) hx hb hK hP 2 0 rfl rfl (a9 := i) (by omega) (by decide) (rfl) d_M_tryMoves_20 ?_
        refine bz_iast hx hb hK hP hD hS 6 0 rfl rfl (a9 := i) (by omega) (by decide) d_M_tryMoves_21 (fun H locs hP hD hS => ?_)
        have hP : va_P (dC, dI) vwCl (bz_wM am cI cL cZ (bz_tM t) (th, sv, ex) ((upd (fun a => nI (bz_cp (bz_d t) g0 i a)) i (nI (bz_d t i))), S2, S3)) H := hP
        have hD : va_D A (bz_wM am cI cL cZ (bz_tM t) (th, sv, ex) ((upd (fun a => nI (bz_cp (bz_d t) g0 i a)) i (nI (bz_d t i))), S2, S3)) := hD
        have e9 : (fun a => nI (bz_cp (bz_d t) g0 (i + 1) a)) = (upd (fun a => nI (bz_cp (bz_d t) g0 i a)) i (nI (bz_d t i))) := bz_cp_1 _ _ _
        rw [← e9] at hP hD
        refine lv_iinc (v := nI (i + 1)) (lv' := [(3, .int (nI (i + 1))), (0, .ref (am 0)), (1, .long (lN K))]) hx hb d_M_tryMoves_22 hl (k := 2) rfl (nI_1 _) (by decide) rfl (fun ls hl => ?_)
        refine lv_goto (tgt := 2) hx hb d_M_tryMoves_25 (by decide) ?_
        exact ihlpc (i + 1) (by omega) (by omega) _ _ hP hD hS ls (lv_sub hl [1, 2, 0] rfl)
  exact lpc _ 0 (Nat.lt_succ_self _) (by omega) _ _ hP hD hS ls (lv_sub hl [1, 2, 0] rfl)

set_option maxHeartbeats 4000000 in
set_option maxRecDepth 100000 in
/-- tryAll -/
theorem c_M_tryAll (l : Launch) (dC : Nat → ClassId) (dI : Nat → Nat → Nat) (sz : Nat) (am : Nat → Nat) (cI cL cZ : ClassId) (t : bz_T) (th sv ex : Int32) (g0 tr0 : Nat → Nat) (S3 : Nat → Int32) (ht : bz_ok t) (hn8 : bz_n t ≤ 8) : Met l y_M_tryAll w_M_tryAll ({ frames := 4, cells := 0, slots := 0, locals := 96 }) (bz_Pw (dC, dI) [(cI, .int), (cL, .long), (cZ, .boolean)] (bz_wM am cI cL cZ (bz_tM t) (th, sv, ex) ((fun a => nI (g0 a)), (fun a => nI (tr0 a)), S3)) sz [.ref (am 0)]) (bz_Qx (dC, dI) [(cI, .int), (cL, .long), (cZ, .boolean)] (va_A (bz_wM am cI cL cZ (bz_tM t) (th, sv, ex) ((fun a => nI (g0 a)), (fun a => nI (tr0 a)), S3)) sz) (fun u : (Nat → Nat) × (Nat → Nat) × (Nat → Int32) => bz_bs t u.1) (fun u : (Nat → Nat) × (Nat → Nat) × (Nat → Int32) => bz_wM am cI cL cZ (bz_tM t) (th, sv, ex) ((fun a => nI (u.1 a)), (fun a => nI (u.2.1 a)), u.2.2))) 0 0 (va_A (bz_wM am cI cL cZ (bz_tM t) (th, sv, ex) ((fun a => nI (g0 a)), (fun a => nI (tr0 a)), S3)) sz) := by
  refine Met.ofW (cc := b_M_tryAll) (maxL := 9) (ret := none) (by decide) rfl ?_
  intro p e s m args below meth c s₁ B hml hv
  obtain ⟨rfl, hsz, hP, hK, hD0, hN⟩ := hv
  have hx := B.exec
  have hb := B.bytes
  have hr := B.returns
  have hts := atoms_spec (ws := w_M_tryAll) B.pre
  have hown : s.vm.findClass R_M = some m.cls := findClass_of_methodNamed B.named
  have htb : ∀ w ∈ bz_tb, w.before _ s = true := fun w h => hts w (List.mem_cons_of_mem _ h)
  have hlocks := B.notSynchronized
  subst hsz
  have hD := hD0.self (sz := s.heap.size)
  generalize hAe : va_A (bz_wM am cI cL cZ (bz_tM t) (th, sv, ex) ((fun a => nI (g0 a)), (fun a => nI (tr0 a)), S3)) s.heap.size = A at hD ⊢
  have hA : ∀ q : Nat, s.heap.size ≤ q → A q := fun q h => by rw [← hAe]; exact Or.inr h
  have hS : va_S A s.heap s.heap [] := va_S.rf
  have hl := lv_entry ([.ref (am 0)]) (n := 9) (Nat.le_of_ble_eq_true rfl)
  rw [lg_entry_eq]
  generalize (lg_sl ([.ref (am 0)]) ++ List.replicate (9 - (lg_sl ([.ref (am 0)])).length) Slot.unset).toArray = ls at hl ⊢
  have hl : lv_has ls 9 [(0, .ref (am 0))] := hl
  have hn30 := ht.1
  have hp4 : 4 ^ bz_n t ≤ 65536 := Nat.pow_le_pow_right (n := 4) (by omega) hn8
  refine lv_iconst (v := nI 1) hx hb d_M_tryAll_0 (by decide) ?_
  refine lv_istore_n (lv' := [(1, .int (nI 1)), (0, .ref (am 0))]) hx hb d_M_tryAll_1 rfl hl (by decide) rfl (fun ls hl => ?_)
  refine lv_iconst (v := nI 0) hx hb d_M_tryAll_2 (by decide) ?_
  refine lv_istore_n (lv' := [(2, .int (nI 0)), (1, .int (nI 1)), (0, .ref (am 0))]) hx hb d_M_tryAll_3 rfl hl (by decide) rfl (fun ls hl => ?_)
  have lpa : ∀ (k9 : Nat) (i : Nat), bz_n t - i < k9 → (i ≤ bz_n t) → ∀ (H : Heap) (locs : List Loc), va_P (dC, dI) vwCl (bz_wM am cI cL cZ (bz_tM t) (th, sv, ex) ((fun a => nI (g0 a)), (fun a => nI (tr0 a)), S3)) H → va_D A (bz_wM am cI cL cZ (bz_tM t) (th, sv, ex) ((fun a => nI (g0 a)), (fun a => nI (tr0 a)), S3)) → va_S A s.heap H locs → ∀ (ls : Array Slot), lv_has ls 9 [(0, .ref (am 0)), (1, .int (nI (4 ^ i))), (2, .int (nI i))] → W p l e (headSpec w_M_tryAll ({ frames := 4, cells := 0, slots := 0, locals := 96 })).room s m ([.ref (am 0)]).toArray below meth c H locs 0 0 (MQ below (bz_Qx (dC, dI) [(cI, .int), (cL, .long), (cZ, .boolean)] A (fun u : (Nat → Nat) × (Nat → Nat) × (Nat → Int32) => bz_bs t u.1) (fun u : (Nat → Nat) × (Nat → Nat) × (Nat → Int32) => bz_wM am cI cL cZ (bz_tM t) (th, sv, ex) ((fun a => nI (u.1 a)), (fun a => nI (u.2.1 a)), u.2.2))) ([.ref (am 0)]).toArray s 0 0 (A)) (F0 m 4 ls []) := by
    intro k9
    induction k9 with
    | zero =>
      intro i h9
      exact absurd h9 (Nat.not_lt_zero _)
    | succ k9 ihlpa =>
      intro i h9_lpa hi H locs hP hD hS ls hl
      refine lv_iload_n hx hb d_M_tryAll_4 rfl (lv_at hl 2 rfl) ?_
      refine lv_aload_n hx hb d_M_tryAll_5 rfl (lv_at hl 0 rfl) ?_
      refine va_get (D := (dC, dI)) (ci := 4) (v := .int (nI (bz_n t))) (C := R_M) (T := F_M) (N := 12) hx hb htb in_M hown hK hP 0 rfl rfl 1 (by decide) (htb _ wd_412) (fun _ h9 => h9) rfl d_M_tryAll_6 ?_
      refine lv_icmp_ge (tgt := 22) hx hb d_M_tryAll_9 (by decide) (fun c_9 => ?_) (fun c_9 => ?_)
      · skip
        have hin : i = bz_n t := by have := (nI_leI (by omega) (by omega)).mp c_9; omega
        have hl : lv_has ls 9 [(0, .ref (am 0)), (1, .int (nI (4 ^ bz_n t))), (2, .int (nI i))] := by rw [show nI (4 ^ bz_n t) = nI (4 ^ i) from by rw [hin]]; exact hl
        refine lv_ldc2 (v := 9223372036854775807) hx hb hown (htb _ wd_493) d_M_tryAll_22 ?_
        refine bz_rl (y := lN 9223372036854775807) (rfl) ?_
        refine lv_lstore_n (lv' := [(2, .long (lN 9223372036854775807)), (0, .ref (am 0)), (1, .int (nI (4 ^ bz_n t)))]) hx hb d_M_tryAll_25 rfl hl (by decide) rfl (fun ls hl => ?_)
        refine lv_iconst (v := nI 0) hx hb d_M_tryAll_26 (by decide) ?_
        refine lv_istore (lv' := [(4, .int (nI 0)), (2, .long (lN 9223372036854775807)), (0, .ref (am 0)), (1, .int (nI (4 ^ bz_n t)))]) hx hb d_M_tryAll_27 hl (by decide) rfl (fun ls hl => ?_)
        have lpk : ∀ (k9 : Nat) (kk : Nat) (c2 : Nat × (Nat → Nat)) (tr : Nat → Nat) (u : Nat → Int32), 4 ^ bz_n t - kk < k9 → (kk ≤ 4 ^ bz_n t) → (bz_up t (bz_Ec t kk) (9223372036854775807, g0) c2) → (c2.1 ≤ 9223372036854775807) → ∀ (H : Heap) (locs : List Loc), va_P (dC, dI) vwCl (bz_wM am cI cL cZ (bz_tM t) (th, sv, ex) ((fun a => nI (c2.2 a)), (fun a => nI (tr a)), u)) H → va_D A (bz_wM am cI cL cZ (bz_tM t) (th, sv, ex) ((fun a => nI (c2.2 a)), (fun a => nI (tr a)), u)) → va_S A s.heap H locs → ∀ (ls : Array Slot), lv_has ls 9 [(0, .ref (am 0)), (1, .int (nI (4 ^ bz_n t))), (2, .long (lN c2.1)), (4, .int (nI kk))] → W p l e (headSpec w_M_tryAll ({ frames := 4, cells := 0, slots := 0, locals := 96 })).room s m ([.ref (am 0)]).toArray below meth c H locs 0 0 (MQ below (bz_Qx (dC, dI) [(cI, .int), (cL, .long), (cZ, .boolean)] A (fun u : (Nat → Nat) × (Nat → Nat) × (Nat → Int32) => bz_bs t u.1) (fun u : (Nat → Nat) × (Nat → Nat) × (Nat → Int32) => bz_wM am cI cL cZ (bz_tM t) (th, sv, ex) ((fun a => nI (u.1 a)), (fun a => nI (u.2.1 a)), u.2.2))) ([.ref (am 0)]).toArray s 0 0 (A)) (F0 m 29 ls []) := by
          intro k9
          induction k9 with
          | zero =>
            intro kk c2 tr u h9
            exact absurd h9 (Nat.not_lt_zero _)
          | succ k9 ihlpk =>
            intro kk c2 tr u h9_lpk hkk4 hup hc2 H locs hP hD hS ls hl
            refine lv_iload hx hb d_M_tryAll_29 (lv_at hl 3 rfl) ?_
            refine lv_iload_n hx hb d_M_tryAll_31 rfl (lv_at hl 1 rfl) ?_
            refine lv_icmp_ge (tgt := 133) hx hb d_M_tryAll_32 (by decide) (fun c_32 => ?_) (fun c_32 => ?_)
            · skip
              have hend : 4 ^ bz_n t ≤ kk := (nI_leI (by omega) (by omega)).mp c_32
              exact W.vret hx hb hr (fun t9 ht9 hW => ⟨⟨(c2.2, tr, u), rfl, bz_Ec_n ht hend hup, by rw [ht9]; exact hP, va_K.moved hW.alike hK, hD⟩, hS.F ht9⟩) hS.2.2 d_M_tryAll_133
            · skip
              have hkk : kk < 4 ^ bz_n t := Nat.lt_of_not_le fun z => c_32 ((nI_leI (by omega) (by omega)).mpr z)
              refine lv_iload hx hb d_M_tryAll_35 (lv_at hl 3 rfl) ?_
              refine lv_istore (lv' := [(5, .int (nI kk)), (0, .ref (am 0)), (1, .int (nI (4 ^ bz_n t))), (2, .long (lN c2.1)), (4, .int (nI kk))]) hx hb d_M_tryAll_37 hl (by decide) rfl (fun ls hl => ?_)
              refine lv_aload_n hx hb d_M_tryAll_39 rfl (lv_at hl 1 rfl) ?_
              refine va_get (D := (dC, dI)) (ci := 4) (v := .int (nI (bz_n t))) (C := R_M) (T := F_M) (N := 12) hx hb htb in_M hown hK hP 0 rfl rfl 1 (by decide) (htb _ wd_412) (fun _ h9 => h9) rfl d_M_tryAll_40 ?_
              refine lv_iconst (v := 1) hx hb d_M_tryAll_43 (by decide) ?_
              refine lv_isub hx hb d_M_tryAll_44 ?_
              refine lv_istore (lv' := [(6, .int ((nI (bz_n t)) - 1)), (5, .int (nI kk)), (0, .ref (am 0)), (1, .int (nI (4 ^ bz_n t))), (2, .long (lN c2.1)), (4, .int (nI kk))]) hx hb d_M_tryAll_45 hl (by decide) rfl (fun ls hl => ?_)
              have hl : lv_has ls 9 [(6, .int ((nI (bz_n t)) - 1)), (5, .int (nI (kk / 4 ^ (bz_n t - (bz_n t))))), (0, .ref (am 0)), (1, .int (nI (4 ^ bz_n t))), (2, .long (lN c2.1)), (4, .int (nI kk))] := by rw [show nI (kk / 4 ^ (bz_n t - (bz_n t))) = nI kk from by rw [Nat.sub_self, Nat.pow_zero, Nat.div_one]]; exact hl
              have lpd : ∀ (k9 : Nat) (j : Nat) (y : Nat → Nat), j < k9 → (j ≤ bz_n t) → (∀ a, j ≤ a → a < bz_n t → y a = kk / 4 ^ (bz_n t - 1 - a) % 4) → ∀ (H : Heap) (locs : List Loc), va_P (dC, dI) vwCl (bz_wM am cI cL cZ (bz_tM t) (th, sv, ex) ((fun a => nI (c2.2 a)), (fun a => nI (y a)), u)) H → va_D A (bz_wM am cI cL cZ (bz_tM t) (th, sv, ex) ((fun a => nI (c2.2 a)), (fun a => nI (y a)), u)) → va_S A s.heap H locs → ∀ (ls : Array Slot), lv_has ls 9 [(0, .ref (am 0)), (1, .int (nI (4 ^ bz_n t))), (2, .long (lN c2.1)), (4, .int (nI kk)), (5, .int (nI (kk / 4 ^ (bz_n t - j)))), (6, .int (nI j - 1))] → W p l e (headSpec w_M_tryAll ({ frames := 4, cells := 0, slots := 0, locals := 96 })).room s m ([.ref (am 0)]).toArray below meth c H locs 0 0 (MQ below (bz_Qx (dC, dI) [(cI, .int), (cL, .long), (cZ, .boolean)] A (fun u : (Nat → Nat) × (Nat → Nat) × (Nat → Int32) => bz_bs t u.1) (fun u : (Nat → Nat) × (Nat → Nat) × (Nat → Int32) => bz_wM am cI cL cZ (bz_tM t) (th, sv, ex) ((fun a => nI (u.1 a)), (fun a => nI (u.2.1 a)), u.2.2))) ([.ref (am 0)]).toArray s 0 0 (A)) (F0 m 47 ls []) := by
                intro k9
                induction k9 with
                | zero =>
                  intro j y h9
                  exact absurd h9 (Nat.not_lt_zero _)
                | succ k9 ihlpd =>
                  intro j y h9_lpd hj hyd H locs hP hD hS ls hl
                  refine lv_iload hx hb d_M_tryAll_47 (lv_at hl 5 rfl) ?_
                  refine lv_if_lt (tgt := 75) hx hb d_M_tryAll_49 (by decide) (fun c_49 => ?_) (fun c_49 => ?_)
                  · skip
                    have hj0 : j = 0 := by rcases Nat.eq_zero_or_pos j with z | z; { exact z }; { rw [show j = j - 1 + 1 by omega, nI_pred] at c_49; exact absurd c_49 (nI_pos (by omega)) }
                    have hyd : ∀ a, a < bz_n t → y a = kk / 4 ^ (bz_n t - 1 - a) % 4 := fun a ha => hyd a (by omega) ha
                    have hf : ∀ a, a < bz_n t → y a < 4 := fun a ha => by rw [hyd a ha]; exact Nat.mod_lt _ (by omega)
                    have hcb := bz_co_le ht (bz_fu y)
                    refine lv_aload_n hx hb d_M_tryAll_75 rfl (lv_at hl 0 rfl) ?_
                    refine lv_aload_n hx hb d_M_tryAll_76 rfl (lv_at hl 0 rfl) ?_
                    refine va_get (D := (dC, dI)) (ci := 4) (v := .ref (am 7)) (C := R_M) (T := F_M) (N := 12) hx hb htb in_M hown hK hP 0 rfl rfl 10 (by decide) (htb _ wd_421) (fun _ h9 => h9) rfl d_M_tryAll_77 ?_
                    refine bz_cxl (va_runV (As := [.ref (am 7)]) (rest := []) ⟨hx, hb, hml, hown, htb⟩ (c_M_cost_tried l dC dI _ am cI cL cZ t th sv ex y (fun a => nI (c2.2 a)) u ht hf) (cwV 1 htb (bz_gV wd_497 wd_494 wd_496 wd_8 wd_23) rfl rfl rfl (by decide +kernel) ⟨Nat.le_of_ble_eq_true rfl, Nat.le_of_ble_eq_true rfl⟩) (bz_wv hN hK hP hD (q0 := 0) rfl rfl) rfl rfl hl.1 rfl (lv_room (Nat.le_of_ble_eq_true rfl)) d_M_tryAll_80 ⟨Nat.zero_le _, Nat.zero_le _⟩) hD hS hA (fun r9 u hu H locs hP hD hS => ?_)
                    obtain rfl : r9 = lN (bz_co t (bz_fu y)) := hu
                    have hP : va_P (dC, dI) vwCl (bz_wM am cI cL cZ (bz_tM t) (th, sv, ex) ((fun a => nI (c2.2 a)), (fun a => nI (y a)), u)) H := hP
                    have hD : va_D A (bz_wM am cI cL cZ (bz_tM t) (th, sv, ex) ((fun a => nI (c2.2 a)), (fun a => nI (y a)), u)) := hD
                    refine lv_lstore (lv' := [(6, .long (lN (bz_co t (bz_fu y)))), (0, .ref (am 0)), (1, .int (nI (4 ^ bz_n t))), (2, .long (lN c2.1)), (4, .int (nI kk)), (5, .int (nI (kk / 4 ^ (bz_n t - j))))]) hx hb d_M_tryAll_83 hl (by decide) rfl (fun ls hl => ?_)
                    refine lv_lload hx hb d_M_tryAll_85 (lv_at hl 0 rfl) ?_
                    refine lv_lload_n hx hb d_M_tryAll_87 rfl (lv_at hl 3 rfl) ?_
                    refine W.lcmp hx hb d_M_tryAll_88 ?_
                    refine lv_if_ge (tgt := 127) hx hb d_M_tryAll_89 (by decide) (fun c_89 => ?_) (fun c_89 => ?_)
                    · skip
                      have hless : c2.1 ≤ bz_co t (bz_fu y) := (bz_lc_ge (by omega) (by omega)).mp c_89
                      refine lv_iinc (v := nI (kk + 1)) (lv' := [(4, .int (nI (kk + 1))), (6, .long (lN (bz_co t (bz_fu y)))), (0, .ref (am 0)), (1, .int (nI (4 ^ bz_n t))), (2, .long (lN c2.1)), (5, .int (nI (kk / 4 ^ (bz_n t - j))))]) hx hb d_M_tryAll_127 hl (k := 4) rfl (nI_1 _) (by decide) rfl (fun ls hl => ?_)
                      refine lv_goto (tgt := 29) hx hb d_M_tryAll_130 (by decide) ?_
                      exact ihlpk (kk + 1) c2 y u (by omega) (by omega) (bz_Ec_1 hkk hyd hup (bz_cut (Nat.le_refl _) (by rw [bz_be_fu (Nat.le_refl _) (fun _ _ => rfl)]; exact hless))) (hc2) _ _ hP hD hS ls (lv_sub hl [2, 3, 4, 0] rfl)
                    · skip
                      have hless : bz_co t (bz_fu y) < c2.1 := Nat.lt_of_not_le fun z => c_89 ((bz_lc_ge (by omega) (by omega)).mpr z)
                      refine lv_lload hx hb d_M_tryAll_92 (lv_at hl 0 rfl) ?_
                      refine lv_lstore_n (lv' := [(2, .long (lN (bz_co t (bz_fu y)))), (6, .long (lN (bz_co t (bz_fu y)))), (0, .ref (am 0)), (1, .int (nI (4 ^ bz_n t))), (4, .int (nI kk)), (5, .int (nI (kk / 4 ^ (bz_n t - j))))]) hx hb d_M_tryAll_94 rfl hl (by decide) rfl (fun ls hl => ?_)
                      refine lv_iconst (v := nI 0) hx hb d_M_tryAll_95 (by decide) ?_
                      refine lv_istore (lv' := [(8, .int (nI 0)), (2, .long (lN (bz_co t (bz_fu y)))), (6, .long (lN (bz_co t (bz_fu y)))), (0, .ref (am 0)), (1, .int (nI (4 ^ bz_n t))), (4, .int (nI kk)), (5, .int (nI (kk / 4 ^ (bz_n t - j))))]) hx hb d_M_tryAll_96 hl (by decide) rfl (fun ls hl => ?_)
                      have e9 : (fun a => nI (bz_cp y c2.2 0 a)) = (fun a => nI (c2.2 a)) := by rw [bz_cp_0]
                      rw [← e9] at hP hD
                      have lpy : ∀ (k9 : Nat) (i : Nat), bz_n t - i < k9 → (i ≤ bz_n t) → ∀ (H : Heap) (locs : List Loc), va_P (dC, dI) vwCl (bz_wM am cI cL cZ (bz_tM t) (th, sv, ex) ((fun a => nI (bz_cp y c2.2 i a)), (fun a => nI (y a)), u)) H → va_D A (bz_wM am cI cL cZ (bz_tM t) (th, sv, ex) ((fun a => nI (bz_cp y c2.2 i a)), (fun a => nI (y a)), u)) → va_S A s.heap H locs → ∀ (ls : Array Slot), lv_has ls 9 [(0, .ref (am 0)), (1, .int (nI (4 ^ bz_n t))), (2, .long (lN (bz_co t (bz_fu y)))), (4, .int (nI kk)), (8, .int (nI i))] → W p l e (headSpec w_M_tryAll ({ frames := 4, cells := 0, slots := 0, locals := 96 })).room s m ([.ref (am 0)]).toArray below meth c H locs 0 0 (MQ below (bz_Qx (dC, dI) [(cI, .int), (cL, .long), (cZ, .boolean)] A (fun u : (Nat → Nat) × (Nat → Nat) × (Nat → Int32) => bz_bs t u.1) (fun u : (Nat → Nat) × (Nat → Nat) × (Nat → Int32) => bz_wM am cI cL cZ (bz_tM t) (th, sv, ex) ((fun a => nI (u.1 a)), (fun a => nI (u.2.1 a)), u.2.2))) ([.ref (am 0)]).toArray s 0 0 (A)) (F0 m 98 ls []) := by
                        intro k9
                        induction k9 with
                        | zero =>
                          intro i h9
                          exact absurd h9 (Nat.not_lt_zero _)
                        | succ k9 ihlpy =>
                          intro i h9_lpy hi H locs hP hD hS ls hl
                          refine lv_iload hx hb d_M_tryAll_98 (lv_at hl 4 rfl) ?_
                          refine lv_aload_n hx hb d_M_tryAll_100 rfl (lv_at hl 0 rfl) ?_
                          refine va_get (D := (dC, dI)) (ci := 4) (v := .int (nI (bz_n t))) (C := R_M) (T := F_M) (N := 12) hx hb htb in_M hown hK hP 0 rfl rfl 1 (by decide) (htb _ wd_412) (fun _ h9 => h9) rfl d_M_tryAll_101 ?_
                          refine lv_icmp_ge (tgt := 127) hx hb d_M_tryAll_104 (by decide) (fun c_104 => ?_) (fun c_104 => ?_)
                          · skip
                            have hin : i = bz_n t := by have := (nI_leI (by omega) (by omega)).mp c_104; omega
                            have e9 : (fun a => nI (bz_cp y c2.2 (bz_n t) a)) = (fun a => nI (bz_cp y c2.2 i a)) := by rw [hin]
                            rw [← e9] at hP hD
                            refine lv_iinc (v := nI (kk + 1)) (lv' := [(4, .int (nI (kk + 1))), (0, .ref (am 0)), (1, .int (nI (4 ^ bz_n t))), (2, .long (lN (bz_co t (bz_fu y)))), (8, .int (nI i))]) hx hb d_M_tryAll_127 hl (k := 3) rfl (nI_1 _) (by decide) rfl (fun ls hl => ?_)
                            refine lv_goto (tgt := 29) hx hb d_M_tryAll_130 (by decide) ?_
                            exact ihlpk (kk + 1) (bz_co t (bz_fu y), bz_cp y c2.2 (bz_n t)) y u (by omega) (by omega) (bz_Ec_1 hkk hyd hup (by have h5 := bz_leaf (t := t) (k := bz_n t) (f := y) (g := bz_cp y c2.2 (bz_n t)) (b := c2) (Nat.le_refl _) hf (fun a ha => bz_cp_lo ha) (by rw [bz_be_fu (Nat.le_refl _) (fun _ _ => rfl)]; exact hless); rw [bz_be_fu (Nat.le_refl _) (fun _ _ => rfl)] at h5; exact h5)) (by show bz_co t (bz_fu y) ≤ _; omega) _ _ hP hD hS ls (lv_sub hl [1, 2, 3, 0] rfl)
                          · skip
                            have hin : i < bz_n t := Nat.lt_of_not_le fun z => c_104 ((nI_leI (by omega) (by omega)).mpr z)
                            refine lv_aload_n hx hb d_M_tryAll_107 rfl (lv_at hl 0 rfl) ?_
                            refine va_get (D := (dC, dI)) (ci := 4) (v := .ref (am 6)) (C := R_M) (T := F_M) (N := 12) hx hb htb in_M hown hK hP 0 rfl rfl 9 (by decide) (htb _ wd_420) (fun _ h9 => h9) rfl d_M_tryAll_108 ?_
                            refine lv_iload hx hb d_M_tryAll_111 (lv_at hl 4 rfl) ?_
                            refine lv_aload_n hx hb d_M_tryAll_113 rfl (lv_at hl 0 rfl) ?_
                            refine va_get (D := (dC, dI)) (ci := 4) (v := .ref (am 7)) (C := R_M) (T := F_M) (N := 12) hx hb htb in_M hown hK hP 0 rfl rfl 10 (by decide) (htb _ wd_421) (fun _ h9 => h9) rfl d_M_tryAll_114 ?_
                            refine lv_iload hx hb d_M_tryAll_117 (lv_at hl 4 rfl) ?_
                            refine bz_iald (v := nI (y i)) hx hb hK hP 7 0 rfl rfl (a9 := i) (by omega) (by decide) (rfl) d_M_tryAll_119 ?_
                            refine bz_iast hx hb hK hP hD hS 6 0 rfl rfl (a9 := i) (by omega) (by decide) d_M_tryAll_120 (fun H locs hP hD hS => ?_)
                            have hP : va_P (dC, dI) vwCl (bz_wM am cI cL cZ (bz_tM t) (th, sv, ex) ((upd (fun a => nI (bz_cp y c2.2 i a)) i (nI (y i))), (fun a => nI (y a)), u)) H := hP
                            have hD : va_D A (bz_wM am cI cL cZ (bz_tM t) (th, sv, ex) ((upd (fun a => nI (bz_cp y c2.2 i a)) i (nI (y i))), (fun a => nI (y a)), u)) := hD
                            have e9 : (fun a => nI (bz_cp y c2.2 (i + 1) a)) = (upd (fun a => nI (bz_cp y c2.2 i a)) i (nI (y i))) := bz_cp_1 _ _ _
                            rw [← e9] at hP hD
                            refine lv_iinc (v := nI (i + 1)) (lv' := [(8, .int (nI (i + 1))), (0, .ref (am 0)), (1, .int (nI (4 ^ bz_n t))), (2, .long (lN (bz_co t (bz_fu y)))), (4, .int (nI kk))]) hx hb d_M_tryAll_121 hl (k := 4) rfl (nI_1 _) (by decide) rfl (fun ls hl => ?_)
                            refine lv_goto (tgt := 98) hx hb d_M_tryAll_124 (by decide) ?_
                            exact ihlpy (i + 1) (by omega) (by omega) _ _ hP hD hS ls (lv_sub hl [1, 2, 3, 4, 0] rfl)
                      exact lpy _ 0 (Nat.lt_succ_self _) (by omega) _ _ hP hD hS ls (lv_sub hl [3, 4, 1, 5, 0] rfl)
                  · skip
                    have hj0 : 0 < j := by rcases Nat.eq_zero_or_pos j with z | z; { rw [z] at c_49; exact absurd (by decide) c_49 }; { exact z }
                    have hl : lv_has ls 9 [(0, .ref (am 0)), (1, .int (nI (4 ^ bz_n t))), (2, .long (lN c2.1)), (4, .int (nI kk)), (5, .int (nI (kk / 4 ^ (bz_n t - j)))), (6, .int (nI (j - 1)))] := by rw [show nI (j - 1) = nI j - 1 from by rw [← nI_pred (j - 1), show j - 1 + 1 = j by omega]]; exact hl
                    have hkb : kk / 4 ^ (bz_n t - j) ≤ kk := Nat.div_le_self _ _
                    refine lv_aload_n hx hb d_M_tryAll_52 rfl (lv_at hl 0 rfl) ?_
                    refine va_get (D := (dC, dI)) (ci := 4) (v := .ref (am 7)) (C := R_M) (T := F_M) (N := 12) hx hb htb in_M hown hK hP 0 rfl rfl 10 (by decide) (htb _ wd_421) (fun _ h9 => h9) rfl d_M_tryAll_53 ?_
                    refine lv_iload hx hb d_M_tryAll_56 (lv_at hl 5 rfl) ?_
                    refine lv_iload hx hb d_M_tryAll_58 (lv_at hl 4 rfl) ?_
                    refine lv_iconst (v := 4) hx hb d_M_tryAll_60 (by decide) ?_
                    refine lv_irem hx hb d_M_tryAll_61 (by decide) ?_
                    refine bz_ri (y := nI (kk / 4 ^ (bz_n t - j) % 4)) (pk_rem (d := 4) (by omega) (by omega) (by omega)) ?_
                    refine bz_iast hx hb hK hP hD hS 7 0 rfl rfl (a9 := (j - 1)) (by omega) (by decide) d_M_tryAll_62 (fun H locs hP hD hS => ?_)
                    have hP : va_P (dC, dI) vwCl (bz_wM am cI cL cZ (bz_tM t) (th, sv, ex) ((fun a => nI (c2.2 a)), (upd (fun a => nI (y a)) (j - 1) (nI (kk / 4 ^ (bz_n t - j) % 4))), u)) H := hP
                    have hD : va_D A (bz_wM am cI cL cZ (bz_tM t) (th, sv, ex) ((fun a => nI (c2.2 a)), (upd (fun a => nI (y a)) (j - 1) (nI (kk / 4 ^ (bz_n t - j) % 4))), u)) := hD
                    have e9 : (fun a => nI (va_up y (j - 1) (kk / 4 ^ (bz_n t - j) % 4) a)) = (upd (fun a => nI (y a)) (j - 1) (nI (kk / 4 ^ (bz_n t - j) % 4))) := (bz_updI _ _ _).symm
                    rw [← e9] at hP hD
                    refine lv_iload hx hb d_M_tryAll_63 (lv_at hl 4 rfl) ?_
                    refine lv_iconst (v := 4) hx hb d_M_tryAll_65 (by decide) ?_
                    refine lv_idiv hx hb d_M_tryAll_66 (by decide) ?_
                    refine bz_ri (y := nI (kk / 4 ^ (bz_n t - (j - 1)))) (by rw [show (4 : Int32) = nI 4 from rfl, pk_div (by omega) (by omega) (by omega), Nat.div_div_eq_div_mul, ← Nat.pow_succ, show (bz_n t - j).succ = bz_n t - (j - 1) by omega]) ?_
                    refine lv_istore (lv' := [(5, .int (nI (kk / 4 ^ (bz_n t - (j - 1))))), (0, .ref (am 0)), (1, .int (nI (4 ^ bz_n t))), (2, .long (lN c2.1)), (4, .int (nI kk)), (6, .int (nI (j - 1)))]) hx hb d_M_tryAll_67 hl (by decide) rfl (fun ls hl => ?_)
                    refine lv_iinc (v := nI (j - 1) - 1) (lv' := [(6, .int (nI (j - 1) - 1)), (5, .int (nI (kk / 4 ^ (bz_n t - (j - 1))))), (0, .ref (am 0)), (1, .int (nI (4 ^ bz_n t))), (2, .long (lN c2.1)), (4, .int (nI kk))]) hx hb d_M_tryAll_69 hl (k := 5) rfl (bz_im1 _) (by decide) rfl (fun ls hl => ?_)
                    refine lv_goto (tgt := 47) hx hb d_M_tryAll_72 (by decide) ?_
                    exact ihlpd (j - 1) (va_up y (j - 1) (kk / 4 ^ (bz_n t - j) % 4)) (by omega) (by omega) (fun a h1 h2 => by by_cases e : a = j - 1; { rw [e, bz_up_s, show bz_n t - 1 - (j - 1) = bz_n t - j by omega] }; { rw [bz_up_n _ _ e]; exact hyd a (by omega) h2 }) _ _ hP hD hS ls (lv_sub hl [2, 3, 4, 5, 1, 0] rfl)
              exact lpd _ (bz_n t) tr (Nat.lt_succ_self _) (Nat.le_refl _) (fun a h1 h2 => absurd h2 (by omega)) _ _ hP hD hS ls (lv_sub hl [2, 3, 4, 5, 1, 0] rfl)
        exact lpk _ 0 (9223372036854775807, g0) tr0 S3 (Nat.lt_succ_self _) (Nat.zero_le _) (bz_Ec_0) (Nat.le_refl _) _ _ hP hD hS ls (lv_sub hl [2, 3, 1, 0] rfl)
      · skip
        have hin : i < bz_n t := Nat.lt_of_not_le fun z => c_9 ((nI_leI (by omega) (by omega)).mpr z)
        refine lv_iconst (v := 4) hx hb d_M_tryAll_12 (by decide) ?_
        refine lv_iload_n hx hb d_M_tryAll_13 rfl (lv_at hl 1 rfl) ?_
        refine lv_imul hx hb d_M_tryAll_14 ?_
        refine bz_ri (y := nI (4 ^ (i + 1))) (by rw [show (4 : Int32) = nI 4 from rfl, pk_mul, Nat.pow_succ, Nat.mul_comm]) ?_
        refine lv_istore_n (lv' := [(1, .int (nI (4 ^ (i + 1)))), (0, .ref (am 0)), (2, .int (nI i))]) hx hb d_M_tryAll_15 rfl hl (by decide) rfl (fun ls hl => ?_)
        refine lv_iinc (v := nI (i + 1)) (lv' := [(2, .int (nI (i + 1))), (1, .int (nI (4 ^ (i + 1)))), (0, .ref (am 0))]) hx hb d_M_tryAll_16 hl (k := 2) rfl (nI_1 _) (by decide) rfl (fun ls hl => ?_)
        refine lv_goto (tgt := 4) hx hb d_M_tryAll_19 (by decide) ?_
        exact ihlpa (i + 1) (by omega) (by omega) _ _ hP hD hS ls (lv_sub hl [2, 1, 0] rfl)
  exact lpa _ 0 (Nat.lt_succ_self _) (by omega) _ _ hP hD hS ls (lv_sub hl [2, 1, 0] rfl)
