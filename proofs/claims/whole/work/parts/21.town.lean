theorem d_T_roundsWithHours_0 : decode b_T_roundsWithHours 0 = .ok (.iconst 0, 1) := by decide +kernel
theorem d_T_roundsWithHours_1 : decode b_T_roundsWithHours 1 = .ok (.istore_n 1, 1) := by decide +kernel
theorem d_T_roundsWithHours_2 : decode b_T_roundsWithHours 2 = .ok (.iconst 0, 1) := by decide +kernel
theorem d_T_roundsWithHours_3 : decode b_T_roundsWithHours 3 = .ok (.istore_n 2, 1) := by decide +kernel
theorem d_T_roundsWithHours_4 : decode b_T_roundsWithHours 4 = .ok (.iload_n 2, 1) := by decide +kernel
theorem d_T_roundsWithHours_5 : decode b_T_roundsWithHours 5 = .ok (.iconst 4, 1) := by decide +kernel
theorem d_T_roundsWithHours_6 : decode b_T_roundsWithHours 6 = .ok (.if_icmp .ge 23, 3) := by decide +kernel
theorem d_T_roundsWithHours_9 : decode b_T_roundsWithHours 9 = .ok (.aload_n 0, 1) := by decide +kernel
theorem d_T_roundsWithHours_10 : decode b_T_roundsWithHours 10 = .ok (.getfield 25, 3) := by decide +kernel
theorem d_T_roundsWithHours_13 : decode b_T_roundsWithHours 13 = .ok (.iload_n 2, 1) := by decide +kernel
theorem d_T_roundsWithHours_14 : decode b_T_roundsWithHours 14 = .ok (.laload, 1) := by decide +kernel
theorem d_T_roundsWithHours_15 : decode b_T_roundsWithHours 15 = .ok (.lconst 0, 1) := by decide +kernel
theorem d_T_roundsWithHours_16 : decode b_T_roundsWithHours 16 = .ok (.lcmp, 1) := by decide +kernel
theorem d_T_roundsWithHours_17 : decode b_T_roundsWithHours 17 = .ok (.ifCond .le 6, 3) := by decide +kernel
theorem d_T_roundsWithHours_20 : decode b_T_roundsWithHours 20 = .ok (.iinc 1 1, 3) := by decide +kernel
theorem d_T_roundsWithHours_23 : decode b_T_roundsWithHours 23 = .ok (.iinc 2 1, 3) := by decide +kernel
theorem d_T_roundsWithHours_26 : decode b_T_roundsWithHours 26 = .ok (.goto (-22), 3) := by decide +kernel
theorem d_T_roundsWithHours_29 : decode b_T_roundsWithHours 29 = .ok (.iload_n 1, 1) := by decide +kernel
theorem d_T_roundsWithHours_30 : decode b_T_roundsWithHours 30 = .ok (.ireturn, 1) := by decide +kernel
theorem d_T_lightestLoad_0 : decode b_T_lightestLoad 0 = .ok (.aload_n 0, 1) := by decide +kernel
theorem d_T_lightestLoad_1 : decode b_T_lightestLoad 1 = .ok (.getfield 9, 3) := by decide +kernel
theorem d_T_lightestLoad_4 : decode b_T_lightestLoad 4 = .ok (.iload_n 1, 1) := by decide +kernel
theorem d_T_lightestLoad_5 : decode b_T_lightestLoad 5 = .ok (.laload, 1) := by decide +kernel
theorem d_T_lightestLoad_6 : decode b_T_lightestLoad 6 = .ok (.lstore_n 2, 1) := by decide +kernel
theorem d_T_lightestLoad_7 : decode b_T_lightestLoad 7 = .ok (.iconst 0, 1) := by decide +kernel
theorem d_T_lightestLoad_8 : decode b_T_lightestLoad 8 = .ok (.istore 4, 2) := by decide +kernel
theorem d_T_lightestLoad_10 : decode b_T_lightestLoad 10 = .ok (.iload 4, 2) := by decide +kernel
theorem d_T_lightestLoad_12 : decode b_T_lightestLoad 12 = .ok (.iconst 4, 1) := by decide +kernel
theorem d_T_lightestLoad_13 : decode b_T_lightestLoad 13 = .ok (.if_icmp .ge 33, 3) := by decide +kernel
theorem d_T_lightestLoad_16 : decode b_T_lightestLoad 16 = .ok (.aload_n 0, 1) := by decide +kernel
theorem d_T_lightestLoad_17 : decode b_T_lightestLoad 17 = .ok (.getfield 25, 3) := by decide +kernel
theorem d_T_lightestLoad_20 : decode b_T_lightestLoad 20 = .ok (.iload 4, 2) := by decide +kernel
theorem d_T_lightestLoad_22 : decode b_T_lightestLoad 22 = .ok (.laload, 1) := by decide +kernel
theorem d_T_lightestLoad_23 : decode b_T_lightestLoad 23 = .ok (.lconst 0, 1) := by decide +kernel
theorem d_T_lightestLoad_24 : decode b_T_lightestLoad 24 = .ok (.lcmp, 1) := by decide +kernel
theorem d_T_lightestLoad_25 : decode b_T_lightestLoad 25 = .ok (.ifCond .le 15, 3) := by decide +kernel
theorem d_T_lightestLoad_28 : decode b_T_lightestLoad 28 = .ok (.lload_n 2, 1) := by decide +kernel
theorem d_T_lightestLoad_29 : decode b_T_lightestLoad 29 = .ok (.aload_n 0, 1) := by decide +kernel
theorem d_T_lightestLoad_30 : decode b_T_lightestLoad 30 = .ok (.iload_n 1, 1) := by decide +kernel
theorem d_T_lightestLoad_31 : decode b_T_lightestLoad 31 = .ok (.iload 4, 2) := by decide +kernel
theorem d_T_lightestLoad_33 : decode b_T_lightestLoad 33 = .ok (.invokevirtual 40, 3) := by decide +kernel
theorem d_T_lightestLoad_36 : decode b_T_lightestLoad 36 = .ok (.invokestatic 44, 3) := by decide +kernel
theorem d_T_lightestLoad_39 : decode b_T_lightestLoad 39 = .ok (.lstore_n 2, 1) := by decide +kernel
theorem d_T_lightestLoad_40 : decode b_T_lightestLoad 40 = .ok (.iinc 4 1, 3) := by decide +kernel
theorem d_T_lightestLoad_43 : decode b_T_lightestLoad 43 = .ok (.goto (-33), 3) := by decide +kernel
theorem d_T_lightestLoad_46 : decode b_T_lightestLoad 46 = .ok (.lload_n 2, 1) := by decide +kernel
theorem d_T_lightestLoad_47 : decode b_T_lightestLoad 47 = .ok (.lreturn, 1) := by decide +kernel
theorem d_T_fitsNowhere_0 : decode b_T_fitsNowhere 0 = .ok (.iconst 0, 1) := by decide +kernel
theorem d_T_fitsNowhere_1 : decode b_T_fitsNowhere 1 = .ok (.istore_n 2, 1) := by decide +kernel
theorem d_T_fitsNowhere_2 : decode b_T_fitsNowhere 2 = .ok (.iload_n 2, 1) := by decide +kernel
theorem d_T_fitsNowhere_3 : decode b_T_fitsNowhere 3 = .ok (.iconst 4, 1) := by decide +kernel
theorem d_T_fitsNowhere_4 : decode b_T_fitsNowhere 4 = .ok (.if_icmp .ge 38, 3) := by decide +kernel
theorem d_T_fitsNowhere_7 : decode b_T_fitsNowhere 7 = .ok (.aload_n 0, 1) := by decide +kernel
theorem d_T_fitsNowhere_8 : decode b_T_fitsNowhere 8 = .ok (.getfield 25, 3) := by decide +kernel
theorem d_T_fitsNowhere_11 : decode b_T_fitsNowhere 11 = .ok (.iload_n 2, 1) := by decide +kernel
theorem d_T_fitsNowhere_12 : decode b_T_fitsNowhere 12 = .ok (.laload, 1) := by decide +kernel
theorem d_T_fitsNowhere_13 : decode b_T_fitsNowhere 13 = .ok (.lconst 0, 1) := by decide +kernel
theorem d_T_fitsNowhere_14 : decode b_T_fitsNowhere 14 = .ok (.lcmp, 1) := by decide +kernel
theorem d_T_fitsNowhere_15 : decode b_T_fitsNowhere 15 = .ok (.ifCond .le 21, 3) := by decide +kernel
theorem d_T_fitsNowhere_18 : decode b_T_fitsNowhere 18 = .ok (.aload_n 0, 1) := by decide +kernel
theorem d_T_fitsNowhere_19 : decode b_T_fitsNowhere 19 = .ok (.iload_n 1, 1) := by decide +kernel
theorem d_T_fitsNowhere_20 : decode b_T_fitsNowhere 20 = .ok (.iload_n 2, 1) := by decide +kernel
theorem d_T_fitsNowhere_21 : decode b_T_fitsNowhere 21 = .ok (.invokevirtual 40, 3) := by decide +kernel
theorem d_T_fitsNowhere_24 : decode b_T_fitsNowhere 24 = .ok (.aload_n 0, 1) := by decide +kernel
theorem d_T_fitsNowhere_25 : decode b_T_fitsNowhere 25 = .ok (.getfield 25, 3) := by decide +kernel
theorem d_T_fitsNowhere_28 : decode b_T_fitsNowhere 28 = .ok (.iload_n 2, 1) := by decide +kernel
theorem d_T_fitsNowhere_29 : decode b_T_fitsNowhere 29 = .ok (.laload, 1) := by decide +kernel
theorem d_T_fitsNowhere_30 : decode b_T_fitsNowhere 30 = .ok (.lcmp, 1) := by decide +kernel
theorem d_T_fitsNowhere_31 : decode b_T_fitsNowhere 31 = .ok (.ifCond .gt 5, 3) := by decide +kernel
theorem d_T_fitsNowhere_34 : decode b_T_fitsNowhere 34 = .ok (.iconst 0, 1) := by decide +kernel
theorem d_T_fitsNowhere_35 : decode b_T_fitsNowhere 35 = .ok (.ireturn, 1) := by decide +kernel
theorem d_T_fitsNowhere_36 : decode b_T_fitsNowhere 36 = .ok (.iinc 2 1, 3) := by decide +kernel
theorem d_T_fitsNowhere_39 : decode b_T_fitsNowhere 39 = .ok (.goto (-37), 3) := by decide +kernel
theorem d_T_fitsNowhere_42 : decode b_T_fitsNowhere 42 = .ok (.iconst 1, 1) := by decide +kernel
theorem d_T_fitsNowhere_43 : decode b_T_fitsNowhere 43 = .ok (.ireturn, 1) := by decide +kernel
theorem d_T_haveWays_0 : decode b_T_haveWays 0 = .ok (.iload_n 1, 1) := by decide +kernel
theorem d_T_haveWays_1 : decode b_T_haveWays 1 = .ok (.iload_n 1, 1) := by decide +kernel
theorem d_T_haveWays_2 : decode b_T_haveWays 2 = .ok (.ineg, 1) := by decide +kernel
theorem d_T_haveWays_3 : decode b_T_haveWays 3 = .ok (.iand, 1) := by decide +kernel
theorem d_T_haveWays_4 : decode b_T_haveWays 4 = .ok (.istore_n 3, 1) := by decide +kernel
theorem d_T_haveWays_5 : decode b_T_haveWays 5 = .ok (.iconst 0, 1) := by decide +kernel
theorem d_T_haveWays_6 : decode b_T_haveWays 6 = .ok (.istore 4, 2) := by decide +kernel
theorem d_T_haveWays_8 : decode b_T_haveWays 8 = .ok (.iconst 0, 1) := by decide +kernel
theorem d_T_haveWays_9 : decode b_T_haveWays 9 = .ok (.istore 5, 2) := by decide +kernel
theorem d_T_haveWays_11 : decode b_T_haveWays 11 = .ok (.iload 5, 2) := by decide +kernel
theorem d_T_haveWays_13 : decode b_T_haveWays 13 = .ok (.bipush 30, 2) := by decide +kernel
theorem d_T_haveWays_15 : decode b_T_haveWays 15 = .ok (.if_icmp .ge 65, 3) := by decide +kernel
theorem d_T_haveWays_18 : decode b_T_haveWays 18 = .ok (.iload_n 3, 1) := by decide +kernel
theorem d_T_haveWays_19 : decode b_T_haveWays 19 = .ok (.iload 4, 2) := by decide +kernel
theorem d_T_haveWays_21 : decode b_T_haveWays 21 = .ok (.if_icmp .eq 59, 3) := by decide +kernel
theorem d_T_haveWays_24 : decode b_T_haveWays 24 = .ok (.iload_n 1, 1) := by decide +kernel
theorem d_T_haveWays_25 : decode b_T_haveWays 25 = .ok (.iload_n 3, 1) := by decide +kernel
theorem d_T_haveWays_26 : decode b_T_haveWays 26 = .ok (.iconst (-1), 1) := by decide +kernel
theorem d_T_haveWays_27 : decode b_T_haveWays 27 = .ok (.ixor, 1) := by decide +kernel
theorem d_T_haveWays_28 : decode b_T_haveWays 28 = .ok (.iand, 1) := by decide +kernel
theorem d_T_haveWays_29 : decode b_T_haveWays 29 = .ok (.ifCond .eq 51, 3) := by decide +kernel
theorem d_T_haveWays_32 : decode b_T_haveWays 32 = .ok (.iload_n 3, 1) := by decide +kernel
theorem d_T_haveWays_33 : decode b_T_haveWays 33 = .ok (.istore 4, 2) := by decide +kernel
theorem d_T_haveWays_35 : decode b_T_haveWays 35 = .ok (.iconst 0, 1) := by decide +kernel
theorem d_T_haveWays_36 : decode b_T_haveWays 36 = .ok (.istore 6, 2) := by decide +kernel
theorem d_T_haveWays_38 : decode b_T_haveWays 38 = .ok (.iload 6, 2) := by decide +kernel
theorem d_T_haveWays_40 : decode b_T_haveWays 40 = .ok (.aload_n 0, 1) := by decide +kernel
theorem d_T_haveWays_41 : decode b_T_haveWays 41 = .ok (.getfield 28, 3) := by decide +kernel
theorem d_T_haveWays_44 : decode b_T_haveWays 44 = .ok (.if_icmp .ge 30, 3) := by decide +kernel
theorem d_T_haveWays_47 : decode b_T_haveWays 47 = .ok (.iload_n 3, 1) := by decide +kernel
theorem d_T_haveWays_48 : decode b_T_haveWays 48 = .ok (.iconst 1, 1) := by decide +kernel
theorem d_T_haveWays_49 : decode b_T_haveWays 49 = .ok (.iload 6, 2) := by decide +kernel
theorem d_T_haveWays_51 : decode b_T_haveWays 51 = .ok (.ishl, 1) := by decide +kernel
theorem d_T_haveWays_52 : decode b_T_haveWays 52 = .ok (.iand, 1) := by decide +kernel
theorem d_T_haveWays_53 : decode b_T_haveWays 53 = .ok (.ifCond .eq 15, 3) := by decide +kernel
theorem d_T_haveWays_56 : decode b_T_haveWays 56 = .ok (.iload_n 3, 1) := by decide +kernel
theorem d_T_haveWays_57 : decode b_T_haveWays 57 = .ok (.aload_n 0, 1) := by decide +kernel
theorem d_T_haveWays_58 : decode b_T_haveWays 58 = .ok (.getfield 19, 3) := by decide +kernel
theorem d_T_haveWays_61 : decode b_T_haveWays 61 = .ok (.iload 6, 2) := by decide +kernel
theorem d_T_haveWays_63 : decode b_T_haveWays 63 = .ok (.iaload, 1) := by decide +kernel
theorem d_T_haveWays_64 : decode b_T_haveWays 64 = .ok (.iload_n 2, 1) := by decide +kernel
theorem d_T_haveWays_65 : decode b_T_haveWays 65 = .ok (.iand, 1) := by decide +kernel
theorem d_T_haveWays_66 : decode b_T_haveWays 66 = .ok (.ior, 1) := by decide +kernel
theorem d_T_haveWays_67 : decode b_T_haveWays 67 = .ok (.istore_n 3, 1) := by decide +kernel
theorem d_T_haveWays_68 : decode b_T_haveWays 68 = .ok (.iinc 6 1, 3) := by decide +kernel
theorem d_T_haveWays_71 : decode b_T_haveWays 71 = .ok (.goto (-33), 3) := by decide +kernel
theorem d_T_haveWays_74 : decode b_T_haveWays 74 = .ok (.iinc 5 1, 3) := by decide +kernel
theorem d_T_haveWays_77 : decode b_T_haveWays 77 = .ok (.goto (-66), 3) := by decide +kernel
theorem d_T_haveWays_80 : decode b_T_haveWays 80 = .ok (.iload_n 1, 1) := by decide +kernel
theorem d_T_haveWays_81 : decode b_T_haveWays 81 = .ok (.iload_n 3, 1) := by decide +kernel
theorem d_T_haveWays_82 : decode b_T_haveWays 82 = .ok (.iconst (-1), 1) := by decide +kernel
theorem d_T_haveWays_83 : decode b_T_haveWays 83 = .ok (.ixor, 1) := by decide +kernel
theorem d_T_haveWays_84 : decode b_T_haveWays 84 = .ok (.iand, 1) := by decide +kernel
theorem d_T_haveWays_85 : decode b_T_haveWays 85 = .ok (.ifCond .ne 7, 3) := by decide +kernel
theorem d_T_haveWays_88 : decode b_T_haveWays 88 = .ok (.iconst 1, 1) := by decide +kernel
theorem d_T_haveWays_89 : decode b_T_haveWays 89 = .ok (.goto 4, 3) := by decide +kernel
theorem d_T_haveWays_92 : decode b_T_haveWays 92 = .ok (.iconst 0, 1) := by decide +kernel
theorem d_T_haveWays_93 : decode b_T_haveWays 93 = .ok (.ireturn, 1) := by decide +kernel

theorem bz_lc_le {a b : Nat} (ha : a < 2 ^ 63) (hb : b < 2 ^ 63) : lg_cmp (lN a) (lN b) ≤ 0 ↔ a ≤ b := by rw [lg_cmp_le]; exact pk_lLE ha hb
theorem bz_lc_lt {a b : Nat} (ha : a < 2 ^ 63) (hb : b < 2 ^ 63) : lg_cmp (lN a) (lN b) < 0 ↔ a < b := by rw [lg_cmp_lt]; exact pk_lLT ha hb
theorem bz_lc_gt {a b : Nat} (ha : a < 2 ^ 63) (hb : b < 2 ^ 63) : 0 < lg_cmp (lN a) (lN b) ↔ b < a := by rw [lg_cmp_gt]; exact pk_lLT hb ha
theorem bz_lc_ge {a b : Nat} (ha : a < 2 ^ 63) (hb : b < 2 ^ 63) : 0 ≤ lg_cmp (lN a) (lN b) ↔ b ≤ a := by rw [lg_cmp_ge]; exact pk_lLE hb ha
theorem bz_lc_eq {a b : Nat} (ha : a < 2 ^ 63) (hb : b < 2 ^ 63) : lg_cmp (lN a) (lN b) = 0 ↔ a = b := by rw [lg_cmp_eq]; exact pk_lEQ ha hb
theorem bz_ct_1 {f : Nat → Bool} {i : Nat} (h : f i = true) : bz_ct f (i + 1) = bz_ct f i + 1 := by
  show bz_ct f i + (if f i then 1 else 0) = _
  rw [if_pos h]
theorem bz_ct_0 {f : Nat → Bool} {i : Nat} (h : f i = false) : bz_ct f (i + 1) = bz_ct f i := by
  show bz_ct f i + (if f i then 1 else 0) = _
  rw [if_neg (by simp [h])]
  rfl
/-- the rounds with hours -/
def bz_wh (t : bz_T) (r : Nat) : Bool := decide (0 < bz_h t r)
/-- where an area is lightest, of the rounds up to k -/
def bz_mn (t : bz_T) (a : Nat) : Nat → Nat
  | 0 => bz_l t a
  | k + 1 => if bz_wh t k then min (bz_mn t a k) (bz_w t a k) else bz_mn t a k
theorem bz_mn_1 {t : bz_T} {a k : Nat} (h : 0 < bz_h t k) : bz_mn t a (k + 1) = min (bz_mn t a k) (bz_w t a k) := by
  show (if bz_wh t k then min (bz_mn t a k) (bz_w t a k) else bz_mn t a k) = _
  rw [if_pos (by unfold bz_wh; exact decide_eq_true h)]
theorem bz_mn_0 {t : bz_T} {a k : Nat} (h : bz_h t k ≤ 0) : bz_mn t a (k + 1) = bz_mn t a k := by
  show (if bz_wh t k then min (bz_mn t a k) (bz_w t a k) else bz_mn t a k) = _
  rw [if_neg (by unfold bz_wh; simp; omega)]
theorem bz_mn_le {t : bz_T} (h : bz_ok t) (a : Nat) : ∀ k, bz_mn t a k ≤ 1000000
  | 0 => h.2.1 a
  | k + 1 => by
    have := bz_mn_le h a k
    unfold bz_mn
    split <;> omega
/-- an area that is too large for the rounds up to k -/
def bz_tl (t : bz_T) (a : Nat) : Nat → Bool
  | 0 => true
  | k + 1 => bz_tl t a k && !(bz_wh t k && decide (bz_w t a k ≤ bz_h t k))
theorem bz_tl_0 {t : bz_T} {a k : Nat} (h : bz_tl t a k = false) : ∀ m, k ≤ m → bz_tl t a m = false := by
  intro m hm
  induction m with
  | zero => rw [show k = 0 by omega] at h; exact h
  | succ m ih =>
    by_cases e : k = m + 1
    · rw [← e]; exact h
    · unfold bz_tl
      rw [ih (by omega)]
      rfl
theorem bz_lmin {a b : Nat} (ha : a < 2 ^ 63) (hb : b < 2 ^ 63) : (if lN b < lN a then lN b else lN a) = lN (min a b) := by
  by_cases h : b < a
  · rw [if_pos ((pk_lLT hb ha).mpr h), Nat.min_eq_right (Nat.le_of_lt h)]
  · rw [if_neg (fun q => h ((pk_lLT hb ha).mp q)), Nat.min_eq_left (by omega)]
theorem bz_lmax {a b : Nat} (ha : a < 2 ^ 63) (hb : b < 2 ^ 63) : (if lN b < lN a then lN a else lN b) = lN (max a b) := by
  by_cases h : b < a
  · rw [if_pos ((pk_lLT hb ha).mpr h), Nat.max_eq_left (Nat.le_of_lt h)]
  · rw [if_neg (fun q => h ((pk_lLT hb ha).mp q)), Nat.max_eq_right (by omega)]

set_option maxHeartbeats 4000000 in
set_option maxRecDepth 100000 in
/-- Town.roundsWithHours -/
theorem c_T_roundsWithHours (l : Launch) (dC : Nat → ClassId) (dI : Nat → Nat → Nat) (ad : Nat → Nat) (cI cL : ClassId) (t : bz_T) (R : bz_RS) (L : (Nat → Int32) × Int64) (v : Int32) (ht : bz_ok t) : Met l y_T_roundsWithHours w_T_roundsWithHours ({ frames := 0, cells := 0, slots := 0, locals := 0 }) (bz_Pr (dC, dI) [(cI, .int), (cL, .long)] (bz_wB ad cI cL (bz_tR t) R L v) [.ref (ad 1)]) (vp_Si (fun r9 => r9 = nI (bz_ct (bz_wh t) 4))) 0 0 (fun _ => False) := by
  refine Met.ofW (cc := b_T_roundsWithHours) (maxL := 3) (ret := (some .int)) (by decide) rfl ?_
  intro p e s m args below meth c s₁ B hml hv
  obtain ⟨rfl, hP, hK, hN⟩ := hv
  have hx := B.exec
  have hb := B.bytes
  have hr := B.returns
  have hts := atoms_spec (ws := w_T_roundsWithHours) B.pre
  have hown : s.vm.findClass R_T = some m.cls := findClass_of_methodNamed B.named
  have htb : ∀ w ∈ bz_tb, w.before _ s = true := fun w h => hts w (List.mem_cons_of_mem _ h)
  have hlocks := B.notSynchronized
  have hl := lv_entry ([.ref (ad 1)]) (n := 3) (Nat.le_of_ble_eq_true rfl)
  rw [lg_entry_eq]
  generalize (lg_sl ([.ref (ad 1)]) ++ List.replicate (3 - (lg_sl ([.ref (ad 1)])).length) Slot.unset).toArray = ls at hl ⊢
  have hl : lv_has ls 3 [(0, .ref (ad 1))] := hl
  refine lv_iconst (v := nI 0) hx hb d_T_roundsWithHours_0 (by decide) ?_
  refine lv_istore_n (lv' := [(1, .int (nI 0)), (0, .ref (ad 1))]) hx hb d_T_roundsWithHours_1 rfl hl (by decide) rfl (fun ls hl => ?_)
  refine lv_iconst (v := nI 0) hx hb d_T_roundsWithHours_2 (by decide) ?_
  refine lv_istore_n (lv' := [(2, .int (nI 0)), (1, .int (nI 0)), (0, .ref (ad 1))]) hx hb d_T_roundsWithHours_3 rfl hl (by decide) rfl (fun ls hl => ?_)
  have lp : ∀ (k9 : Nat) (i : Nat), 4 - i < k9 → (i ≤ 4) → ∀ (ls : Array Slot), lv_has ls 3 [(0, .ref (ad 1)), (1, .int (nI (bz_ct (bz_wh t) i))), (2, .int (nI i))] → W p l e (headSpec w_T_roundsWithHours ({ frames := 0, cells := 0, slots := 0, locals := 0 })).room s m ([.ref (ad 1)]).toArray below meth c s.heap [] 0 0 (MQ below (vp_Si (fun r9 => r9 = nI (bz_ct (bz_wh t) 4))) ([.ref (ad 1)]).toArray s 0 0 (fun _ => False)) (F0 m 4 ls []) := by
    intro k9
    induction k9 with
    | zero =>
      intro i h9
      exact absurd h9 (Nat.not_lt_zero _)
    | succ k9 ihlp =>
      intro i h9_lp hi ls hl
      refine lv_iload_n hx hb d_T_roundsWithHours_4 rfl (lv_at hl 2 rfl) ?_
      refine lv_iconst (v := 4) hx hb d_T_roundsWithHours_5 (by decide) ?_
      refine lv_icmp_ge (tgt := 29) hx hb d_T_roundsWithHours_6 (by decide) (fun c_6 => ?_) (fun c_6 => ?_)
      · skip
        have hi4 : i = 4 := by have := (nI_leI (a := 4) (by omega) (by omega)).mp c_6; omega
        skip
        refine lv_iload_n hx hb d_T_roundsWithHours_29 rfl (lv_at hl 1 rfl) ?_
        exact W.iret (v := nI (bz_ct (bz_wh t) i)) hx hb hr (fun t9 ht9 hW => ⟨nI (bz_ct (bz_wh t) i), rfl, by rw [hi4], ht9⟩) (fun _ h => nomatch h) d_T_roundsWithHours_30
      · skip
        have hi4 : i < 4 := Nat.lt_of_not_le fun z => c_6 ((nI_leI (a := 4) (b := i) (by omega) (by omega)).mpr z)
        refine lv_aload_n hx hb d_T_roundsWithHours_9 rfl (lv_at hl 0 rfl) ?_
        refine va_get (D := (dC, dI)) (ci := 2) (v := .ref (ad 6)) (C := R_T) (T := F_T) (N := 6) hx hb htb in_T hown hK hP 1 rfl rfl 4 (by decide) (htb _ wd_52) (fun _ h9 => h9) rfl d_T_roundsWithHours_10 ?_
        refine lv_iload_n hx hb d_T_roundsWithHours_13 rfl (lv_at hl 2 rfl) ?_
        refine bz_lald (v := lN (bz_h t i)) hx hb hK hP 6 1 rfl rfl (a9 := i) (by omega) (by decide) (rfl) d_T_roundsWithHours_14 ?_
        refine lv_lconst (v := 0) hx hb d_T_roundsWithHours_15 (by decide) ?_
        refine W.lcmp hx hb d_T_roundsWithHours_16 ?_
        refine lv_if_le (tgt := 23) hx hb d_T_roundsWithHours_17 (by decide) (fun c_17 => ?_) (fun c_17 => ?_)
        · skip
          have c_17 := (bz_lc_le (b := 0) (by have := ht.2.2.2.2.2.2 i; omega) (by omega)).mp c_17
          have hl : lv_has ls 3 [(0, .ref (ad 1)), (1, .int (nI (bz_ct (bz_wh t) (i + 1)))), (2, .int (nI i))] := by rw [show nI (bz_ct (bz_wh t) (i + 1)) = nI (bz_ct (bz_wh t) i) from by rw [bz_ct_0 (by unfold bz_wh; exact decide_eq_false (by omega))]]; exact hl
          refine lv_iinc (v := nI (i + 1)) (lv' := [(2, .int (nI (i + 1))), (0, .ref (ad 1)), (1, .int (nI (bz_ct (bz_wh t) (i + 1))))]) hx hb d_T_roundsWithHours_23 hl (k := 2) rfl (nI_1 _) (by decide) rfl (fun ls hl => ?_)
          refine lv_goto (tgt := 4) hx hb d_T_roundsWithHours_26 (by decide) ?_
          exact ihlp (i + 1) (by omega) (by omega) ls (lv_sub hl [1, 2, 0] rfl)
        · skip
          have c_17 : 0 < bz_h t i := Nat.lt_of_not_le fun z => c_17 ((bz_lc_le (b := 0) (by have := ht.2.2.2.2.2.2 i; omega) (by omega)).mpr z)
          refine lv_iinc (v := nI (bz_ct (bz_wh t) (i + 1))) (lv' := [(1, .int (nI (bz_ct (bz_wh t) (i + 1)))), (0, .ref (ad 1)), (2, .int (nI i))]) hx hb d_T_roundsWithHours_20 hl (k := 1) rfl (by rw [bz_ct_1 (by unfold bz_wh; exact decide_eq_true (by omega))]; exact nI_1 _) (by decide) rfl (fun ls hl => ?_)
          refine lv_iinc (v := nI (i + 1)) (lv' := [(2, .int (nI (i + 1))), (1, .int (nI (bz_ct (bz_wh t) (i + 1)))), (0, .ref (ad 1))]) hx hb d_T_roundsWithHours_23 hl (k := 2) rfl (nI_1 _) (by decide) rfl (fun ls hl => ?_)
          refine lv_goto (tgt := 4) hx hb d_T_roundsWithHours_26 (by decide) ?_
          exact ihlp (i + 1) (by omega) (by omega) ls (lv_sub hl [2, 1, 0] rfl)
  exact lp _ 0 (Nat.lt_succ_self _) (by omega) ls (lv_sub hl [2, 1, 0] rfl)

set_option maxHeartbeats 4000000 in
set_option maxRecDepth 100000 in
/-- Town.lightestLoad -/
theorem c_T_lightestLoad (l : Launch) (dC : Nat → ClassId) (dI : Nat → Nat → Nat) (ad : Nat → Nat) (cI cL : ClassId) (t : bz_T) (R : bz_RS) (L : (Nat → Int32) × Int64) (v : Int32) (ht : bz_ok t) (a : Nat) (ha : a < 30) : Met l y_T_lightestLoad w_T_lightestLoad ({ frames := 2, cells := 0, slots := 0, locals := 44 }) (bz_Pr (dC, dI) [(cI, .int), (cL, .long)] (bz_wB ad cI cL (bz_tR t) R L v) [.ref (ad 1), .int (nI a)]) (vp_Sl (fun r9 => r9 = lN (bz_mn t a 4))) 0 0 (fun _ => False) := by
  refine Met.ofW (cc := b_T_lightestLoad) (maxL := 5) (ret := (some .long)) (by decide) rfl ?_
  intro p e s m args below meth c s₁ B hml hv
  obtain ⟨rfl, hP, hK, hN⟩ := hv
  have hx := B.exec
  have hb := B.bytes
  have hr := B.returns
  have hts := atoms_spec (ws := w_T_lightestLoad) B.pre
  have hown : s.vm.findClass R_T = some m.cls := findClass_of_methodNamed B.named
  have htb : ∀ w ∈ bz_tb, w.before _ s = true := fun w h => hts w (List.mem_cons_of_mem _ h)
  have hlocks := B.notSynchronized
  have hl := lv_entry ([.ref (ad 1), .int (nI a)]) (n := 5) (Nat.le_of_ble_eq_true rfl)
  rw [lg_entry_eq]
  generalize (lg_sl ([.ref (ad 1), .int (nI a)]) ++ List.replicate (5 - (lg_sl ([.ref (ad 1), .int (nI a)])).length) Slot.unset).toArray = ls at hl ⊢
  have hl : lv_has ls 5 [(0, .ref (ad 1)), (1, .int (nI a))] := hl
  refine lv_aload_n hx hb d_T_lightestLoad_0 rfl (lv_at hl 0 rfl) ?_
  refine va_get (D := (dC, dI)) (ci := 2) (v := .ref (ad 2)) (C := R_T) (T := F_T) (N := 6) hx hb htb in_T hown hK hP 1 rfl rfl 0 (by decide) (htb _ wd_46) (fun _ h9 => h9) rfl d_T_lightestLoad_1 ?_
  refine lv_iload_n hx hb d_T_lightestLoad_4 rfl (lv_at hl 1 rfl) ?_
  refine bz_lald (v := lN (bz_l t a)) hx hb hK hP 2 1 rfl rfl (a9 := a) (by omega) (by decide) (rfl) d_T_lightestLoad_5 ?_
  refine bz_rl (y := lN (bz_mn t a 0)) (rfl) ?_
  refine lv_lstore_n (lv' := [(2, .long (lN (bz_mn t a 0))), (0, .ref (ad 1)), (1, .int (nI a))]) hx hb d_T_lightestLoad_6 rfl hl (by decide) rfl (fun ls hl => ?_)
  refine lv_iconst (v := nI 0) hx hb d_T_lightestLoad_7 (by decide) ?_
  refine lv_istore (lv' := [(4, .int (nI 0)), (2, .long (lN (bz_mn t a 0))), (0, .ref (ad 1)), (1, .int (nI a))]) hx hb d_T_lightestLoad_8 hl (by decide) rfl (fun ls hl => ?_)
  have lp : ∀ (k9 : Nat) (i : Nat), 4 - i < k9 → (i ≤ 4) → ∀ (ls : Array Slot), lv_has ls 5 [(0, .ref (ad 1)), (1, .int (nI a)), (2, .long (lN (bz_mn t a i))), (4, .int (nI i))] → W p l e (headSpec w_T_lightestLoad ({ frames := 2, cells := 0, slots := 0, locals := 44 })).room s m ([.ref (ad 1), .int (nI a)]).toArray below meth c s.heap [] 0 0 (MQ below (vp_Sl (fun r9 => r9 = lN (bz_mn t a 4))) ([.ref (ad 1), .int (nI a)]).toArray s 0 0 (fun _ => False)) (F0 m 10 ls []) := by
    intro k9
    induction k9 with
    | zero =>
      intro i h9
      exact absurd h9 (Nat.not_lt_zero _)
    | succ k9 ihlp =>
      intro i h9_lp hi ls hl
      refine lv_iload hx hb d_T_lightestLoad_10 (lv_at hl 3 rfl) ?_
      refine lv_iconst (v := 4) hx hb d_T_lightestLoad_12 (by decide) ?_
      refine lv_icmp_ge (tgt := 46) hx hb d_T_lightestLoad_13 (by decide) (fun c_13 => ?_) (fun c_13 => ?_)
      · skip
        have hi4 : i = 4 := by have := (nI_leI (a := 4) (by omega) (by omega)).mp c_13; omega
        skip
        refine lv_lload_n hx hb d_T_lightestLoad_46 rfl (lv_at hl 2 rfl) ?_
        exact W.lret (v := lN (bz_mn t a i)) hx hb hr (fun t9 ht9 hW => ⟨lN (bz_mn t a i), rfl, by rw [hi4], ht9⟩) (fun _ h => nomatch h) d_T_lightestLoad_47
      · skip
        have hi4 : i < 4 := Nat.lt_of_not_le fun z => c_13 ((nI_leI (a := 4) (b := i) (by omega) (by omega)).mpr z)
        refine lv_aload_n hx hb d_T_lightestLoad_16 rfl (lv_at hl 0 rfl) ?_
        refine va_get (D := (dC, dI)) (ci := 2) (v := .ref (ad 6)) (C := R_T) (T := F_T) (N := 6) hx hb htb in_T hown hK hP 1 rfl rfl 4 (by decide) (htb _ wd_52) (fun _ h9 => h9) rfl d_T_lightestLoad_17 ?_
        refine lv_iload hx hb d_T_lightestLoad_20 (lv_at hl 3 rfl) ?_
        refine bz_lald (v := lN (bz_h t i)) hx hb hK hP 6 1 rfl rfl (a9 := i) (by omega) (by decide) (rfl) d_T_lightestLoad_22 ?_
        refine lv_lconst (v := 0) hx hb d_T_lightestLoad_23 (by decide) ?_
        refine W.lcmp hx hb d_T_lightestLoad_24 ?_
        refine lv_if_le (tgt := 40) hx hb d_T_lightestLoad_25 (by decide) (fun c_25 => ?_) (fun c_25 => ?_)
        · skip
          have c_25 := (bz_lc_le (b := 0) (by have := ht.2.2.2.2.2.2 i; omega) (by omega)).mp c_25
          have hl : lv_has ls 5 [(0, .ref (ad 1)), (1, .int (nI a)), (2, .long (lN (bz_mn t a (i + 1)))), (4, .int (nI i))] := by rw [show lN (bz_mn t a (i + 1)) = lN (bz_mn t a i) from by rw [bz_mn_0 c_25]]; exact hl
          refine lv_iinc (v := nI (i + 1)) (lv' := [(4, .int (nI (i + 1))), (0, .ref (ad 1)), (1, .int (nI a)), (2, .long (lN (bz_mn t a (i + 1))))]) hx hb d_T_lightestLoad_40 hl (k := 3) rfl (nI_1 _) (by decide) rfl (fun ls hl => ?_)
          refine lv_goto (tgt := 10) hx hb d_T_lightestLoad_43 (by decide) ?_
          exact ihlp (i + 1) (by omega) (by omega) ls (lv_sub hl [1, 2, 3, 0] rfl)
        · skip
          have c_25 : 0 < bz_h t i := Nat.lt_of_not_le fun z => c_25 ((bz_lc_le (b := 0) (by have := ht.2.2.2.2.2.2 i; omega) (by omega)).mpr z)
          refine lv_lload_n hx hb d_T_lightestLoad_28 rfl (lv_at hl 2 rfl) ?_
          refine lv_aload_n hx hb d_T_lightestLoad_29 rfl (lv_at hl 0 rfl) ?_
          refine lv_iload_n hx hb d_T_lightestLoad_30 rfl (lv_at hl 1 rfl) ?_
          refine lv_iload hx hb d_T_lightestLoad_31 (lv_at hl 3 rfl) ?_
          refine bz_sl (va_runV (As := [.int (nI a), .int (nI i)]) (rest := [.long (lN (bz_mn t a i))]) ⟨hx, hb, hml, hown, htb⟩ (c_T_loadIn l dC dI ad cI cL t R L v ht _ _ (by omega) (by omega)) (cwV 2 htb (bz_gV wd_204 wd_295 wd_202 wd_203 wd_20) rfl rfl rfl (by decide +kernel) ⟨Nat.le_of_ble_eq_true rfl, Nat.le_of_ble_eq_true rfl⟩) (bz_rv hN hK hP (q0 := 1) rfl rfl) rfl rfl hl.1 rfl (lv_room (Nat.le_of_ble_eq_true rfl)) d_T_lightestLoad_33 ⟨Nat.zero_le _, Nat.zero_le _⟩) ?_
          refine va_mmin_long hx hb (hml.trans hl.1.symm) hown (htb _ wd_296) (htb _ wd_297) (htb _ wd_25) (htb _ wd_298) (Nat.le_of_ble_eq_true rfl) (Nat.le_of_ble_eq_true rfl) (Nat.le_of_ble_eq_true rfl) (Nat.le_of_ble_eq_true rfl) d_T_lightestLoad_36 ?_
          refine bz_rl (y := lN (bz_mn t a (i + 1))) (by rw [bz_lmin (by have := bz_mn_le ht a i; omega) (by have := bz_w_le ht a i; omega)]; rw [bz_mn_1 c_25]) ?_
          refine lv_lstore_n (lv' := [(2, .long (lN (bz_mn t a (i + 1)))), (0, .ref (ad 1)), (1, .int (nI a)), (4, .int (nI i))]) hx hb d_T_lightestLoad_39 rfl hl (by decide) rfl (fun ls hl => ?_)
          refine lv_iinc (v := nI (i + 1)) (lv' := [(4, .int (nI (i + 1))), (2, .long (lN (bz_mn t a (i + 1)))), (0, .ref (ad 1)), (1, .int (nI a))]) hx hb d_T_lightestLoad_40 hl (k := 3) rfl (nI_1 _) (by decide) rfl (fun ls hl => ?_)
          refine lv_goto (tgt := 10) hx hb d_T_lightestLoad_43 (by decide) ?_
          exact ihlp (i + 1) (by omega) (by omega) ls (lv_sub hl [2, 3, 1, 0] rfl)
  exact lp _ 0 (Nat.lt_succ_self _) (by omega) ls (lv_sub hl [2, 3, 1, 0] rfl)

set_option maxHeartbeats 4000000 in
set_option maxRecDepth 100000 in
/-- Town.fitsNowhere -/
theorem c_T_fitsNowhere (l : Launch) (dC : Nat → ClassId) (dI : Nat → Nat → Nat) (ad : Nat → Nat) (cI cL : ClassId) (t : bz_T) (R : bz_RS) (L : (Nat → Int32) × Int64) (v : Int32) (ht : bz_ok t) (a : Nat) (ha : a < 30) : Met l y_T_fitsNowhere w_T_fitsNowhere ({ frames := 2, cells := 0, slots := 0, locals := 44 }) (bz_Pr (dC, dI) [(cI, .int), (cL, .long)] (bz_wB ad cI cL (bz_tR t) R L v) [.ref (ad 1), .int (nI a)]) (vp_Si (fun r9 => r9 = bz_i (bz_tl t a 4))) 0 0 (fun _ => False) := by
  refine Met.ofW (cc := b_T_fitsNowhere) (maxL := 3) (ret := (some .boolean)) (by decide) rfl ?_
  intro p e s m args below meth c s₁ B hml hv
  obtain ⟨rfl, hP, hK, hN⟩ := hv
  have hx := B.exec
  have hb := B.bytes
  have hr := B.returns
  have hts := atoms_spec (ws := w_T_fitsNowhere) B.pre
  have hown : s.vm.findClass R_T = some m.cls := findClass_of_methodNamed B.named
  have htb : ∀ w ∈ bz_tb, w.before _ s = true := fun w h => hts w (List.mem_cons_of_mem _ h)
  have hlocks := B.notSynchronized
  have hl := lv_entry ([.ref (ad 1), .int (nI a)]) (n := 3) (Nat.le_of_ble_eq_true rfl)
  rw [lg_entry_eq]
  generalize (lg_sl ([.ref (ad 1), .int (nI a)]) ++ List.replicate (3 - (lg_sl ([.ref (ad 1), .int (nI a)])).length) Slot.unset).toArray = ls at hl ⊢
  have hl : lv_has ls 3 [(0, .ref (ad 1)), (1, .int (nI a))] := hl
  refine lv_iconst (v := nI 0) hx hb d_T_fitsNowhere_0 (by decide) ?_
  refine lv_istore_n (lv' := [(2, .int (nI 0)), (0, .ref (ad 1)), (1, .int (nI a))]) hx hb d_T_fitsNowhere_1 rfl hl (by decide) rfl (fun ls hl => ?_)
  have lp : ∀ (k9 : Nat) (i : Nat), 4 - i < k9 → (i ≤ 4) → (bz_tl t a i = true) → ∀ (ls : Array Slot), lv_has ls 3 [(0, .ref (ad 1)), (1, .int (nI a)), (2, .int (nI i))] → W p l e (headSpec w_T_fitsNowhere ({ frames := 2, cells := 0, slots := 0, locals := 44 })).room s m ([.ref (ad 1), .int (nI a)]).toArray below meth c s.heap [] 0 0 (MQ below (vp_Si (fun r9 => r9 = bz_i (bz_tl t a 4))) ([.ref (ad 1), .int (nI a)]).toArray s 0 0 (fun _ => False)) (F0 m 2 ls []) := by
    intro k9
    induction k9 with
    | zero =>
      intro i h9
      exact absurd h9 (Nat.not_lt_zero _)
    | succ k9 ihlp =>
      intro i h9_lp hi ht1 ls hl
      refine lv_iload_n hx hb d_T_fitsNowhere_2 rfl (lv_at hl 2 rfl) ?_
      refine lv_iconst (v := 4) hx hb d_T_fitsNowhere_3 (by decide) ?_
      refine lv_icmp_ge (tgt := 42) hx hb d_T_fitsNowhere_4 (by decide) (fun c_4 => ?_) (fun c_4 => ?_)
      · skip
        have hi4 : i = 4 := by have := (nI_leI (a := 4) (by omega) (by omega)).mp c_4; omega
        skip
        refine lv_iconst (v := 1) hx hb d_T_fitsNowhere_42 (by decide) ?_
        exact W.zret (v := 1) hx hb hr (rfl) (fun t9 ht9 hW => ⟨1, rfl, by rw [← hi4, ht1]; rfl, ht9⟩) (fun _ h => nomatch h) d_T_fitsNowhere_43
      · skip
        have hi4 : i < 4 := Nat.lt_of_not_le fun z => c_4 ((nI_leI (a := 4) (b := i) (by omega) (by omega)).mpr z)
        refine lv_aload_n hx hb d_T_fitsNowhere_7 rfl (lv_at hl 0 rfl) ?_
        refine va_get (D := (dC, dI)) (ci := 2) (v := .ref (ad 6)) (C := R_T) (T := F_T) (N := 6) hx hb htb in_T hown hK hP 1 rfl rfl 4 (by decide) (htb _ wd_52) (fun _ h9 => h9) rfl d_T_fitsNowhere_8 ?_
        refine lv_iload_n hx hb d_T_fitsNowhere_11 rfl (lv_at hl 2 rfl) ?_
        refine bz_lald (v := lN (bz_h t i)) hx hb hK hP 6 1 rfl rfl (a9 := i) (by omega) (by decide) (rfl) d_T_fitsNowhere_12 ?_
        refine lv_lconst (v := 0) hx hb d_T_fitsNowhere_13 (by decide) ?_
        refine W.lcmp hx hb d_T_fitsNowhere_14 ?_
        refine lv_if_le (tgt := 36) hx hb d_T_fitsNowhere_15 (by decide) (fun c_15 => ?_) (fun c_15 => ?_)
        · skip
          have c_15 := (bz_lc_le (b := 0) (by have := ht.2.2.2.2.2.2 i; omega) (by omega)).mp c_15
          have hn : bz_tl t a (i + 1) = true := by unfold bz_tl; rw [ht1]; unfold bz_wh; rw [decide_eq_false (by omega)]; rfl
          refine lv_iinc (v := nI (i + 1)) (lv' := [(2, .int (nI (i + 1))), (0, .ref (ad 1)), (1, .int (nI a))]) hx hb d_T_fitsNowhere_36 hl (k := 2) rfl (nI_1 _) (by decide) rfl (fun ls hl => ?_)
          refine lv_goto (tgt := 2) hx hb d_T_fitsNowhere_39 (by decide) ?_
          exact ihlp (i + 1) (by omega) (by omega) (hn) ls (lv_sub hl [1, 2, 0] rfl)
        · skip
          have c_15 : 0 < bz_h t i := Nat.lt_of_not_le fun z => c_15 ((bz_lc_le (b := 0) (by have := ht.2.2.2.2.2.2 i; omega) (by omega)).mpr z)
          refine lv_aload_n hx hb d_T_fitsNowhere_18 rfl (lv_at hl 0 rfl) ?_
          refine lv_iload_n hx hb d_T_fitsNowhere_19 rfl (lv_at hl 1 rfl) ?_
          refine lv_iload_n hx hb d_T_fitsNowhere_20 rfl (lv_at hl 2 rfl) ?_
          refine bz_sl (va_runV (As := [.int (nI a), .int (nI i)]) (rest := []) ⟨hx, hb, hml, hown, htb⟩ (c_T_loadIn l dC dI ad cI cL t R L v ht _ _ (by omega) (by omega)) (cwV 2 htb (bz_gV wd_204 wd_295 wd_202 wd_203 wd_20) rfl rfl rfl (by decide +kernel) ⟨Nat.le_of_ble_eq_true rfl, Nat.le_of_ble_eq_true rfl⟩) (bz_rv hN hK hP (q0 := 1) rfl rfl) rfl rfl hl.1 rfl (lv_room (Nat.le_of_ble_eq_true rfl)) d_T_fitsNowhere_21 ⟨Nat.zero_le _, Nat.zero_le _⟩) ?_
          refine lv_aload_n hx hb d_T_fitsNowhere_24 rfl (lv_at hl 0 rfl) ?_
          refine va_get (D := (dC, dI)) (ci := 2) (v := .ref (ad 6)) (C := R_T) (T := F_T) (N := 6) hx hb htb in_T hown hK hP 1 rfl rfl 4 (by decide) (htb _ wd_52) (fun _ h9 => h9) rfl d_T_fitsNowhere_25 ?_
          refine lv_iload_n hx hb d_T_fitsNowhere_28 rfl (lv_at hl 2 rfl) ?_
          refine bz_lald (v := lN (bz_h t i)) hx hb hK hP 6 1 rfl rfl (a9 := i) (by omega) (by decide) (rfl) d_T_fitsNowhere_29 ?_
          refine W.lcmp hx hb d_T_fitsNowhere_30 ?_
          refine lv_if_gt (tgt := 36) hx hb d_T_fitsNowhere_31 (by decide) (fun c_31 => ?_) (fun c_31 => ?_)
          · skip
            have c_31 := (bz_lc_gt (by have := bz_w_le ht a i; omega) (by have := ht.2.2.2.2.2.2 i; omega)).mp c_31
            have hn : bz_tl t a (i + 1) = true := by unfold bz_tl; rw [ht1, decide_eq_false (show ¬ bz_w t a i ≤ bz_h t i by omega), Bool.and_false]; rfl
            refine lv_iinc (v := nI (i + 1)) (lv' := [(2, .int (nI (i + 1))), (0, .ref (ad 1)), (1, .int (nI a))]) hx hb d_T_fitsNowhere_36 hl (k := 2) rfl (nI_1 _) (by decide) rfl (fun ls hl => ?_)
            refine lv_goto (tgt := 2) hx hb d_T_fitsNowhere_39 (by decide) ?_
            exact ihlp (i + 1) (by omega) (by omega) (hn) ls (lv_sub hl [1, 2, 0] rfl)
          · skip
            have c_31 : bz_w t a i ≤ bz_h t i := Nat.le_of_not_lt fun z => c_31 ((bz_lc_gt (by have := bz_w_le ht a i; omega) (by have := ht.2.2.2.2.2.2 i; omega)).mpr z)
            have hn : bz_tl t a 4 = false := bz_tl_0 (k := i + 1) (by unfold bz_tl bz_wh; rw [decide_eq_true (show 0 < bz_h t i by omega), decide_eq_true (show bz_w t a i ≤ bz_h t i by omega)]; simp) 4 (by omega)
            refine lv_iconst (v := 0) hx hb d_T_fitsNowhere_34 (by decide) ?_
            exact W.zret (v := 0) hx hb hr (rfl) (fun t9 ht9 hW => ⟨0, rfl, by rw [hn]; rfl, ht9⟩) (fun _ h => nomatch h) d_T_fitsNowhere_35
  exact lp _ 0 (Nat.lt_succ_self _) (by omega) (rfl) ls (lv_sub hl [1, 2, 0] rfl)
