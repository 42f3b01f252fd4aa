theorem d_S_greatestLoad_0 : decode b_S_greatestLoad 0 = .ok (.lconst 0, 1) := by decide +kernel
theorem d_S_greatestLoad_1 : decode b_S_greatestLoad 1 = .ok (.lstore_n 1, 1) := by decide +kernel
theorem d_S_greatestLoad_2 : decode b_S_greatestLoad 2 = .ok (.iconst 0, 1) := by decide +kernel
theorem d_S_greatestLoad_3 : decode b_S_greatestLoad 3 = .ok (.istore_n 3, 1) := by decide +kernel
theorem d_S_greatestLoad_4 : decode b_S_greatestLoad 4 = .ok (.iload_n 3, 1) := by decide +kernel
theorem d_S_greatestLoad_5 : decode b_S_greatestLoad 5 = .ok (.iconst 4, 1) := by decide +kernel
theorem d_S_greatestLoad_6 : decode b_S_greatestLoad 6 = .ok (.if_icmp .ge 20, 3) := by decide +kernel
theorem d_S_greatestLoad_9 : decode b_S_greatestLoad 9 = .ok (.lload_n 1, 1) := by decide +kernel
theorem d_S_greatestLoad_10 : decode b_S_greatestLoad 10 = .ok (.aload_n 0, 1) := by decide +kernel
theorem d_S_greatestLoad_11 : decode b_S_greatestLoad 11 = .ok (.getfield 18, 3) := by decide +kernel
theorem d_S_greatestLoad_14 : decode b_S_greatestLoad 14 = .ok (.iload_n 3, 1) := by decide +kernel
theorem d_S_greatestLoad_15 : decode b_S_greatestLoad 15 = .ok (.laload, 1) := by decide +kernel
theorem d_S_greatestLoad_16 : decode b_S_greatestLoad 16 = .ok (.invokestatic 56, 3) := by decide +kernel
theorem d_S_greatestLoad_19 : decode b_S_greatestLoad 19 = .ok (.lstore_n 1, 1) := by decide +kernel
theorem d_S_greatestLoad_20 : decode b_S_greatestLoad 20 = .ok (.iinc 3 1, 3) := by decide +kernel
theorem d_S_greatestLoad_23 : decode b_S_greatestLoad 23 = .ok (.goto (-19), 3) := by decide +kernel
theorem d_S_greatestLoad_26 : decode b_S_greatestLoad 26 = .ok (.lload_n 1, 1) := by decide +kernel
theorem d_S_greatestLoad_27 : decode b_S_greatestLoad 27 = .ok (.lreturn, 1) := by decide +kernel
theorem d_S_hangsTogether_0 : decode b_S_hangsTogether 0 = .ok (.aload_n 0, 1) := by decide +kernel
theorem d_S_hangsTogether_1 : decode b_S_hangsTogether 1 = .ok (.getfield 29, 3) := by decide +kernel
theorem d_S_hangsTogether_4 : decode b_S_hangsTogether 4 = .ok (.aload_n 0, 1) := by decide +kernel
theorem d_S_hangsTogether_5 : decode b_S_hangsTogether 5 = .ok (.getfield 15, 3) := by decide +kernel
theorem d_S_hangsTogether_8 : decode b_S_hangsTogether 8 = .ok (.iload_n 1, 1) := by decide +kernel
theorem d_S_hangsTogether_9 : decode b_S_hangsTogether 9 = .ok (.iaload, 1) := by decide +kernel
theorem d_S_hangsTogether_10 : decode b_S_hangsTogether 10 = .ok (.aload_n 0, 1) := by decide +kernel
theorem d_S_hangsTogether_11 : decode b_S_hangsTogether 11 = .ok (.getfield 15, 3) := by decide +kernel
theorem d_S_hangsTogether_14 : decode b_S_hangsTogether 14 = .ok (.iload_n 1, 1) := by decide +kernel
theorem d_S_hangsTogether_15 : decode b_S_hangsTogether 15 = .ok (.iaload, 1) := by decide +kernel
theorem d_S_hangsTogether_16 : decode b_S_hangsTogether 16 = .ok (.aload_n 0, 1) := by decide +kernel
theorem d_S_hangsTogether_17 : decode b_S_hangsTogether 17 = .ok (.getfield 22, 3) := by decide +kernel
theorem d_S_hangsTogether_20 : decode b_S_hangsTogether 20 = .ok (.ior, 1) := by decide +kernel
theorem d_S_hangsTogether_21 : decode b_S_hangsTogether 21 = .ok (.invokevirtual 62, 3) := by decide +kernel
theorem d_S_hangsTogether_24 : decode b_S_hangsTogether 24 = .ok (.ireturn, 1) := by decide +kernel
theorem d_S_allFaults_0 : decode b_S_allFaults 0 = .ok (.aload_n 0, 1) := by decide +kernel
theorem d_S_allFaults_1 : decode b_S_allFaults 1 = .ok (.getfield 29, 3) := by decide +kernel
theorem d_S_allFaults_4 : decode b_S_allFaults 4 = .ok (.invokevirtual 66, 3) := by decide +kernel
theorem d_S_allFaults_7 : decode b_S_allFaults 7 = .ok (.ifCond .ne 13, 3) := by decide +kernel
theorem d_S_allFaults_10 : decode b_S_allFaults 10 = .ok (.aload_n 0, 1) := by decide +kernel
theorem d_S_allFaults_11 : decode b_S_allFaults 11 = .ok (.getfield 22, 3) := by decide +kernel
theorem d_S_allFaults_14 : decode b_S_allFaults 14 = .ok (.invokestatic 70, 3) := by decide +kernel
theorem d_S_allFaults_17 : decode b_S_allFaults 17 = .ok (.goto 4, 3) := by decide +kernel
theorem d_S_allFaults_20 : decode b_S_allFaults 20 = .ok (.iconst 0, 1) := by decide +kernel
theorem d_S_allFaults_21 : decode b_S_allFaults 21 = .ok (.istore_n 1, 1) := by decide +kernel
theorem d_S_allFaults_22 : decode b_S_allFaults 22 = .ok (.iconst 0, 1) := by decide +kernel
theorem d_S_allFaults_23 : decode b_S_allFaults 23 = .ok (.istore_n 2, 1) := by decide +kernel
theorem d_S_allFaults_24 : decode b_S_allFaults 24 = .ok (.iload_n 2, 1) := by decide +kernel
theorem d_S_allFaults_25 : decode b_S_allFaults 25 = .ok (.iconst 4, 1) := by decide +kernel
theorem d_S_allFaults_26 : decode b_S_allFaults 26 = .ok (.if_icmp .ge 71, 3) := by decide +kernel
theorem d_S_allFaults_29 : decode b_S_allFaults 29 = .ok (.aload_n 0, 1) := by decide +kernel
theorem d_S_allFaults_30 : decode b_S_allFaults 30 = .ok (.iload_n 2, 1) := by decide +kernel
theorem d_S_allFaults_31 : decode b_S_allFaults 31 = .ok (.invokevirtual 76, 3) := by decide +kernel
theorem d_S_allFaults_34 : decode b_S_allFaults 34 = .ok (.ifCond .ne 6, 3) := by decide +kernel
theorem d_S_allFaults_37 : decode b_S_allFaults 37 = .ok (.iinc 1 1, 3) := by decide +kernel
theorem d_S_allFaults_40 : decode b_S_allFaults 40 = .ok (.aload_n 0, 1) := by decide +kernel
theorem d_S_allFaults_41 : decode b_S_allFaults 41 = .ok (.getfield 29, 3) := by decide +kernel
theorem d_S_allFaults_44 : decode b_S_allFaults 44 = .ok (.getfield 80, 3) := by decide +kernel
theorem d_S_allFaults_47 : decode b_S_allFaults 47 = .ok (.iload_n 2, 1) := by decide +kernel
theorem d_S_allFaults_48 : decode b_S_allFaults 48 = .ok (.laload, 1) := by decide +kernel
theorem d_S_allFaults_49 : decode b_S_allFaults 49 = .ok (.lconst 0, 1) := by decide +kernel
theorem d_S_allFaults_50 : decode b_S_allFaults 50 = .ok (.lcmp, 1) := by decide +kernel
theorem d_S_allFaults_51 : decode b_S_allFaults 51 = .ok (.ifCond .ne 18, 3) := by decide +kernel
theorem d_S_allFaults_54 : decode b_S_allFaults 54 = .ok (.iload_n 1, 1) := by decide +kernel
theorem d_S_allFaults_55 : decode b_S_allFaults 55 = .ok (.aload_n 0, 1) := by decide +kernel
theorem d_S_allFaults_56 : decode b_S_allFaults 56 = .ok (.getfield 15, 3) := by decide +kernel
theorem d_S_allFaults_59 : decode b_S_allFaults 59 = .ok (.iload_n 2, 1) := by decide +kernel
theorem d_S_allFaults_60 : decode b_S_allFaults 60 = .ok (.iaload, 1) := by decide +kernel
theorem d_S_allFaults_61 : decode b_S_allFaults 61 = .ok (.invokestatic 70, 3) := by decide +kernel
theorem d_S_allFaults_64 : decode b_S_allFaults 64 = .ok (.iadd, 1) := by decide +kernel
theorem d_S_allFaults_65 : decode b_S_allFaults 65 = .ok (.istore_n 1, 1) := by decide +kernel
theorem d_S_allFaults_66 : decode b_S_allFaults 66 = .ok (.goto 25, 3) := by decide +kernel
theorem d_S_allFaults_69 : decode b_S_allFaults 69 = .ok (.aload_n 0, 1) := by decide +kernel
theorem d_S_allFaults_70 : decode b_S_allFaults 70 = .ok (.getfield 18, 3) := by decide +kernel
theorem d_S_allFaults_73 : decode b_S_allFaults 73 = .ok (.iload_n 2, 1) := by decide +kernel
theorem d_S_allFaults_74 : decode b_S_allFaults 74 = .ok (.laload, 1) := by decide +kernel
theorem d_S_allFaults_75 : decode b_S_allFaults 75 = .ok (.aload_n 0, 1) := by decide +kernel
theorem d_S_allFaults_76 : decode b_S_allFaults 76 = .ok (.getfield 29, 3) := by decide +kernel
theorem d_S_allFaults_79 : decode b_S_allFaults 79 = .ok (.getfield 80, 3) := by decide +kernel
theorem d_S_allFaults_82 : decode b_S_allFaults 82 = .ok (.iload_n 2, 1) := by decide +kernel
theorem d_S_allFaults_83 : decode b_S_allFaults 83 = .ok (.laload, 1) := by decide +kernel
theorem d_S_allFaults_84 : decode b_S_allFaults 84 = .ok (.lcmp, 1) := by decide +kernel
theorem d_S_allFaults_85 : decode b_S_allFaults 85 = .ok (.ifCond .le 6, 3) := by decide +kernel
theorem d_S_allFaults_88 : decode b_S_allFaults 88 = .ok (.iinc 1 1, 3) := by decide +kernel
theorem d_S_allFaults_91 : decode b_S_allFaults 91 = .ok (.iinc 2 1, 3) := by decide +kernel
theorem d_S_allFaults_94 : decode b_S_allFaults 94 = .ok (.goto (-70), 3) := by decide +kernel
theorem d_S_allFaults_97 : decode b_S_allFaults 97 = .ok (.iload_n 1, 1) := by decide +kernel
theorem d_S_allFaults_98 : decode b_S_allFaults 98 = .ok (.ireturn, 1) := by decide +kernel
theorem d_S_cost_0 : decode b_S_cost 0 = .ok (.ldc2_w 83, 3) := by decide +kernel
theorem d_S_cost_3 : decode b_S_cost 3 = .ok (.aload_n 0, 1) := by decide +kernel
theorem d_S_cost_4 : decode b_S_cost 4 = .ok (.invokevirtual 85, 3) := by decide +kernel
theorem d_S_cost_7 : decode b_S_cost 7 = .ok (.i2l, 1) := by decide +kernel
theorem d_S_cost_8 : decode b_S_cost 8 = .ok (.lmul, 1) := by decide +kernel
theorem d_S_cost_9 : decode b_S_cost 9 = .ok (.ldc2_w 88, 3) := by decide +kernel
theorem d_S_cost_12 : decode b_S_cost 12 = .ok (.aload_n 0, 1) := by decide +kernel
theorem d_S_cost_13 : decode b_S_cost 13 = .ok (.invokevirtual 90, 3) := by decide +kernel
theorem d_S_cost_16 : decode b_S_cost 16 = .ok (.lmul, 1) := by decide +kernel
theorem d_S_cost_17 : decode b_S_cost 17 = .ok (.ladd, 1) := by decide +kernel
theorem d_S_cost_18 : decode b_S_cost 18 = .ok (.aload_n 0, 1) := by decide +kernel
theorem d_S_cost_19 : decode b_S_cost 19 = .ok (.getfield 26, 3) := by decide +kernel
theorem d_S_cost_22 : decode b_S_cost 22 = .ok (.i2l, 1) := by decide +kernel
theorem d_S_cost_23 : decode b_S_cost 23 = .ok (.ladd, 1) := by decide +kernel
theorem d_S_cost_24 : decode b_S_cost 24 = .ok (.lreturn, 1) := by decide +kernel

theorem d_I_bitCount_0 : decode b_I_bitCount 0 = .ok (.iload_n 0, 1) := by decide +kernel
theorem d_I_bitCount_1 : decode b_I_bitCount 1 = .ok (.iload_n 0, 1) := by decide +kernel
theorem d_I_bitCount_2 : decode b_I_bitCount 2 = .ok (.iconst 1, 1) := by decide +kernel
theorem d_I_bitCount_3 : decode b_I_bitCount 3 = .ok (.iushr, 1) := by decide +kernel
theorem d_I_bitCount_4 : decode b_I_bitCount 4 = .ok (.ldc_w 265, 3) := by decide +kernel
theorem d_I_bitCount_7 : decode b_I_bitCount 7 = .ok (.iand, 1) := by decide +kernel
theorem d_I_bitCount_8 : decode b_I_bitCount 8 = .ok (.isub, 1) := by decide +kernel
theorem d_I_bitCount_9 : decode b_I_bitCount 9 = .ok (.istore_n 0, 1) := by decide +kernel
theorem d_I_bitCount_10 : decode b_I_bitCount 10 = .ok (.iload_n 0, 1) := by decide +kernel
theorem d_I_bitCount_11 : decode b_I_bitCount 11 = .ok (.ldc_w 266, 3) := by decide +kernel
theorem d_I_bitCount_14 : decode b_I_bitCount 14 = .ok (.iand, 1) := by decide +kernel
theorem d_I_bitCount_15 : decode b_I_bitCount 15 = .ok (.iload_n 0, 1) := by decide +kernel
theorem d_I_bitCount_16 : decode b_I_bitCount 16 = .ok (.iconst 2, 1) := by decide +kernel
theorem d_I_bitCount_17 : decode b_I_bitCount 17 = .ok (.iushr, 1) := by decide +kernel
theorem d_I_bitCount_18 : decode b_I_bitCount 18 = .ok (.ldc_w 266, 3) := by decide +kernel
theorem d_I_bitCount_21 : decode b_I_bitCount 21 = .ok (.iand, 1) := by decide +kernel
theorem d_I_bitCount_22 : decode b_I_bitCount 22 = .ok (.iadd, 1) := by decide +kernel
theorem d_I_bitCount_23 : decode b_I_bitCount 23 = .ok (.istore_n 0, 1) := by decide +kernel
theorem d_I_bitCount_24 : decode b_I_bitCount 24 = .ok (.iload_n 0, 1) := by decide +kernel
theorem d_I_bitCount_25 : decode b_I_bitCount 25 = .ok (.iload_n 0, 1) := by decide +kernel
theorem d_I_bitCount_26 : decode b_I_bitCount 26 = .ok (.iconst 4, 1) := by decide +kernel
theorem d_I_bitCount_27 : decode b_I_bitCount 27 = .ok (.iushr, 1) := by decide +kernel
theorem d_I_bitCount_28 : decode b_I_bitCount 28 = .ok (.iadd, 1) := by decide +kernel
theorem d_I_bitCount_29 : decode b_I_bitCount 29 = .ok (.ldc_w 267, 3) := by decide +kernel
theorem d_I_bitCount_32 : decode b_I_bitCount 32 = .ok (.iand, 1) := by decide +kernel
theorem d_I_bitCount_33 : decode b_I_bitCount 33 = .ok (.istore_n 0, 1) := by decide +kernel
theorem d_I_bitCount_34 : decode b_I_bitCount 34 = .ok (.iload_n 0, 1) := by decide +kernel
theorem d_I_bitCount_35 : decode b_I_bitCount 35 = .ok (.iload_n 0, 1) := by decide +kernel
theorem d_I_bitCount_36 : decode b_I_bitCount 36 = .ok (.bipush 8, 2) := by decide +kernel
theorem d_I_bitCount_38 : decode b_I_bitCount 38 = .ok (.iushr, 1) := by decide +kernel
theorem d_I_bitCount_39 : decode b_I_bitCount 39 = .ok (.iadd, 1) := by decide +kernel
theorem d_I_bitCount_40 : decode b_I_bitCount 40 = .ok (.istore_n 0, 1) := by decide +kernel
theorem d_I_bitCount_41 : decode b_I_bitCount 41 = .ok (.iload_n 0, 1) := by decide +kernel
theorem d_I_bitCount_42 : decode b_I_bitCount 42 = .ok (.iload_n 0, 1) := by decide +kernel
theorem d_I_bitCount_43 : decode b_I_bitCount 43 = .ok (.bipush 16, 2) := by decide +kernel
theorem d_I_bitCount_45 : decode b_I_bitCount 45 = .ok (.iushr, 1) := by decide +kernel
theorem d_I_bitCount_46 : decode b_I_bitCount 46 = .ok (.iadd, 1) := by decide +kernel
theorem d_I_bitCount_47 : decode b_I_bitCount 47 = .ok (.istore_n 0, 1) := by decide +kernel
theorem d_I_bitCount_48 : decode b_I_bitCount 48 = .ok (.iload_n 0, 1) := by decide +kernel
theorem d_I_bitCount_49 : decode b_I_bitCount 49 = .ok (.bipush 63, 2) := by decide +kernel
theorem d_I_bitCount_51 : decode b_I_bitCount 51 = .ok (.iand, 1) := by decide +kernel
theorem d_I_bitCount_52 : decode b_I_bitCount 52 = .ok (.ireturn, 1) := by decide +kernel
theorem nx_and (a b : Nat) : nI a &&& nI b = nI (a &&& b) := by
  apply Int32.toBitVec_inj.1
  show BitVec.ofNat 32 a &&& BitVec.ofNat 32 b = BitVec.ofNat 32 (a &&& b)
  apply BitVec.eq_of_getLsbD_eq
  intro i hi
  simp [hi]
def bz_gm (t : bz_T) (s : bz_S) : Nat → Nat
  | 0 => 0
  | k + 1 => max (bz_gm t s k) (bz_ld t s k)
theorem bz_gm_4 (t : bz_T) (s : bz_S) : bz_gm t s 4 = bz_gl t s := by
  unfold bz_gl
  show max (max (max (max 0 _) _) _) _ = _
  rw [Nat.zero_max]
theorem bz_gm_le {t : bz_T} (h : bz_ok t) (s : bz_S) : ∀ k, bz_gm t s k ≤ 30000000
  | 0 => Nat.zero_le _
  | k + 1 => by
    have h1 := bz_gm_le h s k
    have h2 := bz_ld_le h s k
    unfold bz_gm
    omega
theorem bz_in_n {t : bz_T} {s : bz_S} {r i : Nat} (h : bz_in t s r i = true) : i < bz_n t := by
  unfold bz_in at h
  have := ((Bool.and_eq_true _ _).mp h).1
  exact of_decide_eq_true this
theorem bz_nar (q : Prop) : narrow .boolean (.int (nI (bz_b q))) = .int (nI (bz_b q)) := by
  by_cases h : q
  · rw [bz_b1 h]; rfl
  · rw [bz_b0 h]; rfl
theorem bz_ct_in {t : bz_T} (ht : bz_ok t) (s : bz_S) (r : Nat) : bz_ct (bz_in t s r) 32 = bz_ct (bz_in t s r) (bz_n t) := by
  have hn := ht.1
  have e : ∀ d, bz_ct (bz_in t s r) (bz_n t + d) = bz_ct (bz_in t s r) (bz_n t) := by
    intro d
    induction d with
    | zero => rfl
    | succ d ih =>
      rw [← Nat.add_assoc, bz_ct_0 (by
        cases e : bz_in t s r (bz_n t + d)
        · rfl
        · have := bz_in_n e
          omega), ih]
  rw [show 32 = bz_n t + (32 - bz_n t) by omega, e]
theorem bz_ct_op {t : bz_T} (ht : bz_ok t) (s : bz_S) : bz_ct (bz_op t s) 32 = bz_ct (bz_op t s) (bz_n t) := by
  have hn := ht.1
  have e : ∀ d, bz_ct (bz_op t s) (bz_n t + d) = bz_ct (bz_op t s) (bz_n t) := by
    intro d
    induction d with
    | zero => rfl
    | succ d ih =>
      rw [← Nat.add_assoc, bz_ct_0 (by
        unfold bz_op
        rw [decide_eq_false (by omega)]
        rfl), ih]
  rw [show 32 = bz_n t + (32 - bz_n t) by omega, e]
theorem bz_wh4 (t : bz_T) : bz_ct (bz_wh t) 4 = 0 ↔ bz_h t 0 = 0 ∧ bz_h t 1 = 0 ∧ bz_h t 2 = 0 ∧ bz_h t 3 = 0 := by
  show 0 + (if bz_wh t 0 then 1 else 0) + (if bz_wh t 1 then 1 else 0) + (if bz_wh t 2 then 1 else 0) + (if bz_wh t 3 then 1 else 0) = 0 ↔ _
  unfold bz_wh
  simp only [decide_eq_true_eq]
  repeat' split
  all_goals omega
theorem bz_fo_y {t : bz_T} {s : bz_S} (h : nI (bz_ct (bz_wh t) 4) = 0) : bz_fo t s = bz_ct (bz_op t s) (bz_n t) := by
  unfold bz_fo
  rw [if_pos ((bz_wh4 t).mp ((nI_eq (b := 0) (by have := bz_ct_le (bz_wh t) 4; omega) (by omega)).mp h))]
theorem bz_fo_n {t : bz_T} {s : bz_S} (h : ¬ nI (bz_ct (bz_wh t) 4) = 0) : bz_fo t s = 0 := by
  unfold bz_fo
  rw [if_neg fun z => h (by rw [(bz_wh4 t).mpr z]; rfl)]
theorem bz_fr_h0 {t : bz_T} {s : bz_S} {r : Nat} (h : bz_h t r = 0) : bz_fr t s r = bz_b (¬ bz_ht t s r) + bz_ct (bz_in t s r) (bz_n t) := by
  unfold bz_fr
  rw [if_pos h]
theorem bz_fr_h1 {t : bz_T} {s : bz_S} {r : Nat} (h : ¬ bz_h t r = 0) : bz_fr t s r = bz_b (¬ bz_ht t s r) + bz_b (bz_h t r < bz_ld t s r) := by
  unfold bz_fr
  rw [if_neg h]
theorem bz_bI0 {q : Prop} (h : nI (bz_b q) = 0) : ¬ q := fun z => by
  rw [bz_b1 z] at h
  exact absurd h (by decide)
theorem bz_bI1 {q : Prop} (h : ¬ nI (bz_b q) = 0) : q := Classical.byContradiction fun z => h (by rw [bz_b0 z]; rfl)
theorem bz_cost_eq {t : bz_T} (s : bz_S) : (1000000000000 : Int64) * lN (bz_ft t s) + 100 * lN (bz_gl t s) + lN (bz_ch t s) = lN (bz_co t s) := by
  rw [show (1000000000000 : Int64) = lN 1000000000000 from rfl, show (100 : Int64) = lN 100 from rfl, lN_mul, lN_mul, lN_add, lN_add]
  rfl

set_option maxHeartbeats 4000000 in
set_option maxRecDepth 100000 in
/-- Integer.bitCount -/
theorem c_I_bitCount (l : Launch) (dC : Nat → ClassId) (dI : Nat → Nat → Nat) (ad : Nat → Nat) (cI cL : ClassId) (t : bz_T) (R : bz_RS) (L : (Nat → Int32) × Int64) (v : Int32) (f : Nat → Bool) : Met l y_I_bitCount w_I_bitCount ({ frames := 0, cells := 0, slots := 0, locals := 0 }) (bz_Pr (dC, dI) [(cI, .int), (cL, .long)] (bz_wB ad cI cL (bz_tR t) R L v) [.int (bz_m f)]) (vp_Si (fun r9 => r9 = nI (bz_ct f 32))) 0 0 (fun _ => False) := by
  refine Met.ofW (cc := b_I_bitCount) (maxL := 1) (ret := (some .int)) (by decide) rfl ?_
  intro p e s m args below meth c s₁ B hml hv
  obtain ⟨rfl, hP, hK, hN⟩ := hv
  have hx := B.exec
  have hb := B.bytes
  have hr := B.returns
  have hts := atoms_spec (ws := w_I_bitCount) B.pre
  have hown : s.vm.findClass R_I = some m.cls := findClass_of_methodNamed B.named
  have htb : ∀ w ∈ bz_tb, w.before _ s = true := fun w h => hts w (List.mem_cons_of_mem _ h)
  have hlocks := B.notSynchronized
  have hl := lv_entry ([.int (bz_m f)]) (n := 1) (Nat.le_of_ble_eq_true rfl)
  rw [lg_entry_eq]
  generalize (lg_sl ([.int (bz_m f)]) ++ List.replicate (1 - (lg_sl ([.int (bz_m f)])).length) Slot.unset).toArray = ls at hl ⊢
  have hl : lv_has ls 1 [(0, .int (bz_m f))] := hl
  obtain ⟨n0, hn0, en0, hb0⟩ := bz_m_nI f
  rw [en0] at hl
  refine lv_iload_n hx hb d_I_bitCount_0 rfl (lv_at hl 0 rfl) ?_
  refine lv_iload_n hx hb d_I_bitCount_1 rfl (lv_at hl 0 rfl) ?_
  refine lv_iconst (v := 1) hx hb d_I_bitCount_2 (by decide) ?_
  refine lv_iushr hx hb d_I_bitCount_3 rfl ?_
  refine bz_ri (y := nI (n0 / 2)) (pk_ushrN hn0 1 1 (by decide)) ?_
  refine lv_ldcw (v := 1431655765) hx hb hown (htb _ wd_224) d_I_bitCount_4 ?_
  refine lv_iand hx hb d_I_bitCount_7 ?_
  refine bz_ri (y := nI (n0 / 2 &&& 1431655765)) (nx_and _ 1431655765) ?_
  refine lv_isub hx hb d_I_bitCount_8 ?_
  obtain ⟨x1, ex1⟩ : ∃ z9 : Nat, z9 = n0 - (n0 / 2 &&& 1431655765) := ⟨_, rfl⟩
  refine bz_ri (y := nI x1) (by rw [ex1]; exact pk_sub (Nat.le_trans Nat.and_le_left (Nat.div_le_self _ _))) ?_
  refine lv_istore_n (lv' := [(0, .int (nI x1))]) hx hb d_I_bitCount_9 rfl hl (by decide) rfl (fun ls hl => ?_)
  refine lv_iload_n hx hb d_I_bitCount_10 rfl (lv_at hl 0 rfl) ?_
  refine lv_ldcw (v := 858993459) hx hb hown (htb _ wd_225) d_I_bitCount_11 ?_
  refine lv_iand hx hb d_I_bitCount_14 ?_
  refine bz_ri (y := nI (x1 &&& 858993459)) (nx_and _ 858993459) ?_
  refine lv_iload_n hx hb d_I_bitCount_15 rfl (lv_at hl 0 rfl) ?_
  refine lv_iconst (v := 2) hx hb d_I_bitCount_16 (by decide) ?_
  refine lv_iushr hx hb d_I_bitCount_17 rfl ?_
  refine bz_ri (y := nI (x1 / 4)) (pk_ushrN (by omega) 2 2 (by decide)) ?_
  refine lv_ldcw (v := 858993459) hx hb hown (htb _ wd_225) d_I_bitCount_18 ?_
  refine lv_iand hx hb d_I_bitCount_21 ?_
  refine bz_ri (y := nI (x1 / 4 &&& 858993459)) (nx_and _ 858993459) ?_
  refine lv_iadd hx hb d_I_bitCount_22 ?_
  obtain ⟨x2, ex2⟩ : ∃ z9 : Nat, z9 = (x1 &&& 858993459) + (x1 / 4 &&& 858993459) := ⟨_, rfl⟩
  refine bz_ri (y := nI x2) (by rw [ex2]; exact nI_add _ _) ?_
  refine lv_istore_n (lv' := [(0, .int (nI x2))]) hx hb d_I_bitCount_23 rfl hl (by decide) rfl (fun ls hl => ?_)
  refine lv_iload_n hx hb d_I_bitCount_24 rfl (lv_at hl 0 rfl) ?_
  refine lv_iload_n hx hb d_I_bitCount_25 rfl (lv_at hl 0 rfl) ?_
  refine lv_iconst (v := 4) hx hb d_I_bitCount_26 (by decide) ?_
  refine lv_iushr hx hb d_I_bitCount_27 rfl ?_
  refine bz_ri (y := nI (x2 / 16)) (pk_ushrN (by have h1 : (x1 &&& 858993459) ≤ 858993459 := Nat.and_le_right; have h2 : (x1 / 4 &&& 858993459) ≤ 858993459 := Nat.and_le_right; omega) 4 4 (by decide)) ?_
  refine lv_iadd hx hb d_I_bitCount_28 ?_
  refine bz_ri (y := nI (x2 + x2 / 16)) (nI_add _ _) ?_
  refine lv_ldcw (v := 252645135) hx hb hown (htb _ wd_226) d_I_bitCount_29 ?_
  refine lv_iand hx hb d_I_bitCount_32 ?_
  obtain ⟨x3, ex3⟩ : ∃ z9 : Nat, z9 = (x2 + x2 / 16) &&& 252645135 := ⟨_, rfl⟩
  refine bz_ri (y := nI x3) (by rw [ex3]; exact nx_and _ 252645135) ?_
  refine lv_istore_n (lv' := [(0, .int (nI x3))]) hx hb d_I_bitCount_33 rfl hl (by decide) rfl (fun ls hl => ?_)
  refine lv_iload_n hx hb d_I_bitCount_34 rfl (lv_at hl 0 rfl) ?_
  refine lv_iload_n hx hb d_I_bitCount_35 rfl (lv_at hl 0 rfl) ?_
  refine lv_bipush (v := 8) hx hb d_I_bitCount_36 (by decide) ?_
  refine lv_iushr hx hb d_I_bitCount_38 rfl ?_
  refine bz_ri (y := nI (x3 / 256)) (pk_ushrN (by have h1 : (x2 + x2 / 16) &&& 252645135 ≤ 252645135 := Nat.and_le_right; omega) 8 8 (by decide)) ?_
  refine lv_iadd hx hb d_I_bitCount_39 ?_
  obtain ⟨x4, ex4⟩ : ∃ z9 : Nat, z9 = x3 + x3 / 256 := ⟨_, rfl⟩
  refine bz_ri (y := nI x4) (by rw [ex4]; exact nI_add _ _) ?_
  refine lv_istore_n (lv' := [(0, .int (nI x4))]) hx hb d_I_bitCount_40 rfl hl (by decide) rfl (fun ls hl => ?_)
  refine lv_iload_n hx hb d_I_bitCount_41 rfl (lv_at hl 0 rfl) ?_
  refine lv_iload_n hx hb d_I_bitCount_42 rfl (lv_at hl 0 rfl) ?_
  refine lv_bipush (v := 16) hx hb d_I_bitCount_43 (by decide) ?_
  refine lv_iushr hx hb d_I_bitCount_45 rfl ?_
  refine bz_ri (y := nI (x4 / 65536)) (pk_ushrN (by have h1 : (x2 + x2 / 16) &&& 252645135 ≤ 252645135 := Nat.and_le_right; omega) 16 16 (by decide)) ?_
  refine lv_iadd hx hb d_I_bitCount_46 ?_
  obtain ⟨x5, ex5⟩ : ∃ z9 : Nat, z9 = x4 + x4 / 65536 := ⟨_, rfl⟩
  refine bz_ri (y := nI x5) (by rw [ex5]; exact nI_add _ _) ?_
  refine lv_istore_n (lv' := [(0, .int (nI x5))]) hx hb d_I_bitCount_47 rfl hl (by decide) rfl (fun ls hl => ?_)
  refine lv_iload_n hx hb d_I_bitCount_48 rfl (lv_at hl 0 rfl) ?_
  refine lv_bipush (v := 63) hx hb d_I_bitCount_49 (by decide) ?_
  refine lv_iand hx hb d_I_bitCount_51 ?_
  refine bz_ri (y := nI (x5 &&& 63)) (nx_and _ 63) ?_
  exact W.iret (v := nI (x5 &&& 63)) hx hb hr (fun t9 ht9 hW => ⟨nI (x5 &&& 63), rfl, by subst ex5 ex4 ex3 ex2 ex1; exact congrArg nI ((bz_pc_ct hn0).trans (bz_ct_ext hb0)), ht9⟩) (fun _ h => nomatch h) d_I_bitCount_52

set_option maxHeartbeats 4000000 in
set_option maxRecDepth 100000 in
/-- Share.greatestLoad -/
theorem c_S_greatestLoad (l : Launch) (dC : Nat → ClassId) (dI : Nat → Nat → Nat) (ad : Nat → Nat) (cI cL : ClassId) (t : bz_T) (s2 : bz_S) (L : (Nat → Int32) × Int64) (v : Int32) (ht : bz_ok t) : Met l y_S_greatestLoad w_S_greatestLoad ({ frames := 1, cells := 0, slots := 0, locals := 17 }) (bz_Pr (dC, dI) [(cI, .int), (cL, .long)] (bz_wB ad cI cL (bz_tR t) (bz_sR t s2) L v) [.ref (ad 7)]) (vp_Sl (fun r9 => r9 = lN (bz_gl t s2))) 0 0 (fun _ => False) := by
  refine Met.ofW (cc := b_S_greatestLoad) (maxL := 4) (ret := (some .long)) (by decide) rfl ?_
  intro p e s m args below meth c s₁ B hml hv
  obtain ⟨rfl, hP, hK, hN⟩ := hv
  have hx := B.exec
  have hb := B.bytes
  have hr := B.returns
  have hts := atoms_spec (ws := w_S_greatestLoad) B.pre
  have hown : s.vm.findClass R_S = some m.cls := findClass_of_methodNamed B.named
  have htb : ∀ w ∈ bz_tb, w.before _ s = true := fun w h => hts w (List.mem_cons_of_mem _ h)
  have hlocks := B.notSynchronized
  have hl := lv_entry ([.ref (ad 7)]) (n := 4) (Nat.le_of_ble_eq_true rfl)
  rw [lg_entry_eq]
  generalize (lg_sl ([.ref (ad 7)]) ++ List.replicate (4 - (lg_sl ([.ref (ad 7)])).length) Slot.unset).toArray = ls at hl ⊢
  have hl : lv_has ls 4 [(0, .ref (ad 7))] := hl
  refine lv_lconst (v := 0) hx hb d_S_greatestLoad_0 (by decide) ?_
  refine bz_rl (y := lN (bz_gm t s2 0)) (rfl) ?_
  refine lv_lstore_n (lv' := [(1, .long (lN (bz_gm t s2 0))), (0, .ref (ad 7))]) hx hb d_S_greatestLoad_1 rfl hl (by decide) rfl (fun ls hl => ?_)
  refine lv_iconst (v := nI 0) hx hb d_S_greatestLoad_2 (by decide) ?_
  refine lv_istore_n (lv' := [(3, .int (nI 0)), (1, .long (lN (bz_gm t s2 0))), (0, .ref (ad 7))]) hx hb d_S_greatestLoad_3 rfl hl (by decide) rfl (fun ls hl => ?_)
  have lp : ∀ (k9 : Nat) (i : Nat), 4 - i < k9 → (i ≤ 4) → ∀ (ls : Array Slot), lv_has ls 4 [(0, .ref (ad 7)), (1, .long (lN (bz_gm t s2 i))), (3, .int (nI i))] → W p l e (headSpec w_S_greatestLoad ({ frames := 1, cells := 0, slots := 0, locals := 17 })).room s m ([.ref (ad 7)]).toArray below meth c s.heap [] 0 0 (MQ below (vp_Sl (fun r9 => r9 = lN (bz_gl t s2))) ([.ref (ad 7)]).toArray s 0 0 (fun _ => False)) (F0 m 4 ls []) := by
    intro k9
    induction k9 with
    | zero =>
      intro i h9
      exact absurd h9 (Nat.not_lt_zero _)
    | succ k9 ihlp =>
      intro i h9_lp hi ls hl
      refine lv_iload_n hx hb d_S_greatestLoad_4 rfl (lv_at hl 2 rfl) ?_
      refine lv_iconst (v := 4) hx hb d_S_greatestLoad_5 (by decide) ?_
      refine lv_icmp_ge (tgt := 26) hx hb d_S_greatestLoad_6 (by decide) (fun c_6 => ?_) (fun c_6 => ?_)
      · skip
        have hi4 : i = 4 := by have := (nI_leI (a := 4) (by omega) (by omega)).mp c_6; omega
        refine lv_lload_n hx hb d_S_greatestLoad_26 rfl (lv_at hl 1 rfl) ?_
        exact W.lret (v := lN (bz_gm t s2 i)) hx hb hr (fun t9 ht9 hW => ⟨lN (bz_gm t s2 i), rfl, by rw [hi4, bz_gm_4], ht9⟩) (fun _ h => nomatch h) d_S_greatestLoad_27
      · skip
        have hi4 : i < 4 := Nat.lt_of_not_le fun z => c_6 ((nI_leI (a := 4) (b := i) (by omega) (by omega)).mpr z)
        refine lv_lload_n hx hb d_S_greatestLoad_9 rfl (lv_at hl 1 rfl) ?_
        refine lv_aload_n hx hb d_S_greatestLoad_10 rfl (lv_at hl 0 rfl) ?_
        refine va_get (D := (dC, dI)) (ci := 1) (v := .ref (ad 10)) (C := R_S) (T := F_S) (N := 6) hx hb htb in_S hown hK hP 7 rfl rfl 3 (by decide) (htb _ wd_85) (fun _ h9 => h9) rfl d_S_greatestLoad_11 ?_
        refine lv_iload_n hx hb d_S_greatestLoad_14 rfl (lv_at hl 2 rfl) ?_
        refine bz_lald (v := lN (bz_ld t s2 i)) hx hb hK hP 10 1 rfl rfl (a9 := i) (by omega) (by decide) (rfl) d_S_greatestLoad_15 ?_
        refine va_mmax_long hx hb (hml.trans hl.1.symm) hown (htb _ wd_240) (htb _ wd_241) (htb _ wd_25) (htb _ wd_242) (Nat.le_of_ble_eq_true rfl) (Nat.le_of_ble_eq_true rfl) (Nat.le_of_ble_eq_true rfl) (Nat.le_of_ble_eq_true rfl) d_S_greatestLoad_16 ?_
        refine bz_rl (y := lN (bz_gm t s2 (i + 1))) (bz_lmax (by have := bz_gm_le ht s2 i; omega) (by have := bz_ld_le ht s2 i; omega)) ?_
        refine lv_lstore_n (lv' := [(1, .long (lN (bz_gm t s2 (i + 1)))), (0, .ref (ad 7)), (3, .int (nI i))]) hx hb d_S_greatestLoad_19 rfl hl (by decide) rfl (fun ls hl => ?_)
        refine lv_iinc (v := nI (i + 1)) (lv' := [(3, .int (nI (i + 1))), (1, .long (lN (bz_gm t s2 (i + 1)))), (0, .ref (ad 7))]) hx hb d_S_greatestLoad_20 hl (k := 2) rfl (nI_1 _) (by decide) rfl (fun ls hl => ?_)
        refine lv_goto (tgt := 4) hx hb d_S_greatestLoad_23 (by decide) ?_
        exact ihlp (i + 1) (by omega) (by omega) ls (lv_sub hl [2, 1, 0] rfl)
  exact lp _ 0 (Nat.lt_succ_self _) (by omega) ls (lv_sub hl [2, 1, 0] rfl)

set_option maxHeartbeats 4000000 in
set_option maxRecDepth 100000 in
/-- Share.hangsTogether -/
theorem c_S_hangsTogether (l : Launch) (dC : Nat → ClassId) (dI : Nat → Nat → Nat) (ad : Nat → Nat) (cI cL : ClassId) (t : bz_T) (s2 : bz_S) (L : (Nat → Int32) × Int64) (v : Int32) (ht : bz_ok t) (r : Nat) (hr4 : r < 4) : Met l y_S_hangsTogether w_S_hangsTogether ({ frames := 1, cells := 0, slots := 0, locals := 26 }) (bz_Pr (dC, dI) [(cI, .int), (cL, .long)] (bz_wB ad cI cL (bz_tR t) (bz_sR t s2) L v) [.ref (ad 7), .int (nI r)]) (vp_Si (fun r9 => r9 = nI (bz_b (bz_ht t s2 r)))) 0 0 (fun _ => False) := by
  refine Met.ofW (cc := b_S_hangsTogether) (maxL := 2) (ret := (some .boolean)) (by decide) rfl ?_
  intro p e s m args below meth c s₁ B hml hv
  obtain ⟨rfl, hP, hK, hN⟩ := hv
  have hx := B.exec
  have hb := B.bytes
  have hr := B.returns
  have hts := atoms_spec (ws := w_S_hangsTogether) B.pre
  have hown : s.vm.findClass R_S = some m.cls := findClass_of_methodNamed B.named
  have htb : ∀ w ∈ bz_tb, w.before _ s = true := fun w h => hts w (List.mem_cons_of_mem _ h)
  have hlocks := B.notSynchronized
  have hl := lv_entry ([.ref (ad 7), .int (nI r)]) (n := 2) (Nat.le_of_ble_eq_true rfl)
  rw [lg_entry_eq]
  generalize (lg_sl ([.ref (ad 7), .int (nI r)]) ++ List.replicate (2 - (lg_sl ([.ref (ad 7), .int (nI r)])).length) Slot.unset).toArray = ls at hl ⊢
  have hl : lv_has ls 2 [(0, .ref (ad 7)), (1, .int (nI r))] := hl
  refine lv_aload_n hx hb d_S_hangsTogether_0 rfl (lv_at hl 0 rfl) ?_
  refine va_get (D := (dC, dI)) (ci := 1) (v := .ref (ad 1)) (C := R_S) (T := F_S) (N := 6) hx hb htb in_S hown hK hP 7 rfl rfl 0 (by decide) (htb _ wd_79) (fun _ h9 => h9) rfl d_S_hangsTogether_1 ?_
  refine lv_aload_n hx hb d_S_hangsTogether_4 rfl (lv_at hl 0 rfl) ?_
  refine va_get (D := (dC, dI)) (ci := 1) (v := .ref (ad 9)) (C := R_S) (T := F_S) (N := 6) hx hb htb in_S hown hK hP 7 rfl rfl 2 (by decide) (htb _ wd_84) (fun _ h9 => h9) rfl d_S_hangsTogether_5 ?_
  refine lv_iload_n hx hb d_S_hangsTogether_8 rfl (lv_at hl 1 rfl) ?_
  refine bz_iald (v := bz_m (bz_in t s2 r)) hx hb hK hP 9 0 rfl rfl (a9 := r) (by omega) (by decide) (rfl) d_S_hangsTogether_9 ?_
  refine lv_aload_n hx hb d_S_hangsTogether_10 rfl (lv_at hl 0 rfl) ?_
  refine va_get (D := (dC, dI)) (ci := 1) (v := .ref (ad 9)) (C := R_S) (T := F_S) (N := 6) hx hb htb in_S hown hK hP 7 rfl rfl 2 (by decide) (htb _ wd_84) (fun _ h9 => h9) rfl d_S_hangsTogether_11 ?_
  refine lv_iload_n hx hb d_S_hangsTogether_14 rfl (lv_at hl 1 rfl) ?_
  refine bz_iald (v := bz_m (bz_in t s2 r)) hx hb hK hP 9 0 rfl rfl (a9 := r) (by omega) (by decide) (rfl) d_S_hangsTogether_15 ?_
  refine lv_aload_n hx hb d_S_hangsTogether_16 rfl (lv_at hl 0 rfl) ?_
  refine va_get (D := (dC, dI)) (ci := 1) (v := .int (bz_m (bz_op t s2))) (C := R_S) (T := F_S) (N := 6) hx hb htb in_S hown hK hP 7 rfl rfl 4 (by decide) (htb _ wd_86) (fun _ h9 => h9) rfl d_S_hangsTogether_17 ?_
  refine lv_ior hx hb d_S_hangsTogether_20 ?_
  refine bz_ri (y := bz_m (fun a => bz_in t s2 r a || bz_op t s2 a)) (bz_or _ _) ?_
  refine bz_si (va_runV (As := [.int (bz_m (bz_in t s2 r)), .int (bz_m (fun a => bz_in t s2 r a || bz_op t s2 a))]) (rest := []) ⟨hx, hb, hml, hown, htb⟩ (c_T_haveWays l dC dI ad cI cL t (bz_sR t s2) L v ht _ _ (fun i hi => bz_in_n hi)) (cwV 2 htb (bz_gV wd_234 wd_231 wd_232 wd_233 wd_20) rfl rfl rfl (by decide +kernel) ⟨Nat.le_of_ble_eq_true rfl, Nat.le_of_ble_eq_true rfl⟩) (bz_rv hN hK hP (q0 := 1) rfl rfl) rfl rfl hl.1 rfl (lv_room (Nat.le_of_ble_eq_true rfl)) d_S_hangsTogether_21 ⟨Nat.zero_le _, Nat.zero_le _⟩) ?_
  exact W.zret (v := nI (bz_b (bz_tg (bz_j t) ((bz_in t s2 r)) ((fun a => bz_in t s2 r a || bz_op t s2 a))))) hx hb hr (bz_nar _) (fun t9 ht9 hW => ⟨nI (bz_b (bz_tg (bz_j t) ((bz_in t s2 r)) ((fun a => bz_in t s2 r a || bz_op t s2 a)))), rfl, rfl, ht9⟩) (fun _ h => nomatch h) d_S_hangsTogether_24

set_option maxHeartbeats 4000000 in
set_option maxRecDepth 100000 in
/-- Share.allFaults -/
theorem c_S_allFaults (l : Launch) (dC : Nat → ClassId) (dI : Nat → Nat → Nat) (ad : Nat → Nat) (cI cL : ClassId) (t : bz_T) (s2 : bz_S) (L : (Nat → Int32) × Int64) (v : Int32) (ht : bz_ok t) : Met l y_S_allFaults w_S_allFaults ({ frames := 2, cells := 0, slots := 0, locals := 47 }) (bz_Pr (dC, dI) [(cI, .int), (cL, .long)] (bz_wB ad cI cL (bz_tR t) (bz_sR t s2) L v) [.ref (ad 7)]) (vp_Si (fun r9 => r9 = nI (bz_ft t s2))) 0 0 (fun _ => False) := by
  refine Met.ofW (cc := b_S_allFaults) (maxL := 3) (ret := (some .int)) (by decide) rfl ?_
  intro p e s m args below meth c s₁ B hml hv
  obtain ⟨rfl, hP, hK, hN⟩ := hv
  have hx := B.exec
  have hb := B.bytes
  have hr := B.returns
  have hts := atoms_spec (ws := w_S_allFaults) B.pre
  have hown : s.vm.findClass R_S = some m.cls := findClass_of_methodNamed B.named
  have htb : ∀ w ∈ bz_tb, w.before _ s = true := fun w h => hts w (List.mem_cons_of_mem _ h)
  have hlocks := B.notSynchronized
  have hl := lv_entry ([.ref (ad 7)]) (n := 3) (Nat.le_of_ble_eq_true rfl)
  rw [lg_entry_eq]
  generalize (lg_sl ([.ref (ad 7)]) ++ List.replicate (3 - (lg_sl ([.ref (ad 7)])).length) Slot.unset).toArray = ls at hl ⊢
  have hl : lv_has ls 3 [(0, .ref (ad 7))] := hl
  refine lv_aload_n hx hb d_S_allFaults_0 rfl (lv_at hl 0 rfl) ?_
  refine va_get (D := (dC, dI)) (ci := 1) (v := .ref (ad 1)) (C := R_S) (T := F_S) (N := 6) hx hb htb in_S hown hK hP 7 rfl rfl 0 (by decide) (htb _ wd_79) (fun _ h9 => h9) rfl d_S_allFaults_1 ?_
  refine bz_si (va_runV (As := []) (rest := []) ⟨hx, hb, hml, hown, htb⟩ (c_T_roundsWithHours l dC dI ad cI cL t (bz_sR t s2) L v ht) (cwV 0 htb (bz_gV wd_220 wd_217 wd_218 wd_219 wd_20) rfl rfl rfl (by decide +kernel) ⟨Nat.le_of_ble_eq_true rfl, Nat.le_of_ble_eq_true rfl⟩) (bz_rv hN hK hP (q0 := 1) rfl rfl) rfl rfl hl.1 rfl (lv_room (Nat.le_of_ble_eq_true rfl)) d_S_allFaults_4 ⟨Nat.zero_le _, Nat.zero_le _⟩) ?_
  refine lv_if_ne (tgt := 20) hx hb d_S_allFaults_7 (by decide) (fun c_7 => ?_) (fun c_7 => ?_)
  · skip
    refine lv_iconst (v := nI 0) hx hb d_S_allFaults_20 (by decide) ?_
    refine bz_ri (y := nI (bz_fo t s2 + bz_sm (bz_fr t s2) 0)) (by rw [bz_fo_n c_7]; rfl) ?_
    refine lv_istore_n (lv' := [(1, .int (nI (bz_fo t s2 + bz_sm (bz_fr t s2) 0))), (0, .ref (ad 7))]) hx hb d_S_allFaults_21 rfl hl (by decide) rfl (fun ls hl => ?_)
    refine lv_iconst (v := nI 0) hx hb d_S_allFaults_22 (by decide) ?_
    refine lv_istore_n (lv' := [(2, .int (nI 0)), (1, .int (nI (bz_fo t s2 + bz_sm (bz_fr t s2) 0))), (0, .ref (ad 7))]) hx hb d_S_allFaults_23 rfl hl (by decide) rfl (fun ls hl => ?_)
    have lp : ∀ (k9 : Nat) (i : Nat), 4 - i < k9 → (i ≤ 4) → ∀ (ls : Array Slot), lv_has ls 3 [(0, .ref (ad 7)), (1, .int (nI (bz_fo t s2 + bz_sm (bz_fr t s2) i))), (2, .int (nI i))] → W p l e (headSpec w_S_allFaults ({ frames := 2, cells := 0, slots := 0, locals := 47 })).room s m ([.ref (ad 7)]).toArray below meth c s.heap [] 0 0 (MQ below (vp_Si (fun r9 => r9 = nI (bz_ft t s2))) ([.ref (ad 7)]).toArray s 0 0 (fun _ => False)) (F0 m 24 ls []) := by
      intro k9
      induction k9 with
      | zero =>
        intro i h9
        exact absurd h9 (Nat.not_lt_zero _)
      | succ k9 ihlp =>
        intro i h9_lp hi ls hl
        refine lv_iload_n hx hb d_S_allFaults_24 rfl (lv_at hl 2 rfl) ?_
        refine lv_iconst (v := 4) hx hb d_S_allFaults_25 (by decide) ?_
        refine lv_icmp_ge (tgt := 97) hx hb d_S_allFaults_26 (by decide) (fun c_26 => ?_) (fun c_26 => ?_)
        · skip
          have hi4 : i = 4 := by have := (nI_leI (a := 4) (by omega) (by omega)).mp c_26; omega
          refine lv_iload_n hx hb d_S_allFaults_97 rfl (lv_at hl 1 rfl) ?_
          exact W.iret (v := nI (bz_fo t s2 + bz_sm (bz_fr t s2) i)) hx hb hr (fun t9 ht9 hW => ⟨nI (bz_fo t s2 + bz_sm (bz_fr t s2) i), rfl, by rw [hi4]; rfl, ht9⟩) (fun _ h => nomatch h) d_S_allFaults_98
        · skip
          have hi4 : i < 4 := Nat.lt_of_not_le fun z => c_26 ((nI_leI (a := 4) (b := i) (by omega) (by omega)).mpr z)
          refine lv_aload_n hx hb d_S_allFaults_29 rfl (lv_at hl 0 rfl) ?_
          refine lv_iload_n hx hb d_S_allFaults_30 rfl (lv_at hl 2 rfl) ?_
          refine bz_si (va_runV (As := [.int (nI i)]) (rest := []) ⟨hx, hb, hml, hown, htb⟩ (c_S_hangsTogether l dC dI ad cI cL t s2 L v ht _ (by omega)) (cwV 1 htb (bz_gV wd_230 wd_227 wd_228 wd_229 wd_21) rfl rfl rfl (by decide +kernel) ⟨Nat.le_of_ble_eq_true rfl, Nat.le_of_ble_eq_true rfl⟩) (bz_rv hN hK hP (q0 := 7) rfl rfl) rfl rfl hl.1 rfl (lv_room (Nat.le_of_ble_eq_true rfl)) d_S_allFaults_31 ⟨Nat.zero_le _, Nat.zero_le _⟩) ?_
          refine lv_if_ne (tgt := 40) hx hb d_S_allFaults_34 (by decide) (fun c_34 => ?_) (fun c_34 => ?_)
          · skip
            have hh := bz_bI1 c_34
            have hl : lv_has ls 3 [(0, .ref (ad 7)), (1, .int (nI (bz_fo t s2 + bz_sm (bz_fr t s2) i + bz_b (¬ bz_ht t s2 i)))), (2, .int (nI i))] := by rw [show nI (bz_fo t s2 + bz_sm (bz_fr t s2) i + bz_b (¬ bz_ht t s2 i)) = nI (bz_fo t s2 + bz_sm (bz_fr t s2) i) from by rw [bz_b0 (fun z => z hh)]; rfl]; exact hl
            refine lv_aload_n hx hb d_S_allFaults_40 rfl (lv_at hl 0 rfl) ?_
            refine va_get (D := (dC, dI)) (ci := 1) (v := .ref (ad 1)) (C := R_S) (T := F_S) (N := 6) hx hb htb in_S hown hK hP 7 rfl rfl 0 (by decide) (htb _ wd_79) (fun _ h9 => h9) rfl d_S_allFaults_41 ?_
            refine va_getN (D := (dC, dI)) (ci := 2) (v := .ref (ad 6)) (C := R_T) (T := F_T) (N := 6) hx hb htb in_T hown hK hP 1 rfl rfl 4 (by decide) (va_Nw.use rfl (hN _ nd_54)) (fun _ h9 => h9) rfl d_S_allFaults_44 ?_
            refine lv_iload_n hx hb d_S_allFaults_47 rfl (lv_at hl 2 rfl) ?_
            refine bz_lald (v := lN (bz_h t i)) hx hb hK hP 6 1 rfl rfl (a9 := i) (by omega) (by decide) (rfl) d_S_allFaults_48 ?_
            refine lv_lconst (v := 0) hx hb d_S_allFaults_49 (by decide) ?_
            refine W.lcmp hx hb d_S_allFaults_50 ?_
            refine lv_if_ne (tgt := 69) hx hb d_S_allFaults_51 (by decide) (fun c_51 => ?_) (fun c_51 => ?_)
            · skip
              have c_51 : ¬ bz_h t i = 0 := fun z => c_51 ((bz_lc_eq (b := 0) (by have := ht.2.2.2.2.2.2 i; omega) (by omega)).mpr z)
              refine lv_aload_n hx hb d_S_allFaults_69 rfl (lv_at hl 0 rfl) ?_
              refine va_get (D := (dC, dI)) (ci := 1) (v := .ref (ad 10)) (C := R_S) (T := F_S) (N := 6) hx hb htb in_S hown hK hP 7 rfl rfl 3 (by decide) (htb _ wd_85) (fun _ h9 => h9) rfl d_S_allFaults_70 ?_
              refine lv_iload_n hx hb d_S_allFaults_73 rfl (lv_at hl 2 rfl) ?_
              refine bz_lald (v := lN (bz_ld t s2 i)) hx hb hK hP 10 1 rfl rfl (a9 := i) (by omega) (by decide) (rfl) d_S_allFaults_74 ?_
              refine lv_aload_n hx hb d_S_allFaults_75 rfl (lv_at hl 0 rfl) ?_
              refine va_get (D := (dC, dI)) (ci := 1) (v := .ref (ad 1)) (C := R_S) (T := F_S) (N := 6) hx hb htb in_S hown hK hP 7 rfl rfl 0 (by decide) (htb _ wd_79) (fun _ h9 => h9) rfl d_S_allFaults_76 ?_
              refine va_getN (D := (dC, dI)) (ci := 2) (v := .ref (ad 6)) (C := R_T) (T := F_T) (N := 6) hx hb htb in_T hown hK hP 1 rfl rfl 4 (by decide) (va_Nw.use rfl (hN _ nd_54)) (fun _ h9 => h9) rfl d_S_allFaults_79 ?_
              refine lv_iload_n hx hb d_S_allFaults_82 rfl (lv_at hl 2 rfl) ?_
              refine bz_lald (v := lN (bz_h t i)) hx hb hK hP 6 1 rfl rfl (a9 := i) (by omega) (by decide) (rfl) d_S_allFaults_83 ?_
              refine W.lcmp hx hb d_S_allFaults_84 ?_
              refine lv_if_le (tgt := 91) hx hb d_S_allFaults_85 (by decide) (fun c_85 => ?_) (fun c_85 => ?_)
              · skip
                have c_85 := (bz_lc_le (by have := bz_ld_le ht s2 i; omega) (by have := ht.2.2.2.2.2.2 i; omega)).mp c_85
                have hl : lv_has ls 3 [(0, .ref (ad 7)), (1, .int (nI (bz_fo t s2 + bz_sm (bz_fr t s2) (i + 1)))), (2, .int (nI i))] := by rw [show nI (bz_fo t s2 + bz_sm (bz_fr t s2) (i + 1)) = nI (bz_fo t s2 + bz_sm (bz_fr t s2) i + bz_b (¬ bz_ht t s2 i)) from by show nI (bz_fo t s2 + (bz_sm (bz_fr t s2) i + bz_fr t s2 i)) = _; rw [bz_fr_h1 c_51, bz_b0 (show ¬ bz_h t i < bz_ld t s2 i by omega)]; congr 1; omega]; exact hl
                refine lv_iinc (v := nI (i + 1)) (lv' := [(2, .int (nI (i + 1))), (0, .ref (ad 7)), (1, .int (nI (bz_fo t s2 + bz_sm (bz_fr t s2) (i + 1))))]) hx hb d_S_allFaults_91 hl (k := 2) rfl (nI_1 _) (by decide) rfl (fun ls hl => ?_)
                refine lv_goto (tgt := 24) hx hb d_S_allFaults_94 (by decide) ?_
                exact ihlp (i + 1) (by omega) (by omega) ls (lv_sub hl [1, 2, 0] rfl)
              · skip
                have c_85 : bz_h t i < bz_ld t s2 i := Nat.lt_of_not_le fun z => c_85 ((bz_lc_le (by have := bz_ld_le ht s2 i; omega) (by have := ht.2.2.2.2.2.2 i; omega)).mpr z)
                refine lv_iinc (v := nI (bz_fo t s2 + bz_sm (bz_fr t s2) (i + 1))) (lv' := [(1, .int (nI (bz_fo t s2 + bz_sm (bz_fr t s2) (i + 1)))), (0, .ref (ad 7)), (2, .int (nI i))]) hx hb d_S_allFaults_88 hl (k := 1) rfl (by show _ = nI (bz_fo t s2 + (bz_sm (bz_fr t s2) i + bz_fr t s2 i)); rw [bz_fr_h1 c_51, bz_b1 c_85]; exact (nI_1 _).trans (congrArg nI (by omega))) (by decide) rfl (fun ls hl => ?_)
                refine lv_iinc (v := nI (i + 1)) (lv' := [(2, .int (nI (i + 1))), (1, .int (nI (bz_fo t s2 + bz_sm (bz_fr t s2) (i + 1)))), (0, .ref (ad 7))]) hx hb d_S_allFaults_91 hl (k := 2) rfl (nI_1 _) (by decide) rfl (fun ls hl => ?_)
                refine lv_goto (tgt := 24) hx hb d_S_allFaults_94 (by decide) ?_
                exact ihlp (i + 1) (by omega) (by omega) ls (lv_sub hl [2, 1, 0] rfl)
            · skip
              have c_51 := (bz_lc_eq (b := 0) (by have := ht.2.2.2.2.2.2 i; omega) (by omega)).mp c_51
              refine lv_iload_n hx hb d_S_allFaults_54 rfl (lv_at hl 1 rfl) ?_
              refine lv_aload_n hx hb d_S_allFaults_55 rfl (lv_at hl 0 rfl) ?_
              refine va_get (D := (dC, dI)) (ci := 1) (v := .ref (ad 9)) (C := R_S) (T := F_S) (N := 6) hx hb htb in_S hown hK hP 7 rfl rfl 2 (by decide) (htb _ wd_84) (fun _ h9 => h9) rfl d_S_allFaults_56 ?_
              refine lv_iload_n hx hb d_S_allFaults_59 rfl (lv_at hl 2 rfl) ?_
              refine bz_iald (v := bz_m (bz_in t s2 i)) hx hb hK hP 9 0 rfl rfl (a9 := i) (by omega) (by decide) (rfl) d_S_allFaults_60 ?_
              refine bz_si (va_runS (As := [.int (bz_m (bz_in t s2 i))]) (rest := [.int (nI (bz_fo t s2 + bz_sm (bz_fr t s2) i + bz_b (¬ bz_ht t s2 i)))]) ⟨hx, hb, hml, hown, htb⟩ (c_I_bitCount l dC dI ad cI cL t (bz_sR t s2) L v _) (va_cwS 1 htb (bz_gS wd_223 wd_221 wd_222 wd_24) rfl rfl rfl (by decide +kernel) ⟨Nat.le_of_ble_eq_true rfl, Nat.le_of_ble_eq_true rfl⟩) (bz_rs hN hK hP) rfl rfl hl.1 rfl (lv_room (Nat.le_of_ble_eq_true rfl)) d_S_allFaults_61 ⟨Nat.zero_le _, Nat.zero_le _⟩) ?_
              refine lv_iadd hx hb d_S_allFaults_64 ?_
              refine bz_ri (y := nI (bz_fo t s2 + bz_sm (bz_fr t s2) (i + 1))) (by show _ = nI (bz_fo t s2 + (bz_sm (bz_fr t s2) i + bz_fr t s2 i)); rw [bz_fr_h0 c_51, bz_ct_in ht, nI_add]; congr 1; omega) ?_
              refine lv_istore_n (lv' := [(1, .int (nI (bz_fo t s2 + bz_sm (bz_fr t s2) (i + 1)))), (0, .ref (ad 7)), (2, .int (nI i))]) hx hb d_S_allFaults_65 rfl hl (by decide) rfl (fun ls hl => ?_)
              refine lv_goto (tgt := 91) hx hb d_S_allFaults_66 (by decide) ?_
              refine lv_iinc (v := nI (i + 1)) (lv' := [(2, .int (nI (i + 1))), (1, .int (nI (bz_fo t s2 + bz_sm (bz_fr t s2) (i + 1)))), (0, .ref (ad 7))]) hx hb d_S_allFaults_91 hl (k := 2) rfl (nI_1 _) (by decide) rfl (fun ls hl => ?_)
              refine lv_goto (tgt := 24) hx hb d_S_allFaults_94 (by decide) ?_
              exact ihlp (i + 1) (by omega) (by omega) ls (lv_sub hl [2, 1, 0] rfl)
          · skip
            have hh := bz_bI0 c_34
            refine lv_iinc (v := nI (bz_fo t s2 + bz_sm (bz_fr t s2) i + bz_b (¬ bz_ht t s2 i))) (lv' := [(1, .int (nI (bz_fo t s2 + bz_sm (bz_fr t s2) i + bz_b (¬ bz_ht t s2 i)))), (0, .ref (ad 7)), (2, .int (nI i))]) hx hb d_S_allFaults_37 hl (k := 1) rfl (by rw [bz_b1 hh]; exact nI_1 _) (by decide) rfl (fun ls hl => ?_)
            refine lv_aload_n hx hb d_S_allFaults_40 rfl (lv_at hl 1 rfl) ?_
            refine va_get (D := (dC, dI)) (ci := 1) (v := .ref (ad 1)) (C := R_S) (T := F_S) (N := 6) hx hb htb in_S hown hK hP 7 rfl rfl 0 (by decide) (htb _ wd_79) (fun _ h9 => h9) rfl d_S_allFaults_41 ?_
            refine va_getN (D := (dC, dI)) (ci := 2) (v := .ref (ad 6)) (C := R_T) (T := F_T) (N := 6) hx hb htb in_T hown hK hP 1 rfl rfl 4 (by decide) (va_Nw.use rfl (hN _ nd_54)) (fun _ h9 => h9) rfl d_S_allFaults_44 ?_
            refine lv_iload_n hx hb d_S_allFaults_47 rfl (lv_at hl 2 rfl) ?_
            refine bz_lald (v := lN (bz_h t i)) hx hb hK hP 6 1 rfl rfl (a9 := i) (by omega) (by decide) (rfl) d_S_allFaults_48 ?_
            refine lv_lconst (v := 0) hx hb d_S_allFaults_49 (by decide) ?_
            refine W.lcmp hx hb d_S_allFaults_50 ?_
            refine lv_if_ne (tgt := 69) hx hb d_S_allFaults_51 (by decide) (fun c_51 => ?_) (fun c_51 => ?_)
            · skip
              have c_51 : ¬ bz_h t i = 0 := fun z => c_51 ((bz_lc_eq (b := 0) (by have := ht.2.2.2.2.2.2 i; omega) (by omega)).mpr z)
              refine lv_aload_n hx hb d_S_allFaults_69 rfl (lv_at hl 1 rfl) ?_
              refine va_get (D := (dC, dI)) (ci := 1) (v := .ref (ad 10)) (C := R_S) (T := F_S) (N := 6) hx hb htb in_S hown hK hP 7 rfl rfl 3 (by decide) (htb _ wd_85) (fun _ h9 => h9) rfl d_S_allFaults_70 ?_
              refine lv_iload_n hx hb d_S_allFaults_73 rfl (lv_at hl 2 rfl) ?_
              refine bz_lald (v := lN (bz_ld t s2 i)) hx hb hK hP 10 1 rfl rfl (a9 := i) (by omega) (by decide) (rfl) d_S_allFaults_74 ?_
              refine lv_aload_n hx hb d_S_allFaults_75 rfl (lv_at hl 1 rfl) ?_
              refine va_get (D := (dC, dI)) (ci := 1) (v := .ref (ad 1)) (C := R_S) (T := F_S) (N := 6) hx hb htb in_S hown hK hP 7 rfl rfl 0 (by decide) (htb _ wd_79) (fun _ h9 => h9) rfl d_S_allFaults_76 ?_
              refine va_getN (D := (dC, dI)) (ci := 2) (v := .ref (ad 6)) (C := R_T) (T := F_T) (N := 6) hx hb htb in_T hown hK hP 1 rfl rfl 4 (by decide) (va_Nw.use rfl (hN _ nd_54)) (fun _ h9 => h9) rfl d_S_allFaults_79 ?_
              refine lv_iload_n hx hb d_S_allFaults_82 rfl (lv_at hl 2 rfl) ?_
              refine bz_lald (v := lN (bz_h t i)) hx hb hK hP 6 1 rfl rfl (a9 := i) (by omega) (by decide) (rfl) d_S_allFaults_83 ?_
              refine W.lcmp hx hb d_S_allFaults_84 ?_
              refine lv_if_le (tgt := 91) hx hb d_S_allFaults_85 (by decide) (fun c_85 => ?_) (fun c_85 => ?_)
              · skip
                have c_85 := (bz_lc_le (by have := bz_ld_le ht s2 i; omega) (by have := ht.2.2.2.2.2.2 i; omega)).mp c_85
                have hl : lv_has ls 3 [(1, .int (nI (bz_fo t s2 + bz_sm (bz_fr t s2) (i + 1)))), (0, .ref (ad 7)), (2, .int (nI i))] := by rw [show nI (bz_fo t s2 + bz_sm (bz_fr t s2) (i + 1)) = nI (bz_fo t s2 + bz_sm (bz_fr t s2) i + bz_b (¬ bz_ht t s2 i)) from by show nI (bz_fo t s2 + (bz_sm (bz_fr t s2) i + bz_fr t s2 i)) = _; rw [bz_fr_h1 c_51, bz_b0 (show ¬ bz_h t i < bz_ld t s2 i by omega)]; congr 1; omega]; exact hl
                refine lv_iinc (v := nI (i + 1)) (lv' := [(2, .int (nI (i + 1))), (1, .int (nI (bz_fo t s2 + bz_sm (bz_fr t s2) (i + 1)))), (0, .ref (ad 7))]) hx hb d_S_allFaults_91 hl (k := 2) rfl (nI_1 _) (by decide) rfl (fun ls hl => ?_)
                refine lv_goto (tgt := 24) hx hb d_S_allFaults_94 (by decide) ?_
                exact ihlp (i + 1) (by omega) (by omega) ls (lv_sub hl [2, 1, 0] rfl)
              · skip
                have c_85 : bz_h t i < bz_ld t s2 i := Nat.lt_of_not_le fun z => c_85 ((bz_lc_le (by have := bz_ld_le ht s2 i; omega) (by have := ht.2.2.2.2.2.2 i; omega)).mpr z)
                refine lv_iinc (v := nI (bz_fo t s2 + bz_sm (bz_fr t s2) (i + 1))) (lv' := [(1, .int (nI (bz_fo t s2 + bz_sm (bz_fr t s2) (i + 1)))), (0, .ref (ad 7)), (2, .int (nI i))]) hx hb d_S_allFaults_88 hl (k := 0) rfl (by show _ = nI (bz_fo t s2 + (bz_sm (bz_fr t s2) i + bz_fr t s2 i)); rw [bz_fr_h1 c_51, bz_b1 c_85]; exact (nI_1 _).trans (congrArg nI (by omega))) (by decide) rfl (fun ls hl => ?_)
                refine lv_iinc (v := nI (i + 1)) (lv' := [(2, .int (nI (i + 1))), (1, .int (nI (bz_fo t s2 + bz_sm (bz_fr t s2) (i + 1)))), (0, .ref (ad 7))]) hx hb d_S_allFaults_91 hl (k := 2) rfl (nI_1 _) (by decide) rfl (fun ls hl => ?_)
                refine lv_goto (tgt := 24) hx hb d_S_allFaults_94 (by decide) ?_
                exact ihlp (i + 1) (by omega) (by omega) ls (lv_sub hl [2, 1, 0] rfl)
            · skip
              have c_51 := (bz_lc_eq (b := 0) (by have := ht.2.2.2.2.2.2 i; omega) (by omega)).mp c_51
              refine lv_iload_n hx hb d_S_allFaults_54 rfl (lv_at hl 0 rfl) ?_
              refine lv_aload_n hx hb d_S_allFaults_55 rfl (lv_at hl 1 rfl) ?_
              refine va_get (D := (dC, dI)) (ci := 1) (v := .ref (ad 9)) (C := R_S) (T := F_S) (N := 6) hx hb htb in_S hown hK hP 7 rfl rfl 2 (by decide) (htb _ wd_84) (fun _ h9 => h9) rfl d_S_allFaults_56 ?_
              refine lv_iload_n hx hb d_S_allFaults_59 rfl (lv_at hl 2 rfl) ?_
              refine bz_iald (v := bz_m (bz_in t s2 i)) hx hb hK hP 9 0 rfl rfl (a9 := i) (by omega) (by decide) (rfl) d_S_allFaults_60 ?_
              refine bz_si (va_runS (As := [.int (bz_m (bz_in t s2 i))]) (rest := [.int (nI (bz_fo t s2 + bz_sm (bz_fr t s2) i + bz_b (¬ bz_ht t s2 i)))]) ⟨hx, hb, hml, hown, htb⟩ (c_I_bitCount l dC dI ad cI cL t (bz_sR t s2) L v _) (va_cwS 1 htb (bz_gS wd_223 wd_221 wd_222 wd_24) rfl rfl rfl (by decide +kernel) ⟨Nat.le_of_ble_eq_true rfl, Nat.le_of_ble_eq_true rfl⟩) (bz_rs hN hK hP) rfl rfl hl.1 rfl (lv_room (Nat.le_of_ble_eq_true rfl)) d_S_allFaults_61 ⟨Nat.zero_le _, Nat.zero_le _⟩) ?_
              refine lv_iadd hx hb d_S_allFaults_64 ?_
              refine bz_ri (y := nI (bz_fo t s2 + bz_sm (bz_fr t s2) (i + 1))) (by show _ = nI (bz_fo t s2 + (bz_sm (bz_fr t s2) i + bz_fr t s2 i)); rw [bz_fr_h0 c_51, bz_ct_in ht, nI_add]; congr 1; omega) ?_
              refine lv_istore_n (lv' := [(1, .int (nI (bz_fo t s2 + bz_sm (bz_fr t s2) (i + 1)))), (0, .ref (ad 7)), (2, .int (nI i))]) hx hb d_S_allFaults_65 rfl hl (by decide) rfl (fun ls hl => ?_)
              refine lv_goto (tgt := 91) hx hb d_S_allFaults_66 (by decide) ?_
              refine lv_iinc (v := nI (i + 1)) (lv' := [(2, .int (nI (i + 1))), (1, .int (nI (bz_fo t s2 + bz_sm (bz_fr t s2) (i + 1)))), (0, .ref (ad 7))]) hx hb d_S_allFaults_91 hl (k := 2) rfl (nI_1 _) (by decide) rfl (fun ls hl => ?_)
              refine lv_goto (tgt := 24) hx hb d_S_allFaults_94 (by decide) ?_
              exact ihlp (i + 1) (by omega) (by omega) ls (lv_sub hl [2, 1, 0] rfl)
    exact lp _ 0 (Nat.lt_succ_self _) (by omega) ls (lv_sub hl [2, 1, 0] rfl)
  · skip
    refine lv_aload_n hx hb d_S_allFaults_10 rfl (lv_at hl 0 rfl) ?_
    refine va_get (D := (dC, dI)) (ci := 1) (v := .int (bz_m (bz_op t s2))) (C := R_S) (T := F_S) (N := 6) hx hb htb in_S hown hK hP 7 rfl rfl 4 (by decide) (htb _ wd_86) (fun _ h9 => h9) rfl d_S_allFaults_11 ?_
    refine bz_si (va_runS (As := [.int (bz_m (bz_op t s2))]) (rest := []) ⟨hx, hb, hml, hown, htb⟩ (c_I_bitCount l dC dI ad cI cL t (bz_sR t s2) L v _) (va_cwS 1 htb (bz_gS wd_223 wd_221 wd_222 wd_24) rfl rfl rfl (by decide +kernel) ⟨Nat.le_of_ble_eq_true rfl, Nat.le_of_ble_eq_true rfl⟩) (bz_rs hN hK hP) rfl rfl hl.1 rfl (lv_room (Nat.le_of_ble_eq_true rfl)) d_S_allFaults_14 ⟨Nat.zero_le _, Nat.zero_le _⟩) ?_
    refine bz_ri (y := nI (bz_fo t s2 + bz_sm (bz_fr t s2) 0)) (by rw [bz_fo_y c_7, bz_ct_op ht]; rfl) ?_
    refine lv_goto (tgt := 21) hx hb d_S_allFaults_17 (by decide) ?_
    refine lv_istore_n (lv' := [(1, .int (nI (bz_fo t s2 + bz_sm (bz_fr t s2) 0))), (0, .ref (ad 7))]) hx hb d_S_allFaults_21 rfl hl (by decide) rfl (fun ls hl => ?_)
    refine lv_iconst (v := nI 0) hx hb d_S_allFaults_22 (by decide) ?_
    refine lv_istore_n (lv' := [(2, .int (nI 0)), (1, .int (nI (bz_fo t s2 + bz_sm (bz_fr t s2) 0))), (0, .ref (ad 7))]) hx hb d_S_allFaults_23 rfl hl (by decide) rfl (fun ls hl => ?_)
    have lp : ∀ (k9 : Nat) (i : Nat), 4 - i < k9 → (i ≤ 4) → ∀ (ls : Array Slot), lv_has ls 3 [(0, .ref (ad 7)), (1, .int (nI (bz_fo t s2 + bz_sm (bz_fr t s2) i))), (2, .int (nI i))] → W p l e (headSpec w_S_allFaults ({ frames := 2, cells := 0, slots := 0, locals := 47 })).room s m ([.ref (ad 7)]).toArray below meth c s.heap [] 0 0 (MQ below (vp_Si (fun r9 => r9 = nI (bz_ft t s2))) ([.ref (ad 7)]).toArray s 0 0 (fun _ => False)) (F0 m 24 ls []) := by
      intro k9
      induction k9 with
      | zero =>
        intro i h9
        exact absurd h9 (Nat.not_lt_zero _)
      | succ k9 ihlp =>
        intro i h9_lp hi ls hl
        refine lv_iload_n hx hb d_S_allFaults_24 rfl (lv_at hl 2 rfl) ?_
        refine lv_iconst (v := 4) hx hb d_S_allFaults_25 (by decide) ?_
        refine lv_icmp_ge (tgt := 97) hx hb d_S_allFaults_26 (by decide) (fun c_26 => ?_) (fun c_26 => ?_)
        · skip
          have hi4 : i = 4 := by have := (nI_leI (a := 4) (by omega) (by omega)).mp c_26; omega
          refine lv_iload_n hx hb d_S_allFaults_97 rfl (lv_at hl 1 rfl) ?_
          exact W.iret (v := nI (bz_fo t s2 + bz_sm (bz_fr t s2) i)) hx hb hr (fun t9 ht9 hW => ⟨nI (bz_fo t s2 + bz_sm (bz_fr t s2) i), rfl, by rw [hi4]; rfl, ht9⟩) (fun _ h => nomatch h) d_S_allFaults_98
        · skip
          have hi4 : i < 4 := Nat.lt_of_not_le fun z => c_26 ((nI_leI (a := 4) (b := i) (by omega) (by omega)).mpr z)
          refine lv_aload_n hx hb d_S_allFaults_29 rfl (lv_at hl 0 rfl) ?_
          refine lv_iload_n hx hb d_S_allFaults_30 rfl (lv_at hl 2 rfl) ?_
          refine bz_si (va_runV (As := [.int (nI i)]) (rest := []) ⟨hx, hb, hml, hown, htb⟩ (c_S_hangsTogether l dC dI ad cI cL t s2 L v ht _ (by omega)) (cwV 1 htb (bz_gV wd_230 wd_227 wd_228 wd_229 wd_21) rfl rfl rfl (by decide +kernel) ⟨Nat.le_of_ble_eq_true rfl, Nat.le_of_ble_eq_true rfl⟩) (bz_rv hN hK hP (q0 := 7) rfl rfl) rfl rfl hl.1 rfl (lv_room (Nat.le_of_ble_eq_true rfl)) d_S_allFaults_31 ⟨Nat.zero_le _, Nat.zero_le _⟩) ?_
          refine lv_if_ne (tgt := 40) hx hb d_S_allFaults_34 (by decide) (fun c_34 => ?_) (fun c_34 => ?_)
          · skip
            have hh := bz_bI1 c_34
            have hl : lv_has ls 3 [(0, .ref (ad 7)), (1, .int (nI (bz_fo t s2 + bz_sm (bz_fr t s2) i + bz_b (¬ bz_ht t s2 i)))), (2, .int (nI i))] := by rw [show nI (bz_fo t s2 + bz_sm (bz_fr t s2) i + bz_b (¬ bz_ht t s2 i)) = nI (bz_fo t s2 + bz_sm (bz_fr t s2) i) from by rw [bz_b0 (fun z => z hh)]; rfl]; exact hl
            refine lv_aload_n hx hb d_S_allFaults_40 rfl (lv_at hl 0 rfl) ?_
            refine va_get (D := (dC, dI)) (ci := 1) (v := .ref (ad 1)) (C := R_S) (T := F_S) (N := 6) hx hb htb in_S hown hK hP 7 rfl rfl 0 (by decide) (htb _ wd_79) (fun _ h9 => h9) rfl d_S_allFaults_41 ?_
            refine va_getN (D := (dC, dI)) (ci := 2) (v := .ref (ad 6)) (C := R_T) (T := F_T) (N := 6) hx hb htb in_T hown hK hP 1 rfl rfl 4 (by decide) (va_Nw.use rfl (hN _ nd_54)) (fun _ h9 => h9) rfl d_S_allFaults_44 ?_
            refine lv_iload_n hx hb d_S_allFaults_47 rfl (lv_at hl 2 rfl) ?_
            refine bz_lald (v := lN (bz_h t i)) hx hb hK hP 6 1 rfl rfl (a9 := i) (by omega) (by decide) (rfl) d_S_allFaults_48 ?_
            refine lv_lconst (v := 0) hx hb d_S_allFaults_49 (by decide) ?_
            refine W.lcmp hx hb d_S_allFaults_50 ?_
            refine lv_if_ne (tgt := 69) hx hb d_S_allFaults_51 (by decide) (fun c_51 => ?_) (fun c_51 => ?_)
            · skip
              have c_51 : ¬ bz_h t i = 0 := fun z => c_51 ((bz_lc_eq (b := 0) (by have := ht.2.2.2.2.2.2 i; omega) (by omega)).mpr z)
              refine lv_aload_n hx hb d_S_allFaults_69 rfl (lv_at hl 0 rfl) ?_
              refine va_get (D := (dC, dI)) (ci := 1) (v := .ref (ad 10)) (C := R_S) (T := F_S) (N := 6) hx hb htb in_S hown hK hP 7 rfl rfl 3 (by decide) (htb _ wd_85) (fun _ h9 => h9) rfl d_S_allFaults_70 ?_
              refine lv_iload_n hx hb d_S_allFaults_73 rfl (lv_at hl 2 rfl) ?_
              refine bz_lald (v := lN (bz_ld t s2 i)) hx hb hK hP 10 1 rfl rfl (a9 := i) (by omega) (by decide) (rfl) d_S_allFaults_74 ?_
              refine lv_aload_n hx hb d_S_allFaults_75 rfl (lv_at hl 0 rfl) ?_
              refine va_get (D := (dC, dI)) (ci := 1) (v := .ref (ad 1)) (C := R_S) (T := F_S) (N := 6) hx hb htb in_S hown hK hP 7 rfl rfl 0 (by decide) (htb _ wd_79) (fun _ h9 => h9) rfl d_S_allFaults_76 ?_
              refine va_getN (D := (dC, dI)) (ci := 2) (v := .ref (ad 6)) (C := R_T) (T := F_T) (N := 6) hx hb htb in_T hown hK hP 1 rfl rfl 4 (by decide) (va_Nw.use rfl (hN _ nd_54)) (fun _ h9 => h9) rfl d_S_allFaults_79 ?_
              refine lv_iload_n hx hb d_S_allFaults_82 rfl (lv_at hl 2 rfl) ?_
              refine bz_lald (v := lN (bz_h t i)) hx hb hK hP 6 1 rfl rfl (a9 := i) (by omega) (by decide) (rfl) d_S_allFaults_83 ?_
              refine W.lcmp hx hb d_S_allFaults_84 ?_
              refine lv_if_le (tgt := 91) hx hb d_S_allFaults_85 (by decide) (fun c_85 => ?_) (fun c_85 => ?_)
              · skip
                have c_85 := (bz_lc_le (by have := bz_ld_le ht s2 i; omega) (by have := ht.2.2.2.2.2.2 i; omega)).mp c_85
                have hl : lv_has ls 3 [(0, .ref (ad 7)), (1, .int (nI (bz_fo t s2 + bz_sm (bz_fr t s2) (i + 1)))), (2, .int (nI i))] := by rw [show nI (bz_fo t s2 + bz_sm (bz_fr t s2) (i + 1)) = nI (bz_fo t s2 + bz_sm (bz_fr t s2) i + bz_b (¬ bz_ht t s2 i)) from by show nI (bz_fo t s2 + (bz_sm (bz_fr t s2) i + bz_fr t s2 i)) = _; rw [bz_fr_h1 c_51, bz_b0 (show ¬ bz_h t i < bz_ld t s2 i by omega)]; congr 1; omega]; exact hl
                refine lv_iinc (v := nI (i + 1)) (lv' := [(2, .int (nI (i + 1))), (0, .ref (ad 7)), (1, .int (nI (bz_fo t s2 + bz_sm (bz_fr t s2) (i + 1))))]) hx hb d_S_allFaults_91 hl (k := 2) rfl (nI_1 _) (by decide) rfl (fun ls hl => ?_)
                refine lv_goto (tgt := 24) hx hb d_S_allFaults_94 (by decide) ?_
                exact ihlp (i + 1) (by omega) (by omega) ls (lv_sub hl [1, 2, 0] rfl)
              · skip
                have c_85 : bz_h t i < bz_ld t s2 i := Nat.lt_of_not_le fun z => c_85 ((bz_lc_le (by have := bz_ld_le ht s2 i; omega) (by have := ht.2.2.2.2.2.2 i; omega)).mpr z)
                refine lv_iinc (v := nI (bz_fo t s2 + bz_sm (bz_fr t s2) (i + 1))) (lv' := [(1, .int (nI (bz_fo t s2 + bz_sm (bz_fr t s2) (i + 1)))), (0, .ref (ad 7)), (2, .int (nI i))]) hx hb d_S_allFaults_88 hl (k := 1) rfl (by show _ = nI (bz_fo t s2 + (bz_sm (bz_fr t s2) i + bz_fr t s2 i)); rw [bz_fr_h1 c_51, bz_b1 c_85]; exact (nI_1 _).trans (congrArg nI (by omega))) (by decide) rfl (fun ls hl => ?_)
                refine lv_iinc (v := nI (i + 1)) (lv' := [(2, .int (nI (i + 1))), (1, .int (nI (bz_fo t s2 + bz_sm (bz_fr t s2) (i + 1)))), (0, .ref (ad 7))]) hx hb d_S_allFaults_91 hl (k := 2) rfl (nI_1 _) (by decide) rfl (fun ls hl => ?_)
                refine lv_goto (tgt := 24) hx hb d_S_allFaults_94 (by decide) ?_
                exact ihlp (i + 1) (by omega) (by omega) ls (lv_sub hl [2, 1, 0] rfl)
            · skip
              have c_51 := (bz_lc_eq (b := 0) (by have := ht.2.2.2.2.2.2 i; omega) (by omega)).mp c_51
              refine lv_iload_n hx hb d_S_allFaults_54 rfl (lv_at hl 1 rfl) ?_
              refine lv_aload_n hx hb d_S_allFaults_55 rfl (lv_at hl 0 rfl) ?_
              refine va_get (D := (dC, dI)) (ci := 1) (v := .ref (ad 9)) (C := R_S) (T := F_S) (N := 6) hx hb htb in_S hown hK hP 7 rfl rfl 2 (by decide) (htb _ wd_84) (fun _ h9 => h9) rfl d_S_allFaults_56 ?_
              refine lv_iload_n hx hb d_S_allFaults_59 rfl (lv_at hl 2 rfl) ?_
              refine bz_iald (v := bz_m (bz_in t s2 i)) hx hb hK hP 9 0 rfl rfl (a9 := i) (by omega) (by decide) (rfl) d_S_allFaults_60 ?_
              refine bz_si (va_runS (As := [.int (bz_m (bz_in t s2 i))]) (rest := [.int (nI (bz_fo t s2 + bz_sm (bz_fr t s2) i + bz_b (¬ bz_ht t s2 i)))]) ⟨hx, hb, hml, hown, htb⟩ (c_I_bitCount l dC dI ad cI cL t (bz_sR t s2) L v _) (va_cwS 1 htb (bz_gS wd_223 wd_221 wd_222 wd_24) rfl rfl rfl (by decide +kernel) ⟨Nat.le_of_ble_eq_true rfl, Nat.le_of_ble_eq_true rfl⟩) (bz_rs hN hK hP) rfl rfl hl.1 rfl (lv_room (Nat.le_of_ble_eq_true rfl)) d_S_allFaults_61 ⟨Nat.zero_le _, Nat.zero_le _⟩) ?_
              refine lv_iadd hx hb d_S_allFaults_64 ?_
              refine bz_ri (y := nI (bz_fo t s2 + bz_sm (bz_fr t s2) (i + 1))) (by show _ = nI (bz_fo t s2 + (bz_sm (bz_fr t s2) i + bz_fr t s2 i)); rw [bz_fr_h0 c_51, bz_ct_in ht, nI_add]; congr 1; omega) ?_
              refine lv_istore_n (lv' := [(1, .int (nI (bz_fo t s2 + bz_sm (bz_fr t s2) (i + 1)))), (0, .ref (ad 7)), (2, .int (nI i))]) hx hb d_S_allFaults_65 rfl hl (by decide) rfl (fun ls hl => ?_)
              refine lv_goto (tgt := 91) hx hb d_S_allFaults_66 (by decide) ?_
              refine lv_iinc (v := nI (i + 1)) (lv' := [(2, .int (nI (i + 1))), (1, .int (nI (bz_fo t s2 + bz_sm (bz_fr t s2) (i + 1)))), (0, .ref (ad 7))]) hx hb d_S_allFaults_91 hl (k := 2) rfl (nI_1 _) (by decide) rfl (fun ls hl => ?_)
              refine lv_goto (tgt := 24) hx hb d_S_allFaults_94 (by decide) ?_
              exact ihlp (i + 1) (by omega) (by omega) ls (lv_sub hl [2, 1, 0] rfl)
          · skip
            have hh := bz_bI0 c_34
            refine lv_iinc (v := nI (bz_fo t s2 + bz_sm (bz_fr t s2) i + bz_b (¬ bz_ht t s2 i))) (lv' := [(1, .int (nI (bz_fo t s2 + bz_sm (bz_fr t s2) i + bz_b (¬ bz_ht t s2 i)))), (0, .ref (ad 7)), (2, .int (nI i))]) hx hb d_S_allFaults_37 hl (k := 1) rfl (by rw [bz_b1 hh]; exact nI_1 _) (by decide) rfl (fun ls hl => ?_)
            refine lv_aload_n hx hb d_S_allFaults_40 rfl (lv_at hl 1 rfl) ?_
            refine va_get (D := (dC, dI)) (ci := 1) (v := .ref (ad 1)) (C := R_S) (T := F_S) (N := 6) hx hb htb in_S hown hK hP 7 rfl rfl 0 (by decide) (htb _ wd_79) (fun _ h9 => h9) rfl d_S_allFaults_41 ?_
            refine va_getN (D := (dC, dI)) (ci := 2) (v := .ref (ad 6)) (C := R_T) (T := F_T) (N := 6) hx hb htb in_T hown hK hP 1 rfl rfl 4 (by decide) (va_Nw.use rfl (hN _ nd_54)) (fun _ h9 => h9) rfl d_S_allFaults_44 ?_
            refine lv_iload_n hx hb d_S_allFaults_47 rfl (lv_at hl 2 rfl) ?_
            refine bz_lald (v := lN (bz_h t i)) hx hb hK hP 6 1 rfl rfl (a9 := i) (by omega) (by decide) (rfl) d_S_allFaults_48 ?_
            refine lv_lconst (v := 0) hx hb d_S_allFaults_49 (by decide) ?_
            refine W.lcmp hx hb d_S_allFaults_50 ?_
            refine lv_if_ne (tgt := 69) hx hb d_S_allFaults_51 (by decide) (fun c_51 => ?_) (fun c_51 => ?_)
            · skip
              have c_51 : ¬ bz_h t i = 0 := fun z => c_51 ((bz_lc_eq (b := 0) (by have := ht.2.2.2.2.2.2 i; omega) (by omega)).mpr z)
              refine lv_aload_n hx hb d_S_allFaults_69 rfl (lv_at hl 1 rfl) ?_
              refine va_get (D := (dC, dI)) (ci := 1) (v := .ref (ad 10)) (C := R_S) (T := F_S) (N := 6) hx hb htb in_S hown hK hP 7 rfl rfl 3 (by decide) (htb _ wd_85) (fun _ h9 => h9) rfl d_S_allFaults_70 ?_
              refine lv_iload_n hx hb d_S_allFaults_73 rfl (lv_at hl 2 rfl) ?_
              refine bz_lald (v := lN (bz_ld t s2 i)) hx hb hK hP 10 1 rfl rfl (a9 := i) (by omega) (by decide) (rfl) d_S_allFaults_74 ?_
              refine lv_aload_n hx hb d_S_allFaults_75 rfl (lv_at hl 1 rfl) ?_
              refine va_get (D := (dC, dI)) (ci := 1) (v := .ref (ad 1)) (C := R_S) (T := F_S) (N := 6) hx hb htb in_S hown hK hP 7 rfl rfl 0 (by decide) (htb _ wd_79) (fun _ h9 => h9) rfl d_S_allFaults_76 ?_
              refine va_getN (D := (dC, dI)) (ci := 2) (v := .ref (ad 6)) (C := R_T) (T := F_T) (N := 6) hx hb htb in_T hown hK hP 1 rfl rfl 4 (by decide) (va_Nw.use rfl (hN _ nd_54)) (fun _ h9 => h9) rfl d_S_allFaults_79 ?_
              refine lv_iload_n hx hb d_S_allFaults_82 rfl (lv_at hl 2 rfl) ?_
              refine bz_lald (v := lN (bz_h t i)) hx hb hK hP 6 1 rfl rfl (a9 := i) (by omega) (by decide) (rfl) d_S_allFaults_83 ?_
              refine W.lcmp hx hb d_S_allFaults_84 ?_
              refine lv_if_le (tgt := 91) hx hb d_S_allFaults_85 (by decide) (fun c_85 => ?_) (fun c_85 => ?_)
              · skip
                have c_85 := (bz_lc_le (by have := bz_ld_le ht s2 i; omega) (by have := ht.2.2.2.2.2.2 i; omega)).mp c_85
                have hl : lv_has ls 3 [(1, .int (nI (bz_fo t s2 + bz_sm (bz_fr t s2) (i + 1)))), (0, .ref (ad 7)), (2, .int (nI i))] := by rw [show nI (bz_fo t s2 + bz_sm (bz_fr t s2) (i + 1)) = nI (bz_fo t s2 + bz_sm (bz_fr t s2) i + bz_b (¬ bz_ht t s2 i)) from by show nI (bz_fo t s2 + (bz_sm (bz_fr t s2) i + bz_fr t s2 i)) = _; rw [bz_fr_h1 c_51, bz_b0 (show ¬ bz_h t i < bz_ld t s2 i by omega)]; congr 1; omega]; exact hl
                refine lv_iinc (v := nI (i + 1)) (lv' := [(2, .int (nI (i + 1))), (1, .int (nI (bz_fo t s2 + bz_sm (bz_fr t s2) (i + 1)))), (0, .ref (ad 7))]) hx hb d_S_allFaults_91 hl (k := 2) rfl (nI_1 _) (by decide) rfl (fun ls hl => ?_)
                refine lv_goto (tgt := 24) hx hb d_S_allFaults_94 (by decide) ?_
                exact ihlp (i + 1) (by omega) (by omega) ls (lv_sub hl [2, 1, 0] rfl)
              · skip
                have c_85 : bz_h t i < bz_ld t s2 i := Nat.lt_of_not_le fun z => c_85 ((bz_lc_le (by have := bz_ld_le ht s2 i; omega) (by have := ht.2.2.2.2.2.2 i; omega)).mpr z)
                refine lv_iinc (v := nI (bz_fo t s2 + bz_sm (bz_fr t s2) (i + 1))) (lv' := [(1, .int (nI (bz_fo t s2 + bz_sm (bz_fr t s2) (i + 1)))), (0, .ref (ad 7)), (2, .int (nI i))]) hx hb d_S_allFaults_88 hl (k := 0) rfl (by show _ = nI (bz_fo t s2 + (bz_sm (bz_fr t s2) i + bz_fr t s2 i)); rw [bz_fr_h1 c_51, bz_b1 c_85]; exact (nI_1 _).trans (congrArg nI (by omega))) (by decide) rfl (fun ls hl => ?_)
                refine lv_iinc (v := nI (i + 1)) (lv' := [(2, .int (nI (i + 1))), (1, .int (nI (bz_fo t s2 + bz_sm (bz_fr t s2) (i + 1)))), (0, .ref (ad 7))]) hx hb d_S_allFaults_91 hl (k := 2) rfl (nI_1 _) (by decide) rfl (fun ls hl => ?_)
                refine lv_goto (tgt := 24) hx hb d_S_allFaults_94 (by decide) ?_
                exact ihlp (i + 1) (by omega) (by omega) ls (lv_sub hl [2, 1, 0] rfl)
            · skip
              have c_51 := (bz_lc_eq (b := 0) (by have := ht.2.2.2.2.2.2 i; omega) (by omega)).mp c_51
              refine lv_iload_n hx hb d_S_allFaults_54 rfl (lv_at hl 0 rfl) ?_
              refine lv_aload_n hx hb d_S_allFaults_55 rfl (lv_at hl 1 rfl) ?_
              refine va_get (D := (dC, dI)) (ci := 1) (v := .ref (ad 9)) (C := R_S) (T := F_S) (N := 6) hx hb htb in_S hown hK hP 7 rfl rfl 2 (by decide) (htb _ wd_84) (fun _ h9 => h9) rfl d_S_allFaults_56 ?_
              refine lv_iload_n hx hb d_S_allFaults_59 rfl (lv_at hl 2 rfl) ?_
              refine bz_iald (v := bz_m (bz_in t s2 i)) hx hb hK hP 9 0 rfl rfl (a9 := i) (by omega) (by decide) (rfl) d_S_allFaults_60 ?_
              refine bz_si (va_runS (As := [.int (bz_m (bz_in t s2 i))]) (rest := [.int (nI (bz_fo t s2 + bz_sm (bz_fr t s2) i + bz_b (¬ bz_ht t s2 i)))]) ⟨hx, hb, hml, hown, htb⟩ (c_I_bitCount l dC dI ad cI cL t (bz_sR t s2) L v _) (va_cwS 1 htb (bz_gS wd_223 wd_221 wd_222 wd_24) rfl rfl rfl (by decide +kernel) ⟨Nat.le_of_ble_eq_true rfl, Nat.le_of_ble_eq_true rfl⟩) (bz_rs hN hK hP) rfl rfl hl.1 rfl (lv_room (Nat.le_of_ble_eq_true rfl)) d_S_allFaults_61 ⟨Nat.zero_le _, Nat.zero_le _⟩) ?_
              refine lv_iadd hx hb d_S_allFaults_64 ?_
              refine bz_ri (y := nI (bz_fo t s2 + bz_sm (bz_fr t s2) (i + 1))) (by show _ = nI (bz_fo t s2 + (bz_sm (bz_fr t s2) i + bz_fr t s2 i)); rw [bz_fr_h0 c_51, bz_ct_in ht, nI_add]; congr 1; omega) ?_
              refine lv_istore_n (lv' := [(1, .int (nI (bz_fo t s2 + bz_sm (bz_fr t s2) (i + 1)))), (0, .ref (ad 7)), (2, .int (nI i))]) hx hb d_S_allFaults_65 rfl hl (by decide) rfl (fun ls hl => ?_)
              refine lv_goto (tgt := 91) hx hb d_S_allFaults_66 (by decide) ?_
              refine lv_iinc (v := nI (i + 1)) (lv' := [(2, .int (nI (i + 1))), (1, .int (nI (bz_fo t s2 + bz_sm (bz_fr t s2) (i + 1)))), (0, .ref (ad 7))]) hx hb d_S_allFaults_91 hl (k := 2) rfl (nI_1 _) (by decide) rfl (fun ls hl => ?_)
              refine lv_goto (tgt := 24) hx hb d_S_allFaults_94 (by decide) ?_
              exact ihlp (i + 1) (by omega) (by omega) ls (lv_sub hl [2, 1, 0] rfl)
    exact lp _ 0 (Nat.lt_succ_self _) (by omega) ls (lv_sub hl [2, 1, 0] rfl)

set_option maxHeartbeats 4000000 in
set_option maxRecDepth 100000 in
/-- Share.cost -/
theorem c_S_cost (l : Launch) (dC : Nat → ClassId) (dI : Nat → Nat → Nat) (ad : Nat → Nat) (cI cL : ClassId) (t : bz_T) (s2 : bz_S) (L : (Nat → Int32) × Int64) (v : Int32) (ht : bz_ok t) : Met l y_S_cost w_S_cost ({ frames := 3, cells := 0, slots := 0, locals := 69 }) (bz_Pr (dC, dI) [(cI, .int), (cL, .long)] (bz_wB ad cI cL (bz_tR t) (bz_sR t s2) L v) [.ref (ad 7)]) (vp_Sl (fun r9 => r9 = lN (bz_co t s2))) 0 0 (fun _ => False) := by
  refine Met.ofW (cc := b_S_cost) (maxL := 1) (ret := (some .long)) (by decide) rfl ?_
  intro p e s m args below meth c s₁ B hml hv
  obtain ⟨rfl, hP, hK, hN⟩ := hv
  have hx := B.exec
  have hb := B.bytes
  have hr := B.returns
  have hts := atoms_spec (ws := w_S_cost) B.pre
  have hown : s.vm.findClass R_S = some m.cls := findClass_of_methodNamed B.named
  have htb : ∀ w ∈ bz_tb, w.before _ s = true := fun w h => hts w (List.mem_cons_of_mem _ h)
  have hlocks := B.notSynchronized
  have hl := lv_entry ([.ref (ad 7)]) (n := 1) (Nat.le_of_ble_eq_true rfl)
  rw [lg_entry_eq]
  generalize (lg_sl ([.ref (ad 7)]) ++ List.replicate (1 - (lg_sl ([.ref (ad 7)])).length) Slot.unset).toArray = ls at hl ⊢
  have hl : lv_has ls 1 [(0, .ref (ad 7))] := hl
  refine lv_ldc2 (v := 1000000000000) hx hb hown (htb _ wd_212) d_S_cost_0 ?_
  refine lv_aload_n hx hb d_S_cost_3 rfl (lv_at hl 0 rfl) ?_
  refine bz_si (va_runV (As := []) (rest := [.long 1000000000000]) ⟨hx, hb, hml, hown, htb⟩ (c_S_allFaults l dC dI ad cI cL t s2 L v ht) (cwV 0 htb (bz_gV wd_216 wd_213 wd_214 wd_215 wd_21) rfl rfl rfl (by decide +kernel) ⟨Nat.le_of_ble_eq_true rfl, Nat.le_of_ble_eq_true rfl⟩) (bz_rv hN hK hP (q0 := 7) rfl rfl) rfl rfl hl.1 rfl (lv_room (Nat.le_of_ble_eq_true rfl)) d_S_cost_4 ⟨Nat.zero_le _, Nat.zero_le _⟩) ?_
  refine lv_i2l hx hb d_S_cost_7 rfl ?_
  refine bz_rl (y := lN (bz_ft t s2)) (nI_l (by have := bz_ft_le ht s2; omega)) ?_
  refine lv_lmul hx hb d_S_cost_8 ?_
  refine lv_ldc2 (v := 100) hx hb hown (htb _ wd_235) d_S_cost_9 ?_
  refine lv_aload_n hx hb d_S_cost_12 rfl (lv_at hl 0 rfl) ?_
  refine bz_sl (va_runV (As := []) (rest := [.long 100, .long (1000000000000 * (lN (bz_ft t s2)))]) ⟨hx, hb, hml, hown, htb⟩ (c_S_greatestLoad l dC dI ad cI cL t s2 L v ht) (cwV 0 htb (bz_gV wd_239 wd_236 wd_237 wd_238 wd_21) rfl rfl rfl (by decide +kernel) ⟨Nat.le_of_ble_eq_true rfl, Nat.le_of_ble_eq_true rfl⟩) (bz_rv hN hK hP (q0 := 7) rfl rfl) rfl rfl hl.1 rfl (lv_room (Nat.le_of_ble_eq_true rfl)) d_S_cost_13 ⟨Nat.zero_le _, Nat.zero_le _⟩) ?_
  refine lv_lmul hx hb d_S_cost_16 ?_
  refine lv_ladd hx hb d_S_cost_17 ?_
  refine lv_aload_n hx hb d_S_cost_18 rfl (lv_at hl 0 rfl) ?_
  refine va_get (D := (dC, dI)) (ci := 1) (v := .int (nI (bz_ch t s2))) (C := R_S) (T := F_S) (N := 6) hx hb htb in_S hown hK hP 7 rfl rfl 5 (by decide) (htb _ wd_87) (fun _ h9 => h9) rfl d_S_cost_19 ?_
  refine lv_i2l hx hb d_S_cost_22 rfl ?_
  refine bz_rl (y := lN (bz_ch t s2)) (nI_l (by have := bz_ch_le ht s2; omega)) ?_
  refine lv_ladd hx hb d_S_cost_23 ?_
  refine bz_rl (y := lN (bz_co t s2)) (bz_cost_eq s2) ?_
  exact W.lret (v := lN (bz_co t s2)) hx hb hr (fun t9 ht9 hW => ⟨lN (bz_co t s2), rfl, rfl, ht9⟩) (fun _ h => nomatch h) d_S_cost_24
