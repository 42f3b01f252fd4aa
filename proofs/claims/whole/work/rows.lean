section
-- ===== PART A: goes FIRST, ahead of the names: the tables' words, and 'selects' of the private methods out of them =====
/-- a private method of a class that the tables say can be made, by its rows of tables_1 -/
def lw_okq (q : MethodName × Nat) : Prop := (q.1.cls ≠ "java/lang/invoke/MethodHandle" ∧ q.1.cls ≠ "java/lang/invoke/VarHandle") ∧ Cond.instantiable q.1.cls q.2 ∈ tables_1 ∧ Cond.privateMethod q.1 ∈ tables_1 ∧ Cond.instanceMethod q.1 ∈ tables_1
theorem lw_p0 : lw_okq (⟨"BalanceRounds", "isArea", "(I)Z"⟩, 4) := ⟨⟨by decide +kernel, by decide +kernel⟩, List.mem_of_getElem? (i := 15) (by decide +kernel), List.mem_of_getElem? (i := 129) (by decide +kernel), List.mem_of_getElem? (i := 130) (by decide +kernel)⟩
theorem lw_p1 : lw_okq (⟨"BalanceRounds", "isForExact", "()Z"⟩, 4) := ⟨⟨by decide +kernel, by decide +kernel⟩, List.mem_of_getElem? (i := 15) (by decide +kernel), List.mem_of_getElem? (i := 164) (by decide +kernel), List.mem_of_getElem? (i := 165) (by decide +kernel)⟩
theorem lw_p2 : lw_okq (⟨"BalanceRounds", "findLeastShare", "()V"⟩, 4) := ⟨⟨by decide +kernel, by decide +kernel⟩, List.mem_of_getElem? (i := 15) (by decide +kernel), List.mem_of_getElem? (i := 168) (by decide +kernel), List.mem_of_getElem? (i := 169) (by decide +kernel)⟩
theorem lw_p3 : lw_okq (⟨"BalanceRounds", "improveByMoves", "(J)V"⟩, 4) := ⟨⟨by decide +kernel, by decide +kernel⟩, List.mem_of_getElem? (i := 15) (by decide +kernel), List.mem_of_getElem? (i := 238) (by decide +kernel), List.mem_of_getElem? (i := 239) (by decide +kernel)⟩
theorem lw_p4 : lw_okq (⟨"java/lang/Throwable", "fillInStackTrace", "(I)Ljava/lang/Throwable;"⟩, 6) := ⟨⟨by decide +kernel, by decide +kernel⟩, List.mem_of_getElem? (i := 340) (by decide +kernel), List.mem_of_getElem? (i := 338) (by decide +kernel), List.mem_of_getElem? (i := 339) (by decide +kernel)⟩
theorem lw_p5 : lw_okq (⟨"BalanceRoundsModel", "changes", "()V"⟩, 12) := ⟨⟨by decide +kernel, by decide +kernel⟩, List.mem_of_getElem? (i := 387) (by decide +kernel), List.mem_of_getElem? (i := 444) (by decide +kernel), List.mem_of_getElem? (i := 445) (by decide +kernel)⟩
theorem lw_p6 : lw_okq (⟨"BalanceRoundsModel", "isArea", "(I)Z"⟩, 12) := ⟨⟨by decide +kernel, by decide +kernel⟩, List.mem_of_getElem? (i := 387) (by decide +kernel), List.mem_of_getElem? (i := 452) (by decide +kernel), List.mem_of_getElem? (i := 453) (by decide +kernel)⟩
theorem lw_p7 : lw_okq (⟨"BalanceRoundsModel", "tryAll", "()V"⟩, 12) := ⟨⟨by decide +kernel, by decide +kernel⟩, List.mem_of_getElem? (i := 387) (by decide +kernel), List.mem_of_getElem? (i := 471) (by decide +kernel), List.mem_of_getElem? (i := 472) (by decide +kernel)⟩
theorem lw_p8 : lw_okq (⟨"BalanceRoundsModel", "cost", "([I)J"⟩, 12) := ⟨⟨by decide +kernel, by decide +kernel⟩, List.mem_of_getElem? (i := 387) (by decide +kernel), List.mem_of_getElem? (i := 476) (by decide +kernel), List.mem_of_getElem? (i := 477) (by decide +kernel)⟩
theorem lw_p9 : lw_okq (⟨"BalanceRoundsModel", "faultsOf", "([I)I"⟩, 12) := ⟨⟨by decide +kernel, by decide +kernel⟩, List.mem_of_getElem? (i := 387) (by decide +kernel), List.mem_of_getElem? (i := 480) (by decide +kernel), List.mem_of_getElem? (i := 481) (by decide +kernel)⟩
theorem lw_p10 : lw_okq (⟨"BalanceRoundsModel", "roundLoad", "([II)J"⟩, 12) := ⟨⟨by decide +kernel, by decide +kernel⟩, List.mem_of_getElem? (i := 387) (by decide +kernel), List.mem_of_getElem? (i := 484) (by decide +kernel), List.mem_of_getElem? (i := 485) (by decide +kernel)⟩
theorem lw_p11 : lw_okq (⟨"BalanceRoundsModel", "loadOf", "(II)J"⟩, 12) := ⟨⟨by decide +kernel, by decide +kernel⟩, List.mem_of_getElem? (i := 387) (by decide +kernel), List.mem_of_getElem? (i := 488) (by decide +kernel), List.mem_of_getElem? (i := 489) (by decide +kernel)⟩
theorem lw_p12 : lw_okq (⟨"BalanceRoundsModel", "hangs", "([II)Z"⟩, 12) := ⟨⟨by decide +kernel, by decide +kernel⟩, List.mem_of_getElem? (i := 387) (by decide +kernel), List.mem_of_getElem? (i := 494) (by decide +kernel), List.mem_of_getElem? (i := 495) (by decide +kernel)⟩
theorem lw_p13 : lw_okq (⟨"BalanceRoundsModel", "greatest", "([I)J"⟩, 12) := ⟨⟨by decide +kernel, by decide +kernel⟩, List.mem_of_getElem? (i := 387) (by decide +kernel), List.mem_of_getElem? (i := 500) (by decide +kernel), List.mem_of_getElem? (i := 501) (by decide +kernel)⟩
theorem lw_p14 : lw_okq (⟨"BalanceRoundsModel", "changedIn", "([I)I"⟩, 12) := ⟨⟨by decide +kernel, by decide +kernel⟩, List.mem_of_getElem? (i := 387) (by decide +kernel), List.mem_of_getElem? (i := 504) (by decide +kernel), List.mem_of_getElem? (i := 505) (by decide +kernel)⟩
theorem lw_p15 : lw_okq (⟨"BalanceRoundsModel", "tryMoves", "(J)V"⟩, 12) := ⟨⟨by decide +kernel, by decide +kernel⟩, List.mem_of_getElem? (i := 387) (by decide +kernel), List.mem_of_getElem? (i := 508) (by decide +kernel), List.mem_of_getElem? (i := 509) (by decide +kernel)⟩
def lw_privs_1 : List (MethodName × Nat) := [(⟨"BalanceRounds", "isArea", "(I)Z"⟩, 4), (⟨"BalanceRounds", "isForExact", "()Z"⟩, 4), (⟨"BalanceRounds", "findLeastShare", "()V"⟩, 4), (⟨"BalanceRounds", "improveByMoves", "(J)V"⟩, 4), (⟨"java/lang/Throwable", "fillInStackTrace", "(I)Ljava/lang/Throwable;"⟩, 6), (⟨"BalanceRoundsModel", "changes", "()V"⟩, 12), (⟨"BalanceRoundsModel", "isArea", "(I)Z"⟩, 12), (⟨"BalanceRoundsModel", "tryAll", "()V"⟩, 12), (⟨"BalanceRoundsModel", "cost", "([I)J"⟩, 12), (⟨"BalanceRoundsModel", "faultsOf", "([I)I"⟩, 12), (⟨"BalanceRoundsModel", "roundLoad", "([II)J"⟩, 12), (⟨"BalanceRoundsModel", "loadOf", "(II)J"⟩, 12), (⟨"BalanceRoundsModel", "hangs", "([II)Z"⟩, 12), (⟨"BalanceRoundsModel", "greatest", "([I)J"⟩, 12), (⟨"BalanceRoundsModel", "changedIn", "([I)I"⟩, 12), (⟨"BalanceRoundsModel", "tryMoves", "(J)V"⟩, 12)]
theorem lw_r1 : ∀ q ∈ lw_privs_1, lw_okq q := List.forall_mem_cons.mpr ⟨lw_p0, List.forall_mem_cons.mpr ⟨lw_p1, List.forall_mem_cons.mpr ⟨lw_p2, List.forall_mem_cons.mpr ⟨lw_p3, List.forall_mem_cons.mpr ⟨lw_p4, List.forall_mem_cons.mpr ⟨lw_p5, List.forall_mem_cons.mpr ⟨lw_p6, List.forall_mem_cons.mpr ⟨lw_p7, List.forall_mem_cons.mpr ⟨lw_p8, List.forall_mem_cons.mpr ⟨lw_p9, List.forall_mem_cons.mpr ⟨lw_p10, List.forall_mem_cons.mpr ⟨lw_p11, List.forall_mem_cons.mpr ⟨lw_p12, List.forall_mem_cons.mpr ⟨lw_p13, List.forall_mem_cons.mpr ⟨lw_p14, List.forall_mem_cons.mpr ⟨lw_p15, fun _ h => absurd h List.not_mem_nil⟩⟩⟩⟩⟩⟩⟩⟩⟩⟩⟩⟩⟩⟩⟩⟩
theorem lw_p16 : lw_okq (⟨"BalanceRoundsModel", "withHours", "()I"⟩, 12) := ⟨⟨by decide +kernel, by decide +kernel⟩, List.mem_of_getElem? (i := 387) (by decide +kernel), List.mem_of_getElem? (i := 532) (by decide +kernel), List.mem_of_getElem? (i := 533) (by decide +kernel)⟩
theorem lw_p17 : lw_okq (⟨"BalanceRoundsModel", "lightest", "(I)J"⟩, 12) := ⟨⟨by decide +kernel, by decide +kernel⟩, List.mem_of_getElem? (i := 387) (by decide +kernel), List.mem_of_getElem? (i := 537) (by decide +kernel), List.mem_of_getElem? (i := 538) (by decide +kernel)⟩
def lw_privs_2 : List (MethodName × Nat) := [(⟨"BalanceRoundsModel", "withHours", "()I"⟩, 12), (⟨"BalanceRoundsModel", "lightest", "(I)J"⟩, 12)]
theorem lw_r2 : ∀ q ∈ lw_privs_2, lw_okq q := List.forall_mem_cons.mpr ⟨lw_p16, List.forall_mem_cons.mpr ⟨lw_p17, fun _ h => absurd h List.not_mem_nil⟩⟩
def lw_privs : List (MethodName × Nat) := lw_privs_1 ++ (lw_privs_2)
def lw_tbl : List Cond := k2_sels lw_privs ++ tables_1
theorem lw_privs_ok : ∀ q ∈ lw_privs, lw_okq q := by
  show ∀ q ∈ lw_privs_1 ++ (lw_privs_2), lw_okq q
  exact List.forall_mem_append.mpr ⟨lw_r1, lw_r2⟩
def R_Le : String := "BalanceRounds$Least"
def R_S : String := "BalanceRounds$Share"
def R_T : String := "BalanceRounds$Town"
def R_B : String := "BalanceRounds"
def R_M : String := "BalanceRoundsModel"
def R_L : String := "BalanceRoundsLaw"
def R_I : String := "java/lang/Integer"
def R_Mt : String := "java/lang/Math"
def R_Sy : String := "java/lang/System"
def F_Le : u_T := fun k => match k with
  | 0 => ("BalanceRounds$Least", "row", "[I", true)
  | _ => ("BalanceRounds$Least", "cost", "J", false)
def tf_Le : Nat → FieldType := fun k => match k with
  | 0 => .array .int
  | _ => .long
theorem n_Le : ∀ a, a < 2 → ∀ b, b < 2 → a ≠ b → (F_Le a).2.1 ≠ (F_Le b).2.1 := by decide +kernel
theorem tok_Le : ∀ k, k < 2 → parseFieldDescriptor (F_Le k).2.2.1 = some (tf_Le k) := by decide +kernel
def F_S : u_T := fun k => match k with
  | 0 => ("BalanceRounds$Share", "town", "LBalanceRounds$Town;", true)
  | 1 => ("BalanceRounds$Share", "roundOf", "[I", true)
  | 2 => ("BalanceRounds$Share", "areasIn", "[I", true)
  | 3 => ("BalanceRounds$Share", "loadOf", "[J", true)
  | 4 => ("BalanceRounds$Share", "open", "I", false)
  | _ => ("BalanceRounds$Share", "changes", "I", false)
def tf_S : Nat → FieldType := fun k => match k with
  | 0 => .object "BalanceRounds$Town"
  | 1 => .array .int
  | 2 => .array .int
  | 3 => .array .long
  | 4 => .int
  | _ => .int
theorem n_S : ∀ a, a < 6 → ∀ b, b < 6 → a ≠ b → (F_S a).2.1 ≠ (F_S b).2.1 := by decide +kernel
theorem tok_S : ∀ k, k < 6 → parseFieldDescriptor (F_S k).2.2.1 = some (tf_S k) := by decide +kernel
def F_T : u_T := fun k => match k with
  | 0 => ("BalanceRounds$Town", "loads", "[J", true)
  | 1 => ("BalanceRounds$Town", "todays", "[I", true)
  | 2 => ("BalanceRounds$Town", "neighbours", "[I", true)
  | 3 => ("BalanceRounds$Town", "known", "[I", true)
  | 4 => ("BalanceRounds$Town", "hours", "[J", true)
  | _ => ("BalanceRounds$Town", "count", "I", false)
def tf_T : Nat → FieldType := fun k => match k with
  | 0 => .array .long
  | 1 => .array .int
  | 2 => .array .int
  | 3 => .array .int
  | 4 => .array .long
  | _ => .int
theorem n_T : ∀ a, a < 6 → ∀ b, b < 6 → a ≠ b → (F_T a).2.1 ≠ (F_T b).2.1 := by decide +kernel
theorem tok_T : ∀ k, k < 6 → parseFieldDescriptor (F_T k).2.2.1 = some (tf_T k) := by decide +kernel
def F_B : u_T := fun k => match k with
  | 0 => ("BalanceRounds", "town", "LBalanceRounds$Town;", true)
  | 1 => ("BalanceRounds", "share", "LBalanceRounds$Share;", true)
  | 2 => ("BalanceRounds", "least", "LBalanceRounds$Least;", true)
  | _ => ("BalanceRounds", "solved", "Z", false)
def tf_B : Nat → FieldType := fun k => match k with
  | 0 => .object "BalanceRounds$Town"
  | 1 => .object "BalanceRounds$Share"
  | 2 => .object "BalanceRounds$Least"
  | _ => .boolean
theorem n_B : ∀ a, a < 4 → ∀ b, b < 4 → a ≠ b → (F_B a).2.1 ≠ (F_B b).2.1 := by decide +kernel
theorem tok_B : ∀ k, k < 4 → parseFieldDescriptor (F_B k).2.2.1 = some (tf_B k) := by decide +kernel
def F_M : u_T := fun k => match k with
  | 0 => ("BalanceRoundsModel", "thrown", "I", false)
  | 1 => ("BalanceRoundsModel", "count", "I", false)
  | 2 => ("BalanceRoundsModel", "loads", "[J", true)
  | 3 => ("BalanceRoundsModel", "todays", "[I", true)
  | 4 => ("BalanceRoundsModel", "joins", "[Z", true)
  | 5 => ("BalanceRoundsModel", "knows", "[Z", true)
  | 6 => ("BalanceRoundsModel", "hours", "[J", true)
  | 7 => ("BalanceRoundsModel", "solved", "Z", false)
  | 8 => ("BalanceRoundsModel", "exact", "Z", false)
  | 9 => ("BalanceRoundsModel", "share", "[I", true)
  | 10 => ("BalanceRoundsModel", "tried", "[I", true)
  | _ => ("BalanceRoundsModel", "seen", "[Z", true)
def tf_M : Nat → FieldType := fun k => match k with
  | 0 => .int
  | 1 => .int
  | 2 => .array .long
  | 3 => .array .int
  | 4 => .array .boolean
  | 5 => .array .boolean
  | 6 => .array .long
  | 7 => .boolean
  | 8 => .boolean
  | 9 => .array .int
  | 10 => .array .int
  | _ => .array .boolean
theorem n_M : ∀ a, a < 12 → ∀ b, b < 12 → a ≠ b → (F_M a).2.1 ≠ (F_M b).2.1 := by decide +kernel
theorem tok_M : ∀ k, k < 12 → parseFieldDescriptor (F_M k).2.2.1 = some (tf_M k) := by decide +kernel
abbrev vwCl : List vw_C := [(R_Le, F_Le, 2), (R_S, F_S, 6), (R_T, F_T, 6), (R_B, F_B, 4), (R_M, F_M, 12)]
abbrev b_B_init : ByteArray := prog_1_method_1_code
def y_B_init : MethodName := ⟨R_B, "<init>", "()V"⟩
abbrev b_T_init : ByteArray := prog_4_method_1_code
def y_T_init : MethodName := ⟨R_T, "<init>", "()V"⟩
abbrev b_S_init : ByteArray := prog_3_method_1_code
def y_S_init : MethodName := ⟨R_S, "<init>", "(LBalanceRounds$Town;)V"⟩
abbrev b_Le_init : ByteArray := prog_2_method_1_code
def y_Le_init : MethodName := ⟨R_Le, "<init>", "()V"⟩
abbrev b_B_area : ByteArray := prog_1_method_2_code
def y_B_area : MethodName := ⟨R_B, "area", "(JI)I"⟩
abbrev b_B_isRound : ByteArray := prog_1_method_15_code
def y_B_isRound : MethodName := ⟨R_B, "isRound", "(I)Z"⟩
abbrev b_T_addArea : ByteArray := prog_4_method_2_code
def y_T_addArea : MethodName := ⟨R_T, "addArea", "(JI)V"⟩
abbrev b_B_joined : ByteArray := prog_1_method_3_code
def y_B_joined : MethodName := ⟨R_B, "joined", "(IIZ)Z"⟩
abbrev b_B_isArea : ByteArray := prog_1_method_14_code
def y_B_isArea : MethodName := ⟨R_B, "isArea", "(I)Z"⟩
abbrev b_T_areJoined : ByteArray := prog_4_method_3_code
def y_T_areJoined : MethodName := ⟨R_T, "areJoined", "(II)Z"⟩
abbrev b_T_turnJoin : ByteArray := prog_4_method_4_code
def y_T_turnJoin : MethodName := ⟨R_T, "turnJoin", "(II)V"⟩
abbrev b_B_carrier : ByteArray := prog_1_method_4_code
def y_B_carrier : MethodName := ⟨R_B, "carrier", "(IJ)I"⟩
abbrev b_B_know : ByteArray := prog_1_method_5_code
def y_B_know : MethodName := ⟨R_B, "know", "(II)I"⟩
abbrev b_T_isKnown : ByteArray := prog_4_method_5_code
def y_T_isKnown : MethodName := ⟨R_T, "isKnown", "(II)Z"⟩
abbrev b_T_learn : ByteArray := prog_4_method_6_code
def y_T_learn : MethodName := ⟨R_T, "learn", "(II)V"⟩
abbrev b_B_solve : ByteArray := prog_1_method_6_code
def y_B_solve : MethodName := ⟨R_B, "solve", "(J)J"⟩
abbrev b_B_isForExact : ByteArray := prog_1_method_16_code
def y_B_isForExact : MethodName := ⟨R_B, "isForExact", "()Z"⟩
abbrev b_B_findLeastShare : ByteArray := prog_1_method_17_code
def y_B_findLeastShare : MethodName := ⟨R_B, "findLeastShare", "()V"⟩
abbrev b_S_beginWith : ByteArray := prog_3_method_3_code
def y_S_beginWith : MethodName := ⟨R_S, "beginWith", "([I)V"⟩
abbrev b_S_clear : ByteArray := prog_3_method_2_code
def y_S_clear : MethodName := ⟨R_S, "clear", "()V"⟩
abbrev b_S_put : ByteArray := prog_3_method_4_code
def y_S_put : MethodName := ⟨R_S, "put", "(II)V"⟩
abbrev b_T_loadIn : ByteArray := prog_4_method_7_code
def y_T_loadIn : MethodName := ⟨R_T, "loadIn", "(II)J"⟩
abbrev b_S_cost : ByteArray := prog_3_method_10_code
def y_S_cost : MethodName := ⟨R_S, "cost", "()J"⟩
abbrev b_S_allFaults : ByteArray := prog_3_method_9_code
def y_S_allFaults : MethodName := ⟨R_S, "allFaults", "()I"⟩
abbrev b_S_hangsTogether : ByteArray := prog_3_method_8_code
def y_S_hangsTogether : MethodName := ⟨R_S, "hangsTogether", "(I)Z"⟩
abbrev b_T_haveWays : ByteArray := prog_4_method_11_code
def y_T_haveWays : MethodName := ⟨R_T, "haveWays", "(II)Z"⟩
abbrev b_I_bitCount : ByteArray := prog_10_method_49_code
def y_I_bitCount : MethodName := ⟨R_I, "bitCount", "(I)I"⟩
abbrev b_S_greatestLoad : ByteArray := prog_3_method_7_code
def y_S_greatestLoad : MethodName := ⟨R_S, "greatestLoad", "()J"⟩
abbrev b_Mt_max : ByteArray := prog_11_method_66_code
def y_Mt_max : MethodName := ⟨R_Mt, "max", "(JJ)J"⟩
abbrev b_B_tryRoundsFrom : ByteArray := prog_1_method_18_code
def y_B_tryRoundsFrom : MethodName := ⟨R_B, "tryRoundsFrom", "(ILBalanceRounds$Share;LBalanceRounds$Least;)V"⟩
abbrev b_Le_keep : ByteArray := prog_2_method_2_code
def y_Le_keep : MethodName := ⟨R_Le, "keep", "(LBalanceRounds$Share;J)V"⟩
abbrev b_S_take : ByteArray := prog_3_method_5_code
def y_S_take : MethodName := ⟨R_S, "take", "(I)V"⟩
abbrev b_B_improveByMoves : ByteArray := prog_1_method_19_code
def y_B_improveByMoves : MethodName := ⟨R_B, "improveByMoves", "(J)V"⟩
abbrev b_B_otherRound : ByteArray := prog_1_method_20_code
def y_B_otherRound : MethodName := ⟨R_B, "otherRound", "(II)I"⟩
abbrev b_S_move : ByteArray := prog_3_method_6_code
def y_S_move : MethodName := ⟨R_S, "move", "(II)V"⟩
abbrev b_B_round : ByteArray := prog_1_method_7_code
def y_B_round : MethodName := ⟨R_B, "round", "(I)I"⟩
abbrev b_B_changed : ByteArray := prog_1_method_8_code
def y_B_changed : MethodName := ⟨R_B, "changed", "()I"⟩
abbrev b_B_faults : ByteArray := prog_1_method_10_code
def y_B_faults : MethodName := ⟨R_B, "faults", "()I"⟩
abbrev b_B_bound : ByteArray := prog_1_method_11_code
def y_B_bound : MethodName := ⟨R_B, "bound", "()J"⟩
abbrev b_T_roundsWithHours : ByteArray := prog_4_method_8_code
def y_T_roundsWithHours : MethodName := ⟨R_T, "roundsWithHours", "()I"⟩
abbrev b_T_lightestLoad : ByteArray := prog_4_method_9_code
def y_T_lightestLoad : MethodName := ⟨R_T, "lightestLoad", "(I)J"⟩
abbrev b_Mt_min : ByteArray := prog_11_method_70_code
def y_Mt_min : MethodName := ⟨R_Mt, "min", "(JJ)J"⟩
abbrev b_B_tooLarge : ByteArray := prog_1_method_12_code
def y_B_tooLarge : MethodName := ⟨R_B, "tooLarge", "(I)I"⟩
abbrev b_T_fitsNowhere : ByteArray := prog_4_method_10_code
def y_T_fitsNowhere : MethodName := ⟨R_T, "fitsNowhere", "(I)Z"⟩
abbrev b_B_exact : ByteArray := prog_1_method_13_code
def y_B_exact : MethodName := ⟨R_B, "exact", "()Z"⟩
abbrev b_B_together : ByteArray := prog_1_method_9_code
def y_B_together : MethodName := ⟨R_B, "together", "(I)Z"⟩
abbrev b_M_init : ByteArray := prog_6_method_1_code
def y_M_init : MethodName := ⟨R_M, "<init>", "()V"⟩
abbrev b_M_thrown : ByteArray := prog_6_method_2_code
def y_M_thrown : MethodName := ⟨R_M, "thrown", "()I"⟩
abbrev b_M_area : ByteArray := prog_6_method_6_code
def y_M_area : MethodName := ⟨R_M, "area", "(JI)I"⟩
abbrev b_M_isIn : ByteArray := prog_6_method_3_code
def y_M_isIn : MethodName := ⟨R_M, "isIn", "(JJJ)Z"⟩
abbrev b_M_changes : ByteArray := prog_6_method_5_code
def y_M_changes : MethodName := ⟨R_M, "changes", "()V"⟩
abbrev b_M_joined : ByteArray := prog_6_method_7_code
def y_M_joined : MethodName := ⟨R_M, "joined", "(IIZ)Z"⟩
abbrev b_M_isArea : ByteArray := prog_6_method_4_code
def y_M_isArea : MethodName := ⟨R_M, "isArea", "(I)Z"⟩
abbrev b_M_carrier : ByteArray := prog_6_method_8_code
def y_M_carrier : MethodName := ⟨R_M, "carrier", "(IJ)I"⟩
abbrev b_M_know : ByteArray := prog_6_method_9_code
def y_M_know : MethodName := ⟨R_M, "know", "(II)I"⟩
abbrev b_M_solve : ByteArray := prog_6_method_19_code
def y_M_solve : MethodName := ⟨R_M, "solve", "(J)J"⟩
abbrev b_M_tryAll : ByteArray := prog_6_method_17_code
def y_M_tryAll : MethodName := ⟨R_M, "tryAll", "()V"⟩
abbrev b_M_cost : ByteArray := prog_6_method_16_code
def y_M_cost : MethodName := ⟨R_M, "cost", "([I)J"⟩
abbrev b_M_faultsOf : ByteArray := prog_6_method_14_code
def y_M_faultsOf : MethodName := ⟨R_M, "faultsOf", "([I)I"⟩
abbrev b_M_roundLoad : ByteArray := prog_6_method_11_code
def y_M_roundLoad : MethodName := ⟨R_M, "roundLoad", "([II)J"⟩
abbrev b_M_loadOf : ByteArray := prog_6_method_10_code
def y_M_loadOf : MethodName := ⟨R_M, "loadOf", "(II)J"⟩
abbrev b_M_hangs : ByteArray := prog_6_method_13_code
def y_M_hangs : MethodName := ⟨R_M, "hangs", "([II)Z"⟩
abbrev b_M_greatest : ByteArray := prog_6_method_12_code
def y_M_greatest : MethodName := ⟨R_M, "greatest", "([I)J"⟩
abbrev b_M_changedIn : ByteArray := prog_6_method_15_code
def y_M_changedIn : MethodName := ⟨R_M, "changedIn", "([I)I"⟩
abbrev b_M_tryMoves : ByteArray := prog_6_method_18_code
def y_M_tryMoves : MethodName := ⟨R_M, "tryMoves", "(J)V"⟩
abbrev b_M_round : ByteArray := prog_6_method_20_code
def y_M_round : MethodName := ⟨R_M, "round", "(I)I"⟩
abbrev b_M_changed : ByteArray := prog_6_method_21_code
def y_M_changed : MethodName := ⟨R_M, "changed", "()I"⟩
abbrev b_M_together : ByteArray := prog_6_method_22_code
def y_M_together : MethodName := ⟨R_M, "together", "(I)Z"⟩
abbrev b_M_faults : ByteArray := prog_6_method_23_code
def y_M_faults : MethodName := ⟨R_M, "faults", "()I"⟩
abbrev b_M_bound : ByteArray := prog_6_method_26_code
def y_M_bound : MethodName := ⟨R_M, "bound", "()J"⟩
abbrev b_M_withHours : ByteArray := prog_6_method_25_code
def y_M_withHours : MethodName := ⟨R_M, "withHours", "()I"⟩
abbrev b_M_lightest : ByteArray := prog_6_method_24_code
def y_M_lightest : MethodName := ⟨R_M, "lightest", "(I)J"⟩
abbrev b_M_tooLarge : ByteArray := prog_6_method_27_code
def y_M_tooLarge : MethodName := ⟨R_M, "tooLarge", "(I)I"⟩
abbrev b_M_exact : ByteArray := prog_6_method_28_code
def y_M_exact : MethodName := ⟨R_M, "exact", "()Z"⟩
def bz_tb : List Cond := lw_tbl.filter goodWord
theorem bz_ti {w : Cond} (i : Nat) (h : lw_tbl[i]? = some w) (hg : goodWord w = true) : w ∈ bz_tb := List.mem_filter.mpr ⟨List.mem_of_getElem? h, hg⟩
abbrev w_B_init : List Cond := .code y_B_init b_B_init 1 none :: bz_tb
abbrev w_T_init : List Cond := .code y_T_init b_T_init 1 none :: bz_tb
abbrev w_S_init : List Cond := .code y_S_init b_S_init 2 none :: bz_tb
abbrev w_Le_init : List Cond := .code y_Le_init b_Le_init 1 none :: bz_tb
abbrev w_B_area : List Cond := .code y_B_area b_B_area 4 (some .int) :: bz_tb
abbrev w_B_isRound : List Cond := .code y_B_isRound b_B_isRound 1 (some .boolean) :: bz_tb
abbrev w_T_addArea : List Cond := .code y_T_addArea b_T_addArea 4 none :: bz_tb
abbrev w_B_joined : List Cond := .code y_B_joined b_B_joined 5 (some .boolean) :: bz_tb
abbrev w_B_isArea : List Cond := .code y_B_isArea b_B_isArea 2 (some .boolean) :: bz_tb
abbrev w_T_areJoined : List Cond := .code y_T_areJoined b_T_areJoined 3 (some .boolean) :: bz_tb
abbrev w_T_turnJoin : List Cond := .code y_T_turnJoin b_T_turnJoin 3 none :: bz_tb
abbrev w_B_carrier : List Cond := .code y_B_carrier b_B_carrier 6 (some .int) :: bz_tb
abbrev w_B_know : List Cond := .code y_B_know b_B_know 3 (some .int) :: bz_tb
abbrev w_T_isKnown : List Cond := .code y_T_isKnown b_T_isKnown 3 (some .boolean) :: bz_tb
abbrev w_T_learn : List Cond := .code y_T_learn b_T_learn 3 none :: bz_tb
abbrev w_B_solve : List Cond := .code y_B_solve b_B_solve 3 (some .long) :: bz_tb
abbrev w_B_isForExact : List Cond := .code y_B_isForExact b_B_isForExact 1 (some .boolean) :: bz_tb
abbrev w_B_findLeastShare : List Cond := .code y_B_findLeastShare b_B_findLeastShare 1 none :: bz_tb
abbrev w_S_beginWith : List Cond := .code y_S_beginWith b_S_beginWith 3 none :: bz_tb
abbrev w_S_clear : List Cond := .code y_S_clear b_S_clear 2 none :: bz_tb
abbrev w_S_put : List Cond := .code y_S_put b_S_put 3 none :: bz_tb
abbrev w_T_loadIn : List Cond := .code y_T_loadIn b_T_loadIn 3 (some .long) :: bz_tb
abbrev w_S_cost : List Cond := .code y_S_cost b_S_cost 1 (some .long) :: bz_tb
abbrev w_S_allFaults : List Cond := .code y_S_allFaults b_S_allFaults 3 (some .int) :: bz_tb
abbrev w_S_hangsTogether : List Cond := .code y_S_hangsTogether b_S_hangsTogether 2 (some .boolean) :: bz_tb
abbrev w_T_haveWays : List Cond := .code y_T_haveWays b_T_haveWays 7 (some .boolean) :: bz_tb
abbrev w_I_bitCount : List Cond := .code y_I_bitCount b_I_bitCount 1 (some .int) :: bz_tb
abbrev w_S_greatestLoad : List Cond := .code y_S_greatestLoad b_S_greatestLoad 4 (some .long) :: bz_tb
abbrev w_Mt_max : List Cond := .code y_Mt_max b_Mt_max 4 (some .long) :: bz_tb
abbrev w_B_tryRoundsFrom : List Cond := .code y_B_tryRoundsFrom b_B_tryRoundsFrom 6 none :: bz_tb
abbrev w_Le_keep : List Cond := .code y_Le_keep b_Le_keep 4 none :: bz_tb
abbrev w_S_take : List Cond := .code y_S_take b_S_take 3 none :: bz_tb
abbrev w_B_improveByMoves : List Cond := .code y_B_improveByMoves b_B_improveByMoves 13 none :: bz_tb
abbrev w_B_otherRound : List Cond := .code y_B_otherRound b_B_otherRound 2 (some .int) :: bz_tb
abbrev w_S_move : List Cond := .code y_S_move b_S_move 3 none :: bz_tb
abbrev w_B_round : List Cond := .code y_B_round b_B_round 2 (some .int) :: bz_tb
abbrev w_B_changed : List Cond := .code y_B_changed b_B_changed 1 (some .int) :: bz_tb
abbrev w_B_faults : List Cond := .code y_B_faults b_B_faults 1 (some .int) :: bz_tb
abbrev w_B_bound : List Cond := .code y_B_bound b_B_bound 9 (some .long) :: bz_tb
abbrev w_T_roundsWithHours : List Cond := .code y_T_roundsWithHours b_T_roundsWithHours 3 (some .int) :: bz_tb
abbrev w_T_lightestLoad : List Cond := .code y_T_lightestLoad b_T_lightestLoad 5 (some .long) :: bz_tb
abbrev w_Mt_min : List Cond := .code y_Mt_min b_Mt_min 4 (some .long) :: bz_tb
abbrev w_B_tooLarge : List Cond := .code y_B_tooLarge b_B_tooLarge 4 (some .int) :: bz_tb
abbrev w_T_fitsNowhere : List Cond := .code y_T_fitsNowhere b_T_fitsNowhere 3 (some .boolean) :: bz_tb
abbrev w_B_exact : List Cond := .code y_B_exact b_B_exact 1 (some .boolean) :: bz_tb
abbrev w_B_together : List Cond := .code y_B_together b_B_together 2 (some .boolean) :: bz_tb
abbrev w_M_init : List Cond := .code y_M_init b_M_init 1 none :: bz_tb
abbrev w_M_thrown : List Cond := .code y_M_thrown b_M_thrown 1 (some .int) :: bz_tb
abbrev w_M_area : List Cond := .code y_M_area b_M_area 4 (some .int) :: bz_tb
abbrev w_M_isIn : List Cond := .code y_M_isIn b_M_isIn 6 (some .boolean) :: bz_tb
abbrev w_M_changes : List Cond := .code y_M_changes b_M_changes 1 none :: bz_tb
abbrev w_M_joined : List Cond := .code y_M_joined b_M_joined 4 (some .boolean) :: bz_tb
abbrev w_M_isArea : List Cond := .code y_M_isArea b_M_isArea 2 (some .boolean) :: bz_tb
abbrev w_M_carrier : List Cond := .code y_M_carrier b_M_carrier 6 (some .int) :: bz_tb
abbrev w_M_know : List Cond := .code y_M_know b_M_know 4 (some .int) :: bz_tb
abbrev w_M_solve : List Cond := .code y_M_solve b_M_solve 3 (some .long) :: bz_tb
abbrev w_M_tryAll : List Cond := .code y_M_tryAll b_M_tryAll 9 none :: bz_tb
abbrev w_M_cost : List Cond := .code y_M_cost b_M_cost 2 (some .long) :: bz_tb
abbrev w_M_faultsOf : List Cond := .code y_M_faultsOf b_M_faultsOf 4 (some .int) :: bz_tb
abbrev w_M_roundLoad : List Cond := .code y_M_roundLoad b_M_roundLoad 6 (some .long) :: bz_tb
abbrev w_M_loadOf : List Cond := .code y_M_loadOf b_M_loadOf 5 (some .long) :: bz_tb
abbrev w_M_hangs : List Cond := .code y_M_hangs b_M_hangs 7 (some .boolean) :: bz_tb
abbrev w_M_greatest : List Cond := .code y_M_greatest b_M_greatest 7 (some .long) :: bz_tb
abbrev w_M_changedIn : List Cond := .code y_M_changedIn b_M_changedIn 4 (some .int) :: bz_tb
abbrev w_M_tryMoves : List Cond := .code y_M_tryMoves b_M_tryMoves 13 none :: bz_tb
abbrev w_M_round : List Cond := .code y_M_round b_M_round 2 (some .int) :: bz_tb
abbrev w_M_changed : List Cond := .code y_M_changed b_M_changed 1 (some .int) :: bz_tb
abbrev w_M_together : List Cond := .code y_M_together b_M_together 2 (some .boolean) :: bz_tb
abbrev w_M_faults : List Cond := .code y_M_faults b_M_faults 1 (some .int) :: bz_tb
abbrev w_M_bound : List Cond := .code y_M_bound b_M_bound 9 (some .long) :: bz_tb
abbrev w_M_withHours : List Cond := .code y_M_withHours b_M_withHours 3 (some .int) :: bz_tb
abbrev w_M_lightest : List Cond := .code y_M_lightest b_M_lightest 5 (some .long) :: bz_tb
abbrev w_M_tooLarge : List Cond := .code y_M_tooLarge b_M_tooLarge 6 (some .int) :: bz_tb
abbrev w_M_exact : List Cond := .code y_M_exact b_M_exact 1 (some .boolean) :: bz_tb
theorem wd_0 : Cond.selects R_B y_B_isArea y_B_isArea ∈ bz_tb := bz_ti 0 (by decide +kernel) (by decide +kernel)
theorem wd_1 : Cond.selects R_B y_B_isForExact y_B_isForExact ∈ bz_tb := bz_ti 1 (by decide +kernel) (by decide +kernel)
theorem wd_2 : Cond.selects R_B y_B_findLeastShare y_B_findLeastShare ∈ bz_tb := bz_ti 2 (by decide +kernel) (by decide +kernel)
theorem wd_3 : Cond.selects R_B y_B_improveByMoves y_B_improveByMoves ∈ bz_tb := bz_ti 3 (by decide +kernel) (by decide +kernel)
theorem wd_5 : Cond.selects R_M y_M_changes y_M_changes ∈ bz_tb := bz_ti 5 (by decide +kernel) (by decide +kernel)
theorem wd_6 : Cond.selects R_M y_M_isArea y_M_isArea ∈ bz_tb := bz_ti 6 (by decide +kernel) (by decide +kernel)
theorem wd_7 : Cond.selects R_M y_M_tryAll y_M_tryAll ∈ bz_tb := bz_ti 7 (by decide +kernel) (by decide +kernel)
theorem wd_8 : Cond.selects R_M y_M_cost y_M_cost ∈ bz_tb := bz_ti 8 (by decide +kernel) (by decide +kernel)
theorem wd_9 : Cond.selects R_M y_M_faultsOf y_M_faultsOf ∈ bz_tb := bz_ti 9 (by decide +kernel) (by decide +kernel)
theorem wd_10 : Cond.selects R_M y_M_roundLoad y_M_roundLoad ∈ bz_tb := bz_ti 10 (by decide +kernel) (by decide +kernel)
theorem wd_11 : Cond.selects R_M y_M_loadOf y_M_loadOf ∈ bz_tb := bz_ti 11 (by decide +kernel) (by decide +kernel)
theorem wd_12 : Cond.selects R_M y_M_hangs y_M_hangs ∈ bz_tb := bz_ti 12 (by decide +kernel) (by decide +kernel)
theorem wd_13 : Cond.selects R_M y_M_greatest y_M_greatest ∈ bz_tb := bz_ti 13 (by decide +kernel) (by decide +kernel)
theorem wd_14 : Cond.selects R_M y_M_changedIn y_M_changedIn ∈ bz_tb := bz_ti 14 (by decide +kernel) (by decide +kernel)
theorem wd_15 : Cond.selects R_M y_M_tryMoves y_M_tryMoves ∈ bz_tb := bz_ti 15 (by decide +kernel) (by decide +kernel)
theorem wd_16 : Cond.selects R_M y_M_withHours y_M_withHours ∈ bz_tb := bz_ti 16 (by decide +kernel) (by decide +kernel)
theorem wd_17 : Cond.selects R_M y_M_lightest y_M_lightest ∈ bz_tb := bz_ti 17 (by decide +kernel) (by decide +kernel)
theorem wd_18 : Cond.initialized R_L ∈ bz_tb := bz_ti 18 (by decide +kernel) (by decide +kernel)
theorem wd_19 : Cond.initialized R_B ∈ bz_tb := bz_ti 19 (by decide +kernel) (by decide +kernel)
theorem wd_20 : Cond.initialized R_T ∈ bz_tb := bz_ti 20 (by decide +kernel) (by decide +kernel)
theorem wd_21 : Cond.initialized R_S ∈ bz_tb := bz_ti 21 (by decide +kernel) (by decide +kernel)
theorem wd_22 : Cond.initialized R_Le ∈ bz_tb := bz_ti 22 (by decide +kernel) (by decide +kernel)
theorem wd_23 : Cond.initialized R_M ∈ bz_tb := bz_ti 23 (by decide +kernel) (by decide +kernel)
theorem wd_24 : Cond.initialized R_I ∈ bz_tb := bz_ti 24 (by decide +kernel) (by decide +kernel)
theorem wd_25 : Cond.initialized R_Mt ∈ bz_tb := bz_ti 25 (by decide +kernel) (by decide +kernel)
theorem wd_26 : Cond.initialized R_Sy ∈ bz_tb := bz_ti 26 (by decide +kernel) (by decide +kernel)
theorem wd_32 : Cond.classLink R_L 8 R_B ∈ bz_tb := bz_ti 32 (by decide +kernel) (by decide +kernel)
theorem wd_33 : Cond.instantiable R_B 4 ∈ bz_tb := bz_ti 33 (by decide +kernel) (by decide +kernel)
theorem wd_34 : Cond.methodLink R_L 17 y_B_init ∈ bz_tb := bz_ti 34 (by decide +kernel) (by decide +kernel)
theorem wd_35 : Cond.instanceMethod y_B_init ∈ bz_tb := bz_ti 35 (by decide +kernel) (by decide +kernel)
theorem wd_36 : Cond.code y_B_init b_B_init 1 none ∈ bz_tb := bz_ti 36 (by decide +kernel) (by decide +kernel)
theorem wd_37 : Cond.methodLink R_B 3 ⟨"java/lang/Object", "<init>", "()V"⟩ ∈ bz_tb := bz_ti 37 (by decide +kernel) (by decide +kernel)
theorem wd_38 : Cond.instanceMethod ⟨"java/lang/Object", "<init>", "()V"⟩ ∈ bz_tb := bz_ti 38 (by decide +kernel) (by decide +kernel)
theorem wd_39 : Cond.code ⟨"java/lang/Object", "<init>", "()V"⟩ object_method_1_code 1 none ∈ bz_tb := bz_ti 39 (by decide +kernel) (by decide +kernel)
theorem wd_40 : Cond.classLink R_B 9 R_T ∈ bz_tb := bz_ti 40 (by decide +kernel) (by decide +kernel)
theorem wd_41 : Cond.instantiable R_T 6 ∈ bz_tb := bz_ti 41 (by decide +kernel) (by decide +kernel)
theorem wd_43 : Cond.instanceMethod y_T_init ∈ bz_tb := bz_ti 43 (by decide +kernel) (by decide +kernel)
theorem wd_44 : Cond.code y_T_init b_T_init 1 none ∈ bz_tb := bz_ti 44 (by decide +kernel) (by decide +kernel)
theorem wd_45 : Cond.methodLink R_T 3 ⟨"java/lang/Object", "<init>", "()V"⟩ ∈ bz_tb := bz_ti 45 (by decide +kernel) (by decide +kernel)
theorem wd_46 : Cond.fieldLink R_T 9 R_T "loads" "[J" ∈ bz_tb := bz_ti 46 (by decide +kernel) (by decide +kernel)
theorem wd_47 : Cond.fieldLink R_T 15 R_T "todays" "[I" ∈ bz_tb := bz_ti 47 (by decide +kernel) (by decide +kernel)
theorem wd_50 : Cond.fieldLink R_T 19 R_T "neighbours" "[I" ∈ bz_tb := bz_ti 50 (by decide +kernel) (by decide +kernel)
theorem wd_51 : Cond.fieldLink R_T 22 R_T "known" "[I" ∈ bz_tb := bz_ti 51 (by decide +kernel) (by decide +kernel)
theorem wd_52 : Cond.fieldLink R_T 25 R_T "hours" "[J" ∈ bz_tb := bz_ti 52 (by decide +kernel) (by decide +kernel)
theorem wd_55 : Cond.fieldLink R_T 28 R_T "count" "I" ∈ bz_tb := bz_ti 55 (by decide +kernel) (by decide +kernel)
theorem wd_58 : Cond.laysFinal R_T R_T "loads" "[J" ∈ bz_tb := bz_ti 58 (by decide +kernel) (by decide +kernel)
theorem wd_59 : Cond.soleField R_T "loads" ∈ bz_tb := bz_ti 59 (by decide +kernel) (by decide +kernel)
theorem wd_60 : Cond.laysFinal R_T R_T "todays" "[I" ∈ bz_tb := bz_ti 60 (by decide +kernel) (by decide +kernel)
theorem wd_61 : Cond.soleField R_T "todays" ∈ bz_tb := bz_ti 61 (by decide +kernel) (by decide +kernel)
theorem wd_62 : Cond.laysFinal R_T R_T "neighbours" "[I" ∈ bz_tb := bz_ti 62 (by decide +kernel) (by decide +kernel)
theorem wd_63 : Cond.soleField R_T "neighbours" ∈ bz_tb := bz_ti 63 (by decide +kernel) (by decide +kernel)
theorem wd_64 : Cond.laysFinal R_T R_T "known" "[I" ∈ bz_tb := bz_ti 64 (by decide +kernel) (by decide +kernel)
theorem wd_65 : Cond.soleField R_T "known" ∈ bz_tb := bz_ti 65 (by decide +kernel) (by decide +kernel)
theorem wd_66 : Cond.laysFinal R_T R_T "hours" "[J" ∈ bz_tb := bz_ti 66 (by decide +kernel) (by decide +kernel)
theorem wd_67 : Cond.soleField R_T "hours" ∈ bz_tb := bz_ti 67 (by decide +kernel) (by decide +kernel)
theorem wd_68 : Cond.lays R_T R_T "count" "I" ∈ bz_tb := bz_ti 68 (by decide +kernel) (by decide +kernel)
theorem wd_69 : Cond.soleField R_T "count" ∈ bz_tb := bz_ti 69 (by decide +kernel) (by decide +kernel)
theorem wd_71 : Cond.arrayClass .long ∈ bz_tb := bz_ti 71 (by decide +kernel) (by decide +kernel)
theorem wd_72 : Cond.arrayClass .int ∈ bz_tb := bz_ti 72 (by decide +kernel) (by decide +kernel)
theorem wd_73 : Cond.classLink R_B 16 R_S ∈ bz_tb := bz_ti 73 (by decide +kernel) (by decide +kernel)
theorem wd_74 : Cond.instantiable R_S 6 ∈ bz_tb := bz_ti 74 (by decide +kernel) (by decide +kernel)
theorem wd_75 : Cond.methodLink R_B 18 y_S_init ∈ bz_tb := bz_ti 75 (by decide +kernel) (by decide +kernel)
theorem wd_76 : Cond.instanceMethod y_S_init ∈ bz_tb := bz_ti 76 (by decide +kernel) (by decide +kernel)
theorem wd_77 : Cond.code y_S_init b_S_init 2 none ∈ bz_tb := bz_ti 77 (by decide +kernel) (by decide +kernel)
theorem wd_78 : Cond.methodLink R_S 3 ⟨"java/lang/Object", "<init>", "()V"⟩ ∈ bz_tb := bz_ti 78 (by decide +kernel) (by decide +kernel)
theorem wd_79 : Cond.fieldLink R_S 29 R_S "town" "LBalanceRounds$Town;" ∈ bz_tb := bz_ti 79 (by decide +kernel) (by decide +kernel)
theorem wd_81 : Cond.fieldLink R_S 9 R_S "roundOf" "[I" ∈ bz_tb := bz_ti 81 (by decide +kernel) (by decide +kernel)
theorem wd_84 : Cond.fieldLink R_S 15 R_S "areasIn" "[I" ∈ bz_tb := bz_ti 84 (by decide +kernel) (by decide +kernel)
theorem wd_85 : Cond.fieldLink R_S 18 R_S "loadOf" "[J" ∈ bz_tb := bz_ti 85 (by decide +kernel) (by decide +kernel)
theorem wd_86 : Cond.fieldLink R_S 22 R_S "open" "I" ∈ bz_tb := bz_ti 86 (by decide +kernel) (by decide +kernel)
theorem wd_87 : Cond.fieldLink R_S 26 R_S "changes" "I" ∈ bz_tb := bz_ti 87 (by decide +kernel) (by decide +kernel)
theorem wd_89 : Cond.laysFinal R_S R_S "town" "LBalanceRounds$Town;" ∈ bz_tb := bz_ti 89 (by decide +kernel) (by decide +kernel)
theorem wd_90 : Cond.soleField R_S "town" ∈ bz_tb := bz_ti 90 (by decide +kernel) (by decide +kernel)
theorem wd_91 : Cond.laysFinal R_S R_S "roundOf" "[I" ∈ bz_tb := bz_ti 91 (by decide +kernel) (by decide +kernel)
theorem wd_92 : Cond.soleField R_S "roundOf" ∈ bz_tb := bz_ti 92 (by decide +kernel) (by decide +kernel)
theorem wd_93 : Cond.laysFinal R_S R_S "areasIn" "[I" ∈ bz_tb := bz_ti 93 (by decide +kernel) (by decide +kernel)
theorem wd_94 : Cond.soleField R_S "areasIn" ∈ bz_tb := bz_ti 94 (by decide +kernel) (by decide +kernel)
theorem wd_95 : Cond.laysFinal R_S R_S "loadOf" "[J" ∈ bz_tb := bz_ti 95 (by decide +kernel) (by decide +kernel)
theorem wd_96 : Cond.soleField R_S "loadOf" ∈ bz_tb := bz_ti 96 (by decide +kernel) (by decide +kernel)
theorem wd_97 : Cond.lays R_S R_S "open" "I" ∈ bz_tb := bz_ti 97 (by decide +kernel) (by decide +kernel)
theorem wd_98 : Cond.soleField R_S "open" ∈ bz_tb := bz_ti 98 (by decide +kernel) (by decide +kernel)
theorem wd_99 : Cond.lays R_S R_S "changes" "I" ∈ bz_tb := bz_ti 99 (by decide +kernel) (by decide +kernel)
theorem wd_100 : Cond.soleField R_S "changes" ∈ bz_tb := bz_ti 100 (by decide +kernel) (by decide +kernel)
theorem wd_102 : Cond.classLink R_B 25 R_Le ∈ bz_tb := bz_ti 102 (by decide +kernel) (by decide +kernel)
theorem wd_103 : Cond.instantiable R_Le 2 ∈ bz_tb := bz_ti 103 (by decide +kernel) (by decide +kernel)
theorem wd_105 : Cond.instanceMethod y_Le_init ∈ bz_tb := bz_ti 105 (by decide +kernel) (by decide +kernel)
theorem wd_106 : Cond.code y_Le_init b_Le_init 1 none ∈ bz_tb := bz_ti 106 (by decide +kernel) (by decide +kernel)
theorem wd_107 : Cond.methodLink R_Le 3 ⟨"java/lang/Object", "<init>", "()V"⟩ ∈ bz_tb := bz_ti 107 (by decide +kernel) (by decide +kernel)
theorem wd_108 : Cond.fieldLink R_Le 9 R_Le "row" "[I" ∈ bz_tb := bz_ti 108 (by decide +kernel) (by decide +kernel)
theorem wd_110 : Cond.fieldLink R_Le 15 R_Le "cost" "J" ∈ bz_tb := bz_ti 110 (by decide +kernel) (by decide +kernel)
theorem wd_112 : Cond.laysFinal R_Le R_Le "row" "[I" ∈ bz_tb := bz_ti 112 (by decide +kernel) (by decide +kernel)
theorem wd_113 : Cond.soleField R_Le "row" ∈ bz_tb := bz_ti 113 (by decide +kernel) (by decide +kernel)
theorem wd_114 : Cond.lays R_Le R_Le "cost" "J" ∈ bz_tb := bz_ti 114 (by decide +kernel) (by decide +kernel)
theorem wd_115 : Cond.soleField R_Le "cost" ∈ bz_tb := bz_ti 115 (by decide +kernel) (by decide +kernel)
theorem wd_117 : Cond.fieldLink R_B 12 R_B "town" "LBalanceRounds$Town;" ∈ bz_tb := bz_ti 117 (by decide +kernel) (by decide +kernel)
theorem wd_118 : Cond.fieldLink R_B 21 R_B "share" "LBalanceRounds$Share;" ∈ bz_tb := bz_ti 118 (by decide +kernel) (by decide +kernel)
theorem wd_119 : Cond.fieldLink R_B 28 R_B "least" "LBalanceRounds$Least;" ∈ bz_tb := bz_ti 119 (by decide +kernel) (by decide +kernel)
theorem wd_120 : Cond.fieldLink R_B 32 R_B "solved" "Z" ∈ bz_tb := bz_ti 120 (by decide +kernel) (by decide +kernel)
theorem wd_121 : Cond.laysFinal R_B R_B "town" "LBalanceRounds$Town;" ∈ bz_tb := bz_ti 121 (by decide +kernel) (by decide +kernel)
theorem wd_122 : Cond.soleField R_B "town" ∈ bz_tb := bz_ti 122 (by decide +kernel) (by decide +kernel)
theorem wd_123 : Cond.laysFinal R_B R_B "share" "LBalanceRounds$Share;" ∈ bz_tb := bz_ti 123 (by decide +kernel) (by decide +kernel)
theorem wd_124 : Cond.soleField R_B "share" ∈ bz_tb := bz_ti 124 (by decide +kernel) (by decide +kernel)
theorem wd_125 : Cond.laysFinal R_B R_B "least" "LBalanceRounds$Least;" ∈ bz_tb := bz_ti 125 (by decide +kernel) (by decide +kernel)
theorem wd_126 : Cond.soleField R_B "least" ∈ bz_tb := bz_ti 126 (by decide +kernel) (by decide +kernel)
theorem wd_127 : Cond.lays R_B R_B "solved" "Z" ∈ bz_tb := bz_ti 127 (by decide +kernel) (by decide +kernel)
theorem wd_128 : Cond.soleField R_B "solved" ∈ bz_tb := bz_ti 128 (by decide +kernel) (by decide +kernel)
theorem wd_130 : Cond.methodLink R_L 23 y_B_area ∈ bz_tb := bz_ti 130 (by decide +kernel) (by decide +kernel)
theorem wd_131 : Cond.instanceMethod y_B_area ∈ bz_tb := bz_ti 131 (by decide +kernel) (by decide +kernel)
theorem wd_132 : Cond.selects R_B y_B_area y_B_area ∈ bz_tb := bz_ti 132 (by decide +kernel) (by decide +kernel)
theorem wd_133 : Cond.code y_B_area b_B_area 4 (some .int) ∈ bz_tb := bz_ti 133 (by decide +kernel) (by decide +kernel)
theorem wd_134 : Cond.constantLong R_B 36 1000000 ∈ bz_tb := bz_ti 134 (by decide +kernel) (by decide +kernel)
theorem wd_135 : Cond.methodLink R_B 38 y_B_isRound ∈ bz_tb := bz_ti 135 (by decide +kernel) (by decide +kernel)
theorem wd_136 : Cond.static y_B_isRound ∈ bz_tb := bz_ti 136 (by decide +kernel) (by decide +kernel)
theorem wd_137 : Cond.code y_B_isRound b_B_isRound 1 (some .boolean) ∈ bz_tb := bz_ti 137 (by decide +kernel) (by decide +kernel)
theorem wd_138 : Cond.methodLink R_B 46 y_T_addArea ∈ bz_tb := bz_ti 138 (by decide +kernel) (by decide +kernel)
theorem wd_139 : Cond.instanceMethod y_T_addArea ∈ bz_tb := bz_ti 139 (by decide +kernel) (by decide +kernel)
theorem wd_140 : Cond.selects R_T y_T_addArea y_T_addArea ∈ bz_tb := bz_ti 140 (by decide +kernel) (by decide +kernel)
theorem wd_141 : Cond.code y_T_addArea b_T_addArea 4 none ∈ bz_tb := bz_ti 141 (by decide +kernel) (by decide +kernel)
theorem wd_142 : Cond.methodLink R_L 28 y_B_joined ∈ bz_tb := bz_ti 142 (by decide +kernel) (by decide +kernel)
theorem wd_143 : Cond.instanceMethod y_B_joined ∈ bz_tb := bz_ti 143 (by decide +kernel) (by decide +kernel)
theorem wd_144 : Cond.selects R_B y_B_joined y_B_joined ∈ bz_tb := bz_ti 144 (by decide +kernel) (by decide +kernel)
theorem wd_145 : Cond.code y_B_joined b_B_joined 5 (some .boolean) ∈ bz_tb := bz_ti 145 (by decide +kernel) (by decide +kernel)
theorem wd_146 : Cond.methodLink R_B 50 y_B_isArea ∈ bz_tb := bz_ti 146 (by decide +kernel) (by decide +kernel)
theorem wd_148 : Cond.instanceMethod y_B_isArea ∈ bz_tb := bz_ti 148 (by decide +kernel) (by decide +kernel)
theorem wd_149 : Cond.code y_B_isArea b_B_isArea 2 (some .boolean) ∈ bz_tb := bz_ti 149 (by decide +kernel) (by decide +kernel)
theorem wd_150 : Cond.methodLink R_B 53 y_T_areJoined ∈ bz_tb := bz_ti 150 (by decide +kernel) (by decide +kernel)
theorem wd_151 : Cond.instanceMethod y_T_areJoined ∈ bz_tb := bz_ti 151 (by decide +kernel) (by decide +kernel)
theorem wd_152 : Cond.selects R_T y_T_areJoined y_T_areJoined ∈ bz_tb := bz_ti 152 (by decide +kernel) (by decide +kernel)
theorem wd_153 : Cond.code y_T_areJoined b_T_areJoined 3 (some .boolean) ∈ bz_tb := bz_ti 153 (by decide +kernel) (by decide +kernel)
theorem wd_154 : Cond.methodLink R_B 57 y_T_turnJoin ∈ bz_tb := bz_ti 154 (by decide +kernel) (by decide +kernel)
theorem wd_155 : Cond.instanceMethod y_T_turnJoin ∈ bz_tb := bz_ti 155 (by decide +kernel) (by decide +kernel)
theorem wd_156 : Cond.selects R_T y_T_turnJoin y_T_turnJoin ∈ bz_tb := bz_ti 156 (by decide +kernel) (by decide +kernel)
theorem wd_157 : Cond.code y_T_turnJoin b_T_turnJoin 3 none ∈ bz_tb := bz_ti 157 (by decide +kernel) (by decide +kernel)
theorem wd_158 : Cond.methodLink R_L 33 y_B_carrier ∈ bz_tb := bz_ti 158 (by decide +kernel) (by decide +kernel)
theorem wd_159 : Cond.instanceMethod y_B_carrier ∈ bz_tb := bz_ti 159 (by decide +kernel) (by decide +kernel)
theorem wd_160 : Cond.selects R_B y_B_carrier y_B_carrier ∈ bz_tb := bz_ti 160 (by decide +kernel) (by decide +kernel)
theorem wd_161 : Cond.code y_B_carrier b_B_carrier 6 (some .int) ∈ bz_tb := bz_ti 161 (by decide +kernel) (by decide +kernel)
theorem wd_162 : Cond.constantLong R_B 61 1000000000 ∈ bz_tb := bz_ti 162 (by decide +kernel) (by decide +kernel)
theorem wd_163 : Cond.methodLink R_L 38 y_B_know ∈ bz_tb := bz_ti 163 (by decide +kernel) (by decide +kernel)
theorem wd_164 : Cond.instanceMethod y_B_know ∈ bz_tb := bz_ti 164 (by decide +kernel) (by decide +kernel)
theorem wd_165 : Cond.selects R_B y_B_know y_B_know ∈ bz_tb := bz_ti 165 (by decide +kernel) (by decide +kernel)
theorem wd_166 : Cond.code y_B_know b_B_know 3 (some .int) ∈ bz_tb := bz_ti 166 (by decide +kernel) (by decide +kernel)
theorem wd_167 : Cond.methodLink R_B 67 y_T_isKnown ∈ bz_tb := bz_ti 167 (by decide +kernel) (by decide +kernel)
theorem wd_168 : Cond.instanceMethod y_T_isKnown ∈ bz_tb := bz_ti 168 (by decide +kernel) (by decide +kernel)
theorem wd_169 : Cond.selects R_T y_T_isKnown y_T_isKnown ∈ bz_tb := bz_ti 169 (by decide +kernel) (by decide +kernel)
theorem wd_170 : Cond.code y_T_isKnown b_T_isKnown 3 (some .boolean) ∈ bz_tb := bz_ti 170 (by decide +kernel) (by decide +kernel)
theorem wd_171 : Cond.methodLink R_B 70 y_T_learn ∈ bz_tb := bz_ti 171 (by decide +kernel) (by decide +kernel)
theorem wd_172 : Cond.instanceMethod y_T_learn ∈ bz_tb := bz_ti 172 (by decide +kernel) (by decide +kernel)
theorem wd_173 : Cond.selects R_T y_T_learn y_T_learn ∈ bz_tb := bz_ti 173 (by decide +kernel) (by decide +kernel)
theorem wd_174 : Cond.code y_T_learn b_T_learn 3 none ∈ bz_tb := bz_ti 174 (by decide +kernel) (by decide +kernel)
theorem wd_175 : Cond.methodLink R_L 43 y_B_solve ∈ bz_tb := bz_ti 175 (by decide +kernel) (by decide +kernel)
theorem wd_176 : Cond.instanceMethod y_B_solve ∈ bz_tb := bz_ti 176 (by decide +kernel) (by decide +kernel)
theorem wd_177 : Cond.selects R_B y_B_solve y_B_solve ∈ bz_tb := bz_ti 177 (by decide +kernel) (by decide +kernel)
theorem wd_178 : Cond.code y_B_solve b_B_solve 3 (some .long) ∈ bz_tb := bz_ti 178 (by decide +kernel) (by decide +kernel)
theorem wd_179 : Cond.constantLong R_B 73 100000 ∈ bz_tb := bz_ti 179 (by decide +kernel) (by decide +kernel)
theorem wd_180 : Cond.constantLong R_B 75 (-12) ∈ bz_tb := bz_ti 180 (by decide +kernel) (by decide +kernel)
theorem wd_181 : Cond.methodLink R_B 77 y_B_isForExact ∈ bz_tb := bz_ti 181 (by decide +kernel) (by decide +kernel)
theorem wd_183 : Cond.instanceMethod y_B_isForExact ∈ bz_tb := bz_ti 183 (by decide +kernel) (by decide +kernel)
theorem wd_184 : Cond.code y_B_isForExact b_B_isForExact 1 (some .boolean) ∈ bz_tb := bz_ti 184 (by decide +kernel) (by decide +kernel)
theorem wd_185 : Cond.methodLink R_B 81 y_B_findLeastShare ∈ bz_tb := bz_ti 185 (by decide +kernel) (by decide +kernel)
theorem wd_187 : Cond.instanceMethod y_B_findLeastShare ∈ bz_tb := bz_ti 187 (by decide +kernel) (by decide +kernel)
theorem wd_188 : Cond.code y_B_findLeastShare b_B_findLeastShare 1 none ∈ bz_tb := bz_ti 188 (by decide +kernel) (by decide +kernel)
theorem wd_189 : Cond.methodLink R_B 139 y_S_beginWith ∈ bz_tb := bz_ti 189 (by decide +kernel) (by decide +kernel)
theorem wd_190 : Cond.instanceMethod y_S_beginWith ∈ bz_tb := bz_ti 190 (by decide +kernel) (by decide +kernel)
theorem wd_191 : Cond.selects R_S y_S_beginWith y_S_beginWith ∈ bz_tb := bz_ti 191 (by decide +kernel) (by decide +kernel)
theorem wd_192 : Cond.code y_S_beginWith b_S_beginWith 3 none ∈ bz_tb := bz_ti 192 (by decide +kernel) (by decide +kernel)
theorem wd_193 : Cond.methodLink R_S 38 y_S_clear ∈ bz_tb := bz_ti 193 (by decide +kernel) (by decide +kernel)
theorem wd_194 : Cond.instanceMethod y_S_clear ∈ bz_tb := bz_ti 194 (by decide +kernel) (by decide +kernel)
theorem wd_195 : Cond.selects R_S y_S_clear y_S_clear ∈ bz_tb := bz_ti 195 (by decide +kernel) (by decide +kernel)
theorem wd_196 : Cond.code y_S_clear b_S_clear 2 none ∈ bz_tb := bz_ti 196 (by decide +kernel) (by decide +kernel)
theorem wd_197 : Cond.methodLink R_S 41 y_S_put ∈ bz_tb := bz_ti 197 (by decide +kernel) (by decide +kernel)
theorem wd_198 : Cond.instanceMethod y_S_put ∈ bz_tb := bz_ti 198 (by decide +kernel) (by decide +kernel)
theorem wd_199 : Cond.selects R_S y_S_put y_S_put ∈ bz_tb := bz_ti 199 (by decide +kernel) (by decide +kernel)
theorem wd_200 : Cond.code y_S_put b_S_put 3 none ∈ bz_tb := bz_ti 200 (by decide +kernel) (by decide +kernel)
theorem wd_201 : Cond.methodLink R_S 45 y_T_loadIn ∈ bz_tb := bz_ti 201 (by decide +kernel) (by decide +kernel)
theorem wd_202 : Cond.instanceMethod y_T_loadIn ∈ bz_tb := bz_ti 202 (by decide +kernel) (by decide +kernel)
theorem wd_203 : Cond.selects R_T y_T_loadIn y_T_loadIn ∈ bz_tb := bz_ti 203 (by decide +kernel) (by decide +kernel)
theorem wd_204 : Cond.code y_T_loadIn b_T_loadIn 3 (some .long) ∈ bz_tb := bz_ti 204 (by decide +kernel) (by decide +kernel)
theorem wd_205 : Cond.methodLink R_T 32 y_T_isKnown ∈ bz_tb := bz_ti 205 (by decide +kernel) (by decide +kernel)
theorem wd_206 : Cond.constantLong R_T 36 9 ∈ bz_tb := bz_ti 206 (by decide +kernel) (by decide +kernel)
theorem wd_207 : Cond.constantLong R_T 38 10 ∈ bz_tb := bz_ti 207 (by decide +kernel) (by decide +kernel)
theorem wd_208 : Cond.methodLink R_B 143 y_S_cost ∈ bz_tb := bz_ti 208 (by decide +kernel) (by decide +kernel)
theorem wd_209 : Cond.instanceMethod y_S_cost ∈ bz_tb := bz_ti 209 (by decide +kernel) (by decide +kernel)
theorem wd_210 : Cond.selects R_S y_S_cost y_S_cost ∈ bz_tb := bz_ti 210 (by decide +kernel) (by decide +kernel)
theorem wd_211 : Cond.code y_S_cost b_S_cost 1 (some .long) ∈ bz_tb := bz_ti 211 (by decide +kernel) (by decide +kernel)
theorem wd_212 : Cond.constantLong R_S 79 1000000000000 ∈ bz_tb := bz_ti 212 (by decide +kernel) (by decide +kernel)
theorem wd_213 : Cond.methodLink R_S 81 y_S_allFaults ∈ bz_tb := bz_ti 213 (by decide +kernel) (by decide +kernel)
theorem wd_214 : Cond.instanceMethod y_S_allFaults ∈ bz_tb := bz_ti 214 (by decide +kernel) (by decide +kernel)
theorem wd_215 : Cond.selects R_S y_S_allFaults y_S_allFaults ∈ bz_tb := bz_ti 215 (by decide +kernel) (by decide +kernel)
theorem wd_216 : Cond.code y_S_allFaults b_S_allFaults 3 (some .int) ∈ bz_tb := bz_ti 216 (by decide +kernel) (by decide +kernel)
theorem wd_217 : Cond.methodLink R_S 66 y_S_hangsTogether ∈ bz_tb := bz_ti 217 (by decide +kernel) (by decide +kernel)
theorem wd_218 : Cond.instanceMethod y_S_hangsTogether ∈ bz_tb := bz_ti 218 (by decide +kernel) (by decide +kernel)
theorem wd_219 : Cond.selects R_S y_S_hangsTogether y_S_hangsTogether ∈ bz_tb := bz_ti 219 (by decide +kernel) (by decide +kernel)
theorem wd_220 : Cond.code y_S_hangsTogether b_S_hangsTogether 2 (some .boolean) ∈ bz_tb := bz_ti 220 (by decide +kernel) (by decide +kernel)
theorem wd_221 : Cond.methodLink R_S 62 y_T_haveWays ∈ bz_tb := bz_ti 221 (by decide +kernel) (by decide +kernel)
theorem wd_222 : Cond.instanceMethod y_T_haveWays ∈ bz_tb := bz_ti 222 (by decide +kernel) (by decide +kernel)
theorem wd_223 : Cond.selects R_T y_T_haveWays y_T_haveWays ∈ bz_tb := bz_ti 223 (by decide +kernel) (by decide +kernel)
theorem wd_224 : Cond.code y_T_haveWays b_T_haveWays 7 (some .boolean) ∈ bz_tb := bz_ti 224 (by decide +kernel) (by decide +kernel)
theorem wd_225 : Cond.methodLink R_S 73 y_I_bitCount ∈ bz_tb := bz_ti 225 (by decide +kernel) (by decide +kernel)
theorem wd_226 : Cond.static y_I_bitCount ∈ bz_tb := bz_ti 226 (by decide +kernel) (by decide +kernel)
theorem wd_227 : Cond.code y_I_bitCount b_I_bitCount 1 (some .int) ∈ bz_tb := bz_ti 227 (by decide +kernel) (by decide +kernel)
theorem wd_228 : Cond.constant R_I 265 1431655765 ∈ bz_tb := bz_ti 228 (by decide +kernel) (by decide +kernel)
theorem wd_229 : Cond.constant R_I 266 858993459 ∈ bz_tb := bz_ti 229 (by decide +kernel) (by decide +kernel)
theorem wd_230 : Cond.constant R_I 267 252645135 ∈ bz_tb := bz_ti 230 (by decide +kernel) (by decide +kernel)
theorem wd_231 : Cond.constantLong R_S 85 100 ∈ bz_tb := bz_ti 231 (by decide +kernel) (by decide +kernel)
theorem wd_232 : Cond.methodLink R_S 87 y_S_greatestLoad ∈ bz_tb := bz_ti 232 (by decide +kernel) (by decide +kernel)
theorem wd_233 : Cond.instanceMethod y_S_greatestLoad ∈ bz_tb := bz_ti 233 (by decide +kernel) (by decide +kernel)
theorem wd_234 : Cond.selects R_S y_S_greatestLoad y_S_greatestLoad ∈ bz_tb := bz_ti 234 (by decide +kernel) (by decide +kernel)
theorem wd_235 : Cond.code y_S_greatestLoad b_S_greatestLoad 4 (some .long) ∈ bz_tb := bz_ti 235 (by decide +kernel) (by decide +kernel)
theorem wd_236 : Cond.methodLink R_S 56 y_Mt_max ∈ bz_tb := bz_ti 236 (by decide +kernel) (by decide +kernel)
theorem wd_237 : Cond.static y_Mt_max ∈ bz_tb := bz_ti 237 (by decide +kernel) (by decide +kernel)
theorem wd_238 : Cond.code y_Mt_max b_Mt_max 4 (some .long) ∈ bz_tb := bz_ti 238 (by decide +kernel) (by decide +kernel)
theorem wd_239 : Cond.methodLink R_B 149 y_S_clear ∈ bz_tb := bz_ti 239 (by decide +kernel) (by decide +kernel)
theorem wd_240 : Cond.methodLink R_B 152 y_B_tryRoundsFrom ∈ bz_tb := bz_ti 240 (by decide +kernel) (by decide +kernel)
theorem wd_241 : Cond.static y_B_tryRoundsFrom ∈ bz_tb := bz_ti 241 (by decide +kernel) (by decide +kernel)
theorem wd_242 : Cond.code y_B_tryRoundsFrom b_B_tryRoundsFrom 6 none ∈ bz_tb := bz_ti 242 (by decide +kernel) (by decide +kernel)
theorem wd_243 : Cond.methodLink R_B 160 y_Le_keep ∈ bz_tb := bz_ti 243 (by decide +kernel) (by decide +kernel)
theorem wd_244 : Cond.instanceMethod y_Le_keep ∈ bz_tb := bz_ti 244 (by decide +kernel) (by decide +kernel)
theorem wd_245 : Cond.selects R_Le y_Le_keep y_Le_keep ∈ bz_tb := bz_ti 245 (by decide +kernel) (by decide +kernel)
theorem wd_246 : Cond.code y_Le_keep b_Le_keep 4 none ∈ bz_tb := bz_ti 246 (by decide +kernel) (by decide +kernel)
theorem wd_247 : Cond.methodLink R_Le 24 ⟨R_Sy, "arraycopy", "(Ljava/lang/Object;ILjava/lang/Object;II)V"⟩ ∈ bz_tb := bz_ti 247 (by decide +kernel) (by decide +kernel)
theorem wd_248 : Cond.static ⟨R_Sy, "arraycopy", "(Ljava/lang/Object;ILjava/lang/Object;II)V"⟩ ∈ bz_tb := bz_ti 248 (by decide +kernel) (by decide +kernel)
theorem wd_249 : Cond.native ⟨R_Sy, "arraycopy", "(Ljava/lang/Object;ILjava/lang/Object;II)V"⟩ ∈ bz_tb := bz_ti 249 (by decide +kernel) (by decide +kernel)
theorem wd_250 : Cond.methodLink R_B 164 y_S_put ∈ bz_tb := bz_ti 250 (by decide +kernel) (by decide +kernel)
theorem wd_251 : Cond.methodLink R_B 167 y_S_take ∈ bz_tb := bz_ti 251 (by decide +kernel) (by decide +kernel)
theorem wd_252 : Cond.instanceMethod y_S_take ∈ bz_tb := bz_ti 252 (by decide +kernel) (by decide +kernel)
theorem wd_253 : Cond.selects R_S y_S_take y_S_take ∈ bz_tb := bz_ti 253 (by decide +kernel) (by decide +kernel)
theorem wd_254 : Cond.code y_S_take b_S_take 3 none ∈ bz_tb := bz_ti 254 (by decide +kernel) (by decide +kernel)
theorem wd_255 : Cond.methodLink R_B 84 y_B_improveByMoves ∈ bz_tb := bz_ti 255 (by decide +kernel) (by decide +kernel)
theorem wd_257 : Cond.instanceMethod y_B_improveByMoves ∈ bz_tb := bz_ti 257 (by decide +kernel) (by decide +kernel)
theorem wd_258 : Cond.code y_B_improveByMoves b_B_improveByMoves 13 none ∈ bz_tb := bz_ti 258 (by decide +kernel) (by decide +kernel)
theorem wd_259 : Cond.methodLink R_B 171 y_B_otherRound ∈ bz_tb := bz_ti 259 (by decide +kernel) (by decide +kernel)
theorem wd_260 : Cond.static y_B_otherRound ∈ bz_tb := bz_ti 260 (by decide +kernel) (by decide +kernel)
theorem wd_261 : Cond.code y_B_otherRound b_B_otherRound 2 (some .int) ∈ bz_tb := bz_ti 261 (by decide +kernel) (by decide +kernel)
theorem wd_262 : Cond.methodLink R_B 175 y_S_move ∈ bz_tb := bz_ti 262 (by decide +kernel) (by decide +kernel)
theorem wd_263 : Cond.instanceMethod y_S_move ∈ bz_tb := bz_ti 263 (by decide +kernel) (by decide +kernel)
theorem wd_264 : Cond.selects R_S y_S_move y_S_move ∈ bz_tb := bz_ti 264 (by decide +kernel) (by decide +kernel)
theorem wd_265 : Cond.code y_S_move b_S_move 3 none ∈ bz_tb := bz_ti 265 (by decide +kernel) (by decide +kernel)
theorem wd_266 : Cond.methodLink R_S 52 y_S_take ∈ bz_tb := bz_ti 266 (by decide +kernel) (by decide +kernel)
theorem wd_267 : Cond.methodLink R_B 88 y_S_greatestLoad ∈ bz_tb := bz_ti 267 (by decide +kernel) (by decide +kernel)
theorem wd_268 : Cond.methodLink R_L 48 y_B_round ∈ bz_tb := bz_ti 268 (by decide +kernel) (by decide +kernel)
theorem wd_269 : Cond.instanceMethod y_B_round ∈ bz_tb := bz_ti 269 (by decide +kernel) (by decide +kernel)
theorem wd_270 : Cond.selects R_B y_B_round y_B_round ∈ bz_tb := bz_ti 270 (by decide +kernel) (by decide +kernel)
theorem wd_271 : Cond.code y_B_round b_B_round 2 (some .int) ∈ bz_tb := bz_ti 271 (by decide +kernel) (by decide +kernel)
theorem wd_272 : Cond.methodLink R_L 53 y_B_changed ∈ bz_tb := bz_ti 272 (by decide +kernel) (by decide +kernel)
theorem wd_273 : Cond.instanceMethod y_B_changed ∈ bz_tb := bz_ti 273 (by decide +kernel) (by decide +kernel)
theorem wd_274 : Cond.selects R_B y_B_changed y_B_changed ∈ bz_tb := bz_ti 274 (by decide +kernel) (by decide +kernel)
theorem wd_275 : Cond.code y_B_changed b_B_changed 1 (some .int) ∈ bz_tb := bz_ti 275 (by decide +kernel) (by decide +kernel)
theorem wd_276 : Cond.methodLink R_L 67 y_B_faults ∈ bz_tb := bz_ti 276 (by decide +kernel) (by decide +kernel)
theorem wd_277 : Cond.instanceMethod y_B_faults ∈ bz_tb := bz_ti 277 (by decide +kernel) (by decide +kernel)
theorem wd_278 : Cond.selects R_B y_B_faults y_B_faults ∈ bz_tb := bz_ti 278 (by decide +kernel) (by decide +kernel)
theorem wd_279 : Cond.code y_B_faults b_B_faults 1 (some .int) ∈ bz_tb := bz_ti 279 (by decide +kernel) (by decide +kernel)
theorem wd_280 : Cond.methodLink R_B 114 y_S_allFaults ∈ bz_tb := bz_ti 280 (by decide +kernel) (by decide +kernel)
theorem wd_281 : Cond.methodLink R_L 71 y_B_bound ∈ bz_tb := bz_ti 281 (by decide +kernel) (by decide +kernel)
theorem wd_282 : Cond.instanceMethod y_B_bound ∈ bz_tb := bz_ti 282 (by decide +kernel) (by decide +kernel)
theorem wd_283 : Cond.selects R_B y_B_bound y_B_bound ∈ bz_tb := bz_ti 283 (by decide +kernel) (by decide +kernel)
theorem wd_284 : Cond.code y_B_bound b_B_bound 9 (some .long) ∈ bz_tb := bz_ti 284 (by decide +kernel) (by decide +kernel)
theorem wd_285 : Cond.methodLink R_B 118 y_T_roundsWithHours ∈ bz_tb := bz_ti 285 (by decide +kernel) (by decide +kernel)
theorem wd_286 : Cond.instanceMethod y_T_roundsWithHours ∈ bz_tb := bz_ti 286 (by decide +kernel) (by decide +kernel)
theorem wd_287 : Cond.selects R_T y_T_roundsWithHours y_T_roundsWithHours ∈ bz_tb := bz_ti 287 (by decide +kernel) (by decide +kernel)
theorem wd_288 : Cond.code y_T_roundsWithHours b_T_roundsWithHours 3 (some .int) ∈ bz_tb := bz_ti 288 (by decide +kernel) (by decide +kernel)
theorem wd_289 : Cond.constantLong R_B 121 (-1) ∈ bz_tb := bz_ti 289 (by decide +kernel) (by decide +kernel)
theorem wd_290 : Cond.methodLink R_B 123 y_T_lightestLoad ∈ bz_tb := bz_ti 290 (by decide +kernel) (by decide +kernel)
theorem wd_291 : Cond.instanceMethod y_T_lightestLoad ∈ bz_tb := bz_ti 291 (by decide +kernel) (by decide +kernel)
theorem wd_292 : Cond.selects R_T y_T_lightestLoad y_T_lightestLoad ∈ bz_tb := bz_ti 292 (by decide +kernel) (by decide +kernel)
theorem wd_293 : Cond.code y_T_lightestLoad b_T_lightestLoad 5 (some .long) ∈ bz_tb := bz_ti 293 (by decide +kernel) (by decide +kernel)
theorem wd_294 : Cond.methodLink R_T 40 y_T_loadIn ∈ bz_tb := bz_ti 294 (by decide +kernel) (by decide +kernel)
theorem wd_295 : Cond.methodLink R_T 44 y_Mt_min ∈ bz_tb := bz_ti 295 (by decide +kernel) (by decide +kernel)
theorem wd_296 : Cond.static y_Mt_min ∈ bz_tb := bz_ti 296 (by decide +kernel) (by decide +kernel)
theorem wd_297 : Cond.code y_Mt_min b_Mt_min 4 (some .long) ∈ bz_tb := bz_ti 297 (by decide +kernel) (by decide +kernel)
theorem wd_298 : Cond.methodLink R_B 127 y_Mt_max ∈ bz_tb := bz_ti 298 (by decide +kernel) (by decide +kernel)
theorem wd_299 : Cond.methodLink R_L 76 y_B_tooLarge ∈ bz_tb := bz_ti 299 (by decide +kernel) (by decide +kernel)
theorem wd_300 : Cond.instanceMethod y_B_tooLarge ∈ bz_tb := bz_ti 300 (by decide +kernel) (by decide +kernel)
theorem wd_301 : Cond.selects R_B y_B_tooLarge y_B_tooLarge ∈ bz_tb := bz_ti 301 (by decide +kernel) (by decide +kernel)
theorem wd_302 : Cond.code y_B_tooLarge b_B_tooLarge 4 (some .int) ∈ bz_tb := bz_ti 302 (by decide +kernel) (by decide +kernel)
theorem wd_303 : Cond.methodLink R_B 133 y_T_fitsNowhere ∈ bz_tb := bz_ti 303 (by decide +kernel) (by decide +kernel)
theorem wd_304 : Cond.instanceMethod y_T_fitsNowhere ∈ bz_tb := bz_ti 304 (by decide +kernel) (by decide +kernel)
theorem wd_305 : Cond.selects R_T y_T_fitsNowhere y_T_fitsNowhere ∈ bz_tb := bz_ti 305 (by decide +kernel) (by decide +kernel)
theorem wd_306 : Cond.code y_T_fitsNowhere b_T_fitsNowhere 3 (some .boolean) ∈ bz_tb := bz_ti 306 (by decide +kernel) (by decide +kernel)
theorem wd_307 : Cond.methodLink R_L 80 y_B_exact ∈ bz_tb := bz_ti 307 (by decide +kernel) (by decide +kernel)
theorem wd_308 : Cond.instanceMethod y_B_exact ∈ bz_tb := bz_ti 308 (by decide +kernel) (by decide +kernel)
theorem wd_309 : Cond.selects R_B y_B_exact y_B_exact ∈ bz_tb := bz_ti 309 (by decide +kernel) (by decide +kernel)
theorem wd_310 : Cond.code y_B_exact b_B_exact 1 (some .boolean) ∈ bz_tb := bz_ti 310 (by decide +kernel) (by decide +kernel)
theorem wd_311 : Cond.methodLink R_L 58 ⟨R_L, "together", "(LBalanceRounds;I[J)I"⟩ ∈ bz_tb := bz_ti 311 (by decide +kernel) (by decide +kernel)
theorem wd_312 : Cond.static ⟨R_L, "together", "(LBalanceRounds;I[J)I"⟩ ∈ bz_tb := bz_ti 312 (by decide +kernel) (by decide +kernel)
theorem wd_316 : Cond.methodLink R_L 7 y_B_together ∈ bz_tb := bz_ti 316 (by decide +kernel) (by decide +kernel)
theorem wd_317 : Cond.instanceMethod y_B_together ∈ bz_tb := bz_ti 317 (by decide +kernel) (by decide +kernel)
theorem wd_318 : Cond.selects R_B y_B_together y_B_together ∈ bz_tb := bz_ti 318 (by decide +kernel) (by decide +kernel)
theorem wd_319 : Cond.code y_B_together b_B_together 2 (some .boolean) ∈ bz_tb := bz_ti 319 (by decide +kernel) (by decide +kernel)
theorem wd_386 : Cond.arrayClass .byte ∈ bz_tb := bz_ti 386 (by decide +kernel) (by decide +kernel)
theorem wd_403 : Cond.methodLink R_B 111 y_S_hangsTogether ∈ bz_tb := bz_ti 403 (by decide +kernel) (by decide +kernel)
theorem wd_404 : Cond.classLink R_L 18 R_M ∈ bz_tb := bz_ti 404 (by decide +kernel) (by decide +kernel)
theorem wd_405 : Cond.instantiable R_M 12 ∈ bz_tb := bz_ti 405 (by decide +kernel) (by decide +kernel)
theorem wd_406 : Cond.methodLink R_L 20 y_M_init ∈ bz_tb := bz_ti 406 (by decide +kernel) (by decide +kernel)
theorem wd_407 : Cond.instanceMethod y_M_init ∈ bz_tb := bz_ti 407 (by decide +kernel) (by decide +kernel)
theorem wd_408 : Cond.code y_M_init b_M_init 1 none ∈ bz_tb := bz_ti 408 (by decide +kernel) (by decide +kernel)
theorem wd_409 : Cond.methodLink R_M 1 ⟨"java/lang/Object", "<init>", "()V"⟩ ∈ bz_tb := bz_ti 409 (by decide +kernel) (by decide +kernel)
theorem wd_410 : Cond.fieldLink R_M 40 R_M "thrown" "I" ∈ bz_tb := bz_ti 410 (by decide +kernel) (by decide +kernel)
theorem wd_411 : Cond.fieldLink R_M 36 R_M "count" "I" ∈ bz_tb := bz_ti 411 (by decide +kernel) (by decide +kernel)
theorem wd_412 : Cond.fieldLink R_M 7 R_M "loads" "[J" ∈ bz_tb := bz_ti 412 (by decide +kernel) (by decide +kernel)
theorem wd_413 : Cond.fieldLink R_M 13 R_M "todays" "[I" ∈ bz_tb := bz_ti 413 (by decide +kernel) (by decide +kernel)
theorem wd_414 : Cond.fieldLink R_M 17 R_M "joins" "[Z" ∈ bz_tb := bz_ti 414 (by decide +kernel) (by decide +kernel)
theorem wd_415 : Cond.fieldLink R_M 21 R_M "knows" "[Z" ∈ bz_tb := bz_ti 415 (by decide +kernel) (by decide +kernel)
theorem wd_416 : Cond.fieldLink R_M 24 R_M "hours" "[J" ∈ bz_tb := bz_ti 416 (by decide +kernel) (by decide +kernel)
theorem wd_417 : Cond.fieldLink R_M 43 R_M "solved" "Z" ∈ bz_tb := bz_ti 417 (by decide +kernel) (by decide +kernel)
theorem wd_418 : Cond.fieldLink R_M 47 R_M "exact" "Z" ∈ bz_tb := bz_ti 418 (by decide +kernel) (by decide +kernel)
theorem wd_419 : Cond.fieldLink R_M 27 R_M "share" "[I" ∈ bz_tb := bz_ti 419 (by decide +kernel) (by decide +kernel)
theorem wd_420 : Cond.fieldLink R_M 30 R_M "tried" "[I" ∈ bz_tb := bz_ti 420 (by decide +kernel) (by decide +kernel)
theorem wd_421 : Cond.fieldLink R_M 33 R_M "seen" "[Z" ∈ bz_tb := bz_ti 421 (by decide +kernel) (by decide +kernel)
theorem wd_422 : Cond.lays R_M R_M "thrown" "I" ∈ bz_tb := bz_ti 422 (by decide +kernel) (by decide +kernel)
theorem wd_423 : Cond.soleField R_M "thrown" ∈ bz_tb := bz_ti 423 (by decide +kernel) (by decide +kernel)
theorem wd_424 : Cond.lays R_M R_M "count" "I" ∈ bz_tb := bz_ti 424 (by decide +kernel) (by decide +kernel)
theorem wd_425 : Cond.soleField R_M "count" ∈ bz_tb := bz_ti 425 (by decide +kernel) (by decide +kernel)
theorem wd_426 : Cond.laysFinal R_M R_M "loads" "[J" ∈ bz_tb := bz_ti 426 (by decide +kernel) (by decide +kernel)
theorem wd_427 : Cond.soleField R_M "loads" ∈ bz_tb := bz_ti 427 (by decide +kernel) (by decide +kernel)
theorem wd_428 : Cond.laysFinal R_M R_M "todays" "[I" ∈ bz_tb := bz_ti 428 (by decide +kernel) (by decide +kernel)
theorem wd_429 : Cond.soleField R_M "todays" ∈ bz_tb := bz_ti 429 (by decide +kernel) (by decide +kernel)
theorem wd_430 : Cond.laysFinal R_M R_M "joins" "[Z" ∈ bz_tb := bz_ti 430 (by decide +kernel) (by decide +kernel)
theorem wd_431 : Cond.soleField R_M "joins" ∈ bz_tb := bz_ti 431 (by decide +kernel) (by decide +kernel)
theorem wd_432 : Cond.laysFinal R_M R_M "knows" "[Z" ∈ bz_tb := bz_ti 432 (by decide +kernel) (by decide +kernel)
theorem wd_433 : Cond.soleField R_M "knows" ∈ bz_tb := bz_ti 433 (by decide +kernel) (by decide +kernel)
theorem wd_434 : Cond.laysFinal R_M R_M "hours" "[J" ∈ bz_tb := bz_ti 434 (by decide +kernel) (by decide +kernel)
theorem wd_435 : Cond.soleField R_M "hours" ∈ bz_tb := bz_ti 435 (by decide +kernel) (by decide +kernel)
theorem wd_436 : Cond.lays R_M R_M "solved" "Z" ∈ bz_tb := bz_ti 436 (by decide +kernel) (by decide +kernel)
theorem wd_437 : Cond.soleField R_M "solved" ∈ bz_tb := bz_ti 437 (by decide +kernel) (by decide +kernel)
theorem wd_438 : Cond.lays R_M R_M "exact" "Z" ∈ bz_tb := bz_ti 438 (by decide +kernel) (by decide +kernel)
theorem wd_439 : Cond.soleField R_M "exact" ∈ bz_tb := bz_ti 439 (by decide +kernel) (by decide +kernel)
theorem wd_440 : Cond.laysFinal R_M R_M "share" "[I" ∈ bz_tb := bz_ti 440 (by decide +kernel) (by decide +kernel)
theorem wd_441 : Cond.soleField R_M "share" ∈ bz_tb := bz_ti 441 (by decide +kernel) (by decide +kernel)
theorem wd_442 : Cond.laysFinal R_M R_M "tried" "[I" ∈ bz_tb := bz_ti 442 (by decide +kernel) (by decide +kernel)
theorem wd_443 : Cond.soleField R_M "tried" ∈ bz_tb := bz_ti 443 (by decide +kernel) (by decide +kernel)
theorem wd_444 : Cond.laysFinal R_M R_M "seen" "[Z" ∈ bz_tb := bz_ti 444 (by decide +kernel) (by decide +kernel)
theorem wd_445 : Cond.soleField R_M "seen" ∈ bz_tb := bz_ti 445 (by decide +kernel) (by decide +kernel)
theorem wd_447 : Cond.arrayClass .boolean ∈ bz_tb := bz_ti 447 (by decide +kernel) (by decide +kernel)
theorem wd_448 : Cond.methodLink R_L 64 y_M_thrown ∈ bz_tb := bz_ti 448 (by decide +kernel) (by decide +kernel)
theorem wd_449 : Cond.instanceMethod y_M_thrown ∈ bz_tb := bz_ti 449 (by decide +kernel) (by decide +kernel)
theorem wd_450 : Cond.selects R_M y_M_thrown y_M_thrown ∈ bz_tb := bz_ti 450 (by decide +kernel) (by decide +kernel)
theorem wd_451 : Cond.code y_M_thrown b_M_thrown 1 (some .int) ∈ bz_tb := bz_ti 451 (by decide +kernel) (by decide +kernel)
theorem wd_452 : Cond.methodLink R_L 27 y_M_area ∈ bz_tb := bz_ti 452 (by decide +kernel) (by decide +kernel)
theorem wd_453 : Cond.instanceMethod y_M_area ∈ bz_tb := bz_ti 453 (by decide +kernel) (by decide +kernel)
theorem wd_454 : Cond.selects R_M y_M_area y_M_area ∈ bz_tb := bz_ti 454 (by decide +kernel) (by decide +kernel)
theorem wd_455 : Cond.code y_M_area b_M_area 4 (some .int) ∈ bz_tb := bz_ti 455 (by decide +kernel) (by decide +kernel)
theorem wd_456 : Cond.constantLong R_M 50 1000000 ∈ bz_tb := bz_ti 456 (by decide +kernel) (by decide +kernel)
theorem wd_457 : Cond.methodLink R_M 52 y_M_isIn ∈ bz_tb := bz_ti 457 (by decide +kernel) (by decide +kernel)
theorem wd_458 : Cond.static y_M_isIn ∈ bz_tb := bz_ti 458 (by decide +kernel) (by decide +kernel)
theorem wd_459 : Cond.code y_M_isIn b_M_isIn 6 (some .boolean) ∈ bz_tb := bz_ti 459 (by decide +kernel) (by decide +kernel)
theorem wd_460 : Cond.constantLong R_M 56 3 ∈ bz_tb := bz_ti 460 (by decide +kernel) (by decide +kernel)
theorem wd_461 : Cond.methodLink R_M 58 y_M_changes ∈ bz_tb := bz_ti 461 (by decide +kernel) (by decide +kernel)
theorem wd_463 : Cond.instanceMethod y_M_changes ∈ bz_tb := bz_ti 463 (by decide +kernel) (by decide +kernel)
theorem wd_464 : Cond.code y_M_changes b_M_changes 1 none ∈ bz_tb := bz_ti 464 (by decide +kernel) (by decide +kernel)
theorem wd_465 : Cond.methodLink R_L 32 y_M_joined ∈ bz_tb := bz_ti 465 (by decide +kernel) (by decide +kernel)
theorem wd_466 : Cond.instanceMethod y_M_joined ∈ bz_tb := bz_ti 466 (by decide +kernel) (by decide +kernel)
theorem wd_467 : Cond.selects R_M y_M_joined y_M_joined ∈ bz_tb := bz_ti 467 (by decide +kernel) (by decide +kernel)
theorem wd_468 : Cond.code y_M_joined b_M_joined 4 (some .boolean) ∈ bz_tb := bz_ti 468 (by decide +kernel) (by decide +kernel)
theorem wd_469 : Cond.methodLink R_M 61 y_M_isArea ∈ bz_tb := bz_ti 469 (by decide +kernel) (by decide +kernel)
theorem wd_471 : Cond.instanceMethod y_M_isArea ∈ bz_tb := bz_ti 471 (by decide +kernel) (by decide +kernel)
theorem wd_472 : Cond.code y_M_isArea b_M_isArea 2 (some .boolean) ∈ bz_tb := bz_ti 472 (by decide +kernel) (by decide +kernel)
theorem wd_473 : Cond.methodLink R_L 37 y_M_carrier ∈ bz_tb := bz_ti 473 (by decide +kernel) (by decide +kernel)
theorem wd_474 : Cond.instanceMethod y_M_carrier ∈ bz_tb := bz_ti 474 (by decide +kernel) (by decide +kernel)
theorem wd_475 : Cond.selects R_M y_M_carrier y_M_carrier ∈ bz_tb := bz_ti 475 (by decide +kernel) (by decide +kernel)
theorem wd_476 : Cond.code y_M_carrier b_M_carrier 6 (some .int) ∈ bz_tb := bz_ti 476 (by decide +kernel) (by decide +kernel)
theorem wd_477 : Cond.constantLong R_M 65 1000000000 ∈ bz_tb := bz_ti 477 (by decide +kernel) (by decide +kernel)
theorem wd_478 : Cond.methodLink R_L 42 y_M_know ∈ bz_tb := bz_ti 478 (by decide +kernel) (by decide +kernel)
theorem wd_479 : Cond.instanceMethod y_M_know ∈ bz_tb := bz_ti 479 (by decide +kernel) (by decide +kernel)
theorem wd_480 : Cond.selects R_M y_M_know y_M_know ∈ bz_tb := bz_ti 480 (by decide +kernel) (by decide +kernel)
theorem wd_481 : Cond.code y_M_know b_M_know 4 (some .int) ∈ bz_tb := bz_ti 481 (by decide +kernel) (by decide +kernel)
theorem wd_482 : Cond.methodLink R_L 47 y_M_solve ∈ bz_tb := bz_ti 482 (by decide +kernel) (by decide +kernel)
theorem wd_483 : Cond.instanceMethod y_M_solve ∈ bz_tb := bz_ti 483 (by decide +kernel) (by decide +kernel)
theorem wd_484 : Cond.selects R_M y_M_solve y_M_solve ∈ bz_tb := bz_ti 484 (by decide +kernel) (by decide +kernel)
theorem wd_485 : Cond.code y_M_solve b_M_solve 3 (some .long) ∈ bz_tb := bz_ti 485 (by decide +kernel) (by decide +kernel)
theorem wd_486 : Cond.constantLong R_M 103 100000 ∈ bz_tb := bz_ti 486 (by decide +kernel) (by decide +kernel)
theorem wd_487 : Cond.constantLong R_M 105 (-12) ∈ bz_tb := bz_ti 487 (by decide +kernel) (by decide +kernel)
theorem wd_488 : Cond.methodLink R_M 107 y_M_tryAll ∈ bz_tb := bz_ti 488 (by decide +kernel) (by decide +kernel)
theorem wd_490 : Cond.instanceMethod y_M_tryAll ∈ bz_tb := bz_ti 490 (by decide +kernel) (by decide +kernel)
theorem wd_491 : Cond.code y_M_tryAll b_M_tryAll 9 none ∈ bz_tb := bz_ti 491 (by decide +kernel) (by decide +kernel)
theorem wd_492 : Cond.constantLong R_M 98 9223372036854775807 ∈ bz_tb := bz_ti 492 (by decide +kernel) (by decide +kernel)
theorem wd_493 : Cond.methodLink R_M 100 y_M_cost ∈ bz_tb := bz_ti 493 (by decide +kernel) (by decide +kernel)
theorem wd_495 : Cond.instanceMethod y_M_cost ∈ bz_tb := bz_ti 495 (by decide +kernel) (by decide +kernel)
theorem wd_496 : Cond.code y_M_cost b_M_cost 2 (some .long) ∈ bz_tb := bz_ti 496 (by decide +kernel) (by decide +kernel)
theorem wd_497 : Cond.methodLink R_M 83 y_M_faultsOf ∈ bz_tb := bz_ti 497 (by decide +kernel) (by decide +kernel)
theorem wd_499 : Cond.instanceMethod y_M_faultsOf ∈ bz_tb := bz_ti 499 (by decide +kernel) (by decide +kernel)
theorem wd_500 : Cond.code y_M_faultsOf b_M_faultsOf 4 (some .int) ∈ bz_tb := bz_ti 500 (by decide +kernel) (by decide +kernel)
theorem wd_501 : Cond.methodLink R_M 75 y_M_roundLoad ∈ bz_tb := bz_ti 501 (by decide +kernel) (by decide +kernel)
theorem wd_503 : Cond.instanceMethod y_M_roundLoad ∈ bz_tb := bz_ti 503 (by decide +kernel) (by decide +kernel)
theorem wd_504 : Cond.code y_M_roundLoad b_M_roundLoad 6 (some .long) ∈ bz_tb := bz_ti 504 (by decide +kernel) (by decide +kernel)
theorem wd_505 : Cond.methodLink R_M 71 y_M_loadOf ∈ bz_tb := bz_ti 505 (by decide +kernel) (by decide +kernel)
theorem wd_507 : Cond.instanceMethod y_M_loadOf ∈ bz_tb := bz_ti 507 (by decide +kernel) (by decide +kernel)
theorem wd_508 : Cond.code y_M_loadOf b_M_loadOf 5 (some .long) ∈ bz_tb := bz_ti 508 (by decide +kernel) (by decide +kernel)
theorem wd_509 : Cond.constantLong R_M 67 9 ∈ bz_tb := bz_ti 509 (by decide +kernel) (by decide +kernel)
theorem wd_510 : Cond.constantLong R_M 69 10 ∈ bz_tb := bz_ti 510 (by decide +kernel) (by decide +kernel)
theorem wd_511 : Cond.methodLink R_M 79 y_M_hangs ∈ bz_tb := bz_ti 511 (by decide +kernel) (by decide +kernel)
theorem wd_513 : Cond.instanceMethod y_M_hangs ∈ bz_tb := bz_ti 513 (by decide +kernel) (by decide +kernel)
theorem wd_514 : Cond.code y_M_hangs b_M_hangs 7 (some .boolean) ∈ bz_tb := bz_ti 514 (by decide +kernel) (by decide +kernel)
theorem wd_515 : Cond.constantLong R_M 87 1000000000000 ∈ bz_tb := bz_ti 515 (by decide +kernel) (by decide +kernel)
theorem wd_516 : Cond.constantLong R_M 89 100 ∈ bz_tb := bz_ti 516 (by decide +kernel) (by decide +kernel)
theorem wd_517 : Cond.methodLink R_M 91 y_M_greatest ∈ bz_tb := bz_ti 517 (by decide +kernel) (by decide +kernel)
theorem wd_519 : Cond.instanceMethod y_M_greatest ∈ bz_tb := bz_ti 519 (by decide +kernel) (by decide +kernel)
theorem wd_520 : Cond.code y_M_greatest b_M_greatest 7 (some .long) ∈ bz_tb := bz_ti 520 (by decide +kernel) (by decide +kernel)
theorem wd_521 : Cond.methodLink R_M 95 y_M_changedIn ∈ bz_tb := bz_ti 521 (by decide +kernel) (by decide +kernel)
theorem wd_523 : Cond.instanceMethod y_M_changedIn ∈ bz_tb := bz_ti 523 (by decide +kernel) (by decide +kernel)
theorem wd_524 : Cond.code y_M_changedIn b_M_changedIn 4 (some .int) ∈ bz_tb := bz_ti 524 (by decide +kernel) (by decide +kernel)
theorem wd_525 : Cond.methodLink R_M 110 y_M_tryMoves ∈ bz_tb := bz_ti 525 (by decide +kernel) (by decide +kernel)
theorem wd_527 : Cond.instanceMethod y_M_tryMoves ∈ bz_tb := bz_ti 527 (by decide +kernel) (by decide +kernel)
theorem wd_528 : Cond.code y_M_tryMoves b_M_tryMoves 13 none ∈ bz_tb := bz_ti 528 (by decide +kernel) (by decide +kernel)
theorem wd_529 : Cond.methodLink R_L 52 y_M_round ∈ bz_tb := bz_ti 529 (by decide +kernel) (by decide +kernel)
theorem wd_530 : Cond.instanceMethod y_M_round ∈ bz_tb := bz_ti 530 (by decide +kernel) (by decide +kernel)
theorem wd_531 : Cond.selects R_M y_M_round y_M_round ∈ bz_tb := bz_ti 531 (by decide +kernel) (by decide +kernel)
theorem wd_532 : Cond.code y_M_round b_M_round 2 (some .int) ∈ bz_tb := bz_ti 532 (by decide +kernel) (by decide +kernel)
theorem wd_533 : Cond.methodLink R_L 57 y_M_changed ∈ bz_tb := bz_ti 533 (by decide +kernel) (by decide +kernel)
theorem wd_534 : Cond.instanceMethod y_M_changed ∈ bz_tb := bz_ti 534 (by decide +kernel) (by decide +kernel)
theorem wd_535 : Cond.selects R_M y_M_changed y_M_changed ∈ bz_tb := bz_ti 535 (by decide +kernel) (by decide +kernel)
theorem wd_536 : Cond.code y_M_changed b_M_changed 1 (some .int) ∈ bz_tb := bz_ti 536 (by decide +kernel) (by decide +kernel)
theorem wd_537 : Cond.methodLink R_L 63 y_M_together ∈ bz_tb := bz_ti 537 (by decide +kernel) (by decide +kernel)
theorem wd_538 : Cond.instanceMethod y_M_together ∈ bz_tb := bz_ti 538 (by decide +kernel) (by decide +kernel)
theorem wd_539 : Cond.selects R_M y_M_together y_M_together ∈ bz_tb := bz_ti 539 (by decide +kernel) (by decide +kernel)
theorem wd_540 : Cond.code y_M_together b_M_together 2 (some .boolean) ∈ bz_tb := bz_ti 540 (by decide +kernel) (by decide +kernel)
theorem wd_541 : Cond.methodLink R_L 70 y_M_faults ∈ bz_tb := bz_ti 541 (by decide +kernel) (by decide +kernel)
theorem wd_542 : Cond.instanceMethod y_M_faults ∈ bz_tb := bz_ti 542 (by decide +kernel) (by decide +kernel)
theorem wd_543 : Cond.selects R_M y_M_faults y_M_faults ∈ bz_tb := bz_ti 543 (by decide +kernel) (by decide +kernel)
theorem wd_544 : Cond.code y_M_faults b_M_faults 1 (some .int) ∈ bz_tb := bz_ti 544 (by decide +kernel) (by decide +kernel)
theorem wd_545 : Cond.methodLink R_L 75 y_M_bound ∈ bz_tb := bz_ti 545 (by decide +kernel) (by decide +kernel)
theorem wd_546 : Cond.instanceMethod y_M_bound ∈ bz_tb := bz_ti 546 (by decide +kernel) (by decide +kernel)
theorem wd_547 : Cond.selects R_M y_M_bound y_M_bound ∈ bz_tb := bz_ti 547 (by decide +kernel) (by decide +kernel)
theorem wd_548 : Cond.code y_M_bound b_M_bound 9 (some .long) ∈ bz_tb := bz_ti 548 (by decide +kernel) (by decide +kernel)
theorem wd_549 : Cond.methodLink R_M 114 y_M_withHours ∈ bz_tb := bz_ti 549 (by decide +kernel) (by decide +kernel)
theorem wd_551 : Cond.instanceMethod y_M_withHours ∈ bz_tb := bz_ti 551 (by decide +kernel) (by decide +kernel)
theorem wd_552 : Cond.code y_M_withHours b_M_withHours 3 (some .int) ∈ bz_tb := bz_ti 552 (by decide +kernel) (by decide +kernel)
theorem wd_553 : Cond.constantLong R_M 118 (-1) ∈ bz_tb := bz_ti 553 (by decide +kernel) (by decide +kernel)
theorem wd_554 : Cond.methodLink R_M 120 y_M_lightest ∈ bz_tb := bz_ti 554 (by decide +kernel) (by decide +kernel)
theorem wd_556 : Cond.instanceMethod y_M_lightest ∈ bz_tb := bz_ti 556 (by decide +kernel) (by decide +kernel)
theorem wd_557 : Cond.code y_M_lightest b_M_lightest 5 (some .long) ∈ bz_tb := bz_ti 557 (by decide +kernel) (by decide +kernel)
theorem wd_558 : Cond.methodLink R_L 79 y_M_tooLarge ∈ bz_tb := bz_ti 558 (by decide +kernel) (by decide +kernel)
theorem wd_559 : Cond.instanceMethod y_M_tooLarge ∈ bz_tb := bz_ti 559 (by decide +kernel) (by decide +kernel)
theorem wd_560 : Cond.selects R_M y_M_tooLarge y_M_tooLarge ∈ bz_tb := bz_ti 560 (by decide +kernel) (by decide +kernel)
theorem wd_561 : Cond.code y_M_tooLarge b_M_tooLarge 6 (some .int) ∈ bz_tb := bz_ti 561 (by decide +kernel) (by decide +kernel)
theorem wd_562 : Cond.methodLink R_L 84 y_M_exact ∈ bz_tb := bz_ti 562 (by decide +kernel) (by decide +kernel)
theorem wd_563 : Cond.instanceMethod y_M_exact ∈ bz_tb := bz_ti 563 (by decide +kernel) (by decide +kernel)
theorem wd_564 : Cond.selects R_M y_M_exact y_M_exact ∈ bz_tb := bz_ti 564 (by decide +kernel) (by decide +kernel)
theorem wd_565 : Cond.code y_M_exact b_M_exact 1 (some .boolean) ∈ bz_tb := bz_ti 565 (by decide +kernel) (by decide +kernel)
theorem wd_566 : Cond.constantLong R_L 21 4294967295 ∈ bz_tb := bz_ti 566 (by decide +kernel) (by decide +kernel)
theorem in_Le : ∀ w ∈ u_ws R_Le F_Le 2, w ∈ bz_tb := by
  have h : (u_ws R_Le F_Le 2).all (fun w => decide (w ∈ lw_tbl) && goodWord w) = true := by decide +kernel
  intro w hw
  have h1 := List.all_eq_true.mp h w hw
  simp only [Bool.and_eq_true, decide_eq_true_eq] at h1
  exact List.mem_filter.mpr h1
theorem in_S : ∀ w ∈ u_ws R_S F_S 6, w ∈ bz_tb := by
  have h : (u_ws R_S F_S 6).all (fun w => decide (w ∈ lw_tbl) && goodWord w) = true := by decide +kernel
  intro w hw
  have h1 := List.all_eq_true.mp h w hw
  simp only [Bool.and_eq_true, decide_eq_true_eq] at h1
  exact List.mem_filter.mpr h1
theorem in_T : ∀ w ∈ u_ws R_T F_T 6, w ∈ bz_tb := by
  have h : (u_ws R_T F_T 6).all (fun w => decide (w ∈ lw_tbl) && goodWord w) = true := by decide +kernel
  intro w hw
  have h1 := List.all_eq_true.mp h w hw
  simp only [Bool.and_eq_true, decide_eq_true_eq] at h1
  exact List.mem_filter.mpr h1
theorem in_B : ∀ w ∈ u_ws R_B F_B 4, w ∈ bz_tb := by
  have h : (u_ws R_B F_B 4).all (fun w => decide (w ∈ lw_tbl) && goodWord w) = true := by decide +kernel
  intro w hw
  have h1 := List.all_eq_true.mp h w hw
  simp only [Bool.and_eq_true, decide_eq_true_eq] at h1
  exact List.mem_filter.mpr h1
theorem in_M : ∀ w ∈ u_ws R_M F_M 12, w ∈ bz_tb := by
  have h : (u_ws R_M F_M 12).all (fun w => decide (w ∈ lw_tbl) && goodWord w) = true := by decide +kernel
  intro w hw
  have h1 := List.all_eq_true.mp h w hw
  simp only [Bool.and_eq_true, decide_eq_true_eq] at h1
  exact List.mem_filter.mpr h1
def bz_nw : List Cond := [Cond.methodLinkNest R_B 11 y_T_init R_B, Cond.fieldLinkNest R_S 49 R_T "todays" "[I" R_B, Cond.fieldLinkNest R_B 136 R_T "todays" "[I" R_B, Cond.fieldLinkNest R_B 63 R_T "hours" "[J" R_B, Cond.fieldLinkNest R_S 70 R_T "hours" "[J" R_B, Cond.fieldLinkNest R_S 33 R_T "count" "I" R_B, Cond.fieldLinkNest R_B 42 R_T "count" "I" R_B, Cond.fieldLinkNest R_B 159 R_S "town" "LBalanceRounds$Town;" R_B, Cond.fieldLinkNest R_Le 19 R_S "roundOf" "[I" R_B, Cond.fieldLinkNest R_B 92 R_S "roundOf" "[I" R_B, Cond.fieldLinkNest R_B 96 R_S "changes" "I" R_B, Cond.methodLinkNest R_B 27 y_Le_init R_B, Cond.fieldLinkNest R_B 156 R_Le "row" "[I" R_B, Cond.fieldLinkNest R_B 146 R_Le "cost" "J" R_B]
def bz_N (U : State) : Prop := ∀ w ∈ bz_nw, va_Nw w U
theorem bz_N_warm {s U : State} (hW : s.WarmedH U.vm) (h : bz_N s) : bz_N U := by
  intro w hw
  have h1 := h w hw
  simp only [bz_nw, List.mem_cons, List.not_mem_nil, or_false] at hw
  rcases hw with rfl | rfl | rfl | rfl | rfl | rfl | rfl | rfl | rfl | rfl | rfl | rfl | rfl | rfl
  all_goals first | exact va_Nw.warmF hW h1 | exact va_Nw.warmM hW h1
theorem bz_N_same {s U : State} (e : s.vm = U.vm) (h : bz_N s) : bz_N U := by
  intro w hw
  have h1 := h w hw
  simp only [bz_nw, List.mem_cons, List.not_mem_nil, or_false] at hw
  rcases hw with rfl | rfl | rfl | rfl | rfl | rfl | rfl | rfl | rfl | rfl | rfl | rfl | rfl | rfl
  all_goals exact va_Nw.same rfl e h1
theorem nd_42 : Cond.methodLinkNest R_B 11 y_T_init R_B ∈ bz_nw := List.mem_of_getElem? (i := 0) rfl
theorem nd_48 : Cond.fieldLinkNest R_S 49 R_T "todays" "[I" R_B ∈ bz_nw := List.mem_of_getElem? (i := 1) rfl
theorem nd_49 : Cond.fieldLinkNest R_B 136 R_T "todays" "[I" R_B ∈ bz_nw := List.mem_of_getElem? (i := 2) rfl
theorem nd_53 : Cond.fieldLinkNest R_B 63 R_T "hours" "[J" R_B ∈ bz_nw := List.mem_of_getElem? (i := 3) rfl
theorem nd_54 : Cond.fieldLinkNest R_S 70 R_T "hours" "[J" R_B ∈ bz_nw := List.mem_of_getElem? (i := 4) rfl
theorem nd_56 : Cond.fieldLinkNest R_S 33 R_T "count" "I" R_B ∈ bz_nw := List.mem_of_getElem? (i := 5) rfl
theorem nd_57 : Cond.fieldLinkNest R_B 42 R_T "count" "I" R_B ∈ bz_nw := List.mem_of_getElem? (i := 6) rfl
theorem nd_80 : Cond.fieldLinkNest R_B 159 R_S "town" "LBalanceRounds$Town;" R_B ∈ bz_nw := List.mem_of_getElem? (i := 7) rfl
theorem nd_82 : Cond.fieldLinkNest R_Le 19 R_S "roundOf" "[I" R_B ∈ bz_nw := List.mem_of_getElem? (i := 8) rfl
theorem nd_83 : Cond.fieldLinkNest R_B 92 R_S "roundOf" "[I" R_B ∈ bz_nw := List.mem_of_getElem? (i := 9) rfl
theorem nd_88 : Cond.fieldLinkNest R_B 96 R_S "changes" "I" R_B ∈ bz_nw := List.mem_of_getElem? (i := 10) rfl
theorem nd_104 : Cond.methodLinkNest R_B 27 y_Le_init R_B ∈ bz_nw := List.mem_of_getElem? (i := 11) rfl
theorem nd_109 : Cond.fieldLinkNest R_B 156 R_Le "row" "[I" R_B ∈ bz_nw := List.mem_of_getElem? (i := 12) rfl
theorem nd_111 : Cond.fieldLinkNest R_B 146 R_Le "cost" "J" R_B ∈ bz_nw := List.mem_of_getElem? (i := 13) rfl
end
section
/-! sets of areas as the bits of an int -/
def bt (x : Int32) (i : Nat) : Bool := x.toBitVec.getLsbD i
theorem b_ext {x y : Int32} (h : ∀ i, i < 32 → bt x i = bt y i) : x = y := Int32.toBitVec_inj.mp (BitVec.eq_of_getLsbD_eq (fun i hi => h i hi))
theorem b_or (x y : Int32) (i : Nat) : bt (x ||| y) i = (bt x i || bt y i) := by unfold bt; rw [Int32.toBitVec_or, BitVec.getLsbD_or]
theorem b_and (x y : Int32) (i : Nat) : bt (x &&& y) i = (bt x i && bt y i) := by unfold bt; rw [Int32.toBitVec_and, BitVec.getLsbD_and]
theorem b_xor (x y : Int32) (i : Nat) : bt (x ^^^ y) i = (bt x i ^^ bt y i) := by unfold bt; rw [Int32.toBitVec_xor, BitVec.getLsbD_xor]
theorem b_big {x : Int32} {i : Nat} (h : 32 ≤ i) : bt x i = false := BitVec.getLsbD_of_ge _ _ h
theorem b_m1 : ∀ i, i < 32 → bt (-1) i = true := by decide +kernel
theorem b_0 (i : Nat) : bt 0 i = false := BitVec.getLsbD_zero
theorem ts_nf {x : Bool} (h : ¬ x = false) : x = true := by cases x; exact absurd rfl h; rfl
theorem b_shl1 : ∀ n, n < 32 → ∀ i, i < 32 → bt ((1 : Int32) <<< (nI n &&& 31)) i = decide (i = n) := by decide +kernel
/-- the int whose bits are the set -/
def bz_m (f : Nat → Bool) : Int32 := Int32.ofBitVec ((BitVec.ofBoolListLE ((List.range 32).map f)).cast (by simp))
theorem bz_bt (f : Nat → Bool) {i : Nat} (hi : i < 32) : bt (bz_m f) i = f i := by
  unfold bt bz_m
  rw [show (Int32.ofBitVec ((BitVec.ofBoolListLE ((List.range 32).map f)).cast (by simp))).toBitVec = ((BitVec.ofBoolListLE ((List.range 32).map f)).cast (by simp)) from rfl, BitVec.getLsbD_cast, BitVec.getLsbD_ofBoolListLE]
  simp [hi]
theorem bz_ext {f g : Nat → Bool} (h : ∀ i, i < 32 → f i = g i) : bz_m f = bz_m g := b_ext fun i hi => by rw [bz_bt f hi, bz_bt g hi, h i hi]
theorem bz_inj {f g : Nat → Bool} (h : bz_m f = bz_m g) {i : Nat} (hi : i < 32) : f i = g i := by rw [← bz_bt f hi, ← bz_bt g hi, h]
theorem bz_or (f g : Nat → Bool) : bz_m f ||| bz_m g = bz_m (fun i => f i || g i) := b_ext fun i hi => by rw [b_or, bz_bt f hi, bz_bt g hi, bz_bt _ hi]
theorem bz_and (f g : Nat → Bool) : bz_m f &&& bz_m g = bz_m (fun i => f i && g i) := b_ext fun i hi => by rw [b_and, bz_bt f hi, bz_bt g hi, bz_bt _ hi]
theorem bz_xor (f g : Nat → Bool) : bz_m f ^^^ bz_m g = bz_m (fun i => f i ^^ g i) := b_ext fun i hi => by rw [b_xor, bz_bt f hi, bz_bt g hi, bz_bt _ hi]
theorem bz_not (f : Nat → Bool) : bz_m f ^^^ (-1) = bz_m (fun i => !f i) := b_ext fun i hi => by rw [b_xor, bz_bt f hi, b_m1 i hi, bz_bt _ hi]; cases f i <;> rfl
theorem bz_one {n : Nat} (hn : n < 32) : (1 : Int32) <<< (nI n &&& 31) = bz_m (fun i => decide (i = n)) := b_ext fun i hi => by rw [b_shl1 n hn i hi, bz_bt _ hi]
theorem bz_zero : (0 : Int32) = bz_m (fun _ => false) := b_ext fun i hi => by rw [b_0, bz_bt _ hi]
theorem bz_eq0 (f : Nat → Bool) : bz_m f = 0 ↔ ∀ i, i < 32 → f i = false := by
  rw [bz_zero]
  exact ⟨fun h i hi => bz_inj h hi, fun h => bz_ext h⟩
theorem bz_eqI (f g : Nat → Bool) : bz_m f = bz_m g ↔ ∀ i, i < 32 → f i = g i := ⟨fun h i hi => bz_inj h hi, fun h => bz_ext h⟩
theorem bz_test (f : Nat → Bool) {n : Nat} (hn : n < 32) : bz_m f &&& ((1 : Int32) <<< (nI n &&& 31)) = 0 ↔ f n = false := by
  rw [bz_one hn, bz_and, bz_eq0]
  constructor
  · intro h
    have := h n hn
    simpa using this
  · intro h i hi
    by_cases e : i = n
    · subst e; simp [h]
    · simp [e]
theorem bz_all : ∀ n, n < 31 → ((1 : Int32) <<< (nI n &&& 31)) - 1 = bz_m (fun i => decide (i < n)) := by decide +kernel
/-- the least bit of a set -/
theorem bz_low (f : Nat → Bool) : bz_m f &&& (-(bz_m f)) = bz_m (fun i => f i && !(decide (∃ j, j < i ∧ f j = true))) := by
  apply b_ext
  intro i hi
  rw [b_and, bz_bt f hi, bz_bt _ hi]
  have h : bt (-(bz_m f)) i = (f i ^^ decide (∃ j, j < i ∧ f j = true)) := by
    show ((-(bz_m f)).toBitVec).getLsbD i = _
    rw [Int32.toBitVec_neg, BitVec.getLsbD_neg]
    rw [show (bz_m f).toBitVec.getLsbD i = f i from bz_bt f hi]
    have e : (f i ^^ decide (i < 32) && decide (∃ j, j < i ∧ (bz_m f).toBitVec.getLsbD j = true)) = (f i ^^ decide (∃ j, j < i ∧ f j = true)) := by
      rw [decide_eq_true hi, Bool.true_and]
      congr 1
      apply decide_eq_decide.mpr
      constructor
      · rintro ⟨j, h1, h2⟩
        exact ⟨j, h1, by rw [← bz_bt f (show j < 32 by omega)]; exact h2⟩
      · rintro ⟨j, h1, h2⟩
        exact ⟨j, h1, by rw [show (bz_m f).toBitVec.getLsbD j = f j from bz_bt f (show j < 32 by omega)]; exact h2⟩
    exact e
  rw [h]
  cases f i <;> simp
end
section
/-! what a town and a share are, in plain numbers -/
def bz_sm (f : Nat → Nat) : Nat → Nat
  | 0 => 0
  | k + 1 => bz_sm f k + f k
theorem bz_sm_ext {f g : Nat → Nat} : ∀ {n : Nat}, (∀ i, i < n → f i = g i) → bz_sm f n = bz_sm g n
  | 0, _ => rfl
  | n + 1, h => by
    show bz_sm f n + f n = bz_sm g n + g n
    rw [bz_sm_ext (fun i hi => h i (by omega)), h n (by omega)]
theorem bz_sm_le {f g : Nat → Nat} : ∀ {n : Nat}, (∀ i, i < n → f i ≤ g i) → bz_sm f n ≤ bz_sm g n
  | 0, _ => Nat.le_refl _
  | n + 1, h => Nat.add_le_add (bz_sm_le (fun i hi => h i (by omega))) (h n (by omega))
theorem bz_sm_bd {f : Nat → Nat} {b : Nat} : ∀ {n : Nat}, (∀ i, i < n → f i ≤ b) → bz_sm f n ≤ n * b
  | 0, _ => Nat.zero_le _
  | n + 1, h => by
    show bz_sm f n + f n ≤ (n + 1) * b
    have h1 := bz_sm_bd (f := f) (b := b) (n := n) (fun i hi => h i (by omega))
    have h2 := h n (by omega)
    rw [Nat.add_mul]
    omega
/-- one place changed -/
theorem bz_sm_one {f g : Nat → Nat} {a : Nat} : ∀ {n : Nat}, a < n → (∀ i, i < n → i ≠ a → f i = g i) → bz_sm f n + g a = bz_sm g n + f a
  | 0, h, _ => absurd h (by omega)
  | n + 1, h, he => by
    show bz_sm f n + f n + g a = bz_sm g n + g n + f a
    by_cases e : a = n
    · subst e
      have := bz_sm_ext (f := f) (g := g) (n := a) (fun i hi => he i (by omega) (by omega))
      omega
    · have h1 := bz_sm_one (f := f) (g := g) (a := a) (n := n) (by omega) (fun i hi hn => he i (by omega) hn)
      have h2 := he n (by omega) (fun q => e q.symm)
      omega
def bz_ct (f : Nat → Bool) (n : Nat) : Nat := bz_sm (fun i => if f i then 1 else 0) n
abbrev bz_T : Type := Nat × (Nat → Nat) × (Nat → Nat) × (Nat → Nat → Bool) × (Nat → Nat → Bool) × (Nat → Nat)
abbrev bz_n (t : bz_T) : Nat := t.1
abbrev bz_l (t : bz_T) : Nat → Nat := t.2.1
abbrev bz_d (t : bz_T) : Nat → Nat := t.2.2.1
abbrev bz_j (t : bz_T) : Nat → Nat → Bool := t.2.2.2.1
abbrev bz_k (t : bz_T) : Nat → Nat → Bool := t.2.2.2.2.1
abbrev bz_h (t : bz_T) : Nat → Nat := t.2.2.2.2.2
/-- a town as it can come to be -/
def bz_ok (t : bz_T) : Prop := bz_n t ≤ 30 ∧ (∀ a, bz_l t a ≤ 1000000) ∧ (∀ a, bz_d t a < 4) ∧ (∀ a b, bz_j t a b = true → a < bz_n t ∧ b < bz_n t ∧ a ≠ b) ∧ (∀ a b, bz_j t a b = bz_j t b a) ∧ (∀ r a, bz_k t r a = true → r < 4 ∧ a < bz_n t) ∧ (∀ r, bz_h t r ≤ 1000000000)
/-- an area's load in a round -/
def bz_w (t : bz_T) (a r : Nat) : Nat := if bz_k t r a then (bz_l t a * 9 + 9) / 10 else bz_l t a
theorem bz_w_le {t : bz_T} (h : bz_ok t) (a r : Nat) : bz_w t a r ≤ 1000000 := by
  have := h.2.1 a
  unfold bz_w
  split <;> omega
/-- a share: each area's round, and which areas are still open -/
abbrev bz_S : Type := (Nat → Nat) × (Nat → Bool)
def bz_in (t : bz_T) (s : bz_S) (r a : Nat) : Bool := decide (a < bz_n t) && (!s.2 a && decide (s.1 a = r))
def bz_op (t : bz_T) (s : bz_S) (a : Nat) : Bool := decide (a < bz_n t) && s.2 a
def bz_ld (t : bz_T) (s : bz_S) (r : Nat) : Nat := bz_sm (fun a => if bz_in t s r a then bz_w t a r else 0) (bz_n t)
def bz_ch (t : bz_T) (s : bz_S) : Nat := bz_ct (fun a => !s.2 a && decide (s.1 a ≠ bz_d t a)) (bz_n t)
def bz_rc (j : Nat → Nat → Bool) (o : Nat → Bool) (a b : Nat) : Prop := ∀ x : Nat → Bool, x a = true → (∀ i k, x i = true → j i k = true → o k = true → x k = true) → x b = true
/-- from the least area of a set there is a way to each of them -/
def bz_tg (j : Nat → Nat → Bool) (f o : Nat → Bool) : Prop := ∀ a, f a = true → (∀ i, i < a → f i = false) → ∀ b, f b = true → bz_rc j o a b
def bz_ht (t : bz_T) (s : bz_S) (r : Nat) : Prop := bz_tg (bz_j t) (bz_in t s r) (fun a => bz_in t s r a || bz_op t s a)
noncomputable def bz_b (q : Prop) : Nat := @ite Nat q (Classical.propDecidable q) 1 0
theorem bz_b1 {q : Prop} (h : q) : bz_b q = 1 := by unfold bz_b; rw [if_pos h]
theorem bz_b0 {q : Prop} (h : ¬ q) : bz_b q = 0 := by unfold bz_b; rw [if_neg h]
theorem bz_b_le (q : Prop) : bz_b q ≤ 1 := by
  by_cases h : q
  · rw [bz_b1 h]; exact Nat.le_refl _
  · rw [bz_b0 h]; exact Nat.zero_le _
theorem bz_b_mono {q1 q2 : Prop} (h : q1 → q2) : bz_b q1 ≤ bz_b q2 := by
  by_cases h1 : q1
  · rw [bz_b1 h1, bz_b1 (h h1)]; exact Nat.le_refl _
  · rw [bz_b0 h1]; exact Nat.zero_le _
/-- the faults of a round -/
noncomputable def bz_fr (t : bz_T) (s : bz_S) (r : Nat) : Nat := bz_b (¬ bz_ht t s r) + (if bz_h t r = 0 then bz_ct (bz_in t s r) (bz_n t) else bz_b (bz_h t r < bz_ld t s r))
noncomputable def bz_ft (t : bz_T) (s : bz_S) : Nat := bz_sm (bz_fr t s) 4
def bz_gl (t : bz_T) (s : bz_S) : Nat := max (max (max (bz_ld t s 0) (bz_ld t s 1)) (bz_ld t s 2)) (bz_ld t s 3)
noncomputable def bz_co (t : bz_T) (s : bz_S) : Nat := 1000000000000 * bz_ft t s + 100 * bz_gl t s + bz_ch t s
theorem bz_ct_le (f : Nat → Bool) (n : Nat) : bz_ct f n ≤ n := by
  have := bz_sm_bd (f := fun i => if f i then 1 else 0) (b := 1) (n := n) (fun i _ => by split <;> omega)
  unfold bz_ct
  omega
theorem bz_ld_le {t : bz_T} (h : bz_ok t) (s : bz_S) (r : Nat) : bz_ld t s r ≤ 30000000 := by
  have h1 := bz_sm_bd (f := fun a => if bz_in t s r a then bz_w t a r else 0) (b := 1000000) (n := bz_n t) (fun i _ => by
    have := bz_w_le h i r
    show (if bz_in t s r i then bz_w t i r else 0) ≤ 1000000
    split <;> omega)
  have h2 := h.1
  unfold bz_ld
  omega
theorem bz_gl_le {t : bz_T} (h : bz_ok t) (s : bz_S) : bz_gl t s ≤ 30000000 := by
  have h0 := bz_ld_le h s 0
  have h1 := bz_ld_le h s 1
  have h2 := bz_ld_le h s 2
  have h3 := bz_ld_le h s 3
  unfold bz_gl
  omega
theorem bz_fr_le {t : bz_T} (h : bz_ok t) (s : bz_S) (r : Nat) : bz_fr t s r ≤ 31 := by
  have h1 := bz_ct_le (bz_in t s r) (bz_n t)
  have h2 := bz_b_le (¬ bz_ht t s r)
  have h3 := bz_b_le (bz_h t r < bz_ld t s r)
  have h4 := h.1
  unfold bz_fr
  split <;> omega
theorem bz_ft_le {t : bz_T} (h : bz_ok t) (s : bz_S) : bz_ft t s ≤ 124 := by
  have := bz_sm_bd (f := bz_fr t s) (b := 31) (n := 4) (fun i _ => bz_fr_le h s i)
  unfold bz_ft
  omega
theorem bz_ch_le {t : bz_T} (h : bz_ok t) (s : bz_S) : bz_ch t s ≤ 30 := by
  have h1 := bz_ct_le (fun a => !s.2 a && decide (s.1 a ≠ bz_d t a)) (bz_n t)
  have h2 := h.1
  unfold bz_ch
  omega
theorem bz_co_le {t : bz_T} (h : bz_ok t) (s : bz_S) : bz_co t s ≤ 124003000000030 := by
  have h1 := bz_ft_le h s
  have h2 := bz_gl_le h s
  have h3 := bz_ch_le h s
  unfold bz_co
  omega
end
section
/-! the exact search: what a beginning costs is no more than what it can become; scanning in the order of the rows keeps the first of the least -/
theorem bz_in_ext {t : bz_T} {s s2 : bz_S} (h : ∀ a, a < bz_n t → s.1 a = s2.1 a ∧ s.2 a = s2.2 a) (r : Nat) : bz_in t s r = bz_in t s2 r := by
  funext a
  unfold bz_in
  by_cases ha : a < bz_n t
  · rw [(h a ha).1, (h a ha).2]
  · simp [ha]
theorem bz_op_ext {t : bz_T} {s s2 : bz_S} (h : ∀ a, a < bz_n t → s.1 a = s2.1 a ∧ s.2 a = s2.2 a) : bz_op t s = bz_op t s2 := by
  funext a
  unfold bz_op
  by_cases ha : a < bz_n t
  · rw [(h a ha).2]
  · simp [ha]
theorem bz_ld_ext {t : bz_T} {s s2 : bz_S} (h : ∀ a, a < bz_n t → s.1 a = s2.1 a ∧ s.2 a = s2.2 a) (r : Nat) : bz_ld t s r = bz_ld t s2 r := by
  unfold bz_ld
  rw [bz_in_ext h r]
theorem bz_ch_ext {t : bz_T} {s s2 : bz_S} (h : ∀ a, a < bz_n t → s.1 a = s2.1 a ∧ s.2 a = s2.2 a) : bz_ch t s = bz_ch t s2 := by
  unfold bz_ch bz_ct
  exact bz_sm_ext fun i hi => by simp only [(h i hi).1, (h i hi).2]
theorem bz_ht_ext {t : bz_T} {s s2 : bz_S} (h : ∀ a, a < bz_n t → s.1 a = s2.1 a ∧ s.2 a = s2.2 a) (r : Nat) : bz_ht t s r = bz_ht t s2 r := by
  unfold bz_ht
  rw [bz_in_ext h r, bz_op_ext h]
theorem bz_fr_ext {t : bz_T} {s s2 : bz_S} (h : ∀ a, a < bz_n t → s.1 a = s2.1 a ∧ s.2 a = s2.2 a) (r : Nat) : bz_fr t s r = bz_fr t s2 r := by
  unfold bz_fr
  rw [bz_in_ext h r, bz_ht_ext h r, bz_ld_ext h r]
theorem bz_ft_ext {t : bz_T} {s s2 : bz_S} (h : ∀ a, a < bz_n t → s.1 a = s2.1 a ∧ s.2 a = s2.2 a) : bz_ft t s = bz_ft t s2 := bz_sm_ext fun r _ => bz_fr_ext h r
theorem bz_gl_ext {t : bz_T} {s s2 : bz_S} (h : ∀ a, a < bz_n t → s.1 a = s2.1 a ∧ s.2 a = s2.2 a) : bz_gl t s = bz_gl t s2 := by
  unfold bz_gl
  rw [bz_ld_ext h 0, bz_ld_ext h 1, bz_ld_ext h 2, bz_ld_ext h 3]
theorem bz_co_ext {t : bz_T} {s s2 : bz_S} (h : ∀ a, a < bz_n t → s.1 a = s2.1 a ∧ s.2 a = s2.2 a) : bz_co t s = bz_co t s2 := by
  unfold bz_co
  rw [bz_ft_ext h, bz_gl_ext h, bz_ch_ext h]
/-- the beginning of a share: the areas from k on are open -/
def bz_be (k : Nat) (f : Nat → Nat) : bz_S := (f, fun a => decide (k ≤ a))
def bz_fu (f : Nat → Nat) : bz_S := (f, fun _ => false)
theorem bz_be_fu {t : bz_T} {k : Nat} {f g : Nat → Nat} (hk : bz_n t ≤ k) (h : ∀ a, a < bz_n t → f a = g a) : bz_co t (bz_be k f) = bz_co t (bz_fu g) := bz_co_ext fun a ha => ⟨h a ha, by
  show decide (k ≤ a) = false
  exact decide_eq_false (by omega)⟩
theorem bz_rc_mono {j : Nat → Nat → Bool} {o1 o2 : Nat → Bool} (h : ∀ i, o1 i = true → o2 i = true) {a b : Nat} (hr : bz_rc j o1 a b) : bz_rc j o2 a b := fun x h1 h2 => hr x h1 fun i k q1 q2 q3 => h2 i k q1 q2 (h k q3)
section BZM
variable {t : bz_T} {k m : Nat} {f g : Nat → Nat} (hkm : k ≤ m) (hfg : ∀ a, a < k → a < bz_n t → f a = g a)
theorem bz_in_be (i r : Nat) (f : Nat → Nat) (k : Nat) : bz_in t (bz_be k f) r i = true ↔ i < bz_n t ∧ i < k ∧ f i = r := by
  unfold bz_in bz_be
  simp [Nat.not_le]
theorem bz_in_mono {r i : Nat} (hkm : k ≤ m) (hfg : ∀ a, a < k → a < bz_n t → f a = g a) (h : bz_in t (bz_be k f) r i = true) : bz_in t (bz_be m g) r i = true := by
  rw [bz_in_be] at h ⊢
  exact ⟨h.1, by omega, by rw [← hfg i h.2.1 h.1]; exact h.2.2⟩
theorem bz_ld_mono (hkm : k ≤ m) (hfg : ∀ a, a < k → a < bz_n t → f a = g a) (r : Nat) : bz_ld t (bz_be k f) r ≤ bz_ld t (bz_be m g) r := by
  unfold bz_ld
  refine bz_sm_le fun i _ => ?_
  by_cases h : bz_in t (bz_be k f) r i = true
  · rw [if_pos h, if_pos (bz_in_mono hkm hfg h)]
    exact Nat.le_refl _
  · rw [if_neg h]
    exact Nat.zero_le _
theorem bz_ct_mono {f g : Nat → Bool} {n : Nat} (h : ∀ i, i < n → f i = true → g i = true) : bz_ct f n ≤ bz_ct g n := by
  unfold bz_ct
  refine bz_sm_le fun i hi => ?_
  by_cases q : f i = true
  · rw [if_pos q, if_pos (h i hi q)]
    exact Nat.le_refl _
  · rw [if_neg q]
    exact Nat.zero_le _
theorem bz_ch_mono (hkm : k ≤ m) (hfg : ∀ a, a < k → a < bz_n t → f a = g a) : bz_ch t (bz_be k f) ≤ bz_ch t (bz_be m g) := by
  unfold bz_ch
  refine bz_ct_mono fun i hi h => ?_
  have h := (Bool.and_eq_true _ _).mp h
  have h1 : i < k := by
    have := h.1
    simp [bz_be] at this
    omega
  have h2 : f i ≠ bz_d t i := of_decide_eq_true h.2
  refine (Bool.and_eq_true _ _).mpr ⟨?_, decide_eq_true ?_⟩
  · simp [bz_be]
    omega
  · show g i ≠ bz_d t i
    rw [← hfg i h1 hi]
    exact h2
theorem bz_ht_mono (hkm : k ≤ m) (hfg : ∀ a, a < k → a < bz_n t → f a = g a) {r : Nat} (h : bz_ht t (bz_be m g) r) : bz_ht t (bz_be k f) r := by
  intro a ha hl b hb
  have ha' := (bz_in_be a r f k).mp ha
  refine bz_rc_mono ?_ (h a (bz_in_mono hkm hfg ha) ?_ b (bz_in_mono hkm hfg hb))
  · intro i hi
    by_cases hik : i < k
    · have e : bz_in t (bz_be m g) r i = true → bz_in t (bz_be k f) r i = true := by
        rw [bz_in_be, bz_in_be]
        exact fun q => ⟨q.1, hik, by rw [hfg i hik q.1]; exact q.2.2⟩
      rcases (Bool.or_eq_true _ _).mp hi with q | q
      · simp [e q]
      · simp [bz_op, bz_be] at q
        omega
    · have hn : i < bz_n t := by
        rcases (Bool.or_eq_true _ _).mp hi with q | q
        · exact ((bz_in_be i r g m).mp q).1
        · simp [bz_op] at q
          exact q.1
      simp [bz_op, bz_be, hn, Nat.not_lt.mp hik]
  · intro i hi
    have q := hl i hi
    cases e : bz_in t (bz_be m g) r i
    · rfl
    · have e' := (bz_in_be i r g m).mp e
      have : bz_in t (bz_be k f) r i = true := (bz_in_be i r f k).mpr ⟨e'.1, by omega, by rw [hfg i (by omega) e'.1]; exact e'.2.2⟩
      rw [this] at q
      exact q
theorem bz_fr_mono (hkm : k ≤ m) (hfg : ∀ a, a < k → a < bz_n t → f a = g a) (r : Nat) : bz_fr t (bz_be k f) r ≤ bz_fr t (bz_be m g) r := by
  have h1 : bz_b (¬ bz_ht t (bz_be k f) r) ≤ bz_b (¬ bz_ht t (bz_be m g) r) := bz_b_mono fun h q => h (bz_ht_mono hkm hfg q)
  have h2 : bz_ct (bz_in t (bz_be k f) r) (bz_n t) ≤ bz_ct (bz_in t (bz_be m g) r) (bz_n t) := bz_ct_mono fun i _ h => bz_in_mono hkm hfg h
  have h3 : bz_b (bz_h t r < bz_ld t (bz_be k f) r) ≤ bz_b (bz_h t r < bz_ld t (bz_be m g) r) := bz_b_mono fun h => Nat.lt_of_lt_of_le h (bz_ld_mono hkm hfg r)
  unfold bz_fr
  split <;> omega
theorem bz_co_mono (hkm : k ≤ m) (hfg : ∀ a, a < k → a < bz_n t → f a = g a) : bz_co t (bz_be k f) ≤ bz_co t (bz_be m g) := by
  have h1 : bz_ft t (bz_be k f) ≤ bz_ft t (bz_be m g) := bz_sm_le fun r _ => bz_fr_mono hkm hfg r
  have a0 := bz_ld_mono hkm hfg 0
  have a1 := bz_ld_mono hkm hfg 1
  have a2 := bz_ld_mono hkm hfg 2
  have a3 := bz_ld_mono hkm hfg 3
  have h2 : bz_gl t (bz_be k f) ≤ bz_gl t (bz_be m g) := by
    unfold bz_gl
    omega
  have h3 := bz_ch_mono hkm hfg
  unfold bz_co
  omega
end BZM
/-- the whole shares that go on from a beginning -/
def bz_E (t : bz_T) (k : Nat) (f s : Nat → Nat) : Prop := (∀ a, a < bz_n t → s a < 4) ∧ ∀ a, a < k → a < bz_n t → s a = f a
def bz_lx (n : Nat) (f g : Nat → Nat) : Prop := (∀ a, a < n → f a = g a) ∨ ∃ a, a < n ∧ (∀ i, i < a → f i = g i) ∧ f a < g a
def bz_up (t : bz_T) (E : (Nat → Nat) → Prop) (b c : Nat × (Nat → Nat)) : Prop :=
  (c.1 = b.1 ∧ (∀ a, a < bz_n t → c.2 a = b.2 a) ∧ ∀ s, E s → b.1 ≤ bz_co t (bz_fu s)) ∨
  (E c.2 ∧ c.1 = bz_co t (bz_fu c.2) ∧ c.1 < b.1 ∧ ∀ s, E s → c.1 < bz_co t (bz_fu s) ∨ (c.1 = bz_co t (bz_fu s) ∧ bz_lx (bz_n t) c.2 s))
theorem bz_cut {t : bz_T} {k : Nat} {f : Nat → Nat} {b : Nat × (Nat → Nat)} (hk : k ≤ bz_n t) (h : b.1 ≤ bz_co t (bz_be k f)) : bz_up t (bz_E t k f) b b :=
  Or.inl ⟨rfl, fun _ _ => rfl, fun s hs => Nat.le_trans h (by
    have := bz_co_mono (t := t) (f := f) (g := s) hk (fun a ha hn => (hs.2 a ha hn).symm)
    rw [bz_be_fu (Nat.le_refl _) (fun _ _ => rfl)] at this
    exact this)⟩
theorem bz_leaf {t : bz_T} {k : Nat} {f g : Nat → Nat} {b : Nat × (Nat → Nat)} (hk : bz_n t ≤ k) (hf : ∀ a, a < bz_n t → f a < 4) (hg : ∀ a, a < bz_n t → g a = f a) (h : bz_co t (bz_be k f) < b.1) : bz_up t (bz_E t k f) b (bz_co t (bz_be k f), g) := by
  have e : bz_co t (bz_be k f) = bz_co t (bz_fu g) := bz_be_fu hk (fun a ha => (hg a ha).symm)
  refine Or.inr ⟨⟨fun a ha => by rw [show (bz_co t (bz_be k f), g).2 a = g a from rfl, hg a ha]; exact hf a ha, fun a _ hn => hg a hn⟩, e, h, fun s hs => Or.inr ⟨?_, Or.inl fun a ha => ?_⟩⟩
  · exact bz_be_fu hk fun a ha => (hs.2 a (by omega) ha).symm
  · show g a = s a
    rw [hg a ha, hs.2 a (by omega) ha]
/-- two parts of the rows, the first one before the second -/
theorem bz_seq {t : bz_T} {E E1 E2 : (Nat → Nat) → Prop} {b c d : Nat × (Nat → Nat)} (hE : ∀ s, E s ↔ E1 s ∨ E2 s) (hlt : ∀ s1 s2, E1 s1 → E2 s2 → bz_lx (bz_n t) s1 s2) (hx : ∀ s s2, E1 s → (∀ a, a < bz_n t → s2 a = s a) → E1 s2) (h1 : bz_up t E1 b c) (h2 : bz_up t E2 c d) : bz_up t E b d := by
  rcases h1 with ⟨p1, p2, p3⟩ | ⟨p1, p2, p3, p4⟩
  · rcases h2 with ⟨q1, q2, q3⟩ | ⟨q1, q2, q3, q4⟩
    · refine Or.inl ⟨q1.trans p1, fun a ha => (q2 a ha).trans (p2 a ha), fun s hs => ?_⟩
      rcases (hE s).mp hs with h | h
      · exact p3 s h
      · rw [← p1]
        exact q3 s h
    · refine Or.inr ⟨(hE _).mpr (Or.inr q1), q2, by omega, fun s hs => ?_⟩
      rcases (hE s).mp hs with h | h
      · have := p3 s h
        exact Or.inl (by omega)
      · exact q4 s h
  · rcases h2 with ⟨q1, q2, q3⟩ | ⟨q1, q2, q3, q4⟩
    · have e1 : E1 d.2 := hx c.2 d.2 p1 q2
      have e2 : bz_co t (bz_fu d.2) = bz_co t (bz_fu c.2) := bz_co_ext fun a ha => ⟨q2 a ha, rfl⟩
      refine Or.inr ⟨(hE _).mpr (Or.inl e1), by rw [q1, e2, p2], by omega, fun s hs => ?_⟩
      rcases (hE s).mp hs with h | h
      · rcases p4 s h with z | ⟨z1, z2⟩
        · exact Or.inl (by omega)
        · refine Or.inr ⟨by omega, ?_⟩
          rcases z2 with z | ⟨a, z3, z4, z5⟩
          · exact Or.inl fun a ha => (q2 a ha).trans (z a ha)
          · exact Or.inr ⟨a, z3, fun i hi => (q2 i (by omega)).trans (z4 i hi), by rw [q2 a z3]; exact z5⟩
      · have z := q3 s h
        by_cases w : d.1 = bz_co t (bz_fu s)
        · exact Or.inr ⟨w, hlt d.2 s e1 h⟩
        · exact Or.inl (by omega)
    · refine Or.inr ⟨(hE _).mpr (Or.inr q1), q2, by omega, fun s hs => ?_⟩
      rcases (hE s).mp hs with h | h
      · rcases p4 s h with z | ⟨z1, z2⟩
        · exact Or.inl (by omega)
        · exact Or.inl (by omega)
      · exact q4 s h
theorem bz_up_iff {t : bz_T} {E E2 : (Nat → Nat) → Prop} {b c : Nat × (Nat → Nat)} (hE : ∀ s, E s ↔ E2 s) (h : bz_up t E b c) : bz_up t E2 b c := by
  have e : E = E2 := funext fun s => propext (hE s)
  rw [← e]
  exact h
theorem bz_rd0 {t : bz_T} {k : Nat} {f : Nat → Nat} {b : Nat × (Nat → Nat)} : bz_up t (fun s => bz_E t k f s ∧ s k < 0) b b := Or.inl ⟨rfl, fun _ _ => rfl, fun _ hs => absurd hs.2 (by omega)⟩
theorem bz_rd1 {t : bz_T} {k j : Nat} {f f2 : Nat → Nat} {b c d : Nat × (Nat → Nat)} (hk : k < bz_n t) (hf : ∀ a, a < k → f2 a = f a) (hfk : f2 k = j) (h1 : bz_up t (fun s => bz_E t k f s ∧ s k < j) b c) (h2 : bz_up t (bz_E t (k + 1) f2) c d) : bz_up t (fun s => bz_E t k f s ∧ s k < j + 1) b d := by
  refine bz_seq (E1 := fun s => bz_E t k f s ∧ s k < j) (E2 := fun s => bz_E t (k + 1) f2 s) ?_ ?_ ?_ h1 h2
  · intro s
    constructor
    · rintro ⟨⟨q1, q2⟩, q3⟩
      by_cases e : s k < j
      · exact Or.inl ⟨⟨q1, q2⟩, e⟩
      · refine Or.inr ⟨q1, fun a ha hn => ?_⟩
        by_cases e2 : a = k
        · subst e2
          rw [hfk]
          omega
        · rw [hf a (by omega)]
          exact q2 a (by omega) hn
    · rintro (⟨q1, q2⟩ | ⟨q1, q2⟩)
      · exact ⟨q1, by omega⟩
      · refine ⟨⟨q1, fun a ha hn => ?_⟩, ?_⟩
        · rw [← hf a ha]
          exact q2 a (by omega) hn
        · have := q2 k (by omega) hk
          omega
  · rintro s1 s2 ⟨⟨q1, q2⟩, q3⟩ ⟨q4, q5⟩
    refine Or.inr ⟨k, hk, fun i hi => ?_, ?_⟩
    · rw [q2 i hi (by omega), q5 i (by omega) (by omega), hf i hi]
    · rw [q5 k (by omega) hk, hfk]
      exact q3
  · rintro s s2 ⟨⟨q1, q2⟩, q3⟩ h
    exact ⟨⟨fun a ha => by rw [h a ha]; exact q1 a ha, fun a ha hn => by rw [h a hn]; exact q2 a ha hn⟩, by rw [h k hk]; exact q3⟩
theorem bz_rd4 {t : bz_T} {k : Nat} {f : Nat → Nat} {b c : Nat × (Nat → Nat)} (hk : k < bz_n t) (h : bz_up t (fun s => bz_E t k f s ∧ s k < 4) b c) : bz_up t (bz_E t k f) b c := bz_up_iff (fun s => ⟨fun q => q.1, fun q => ⟨q, q.1 k hk⟩⟩) h
/-- the share that is due: the first one of those with the least cost -/
def bz_bs (t : bz_T) (f : Nat → Nat) : Prop := (∀ a, a < bz_n t → f a < 4) ∧ ∀ s, (∀ a, a < bz_n t → s a < 4) → bz_co t (bz_fu f) < bz_co t (bz_fu s) ∨ (bz_co t (bz_fu f) = bz_co t (bz_fu s) ∧ bz_lx (bz_n t) f s)
theorem bz_bs_of {t : bz_T} {f : Nat → Nat} {b c : Nat × (Nat → Nat)} (ht : ∀ a, bz_d t a < 4) (hb : bz_co t (bz_fu (bz_d t)) < b.1) (h : bz_up t (bz_E t 0 f) b c) : bz_bs t c.2 := by
  have hd : bz_E t 0 f (bz_d t) := ⟨fun a _ => ht a, fun a ha => absurd ha (by omega)⟩
  rcases h with ⟨-, -, q⟩ | ⟨q1, q2, q3, q4⟩
  · have := q _ hd
    omega
  · refine ⟨q1.1, fun s hs => ?_⟩
    rw [← q2]
    exact q4 s ⟨hs, fun a ha => absurd ha (by omega)⟩
theorem bz_lx_eq {n : Nat} {f g : Nat → Nat} (h1 : bz_lx n f g) (h2 : bz_lx n g f) : ∀ a, a < n → f a = g a := by
  rcases h1 with h | ⟨a, a1, a2, a3⟩
  · exact h
  · rcases h2 with h | ⟨b, b1, b2, b3⟩
    · exact fun i hi => (h i hi).symm
    · exfalso
      rcases Nat.lt_trichotomy a b with q | q | q
      · have := b2 a q
        omega
      · subst q
        omega
      · have := a2 b q
        omega
theorem bz_bs_eq {t : bz_T} {f g : Nat → Nat} (h1 : bz_bs t f) (h2 : bz_bs t g) : ∀ a, a < bz_n t → f a = g a := by
  have q1 := h1.2 g h2.1
  have q2 := h2.2 f h1.1
  rcases q1 with z | ⟨z1, z2⟩
  · rcases q2 with w | ⟨w1, w2⟩
    · omega
    · omega
  · rcases q2 with w | ⟨w1, w2⟩
    · omega
    · exact bz_lx_eq z2 w2
end
section
/-! ways: a pass over the areas; when a pass finds nothing more, all that can be reached is reached -/
/-- one pass over the areas up to k -/
def bz_ps (j : Nat → Nat → Bool) (o : Nat → Bool) (x : Nat → Bool) : Nat → Nat → Bool
  | 0 => x
  | k + 1 => if bz_ps j o x k k then (fun i => bz_ps j o x k i || (j k i && o i)) else bz_ps j o x k
theorem bz_ps_up {j : Nat → Nat → Bool} {o x : Nat → Bool} {i : Nat} (h : x i = true) : ∀ k, bz_ps j o x k i = true
  | 0 => h
  | k + 1 => by
    have := bz_ps_up (j := j) (o := o) h k
    unfold bz_ps
    split
    · simp [this]
    · exact this
/-- what a pass finds can be reached -/
theorem bz_ps_rc {j : Nat → Nat → Bool} {o x : Nat → Bool} {a : Nat} (h : ∀ i, x i = true → bz_rc j o a i) : ∀ k i, bz_ps j o x k i = true → bz_rc j o a i
  | 0, i, hi => h i hi
  | k + 1, i, hi => by
    have ih := bz_ps_rc (j := j) (o := o) (x := x) (a := a) h k
    unfold bz_ps at hi
    split at hi
    · rename_i hk
      rcases (Bool.or_eq_true _ _).mp hi with q | q
      · exact ih i q
      · have q2 := (Bool.and_eq_true _ _).mp q
        exact fun y h1 h2 => h2 k i (ih k hk y h1 h2) q2.1 q2.2
    · exact ih i hi
/-- a pass that finds nothing more: the set is closed -/
theorem bz_ps_cl {j : Nat → Nat → Bool} {o x : Nat → Bool} {n : Nat} (h : ∀ i, i < 32 → bz_ps j o x n i = x i) {k : Nat} (hk : k < n) (hn : n ≤ 32) {i : Nat} (hi : i < 32) (hx : x k = true) (hj : j k i = true) (ho : o i = true) : x i = true := by
  have mono : ∀ m d, bz_ps j o x m i = true → bz_ps j o x (m + d) i = true := by
    intro m d hm
    induction d with
    | zero => exact hm
    | succ d ih =>
      rw [← Nat.add_assoc]
      unfold bz_ps
      split
      · simp [ih]
      · exact ih
  have h1 : bz_ps j o x (k + 1) i = true := by
    unfold bz_ps
    rw [if_pos (bz_ps_up hx k)]
    simp [hj, ho]
  have h2 := mono (k + 1) (n - (k + 1)) h1
  rw [show k + 1 + (n - (k + 1)) = n by omega, h i hi] at h2
  exact h2
theorem bz_ct_lt {f g : Nat → Bool} {n : Nat} (h : ∀ i, i < n → f i = true → g i = true) {a : Nat} (ha : a < n) (hf : f a = false) (hg : g a = true) : bz_ct f n < bz_ct g n := by
  have h1 : bz_ct f n + 1 = bz_ct (fun i => f i || decide (i = a)) n := by
    unfold bz_ct
    have := bz_sm_one (f := fun i => if f i then 1 else 0) (g := fun i => if (f i || decide (i = a)) then 1 else 0) (a := a) (n := n) ha (fun i _ hne => by simp [hne])
    have e0 : (if (f a || decide (a = a)) = true then 1 else 0 : Nat) = 1 := by simp
    have e1 : (if f a = true then 1 else 0 : Nat) = 0 := by simp [hf]
    dsimp only at this ⊢
    rw [e0, e1] at this
    omega
  have h2 : bz_ct (fun i => f i || decide (i = a)) n ≤ bz_ct g n := bz_ct_mono fun i hi q => by
    rcases (Bool.or_eq_true _ _).mp q with z | z
    · exact h i hi z
    · have : i = a := by simpa using z
      rw [this]
      exact hg
  omega
/-- what holds at the head of the passes: x is reached, y was reached a pass before -/
def bz_hw (t : bz_T) (f o x y : Nat → Bool) (q : Nat) : Prop :=
  (∀ a, f a = true → (∀ i, i < a → f i = false) → x a = true ∧ ∀ i, x i = true → bz_rc (bz_j t) o a i) ∧
  (∀ i, x i = true → i < bz_n t) ∧ (∀ i, y i = true → x i = true) ∧ q ≤ bz_ct y 32 ∧ ((∀ i, y i = false) ∨ x = bz_ps (bz_j t) o y (bz_n t))
theorem bz_least {f : Nat → Bool} : ∀ {b : Nat}, f b = true → ∃ a, a ≤ b ∧ f a = true ∧ ∀ i, i < a → f i = false := by
  intro b hb
  obtain ⟨a, h1, h2⟩ := pk_least (fun k => f k = true) ⟨b, hb⟩
  refine ⟨a, ?_, h1, fun i hi => ?_⟩
  · rcases Nat.lt_or_ge b a with q | q
    · exact absurd hb (h2 b q)
    · exact q
  · cases e : f i
    · rfl
    · exact absurd e (h2 i hi)
theorem bz_hw0 {t : bz_T} {f o : Nat → Bool} (hf : ∀ i, f i = true → i < bz_n t) : bz_hw t f o (fun i => f i && !(decide (∃ j, j < i ∧ f j = true))) (fun _ => false) 0 := by
  refine ⟨fun a ha hl => ⟨?_, fun i hi => ?_⟩, fun i hi => hf i ((Bool.and_eq_true _ _).mp hi).1, fun i hi => absurd hi (by simp), Nat.zero_le _, Or.inl fun _ => rfl⟩
  · have : ¬ ∃ j, j < a ∧ f j = true := fun ⟨j, h1, h2⟩ => by
      rw [hl j h1] at h2
      exact absurd h2 (by simp)
    simp [ha, this]
  · have h := (Bool.and_eq_true _ _).mp hi
    have h2 : ¬ ∃ j, j < i ∧ f j = true := by simpa using h.2
    have e : i = a := by
      rcases Nat.lt_trichotomy i a with q | q | q
      · rw [hl i q] at h
        exact absurd h.1 (by simp)
      · exact q
      · exact absurd ⟨a, q, ha⟩ h2
    subst e
    exact fun y h1 _ => h1
theorem bz_ps_in {t : bz_T} (ht : bz_ok t) {o x : Nat → Bool} (hx : ∀ i, x i = true → i < bz_n t) : ∀ k i, bz_ps (bz_j t) o x k i = true → i < bz_n t
  | 0, i, hi => hx i hi
  | k + 1, i, hi => by
    unfold bz_ps at hi
    split at hi
    · rcases (Bool.or_eq_true _ _).mp hi with q | q
      · exact bz_ps_in ht hx k i q
      · exact (ht.2.2.2.1 k i ((Bool.and_eq_true _ _).mp q).1).2.1
    · exact bz_ps_in ht hx k i hi
theorem bz_hw1 {t : bz_T} (ht : bz_ok t) {f o x y : Nat → Bool} {q : Nat} (h : bz_hw t f o x y q) (hne : ¬ ∀ i, i < 32 → x i = y i) : bz_hw t f o (bz_ps (bz_j t) o x (bz_n t)) x (q + 1) := by
  obtain ⟨h1, h2, h3, h4, h5⟩ := h
  refine ⟨fun a ha hl => ⟨bz_ps_up (h1 a ha hl).1 _, fun i hi => bz_ps_rc (h1 a ha hl).2 _ i hi⟩, fun i hi => bz_ps_in ht h2 _ i hi, fun i hi => bz_ps_up hi _, ?_, Or.inr rfl⟩
  have : ∃ i, i < 32 ∧ ¬ x i = y i := Classical.byContradiction fun z => hne fun i hi => Classical.byContradiction fun w => z ⟨i, hi, w⟩
  obtain ⟨i, hi, hxy⟩ := this
  have : y i = false ∧ x i = true := by
    cases e1 : y i
    · cases e2 : x i
      · rw [e1, e2] at hxy
        exact absurd rfl hxy
      · exact ⟨rfl, rfl⟩
    · rw [h3 i e1, e1] at hxy
      exact absurd rfl hxy
  have := bz_ct_lt (fun j _ => h3 j) hi this.1 this.2
  omega
theorem bz_hw_t {t : bz_T} {f o x y : Nat → Bool} {q : Nat} (h : bz_hw t f o x y q) (hs : ∀ i, f i = true → x i = true) : bz_tg (bz_j t) f o := fun a ha hl b hb => (h.1 a ha hl).2 b (hs b hb)
theorem bz_ct_cut {f : Nat → Bool} {n : Nat} : ∀ {m : Nat}, n ≤ m → (∀ i, f i = true → i < n) → bz_ct f m ≤ n := by
  intro m hm hf
  have e : ∀ d, bz_ct f (n + d) = bz_ct f n := by
    intro d
    induction d with
    | zero => rfl
    | succ d ih =>
      show bz_ct f (n + d) + (if f (n + d) then 1 else 0) = bz_ct f n
      have : ¬ f (n + d) = true := fun z => by
        have := hf _ z
        omega
      rw [if_neg this, ih]
      rfl
  rw [show m = n + (m - n) by omega, e]
  exact bz_ct_le f n
theorem bz_hw_f {t : bz_T} (ht : bz_ok t) {f o x y : Nat → Bool} {q : Nat} (hf : ∀ i, f i = true → i < bz_n t) (h : bz_hw t f o x y q) (hend : 30 ≤ q ∨ ∀ i, i < 32 → x i = y i) {b : Nat} (hb : f b = true) (hx : x b = false) : ¬ bz_tg (bz_j t) f o := by
  intro htg
  have hn : bz_n t ≤ 30 := ht.1
  obtain ⟨a, -, ha, hl⟩ := bz_least hb
  have hcl : ∀ i, i < 32 → x i = y i := by
    rcases hend with hq | hq
    · refine Classical.byContradiction fun hne => ?_
      have h1 := (bz_hw1 ht h hne).2.2.2.1
      have h2 := bz_ct_cut (f := x) (n := bz_n t) (m := 32) (by omega) h.2.1
      omega
    · exact hq
  obtain ⟨h1, h2, h3, h4, h5⟩ := h
  have hxa := (h1 a ha hl).1
  rcases h5 with h5 | h5
  · have := hcl a (by have := h2 a hxa; omega)
    rw [hxa, h5 a] at this
    exact absurd this (by simp)
  · have hall : ∀ i, i < 32 → bz_ps (bz_j t) o x (bz_n t) i = x i := by
      intro i hi
      have exy : x = y := by
        funext z
        rcases Nat.lt_or_ge z 32 with w | w
        · exact hcl z w
        · have e1 : x z = false := by
            cases e : x z
            · rfl
            · have := h2 z e
              omega
          have e2 : y z = false := by
            cases e : y z
            · rfl
            · rw [h3 z e] at e1
              exact absurd e1 (by simp)
          rw [e1, e2]
      rw [← exy] at h5
      exact (congrFun h5 i).symm
    have := htg a ha hl b hb x hxa (fun i k q1 q2 q3 => by
      have w := ht.2.2.2.1 i k q2
      exact bz_ps_cl hall w.1 (by omega) (by omega) q1 q2 q3)
    rw [hx] at this
    exact absurd this (by simp)
end
section
/-! counting bits by the sums of neighbours -/
theorem bz_an {u v c w : Nat} (hu : u < 256) (hc : c < 256) : (u + 256 * v) &&& (c + 256 * w) = (u &&& c) + 256 * (v &&& w) := by
  have h1 : ((u + 256 * v) &&& (c + 256 * w)) % 2 ^ 8 = ((u + 256 * v) % 2 ^ 8) &&& ((c + 256 * w) % 2 ^ 8) := Nat.and_mod_two_pow
  have h2 : ((u + 256 * v) &&& (c + 256 * w)) / 2 ^ 8 = ((u + 256 * v) / 2 ^ 8) &&& ((c + 256 * w) / 2 ^ 8) := Nat.and_div_two_pow
  rw [show (u + 256 * v) % 2 ^ 8 = u by omega, show (c + 256 * w) % 2 ^ 8 = c by omega] at h1
  rw [show (u + 256 * v) / 2 ^ 8 = v by omega, show (c + 256 * w) / 2 ^ 8 = w by omega] at h2
  omega
def bz_p1 (x : Nat) : Nat := x - (x / 2 &&& 85)
def bz_p2 (x : Nat) : Nat := (x &&& 51) + (x / 4 &&& 51)
def bz_p3 (x : Nat) : Nat := (x + x / 16) &&& 15
theorem bz_q1 : ∀ a, a < 256 → ∀ y, y < 2 → (a / 2 + 128 * y) &&& 85 = a / 2 &&& 85 := by decide +kernel
theorem bz_q2 : ∀ a, a < 256 → ∀ y, y < 4 → (a / 4 + 64 * y) &&& 51 = a / 4 &&& 51 := by decide +kernel
theorem bz_q3 : ∀ a, a < 69 → ∀ y, y < 5 → (a + a / 16 + 16 * y) &&& 15 = (a + a / 16) &&& 15 := by decide +kernel
theorem bz_q4 : ∀ a, a < 256 → bz_p1 a < 256 ∧ (a / 2 &&& 85) ≤ a ∧ bz_p2 (bz_p1 a) < 69 ∧ bz_p2 (bz_p1 a) % 16 < 5 ∧ bz_p3 (bz_p2 (bz_p1 a)) = bz_ct (fun i => a.testBit i) 8 ∧ bz_p3 (bz_p2 (bz_p1 a)) ≤ 8 := by decide +kernel
theorem bz_s1 {a y m : Nat} (ha : a < 256) : (a + 256 * y) - ((a + 256 * y) / 2 &&& (85 + 256 * m)) = bz_p1 a + 256 * (y - (y / 2 &&& m)) := by
  have e : (a + 256 * y) / 2 = (a / 2 + 128 * (y % 2)) + 256 * (y / 2) := by omega
  have h1 := bz_q1 a ha (y % 2) (by omega)
  have h2 := (bz_q4 a ha).2.1
  have h3 : (y / 2 &&& m) ≤ y / 2 := Nat.and_le_left
  rw [e, bz_an (by omega) (by omega), h1]
  unfold bz_p1
  omega
theorem bz_s2 {a y m : Nat} (ha : a < 256) : ((a + 256 * y) &&& (51 + 256 * m)) + ((a + 256 * y) / 4 &&& (51 + 256 * m)) = bz_p2 a + 256 * ((y &&& m) + (y / 4 &&& m)) := by
  have e : (a + 256 * y) / 4 = (a / 4 + 64 * (y % 4)) + 256 * (y / 4) := by omega
  have h1 := bz_q2 a ha (y % 4) (by omega)
  rw [e, bz_an ha (by omega), bz_an (by omega) (by omega), h1]
  unfold bz_p2
  omega
theorem bz_s3 {a y m : Nat} (ha : a < 69) (hy : y % 16 < 5) : ((a + 256 * y) + (a + 256 * y) / 16) &&& (15 + 256 * m) = bz_p3 a + 256 * ((y + y / 16) &&& m) := by
  have e : (a + 256 * y) + (a + 256 * y) / 16 = (a + a / 16 + 16 * (y % 16)) + 256 * (y + y / 16) := by omega
  have h1 := bz_q3 a ha (y % 16) hy
  rw [e, bz_an (by omega) (by omega), h1]
  rfl
/-- the whole count of a number of four bytes -/
def bz_pc (x : Nat) : Nat :=
  let x1 := x - (x / 2 &&& 1431655765)
  let x2 := (x1 &&& 858993459) + (x1 / 4 &&& 858993459)
  let x3 := (x2 + x2 / 16) &&& 252645135
  let x4 := x3 + x3 / 256
  let x5 := x4 + x4 / 65536
  x5 &&& 63
theorem bz_pc_eq {a b c d : Nat} (ha : a < 256) (hb : b < 256) (hc : c < 256) (hd : d < 256) : bz_pc (a + 256 * (b + 256 * (c + 256 * d))) = bz_ct (fun i => a.testBit i) 8 + bz_ct (fun i => b.testBit i) 8 + bz_ct (fun i => c.testBit i) 8 + bz_ct (fun i => d.testBit i) 8 := by
  obtain ⟨a1, -, a2, a3, a4, a5⟩ := bz_q4 a ha
  obtain ⟨b1, -, b2, b3, b4, b5⟩ := bz_q4 b hb
  obtain ⟨c1, -, c2, c3, c4, c5⟩ := bz_q4 c hc
  obtain ⟨d1, -, d2, d3, d4, d5⟩ := bz_q4 d hd
  have e1 : (a + 256 * (b + 256 * (c + 256 * d))) - ((a + 256 * (b + 256 * (c + 256 * d))) / 2 &&& 1431655765) = bz_p1 a + 256 * (bz_p1 b + 256 * (bz_p1 c + 256 * bz_p1 d)) := by
    rw [show (1431655765 : Nat) = 85 + 256 * (85 + 256 * (85 + 256 * 85)) from rfl, bz_s1 ha, bz_s1 hb, bz_s1 hc]
    rfl
  have e2 : ((bz_p1 a + 256 * (bz_p1 b + 256 * (bz_p1 c + 256 * bz_p1 d))) &&& 858993459) + ((bz_p1 a + 256 * (bz_p1 b + 256 * (bz_p1 c + 256 * bz_p1 d))) / 4 &&& 858993459) = bz_p2 (bz_p1 a) + 256 * (bz_p2 (bz_p1 b) + 256 * (bz_p2 (bz_p1 c) + 256 * bz_p2 (bz_p1 d))) := by
    rw [show (858993459 : Nat) = 51 + 256 * (51 + 256 * (51 + 256 * 51)) from rfl, bz_s2 a1, bz_s2 b1, bz_s2 c1]
    rfl
  have e3 : ((bz_p2 (bz_p1 a) + 256 * (bz_p2 (bz_p1 b) + 256 * (bz_p2 (bz_p1 c) + 256 * bz_p2 (bz_p1 d)))) + (bz_p2 (bz_p1 a) + 256 * (bz_p2 (bz_p1 b) + 256 * (bz_p2 (bz_p1 c) + 256 * bz_p2 (bz_p1 d)))) / 16) &&& 252645135 = bz_p3 (bz_p2 (bz_p1 a)) + 256 * (bz_p3 (bz_p2 (bz_p1 b)) + 256 * (bz_p3 (bz_p2 (bz_p1 c)) + 256 * bz_p3 (bz_p2 (bz_p1 d)))) := by
    rw [show (252645135 : Nat) = 15 + 256 * (15 + 256 * (15 + 256 * 15)) from rfl, bz_s3 a2 (by omega), bz_s3 b2 (by omega), bz_s3 c2 (by omega)]
    rfl
  have h63 : ∀ z : Nat, z &&& 63 = z % 64 := fun z => by
    rw [show (63 : Nat) = 2 ^ 6 - 1 from rfl, Nat.and_two_pow_sub_one_eq_mod]
  unfold bz_pc
  dsimp only
  rw [e1, e2, e3, h63, a4, b4, c4, d4]
  rw [a4] at a5
  rw [b4] at b5
  rw [c4] at c5
  rw [d4] at d5
  clear e1 e2 e3 a4 b4 c4 d4 a1 a2 a3 b1 b2 b3 c1 c2 c3 d1 d2 d3 h63
  generalize bz_ct (fun i => a.testBit i) 8 = p0 at *
  generalize bz_ct (fun i => b.testBit i) 8 = p1 at *
  generalize bz_ct (fun i => c.testBit i) 8 = p2 at *
  generalize bz_ct (fun i => d.testBit i) 8 = p3 at *
  rw [show (p0 + 256 * (p1 + 256 * (p2 + 256 * p3))) / 256 = p1 + 256 * (p2 + 256 * p3) by omega]
  rw [show (p0 + 256 * (p1 + 256 * (p2 + 256 * p3)) + (p1 + 256 * (p2 + 256 * p3))) / 65536 = p2 + p3 + 256 * p3 by omega]
  omega
theorem bz_ct_ext {f g : Nat → Bool} {n : Nat} (h : ∀ i, i < n → f i = g i) : bz_ct f n = bz_ct g n := by
  unfold bz_ct
  exact bz_sm_ext fun i hi => by rw [h i hi]
theorem bz_ct_add (f : Nat → Bool) (m : Nat) : ∀ k, bz_ct f (m + k) = bz_ct f m + bz_ct (fun i => f (m + i)) k
  | 0 => rfl
  | k + 1 => by
    show bz_ct f (m + k) + (if f (m + k) then 1 else 0) = bz_ct f m + (bz_ct (fun i => f (m + i)) k + (if f (m + k) then 1 else 0))
    rw [bz_ct_add f m k]
    omega
theorem bz_pc_ct {x : Nat} (hx : x < 2 ^ 32) : bz_pc x = bz_ct (fun i => x.testBit i) 32 := by
  have e : x = x % 256 + 256 * (x / 256 % 256 + 256 * (x / 65536 % 256 + 256 * (x / 16777216))) := by omega
  have h := bz_pc_eq (a := x % 256) (b := x / 256 % 256) (c := x / 65536 % 256) (d := x / 16777216) (by omega) (by omega) (by omega) (by omega)
  rw [← e] at h
  rw [h, show (32 : Nat) = 8 + (8 + (8 + 8)) from rfl, bz_ct_add, bz_ct_add, bz_ct_add]
  have e0 : bz_ct (fun i => (x % 256).testBit i) 8 = bz_ct (fun i => x.testBit i) 8 := bz_ct_ext fun i hi => by
    rw [show (256 : Nat) = 2 ^ 8 from rfl, Nat.testBit_mod_two_pow]
    simp [hi]
  have e1 : bz_ct (fun i => (x / 256 % 256).testBit i) 8 = bz_ct (fun i => x.testBit (8 + i)) 8 := bz_ct_ext fun i hi => by
    rw [show (256 : Nat) = 2 ^ 8 from rfl, Nat.testBit_mod_two_pow, Nat.testBit_div_two_pow, Nat.add_comm i 8]
    simp [hi]
  have e2 : bz_ct (fun i => (x / 65536 % 256).testBit i) 8 = bz_ct (fun i => x.testBit (8 + (8 + i))) 8 := bz_ct_ext fun i hi => by
    rw [show (256 : Nat) = 2 ^ 8 from rfl, show (65536 : Nat) = 2 ^ 16 from rfl, Nat.testBit_mod_two_pow, Nat.testBit_div_two_pow, show i + 16 = 8 + (8 + i) by omega]
    simp [hi]
  have e3 : bz_ct (fun i => (x / 16777216).testBit i) 8 = bz_ct (fun i => x.testBit (8 + (8 + (8 + i)))) 8 := bz_ct_ext fun i hi => by
    rw [show (16777216 : Nat) = 2 ^ 24 from rfl, Nat.testBit_div_two_pow, show i + 24 = 8 + (8 + (8 + i)) by omega]
  rw [e0, e1, e2, e3]
  omega
theorem bz_m_nI (f : Nat → Bool) : ∃ x, x < 2 ^ 32 ∧ bz_m f = nI x ∧ ∀ i, i < 32 → x.testBit i = f i := by
  refine ⟨(bz_m f).toBitVec.toNat, (bz_m f).toBitVec.isLt, ?_, fun i hi => ?_⟩
  · apply Int32.toBitVec_inj.1
    show (bz_m f).toBitVec = BitVec.ofNat 32 (bz_m f).toBitVec.toNat
    simp
  · rw [BitVec.testBit_toNat]
    exact bz_bt f hi
end
section
/-! what putting an area into a round, and taking it out, does to the kept numbers -/
def bz_pu (s : bz_S) (a r : Nat) : bz_S := (va_up s.1 a r, va_up s.2 a false)
def bz_ta (s : bz_S) (a : Nat) : bz_S := (s.1, va_up s.2 a true)
abbrev bz_RT : Type := (Nat → Int64) × (Nat → Int32) × (Nat → Int32) × (Nat → Int32) × (Nat → Int64) × Int32
abbrev bz_RS : Type := (Nat → Int32) × (Nat → Int32) × (Nat → Int64) × Int32 × Int32
def bz_tR (t : bz_T) : bz_RT := (fun j => lN (bz_l t j), fun j => nI (bz_d t j), fun a => bz_m (bz_j t a), fun r => bz_m (bz_k t r), fun r => lN (bz_h t r), nI (bz_n t))
def bz_sR (t : bz_T) (s : bz_S) : bz_RS := (fun a => nI (s.1 a), fun r => bz_m (bz_in t s r), fun r => lN (bz_ld t s r), bz_m (bz_op t s), nI (bz_ch t s))
theorem bz_up_s {α : Type} (f : Nat → α) (k : Nat) (v : α) : va_up f k v k = v := by unfold va_up; rw [if_pos rfl]
theorem bz_up_n {α : Type} (f : Nat → α) {k j : Nat} (v : α) (h : j ≠ k) : va_up f k v j = f j := by unfold va_up; rw [if_neg h]
theorem bz_updI (f : Nat → Nat) (a r : Nat) : upd (fun i => nI (f i)) a (nI r) = fun i => nI (va_up f a r i) := by
  funext i
  unfold upd va_up
  split <;> rfl
theorem bz_updL (f : Nat → Nat) (a r : Nat) : vp_updL (fun i => lN (f i)) a (lN r) = fun i => lN (va_up f a r i) := by
  funext i
  unfold vp_updL va_up
  split <;> rfl
theorem bz_updM (f : Nat → Nat → Bool) (a : Nat) (g : Nat → Bool) : upd (fun i => bz_m (f i)) a (bz_m g) = fun i => bz_m (va_up f a g i) := by
  funext i
  unfold upd va_up
  split <;> rfl
section BZP
variable {t : bz_T} {s : bz_S} {a r : Nat}
theorem bz_in_pu (ho : s.2 a = true) (q : Nat) : bz_in t (bz_pu s a r) q = fun i => bz_in t s q i || (decide (i = a) && (decide (a < bz_n t) && decide (r = q))) := by
  funext i
  unfold bz_in bz_pu
  by_cases e : i = a
  · subst e
    simp [bz_up_s, ho]
  · simp [bz_up_n _ _ e, e]
theorem bz_op_pu : bz_op t (bz_pu s a r) = fun i => bz_op t s i && !decide (i = a) := by
  funext i
  unfold bz_op bz_pu
  by_cases e : i = a
  · subst e
    simp [bz_up_s]
  · simp [bz_up_n _ _ e, e]
theorem bz_ld_pu (ha : a < bz_n t) (ho : s.2 a = true) (q : Nat) : bz_ld t (bz_pu s a r) q = if q = r then bz_ld t s q + bz_w t a q else bz_ld t s q := by
  have h0 : bz_in t s q a = false := by
    unfold bz_in
    simp [ho]
  have e1 : bz_in t (bz_pu s a r) q a = decide (r = q) := by
    rw [bz_in_pu ho]
    simp [h0, ha]
  have h : bz_ld t (bz_pu s a r) q + (if bz_in t s q a then bz_w t a q else 0) = bz_ld t s q + (if bz_in t (bz_pu s a r) q a then bz_w t a q else 0) := bz_sm_one (f := fun i => if bz_in t (bz_pu s a r) q i then bz_w t i q else 0) (g := fun i => if bz_in t s q i then bz_w t i q else 0) (a := a) (n := bz_n t) ha (fun i _ hne => by
    rw [bz_in_pu ho]
    simp [hne])
  rw [h0, e1] at h
  by_cases e : q = r
  · rw [if_pos e]
    rw [if_pos (decide_eq_true e.symm), if_neg (by simp)] at h
    omega
  · rw [if_neg e]
    rw [if_neg (by simp), if_neg (by simpa using fun z : r = q => e z.symm)] at h
    omega
theorem bz_ch_pu (ha : a < bz_n t) (ho : s.2 a = true) : bz_ch t (bz_pu s a r) = if r = bz_d t a then bz_ch t s else bz_ch t s + 1 := by
  have h : bz_ch t (bz_pu s a r) + (if (!s.2 a && decide (s.1 a ≠ bz_d t a)) then 1 else 0) = bz_ch t s + (if (!(bz_pu s a r).2 a && decide ((bz_pu s a r).1 a ≠ bz_d t a)) then 1 else 0) := bz_sm_one (f := fun i => if (!(bz_pu s a r).2 i && decide ((bz_pu s a r).1 i ≠ bz_d t i)) then 1 else 0) (g := fun i => if (!s.2 i && decide (s.1 i ≠ bz_d t i)) then 1 else 0) (a := a) (n := bz_n t) ha (fun i _ hne => by
    unfold bz_pu
    simp [bz_up_n _ _ hne])
  have e1 : (bz_pu s a r).2 a = false := bz_up_s _ _ _
  have e2 : (bz_pu s a r).1 a = r := bz_up_s _ _ _
  rw [e1, e2, ho] at h
  by_cases e : r = bz_d t a
  · rw [if_pos e]
    simp [e] at h
    rw [e]
    omega
  · rw [if_neg e]
    simp [e] at h
    omega
theorem bz_in_ta (q : Nat) : bz_in t (bz_ta s a) q = fun i => bz_in t s q i && !decide (i = a) := by
  funext i
  unfold bz_in bz_ta
  by_cases e : i = a
  · subst e
    simp [bz_up_s]
  · simp [bz_up_n _ _ e, e]
theorem bz_op_ta : bz_op t (bz_ta s a) = fun i => bz_op t s i || (decide (i = a) && decide (a < bz_n t)) := by
  funext i
  unfold bz_op bz_ta
  by_cases e : i = a
  · subst e
    by_cases q : i < bz_n t <;> simp [bz_up_s, q]
  · simp [bz_up_n _ _ e, e]
theorem bz_ld_ta (ha : a < bz_n t) (ho : s.2 a = false) (q : Nat) : bz_ld t s q = bz_ld t (bz_ta s a) q + if q = s.1 a then bz_w t a q else 0 := by
  have h0 : bz_in t s q a = decide (q = s.1 a) := by
    unfold bz_in
    simp [ho, ha, eq_comm]
  have e1 : bz_in t (bz_ta s a) q a = false := by
    rw [bz_in_ta]
    simp
  have h : bz_ld t (bz_ta s a) q + (if bz_in t s q a then bz_w t a q else 0) = bz_ld t s q + (if bz_in t (bz_ta s a) q a then bz_w t a q else 0) := bz_sm_one (f := fun i => if bz_in t (bz_ta s a) q i then bz_w t i q else 0) (g := fun i => if bz_in t s q i then bz_w t i q else 0) (a := a) (n := bz_n t) ha (fun i _ hne => by
    rw [bz_in_ta]
    simp [hne])
  rw [h0, e1] at h
  by_cases e : q = s.1 a
  · rw [if_pos e]
    rw [if_pos (decide_eq_true e), if_neg (by simp)] at h
    omega
  · rw [if_neg e]
    rw [if_neg (by simpa using e), if_neg (by simp)] at h
    omega
theorem bz_ch_ta (ha : a < bz_n t) (ho : s.2 a = false) : bz_ch t s = bz_ch t (bz_ta s a) + if s.1 a = bz_d t a then 0 else 1 := by
  have h : bz_ch t (bz_ta s a) + (if (!s.2 a && decide (s.1 a ≠ bz_d t a)) then 1 else 0) = bz_ch t s + (if (!(bz_ta s a).2 a && decide ((bz_ta s a).1 a ≠ bz_d t a)) then 1 else 0) := bz_sm_one (f := fun i => if (!(bz_ta s a).2 i && decide ((bz_ta s a).1 i ≠ bz_d t i)) then 1 else 0) (g := fun i => if (!s.2 i && decide (s.1 i ≠ bz_d t i)) then 1 else 0) (a := a) (n := bz_n t) ha (fun i _ hne => by
    unfold bz_ta
    simp [bz_up_n _ _ hne])
  have e1 : (bz_ta s a).2 a = true := bz_up_s _ _ _
  rw [e1, ho] at h
  by_cases e : s.1 a = bz_d t a
  · rw [if_pos e]
    simp [e] at h
    omega
  · rw [if_neg e]
    simp [e] at h
    omega
end BZP
end
section
/-! solving by moves: three to an area, in their order -/
def bz_ot (r i : Nat) : Nat := if i < r then i else i + 1
noncomputable def bz_mv (t : bz_T) : Nat → Nat → (Nat → Nat) → (Nat → Nat)
  | 0, _, f => f
  | k + 1, mi, f => if mi < 3 * bz_n t then (if bz_co t (bz_fu (va_up f (mi / 3) (bz_ot (f (mi / 3)) (mi % 3)))) < bz_co t (bz_fu f) then bz_mv t k 0 (va_up f (mi / 3) (bz_ot (f (mi / 3)) (mi % 3))) else bz_mv t k (mi + 1) f) else f
theorem bz_mv_end {t : bz_T} {mi : Nat} (h : 3 * bz_n t ≤ mi) (k : Nat) (f : Nat → Nat) : bz_mv t k mi f = f := by
  cases k with
  | zero => rfl
  | succ k => unfold bz_mv; rw [if_neg (by omega)]
theorem bz_mv_do {t : bz_T} {mi k : Nat} {f : Nat → Nat} (h : mi < 3 * bz_n t) (hc : bz_co t (bz_fu (va_up f (mi / 3) (bz_ot (f (mi / 3)) (mi % 3)))) < bz_co t (bz_fu f)) : bz_mv t (k + 1) mi f = bz_mv t k 0 (va_up f (mi / 3) (bz_ot (f (mi / 3)) (mi % 3))) := by
  rw [bz_mv, if_pos h, if_pos hc]
theorem bz_mv_no {t : bz_T} {mi k : Nat} {f : Nat → Nat} (h : mi < 3 * bz_n t) (hc : ¬ bz_co t (bz_fu (va_up f (mi / 3) (bz_ot (f (mi / 3)) (mi % 3)))) < bz_co t (bz_fu f)) : bz_mv t (k + 1) mi f = bz_mv t k (mi + 1) f := by
  rw [bz_mv, if_pos h, if_neg hc]
end
section
/-! rows of my own: an array's place by a plain number; contracts of methods that only read, and of methods that take the whole world to another -/
def bz_i (b : Bool) : Int32 := if b then 1 else 0
theorem bz_i_ne {b : Bool} (h : ¬ bz_i b = 0) : b = true := by cases b; exact absurd rfl h; rfl
theorem bz_i_eq {b : Bool} (h : bz_i b = 0) : b = false := by cases b; rfl; exact absurd h (by decide)
section BZR
variable {p : Program} {l : Launch} {e : Env} {R : Room} {s : State} {m : MethodId} {args : Array Value} {below : List Frame} {meth : Method} {c : Code} {H : Heap} {locs : List Loc} {cells slots : Nat} {Q : State → Prop}
variable {pc : Nat} {ls : Array Slot} {rest st0 : List Value} {a : Array Value} {D : va_G} {cl : List vw_C} {tys : List (ClassId × FieldType)} {ws ws0 ws1 : va_W} {ad : Nat} {cc : ByteArray} {A A0 : Nat → Prop} {H0 : Heap}
theorem bz_ri {x y : Int32} (h : x = y) (k : W p l e R s m args below meth c H locs cells slots Q (F0 m pc ls (.int y :: rest))) : W p l e R s m args below meth c H locs cells slots Q (F0 m pc ls (.int x :: rest)) := by
  rw [h]; exact k
theorem bz_rl {x y : Int64} (h : x = y) (k : W p l e R s m args below meth c H locs cells slots Q (F0 m pc ls (.long y :: rest))) : W p l e R s m args below meth c H locs cells slots Q (F0 m pc ls (.long x :: rest)) := by
  rw [h]; exact k
theorem bz_iald (hexec : p.tables.exec = Jvm.exec) (hb : c.code = cc) (hK : va_K D cl tys s) (hP : va_P D cl ws H) (q0 t0 : Nat) {cA : ClassId} {n : Nat} {f : Nat → Int32} (ha : ws[q0]? = some (ad, .inl (cA, n, .inl f))) (ht : tys[t0]? = some (cA, .int)) {a9 : Nat} (h9 : a9 < n) (hn : n < 2 ^ 31) {v : Int32} (hv : f a9 = v) (hdg : decode cc pc = .ok (.iaload, 1))
    (kk : W p l e R s m args below meth c H locs cells slots Q (F0 m (pc + 1) ls (.int v :: rest))) : W p l e R s m args below meth c H locs cells slots Q (F0 m pc ls (.int (nI a9) :: .ref ad :: rest)) := by
  refine va_iald hexec hb hK hP q0 t0 ha ht (vp_in_nI h9 hn) hdg ?_
  rw [nI_clamp (Nat.lt_trans h9 hn), hv]
  exact kk
theorem bz_lald (hexec : p.tables.exec = Jvm.exec) (hb : c.code = cc) (hK : va_K D cl tys s) (hP : va_P D cl ws H) (q0 t0 : Nat) {cA : ClassId} {n : Nat} {f : Nat → Int64} (ha : ws[q0]? = some (ad, .inl (cA, n, .inr (.inl f)))) (ht : tys[t0]? = some (cA, .long)) {a9 : Nat} (h9 : a9 < n) (hn : n < 2 ^ 31) {v : Int64} (hv : f a9 = v) (hdg : decode cc pc = .ok (.laload, 1))
    (kk : W p l e R s m args below meth c H locs cells slots Q (F0 m (pc + 1) ls (.long v :: rest))) : W p l e R s m args below meth c H locs cells slots Q (F0 m pc ls (.int (nI a9) :: .ref ad :: rest)) := by
  refine va_lald hexec hb hK hP q0 t0 ha ht (vp_in_nI h9 hn) hdg ?_
  rw [nI_clamp (Nat.lt_trans h9 hn), hv]
  exact kk
theorem bz_iast (hexec : p.tables.exec = Jvm.exec) (hb : c.code = cc) (hK : va_K D cl tys s) (hP : va_P D cl ws H) (hD : va_D A ws) (hS : va_S A H0 H locs) (q0 t0 : Nat) {cA : ClassId} {n : Nat} {f : Nat → Int32} (ha : ws[q0]? = some (ad, .inl (cA, n, .inl f))) (ht : tys[t0]? = some (cA, .int)) {a9 : Nat} {x : Int32} (h9 : a9 < n) (hn : n < 2 ^ 31) (hdg : decode cc pc = .ok (.iastore, 1))
    (kk : ∀ (H1 : Heap) (locs1 : List Loc), va_P D cl (ws.set q0 (ad, .inl (cA, n, .inl (upd f a9 x)))) H1 → va_D A (ws.set q0 (ad, .inl (cA, n, .inl (upd f a9 x)))) → va_S A H0 H1 locs1 → W p l e R s m args below meth c H1 locs1 cells slots Q (F0 m (pc + 1) ls rest)) : W p l e R s m args below meth c H locs cells slots Q (F0 m pc ls (.int x :: .int (nI a9) :: .ref ad :: rest)) := by
  refine va_iast hexec hb hK hP hD hS q0 t0 ha ht (vp_in_nI h9 hn) hdg ?_
  rw [nI_clamp (Nat.lt_trans h9 hn)]
  exact kk
theorem bz_last (hexec : p.tables.exec = Jvm.exec) (hb : c.code = cc) (hK : va_K D cl tys s) (hP : va_P D cl ws H) (hD : va_D A ws) (hS : va_S A H0 H locs) (q0 t0 : Nat) {cA : ClassId} {n : Nat} {f : Nat → Int64} (ha : ws[q0]? = some (ad, .inl (cA, n, .inr (.inl f)))) (ht : tys[t0]? = some (cA, .long)) {a9 : Nat} {x : Int64} (h9 : a9 < n) (hn : n < 2 ^ 31) (hdg : decode cc pc = .ok (.lastore, 1))
    (kk : ∀ (H1 : Heap) (locs1 : List Loc), va_P D cl (ws.set q0 (ad, .inl (cA, n, .inr (.inl (vp_updL f a9 x))))) H1 → va_D A (ws.set q0 (ad, .inl (cA, n, .inr (.inl (vp_updL f a9 x))))) → va_S A H0 H1 locs1 → W p l e R s m args below meth c H1 locs1 cells slots Q (F0 m (pc + 1) ls rest)) : W p l e R s m args below meth c H locs cells slots Q (F0 m pc ls (.long x :: .int (nI a9) :: .ref ad :: rest)) := by
  refine va_last hexec hb hK hP hD hS q0 t0 ha ht (vp_in_nI h9 hn) hdg ?_
  rw [nI_clamp (Nat.lt_trans h9 hn)]
  exact kk
/-- a contract's start: it reads -/
def bz_Pr (D : va_G) (tys : List (ClassId × FieldType)) (ws : va_W) (av : List Value) : Array Value → State → Prop := va_Pc av (fun U => va_P D vwCl ws U.heap ∧ va_K D vwCl tys U ∧ bz_N U)
/-- a contract's start: it writes -/
def bz_Pw (D : va_G) (tys : List (ClassId × FieldType)) (ws : va_W) (sz : Nat) (av : List Value) : Array Value → State → Prop := va_Pc av (fun U => U.heap.size = sz ∧ va_P D vwCl ws U.heap ∧ va_K D vwCl tys U ∧ va_D (fun _ => True) ws ∧ bz_N U)
theorem bz_Pr_bl {av : List Value} : FrameBlind (bz_Pr D tys ws av) := fun a U g mk q => ⟨q.1, q.2.1, va_K.moved (u := U) (U := U.calling g mk a) (Vm.Alike.refl U.vm) q.2.2.1, bz_N_same (s := U) (U := U.calling g mk a) rfl q.2.2.2⟩
theorem bz_Pw_bl {sz : Nat} {av : List Value} : FrameBlind (bz_Pw D tys ws sz av) := fun a U g mk q => ⟨q.1, q.2.1, q.2.2.1, va_K.moved (u := U) (U := U.calling g mk a) (Vm.Alike.refl U.vm) q.2.2.2.1, q.2.2.2.2.1, bz_N_same (s := U) (U := U.calling g mk a) rfl q.2.2.2.2.2⟩
theorem bz_rv {b ci q0 N : Nat} {C : String} {T : u_T} {fs As : List Value} (hN : bz_N s) (hK : va_K D vwCl tys s) (hP : va_P D vwCl ws H) (hq : ws[q0]? = some (b, .inr (ci, fs))) (hc : vwCl[ci]? = some (C, T, N)) : PreV s H C b (bz_Pr D tys ws (.ref b :: As)) As := ⟨bz_Pr_bl, va_recv hK hP (ci := ci) (q0 := q0) hc hq, fun U hU hW => ⟨rfl, by rw [hU]; exact hP, va_K.moved hW.alike hK, bz_N_warm hW hN⟩⟩
theorem bz_rs {As : List Value} (hN : bz_N s) (hK : va_K D vwCl tys s) (hP : va_P D vwCl ws H) : PreS s H (bz_Pr D tys ws As) As := ⟨bz_Pr_bl, fun U hU hW => ⟨rfl, by rw [hU]; exact hP, va_K.moved hW.alike hK, bz_N_warm hW hN⟩⟩
theorem bz_wv {b ci q0 N : Nat} {C : String} {T : u_T} {fs As : List Value} (hN : bz_N s) (hK : va_K D vwCl tys s) (hP : va_P D vwCl ws H) (hD : va_D A ws) (hq : ws[q0]? = some (b, .inr (ci, fs))) (hc : vwCl[ci]? = some (C, T, N)) : PreV s H C b (bz_Pw D tys ws H.size (.ref b :: As)) As := ⟨bz_Pw_bl, va_recv hK hP (ci := ci) (q0 := q0) hc hq, fun U hU hW => ⟨rfl, by rw [hU], by rw [hU]; exact hP, va_K.moved hW.alike hK, hD.weaken (fun _ _ _ _ => trivial), bz_N_warm hW hN⟩⟩
theorem bz_ws {As : List Value} (hN : bz_N s) (hK : va_K D vwCl tys s) (hP : va_P D vwCl ws H) (hD : va_D A ws) : PreS s H (bz_Pw D tys ws H.size As) As := ⟨bz_Pw_bl, fun U hU hW => ⟨rfl, by rw [hU], by rw [hU]; exact hP, va_K.moved hW.alike hK, hD.weaken (fun _ _ _ _ => trivial), bz_N_warm hW hN⟩⟩
/-- a contract's end: the world is another one -/
def bz_Bw (D : va_G) (tys : List (ClassId × FieldType)) (A : Nat → Prop) (ws1 : va_W) (t : State) : Prop := va_P D vwCl ws1 t.heap ∧ va_K D vwCl tys t ∧ va_D A ws1
def bz_Qv (D : va_G) (tys : List (ClassId × FieldType)) (A : Nat → Prop) (ws1 : va_W) : Array Value → State → Outcome → State → Prop := va_Qv (fun _ : Unit => True) (fun _ => bz_Bw D tys A ws1) A
def bz_Qi (D : va_G) (tys : List (ClassId × FieldType)) (A : Nat → Prop) (r0 : Int32) (ws1 : va_W) : Array Value → State → Outcome → State → Prop := va_Qi (fun r (_ : Unit) => r = r0) (fun _ => bz_Bw D tys A ws1) A
def bz_Ql (D : va_G) (tys : List (ClassId × FieldType)) (A : Nat → Prop) (r0 : Int64) (ws1 : va_W) : Array Value → State → Outcome → State → Prop := va_Ql (fun r (_ : Unit) => r = r0) (fun _ => bz_Bw D tys A ws1) A
theorem bz_fA (hD : va_D A0 ws0) (hS : va_S A0 H0 H locs) (hA : ∀ q, H0.size ≤ q → A0 q) : ∀ q, va_A ws0 H.size q → A0 q := by
  intro q h
  rcases h with ⟨k, e, h⟩ | h
  · exact hD.2 k (q, e) h
  · exact hA q (Nat.le_trans hS.1 h)
theorem bz_cv (hr : va_Run p l e R s m args below meth c H locs cells slots 0 0 (F0 m pc ls st0) rest (bz_Qv D tys (va_A ws0 H.size) ws1 a) (va_A ws0 H.size)) (hD : va_D A0 ws0) (hS : va_S A0 H0 H locs) (hA : ∀ q, H0.size ≤ q → A0 q)
    (kk : ∀ (H1 : Heap) (locs1 : List Loc), va_P D vwCl ws1 H1 → va_D A0 ws1 → va_S A0 H0 H1 locs1 → W p l e R s m args below meth c H1 locs1 cells slots Q (F0 m (pc + 3) ls rest)) : W p l e R s m args below meth c H locs cells slots Q (F0 m pc ls st0) :=
  va_callv hr hS (fun q _ h => bz_fA hD hS hA q h) (bz_fA hD hS hA) (fun _ t H1 locs1 ht _ _ hB _ _ hS1 => kk H1 locs1 (by rw [← ht]; exact hB.1) (hB.2.2.weaken (fun _ q _ h => bz_fA hD hS hA q.1 h)) hS1)
theorem bz_ci {r0 : Int32} (hr : va_Run p l e R s m args below meth c H locs cells slots 0 0 (F0 m pc ls st0) rest (bz_Qi D tys (va_A ws0 H.size) r0 ws1 a) (va_A ws0 H.size)) (hD : va_D A0 ws0) (hS : va_S A0 H0 H locs) (hA : ∀ q, H0.size ≤ q → A0 q)
    (kk : ∀ (H1 : Heap) (locs1 : List Loc), va_P D vwCl ws1 H1 → va_D A0 ws1 → va_S A0 H0 H1 locs1 → W p l e R s m args below meth c H1 locs1 cells slots Q (F0 m (pc + 3) ls (.int r0 :: rest))) : W p l e R s m args below meth c H locs cells slots Q (F0 m pc ls st0) :=
  va_calli hr hS (fun q _ h => bz_fA hD hS hA q h) (bz_fA hD hS hA) (fun r _ t H1 locs1 ht _ hw hB _ _ hS1 => by rw [hw]; exact kk H1 locs1 (by rw [← ht]; exact hB.1) (hB.2.2.weaken (fun _ q _ h => bz_fA hD hS hA q.1 h)) hS1)
theorem bz_cl {r0 : Int64} (hr : va_Run p l e R s m args below meth c H locs cells slots 0 0 (F0 m pc ls st0) rest (bz_Ql D tys (va_A ws0 H.size) r0 ws1 a) (va_A ws0 H.size)) (hD : va_D A0 ws0) (hS : va_S A0 H0 H locs) (hA : ∀ q, H0.size ≤ q → A0 q)
    (kk : ∀ (H1 : Heap) (locs1 : List Loc), va_P D vwCl ws1 H1 → va_D A0 ws1 → va_S A0 H0 H1 locs1 → W p l e R s m args below meth c H1 locs1 cells slots Q (F0 m (pc + 3) ls (.long r0 :: rest))) : W p l e R s m args below meth c H locs cells slots Q (F0 m pc ls st0) :=
  va_calll hr hS (fun q _ h => bz_fA hD hS hA q h) (bz_fA hD hS hA) (fun r _ t H1 locs1 ht _ hw hB _ _ hS1 => by rw [hw]; exact kk H1 locs1 (by rw [← ht]; exact hB.1) (hB.2.2.weaken (fun _ q _ h => bz_fA hD hS hA q.1 h)) hS1)
/-- a call of a method that only reads: nothing has moved -/
theorem bz_si {r0 : Int32} (hr : va_Run p l e R s m args below meth c H locs cells slots 0 0 (F0 m pc ls st0) rest (vp_Si (fun r => r = r0) a) (fun _ => False))
    (kk : W p l e R s m args below meth c H locs cells slots Q (F0 m (pc + 3) ls (.int r0 :: rest))) : W p l e R s m args below meth c H locs cells slots Q (F0 m pc ls st0) := by
  intro T hT X
  obtain ⟨v, st₀, t, T', L, h0, X', hL, e1, -, ⟨r, hv, hp, hh⟩, st⟩ := hr T hT X
  cases hv
  subst hp
  obtain ⟨t2, a1, b1⟩ := kk T' (by rw [e1, hh, h0]) (Stand.forget X' (fun q h => (hL q h).elim))
  exact ⟨t2, st t2 a1, b1⟩
theorem bz_sl {r0 : Int64} (hr : va_Run p l e R s m args below meth c H locs cells slots 0 0 (F0 m pc ls st0) rest (vp_Sl (fun r => r = r0) a) (fun _ => False))
    (kk : W p l e R s m args below meth c H locs cells slots Q (F0 m (pc + 3) ls (.long r0 :: rest))) : W p l e R s m args below meth c H locs cells slots Q (F0 m pc ls st0) := by
  intro T hT X
  obtain ⟨v, st₀, t, T', L, h0, X', hL, e1, -, ⟨r, hv, hp, hh⟩, st⟩ := hr T hT X
  cases hv
  subst hp
  obtain ⟨t2, a1, b1⟩ := kk T' (by rw [e1, hh, h0]) (Stand.forget X' (fun q h => (hL q h).elim))
  exact ⟨t2, st t2 a1, b1⟩
end BZR
theorem bz_g0 {y : MethodName} {cc : ByteArray} {n : Nat} {ret : Option FieldType} (h : Cond.code y cc n ret ∈ bz_tb) : GoodIn bz_tb (.code y cc n ret :: bz_tb) := by
  have hg : ∀ w ∈ bz_tb, w ∈ bz_tb ∧ ((w.onTables && w.keeps) = true ∨ ∃ ty, w = .arrayClass ty) := fun w hw => ⟨hw, good_of_word (List.mem_filter.mp hw).2⟩
  intro w hw
  rcases List.mem_cons.mp hw with rfl | hw
  · exact hg _ h
  · exact hg w hw
theorem bz_gl1 {ws : List Cond} (h : ∀ w ∈ ws, w ∈ bz_tb) : GoodIn bz_tb ws := fun w hw => ⟨h w hw, good_of_word (List.mem_filter.mp (h w hw)).2⟩
theorem bz_gV {own C : String} {idx : Nat} {y : MethodName} {cc : ByteArray} {n : Nat} {ret : Option FieldType} (h0 : Cond.code y cc n ret ∈ bz_tb) (h1 : Cond.methodLink own idx y ∈ bz_tb) (h2 : Cond.instanceMethod y ∈ bz_tb) (h3 : Cond.selects C y y ∈ bz_tb) (h4 : Cond.initialized C ∈ bz_tb) : GoodIn bz_tb (wsV own idx C y (.code y cc n ret :: bz_tb)) := by
  have hg : ∀ w ∈ bz_tb, w ∈ bz_tb ∧ ((w.onTables && w.keeps) = true ∨ ∃ ty, w = .arrayClass ty) := fun w hw => ⟨hw, good_of_word (List.mem_filter.mp hw).2⟩
  intro w hw
  unfold wsV at hw
  simp only [List.cons_append, List.nil_append, List.mem_cons] at hw
  rcases hw with rfl | rfl | rfl | rfl | rfl | hw
  · exact hg _ h1
  · exact hg _ h2
  · exact hg _ h3
  · exact hg _ h4
  · exact hg _ h0
  · exact hg w hw
theorem bz_gS {own : String} {idx : Nat} {y : MethodName} {cc : ByteArray} {n : Nat} {ret : Option FieldType} (h0 : Cond.code y cc n ret ∈ bz_tb) (h1 : Cond.methodLink own idx y ∈ bz_tb) (h2 : Cond.static y ∈ bz_tb) (h4 : Cond.initialized y.cls ∈ bz_tb) : GoodIn bz_tb (va_wsS own idx y (.code y cc n ret :: bz_tb)) := by
  have hg : ∀ w ∈ bz_tb, w ∈ bz_tb ∧ ((w.onTables && w.keeps) = true ∨ ∃ ty, w = .arrayClass ty) := fun w hw => ⟨hw, good_of_word (List.mem_filter.mp hw).2⟩
  intro w hw
  unfold va_wsS at hw
  simp only [List.cons_append, List.nil_append, List.mem_cons] at hw
  rcases hw with rfl | rfl | rfl | rfl | hw
  · exact hg _ h1
  · exact hg _ h2
  · exact hg _ h4
  · exact hg _ h0
  · exact hg w hw
section BZX
variable {p : Program} {l : Launch} {e : Env} {R : Room} {s : State} {m : MethodId} {args : Array Value} {below : List Frame} {meth : Method} {c : Code} {H : Heap} {locs : List Loc} {cells slots : Nat} {Q : State → Prop}
variable {pc : Nat} {ls : Array Slot} {rest st0 : List Value} {a : Array Value} {D : va_G} {tys : List (ClassId × FieldType)} {ws0 : va_W} {A0 : Nat → Prop} {H0 : Heap}
/-- a contract's end: the world is one of a kind -/
def bz_Qx {S : Type} (D : va_G) (tys : List (ClassId × FieldType)) (A : Nat → Prop) (post : S → Prop) (wf : S → va_W) : Array Value → State → Outcome → State → Prop := va_Qv post (fun u => bz_Bw D tys A (wf u)) A
def bz_Qxl {S : Type} (D : va_G) (tys : List (ClassId × FieldType)) (A : Nat → Prop) (post : Int64 → S → Prop) (wf : S → va_W) : Array Value → State → Outcome → State → Prop := va_Ql post (fun u => bz_Bw D tys A (wf u)) A
theorem bz_cx {S : Type} {post : S → Prop} {wf : S → va_W} (hr : va_Run p l e R s m args below meth c H locs cells slots 0 0 (F0 m pc ls st0) rest (bz_Qx D tys (va_A ws0 H.size) post wf a) (va_A ws0 H.size)) (hD : va_D A0 ws0) (hS : va_S A0 H0 H locs) (hA : ∀ q, H0.size ≤ q → A0 q)
    (kk : ∀ (u : S), post u → ∀ (H1 : Heap) (locs1 : List Loc), va_P D vwCl (wf u) H1 → va_D A0 (wf u) → va_S A0 H0 H1 locs1 → W p l e R s m args below meth c H1 locs1 cells slots Q (F0 m (pc + 3) ls rest)) : W p l e R s m args below meth c H locs cells slots Q (F0 m pc ls st0) :=
  va_callv hr hS (fun q _ h => bz_fA hD hS hA q h) (bz_fA hD hS hA) (fun u t H1 locs1 ht _ hw hB _ _ hS1 => kk u hw H1 locs1 (by rw [← ht]; exact hB.1) (hB.2.2.weaken (fun _ q _ h => bz_fA hD hS hA q.1 h)) hS1)
theorem bz_cxl {S : Type} {post : Int64 → S → Prop} {wf : S → va_W} (hr : va_Run p l e R s m args below meth c H locs cells slots 0 0 (F0 m pc ls st0) rest (bz_Qxl D tys (va_A ws0 H.size) post wf a) (va_A ws0 H.size)) (hD : va_D A0 ws0) (hS : va_S A0 H0 H locs) (hA : ∀ q, H0.size ≤ q → A0 q)
    (kk : ∀ (r : Int64) (u : S), post r u → ∀ (H1 : Heap) (locs1 : List Loc), va_P D vwCl (wf u) H1 → va_D A0 (wf u) → va_S A0 H0 H1 locs1 → W p l e R s m args below meth c H1 locs1 cells slots Q (F0 m (pc + 3) ls (.long r :: rest))) : W p l e R s m args below meth c H locs cells slots Q (F0 m pc ls st0) :=
  va_calll hr hS (fun q _ h => bz_fA hD hS hA q h) (bz_fA hD hS hA) (fun r u t H1 locs1 ht _ hw hB _ _ hS1 => kk r u hw H1 locs1 (by rw [← ht]; exact hB.1) (hB.2.2.weaken (fun _ q _ h => bz_fA hD hS hA q.1 h)) hS1)
end BZX
end
section
/-! the cells of one BalanceRounds object, of raw contents -/
theorem bz_arrI {cA : ClassId} {n : Nat} {f g : Nat → Int32} (h : ∀ j, j < n → f j = g j) : vp_cell cA (n, .inl f) = vp_cell cA (n, .inl g) := by
  show arrV cA n (fun j => .int (f j)) = arrV cA n (fun j => .int (g j))
  unfold arrV
  congr 1
  congr 1
  funext j
  show Value.int (f j.val) = Value.int (g j.val)
  rw [h j.val j.isLt]
theorem bz_arrL {cA : ClassId} {n : Nat} {f g : Nat → Int64} (h : ∀ j, j < n → f j = g j) : vp_cell cA (n, .inr (.inl f)) = vp_cell cA (n, .inr (.inl g)) := by
  show arrV cA n (fun j => .long (f j)) = arrV cA n (fun j => .long (g j))
  unfold arrV
  congr 1
  congr 1
  funext j
  show Value.long (f j.val) = Value.long (g j.val)
  rw [h j.val j.isLt]
theorem bz_P_set {D : va_G} {cl : List vw_C} {ws : va_W} {H : Heap} {q0 ad : Nat} {cA : ClassId} {x y : vp_A} (hP : va_P D cl ws H) (ha : ws[q0]? = some (ad, .inl (cA, x))) (h : vp_cell cA x = vp_cell cA y) : va_P D cl (ws.set q0 (ad, .inl (cA, y))) H := by
  have hl := (List.getElem?_eq_some_iff.mp ha).1
  intro k q hk
  by_cases hkp : k = q0
  · subst hkp
    rw [List.getElem?_set_self hl] at hk
    cases hk
    show H[ad]? = some (vp_cell cA y)
    rw [← h]
    exact hP k _ ha
  · rw [List.getElem?_set_ne (Ne.symm hkp)] at hk
    exact hP k q hk
def bz_wB (ad : Nat → Nat) (cI cL : ClassId) (T : bz_RT) (R : bz_RS) (L : (Nat → Int32) × Int64) (v : Int32) : va_W :=
  [(ad 0, .inr (3, [.ref (ad 1), .ref (ad 7), .ref (ad 11), .int v])),
   (ad 1, .inr (2, [.ref (ad 2), .ref (ad 3), .ref (ad 4), .ref (ad 5), .ref (ad 6), .int T.2.2.2.2.2])),
   (ad 2, .inl (cL, 30, .inr (.inl T.1))),
   (ad 3, .inl (cI, 30, .inl T.2.1)),
   (ad 4, .inl (cI, 30, .inl T.2.2.1)),
   (ad 5, .inl (cI, 4, .inl T.2.2.2.1)),
   (ad 6, .inl (cL, 4, .inr (.inl T.2.2.2.2.1))),
   (ad 7, .inr (1, [.ref (ad 1), .ref (ad 8), .ref (ad 9), .ref (ad 10), .int R.2.2.2.1, .int R.2.2.2.2])),
   (ad 8, .inl (cI, 30, .inl R.1)),
   (ad 9, .inl (cI, 4, .inl R.2.1)),
   (ad 10, .inl (cL, 4, .inr (.inl R.2.2.1))),
   (ad 11, .inr (0, [.ref (ad 12), .long L.2])),
   (ad 12, .inl (cI, 8, .inl L.1))]
end
section
theorem d_T_isKnown_0 : decode b_T_isKnown 0 = .ok (.aload_n 0, 1) := by decide +kernel
theorem d_T_isKnown_1 : decode b_T_isKnown 1 = .ok (.getfield 22, 3) := by decide +kernel
theorem d_T_isKnown_4 : decode b_T_isKnown 4 = .ok (.iload_n 2, 1) := by decide +kernel
theorem d_T_isKnown_5 : decode b_T_isKnown 5 = .ok (.iaload, 1) := by decide +kernel
theorem d_T_isKnown_6 : decode b_T_isKnown 6 = .ok (.iconst 1, 1) := by decide +kernel
theorem d_T_isKnown_7 : decode b_T_isKnown 7 = .ok (.iload_n 1, 1) := by decide +kernel
theorem d_T_isKnown_8 : decode b_T_isKnown 8 = .ok (.ishl, 1) := by decide +kernel
theorem d_T_isKnown_9 : decode b_T_isKnown 9 = .ok (.iand, 1) := by decide +kernel
theorem d_T_isKnown_10 : decode b_T_isKnown 10 = .ok (.ifCond .eq 7, 3) := by decide +kernel
theorem d_T_isKnown_13 : decode b_T_isKnown 13 = .ok (.iconst 1, 1) := by decide +kernel
theorem d_T_isKnown_14 : decode b_T_isKnown 14 = .ok (.goto 4, 3) := by decide +kernel
theorem d_T_isKnown_17 : decode b_T_isKnown 17 = .ok (.iconst 0, 1) := by decide +kernel
theorem d_T_isKnown_18 : decode b_T_isKnown 18 = .ok (.ireturn, 1) := by decide +kernel
theorem d_T_areJoined_0 : decode b_T_areJoined 0 = .ok (.aload_n 0, 1) := by decide +kernel
theorem d_T_areJoined_1 : decode b_T_areJoined 1 = .ok (.getfield 19, 3) := by decide +kernel
theorem d_T_areJoined_4 : decode b_T_areJoined 4 = .ok (.iload_n 1, 1) := by decide +kernel
theorem d_T_areJoined_5 : decode b_T_areJoined 5 = .ok (.iaload, 1) := by decide +kernel
theorem d_T_areJoined_6 : decode b_T_areJoined 6 = .ok (.iconst 1, 1) := by decide +kernel
theorem d_T_areJoined_7 : decode b_T_areJoined 7 = .ok (.iload_n 2, 1) := by decide +kernel
theorem d_T_areJoined_8 : decode b_T_areJoined 8 = .ok (.ishl, 1) := by decide +kernel
theorem d_T_areJoined_9 : decode b_T_areJoined 9 = .ok (.iand, 1) := by decide +kernel
theorem d_T_areJoined_10 : decode b_T_areJoined 10 = .ok (.ifCond .eq 7, 3) := by decide +kernel
theorem d_T_areJoined_13 : decode b_T_areJoined 13 = .ok (.iconst 1, 1) := by decide +kernel
theorem d_T_areJoined_14 : decode b_T_areJoined 14 = .ok (.goto 4, 3) := by decide +kernel
theorem d_T_areJoined_17 : decode b_T_areJoined 17 = .ok (.iconst 0, 1) := by decide +kernel
theorem d_T_areJoined_18 : decode b_T_areJoined 18 = .ok (.ireturn, 1) := by decide +kernel
theorem d_T_loadIn_0 : decode b_T_loadIn 0 = .ok (.aload_n 0, 1) := by decide +kernel
theorem d_T_loadIn_1 : decode b_T_loadIn 1 = .ok (.iload_n 1, 1) := by decide +kernel
theorem d_T_loadIn_2 : decode b_T_loadIn 2 = .ok (.iload_n 2, 1) := by decide +kernel
theorem d_T_loadIn_3 : decode b_T_loadIn 3 = .ok (.invokevirtual 32, 3) := by decide +kernel
theorem d_T_loadIn_6 : decode b_T_loadIn 6 = .ok (.ifCond .eq 24, 3) := by decide +kernel
theorem d_T_loadIn_9 : decode b_T_loadIn 9 = .ok (.aload_n 0, 1) := by decide +kernel
theorem d_T_loadIn_10 : decode b_T_loadIn 10 = .ok (.getfield 9, 3) := by decide +kernel
theorem d_T_loadIn_13 : decode b_T_loadIn 13 = .ok (.iload_n 1, 1) := by decide +kernel
theorem d_T_loadIn_14 : decode b_T_loadIn 14 = .ok (.laload, 1) := by decide +kernel
theorem d_T_loadIn_15 : decode b_T_loadIn 15 = .ok (.ldc2_w 36, 3) := by decide +kernel
theorem d_T_loadIn_18 : decode b_T_loadIn 18 = .ok (.lmul, 1) := by decide +kernel
theorem d_T_loadIn_19 : decode b_T_loadIn 19 = .ok (.ldc2_w 36, 3) := by decide +kernel
theorem d_T_loadIn_22 : decode b_T_loadIn 22 = .ok (.ladd, 1) := by decide +kernel
theorem d_T_loadIn_23 : decode b_T_loadIn 23 = .ok (.ldc2_w 38, 3) := by decide +kernel
theorem d_T_loadIn_26 : decode b_T_loadIn 26 = .ok (.ldiv, 1) := by decide +kernel
theorem d_T_loadIn_27 : decode b_T_loadIn 27 = .ok (.goto 9, 3) := by decide +kernel
theorem d_T_loadIn_30 : decode b_T_loadIn 30 = .ok (.aload_n 0, 1) := by decide +kernel
theorem d_T_loadIn_31 : decode b_T_loadIn 31 = .ok (.getfield 9, 3) := by decide +kernel
theorem d_T_loadIn_34 : decode b_T_loadIn 34 = .ok (.iload_n 1, 1) := by decide +kernel
theorem d_T_loadIn_35 : decode b_T_loadIn 35 = .ok (.laload, 1) := by decide +kernel
theorem d_T_loadIn_36 : decode b_T_loadIn 36 = .ok (.lreturn, 1) := by decide +kernel

theorem bz_w_k {t : bz_T} (ht : bz_ok t) {a r : Nat} (h : bz_k t r a = true) : (lN (bz_l t a) * 9 + 9) / 10 = lN (bz_w t a r) := by
  have h1 := ht.2.1 a
  rw [show (9 : Int64) = lN 9 from rfl, show (10 : Int64) = lN 10 from rfl, lN_mul, lN_add, pk_lDiv (by omega) (by omega) (by omega)]
  unfold bz_w
  rw [if_pos h]
theorem bz_w_n {t : bz_T} {a r : Nat} (h : bz_k t r a = false) : lN (bz_l t a) = lN (bz_w t a r) := by
  unfold bz_w
  rw [if_neg (by simp [h])]

set_option maxHeartbeats 4000000 in
set_option maxRecDepth 100000 in
/-- Town.isKnown -/
theorem c_T_isKnown (l : Launch) (dC : Nat → ClassId) (dI : Nat → Nat → Nat) (ad : Nat → Nat) (cI cL : ClassId) (t : bz_T) (R : bz_RS) (L : (Nat → Int32) × Int64) (v : Int32) (a r : Nat) (ha : a < 30) (hr4 : r < 4) : Met l y_T_isKnown w_T_isKnown ({ frames := 0, cells := 0, slots := 0, locals := 0 }) (bz_Pr (dC, dI) [(cI, .int), (cL, .long)] (bz_wB ad cI cL (bz_tR t) R L v) [.ref (ad 1), .int (nI a), .int (nI r)]) (vp_Si (fun r9 => r9 = bz_i (bz_k t r a))) 0 0 (fun _ => False) := by
  refine Met.ofW (cc := b_T_isKnown) (maxL := 3) (ret := (some .boolean)) (by decide) rfl ?_
  intro p e s m args below meth c s₁ B hml hv
  obtain ⟨rfl, hP, hK, hN⟩ := hv
  have hx := B.exec
  have hb := B.bytes
  have hr := B.returns
  have hts := atoms_spec (ws := w_T_isKnown) B.pre
  have hown : s.vm.findClass R_T = some m.cls := findClass_of_methodNamed B.named
  have htb : ∀ w ∈ bz_tb, w.before _ s = true := fun w h => hts w (List.mem_cons_of_mem _ h)
  have hlocks := B.notSynchronized
  have hl := lv_entry ([.ref (ad 1), .int (nI a), .int (nI r)]) (n := 3) (Nat.le_of_ble_eq_true rfl)
  rw [lg_entry_eq]
  generalize (lg_sl ([.ref (ad 1), .int (nI a), .int (nI r)]) ++ List.replicate (3 - (lg_sl ([.ref (ad 1), .int (nI a), .int (nI r)])).length) Slot.unset).toArray = ls at hl ⊢
  have hl : lv_has ls 3 [(0, .ref (ad 1)), (1, .int (nI a)), (2, .int (nI r))] := hl
  refine lv_aload_n hx hb d_T_isKnown_0 rfl (lv_at hl 0 rfl) ?_
  refine va_get (D := (dC, dI)) (ci := 2) (v := .ref (ad 5)) (C := R_T) (T := F_T) (N := 6) hx hb htb in_T hown hK hP 1 rfl rfl 3 (by decide) (htb _ wd_51) (fun _ h9 => h9) rfl d_T_isKnown_1 ?_
  refine lv_iload_n hx hb d_T_isKnown_4 rfl (lv_at hl 2 rfl) ?_
  refine bz_iald (v := bz_m (bz_k t r)) hx hb hK hP 5 0 rfl rfl (a9 := r) (by omega) (by decide) (rfl) d_T_isKnown_5 ?_
  refine lv_iconst (v := 1) hx hb d_T_isKnown_6 (by decide) ?_
  refine lv_iload_n hx hb d_T_isKnown_7 rfl (lv_at hl 1 rfl) ?_
  refine lv_ishl hx hb d_T_isKnown_8 ?_
  refine lv_iand hx hb d_T_isKnown_9 ?_
  refine lv_if_eq (tgt := 17) hx hb d_T_isKnown_10 (by decide) (fun c_10 => ?_) (fun c_10 => ?_)
  · skip
    have hq := (bz_test _ (by omega)).mp c_10
    refine lv_iconst (v := 0) hx hb d_T_isKnown_17 (by decide) ?_
    exact W.zret (v := 0) hx hb hr (rfl) (fun t9 ht9 hW => ⟨0, rfl, by rw [hq]; rfl, ht9⟩) (fun _ h => nomatch h) d_T_isKnown_18
  · skip
    have hq := ts_nf (fun z => c_10 ((bz_test _ (by omega)).mpr z))
    refine lv_iconst (v := 1) hx hb d_T_isKnown_13 (by decide) ?_
    refine lv_goto (tgt := 18) hx hb d_T_isKnown_14 (by decide) ?_
    exact W.zret (v := 1) hx hb hr (rfl) (fun t9 ht9 hW => ⟨1, rfl, by rw [hq]; rfl, ht9⟩) (fun _ h => nomatch h) d_T_isKnown_18

set_option maxHeartbeats 4000000 in
set_option maxRecDepth 100000 in
/-- Town.areJoined -/
theorem c_T_areJoined (l : Launch) (dC : Nat → ClassId) (dI : Nat → Nat → Nat) (ad : Nat → Nat) (cI cL : ClassId) (t : bz_T) (R : bz_RS) (L : (Nat → Int32) × Int64) (v : Int32) (a b : Nat) (ha : a < 30) (hb30 : b < 30) : Met l y_T_areJoined w_T_areJoined ({ frames := 0, cells := 0, slots := 0, locals := 0 }) (bz_Pr (dC, dI) [(cI, .int), (cL, .long)] (bz_wB ad cI cL (bz_tR t) R L v) [.ref (ad 1), .int (nI a), .int (nI b)]) (vp_Si (fun r9 => r9 = bz_i (bz_j t a b))) 0 0 (fun _ => False) := by
  refine Met.ofW (cc := b_T_areJoined) (maxL := 3) (ret := (some .boolean)) (by decide) rfl ?_
  intro p e s m args below meth c s₁ B hml hv
  obtain ⟨rfl, hP, hK, hN⟩ := hv
  have hx := B.exec
  have hb := B.bytes
  have hr := B.returns
  have hts := atoms_spec (ws := w_T_areJoined) B.pre
  have hown : s.vm.findClass R_T = some m.cls := findClass_of_methodNamed B.named
  have htb : ∀ w ∈ bz_tb, w.before _ s = true := fun w h => hts w (List.mem_cons_of_mem _ h)
  have hlocks := B.notSynchronized
  have hl := lv_entry ([.ref (ad 1), .int (nI a), .int (nI b)]) (n := 3) (Nat.le_of_ble_eq_true rfl)
  rw [lg_entry_eq]
  generalize (lg_sl ([.ref (ad 1), .int (nI a), .int (nI b)]) ++ List.replicate (3 - (lg_sl ([.ref (ad 1), .int (nI a), .int (nI b)])).length) Slot.unset).toArray = ls at hl ⊢
  have hl : lv_has ls 3 [(0, .ref (ad 1)), (1, .int (nI a)), (2, .int (nI b))] := hl
  refine lv_aload_n hx hb d_T_areJoined_0 rfl (lv_at hl 0 rfl) ?_
  refine va_get (D := (dC, dI)) (ci := 2) (v := .ref (ad 4)) (C := R_T) (T := F_T) (N := 6) hx hb htb in_T hown hK hP 1 rfl rfl 2 (by decide) (htb _ wd_50) (fun _ h9 => h9) rfl d_T_areJoined_1 ?_
  refine lv_iload_n hx hb d_T_areJoined_4 rfl (lv_at hl 1 rfl) ?_
  refine bz_iald (v := bz_m (bz_j t a)) hx hb hK hP 4 0 rfl rfl (a9 := a) (by omega) (by decide) (rfl) d_T_areJoined_5 ?_
  refine lv_iconst (v := 1) hx hb d_T_areJoined_6 (by decide) ?_
  refine lv_iload_n hx hb d_T_areJoined_7 rfl (lv_at hl 2 rfl) ?_
  refine lv_ishl hx hb d_T_areJoined_8 ?_
  refine lv_iand hx hb d_T_areJoined_9 ?_
  refine lv_if_eq (tgt := 17) hx hb d_T_areJoined_10 (by decide) (fun c_10 => ?_) (fun c_10 => ?_)
  · skip
    have hq := (bz_test _ (by omega)).mp c_10
    refine lv_iconst (v := 0) hx hb d_T_areJoined_17 (by decide) ?_
    exact W.zret (v := 0) hx hb hr (rfl) (fun t9 ht9 hW => ⟨0, rfl, by rw [hq]; rfl, ht9⟩) (fun _ h => nomatch h) d_T_areJoined_18
  · skip
    have hq := ts_nf (fun z => c_10 ((bz_test _ (by omega)).mpr z))
    refine lv_iconst (v := 1) hx hb d_T_areJoined_13 (by decide) ?_
    refine lv_goto (tgt := 18) hx hb d_T_areJoined_14 (by decide) ?_
    exact W.zret (v := 1) hx hb hr (rfl) (fun t9 ht9 hW => ⟨1, rfl, by rw [hq]; rfl, ht9⟩) (fun _ h => nomatch h) d_T_areJoined_18

set_option maxHeartbeats 4000000 in
set_option maxRecDepth 100000 in
/-- Town.loadIn -/
theorem c_T_loadIn (l : Launch) (dC : Nat → ClassId) (dI : Nat → Nat → Nat) (ad : Nat → Nat) (cI cL : ClassId) (t : bz_T) (R : bz_RS) (L : (Nat → Int32) × Int64) (v : Int32) (ht : bz_ok t) (a r : Nat) (ha : a < 30) (hr4 : r < 4) : Met l y_T_loadIn w_T_loadIn ({ frames := 1, cells := 0, slots := 0, locals := 22 }) (bz_Pr (dC, dI) [(cI, .int), (cL, .long)] (bz_wB ad cI cL (bz_tR t) R L v) [.ref (ad 1), .int (nI a), .int (nI r)]) (vp_Sl (fun r9 => r9 = lN (bz_w t a r))) 0 0 (fun _ => False) := by
  refine Met.ofW (cc := b_T_loadIn) (maxL := 3) (ret := (some .long)) (by decide) rfl ?_
  intro p e s m args below meth c s₁ B hml hv
  obtain ⟨rfl, hP, hK, hN⟩ := hv
  have hx := B.exec
  have hb := B.bytes
  have hr := B.returns
  have hts := atoms_spec (ws := w_T_loadIn) B.pre
  have hown : s.vm.findClass R_T = some m.cls := findClass_of_methodNamed B.named
  have htb : ∀ w ∈ bz_tb, w.before _ s = true := fun w h => hts w (List.mem_cons_of_mem _ h)
  have hlocks := B.notSynchronized
  have hl := lv_entry ([.ref (ad 1), .int (nI a), .int (nI r)]) (n := 3) (Nat.le_of_ble_eq_true rfl)
  rw [lg_entry_eq]
  generalize (lg_sl ([.ref (ad 1), .int (nI a), .int (nI r)]) ++ List.replicate (3 - (lg_sl ([.ref (ad 1), .int (nI a), .int (nI r)])).length) Slot.unset).toArray = ls at hl ⊢
  have hl : lv_has ls 3 [(0, .ref (ad 1)), (1, .int (nI a)), (2, .int (nI r))] := hl
  refine lv_aload_n hx hb d_T_loadIn_0 rfl (lv_at hl 0 rfl) ?_
  refine lv_iload_n hx hb d_T_loadIn_1 rfl (lv_at hl 1 rfl) ?_
  refine lv_iload_n hx hb d_T_loadIn_2 rfl (lv_at hl 2 rfl) ?_
  refine bz_si (va_runV (As := [.int (nI a), .int (nI r)]) (rest := []) ⟨hx, hb, hml, hown, htb⟩ (c_T_isKnown l dC dI ad cI cL t R L v _ _ (by omega) (by omega)) (cwV 2 htb (bz_gV wd_170 wd_205 wd_168 wd_169 wd_20) rfl rfl rfl (by decide +kernel) ⟨Nat.le_of_ble_eq_true rfl, Nat.le_of_ble_eq_true rfl⟩) (bz_rv hN hK hP (q0 := 1) rfl rfl) rfl rfl hl.1 rfl (lv_room (Nat.le_of_ble_eq_true rfl)) d_T_loadIn_3 ⟨Nat.zero_le _, Nat.zero_le _⟩) ?_
  refine lv_if_eq (tgt := 30) hx hb d_T_loadIn_6 (by decide) (fun c_6 => ?_) (fun c_6 => ?_)
  · skip
    have hq := bz_i_eq c_6
    refine lv_aload_n hx hb d_T_loadIn_30 rfl (lv_at hl 0 rfl) ?_
    refine va_get (D := (dC, dI)) (ci := 2) (v := .ref (ad 2)) (C := R_T) (T := F_T) (N := 6) hx hb htb in_T hown hK hP 1 rfl rfl 0 (by decide) (htb _ wd_46) (fun _ h9 => h9) rfl d_T_loadIn_31 ?_
    refine lv_iload_n hx hb d_T_loadIn_34 rfl (lv_at hl 1 rfl) ?_
    refine bz_lald (v := lN (bz_l t a)) hx hb hK hP 2 1 rfl rfl (a9 := a) (by omega) (by decide) (rfl) d_T_loadIn_35 ?_
    refine bz_rl (y := lN (bz_w t a r)) (bz_w_n hq) ?_
    exact W.lret (v := lN (bz_w t a r)) hx hb hr (fun t9 ht9 hW => ⟨lN (bz_w t a r), rfl, rfl, ht9⟩) (fun _ h => nomatch h) d_T_loadIn_36
  · skip
    have hq := bz_i_ne c_6
    refine lv_aload_n hx hb d_T_loadIn_9 rfl (lv_at hl 0 rfl) ?_
    refine va_get (D := (dC, dI)) (ci := 2) (v := .ref (ad 2)) (C := R_T) (T := F_T) (N := 6) hx hb htb in_T hown hK hP 1 rfl rfl 0 (by decide) (htb _ wd_46) (fun _ h9 => h9) rfl d_T_loadIn_10 ?_
    refine lv_iload_n hx hb d_T_loadIn_13 rfl (lv_at hl 1 rfl) ?_
    refine bz_lald (v := lN (bz_l t a)) hx hb hK hP 2 1 rfl rfl (a9 := a) (by omega) (by decide) (rfl) d_T_loadIn_14 ?_
    refine lv_ldc2 (v := 9) hx hb hown (htb _ wd_206) d_T_loadIn_15 ?_
    refine lv_lmul hx hb d_T_loadIn_18 ?_
    refine lv_ldc2 (v := 9) hx hb hown (htb _ wd_206) d_T_loadIn_19 ?_
    refine lv_ladd hx hb d_T_loadIn_22 ?_
    refine lv_ldc2 (v := 10) hx hb hown (htb _ wd_207) d_T_loadIn_23 ?_
    refine lv_ldiv hx hb d_T_loadIn_26 (by decide) ?_
    refine bz_rl (y := lN (bz_w t a r)) (bz_w_k ht hq) ?_
    refine lv_goto (tgt := 36) hx hb d_T_loadIn_27 (by decide) ?_
    exact W.lret (v := lN (bz_w t a r)) hx hb hr (fun t9 ht9 hW => ⟨lN (bz_w t a r), rfl, rfl, ht9⟩) (fun _ h => nomatch h) d_T_loadIn_36
end
section
theorem d_T_roundsWithHours_0 : decode b_T_roundsWithHours 0 = .ok (.iconst 0, 1) := by decide +kernel
theorem d_T_roundsWithHours_1 : decode b_T_roundsWithHours 1 = .ok (.istore_n 1, 1) := by decide +kernel
theorem d_T_roundsWithHours_2 : decode b_T_roundsWithHours 2 = .ok (.iconst 0, 1) := by decide +kernel
theorem d_T_roundsWithHours_3 : decode b_T_roundsWithHours 3 = .ok (.istore_n 2, 1) := by decide +kernel
theorem d_T_roundsWithHours_4 : decode b_T_roundsWithHours 4 = .ok (.iload_n 2, 1) := by decide +kernel
theorem d_T_roundsWithHours_5 : decode b_T_roundsWithHours 5 = .ok (.iconst 4, 1) := by decide +kernel
theorem d_T_roundsWithHours_6 : decode b_T_roundsWithHours 6 = .ok (.if_icmp .ge 23, 3) := by decide +kernel
theorem d_T_roundsWithHours_9 : decode b_T_roundsWithHours 9 = .ok (.aload_n 0, 1) := by decide +kernel
theorem d_T_roundsWithHours_10 : decode b_T_roundsWithHours 10 = .ok (.getfield 25, 3) := by decide +kernel
theorem d_T_roundsWithHours_13 : decode b_T_roundsWithHours 13 = .ok (.iload_n 2, 1) := by decide +kernel
theorem d_T_roundsWithHours_14 : decode b_T_roundsWithHours 14 = .ok (.laload, 1) := by decide +kernel
theorem d_T_roundsWithHours_15 : decode b_T_roundsWithHours 15 = .ok (.lconst 0, 1) := by decide +kernel
theorem d_T_roundsWithHours_16 : decode b_T_roundsWithHours 16 = .ok (.lcmp, 1) := by decide +kernel
theorem d_T_roundsWithHours_17 : decode b_T_roundsWithHours 17 = .ok (.ifCond .le 6, 3) := by decide +kernel
theorem d_T_roundsWithHours_20 : decode b_T_roundsWithHours 20 = .ok (.iinc 1 1, 3) := by decide +kernel
theorem d_T_roundsWithHours_23 : decode b_T_roundsWithHours 23 = .ok (.iinc 2 1, 3) := by decide +kernel
theorem d_T_roundsWithHours_26 : decode b_T_roundsWithHours 26 = .ok (.goto (-22), 3) := by decide +kernel
theorem d_T_roundsWithHours_29 : decode b_T_roundsWithHours 29 = .ok (.iload_n 1, 1) := by decide +kernel
theorem d_T_roundsWithHours_30 : decode b_T_roundsWithHours 30 = .ok (.ireturn, 1) := by decide +kernel
theorem d_T_lightestLoad_0 : decode b_T_lightestLoad 0 = .ok (.aload_n 0, 1) := by decide +kernel
theorem d_T_lightestLoad_1 : decode b_T_lightestLoad 1 = .ok (.getfield 9, 3) := by decide +kernel
theorem d_T_lightestLoad_4 : decode b_T_lightestLoad 4 = .ok (.iload_n 1, 1) := by decide +kernel
theorem d_T_lightestLoad_5 : decode b_T_lightestLoad 5 = .ok (.laload, 1) := by decide +kernel
theorem d_T_lightestLoad_6 : decode b_T_lightestLoad 6 = .ok (.lstore_n 2, 1) := by decide +kernel
theorem d_T_lightestLoad_7 : decode b_T_lightestLoad 7 = .ok (.iconst 0, 1) := by decide +kernel
theorem d_T_lightestLoad_8 : decode b_T_lightestLoad 8 = .ok (.istore 4, 2) := by decide +kernel
theorem d_T_lightestLoad_10 : decode b_T_lightestLoad 10 = .ok (.iload 4, 2) := by decide +kernel
theorem d_T_lightestLoad_12 : decode b_T_lightestLoad 12 = .ok (.iconst 4, 1) := by decide +kernel
theorem d_T_lightestLoad_13 : decode b_T_lightestLoad 13 = .ok (.if_icmp .ge 33, 3) := by decide +kernel
theorem d_T_lightestLoad_16 : decode b_T_lightestLoad 16 = .ok (.aload_n 0, 1) := by decide +kernel
theorem d_T_lightestLoad_17 : decode b_T_lightestLoad 17 = .ok (.getfield 25, 3) := by decide +kernel
theorem d_T_lightestLoad_20 : decode b_T_lightestLoad 20 = .ok (.iload 4, 2) := by decide +kernel
theorem d_T_lightestLoad_22 : decode b_T_lightestLoad 22 = .ok (.laload, 1) := by decide +kernel
theorem d_T_lightestLoad_23 : decode b_T_lightestLoad 23 = .ok (.lconst 0, 1) := by decide +kernel
theorem d_T_lightestLoad_24 : decode b_T_lightestLoad 24 = .ok (.lcmp, 1) := by decide +kernel
theorem d_T_lightestLoad_25 : decode b_T_lightestLoad 25 = .ok (.ifCond .le 15, 3) := by decide +kernel
theorem d_T_lightestLoad_28 : decode b_T_lightestLoad 28 = .ok (.lload_n 2, 1) := by decide +kernel
theorem d_T_lightestLoad_29 : decode b_T_lightestLoad 29 = .ok (.aload_n 0, 1) := by decide +kernel
theorem d_T_lightestLoad_30 : decode b_T_lightestLoad 30 = .ok (.iload_n 1, 1) := by decide +kernel
theorem d_T_lightestLoad_31 : decode b_T_lightestLoad 31 = .ok (.iload 4, 2) := by decide +kernel
theorem d_T_lightestLoad_33 : decode b_T_lightestLoad 33 = .ok (.invokevirtual 40, 3) := by decide +kernel
theorem d_T_lightestLoad_36 : decode b_T_lightestLoad 36 = .ok (.invokestatic 44, 3) := by decide +kernel
theorem d_T_lightestLoad_39 : decode b_T_lightestLoad 39 = .ok (.lstore_n 2, 1) := by decide +kernel
theorem d_T_lightestLoad_40 : decode b_T_lightestLoad 40 = .ok (.iinc 4 1, 3) := by decide +kernel
theorem d_T_lightestLoad_43 : decode b_T_lightestLoad 43 = .ok (.goto (-33), 3) := by decide +kernel
theorem d_T_lightestLoad_46 : decode b_T_lightestLoad 46 = .ok (.lload_n 2, 1) := by decide +kernel
theorem d_T_lightestLoad_47 : decode b_T_lightestLoad 47 = .ok (.lreturn, 1) := by decide +kernel
theorem d_T_fitsNowhere_0 : decode b_T_fitsNowhere 0 = .ok (.iconst 0, 1) := by decide +kernel
theorem d_T_fitsNowhere_1 : decode b_T_fitsNowhere 1 = .ok (.istore_n 2, 1) := by decide +kernel
theorem d_T_fitsNowhere_2 : decode b_T_fitsNowhere 2 = .ok (.iload_n 2, 1) := by decide +kernel
theorem d_T_fitsNowhere_3 : decode b_T_fitsNowhere 3 = .ok (.iconst 4, 1) := by decide +kernel
theorem d_T_fitsNowhere_4 : decode b_T_fitsNowhere 4 = .ok (.if_icmp .ge 38, 3) := by decide +kernel
theorem d_T_fitsNowhere_7 : decode b_T_fitsNowhere 7 = .ok (.aload_n 0, 1) := by decide +kernel
theorem d_T_fitsNowhere_8 : decode b_T_fitsNowhere 8 = .ok (.getfield 25, 3) := by decide +kernel
theorem d_T_fitsNowhere_11 : decode b_T_fitsNowhere 11 = .ok (.iload_n 2, 1) := by decide +kernel
theorem d_T_fitsNowhere_12 : decode b_T_fitsNowhere 12 = .ok (.laload, 1) := by decide +kernel
theorem d_T_fitsNowhere_13 : decode b_T_fitsNowhere 13 = .ok (.lconst 0, 1) := by decide +kernel
theorem d_T_fitsNowhere_14 : decode b_T_fitsNowhere 14 = .ok (.lcmp, 1) := by decide +kernel
theorem d_T_fitsNowhere_15 : decode b_T_fitsNowhere 15 = .ok (.ifCond .le 21, 3) := by decide +kernel
theorem d_T_fitsNowhere_18 : decode b_T_fitsNowhere 18 = .ok (.aload_n 0, 1) := by decide +kernel
theorem d_T_fitsNowhere_19 : decode b_T_fitsNowhere 19 = .ok (.iload_n 1, 1) := by decide +kernel
theorem d_T_fitsNowhere_20 : decode b_T_fitsNowhere 20 = .ok (.iload_n 2, 1) := by decide +kernel
theorem d_T_fitsNowhere_21 : decode b_T_fitsNowhere 21 = .ok (.invokevirtual 40, 3) := by decide +kernel
theorem d_T_fitsNowhere_24 : decode b_T_fitsNowhere 24 = .ok (.aload_n 0, 1) := by decide +kernel
theorem d_T_fitsNowhere_25 : decode b_T_fitsNowhere 25 = .ok (.getfield 25, 3) := by decide +kernel
theorem d_T_fitsNowhere_28 : decode b_T_fitsNowhere 28 = .ok (.iload_n 2, 1) := by decide +kernel
theorem d_T_fitsNowhere_29 : decode b_T_fitsNowhere 29 = .ok (.laload, 1) := by decide +kernel
theorem d_T_fitsNowhere_30 : decode b_T_fitsNowhere 30 = .ok (.lcmp, 1) := by decide +kernel
theorem d_T_fitsNowhere_31 : decode b_T_fitsNowhere 31 = .ok (.ifCond .gt 5, 3) := by decide +kernel
theorem d_T_fitsNowhere_34 : decode b_T_fitsNowhere 34 = .ok (.iconst 0, 1) := by decide +kernel
theorem d_T_fitsNowhere_35 : decode b_T_fitsNowhere 35 = .ok (.ireturn, 1) := by decide +kernel
theorem d_T_fitsNowhere_36 : decode b_T_fitsNowhere 36 = .ok (.iinc 2 1, 3) := by decide +kernel
theorem d_T_fitsNowhere_39 : decode b_T_fitsNowhere 39 = .ok (.goto (-37), 3) := by decide +kernel
theorem d_T_fitsNowhere_42 : decode b_T_fitsNowhere 42 = .ok (.iconst 1, 1) := by decide +kernel
theorem d_T_fitsNowhere_43 : decode b_T_fitsNowhere 43 = .ok (.ireturn, 1) := by decide +kernel
theorem d_T_haveWays_0 : decode b_T_haveWays 0 = .ok (.iload_n 1, 1) := by decide +kernel
theorem d_T_haveWays_1 : decode b_T_haveWays 1 = .ok (.iload_n 1, 1) := by decide +kernel
theorem d_T_haveWays_2 : decode b_T_haveWays 2 = .ok (.ineg, 1) := by decide +kernel
theorem d_T_haveWays_3 : decode b_T_haveWays 3 = .ok (.iand, 1) := by decide +kernel
theorem d_T_haveWays_4 : decode b_T_haveWays 4 = .ok (.istore_n 3, 1) := by decide +kernel
theorem d_T_haveWays_5 : decode b_T_haveWays 5 = .ok (.iconst 0, 1) := by decide +kernel
theorem d_T_haveWays_6 : decode b_T_haveWays 6 = .ok (.istore 4, 2) := by decide +kernel
theorem d_T_haveWays_8 : decode b_T_haveWays 8 = .ok (.iconst 0, 1) := by decide +kernel
theorem d_T_haveWays_9 : decode b_T_haveWays 9 = .ok (.istore 5, 2) := by decide +kernel
theorem d_T_haveWays_11 : decode b_T_haveWays 11 = .ok (.iload 5, 2) := by decide +kernel
theorem d_T_haveWays_13 : decode b_T_haveWays 13 = .ok (.bipush 30, 2) := by decide +kernel
theorem d_T_haveWays_15 : decode b_T_haveWays 15 = .ok (.if_icmp .ge 65, 3) := by decide +kernel
theorem d_T_haveWays_18 : decode b_T_haveWays 18 = .ok (.iload_n 3, 1) := by decide +kernel
theorem d_T_haveWays_19 : decode b_T_haveWays 19 = .ok (.iload 4, 2) := by decide +kernel
theorem d_T_haveWays_21 : decode b_T_haveWays 21 = .ok (.if_icmp .eq 59, 3) := by decide +kernel
theorem d_T_haveWays_24 : decode b_T_haveWays 24 = .ok (.iload_n 1, 1) := by decide +kernel
theorem d_T_haveWays_25 : decode b_T_haveWays 25 = .ok (.iload_n 3, 1) := by decide +kernel
theorem d_T_haveWays_26 : decode b_T_haveWays 26 = .ok (.iconst (-1), 1) := by decide +kernel
theorem d_T_haveWays_27 : decode b_T_haveWays 27 = .ok (.ixor, 1) := by decide +kernel
theorem d_T_haveWays_28 : decode b_T_haveWays 28 = .ok (.iand, 1) := by decide +kernel
theorem d_T_haveWays_29 : decode b_T_haveWays 29 = .ok (.ifCond .eq 51, 3) := by decide +kernel
theorem d_T_haveWays_32 : decode b_T_haveWays 32 = .ok (.iload_n 3, 1) := by decide +kernel
theorem d_T_haveWays_33 : decode b_T_haveWays 33 = .ok (.istore 4, 2) := by decide +kernel
theorem d_T_haveWays_35 : decode b_T_haveWays 35 = .ok (.iconst 0, 1) := by decide +kernel
theorem d_T_haveWays_36 : decode b_T_haveWays 36 = .ok (.istore 6, 2) := by decide +kernel
theorem d_T_haveWays_38 : decode b_T_haveWays 38 = .ok (.iload 6, 2) := by decide +kernel
theorem d_T_haveWays_40 : decode b_T_haveWays 40 = .ok (.aload_n 0, 1) := by decide +kernel
theorem d_T_haveWays_41 : decode b_T_haveWays 41 = .ok (.getfield 28, 3) := by decide +kernel
theorem d_T_haveWays_44 : decode b_T_haveWays 44 = .ok (.if_icmp .ge 30, 3) := by decide +kernel
theorem d_T_haveWays_47 : decode b_T_haveWays 47 = .ok (.iload_n 3, 1) := by decide +kernel
theorem d_T_haveWays_48 : decode b_T_haveWays 48 = .ok (.iconst 1, 1) := by decide +kernel
theorem d_T_haveWays_49 : decode b_T_haveWays 49 = .ok (.iload 6, 2) := by decide +kernel
theorem d_T_haveWays_51 : decode b_T_haveWays 51 = .ok (.ishl, 1) := by decide +kernel
theorem d_T_haveWays_52 : decode b_T_haveWays 52 = .ok (.iand, 1) := by decide +kernel
theorem d_T_haveWays_53 : decode b_T_haveWays 53 = .ok (.ifCond .eq 15, 3) := by decide +kernel
theorem d_T_haveWays_56 : decode b_T_haveWays 56 = .ok (.iload_n 3, 1) := by decide +kernel
theorem d_T_haveWays_57 : decode b_T_haveWays 57 = .ok (.aload_n 0, 1) := by decide +kernel
theorem d_T_haveWays_58 : decode b_T_haveWays 58 = .ok (.getfield 19, 3) := by decide +kernel
theorem d_T_haveWays_61 : decode b_T_haveWays 61 = .ok (.iload 6, 2) := by decide +kernel
theorem d_T_haveWays_63 : decode b_T_haveWays 63 = .ok (.iaload, 1) := by decide +kernel
theorem d_T_haveWays_64 : decode b_T_haveWays 64 = .ok (.iload_n 2, 1) := by decide +kernel
theorem d_T_haveWays_65 : decode b_T_haveWays 65 = .ok (.iand, 1) := by decide +kernel
theorem d_T_haveWays_66 : decode b_T_haveWays 66 = .ok (.ior, 1) := by decide +kernel
theorem d_T_haveWays_67 : decode b_T_haveWays 67 = .ok (.istore_n 3, 1) := by decide +kernel
theorem d_T_haveWays_68 : decode b_T_haveWays 68 = .ok (.iinc 6 1, 3) := by decide +kernel
theorem d_T_haveWays_71 : decode b_T_haveWays 71 = .ok (.goto (-33), 3) := by decide +kernel
theorem d_T_haveWays_74 : decode b_T_haveWays 74 = .ok (.iinc 5 1, 3) := by decide +kernel
theorem d_T_haveWays_77 : decode b_T_haveWays 77 = .ok (.goto (-66), 3) := by decide +kernel
theorem d_T_haveWays_80 : decode b_T_haveWays 80 = .ok (.iload_n 1, 1) := by decide +kernel
theorem d_T_haveWays_81 : decode b_T_haveWays 81 = .ok (.iload_n 3, 1) := by decide +kernel
theorem d_T_haveWays_82 : decode b_T_haveWays 82 = .ok (.iconst (-1), 1) := by decide +kernel
theorem d_T_haveWays_83 : decode b_T_haveWays 83 = .ok (.ixor, 1) := by decide +kernel
theorem d_T_haveWays_84 : decode b_T_haveWays 84 = .ok (.iand, 1) := by decide +kernel
theorem d_T_haveWays_85 : decode b_T_haveWays 85 = .ok (.ifCond .ne 7, 3) := by decide +kernel
theorem d_T_haveWays_88 : decode b_T_haveWays 88 = .ok (.iconst 1, 1) := by decide +kernel
theorem d_T_haveWays_89 : decode b_T_haveWays 89 = .ok (.goto 4, 3) := by decide +kernel
theorem d_T_haveWays_92 : decode b_T_haveWays 92 = .ok (.iconst 0, 1) := by decide +kernel
theorem d_T_haveWays_93 : decode b_T_haveWays 93 = .ok (.ireturn, 1) := by decide +kernel

theorem bz_lc_le {a b : Nat} (ha : a < 2 ^ 63) (hb : b < 2 ^ 63) : lg_cmp (lN a) (lN b) ≤ 0 ↔ a ≤ b := by rw [lg_cmp_le]; exact pk_lLE ha hb
theorem bz_lc_lt {a b : Nat} (ha : a < 2 ^ 63) (hb : b < 2 ^ 63) : lg_cmp (lN a) (lN b) < 0 ↔ a < b := by rw [lg_cmp_lt]; exact pk_lLT ha hb
theorem bz_lc_gt {a b : Nat} (ha : a < 2 ^ 63) (hb : b < 2 ^ 63) : 0 < lg_cmp (lN a) (lN b) ↔ b < a := by rw [lg_cmp_gt]; exact pk_lLT hb ha
theorem bz_lc_ge {a b : Nat} (ha : a < 2 ^ 63) (hb : b < 2 ^ 63) : 0 ≤ lg_cmp (lN a) (lN b) ↔ b ≤ a := by rw [lg_cmp_ge]; exact pk_lLE hb ha
theorem bz_lc_eq {a b : Nat} (ha : a < 2 ^ 63) (hb : b < 2 ^ 63) : lg_cmp (lN a) (lN b) = 0 ↔ a = b := by rw [lg_cmp_eq]; exact pk_lEQ ha hb
theorem bz_ct_1 {f : Nat → Bool} {i : Nat} (h : f i = true) : bz_ct f (i + 1) = bz_ct f i + 1 := by
  show bz_ct f i + (if f i then 1 else 0) = _
  rw [if_pos h]
theorem bz_ct_0 {f : Nat → Bool} {i : Nat} (h : f i = false) : bz_ct f (i + 1) = bz_ct f i := by
  show bz_ct f i + (if f i then 1 else 0) = _
  rw [if_neg (by simp [h])]
  rfl
/-- the rounds with hours -/
def bz_wh (t : bz_T) (r : Nat) : Bool := decide (0 < bz_h t r)
/-- where an area is lightest, of the rounds up to k -/
def bz_mn (t : bz_T) (a : Nat) : Nat → Nat
  | 0 => bz_l t a
  | k + 1 => if bz_wh t k then min (bz_mn t a k) (bz_w t a k) else bz_mn t a k
theorem bz_mn_1 {t : bz_T} {a k : Nat} (h : 0 < bz_h t k) : bz_mn t a (k + 1) = min (bz_mn t a k) (bz_w t a k) := by
  show (if bz_wh t k then min (bz_mn t a k) (bz_w t a k) else bz_mn t a k) = _
  rw [if_pos (by unfold bz_wh; exact decide_eq_true h)]
theorem bz_mn_0 {t : bz_T} {a k : Nat} (h : bz_h t k ≤ 0) : bz_mn t a (k + 1) = bz_mn t a k := by
  show (if bz_wh t k then min (bz_mn t a k) (bz_w t a k) else bz_mn t a k) = _
  rw [if_neg (by unfold bz_wh; simp; omega)]
theorem bz_mn_le {t : bz_T} (h : bz_ok t) (a : Nat) : ∀ k, bz_mn t a k ≤ 1000000
  | 0 => h.2.1 a
  | k + 1 => by
    have := bz_mn_le h a k
    unfold bz_mn
    split <;> omega
/-- an area that is too large for the rounds up to k -/
def bz_tl (t : bz_T) (a : Nat) : Nat → Bool
  | 0 => true
  | k + 1 => bz_tl t a k && !(bz_wh t k && decide (bz_w t a k ≤ bz_h t k))
theorem bz_tl_0 {t : bz_T} {a k : Nat} (h : bz_tl t a k = false) : ∀ m, k ≤ m → bz_tl t a m = false := by
  intro m hm
  induction m with
  | zero => rw [show k = 0 by omega] at h; exact h
  | succ m ih =>
    by_cases e : k = m + 1
    · rw [← e]; exact h
    · unfold bz_tl
      rw [ih (by omega)]
      rfl
theorem bz_lmin {a b : Nat} (ha : a < 2 ^ 63) (hb : b < 2 ^ 63) : (if lN b < lN a then lN b else lN a) = lN (min a b) := by
  by_cases h : b < a
  · rw [if_pos ((pk_lLT hb ha).mpr h), Nat.min_eq_right (Nat.le_of_lt h)]
  · rw [if_neg (fun q => h ((pk_lLT hb ha).mp q)), Nat.min_eq_left (by omega)]
theorem bz_lmax {a b : Nat} (ha : a < 2 ^ 63) (hb : b < 2 ^ 63) : (if lN b < lN a then lN a else lN b) = lN (max a b) := by
  by_cases h : b < a
  · rw [if_pos ((pk_lLT hb ha).mpr h), Nat.max_eq_left (Nat.le_of_lt h)]
  · rw [if_neg (fun q => h ((pk_lLT hb ha).mp q)), Nat.max_eq_right (by omega)]

set_option maxHeartbeats 4000000 in
set_option maxRecDepth 100000 in
/-- Town.roundsWithHours -/
theorem c_T_roundsWithHours (l : Launch) (dC : Nat → ClassId) (dI : Nat → Nat → Nat) (ad : Nat → Nat) (cI cL : ClassId) (t : bz_T) (R : bz_RS) (L : (Nat → Int32) × Int64) (v : Int32) (ht : bz_ok t) : Met l y_T_roundsWithHours w_T_roundsWithHours ({ frames := 0, cells := 0, slots := 0, locals := 0 }) (bz_Pr (dC, dI) [(cI, .int), (cL, .long)] (bz_wB ad cI cL (bz_tR t) R L v) [.ref (ad 1)]) (vp_Si (fun r9 => r9 = nI (bz_ct (bz_wh t) 4))) 0 0 (fun _ => False) := by
  refine Met.ofW (cc := b_T_roundsWithHours) (maxL := 3) (ret := (some .int)) (by decide) rfl ?_
  intro p e s m args below meth c s₁ B hml hv
  obtain ⟨rfl, hP, hK, hN⟩ := hv
  have hx := B.exec
  have hb := B.bytes
  have hr := B.returns
  have hts := atoms_spec (ws := w_T_roundsWithHours) B.pre
  have hown : s.vm.findClass R_T = some m.cls := findClass_of_methodNamed B.named
  have htb : ∀ w ∈ bz_tb, w.before _ s = true := fun w h => hts w (List.mem_cons_of_mem _ h)
  have hlocks := B.notSynchronized
  have hl := lv_entry ([.ref (ad 1)]) (n := 3) (Nat.le_of_ble_eq_true rfl)
  rw [lg_entry_eq]
  generalize (lg_sl ([.ref (ad 1)]) ++ List.replicate (3 - (lg_sl ([.ref (ad 1)])).length) Slot.unset).toArray = ls at hl ⊢
  have hl : lv_has ls 3 [(0, .ref (ad 1))] := hl
  refine lv_iconst (v := nI 0) hx hb d_T_roundsWithHours_0 (by decide) ?_
  refine lv_istore_n (lv' := [(1, .int (nI 0)), (0, .ref (ad 1))]) hx hb d_T_roundsWithHours_1 rfl hl (by decide) rfl (fun ls hl => ?_)
  refine lv_iconst (v := nI 0) hx hb d_T_roundsWithHours_2 (by decide) ?_
  refine lv_istore_n (lv' := [(2, .int (nI 0)), (1, .int (nI 0)), (0, .ref (ad 1))]) hx hb d_T_roundsWithHours_3 rfl hl (by decide) rfl (fun ls hl => ?_)
  have lp : ∀ (k9 : Nat) (i : Nat), 4 - i < k9 → i ≤ 4 → ∀ (ls : Array Slot), lv_has ls 3 [(0, .ref (ad 1)), (1, .int (nI (bz_ct (bz_wh t) i))), (2, .int (nI i))] → W p l e (headSpec w_T_roundsWithHours ({ frames := 0, cells := 0, slots := 0, locals := 0 })).room s m ([.ref (ad 1)]).toArray below meth c s.heap [] 0 0 (MQ below (vp_Si (fun r9 => r9 = nI (bz_ct (bz_wh t) 4))) ([.ref (ad 1)]).toArray s 0 0 (fun _ => False)) (F0 m 4 ls []) := by
    intro k9
    induction k9 with
    | zero =>
      intro i h9
      exact absurd h9 (Nat.not_lt_zero _)
    | succ k9 ihlp =>
      intro i h9_lp hi ls hl
      refine lv_iload_n hx hb d_T_roundsWithHours_4 rfl (lv_at hl 2 rfl) ?_
      refine lv_iconst (v := 4) hx hb d_T_roundsWithHours_5 (by decide) ?_
      refine lv_icmp_ge (tgt := 29) hx hb d_T_roundsWithHours_6 (by decide) (fun c_6 => ?_) (fun c_6 => ?_)
      · skip
        have hi4 : i = 4 := by have := (nI_leI (a := 4) (by omega) (by omega)).mp c_6; omega
        skip
        refine lv_iload_n hx hb d_T_roundsWithHours_29 rfl (lv_at hl 1 rfl) ?_
        exact W.iret (v := nI (bz_ct (bz_wh t) i)) hx hb hr (fun t9 ht9 hW => ⟨nI (bz_ct (bz_wh t) i), rfl, by rw [hi4], ht9⟩) (fun _ h => nomatch h) d_T_roundsWithHours_30
      · skip
        have hi4 : i < 4 := Nat.lt_of_not_le fun z => c_6 ((nI_leI (a := 4) (b := i) (by omega) (by omega)).mpr z)
        refine lv_aload_n hx hb d_T_roundsWithHours_9 rfl (lv_at hl 0 rfl) ?_
        refine va_get (D := (dC, dI)) (ci := 2) (v := .ref (ad 6)) (C := R_T) (T := F_T) (N := 6) hx hb htb in_T hown hK hP 1 rfl rfl 4 (by decide) (htb _ wd_52) (fun _ h9 => h9) rfl d_T_roundsWithHours_10 ?_
        refine lv_iload_n hx hb d_T_roundsWithHours_13 rfl (lv_at hl 2 rfl) ?_
        refine bz_lald (v := lN (bz_h t i)) hx hb hK hP 6 1 rfl rfl (a9 := i) (by omega) (by decide) (rfl) d_T_roundsWithHours_14 ?_
        refine lv_lconst (v := 0) hx hb d_T_roundsWithHours_15 (by decide) ?_
        refine W.lcmp hx hb d_T_roundsWithHours_16 ?_
        refine lv_if_le (tgt := 23) hx hb d_T_roundsWithHours_17 (by decide) (fun c_17 => ?_) (fun c_17 => ?_)
        · skip
          have c_17 := (bz_lc_le (b := 0) (by have := ht.2.2.2.2.2.2 i; omega) (by omega)).mp c_17
          have hl : lv_has ls 3 [(0, .ref (ad 1)), (1, .int (nI (bz_ct (bz_wh t) (i + 1)))), (2, .int (nI i))] := by rw [show nI (bz_ct (bz_wh t) (i + 1)) = nI (bz_ct (bz_wh t) i) from by rw [bz_ct_0 (by unfold bz_wh; exact decide_eq_false (by omega))]]; exact hl
          refine lv_iinc (v := nI (i + 1)) (lv' := [(2, .int (nI (i + 1))), (0, .ref (ad 1)), (1, .int (nI (bz_ct (bz_wh t) (i + 1))))]) hx hb d_T_roundsWithHours_23 hl (k := 2) rfl (nI_1 _) (by decide) rfl (fun ls hl => ?_)
          refine lv_goto (tgt := 4) hx hb d_T_roundsWithHours_26 (by decide) ?_
          exact ihlp (i + 1) (by omega) (by omega) ls (lv_sub hl [1, 2, 0] rfl)
        · skip
          have c_17 : 0 < bz_h t i := Nat.lt_of_not_le fun z => c_17 ((bz_lc_le (b := 0) (by have := ht.2.2.2.2.2.2 i; omega) (by omega)).mpr z)
          refine lv_iinc (v := nI (bz_ct (bz_wh t) (i + 1))) (lv' := [(1, .int (nI (bz_ct (bz_wh t) (i + 1)))), (0, .ref (ad 1)), (2, .int (nI i))]) hx hb d_T_roundsWithHours_20 hl (k := 1) rfl (by rw [bz_ct_1 (by unfold bz_wh; exact decide_eq_true (by omega))]; exact nI_1 _) (by decide) rfl (fun ls hl => ?_)
          refine lv_iinc (v := nI (i + 1)) (lv' := [(2, .int (nI (i + 1))), (1, .int (nI (bz_ct (bz_wh t) (i + 1)))), (0, .ref (ad 1))]) hx hb d_T_roundsWithHours_23 hl (k := 2) rfl (nI_1 _) (by decide) rfl (fun ls hl => ?_)
          refine lv_goto (tgt := 4) hx hb d_T_roundsWithHours_26 (by decide) ?_
          exact ihlp (i + 1) (by omega) (by omega) ls (lv_sub hl [2, 1, 0] rfl)
  exact lp _ 0 (Nat.lt_succ_self _) (by omega) ls (lv_sub hl [2, 1, 0] rfl)

set_option maxHeartbeats 4000000 in
set_option maxRecDepth 100000 in
/-- Town.lightestLoad -/
theorem c_T_lightestLoad (l : Launch) (dC : Nat → ClassId) (dI : Nat → Nat → Nat) (ad : Nat → Nat) (cI cL : ClassId) (t : bz_T) (R : bz_RS) (L : (Nat → Int32) × Int64) (v : Int32) (ht : bz_ok t) (a : Nat) (ha : a < 30) : Met l y_T_lightestLoad w_T_lightestLoad ({ frames := 2, cells := 0, slots := 0, locals := 44 }) (bz_Pr (dC, dI) [(cI, .int), (cL, .long)] (bz_wB ad cI cL (bz_tR t) R L v) [.ref (ad 1), .int (nI a)]) (vp_Sl (fun r9 => r9 = lN (bz_mn t a 4))) 0 0 (fun _ => False) := by
  refine Met.ofW (cc := b_T_lightestLoad) (maxL := 5) (ret := (some .long)) (by decide) rfl ?_
  intro p e s m args below meth c s₁ B hml hv
  obtain ⟨rfl, hP, hK, hN⟩ := hv
  have hx := B.exec
  have hb := B.bytes
  have hr := B.returns
  have hts := atoms_spec (ws := w_T_lightestLoad) B.pre
  have hown : s.vm.findClass R_T = some m.cls := findClass_of_methodNamed B.named
  have htb : ∀ w ∈ bz_tb, w.before _ s = true := fun w h => hts w (List.mem_cons_of_mem _ h)
  have hlocks := B.notSynchronized
  have hl := lv_entry ([.ref (ad 1), .int (nI a)]) (n := 5) (Nat.le_of_ble_eq_true rfl)
  rw [lg_entry_eq]
  generalize (lg_sl ([.ref (ad 1), .int (nI a)]) ++ List.replicate (5 - (lg_sl ([.ref (ad 1), .int (nI a)])).length) Slot.unset).toArray = ls at hl ⊢
  have hl : lv_has ls 5 [(0, .ref (ad 1)), (1, .int (nI a))] := hl
  refine lv_aload_n hx hb d_T_lightestLoad_0 rfl (lv_at hl 0 rfl) ?_
  refine va_get (D := (dC, dI)) (ci := 2) (v := .ref (ad 2)) (C := R_T) (T := F_T) (N := 6) hx hb htb in_T hown hK hP 1 rfl rfl 0 (by decide) (htb _ wd_46) (fun _ h9 => h9) rfl d_T_lightestLoad_1 ?_
  refine lv_iload_n hx hb d_T_lightestLoad_4 rfl (lv_at hl 1 rfl) ?_
  refine bz_lald (v := lN (bz_l t a)) hx hb hK hP 2 1 rfl rfl (a9 := a) (by omega) (by decide) (rfl) d_T_lightestLoad_5 ?_
  refine bz_rl (y := lN (bz_mn t a 0)) (rfl) ?_
  refine lv_lstore_n (lv' := [(2, .long (lN (bz_mn t a 0))), (0, .ref (ad 1)), (1, .int (nI a))]) hx hb d_T_lightestLoad_6 rfl hl (by decide) rfl (fun ls hl => ?_)
  refine lv_iconst (v := nI 0) hx hb d_T_lightestLoad_7 (by decide) ?_
  refine lv_istore (lv' := [(4, .int (nI 0)), (2, .long (lN (bz_mn t a 0))), (0, .ref (ad 1)), (1, .int (nI a))]) hx hb d_T_lightestLoad_8 hl (by decide) rfl (fun ls hl => ?_)
  have lp : ∀ (k9 : Nat) (i : Nat), 4 - i < k9 → i ≤ 4 → ∀ (ls : Array Slot), lv_has ls 5 [(0, .ref (ad 1)), (1, .int (nI a)), (2, .long (lN (bz_mn t a i))), (4, .int (nI i))] → W p l e (headSpec w_T_lightestLoad ({ frames := 2, cells := 0, slots := 0, locals := 44 })).room s m ([.ref (ad 1), .int (nI a)]).toArray below meth c s.heap [] 0 0 (MQ below (vp_Sl (fun r9 => r9 = lN (bz_mn t a 4))) ([.ref (ad 1), .int (nI a)]).toArray s 0 0 (fun _ => False)) (F0 m 10 ls []) := by
    intro k9
    induction k9 with
    | zero =>
      intro i h9
      exact absurd h9 (Nat.not_lt_zero _)
    | succ k9 ihlp =>
      intro i h9_lp hi ls hl
      refine lv_iload hx hb d_T_lightestLoad_10 (lv_at hl 3 rfl) ?_
      refine lv_iconst (v := 4) hx hb d_T_lightestLoad_12 (by decide) ?_
      refine lv_icmp_ge (tgt := 46) hx hb d_T_lightestLoad_13 (by decide) (fun c_13 => ?_) (fun c_13 => ?_)
      · skip
        have hi4 : i = 4 := by have := (nI_leI (a := 4) (by omega) (by omega)).mp c_13; omega
        skip
        refine lv_lload_n hx hb d_T_lightestLoad_46 rfl (lv_at hl 2 rfl) ?_
        exact W.lret (v := lN (bz_mn t a i)) hx hb hr (fun t9 ht9 hW => ⟨lN (bz_mn t a i), rfl, by rw [hi4], ht9⟩) (fun _ h => nomatch h) d_T_lightestLoad_47
      · skip
        have hi4 : i < 4 := Nat.lt_of_not_le fun z => c_13 ((nI_leI (a := 4) (b := i) (by omega) (by omega)).mpr z)
        refine lv_aload_n hx hb d_T_lightestLoad_16 rfl (lv_at hl 0 rfl) ?_
        refine va_get (D := (dC, dI)) (ci := 2) (v := .ref (ad 6)) (C := R_T) (T := F_T) (N := 6) hx hb htb in_T hown hK hP 1 rfl rfl 4 (by decide) (htb _ wd_52) (fun _ h9 => h9) rfl d_T_lightestLoad_17 ?_
        refine lv_iload hx hb d_T_lightestLoad_20 (lv_at hl 3 rfl) ?_
        refine bz_lald (v := lN (bz_h t i)) hx hb hK hP 6 1 rfl rfl (a9 := i) (by omega) (by decide) (rfl) d_T_lightestLoad_22 ?_
        refine lv_lconst (v := 0) hx hb d_T_lightestLoad_23 (by decide) ?_
        refine W.lcmp hx hb d_T_lightestLoad_24 ?_
        refine lv_if_le (tgt := 40) hx hb d_T_lightestLoad_25 (by decide) (fun c_25 => ?_) (fun c_25 => ?_)
        · skip
          have c_25 := (bz_lc_le (b := 0) (by have := ht.2.2.2.2.2.2 i; omega) (by omega)).mp c_25
          have hl : lv_has ls 5 [(0, .ref (ad 1)), (1, .int (nI a)), (2, .long (lN (bz_mn t a (i + 1)))), (4, .int (nI i))] := by rw [show lN (bz_mn t a (i + 1)) = lN (bz_mn t a i) from by rw [bz_mn_0 c_25]]; exact hl
          refine lv_iinc (v := nI (i + 1)) (lv' := [(4, .int (nI (i + 1))), (0, .ref (ad 1)), (1, .int (nI a)), (2, .long (lN (bz_mn t a (i + 1))))]) hx hb d_T_lightestLoad_40 hl (k := 3) rfl (nI_1 _) (by decide) rfl (fun ls hl => ?_)
          refine lv_goto (tgt := 10) hx hb d_T_lightestLoad_43 (by decide) ?_
          exact ihlp (i + 1) (by omega) (by omega) ls (lv_sub hl [1, 2, 3, 0] rfl)
        · skip
          have c_25 : 0 < bz_h t i := Nat.lt_of_not_le fun z => c_25 ((bz_lc_le (b := 0) (by have := ht.2.2.2.2.2.2 i; omega) (by omega)).mpr z)
          refine lv_lload_n hx hb d_T_lightestLoad_28 rfl (lv_at hl 2 rfl) ?_
          refine lv_aload_n hx hb d_T_lightestLoad_29 rfl (lv_at hl 0 rfl) ?_
          refine lv_iload_n hx hb d_T_lightestLoad_30 rfl (lv_at hl 1 rfl) ?_
          refine lv_iload hx hb d_T_lightestLoad_31 (lv_at hl 3 rfl) ?_
          refine bz_sl (va_runV (As := [.int (nI a), .int (nI i)]) (rest := [.long (lN (bz_mn t a i))]) ⟨hx, hb, hml, hown, htb⟩ (c_T_loadIn l dC dI ad cI cL t R L v ht _ _ (by omega) (by omega)) (cwV 2 htb (bz_gV wd_204 wd_294 wd_202 wd_203 wd_20) rfl rfl rfl (by decide +kernel) ⟨Nat.le_of_ble_eq_true rfl, Nat.le_of_ble_eq_true rfl⟩) (bz_rv hN hK hP (q0 := 1) rfl rfl) rfl rfl hl.1 rfl (lv_room (Nat.le_of_ble_eq_true rfl)) d_T_lightestLoad_33 ⟨Nat.zero_le _, Nat.zero_le _⟩) ?_
          refine va_mmin_long hx hb (hml.trans hl.1.symm) hown (htb _ wd_295) (htb _ wd_296) (htb _ wd_25) (htb _ wd_297) (Nat.le_of_ble_eq_true rfl) (Nat.le_of_ble_eq_true rfl) (Nat.le_of_ble_eq_true rfl) (Nat.le_of_ble_eq_true rfl) d_T_lightestLoad_36 ?_
          refine bz_rl (y := lN (bz_mn t a (i + 1))) (by rw [bz_lmin (by have := bz_mn_le ht a i; omega) (by have := bz_w_le ht a i; omega)]; rw [bz_mn_1 c_25]) ?_
          refine lv_lstore_n (lv' := [(2, .long (lN (bz_mn t a (i + 1)))), (0, .ref (ad 1)), (1, .int (nI a)), (4, .int (nI i))]) hx hb d_T_lightestLoad_39 rfl hl (by decide) rfl (fun ls hl => ?_)
          refine lv_iinc (v := nI (i + 1)) (lv' := [(4, .int (nI (i + 1))), (2, .long (lN (bz_mn t a (i + 1)))), (0, .ref (ad 1)), (1, .int (nI a))]) hx hb d_T_lightestLoad_40 hl (k := 3) rfl (nI_1 _) (by decide) rfl (fun ls hl => ?_)
          refine lv_goto (tgt := 10) hx hb d_T_lightestLoad_43 (by decide) ?_
          exact ihlp (i + 1) (by omega) (by omega) ls (lv_sub hl [2, 3, 1, 0] rfl)
  exact lp _ 0 (Nat.lt_succ_self _) (by omega) ls (lv_sub hl [2, 3, 1, 0] rfl)

set_option maxHeartbeats 4000000 in
set_option maxRecDepth 100000 in
/-- Town.fitsNowhere -/
theorem c_T_fitsNowhere (l : Launch) (dC : Nat → ClassId) (dI : Nat → Nat → Nat) (ad : Nat → Nat) (cI cL : ClassId) (t : bz_T) (R : bz_RS) (L : (Nat → Int32) × Int64) (v : Int32) (ht : bz_ok t) (a : Nat) (ha : a < 30) : Met l y_T_fitsNowhere w_T_fitsNowhere ({ frames := 2, cells := 0, slots := 0, locals := 44 }) (bz_Pr (dC, dI) [(cI, .int), (cL, .long)] (bz_wB ad cI cL (bz_tR t) R L v) [.ref (ad 1), .int (nI a)]) (vp_Si (fun r9 => r9 = bz_i (bz_tl t a 4))) 0 0 (fun _ => False) := by
  refine Met.ofW (cc := b_T_fitsNowhere) (maxL := 3) (ret := (some .boolean)) (by decide) rfl ?_
  intro p e s m args below meth c s₁ B hml hv
  obtain ⟨rfl, hP, hK, hN⟩ := hv
  have hx := B.exec
  have hb := B.bytes
  have hr := B.returns
  have hts := atoms_spec (ws := w_T_fitsNowhere) B.pre
  have hown : s.vm.findClass R_T = some m.cls := findClass_of_methodNamed B.named
  have htb : ∀ w ∈ bz_tb, w.before _ s = true := fun w h => hts w (List.mem_cons_of_mem _ h)
  have hlocks := B.notSynchronized
  have hl := lv_entry ([.ref (ad 1), .int (nI a)]) (n := 3) (Nat.le_of_ble_eq_true rfl)
  rw [lg_entry_eq]
  generalize (lg_sl ([.ref (ad 1), .int (nI a)]) ++ List.replicate (3 - (lg_sl ([.ref (ad 1), .int (nI a)])).length) Slot.unset).toArray = ls at hl ⊢
  have hl : lv_has ls 3 [(0, .ref (ad 1)), (1, .int (nI a))] := hl
  refine lv_iconst (v := nI 0) hx hb d_T_fitsNowhere_0 (by decide) ?_
  refine lv_istore_n (lv' := [(2, .int (nI 0)), (0, .ref (ad 1)), (1, .int (nI a))]) hx hb d_T_fitsNowhere_1 rfl hl (by decide) rfl (fun ls hl => ?_)
  have lp : ∀ (k9 : Nat) (i : Nat), 4 - i < k9 → i ≤ 4 → bz_tl t a i = true → ∀ (ls : Array Slot), lv_has ls 3 [(0, .ref (ad 1)), (1, .int (nI a)), (2, .int (nI i))] → W p l e (headSpec w_T_fitsNowhere ({ frames := 2, cells := 0, slots := 0, locals := 44 })).room s m ([.ref (ad 1), .int (nI a)]).toArray below meth c s.heap [] 0 0 (MQ below (vp_Si (fun r9 => r9 = bz_i (bz_tl t a 4))) ([.ref (ad 1), .int (nI a)]).toArray s 0 0 (fun _ => False)) (F0 m 2 ls []) := by
    intro k9
    induction k9 with
    | zero =>
      intro i h9
      exact absurd h9 (Nat.not_lt_zero _)
    | succ k9 ihlp =>
      intro i h9_lp hi ht1 ls hl
      refine lv_iload_n hx hb d_T_fitsNowhere_2 rfl (lv_at hl 2 rfl) ?_
      refine lv_iconst (v := 4) hx hb d_T_fitsNowhere_3 (by decide) ?_
      refine lv_icmp_ge (tgt := 42) hx hb d_T_fitsNowhere_4 (by decide) (fun c_4 => ?_) (fun c_4 => ?_)
      · skip
        have hi4 : i = 4 := by have := (nI_leI (a := 4) (by omega) (by omega)).mp c_4; omega
        skip
        refine lv_iconst (v := 1) hx hb d_T_fitsNowhere_42 (by decide) ?_
        exact W.zret (v := 1) hx hb hr (rfl) (fun t9 ht9 hW => ⟨1, rfl, by rw [← hi4, ht1]; rfl, ht9⟩) (fun _ h => nomatch h) d_T_fitsNowhere_43
      · skip
        have hi4 : i < 4 := Nat.lt_of_not_le fun z => c_4 ((nI_leI (a := 4) (b := i) (by omega) (by omega)).mpr z)
        refine lv_aload_n hx hb d_T_fitsNowhere_7 rfl (lv_at hl 0 rfl) ?_
        refine va_get (D := (dC, dI)) (ci := 2) (v := .ref (ad 6)) (C := R_T) (T := F_T) (N := 6) hx hb htb in_T hown hK hP 1 rfl rfl 4 (by decide) (htb _ wd_52) (fun _ h9 => h9) rfl d_T_fitsNowhere_8 ?_
        refine lv_iload_n hx hb d_T_fitsNowhere_11 rfl (lv_at hl 2 rfl) ?_
        refine bz_lald (v := lN (bz_h t i)) hx hb hK hP 6 1 rfl rfl (a9 := i) (by omega) (by decide) (rfl) d_T_fitsNowhere_12 ?_
        refine lv_lconst (v := 0) hx hb d_T_fitsNowhere_13 (by decide) ?_
        refine W.lcmp hx hb d_T_fitsNowhere_14 ?_
        refine lv_if_le (tgt := 36) hx hb d_T_fitsNowhere_15 (by decide) (fun c_15 => ?_) (fun c_15 => ?_)
        · skip
          have c_15 := (bz_lc_le (b := 0) (by have := ht.2.2.2.2.2.2 i; omega) (by omega)).mp c_15
          have hn : bz_tl t a (i + 1) = true := by unfold bz_tl; rw [ht1]; unfold bz_wh; rw [decide_eq_false (by omega)]; rfl
          refine lv_iinc (v := nI (i + 1)) (lv' := [(2, .int (nI (i + 1))), (0, .ref (ad 1)), (1, .int (nI a))]) hx hb d_T_fitsNowhere_36 hl (k := 2) rfl (nI_1 _) (by decide) rfl (fun ls hl => ?_)
          refine lv_goto (tgt := 2) hx hb d_T_fitsNowhere_39 (by decide) ?_
          exact ihlp (i + 1) (by omega) (by omega) (hn) ls (lv_sub hl [1, 2, 0] rfl)
        · skip
          have c_15 : 0 < bz_h t i := Nat.lt_of_not_le fun z => c_15 ((bz_lc_le (b := 0) (by have := ht.2.2.2.2.2.2 i; omega) (by omega)).mpr z)
          refine lv_aload_n hx hb d_T_fitsNowhere_18 rfl (lv_at hl 0 rfl) ?_
          refine lv_iload_n hx hb d_T_fitsNowhere_19 rfl (lv_at hl 1 rfl) ?_
          refine lv_iload_n hx hb d_T_fitsNowhere_20 rfl (lv_at hl 2 rfl) ?_
          refine bz_sl (va_runV (As := [.int (nI a), .int (nI i)]) (rest := []) ⟨hx, hb, hml, hown, htb⟩ (c_T_loadIn l dC dI ad cI cL t R L v ht _ _ (by omega) (by omega)) (cwV 2 htb (bz_gV wd_204 wd_294 wd_202 wd_203 wd_20) rfl rfl rfl (by decide +kernel) ⟨Nat.le_of_ble_eq_true rfl, Nat.le_of_ble_eq_true rfl⟩) (bz_rv hN hK hP (q0 := 1) rfl rfl) rfl rfl hl.1 rfl (lv_room (Nat.le_of_ble_eq_true rfl)) d_T_fitsNowhere_21 ⟨Nat.zero_le _, Nat.zero_le _⟩) ?_
          refine lv_aload_n hx hb d_T_fitsNowhere_24 rfl (lv_at hl 0 rfl) ?_
          refine va_get (D := (dC, dI)) (ci := 2) (v := .ref (ad 6)) (C := R_T) (T := F_T) (N := 6) hx hb htb in_T hown hK hP 1 rfl rfl 4 (by decide) (htb _ wd_52) (fun _ h9 => h9) rfl d_T_fitsNowhere_25 ?_
          refine lv_iload_n hx hb d_T_fitsNowhere_28 rfl (lv_at hl 2 rfl) ?_
          refine bz_lald (v := lN (bz_h t i)) hx hb hK hP 6 1 rfl rfl (a9 := i) (by omega) (by decide) (rfl) d_T_fitsNowhere_29 ?_
          refine W.lcmp hx hb d_T_fitsNowhere_30 ?_
          refine lv_if_gt (tgt := 36) hx hb d_T_fitsNowhere_31 (by decide) (fun c_31 => ?_) (fun c_31 => ?_)
          · skip
            have c_31 := (bz_lc_gt (by have := bz_w_le ht a i; omega) (by have := ht.2.2.2.2.2.2 i; omega)).mp c_31
            have hn : bz_tl t a (i + 1) = true := by unfold bz_tl; rw [ht1, decide_eq_false (show ¬ bz_w t a i ≤ bz_h t i by omega), Bool.and_false]; rfl
            refine lv_iinc (v := nI (i + 1)) (lv' := [(2, .int (nI (i + 1))), (0, .ref (ad 1)), (1, .int (nI a))]) hx hb d_T_fitsNowhere_36 hl (k := 2) rfl (nI_1 _) (by decide) rfl (fun ls hl => ?_)
            refine lv_goto (tgt := 2) hx hb d_T_fitsNowhere_39 (by decide) ?_
            exact ihlp (i + 1) (by omega) (by omega) (hn) ls (lv_sub hl [1, 2, 0] rfl)
          · skip
            have c_31 : bz_w t a i ≤ bz_h t i := Nat.le_of_not_lt fun z => c_31 ((bz_lc_gt (by have := bz_w_le ht a i; omega) (by have := ht.2.2.2.2.2.2 i; omega)).mpr z)
            have hn : bz_tl t a 4 = false := bz_tl_0 (k := i + 1) (by unfold bz_tl bz_wh; rw [decide_eq_true (show 0 < bz_h t i by omega), decide_eq_true (show bz_w t a i ≤ bz_h t i by omega)]; simp) 4 (by omega)
            refine lv_iconst (v := 0) hx hb d_T_fitsNowhere_34 (by decide) ?_
            exact W.zret (v := 0) hx hb hr (rfl) (fun t9 ht9 hW => ⟨0, rfl, by rw [hn]; rfl, ht9⟩) (fun _ h => nomatch h) d_T_fitsNowhere_35
  exact lp _ 0 (Nat.lt_succ_self _) (by omega) (rfl) ls (lv_sub hl [1, 2, 0] rfl)
end
section
theorem bz_ps_1 {j : Nat → Nat → Bool} {o x : Nat → Bool} {k : Nat} (h : bz_ps j o x k k = true) : bz_ps j o x (k + 1) = fun i => bz_ps j o x k i || (j k i && o i) := by
  show (if bz_ps j o x k k then (fun i => bz_ps j o x k i || (j k i && o i)) else bz_ps j o x k) = _
  rw [if_pos h]
theorem bz_ps_0 {j : Nat → Nat → Bool} {o x : Nat → Bool} {k : Nat} (h : bz_ps j o x k k = false) : bz_ps j o x (k + 1) = bz_ps j o x k := by
  show (if bz_ps j o x k k then (fun i => bz_ps j o x k i || (j k i && o i)) else bz_ps j o x k) = _
  rw [if_neg (by simp [h])]

set_option maxHeartbeats 4000000 in
set_option maxRecDepth 100000 in
/-- Town.haveWays -/
theorem c_T_haveWays (l : Launch) (dC : Nat → ClassId) (dI : Nat → Nat → Nat) (ad : Nat → Nat) (cI cL : ClassId) (t : bz_T) (R : bz_RS) (L : (Nat → Int32) × Int64) (v : Int32) (ht : bz_ok t) (f o : Nat → Bool) (hf : ∀ i, f i = true → i < bz_n t) : Met l y_T_haveWays w_T_haveWays ({ frames := 0, cells := 0, slots := 0, locals := 0 }) (bz_Pr (dC, dI) [(cI, .int), (cL, .long)] (bz_wB ad cI cL (bz_tR t) R L v) [.ref (ad 1), .int (bz_m f), .int (bz_m o)]) (vp_Si (fun r9 => r9 = nI (bz_b (bz_tg (bz_j t) f o)))) 0 0 (fun _ => False) := by
  refine Met.ofW (cc := b_T_haveWays) (maxL := 7) (ret := (some .boolean)) (by decide) rfl ?_
  intro p e s m args below meth c s₁ B hml hv
  obtain ⟨rfl, hP, hK, hN⟩ := hv
  have hx := B.exec
  have hb := B.bytes
  have hr := B.returns
  have hts := atoms_spec (ws := w_T_haveWays) B.pre
  have hown : s.vm.findClass R_T = some m.cls := findClass_of_methodNamed B.named
  have htb : ∀ w ∈ bz_tb, w.before _ s = true := fun w h => hts w (List.mem_cons_of_mem _ h)
  have hlocks := B.notSynchronized
  have hl := lv_entry ([.ref (ad 1), .int (bz_m f), .int (bz_m o)]) (n := 7) (Nat.le_of_ble_eq_true rfl)
  rw [lg_entry_eq]
  generalize (lg_sl ([.ref (ad 1), .int (bz_m f), .int (bz_m o)]) ++ List.replicate (7 - (lg_sl ([.ref (ad 1), .int (bz_m f), .int (bz_m o)])).length) Slot.unset).toArray = ls at hl ⊢
  have hl : lv_has ls 7 [(0, .ref (ad 1)), (1, .int (bz_m f)), (2, .int (bz_m o))] := hl
  refine lv_iload_n hx hb d_T_haveWays_0 rfl (lv_at hl 1 rfl) ?_
  refine lv_iload_n hx hb d_T_haveWays_1 rfl (lv_at hl 1 rfl) ?_
  refine lv_ineg hx hb d_T_haveWays_2 ?_
  refine lv_iand hx hb d_T_haveWays_3 ?_
  refine bz_ri (y := bz_m (fun i => f i && !(decide (∃ j, j < i ∧ f j = true)))) (bz_low f) ?_
  refine lv_istore_n (lv' := [(3, .int (bz_m (fun i => f i && !(decide (∃ j, j < i ∧ f j = true))))), (0, .ref (ad 1)), (1, .int (bz_m f)), (2, .int (bz_m o))]) hx hb d_T_haveWays_4 rfl hl (by decide) rfl (fun ls hl => ?_)
  refine lv_iconst (v := nI 0) hx hb d_T_haveWays_5 (by decide) ?_
  refine bz_ri (y := bz_m (fun _ => false)) (bz_zero) ?_
  refine lv_istore (lv' := [(4, .int (bz_m (fun _ => false))), (3, .int (bz_m (fun i => f i && !(decide (∃ j, j < i ∧ f j = true))))), (0, .ref (ad 1)), (1, .int (bz_m f)), (2, .int (bz_m o))]) hx hb d_T_haveWays_6 hl (by decide) rfl (fun ls hl => ?_)
  refine lv_iconst (v := nI 0) hx hb d_T_haveWays_8 (by decide) ?_
  refine lv_istore (lv' := [(5, .int (nI 0)), (4, .int (bz_m (fun _ => false))), (3, .int (bz_m (fun i => f i && !(decide (∃ j, j < i ∧ f j = true))))), (0, .ref (ad 1)), (1, .int (bz_m f)), (2, .int (bz_m o))]) hx hb d_T_haveWays_9 hl (by decide) rfl (fun ls hl => ?_)
  have lp : ∀ (k9 : Nat) (x : Nat → Bool) (y : Nat → Bool) (q : Nat), 30 - q < k9 → bz_hw t f o x y q → q ≤ 30 → ∀ (ls : Array Slot), lv_has ls 7 [(0, .ref (ad 1)), (1, .int (bz_m f)), (2, .int (bz_m o)), (3, .int (bz_m x)), (4, .int (bz_m y)), (5, .int (nI q))] → W p l e (headSpec w_T_haveWays ({ frames := 0, cells := 0, slots := 0, locals := 0 })).room s m ([.ref (ad 1), .int (bz_m f), .int (bz_m o)]).toArray below meth c s.heap [] 0 0 (MQ below (vp_Si (fun r9 => r9 = nI (bz_b (bz_tg (bz_j t) f o)))) ([.ref (ad 1), .int (bz_m f), .int (bz_m o)]).toArray s 0 0 (fun _ => False)) (F0 m 11 ls []) := by
    intro k9
    induction k9 with
    | zero =>
      intro x y q h9
      exact absurd h9 (Nat.not_lt_zero _)
    | succ k9 ihlp =>
      intro x y q h9_lp hw hq ls hl
      refine lv_iload hx hb d_T_haveWays_11 (lv_at hl 5 rfl) ?_
      refine lv_bipush (v := 30) hx hb d_T_haveWays_13 (by decide) ?_
      refine lv_icmp_ge (tgt := 80) hx hb d_T_haveWays_15 (by decide) (fun c_15 => ?_) (fun c_15 => ?_)
      · skip
        have hend : 30 ≤ q ∨ ∀ i, i < 32 → x i = y i := Or.inl ((nI_leI (a := 30) (by omega) (by omega)).mp c_15)
        refine lv_iload_n hx hb d_T_haveWays_80 rfl (lv_at hl 1 rfl) ?_
        refine lv_iload_n hx hb d_T_haveWays_81 rfl (lv_at hl 3 rfl) ?_
        refine lv_iconst (v := (-1)) hx hb d_T_haveWays_82 (by decide) ?_
        refine lv_ixor hx hb d_T_haveWays_83 ?_
        refine bz_ri (y := bz_m (fun i => !x i)) (bz_not _) ?_
        refine lv_iand hx hb d_T_haveWays_84 ?_
        refine bz_ri (y := bz_m (fun i => f i && !x i)) (bz_and _ _) ?_
        refine lv_if_ne (tgt := 92) hx hb d_T_haveWays_85 (by decide) (fun c_85 => ?_) (fun c_85 => ?_)
        · skip
          obtain ⟨b, hb1, hb2⟩ : ∃ b, f b = true ∧ x b = false := Classical.byContradiction fun z => c_85 ((bz_eq0 _).mpr fun i hi => by
            cases e1 : f i
            · rfl
            · cases e2 : x i
              · exact absurd ⟨i, e1, e2⟩ z
              · rfl)
          have hres := bz_hw_f ht hf hw hend hb1 hb2
          refine lv_iconst (v := 0) hx hb d_T_haveWays_92 (by decide) ?_
          exact W.zret (v := 0) hx hb hr (rfl) (fun t9 ht9 hW => ⟨0, rfl, by rw [bz_b0 hres]; rfl, ht9⟩) (fun _ h => nomatch h) d_T_haveWays_93
        · skip
          have c_85 := (bz_eq0 _).mp c_85
          have hres := bz_hw_t hw fun i hi => by
            have h1 := c_85 i (by have := hf i hi; have := ht.1; omega)
            rw [hi] at h1
            cases e : x i
            · rw [e] at h1; exact absurd h1 (by decide)
            · rfl
          refine lv_iconst (v := 1) hx hb d_T_haveWays_88 (by decide) ?_
          refine lv_goto (tgt := 93) hx hb d_T_haveWays_89 (by decide) ?_
          exact W.zret (v := 1) hx hb hr (rfl) (fun t9 ht9 hW => ⟨1, rfl, by rw [bz_b1 hres]; rfl, ht9⟩) (fun _ h => nomatch h) d_T_haveWays_93
      · skip
        have hq30 : q < 30 := Nat.lt_of_not_le fun z => c_15 ((nI_leI (a := 30) (b := q) (by omega) (by omega)).mpr z)
        refine lv_iload_n hx hb d_T_haveWays_18 rfl (lv_at hl 3 rfl) ?_
        refine lv_iload hx hb d_T_haveWays_19 (lv_at hl 4 rfl) ?_
        refine lv_icmp_eq (tgt := 80) hx hb d_T_haveWays_21 (by decide) (fun c_21 => ?_) (fun c_21 => ?_)
        · skip
          have hend : 30 ≤ q ∨ ∀ i, i < 32 → x i = y i := Or.inr ((bz_eqI x y).mp c_21)
          refine lv_iload_n hx hb d_T_haveWays_80 rfl (lv_at hl 1 rfl) ?_
          refine lv_iload_n hx hb d_T_haveWays_81 rfl (lv_at hl 3 rfl) ?_
          refine lv_iconst (v := (-1)) hx hb d_T_haveWays_82 (by decide) ?_
          refine lv_ixor hx hb d_T_haveWays_83 ?_
          refine bz_ri (y := bz_m (fun i => !x i)) (bz_not _) ?_
          refine lv_iand hx hb d_T_haveWays_84 ?_
          refine bz_ri (y := bz_m (fun i => f i && !x i)) (bz_and _ _) ?_
          refine lv_if_ne (tgt := 92) hx hb d_T_haveWays_85 (by decide) (fun c_85 => ?_) (fun c_85 => ?_)
          · skip
            obtain ⟨b, hb1, hb2⟩ : ∃ b, f b = true ∧ x b = false := Classical.byContradiction fun z => c_85 ((bz_eq0 _).mpr fun i hi => by
              cases e1 : f i
              · rfl
              · cases e2 : x i
                · exact absurd ⟨i, e1, e2⟩ z
                · rfl)
            have hres := bz_hw_f ht hf hw hend hb1 hb2
            refine lv_iconst (v := 0) hx hb d_T_haveWays_92 (by decide) ?_
            exact W.zret (v := 0) hx hb hr (rfl) (fun t9 ht9 hW => ⟨0, rfl, by rw [bz_b0 hres]; rfl, ht9⟩) (fun _ h => nomatch h) d_T_haveWays_93
          · skip
            have c_85 := (bz_eq0 _).mp c_85
            have hres := bz_hw_t hw fun i hi => by
              have h1 := c_85 i (by have := hf i hi; have := ht.1; omega)
              rw [hi] at h1
              cases e : x i
              · rw [e] at h1; exact absurd h1 (by decide)
              · rfl
            refine lv_iconst (v := 1) hx hb d_T_haveWays_88 (by decide) ?_
            refine lv_goto (tgt := 93) hx hb d_T_haveWays_89 (by decide) ?_
            exact W.zret (v := 1) hx hb hr (rfl) (fun t9 ht9 hW => ⟨1, rfl, by rw [bz_b1 hres]; rfl, ht9⟩) (fun _ h => nomatch h) d_T_haveWays_93
        · skip
          have hne : ¬ ∀ i, i < 32 → x i = y i := fun z => c_21 ((bz_eqI x y).mpr z)
          refine lv_iload_n hx hb d_T_haveWays_24 rfl (lv_at hl 1 rfl) ?_
          refine lv_iload_n hx hb d_T_haveWays_25 rfl (lv_at hl 3 rfl) ?_
          refine lv_iconst (v := (-1)) hx hb d_T_haveWays_26 (by decide) ?_
          refine lv_ixor hx hb d_T_haveWays_27 ?_
          refine bz_ri (y := bz_m (fun i => !x i)) (bz_not _) ?_
          refine lv_iand hx hb d_T_haveWays_28 ?_
          refine bz_ri (y := bz_m (fun i => f i && !x i)) (bz_and _ _) ?_
          refine lv_if_eq (tgt := 80) hx hb d_T_haveWays_29 (by decide) (fun c_29 => ?_) (fun c_29 => ?_)
          · skip
            refine lv_iload_n hx hb d_T_haveWays_80 rfl (lv_at hl 1 rfl) ?_
            refine lv_iload_n hx hb d_T_haveWays_81 rfl (lv_at hl 3 rfl) ?_
            refine lv_iconst (v := (-1)) hx hb d_T_haveWays_82 (by decide) ?_
            refine lv_ixor hx hb d_T_haveWays_83 ?_
            refine bz_ri (y := bz_m (fun i => !x i)) (bz_not _) ?_
            refine lv_iand hx hb d_T_haveWays_84 ?_
            refine bz_ri (y := bz_m (fun i => f i && !x i)) (bz_and _ _) ?_
            refine lv_if_ne (tgt := 92) hx hb d_T_haveWays_85 (by decide) (fun c_85 => ?_) (fun c_85 => ?_)
            · skip
              exact absurd c_29 c_85
            · skip
              have c_85 := (bz_eq0 _).mp c_85
              have hres := bz_hw_t hw fun i hi => by
                have h1 := c_85 i (by have := hf i hi; have := ht.1; omega)
                rw [hi] at h1
                cases e : x i
                · rw [e] at h1; exact absurd h1 (by decide)
                · rfl
              refine lv_iconst (v := 1) hx hb d_T_haveWays_88 (by decide) ?_
              refine lv_goto (tgt := 93) hx hb d_T_haveWays_89 (by decide) ?_
              exact W.zret (v := 1) hx hb hr (rfl) (fun t9 ht9 hW => ⟨1, rfl, by rw [bz_b1 hres]; rfl, ht9⟩) (fun _ h => nomatch h) d_T_haveWays_93
          · skip
            refine lv_iload_n hx hb d_T_haveWays_32 rfl (lv_at hl 3 rfl) ?_
            refine lv_istore (lv' := [(4, .int (bz_m x)), (0, .ref (ad 1)), (1, .int (bz_m f)), (2, .int (bz_m o)), (3, .int (bz_m x)), (5, .int (nI q))]) hx hb d_T_haveWays_33 hl (by decide) rfl (fun ls hl => ?_)
            refine lv_iconst (v := nI 0) hx hb d_T_haveWays_35 (by decide) ?_
            refine lv_istore (lv' := [(6, .int (nI 0)), (4, .int (bz_m x)), (0, .ref (ad 1)), (1, .int (bz_m f)), (2, .int (bz_m o)), (3, .int (bz_m x)), (5, .int (nI q))]) hx hb d_T_haveWays_36 hl (by decide) rfl (fun ls hl => ?_)
            have lpi : ∀ (k9 : Nat) (k : Nat), bz_n t - k < k9 → k ≤ bz_n t → ∀ (ls : Array Slot), lv_has ls 7 [(0, .ref (ad 1)), (1, .int (bz_m f)), (2, .int (bz_m o)), (3, .int (bz_m (bz_ps (bz_j t) o x k))), (4, .int (bz_m x)), (5, .int (nI q)), (6, .int (nI k))] → W p l e (headSpec w_T_haveWays ({ frames := 0, cells := 0, slots := 0, locals := 0 })).room s m ([.ref (ad 1), .int (bz_m f), .int (bz_m o)]).toArray below meth c s.heap [] 0 0 (MQ below (vp_Si (fun r9 => r9 = nI (bz_b (bz_tg (bz_j t) f o)))) ([.ref (ad 1), .int (bz_m f), .int (bz_m o)]).toArray s 0 0 (fun _ => False)) (F0 m 38 ls []) := by
              intro k9
              induction k9 with
              | zero =>
                intro k h9
                exact absurd h9 (Nat.not_lt_zero _)
              | succ k9 ihlpi =>
                intro k h9_lpi hk ls hl
                refine lv_iload hx hb d_T_haveWays_38 (lv_at hl 6 rfl) ?_
                refine lv_aload_n hx hb d_T_haveWays_40 rfl (lv_at hl 0 rfl) ?_
                refine va_get (D := (dC, dI)) (ci := 2) (v := .int (nI (bz_n t))) (C := R_T) (T := F_T) (N := 6) hx hb htb in_T hown hK hP 1 rfl rfl 5 (by decide) (htb _ wd_55) (fun _ h9 => h9) rfl d_T_haveWays_41 ?_
                refine lv_icmp_ge (tgt := 74) hx hb d_T_haveWays_44 (by decide) (fun c_44 => ?_) (fun c_44 => ?_)
                · skip
                  have hkn : k = bz_n t := by have := (nI_leI (by have := ht.1; omega) (by have := ht.1; omega)).mp c_44; omega
                  have hl : lv_has ls 7 [(0, .ref (ad 1)), (1, .int (bz_m f)), (2, .int (bz_m o)), (3, .int (bz_m (bz_ps (bz_j t) o x (bz_n t)))), (4, .int (bz_m x)), (5, .int (nI q)), (6, .int (nI k))] := by rw [show bz_m (bz_ps (bz_j t) o x (bz_n t)) = bz_m (bz_ps (bz_j t) o x k) from by rw [hkn]]; exact hl
                  refine lv_iinc (v := nI (q + 1)) (lv' := [(5, .int (nI (q + 1))), (0, .ref (ad 1)), (1, .int (bz_m f)), (2, .int (bz_m o)), (3, .int (bz_m (bz_ps (bz_j t) o x (bz_n t)))), (4, .int (bz_m x)), (6, .int (nI k))]) hx hb d_T_haveWays_74 hl (k := 5) rfl (nI_1 _) (by decide) rfl (fun ls hl => ?_)
                  refine lv_goto (tgt := 11) hx hb d_T_haveWays_77 (by decide) ?_
                  exact ihlp (bz_ps (bz_j t) o x (bz_n t)) x (q + 1) (by omega) (bz_hw1 ht hw hne) (by omega) ls (lv_sub hl [1, 2, 3, 4, 5, 0] rfl)
                · skip
                  have hkn : k < bz_n t := Nat.lt_of_not_le fun z => c_44 ((nI_leI (by have := ht.1; omega) (by have := ht.1; omega)).mpr z)
                  refine lv_iload_n hx hb d_T_haveWays_47 rfl (lv_at hl 3 rfl) ?_
                  refine lv_iconst (v := 1) hx hb d_T_haveWays_48 (by decide) ?_
                  refine lv_iload hx hb d_T_haveWays_49 (lv_at hl 6 rfl) ?_
                  refine lv_ishl hx hb d_T_haveWays_51 ?_
                  refine lv_iand hx hb d_T_haveWays_52 ?_
                  refine lv_if_eq (tgt := 68) hx hb d_T_haveWays_53 (by decide) (fun c_53 => ?_) (fun c_53 => ?_)
                  · skip
                    have hq0 := (bz_test _ (by have := ht.1; omega)).mp c_53
                    have hl : lv_has ls 7 [(0, .ref (ad 1)), (1, .int (bz_m f)), (2, .int (bz_m o)), (3, .int (bz_m (bz_ps (bz_j t) o x (k + 1)))), (4, .int (bz_m x)), (5, .int (nI q)), (6, .int (nI k))] := by rw [show bz_m (bz_ps (bz_j t) o x (k + 1)) = bz_m (bz_ps (bz_j t) o x k) from by rw [bz_ps_0 hq0]]; exact hl
                    refine lv_iinc (v := nI (k + 1)) (lv' := [(6, .int (nI (k + 1))), (0, .ref (ad 1)), (1, .int (bz_m f)), (2, .int (bz_m o)), (3, .int (bz_m (bz_ps (bz_j t) o x (k + 1)))), (4, .int (bz_m x)), (5, .int (nI q))]) hx hb d_T_haveWays_68 hl (k := 6) rfl (nI_1 _) (by decide) rfl (fun ls hl => ?_)
                    refine lv_goto (tgt := 38) hx hb d_T_haveWays_71 (by decide) ?_
                    exact ihlpi (k + 1) (by omega) (by omega) ls (lv_sub hl [1, 2, 3, 4, 5, 6, 0] rfl)
                  · skip
                    have hq1 := ts_nf (fun z => c_53 ((bz_test _ (by have := ht.1; omega)).mpr z))
                    refine lv_iload_n hx hb d_T_haveWays_56 rfl (lv_at hl 3 rfl) ?_
                    refine lv_aload_n hx hb d_T_haveWays_57 rfl (lv_at hl 0 rfl) ?_
                    refine va_get (D := (dC, dI)) (ci := 2) (v := .ref (ad 4)) (C := R_T) (T := F_T) (N := 6) hx hb htb in_T hown hK hP 1 rfl rfl 2 (by decide) (htb _ wd_50) (fun _ h9 => h9) rfl d_T_haveWays_58 ?_
                    refine lv_iload hx hb d_T_haveWays_61 (lv_at hl 6 rfl) ?_
                    refine bz_iald (v := bz_m (bz_j t k)) hx hb hK hP 4 0 rfl rfl (a9 := k) (by have := ht.1; omega) (by decide) (rfl) d_T_haveWays_63 ?_
                    refine lv_iload_n hx hb d_T_haveWays_64 rfl (lv_at hl 2 rfl) ?_
                    refine lv_iand hx hb d_T_haveWays_65 ?_
                    refine bz_ri (y := bz_m (fun i => bz_j t k i && o i)) (bz_and _ _) ?_
                    refine lv_ior hx hb d_T_haveWays_66 ?_
                    refine bz_ri (y := bz_m (bz_ps (bz_j t) o x (k + 1))) (by rw [bz_or, bz_ps_1 hq1]) ?_
                    refine lv_istore_n (lv' := [(3, .int (bz_m (bz_ps (bz_j t) o x (k + 1)))), (0, .ref (ad 1)), (1, .int (bz_m f)), (2, .int (bz_m o)), (4, .int (bz_m x)), (5, .int (nI q)), (6, .int (nI k))]) hx hb d_T_haveWays_67 rfl hl (by decide) rfl (fun ls hl => ?_)
                    refine lv_iinc (v := nI (k + 1)) (lv' := [(6, .int (nI (k + 1))), (3, .int (bz_m (bz_ps (bz_j t) o x (k + 1)))), (0, .ref (ad 1)), (1, .int (bz_m f)), (2, .int (bz_m o)), (4, .int (bz_m x)), (5, .int (nI q))]) hx hb d_T_haveWays_68 hl (k := 6) rfl (nI_1 _) (by decide) rfl (fun ls hl => ?_)
                    refine lv_goto (tgt := 38) hx hb d_T_haveWays_71 (by decide) ?_
                    exact ihlpi (k + 1) (by omega) (by omega) ls (lv_sub hl [2, 3, 4, 1, 5, 6, 0] rfl)
            exact lpi _ 0 (Nat.lt_succ_self _) (by omega) ls (lv_sub hl [2, 3, 4, 5, 1, 6, 0] rfl)
  exact lp _ (fun i => f i && !(decide (∃ j, j < i ∧ f j = true))) (fun _ => false) 0 (Nat.lt_succ_self _) (bz_hw0 hf) (by omega) ls (lv_sub hl [3, 4, 5, 2, 1, 0] rfl)
end
section
theorem d_S_greatestLoad_0 : decode b_S_greatestLoad 0 = .ok (.lconst 0, 1) := by decide +kernel
theorem d_S_greatestLoad_1 : decode b_S_greatestLoad 1 = .ok (.lstore_n 1, 1) := by decide +kernel
theorem d_S_greatestLoad_2 : decode b_S_greatestLoad 2 = .ok (.iconst 0, 1) := by decide +kernel
theorem d_S_greatestLoad_3 : decode b_S_greatestLoad 3 = .ok (.istore_n 3, 1) := by decide +kernel
theorem d_S_greatestLoad_4 : decode b_S_greatestLoad 4 = .ok (.iload_n 3, 1) := by decide +kernel
theorem d_S_greatestLoad_5 : decode b_S_greatestLoad 5 = .ok (.iconst 4, 1) := by decide +kernel
theorem d_S_greatestLoad_6 : decode b_S_greatestLoad 6 = .ok (.if_icmp .ge 20, 3) := by decide +kernel
theorem d_S_greatestLoad_9 : decode b_S_greatestLoad 9 = .ok (.lload_n 1, 1) := by decide +kernel
theorem d_S_greatestLoad_10 : decode b_S_greatestLoad 10 = .ok (.aload_n 0, 1) := by decide +kernel
theorem d_S_greatestLoad_11 : decode b_S_greatestLoad 11 = .ok (.getfield 18, 3) := by decide +kernel
theorem d_S_greatestLoad_14 : decode b_S_greatestLoad 14 = .ok (.iload_n 3, 1) := by decide +kernel
theorem d_S_greatestLoad_15 : decode b_S_greatestLoad 15 = .ok (.laload, 1) := by decide +kernel
theorem d_S_greatestLoad_16 : decode b_S_greatestLoad 16 = .ok (.invokestatic 56, 3) := by decide +kernel
theorem d_S_greatestLoad_19 : decode b_S_greatestLoad 19 = .ok (.lstore_n 1, 1) := by decide +kernel
theorem d_S_greatestLoad_20 : decode b_S_greatestLoad 20 = .ok (.iinc 3 1, 3) := by decide +kernel
theorem d_S_greatestLoad_23 : decode b_S_greatestLoad 23 = .ok (.goto (-19), 3) := by decide +kernel
theorem d_S_greatestLoad_26 : decode b_S_greatestLoad 26 = .ok (.lload_n 1, 1) := by decide +kernel
theorem d_S_greatestLoad_27 : decode b_S_greatestLoad 27 = .ok (.lreturn, 1) := by decide +kernel
theorem d_S_hangsTogether_0 : decode b_S_hangsTogether 0 = .ok (.aload_n 0, 1) := by decide +kernel
theorem d_S_hangsTogether_1 : decode b_S_hangsTogether 1 = .ok (.getfield 29, 3) := by decide +kernel
theorem d_S_hangsTogether_4 : decode b_S_hangsTogether 4 = .ok (.aload_n 0, 1) := by decide +kernel
theorem d_S_hangsTogether_5 : decode b_S_hangsTogether 5 = .ok (.getfield 15, 3) := by decide +kernel
theorem d_S_hangsTogether_8 : decode b_S_hangsTogether 8 = .ok (.iload_n 1, 1) := by decide +kernel
theorem d_S_hangsTogether_9 : decode b_S_hangsTogether 9 = .ok (.iaload, 1) := by decide +kernel
theorem d_S_hangsTogether_10 : decode b_S_hangsTogether 10 = .ok (.aload_n 0, 1) := by decide +kernel
theorem d_S_hangsTogether_11 : decode b_S_hangsTogether 11 = .ok (.getfield 15, 3) := by decide +kernel
theorem d_S_hangsTogether_14 : decode b_S_hangsTogether 14 = .ok (.iload_n 1, 1) := by decide +kernel
theorem d_S_hangsTogether_15 : decode b_S_hangsTogether 15 = .ok (.iaload, 1) := by decide +kernel
theorem d_S_hangsTogether_16 : decode b_S_hangsTogether 16 = .ok (.aload_n 0, 1) := by decide +kernel
theorem d_S_hangsTogether_17 : decode b_S_hangsTogether 17 = .ok (.getfield 22, 3) := by decide +kernel
theorem d_S_hangsTogether_20 : decode b_S_hangsTogether 20 = .ok (.ior, 1) := by decide +kernel
theorem d_S_hangsTogether_21 : decode b_S_hangsTogether 21 = .ok (.invokevirtual 62, 3) := by decide +kernel
theorem d_S_hangsTogether_24 : decode b_S_hangsTogether 24 = .ok (.ireturn, 1) := by decide +kernel
theorem d_S_allFaults_0 : decode b_S_allFaults 0 = .ok (.iconst 0, 1) := by decide +kernel
theorem d_S_allFaults_1 : decode b_S_allFaults 1 = .ok (.istore_n 1, 1) := by decide +kernel
theorem d_S_allFaults_2 : decode b_S_allFaults 2 = .ok (.iconst 0, 1) := by decide +kernel
theorem d_S_allFaults_3 : decode b_S_allFaults 3 = .ok (.istore_n 2, 1) := by decide +kernel
theorem d_S_allFaults_4 : decode b_S_allFaults 4 = .ok (.iload_n 2, 1) := by decide +kernel
theorem d_S_allFaults_5 : decode b_S_allFaults 5 = .ok (.iconst 4, 1) := by decide +kernel
theorem d_S_allFaults_6 : decode b_S_allFaults 6 = .ok (.if_icmp .ge 71, 3) := by decide +kernel
theorem d_S_allFaults_9 : decode b_S_allFaults 9 = .ok (.aload_n 0, 1) := by decide +kernel
theorem d_S_allFaults_10 : decode b_S_allFaults 10 = .ok (.iload_n 2, 1) := by decide +kernel
theorem d_S_allFaults_11 : decode b_S_allFaults 11 = .ok (.invokevirtual 66, 3) := by decide +kernel
theorem d_S_allFaults_14 : decode b_S_allFaults 14 = .ok (.ifCond .ne 6, 3) := by decide +kernel
theorem d_S_allFaults_17 : decode b_S_allFaults 17 = .ok (.iinc 1 1, 3) := by decide +kernel
theorem d_S_allFaults_20 : decode b_S_allFaults 20 = .ok (.aload_n 0, 1) := by decide +kernel
theorem d_S_allFaults_21 : decode b_S_allFaults 21 = .ok (.getfield 29, 3) := by decide +kernel
theorem d_S_allFaults_24 : decode b_S_allFaults 24 = .ok (.getfield 70, 3) := by decide +kernel
theorem d_S_allFaults_27 : decode b_S_allFaults 27 = .ok (.iload_n 2, 1) := by decide +kernel
theorem d_S_allFaults_28 : decode b_S_allFaults 28 = .ok (.laload, 1) := by decide +kernel
theorem d_S_allFaults_29 : decode b_S_allFaults 29 = .ok (.lconst 0, 1) := by decide +kernel
theorem d_S_allFaults_30 : decode b_S_allFaults 30 = .ok (.lcmp, 1) := by decide +kernel
theorem d_S_allFaults_31 : decode b_S_allFaults 31 = .ok (.ifCond .ne 18, 3) := by decide +kernel
theorem d_S_allFaults_34 : decode b_S_allFaults 34 = .ok (.iload_n 1, 1) := by decide +kernel
theorem d_S_allFaults_35 : decode b_S_allFaults 35 = .ok (.aload_n 0, 1) := by decide +kernel
theorem d_S_allFaults_36 : decode b_S_allFaults 36 = .ok (.getfield 15, 3) := by decide +kernel
theorem d_S_allFaults_39 : decode b_S_allFaults 39 = .ok (.iload_n 2, 1) := by decide +kernel
theorem d_S_allFaults_40 : decode b_S_allFaults 40 = .ok (.iaload, 1) := by decide +kernel
theorem d_S_allFaults_41 : decode b_S_allFaults 41 = .ok (.invokestatic 73, 3) := by decide +kernel
theorem d_S_allFaults_44 : decode b_S_allFaults 44 = .ok (.iadd, 1) := by decide +kernel
theorem d_S_allFaults_45 : decode b_S_allFaults 45 = .ok (.istore_n 1, 1) := by decide +kernel
theorem d_S_allFaults_46 : decode b_S_allFaults 46 = .ok (.goto 25, 3) := by decide +kernel
theorem d_S_allFaults_49 : decode b_S_allFaults 49 = .ok (.aload_n 0, 1) := by decide +kernel
theorem d_S_allFaults_50 : decode b_S_allFaults 50 = .ok (.getfield 18, 3) := by decide +kernel
theorem d_S_allFaults_53 : decode b_S_allFaults 53 = .ok (.iload_n 2, 1) := by decide +kernel
theorem d_S_allFaults_54 : decode b_S_allFaults 54 = .ok (.laload, 1) := by decide +kernel
theorem d_S_allFaults_55 : decode b_S_allFaults 55 = .ok (.aload_n 0, 1) := by decide +kernel
theorem d_S_allFaults_56 : decode b_S_allFaults 56 = .ok (.getfield 29, 3) := by decide +kernel
theorem d_S_allFaults_59 : decode b_S_allFaults 59 = .ok (.getfield 70, 3) := by decide +kernel
theorem d_S_allFaults_62 : decode b_S_allFaults 62 = .ok (.iload_n 2, 1) := by decide +kernel
theorem d_S_allFaults_63 : decode b_S_allFaults 63 = .ok (.laload, 1) := by decide +kernel
theorem d_S_allFaults_64 : decode b_S_allFaults 64 = .ok (.lcmp, 1) := by decide +kernel
theorem d_S_allFaults_65 : decode b_S_allFaults 65 = .ok (.ifCond .le 6, 3) := by decide +kernel
theorem d_S_allFaults_68 : decode b_S_allFaults 68 = .ok (.iinc 1 1, 3) := by decide +kernel
theorem d_S_allFaults_71 : decode b_S_allFaults 71 = .ok (.iinc 2 1, 3) := by decide +kernel
theorem d_S_allFaults_74 : decode b_S_allFaults 74 = .ok (.goto (-70), 3) := by decide +kernel
theorem d_S_allFaults_77 : decode b_S_allFaults 77 = .ok (.iload_n 1, 1) := by decide +kernel
theorem d_S_allFaults_78 : decode b_S_allFaults 78 = .ok (.ireturn, 1) := by decide +kernel
theorem d_S_cost_0 : decode b_S_cost 0 = .ok (.ldc2_w 79, 3) := by decide +kernel
theorem d_S_cost_3 : decode b_S_cost 3 = .ok (.aload_n 0, 1) := by decide +kernel
theorem d_S_cost_4 : decode b_S_cost 4 = .ok (.invokevirtual 81, 3) := by decide +kernel
theorem d_S_cost_7 : decode b_S_cost 7 = .ok (.i2l, 1) := by decide +kernel
theorem d_S_cost_8 : decode b_S_cost 8 = .ok (.lmul, 1) := by decide +kernel
theorem d_S_cost_9 : decode b_S_cost 9 = .ok (.ldc2_w 85, 3) := by decide +kernel
theorem d_S_cost_12 : decode b_S_cost 12 = .ok (.aload_n 0, 1) := by decide +kernel
theorem d_S_cost_13 : decode b_S_cost 13 = .ok (.invokevirtual 87, 3) := by decide +kernel
theorem d_S_cost_16 : decode b_S_cost 16 = .ok (.lmul, 1) := by decide +kernel
theorem d_S_cost_17 : decode b_S_cost 17 = .ok (.ladd, 1) := by decide +kernel
theorem d_S_cost_18 : decode b_S_cost 18 = .ok (.aload_n 0, 1) := by decide +kernel
theorem d_S_cost_19 : decode b_S_cost 19 = .ok (.getfield 26, 3) := by decide +kernel
theorem d_S_cost_22 : decode b_S_cost 22 = .ok (.i2l, 1) := by decide +kernel
theorem d_S_cost_23 : decode b_S_cost 23 = .ok (.ladd, 1) := by decide +kernel
theorem d_S_cost_24 : decode b_S_cost 24 = .ok (.lreturn, 1) := by decide +kernel

theorem d_I_bitCount_0 : decode b_I_bitCount 0 = .ok (.iload_n 0, 1) := by decide +kernel
theorem d_I_bitCount_1 : decode b_I_bitCount 1 = .ok (.iload_n 0, 1) := by decide +kernel
theorem d_I_bitCount_2 : decode b_I_bitCount 2 = .ok (.iconst 1, 1) := by decide +kernel
theorem d_I_bitCount_3 : decode b_I_bitCount 3 = .ok (.iushr, 1) := by decide +kernel
theorem d_I_bitCount_4 : decode b_I_bitCount 4 = .ok (.ldc_w 265, 3) := by decide +kernel
theorem d_I_bitCount_7 : decode b_I_bitCount 7 = .ok (.iand, 1) := by decide +kernel
theorem d_I_bitCount_8 : decode b_I_bitCount 8 = .ok (.isub, 1) := by decide +kernel
theorem d_I_bitCount_9 : decode b_I_bitCount 9 = .ok (.istore_n 0, 1) := by decide +kernel
theorem d_I_bitCount_10 : decode b_I_bitCount 10 = .ok (.iload_n 0, 1) := by decide +kernel
theorem d_I_bitCount_11 : decode b_I_bitCount 11 = .ok (.ldc_w 266, 3) := by decide +kernel
theorem d_I_bitCount_14 : decode b_I_bitCount 14 = .ok (.iand, 1) := by decide +kernel
theorem d_I_bitCount_15 : decode b_I_bitCount 15 = .ok (.iload_n 0, 1) := by decide +kernel
theorem d_I_bitCount_16 : decode b_I_bitCount 16 = .ok (.iconst 2, 1) := by decide +kernel
theorem d_I_bitCount_17 : decode b_I_bitCount 17 = .ok (.iushr, 1) := by decide +kernel
theorem d_I_bitCount_18 : decode b_I_bitCount 18 = .ok (.ldc_w 266, 3) := by decide +kernel
theorem d_I_bitCount_21 : decode b_I_bitCount 21 = .ok (.iand, 1) := by decide +kernel
theorem d_I_bitCount_22 : decode b_I_bitCount 22 = .ok (.iadd, 1) := by decide +kernel
theorem d_I_bitCount_23 : decode b_I_bitCount 23 = .ok (.istore_n 0, 1) := by decide +kernel
theorem d_I_bitCount_24 : decode b_I_bitCount 24 = .ok (.iload_n 0, 1) := by decide +kernel
theorem d_I_bitCount_25 : decode b_I_bitCount 25 = .ok (.iload_n 0, 1) := by decide +kernel
theorem d_I_bitCount_26 : decode b_I_bitCount 26 = .ok (.iconst 4, 1) := by decide +kernel
theorem d_I_bitCount_27 : decode b_I_bitCount 27 = .ok (.iushr, 1) := by decide +kernel
theorem d_I_bitCount_28 : decode b_I_bitCount 28 = .ok (.iadd, 1) := by decide +kernel
theorem d_I_bitCount_29 : decode b_I_bitCount 29 = .ok (.ldc_w 267, 3) := by decide +kernel
theorem d_I_bitCount_32 : decode b_I_bitCount 32 = .ok (.iand, 1) := by decide +kernel
theorem d_I_bitCount_33 : decode b_I_bitCount 33 = .ok (.istore_n 0, 1) := by decide +kernel
theorem d_I_bitCount_34 : decode b_I_bitCount 34 = .ok (.iload_n 0, 1) := by decide +kernel
theorem d_I_bitCount_35 : decode b_I_bitCount 35 = .ok (.iload_n 0, 1) := by decide +kernel
theorem d_I_bitCount_36 : decode b_I_bitCount 36 = .ok (.bipush 8, 2) := by decide +kernel
theorem d_I_bitCount_38 : decode b_I_bitCount 38 = .ok (.iushr, 1) := by decide +kernel
theorem d_I_bitCount_39 : decode b_I_bitCount 39 = .ok (.iadd, 1) := by decide +kernel
theorem d_I_bitCount_40 : decode b_I_bitCount 40 = .ok (.istore_n 0, 1) := by decide +kernel
theorem d_I_bitCount_41 : decode b_I_bitCount 41 = .ok (.iload_n 0, 1) := by decide +kernel
theorem d_I_bitCount_42 : decode b_I_bitCount 42 = .ok (.iload_n 0, 1) := by decide +kernel
theorem d_I_bitCount_43 : decode b_I_bitCount 43 = .ok (.bipush 16, 2) := by decide +kernel
theorem d_I_bitCount_45 : decode b_I_bitCount 45 = .ok (.iushr, 1) := by decide +kernel
theorem d_I_bitCount_46 : decode b_I_bitCount 46 = .ok (.iadd, 1) := by decide +kernel
theorem d_I_bitCount_47 : decode b_I_bitCount 47 = .ok (.istore_n 0, 1) := by decide +kernel
theorem d_I_bitCount_48 : decode b_I_bitCount 48 = .ok (.iload_n 0, 1) := by decide +kernel
theorem d_I_bitCount_49 : decode b_I_bitCount 49 = .ok (.bipush 63, 2) := by decide +kernel
theorem d_I_bitCount_51 : decode b_I_bitCount 51 = .ok (.iand, 1) := by decide +kernel
theorem d_I_bitCount_52 : decode b_I_bitCount 52 = .ok (.ireturn, 1) := by decide +kernel
theorem nx_and (a b : Nat) : nI a &&& nI b = nI (a &&& b) := by
  apply Int32.toBitVec_inj.1
  show BitVec.ofNat 32 a &&& BitVec.ofNat 32 b = BitVec.ofNat 32 (a &&& b)
  apply BitVec.eq_of_getLsbD_eq
  intro i hi
  simp [hi]
def bz_gm (t : bz_T) (s : bz_S) : Nat → Nat
  | 0 => 0
  | k + 1 => max (bz_gm t s k) (bz_ld t s k)
theorem bz_gm_4 (t : bz_T) (s : bz_S) : bz_gm t s 4 = bz_gl t s := by
  unfold bz_gl
  show max (max (max (max 0 _) _) _) _ = _
  rw [Nat.zero_max]
theorem bz_gm_le {t : bz_T} (h : bz_ok t) (s : bz_S) : ∀ k, bz_gm t s k ≤ 30000000
  | 0 => Nat.zero_le _
  | k + 1 => by
    have h1 := bz_gm_le h s k
    have h2 := bz_ld_le h s k
    unfold bz_gm
    omega
theorem bz_in_n {t : bz_T} {s : bz_S} {r i : Nat} (h : bz_in t s r i = true) : i < bz_n t := by
  unfold bz_in at h
  have := ((Bool.and_eq_true _ _).mp h).1
  exact of_decide_eq_true this
theorem bz_nar (q : Prop) : narrow .boolean (.int (nI (bz_b q))) = .int (nI (bz_b q)) := by
  by_cases h : q
  · rw [bz_b1 h]; rfl
  · rw [bz_b0 h]; rfl
theorem bz_ct_in {t : bz_T} (ht : bz_ok t) (s : bz_S) (r : Nat) : bz_ct (bz_in t s r) 32 = bz_ct (bz_in t s r) (bz_n t) := by
  have hn := ht.1
  have e : ∀ d, bz_ct (bz_in t s r) (bz_n t + d) = bz_ct (bz_in t s r) (bz_n t) := by
    intro d
    induction d with
    | zero => rfl
    | succ d ih =>
      rw [← Nat.add_assoc, bz_ct_0 (by
        cases e : bz_in t s r (bz_n t + d)
        · rfl
        · have := bz_in_n e
          omega), ih]
  rw [show 32 = bz_n t + (32 - bz_n t) by omega, e]
theorem bz_fr_h0 {t : bz_T} {s : bz_S} {r : Nat} (h : bz_h t r = 0) : bz_fr t s r = bz_b (¬ bz_ht t s r) + bz_ct (bz_in t s r) (bz_n t) := by
  unfold bz_fr
  rw [if_pos h]
theorem bz_fr_h1 {t : bz_T} {s : bz_S} {r : Nat} (h : ¬ bz_h t r = 0) : bz_fr t s r = bz_b (¬ bz_ht t s r) + bz_b (bz_h t r < bz_ld t s r) := by
  unfold bz_fr
  rw [if_neg h]
theorem bz_bI0 {q : Prop} (h : nI (bz_b q) = 0) : ¬ q := fun z => by
  rw [bz_b1 z] at h
  exact absurd h (by decide)
theorem bz_bI1 {q : Prop} (h : ¬ nI (bz_b q) = 0) : q := Classical.byContradiction fun z => h (by rw [bz_b0 z]; rfl)
theorem bz_cost_eq {t : bz_T} (s : bz_S) : (1000000000000 : Int64) * lN (bz_ft t s) + 100 * lN (bz_gl t s) + lN (bz_ch t s) = lN (bz_co t s) := by
  rw [show (1000000000000 : Int64) = lN 1000000000000 from rfl, show (100 : Int64) = lN 100 from rfl, lN_mul, lN_mul, lN_add, lN_add]
  rfl

set_option maxHeartbeats 4000000 in
set_option maxRecDepth 100000 in
/-- Integer.bitCount -/
theorem c_I_bitCount (l : Launch) (dC : Nat → ClassId) (dI : Nat → Nat → Nat) (ad : Nat → Nat) (cI cL : ClassId) (t : bz_T) (R : bz_RS) (L : (Nat → Int32) × Int64) (v : Int32) (f : Nat → Bool) : Met l y_I_bitCount w_I_bitCount ({ frames := 0, cells := 0, slots := 0, locals := 0 }) (bz_Pr (dC, dI) [(cI, .int), (cL, .long)] (bz_wB ad cI cL (bz_tR t) R L v) [.int (bz_m f)]) (vp_Si (fun r9 => r9 = nI (bz_ct f 32))) 0 0 (fun _ => False) := by
  refine Met.ofW (cc := b_I_bitCount) (maxL := 1) (ret := (some .int)) (by decide) rfl ?_
  intro p e s m args below meth c s₁ B hml hv
  obtain ⟨rfl, hP, hK, hN⟩ := hv
  have hx := B.exec
  have hb := B.bytes
  have hr := B.returns
  have hts := atoms_spec (ws := w_I_bitCount) B.pre
  have hown : s.vm.findClass R_I = some m.cls := findClass_of_methodNamed B.named
  have htb : ∀ w ∈ bz_tb, w.before _ s = true := fun w h => hts w (List.mem_cons_of_mem _ h)
  have hlocks := B.notSynchronized
  have hl := lv_entry ([.int (bz_m f)]) (n := 1) (Nat.le_of_ble_eq_true rfl)
  rw [lg_entry_eq]
  generalize (lg_sl ([.int (bz_m f)]) ++ List.replicate (1 - (lg_sl ([.int (bz_m f)])).length) Slot.unset).toArray = ls at hl ⊢
  have hl : lv_has ls 1 [(0, .int (bz_m f))] := hl
  obtain ⟨n0, hn0, en0, hb0⟩ := bz_m_nI f
  rw [en0] at hl
  refine lv_iload_n hx hb d_I_bitCount_0 rfl (lv_at hl 0 rfl) ?_
  refine lv_iload_n hx hb d_I_bitCount_1 rfl (lv_at hl 0 rfl) ?_
  refine lv_iconst (v := 1) hx hb d_I_bitCount_2 (by decide) ?_
  refine lv_iushr hx hb d_I_bitCount_3 rfl ?_
  refine bz_ri (y := nI (n0 / 2)) (pk_ushrN hn0 1 1 (by decide)) ?_
  refine lv_ldcw (v := 1431655765) hx hb hown (htb _ wd_228) d_I_bitCount_4 ?_
  refine lv_iand hx hb d_I_bitCount_7 ?_
  refine bz_ri (y := nI (n0 / 2 &&& 1431655765)) (nx_and _ 1431655765) ?_
  refine lv_isub hx hb d_I_bitCount_8 ?_
  obtain ⟨x1, ex1⟩ : ∃ z9 : Nat, z9 = n0 - (n0 / 2 &&& 1431655765) := ⟨_, rfl⟩
  refine bz_ri (y := nI x1) (by rw [ex1]; exact pk_sub (Nat.le_trans Nat.and_le_left (Nat.div_le_self _ _))) ?_
  refine lv_istore_n (lv' := [(0, .int (nI x1))]) hx hb d_I_bitCount_9 rfl hl (by decide) rfl (fun ls hl => ?_)
  refine lv_iload_n hx hb d_I_bitCount_10 rfl (lv_at hl 0 rfl) ?_
  refine lv_ldcw (v := 858993459) hx hb hown (htb _ wd_229) d_I_bitCount_11 ?_
  refine lv_iand hx hb d_I_bitCount_14 ?_
  refine bz_ri (y := nI (x1 &&& 858993459)) (nx_and _ 858993459) ?_
  refine lv_iload_n hx hb d_I_bitCount_15 rfl (lv_at hl 0 rfl) ?_
  refine lv_iconst (v := 2) hx hb d_I_bitCount_16 (by decide) ?_
  refine lv_iushr hx hb d_I_bitCount_17 rfl ?_
  refine bz_ri (y := nI (x1 / 4)) (pk_ushrN (by omega) 2 2 (by decide)) ?_
  refine lv_ldcw (v := 858993459) hx hb hown (htb _ wd_229) d_I_bitCount_18 ?_
  refine lv_iand hx hb d_I_bitCount_21 ?_
  refine bz_ri (y := nI (x1 / 4 &&& 858993459)) (nx_and _ 858993459) ?_
  refine lv_iadd hx hb d_I_bitCount_22 ?_
  obtain ⟨x2, ex2⟩ : ∃ z9 : Nat, z9 = (x1 &&& 858993459) + (x1 / 4 &&& 858993459) := ⟨_, rfl⟩
  refine bz_ri (y := nI x2) (by rw [ex2]; exact nI_add _ _) ?_
  refine lv_istore_n (lv' := [(0, .int (nI x2))]) hx hb d_I_bitCount_23 rfl hl (by decide) rfl (fun ls hl => ?_)
  refine lv_iload_n hx hb d_I_bitCount_24 rfl (lv_at hl 0 rfl) ?_
  refine lv_iload_n hx hb d_I_bitCount_25 rfl (lv_at hl 0 rfl) ?_
  refine lv_iconst (v := 4) hx hb d_I_bitCount_26 (by decide) ?_
  refine lv_iushr hx hb d_I_bitCount_27 rfl ?_
  refine bz_ri (y := nI (x2 / 16)) (pk_ushrN (by have h1 : (x1 &&& 858993459) ≤ 858993459 := Nat.and_le_right; have h2 : (x1 / 4 &&& 858993459) ≤ 858993459 := Nat.and_le_right; omega) 4 4 (by decide)) ?_
  refine lv_iadd hx hb d_I_bitCount_28 ?_
  refine bz_ri (y := nI (x2 + x2 / 16)) (nI_add _ _) ?_
  refine lv_ldcw (v := 252645135) hx hb hown (htb _ wd_230) d_I_bitCount_29 ?_
  refine lv_iand hx hb d_I_bitCount_32 ?_
  obtain ⟨x3, ex3⟩ : ∃ z9 : Nat, z9 = (x2 + x2 / 16) &&& 252645135 := ⟨_, rfl⟩
  refine bz_ri (y := nI x3) (by rw [ex3]; exact nx_and _ 252645135) ?_
  refine lv_istore_n (lv' := [(0, .int (nI x3))]) hx hb d_I_bitCount_33 rfl hl (by decide) rfl (fun ls hl => ?_)
  refine lv_iload_n hx hb d_I_bitCount_34 rfl (lv_at hl 0 rfl) ?_
  refine lv_iload_n hx hb d_I_bitCount_35 rfl (lv_at hl 0 rfl) ?_
  refine lv_bipush (v := 8) hx hb d_I_bitCount_36 (by decide) ?_
  refine lv_iushr hx hb d_I_bitCount_38 rfl ?_
  refine bz_ri (y := nI (x3 / 256)) (pk_ushrN (by have h1 : (x2 + x2 / 16) &&& 252645135 ≤ 252645135 := Nat.and_le_right; omega) 8 8 (by decide)) ?_
  refine lv_iadd hx hb d_I_bitCount_39 ?_
  obtain ⟨x4, ex4⟩ : ∃ z9 : Nat, z9 = x3 + x3 / 256 := ⟨_, rfl⟩
  refine bz_ri (y := nI x4) (by rw [ex4]; exact nI_add _ _) ?_
  refine lv_istore_n (lv' := [(0, .int (nI x4))]) hx hb d_I_bitCount_40 rfl hl (by decide) rfl (fun ls hl => ?_)
  refine lv_iload_n hx hb d_I_bitCount_41 rfl (lv_at hl 0 rfl) ?_
  refine lv_iload_n hx hb d_I_bitCount_42 rfl (lv_at hl 0 rfl) ?_
  refine lv_bipush (v := 16) hx hb d_I_bitCount_43 (by decide) ?_
  refine lv_iushr hx hb d_I_bitCount_45 rfl ?_
  refine bz_ri (y := nI (x4 / 65536)) (pk_ushrN (by have h1 : (x2 + x2 / 16) &&& 252645135 ≤ 252645135 := Nat.and_le_right; omega) 16 16 (by decide)) ?_
  refine lv_iadd hx hb d_I_bitCount_46 ?_
  obtain ⟨x5, ex5⟩ : ∃ z9 : Nat, z9 = x4 + x4 / 65536 := ⟨_, rfl⟩
  refine bz_ri (y := nI x5) (by rw [ex5]; exact nI_add _ _) ?_
  refine lv_istore_n (lv' := [(0, .int (nI x5))]) hx hb d_I_bitCount_47 rfl hl (by decide) rfl (fun ls hl => ?_)
  refine lv_iload_n hx hb d_I_bitCount_48 rfl (lv_at hl 0 rfl) ?_
  refine lv_bipush (v := 63) hx hb d_I_bitCount_49 (by decide) ?_
  refine lv_iand hx hb d_I_bitCount_51 ?_
  refine bz_ri (y := nI (x5 &&& 63)) (nx_and _ 63) ?_
  exact W.iret (v := nI (x5 &&& 63)) hx hb hr (fun t9 ht9 hW => ⟨nI (x5 &&& 63), rfl, by subst ex5 ex4 ex3 ex2 ex1; exact congrArg nI ((bz_pc_ct hn0).trans (bz_ct_ext hb0)), ht9⟩) (fun _ h => nomatch h) d_I_bitCount_52

set_option maxHeartbeats 4000000 in
set_option maxRecDepth 100000 in
/-- Share.greatestLoad -/
theorem c_S_greatestLoad (l : Launch) (dC : Nat → ClassId) (dI : Nat → Nat → Nat) (ad : Nat → Nat) (cI cL : ClassId) (t : bz_T) (s2 : bz_S) (L : (Nat → Int32) × Int64) (v : Int32) (ht : bz_ok t) : Met l y_S_greatestLoad w_S_greatestLoad ({ frames := 1, cells := 0, slots := 0, locals := 17 }) (bz_Pr (dC, dI) [(cI, .int), (cL, .long)] (bz_wB ad cI cL (bz_tR t) (bz_sR t s2) L v) [.ref (ad 7)]) (vp_Sl (fun r9 => r9 = lN (bz_gl t s2))) 0 0 (fun _ => False) := by
  refine Met.ofW (cc := b_S_greatestLoad) (maxL := 4) (ret := (some .long)) (by decide) rfl ?_
  intro p e s m args below meth c s₁ B hml hv
  obtain ⟨rfl, hP, hK, hN⟩ := hv
  have hx := B.exec
  have hb := B.bytes
  have hr := B.returns
  have hts := atoms_spec (ws := w_S_greatestLoad) B.pre
  have hown : s.vm.findClass R_S = some m.cls := findClass_of_methodNamed B.named
  have htb : ∀ w ∈ bz_tb, w.before _ s = true := fun w h => hts w (List.mem_cons_of_mem _ h)
  have hlocks := B.notSynchronized
  have hl := lv_entry ([.ref (ad 7)]) (n := 4) (Nat.le_of_ble_eq_true rfl)
  rw [lg_entry_eq]
  generalize (lg_sl ([.ref (ad 7)]) ++ List.replicate (4 - (lg_sl ([.ref (ad 7)])).length) Slot.unset).toArray = ls at hl ⊢
  have hl : lv_has ls 4 [(0, .ref (ad 7))] := hl
  refine lv_lconst (v := 0) hx hb d_S_greatestLoad_0 (by decide) ?_
  refine bz_rl (y := lN (bz_gm t s2 0)) (rfl) ?_
  refine lv_lstore_n (lv' := [(1, .long (lN (bz_gm t s2 0))), (0, .ref (ad 7))]) hx hb d_S_greatestLoad_1 rfl hl (by decide) rfl (fun ls hl => ?_)
  refine lv_iconst (v := nI 0) hx hb d_S_greatestLoad_2 (by decide) ?_
  refine lv_istore_n (lv' := [(3, .int (nI 0)), (1, .long (lN (bz_gm t s2 0))), (0, .ref (ad 7))]) hx hb d_S_greatestLoad_3 rfl hl (by decide) rfl (fun ls hl => ?_)
  have lp : ∀ (k9 : Nat) (i : Nat), 4 - i < k9 → i ≤ 4 → ∀ (ls : Array Slot), lv_has ls 4 [(0, .ref (ad 7)), (1, .long (lN (bz_gm t s2 i))), (3, .int (nI i))] → W p l e (headSpec w_S_greatestLoad ({ frames := 1, cells := 0, slots := 0, locals := 17 })).room s m ([.ref (ad 7)]).toArray below meth c s.heap [] 0 0 (MQ below (vp_Sl (fun r9 => r9 = lN (bz_gl t s2))) ([.ref (ad 7)]).toArray s 0 0 (fun _ => False)) (F0 m 4 ls []) := by
    intro k9
    induction k9 with
    | zero =>
      intro i h9
      exact absurd h9 (Nat.not_lt_zero _)
    | succ k9 ihlp =>
      intro i h9_lp hi ls hl
      refine lv_iload_n hx hb d_S_greatestLoad_4 rfl (lv_at hl 2 rfl) ?_
      refine lv_iconst (v := 4) hx hb d_S_greatestLoad_5 (by decide) ?_
      refine lv_icmp_ge (tgt := 26) hx hb d_S_greatestLoad_6 (by decide) (fun c_6 => ?_) (fun c_6 => ?_)
      · skip
        have hi4 : i = 4 := by have := (nI_leI (a := 4) (by omega) (by omega)).mp c_6; omega
        refine lv_lload_n hx hb d_S_greatestLoad_26 rfl (lv_at hl 1 rfl) ?_
        exact W.lret (v := lN (bz_gm t s2 i)) hx hb hr (fun t9 ht9 hW => ⟨lN (bz_gm t s2 i), rfl, by rw [hi4, bz_gm_4], ht9⟩) (fun _ h => nomatch h) d_S_greatestLoad_27
      · skip
        have hi4 : i < 4 := Nat.lt_of_not_le fun z => c_6 ((nI_leI (a := 4) (b := i) (by omega) (by omega)).mpr z)
        refine lv_lload_n hx hb d_S_greatestLoad_9 rfl (lv_at hl 1 rfl) ?_
        refine lv_aload_n hx hb d_S_greatestLoad_10 rfl (lv_at hl 0 rfl) ?_
        refine va_get (D := (dC, dI)) (ci := 1) (v := .ref (ad 10)) (C := R_S) (T := F_S) (N := 6) hx hb htb in_S hown hK hP 7 rfl rfl 3 (by decide) (htb _ wd_85) (fun _ h9 => h9) rfl d_S_greatestLoad_11 ?_
        refine lv_iload_n hx hb d_S_greatestLoad_14 rfl (lv_at hl 2 rfl) ?_
        refine bz_lald (v := lN (bz_ld t s2 i)) hx hb hK hP 10 1 rfl rfl (a9 := i) (by omega) (by decide) (rfl) d_S_greatestLoad_15 ?_
        refine va_mmax_long hx hb (hml.trans hl.1.symm) hown (htb _ wd_236) (htb _ wd_237) (htb _ wd_25) (htb _ wd_238) (Nat.le_of_ble_eq_true rfl) (Nat.le_of_ble_eq_true rfl) (Nat.le_of_ble_eq_true rfl) (Nat.le_of_ble_eq_true rfl) d_S_greatestLoad_16 ?_
        refine bz_rl (y := lN (bz_gm t s2 (i + 1))) (bz_lmax (by have := bz_gm_le ht s2 i; omega) (by have := bz_ld_le ht s2 i; omega)) ?_
        refine lv_lstore_n (lv' := [(1, .long (lN (bz_gm t s2 (i + 1)))), (0, .ref (ad 7)), (3, .int (nI i))]) hx hb d_S_greatestLoad_19 rfl hl (by decide) rfl (fun ls hl => ?_)
        refine lv_iinc (v := nI (i + 1)) (lv' := [(3, .int (nI (i + 1))), (1, .long (lN (bz_gm t s2 (i + 1)))), (0, .ref (ad 7))]) hx hb d_S_greatestLoad_20 hl (k := 2) rfl (nI_1 _) (by decide) rfl (fun ls hl => ?_)
        refine lv_goto (tgt := 4) hx hb d_S_greatestLoad_23 (by decide) ?_
        exact ihlp (i + 1) (by omega) (by omega) ls (lv_sub hl [2, 1, 0] rfl)
  exact lp _ 0 (Nat.lt_succ_self _) (by omega) ls (lv_sub hl [2, 1, 0] rfl)

set_option maxHeartbeats 4000000 in
set_option maxRecDepth 100000 in
/-- Share.hangsTogether -/
theorem c_S_hangsTogether (l : Launch) (dC : Nat → ClassId) (dI : Nat → Nat → Nat) (ad : Nat → Nat) (cI cL : ClassId) (t : bz_T) (s2 : bz_S) (L : (Nat → Int32) × Int64) (v : Int32) (ht : bz_ok t) (r : Nat) (hr4 : r < 4) : Met l y_S_hangsTogether w_S_hangsTogether ({ frames := 1, cells := 0, slots := 0, locals := 26 }) (bz_Pr (dC, dI) [(cI, .int), (cL, .long)] (bz_wB ad cI cL (bz_tR t) (bz_sR t s2) L v) [.ref (ad 7), .int (nI r)]) (vp_Si (fun r9 => r9 = nI (bz_b (bz_ht t s2 r)))) 0 0 (fun _ => False) := by
  refine Met.ofW (cc := b_S_hangsTogether) (maxL := 2) (ret := (some .boolean)) (by decide) rfl ?_
  intro p e s m args below meth c s₁ B hml hv
  obtain ⟨rfl, hP, hK, hN⟩ := hv
  have hx := B.exec
  have hb := B.bytes
  have hr := B.returns
  have hts := atoms_spec (ws := w_S_hangsTogether) B.pre
  have hown : s.vm.findClass R_S = some m.cls := findClass_of_methodNamed B.named
  have htb : ∀ w ∈ bz_tb, w.before _ s = true := fun w h => hts w (List.mem_cons_of_mem _ h)
  have hlocks := B.notSynchronized
  have hl := lv_entry ([.ref (ad 7), .int (nI r)]) (n := 2) (Nat.le_of_ble_eq_true rfl)
  rw [lg_entry_eq]
  generalize (lg_sl ([.ref (ad 7), .int (nI r)]) ++ List.replicate (2 - (lg_sl ([.ref (ad 7), .int (nI r)])).length) Slot.unset).toArray = ls at hl ⊢
  have hl : lv_has ls 2 [(0, .ref (ad 7)), (1, .int (nI r))] := hl
  refine lv_aload_n hx hb d_S_hangsTogether_0 rfl (lv_at hl 0 rfl) ?_
  refine va_get (D := (dC, dI)) (ci := 1) (v := .ref (ad 1)) (C := R_S) (T := F_S) (N := 6) hx hb htb in_S hown hK hP 7 rfl rfl 0 (by decide) (htb _ wd_79) (fun _ h9 => h9) rfl d_S_hangsTogether_1 ?_
  refine lv_aload_n hx hb d_S_hangsTogether_4 rfl (lv_at hl 0 rfl) ?_
  refine va_get (D := (dC, dI)) (ci := 1) (v := .ref (ad 9)) (C := R_S) (T := F_S) (N := 6) hx hb htb in_S hown hK hP 7 rfl rfl 2 (by decide) (htb _ wd_84) (fun _ h9 => h9) rfl d_S_hangsTogether_5 ?_
  refine lv_iload_n hx hb d_S_hangsTogether_8 rfl (lv_at hl 1 rfl) ?_
  refine bz_iald (v := bz_m (bz_in t s2 r)) hx hb hK hP 9 0 rfl rfl (a9 := r) (by omega) (by decide) (rfl) d_S_hangsTogether_9 ?_
  refine lv_aload_n hx hb d_S_hangsTogether_10 rfl (lv_at hl 0 rfl) ?_
  refine va_get (D := (dC, dI)) (ci := 1) (v := .ref (ad 9)) (C := R_S) (T := F_S) (N := 6) hx hb htb in_S hown hK hP 7 rfl rfl 2 (by decide) (htb _ wd_84) (fun _ h9 => h9) rfl d_S_hangsTogether_11 ?_
  refine lv_iload_n hx hb d_S_hangsTogether_14 rfl (lv_at hl 1 rfl) ?_
  refine bz_iald (v := bz_m (bz_in t s2 r)) hx hb hK hP 9 0 rfl rfl (a9 := r) (by omega) (by decide) (rfl) d_S_hangsTogether_15 ?_
  refine lv_aload_n hx hb d_S_hangsTogether_16 rfl (lv_at hl 0 rfl) ?_
  refine va_get (D := (dC, dI)) (ci := 1) (v := .int (bz_m (bz_op t s2))) (C := R_S) (T := F_S) (N := 6) hx hb htb in_S hown hK hP 7 rfl rfl 4 (by decide) (htb _ wd_86) (fun _ h9 => h9) rfl d_S_hangsTogether_17 ?_
  refine lv_ior hx hb d_S_hangsTogether_20 ?_
  refine bz_ri (y := bz_m (fun a => bz_in t s2 r a || bz_op t s2 a)) (bz_or _ _) ?_
  refine bz_si (va_runV (As := [.int (bz_m (bz_in t s2 r)), .int (bz_m (fun a => bz_in t s2 r a || bz_op t s2 a))]) (rest := []) ⟨hx, hb, hml, hown, htb⟩ (c_T_haveWays l dC dI ad cI cL t (bz_sR t s2) L v ht _ _ (fun i hi => bz_in_n hi)) (cwV 2 htb (bz_gV wd_224 wd_221 wd_222 wd_223 wd_20) rfl rfl rfl (by decide +kernel) ⟨Nat.le_of_ble_eq_true rfl, Nat.le_of_ble_eq_true rfl⟩) (bz_rv hN hK hP (q0 := 1) rfl rfl) rfl rfl hl.1 rfl (lv_room (Nat.le_of_ble_eq_true rfl)) d_S_hangsTogether_21 ⟨Nat.zero_le _, Nat.zero_le _⟩) ?_
  exact W.zret (v := nI (bz_b (bz_tg (bz_j t) ((bz_in t s2 r)) ((fun a => bz_in t s2 r a || bz_op t s2 a))))) hx hb hr (bz_nar _) (fun t9 ht9 hW => ⟨nI (bz_b (bz_tg (bz_j t) ((bz_in t s2 r)) ((fun a => bz_in t s2 r a || bz_op t s2 a)))), rfl, rfl, ht9⟩) (fun _ h => nomatch h) d_S_hangsTogether_24

set_option maxHeartbeats 4000000 in
set_option maxRecDepth 100000 in
/-- Share.allFaults -/
theorem c_S_allFaults (l : Launch) (dC : Nat → ClassId) (dI : Nat → Nat → Nat) (ad : Nat → Nat) (cI cL : ClassId) (t : bz_T) (s2 : bz_S) (L : (Nat → Int32) × Int64) (v : Int32) (ht : bz_ok t) : Met l y_S_allFaults w_S_allFaults ({ frames := 2, cells := 0, slots := 0, locals := 47 }) (bz_Pr (dC, dI) [(cI, .int), (cL, .long)] (bz_wB ad cI cL (bz_tR t) (bz_sR t s2) L v) [.ref (ad 7)]) (vp_Si (fun r9 => r9 = nI (bz_ft t s2))) 0 0 (fun _ => False) := by
  refine Met.ofW (cc := b_S_allFaults) (maxL := 3) (ret := (some .int)) (by decide) rfl ?_
  intro p e s m args below meth c s₁ B hml hv
  obtain ⟨rfl, hP, hK, hN⟩ := hv
  have hx := B.exec
  have hb := B.bytes
  have hr := B.returns
  have hts := atoms_spec (ws := w_S_allFaults) B.pre
  have hown : s.vm.findClass R_S = some m.cls := findClass_of_methodNamed B.named
  have htb : ∀ w ∈ bz_tb, w.before _ s = true := fun w h => hts w (List.mem_cons_of_mem _ h)
  have hlocks := B.notSynchronized
  have hl := lv_entry ([.ref (ad 7)]) (n := 3) (Nat.le_of_ble_eq_true rfl)
  rw [lg_entry_eq]
  generalize (lg_sl ([.ref (ad 7)]) ++ List.replicate (3 - (lg_sl ([.ref (ad 7)])).length) Slot.unset).toArray = ls at hl ⊢
  have hl : lv_has ls 3 [(0, .ref (ad 7))] := hl
  refine lv_iconst (v := nI 0) hx hb d_S_allFaults_0 (by decide) ?_
  refine lv_istore_n (lv' := [(1, .int (nI 0)), (0, .ref (ad 7))]) hx hb d_S_allFaults_1 rfl hl (by decide) rfl (fun ls hl => ?_)
  refine lv_iconst (v := nI 0) hx hb d_S_allFaults_2 (by decide) ?_
  refine lv_istore_n (lv' := [(2, .int (nI 0)), (1, .int (nI 0)), (0, .ref (ad 7))]) hx hb d_S_allFaults_3 rfl hl (by decide) rfl (fun ls hl => ?_)
  have lp : ∀ (k9 : Nat) (i : Nat), 4 - i < k9 → i ≤ 4 → ∀ (ls : Array Slot), lv_has ls 3 [(0, .ref (ad 7)), (1, .int (nI (bz_sm (bz_fr t s2) i))), (2, .int (nI i))] → W p l e (headSpec w_S_allFaults ({ frames := 2, cells := 0, slots := 0, locals := 47 })).room s m ([.ref (ad 7)]).toArray below meth c s.heap [] 0 0 (MQ below (vp_Si (fun r9 => r9 = nI (bz_ft t s2))) ([.ref (ad 7)]).toArray s 0 0 (fun _ => False)) (F0 m 4 ls []) := by
    intro k9
    induction k9 with
    | zero =>
      intro i h9
      exact absurd h9 (Nat.not_lt_zero _)
    | succ k9 ihlp =>
      intro i h9_lp hi ls hl
      refine lv_iload_n hx hb d_S_allFaults_4 rfl (lv_at hl 2 rfl) ?_
      refine lv_iconst (v := 4) hx hb d_S_allFaults_5 (by decide) ?_
      refine lv_icmp_ge (tgt := 77) hx hb d_S_allFaults_6 (by decide) (fun c_6 => ?_) (fun c_6 => ?_)
      · skip
        have hi4 : i = 4 := by have := (nI_leI (a := 4) (by omega) (by omega)).mp c_6; omega
        refine lv_iload_n hx hb d_S_allFaults_77 rfl (lv_at hl 1 rfl) ?_
        exact W.iret (v := nI (bz_sm (bz_fr t s2) i)) hx hb hr (fun t9 ht9 hW => ⟨nI (bz_sm (bz_fr t s2) i), rfl, by rw [hi4]; rfl, ht9⟩) (fun _ h => nomatch h) d_S_allFaults_78
      · skip
        have hi4 : i < 4 := Nat.lt_of_not_le fun z => c_6 ((nI_leI (a := 4) (b := i) (by omega) (by omega)).mpr z)
        refine lv_aload_n hx hb d_S_allFaults_9 rfl (lv_at hl 0 rfl) ?_
        refine lv_iload_n hx hb d_S_allFaults_10 rfl (lv_at hl 2 rfl) ?_
        refine bz_si (va_runV (As := [.int (nI i)]) (rest := []) ⟨hx, hb, hml, hown, htb⟩ (c_S_hangsTogether l dC dI ad cI cL t s2 L v ht _ (by omega)) (cwV 1 htb (bz_gV wd_220 wd_217 wd_218 wd_219 wd_21) rfl rfl rfl (by decide +kernel) ⟨Nat.le_of_ble_eq_true rfl, Nat.le_of_ble_eq_true rfl⟩) (bz_rv hN hK hP (q0 := 7) rfl rfl) rfl rfl hl.1 rfl (lv_room (Nat.le_of_ble_eq_true rfl)) d_S_allFaults_11 ⟨Nat.zero_le _, Nat.zero_le _⟩) ?_
        refine lv_if_ne (tgt := 20) hx hb d_S_allFaults_14 (by decide) (fun c_14 => ?_) (fun c_14 => ?_)
        · skip
          have hh := bz_bI1 c_14
          have hl : lv_has ls 3 [(0, .ref (ad 7)), (1, .int (nI (bz_sm (bz_fr t s2) i + bz_b (¬ bz_ht t s2 i)))), (2, .int (nI i))] := by rw [show nI (bz_sm (bz_fr t s2) i + bz_b (¬ bz_ht t s2 i)) = nI (bz_sm (bz_fr t s2) i) from by rw [bz_b0 (fun z => z hh)]; rfl]; exact hl
          refine lv_aload_n hx hb d_S_allFaults_20 rfl (lv_at hl 0 rfl) ?_
          refine va_get (D := (dC, dI)) (ci := 1) (v := .ref (ad 1)) (C := R_S) (T := F_S) (N := 6) hx hb htb in_S hown hK hP 7 rfl rfl 0 (by decide) (htb _ wd_79) (fun _ h9 => h9) rfl d_S_allFaults_21 ?_
          refine va_getN (D := (dC, dI)) (ci := 2) (v := .ref (ad 6)) (C := R_T) (T := F_T) (N := 6) hx hb htb in_T hown hK hP 1 rfl rfl 4 (by decide) (va_Nw.use rfl (hN _ nd_54)) (fun _ h9 => h9) rfl d_S_allFaults_24 ?_
          refine lv_iload_n hx hb d_S_allFaults_27 rfl (lv_at hl 2 rfl) ?_
          refine bz_lald (v := lN (bz_h t i)) hx hb hK hP 6 1 rfl rfl (a9 := i) (by omega) (by decide) (rfl) d_S_allFaults_28 ?_
          refine lv_lconst (v := 0) hx hb d_S_allFaults_29 (by decide) ?_
          refine W.lcmp hx hb d_S_allFaults_30 ?_
          refine lv_if_ne (tgt := 49) hx hb d_S_allFaults_31 (by decide) (fun c_31 => ?_) (fun c_31 => ?_)
          · skip
            have c_31 : ¬ bz_h t i = 0 := fun z => c_31 ((bz_lc_eq (b := 0) (by have := ht.2.2.2.2.2.2 i; omega) (by omega)).mpr z)
            refine lv_aload_n hx hb d_S_allFaults_49 rfl (lv_at hl 0 rfl) ?_
            refine va_get (D := (dC, dI)) (ci := 1) (v := .ref (ad 10)) (C := R_S) (T := F_S) (N := 6) hx hb htb in_S hown hK hP 7 rfl rfl 3 (by decide) (htb _ wd_85) (fun _ h9 => h9) rfl d_S_allFaults_50 ?_
            refine lv_iload_n hx hb d_S_allFaults_53 rfl (lv_at hl 2 rfl) ?_
            refine bz_lald (v := lN (bz_ld t s2 i)) hx hb hK hP 10 1 rfl rfl (a9 := i) (by omega) (by decide) (rfl) d_S_allFaults_54 ?_
            refine lv_aload_n hx hb d_S_allFaults_55 rfl (lv_at hl 0 rfl) ?_
            refine va_get (D := (dC, dI)) (ci := 1) (v := .ref (ad 1)) (C := R_S) (T := F_S) (N := 6) hx hb htb in_S hown hK hP 7 rfl rfl 0 (by decide) (htb _ wd_79) (fun _ h9 => h9) rfl d_S_allFaults_56 ?_
            refine va_getN (D := (dC, dI)) (ci := 2) (v := .ref (ad 6)) (C := R_T) (T := F_T) (N := 6) hx hb htb in_T hown hK hP 1 rfl rfl 4 (by decide) (va_Nw.use rfl (hN _ nd_54)) (fun _ h9 => h9) rfl d_S_allFaults_59 ?_
            refine lv_iload_n hx hb d_S_allFaults_62 rfl (lv_at hl 2 rfl) ?_
            refine bz_lald (v := lN (bz_h t i)) hx hb hK hP 6 1 rfl rfl (a9 := i) (by omega) (by decide) (rfl) d_S_allFaults_63 ?_
            refine W.lcmp hx hb d_S_allFaults_64 ?_
            refine lv_if_le (tgt := 71) hx hb d_S_allFaults_65 (by decide) (fun c_65 => ?_) (fun c_65 => ?_)
            · skip
              have c_65 := (bz_lc_le (by have := bz_ld_le ht s2 i; omega) (by have := ht.2.2.2.2.2.2 i; omega)).mp c_65
              have hl : lv_has ls 3 [(0, .ref (ad 7)), (1, .int (nI (bz_sm (bz_fr t s2) (i + 1)))), (2, .int (nI i))] := by rw [show nI (bz_sm (bz_fr t s2) (i + 1)) = nI (bz_sm (bz_fr t s2) i + bz_b (¬ bz_ht t s2 i)) from by show nI (bz_sm (bz_fr t s2) i + bz_fr t s2 i) = _; rw [bz_fr_h1 c_31, bz_b0 (show ¬ bz_h t i < bz_ld t s2 i by omega)]; rfl]; exact hl
              refine lv_iinc (v := nI (i + 1)) (lv' := [(2, .int (nI (i + 1))), (0, .ref (ad 7)), (1, .int (nI (bz_sm (bz_fr t s2) (i + 1))))]) hx hb d_S_allFaults_71 hl (k := 2) rfl (nI_1 _) (by decide) rfl (fun ls hl => ?_)
              refine lv_goto (tgt := 4) hx hb d_S_allFaults_74 (by decide) ?_
              exact ihlp (i + 1) (by omega) (by omega) ls (lv_sub hl [1, 2, 0] rfl)
            · skip
              have c_65 : bz_h t i < bz_ld t s2 i := Nat.lt_of_not_le fun z => c_65 ((bz_lc_le (by have := bz_ld_le ht s2 i; omega) (by have := ht.2.2.2.2.2.2 i; omega)).mpr z)
              refine lv_iinc (v := nI (bz_sm (bz_fr t s2) (i + 1))) (lv' := [(1, .int (nI (bz_sm (bz_fr t s2) (i + 1)))), (0, .ref (ad 7)), (2, .int (nI i))]) hx hb d_S_allFaults_68 hl (k := 1) rfl (by show _ = nI (bz_sm (bz_fr t s2) i + bz_fr t s2 i); rw [bz_fr_h1 c_31, bz_b1 c_65, ← Nat.add_assoc]; exact nI_1 _) (by decide) rfl (fun ls hl => ?_)
              refine lv_iinc (v := nI (i + 1)) (lv' := [(2, .int (nI (i + 1))), (1, .int (nI (bz_sm (bz_fr t s2) (i + 1)))), (0, .ref (ad 7))]) hx hb d_S_allFaults_71 hl (k := 2) rfl (nI_1 _) (by decide) rfl (fun ls hl => ?_)
              refine lv_goto (tgt := 4) hx hb d_S_allFaults_74 (by decide) ?_
              exact ihlp (i + 1) (by omega) (by omega) ls (lv_sub hl [2, 1, 0] rfl)
          · skip
            have c_31 := (bz_lc_eq (b := 0) (by have := ht.2.2.2.2.2.2 i; omega) (by omega)).mp c_31
            refine lv_iload_n hx hb d_S_allFaults_34 rfl (lv_at hl 1 rfl) ?_
            refine lv_aload_n hx hb d_S_allFaults_35 rfl (lv_at hl 0 rfl) ?_
            refine va_get (D := (dC, dI)) (ci := 1) (v := .ref (ad 9)) (C := R_S) (T := F_S) (N := 6) hx hb htb in_S hown hK hP 7 rfl rfl 2 (by decide) (htb _ wd_84) (fun _ h9 => h9) rfl d_S_allFaults_36 ?_
            refine lv_iload_n hx hb d_S_allFaults_39 rfl (lv_at hl 2 rfl) ?_
            refine bz_iald (v := bz_m (bz_in t s2 i)) hx hb hK hP 9 0 rfl rfl (a9 := i) (by omega) (by decide) (rfl) d_S_allFaults_40 ?_
            refine bz_si (va_runS (As := [.int (bz_m (bz_in t s2 i))]) (rest := [.int (nI (bz_sm (bz_fr t s2) i + bz_b (¬ bz_ht t s2 i)))]) ⟨hx, hb, hml, hown, htb⟩ (c_I_bitCount l dC dI ad cI cL t (bz_sR t s2) L v _) (va_cwS 1 htb (bz_gS wd_227 wd_225 wd_226 wd_24) rfl rfl rfl (by decide +kernel) ⟨Nat.le_of_ble_eq_true rfl, Nat.le_of_ble_eq_true rfl⟩) (bz_rs hN hK hP) rfl rfl hl.1 rfl (lv_room (Nat.le_of_ble_eq_true rfl)) d_S_allFaults_41 ⟨Nat.zero_le _, Nat.zero_le _⟩) ?_
            refine lv_iadd hx hb d_S_allFaults_44 ?_
            refine bz_ri (y := nI (bz_sm (bz_fr t s2) (i + 1))) (by show _ = nI (bz_sm (bz_fr t s2) i + bz_fr t s2 i); rw [bz_fr_h0 c_31, bz_ct_in ht, nI_add, Nat.add_assoc]) ?_
            refine lv_istore_n (lv' := [(1, .int (nI (bz_sm (bz_fr t s2) (i + 1)))), (0, .ref (ad 7)), (2, .int (nI i))]) hx hb d_S_allFaults_45 rfl hl (by decide) rfl (fun ls hl => ?_)
            refine lv_goto (tgt := 71) hx hb d_S_allFaults_46 (by decide) ?_
            refine lv_iinc (v := nI (i + 1)) (lv' := [(2, .int (nI (i + 1))), (1, .int (nI (bz_sm (bz_fr t s2) (i + 1)))), (0, .ref (ad 7))]) hx hb d_S_allFaults_71 hl (k := 2) rfl (nI_1 _) (by decide) rfl (fun ls hl => ?_)
            refine lv_goto (tgt := 4) hx hb d_S_allFaults_74 (by decide) ?_
            exact ihlp (i + 1) (by omega) (by omega) ls (lv_sub hl [2, 1, 0] rfl)
        · skip
          have hh := bz_bI0 c_14
          refine lv_iinc (v := nI (bz_sm (bz_fr t s2) i + bz_b (¬ bz_ht t s2 i))) (lv' := [(1, .int (nI (bz_sm (bz_fr t s2) i + bz_b (¬ bz_ht t s2 i)))), (0, .ref (ad 7)), (2, .int (nI i))]) hx hb d_S_allFaults_17 hl (k := 1) rfl (by rw [bz_b1 hh]; exact nI_1 _) (by decide) rfl (fun ls hl => ?_)
          refine lv_aload_n hx hb d_S_allFaults_20 rfl (lv_at hl 1 rfl) ?_
          refine va_get (D := (dC, dI)) (ci := 1) (v := .ref (ad 1)) (C := R_S) (T := F_S) (N := 6) hx hb htb in_S hown hK hP 7 rfl rfl 0 (by decide) (htb _ wd_79) (fun _ h9 => h9) rfl d_S_allFaults_21 ?_
          refine va_getN (D := (dC, dI)) (ci := 2) (v := .ref (ad 6)) (C := R_T) (T := F_T) (N := 6) hx hb htb in_T hown hK hP 1 rfl rfl 4 (by decide) (va_Nw.use rfl (hN _ nd_54)) (fun _ h9 => h9) rfl d_S_allFaults_24 ?_
          refine lv_iload_n hx hb d_S_allFaults_27 rfl (lv_at hl 2 rfl) ?_
          refine bz_lald (v := lN (bz_h t i)) hx hb hK hP 6 1 rfl rfl (a9 := i) (by omega) (by decide) (rfl) d_S_allFaults_28 ?_
          refine lv_lconst (v := 0) hx hb d_S_allFaults_29 (by decide) ?_
          refine W.lcmp hx hb d_S_allFaults_30 ?_
          refine lv_if_ne (tgt := 49) hx hb d_S_allFaults_31 (by decide) (fun c_31 => ?_) (fun c_31 => ?_)
          · skip
            have c_31 : ¬ bz_h t i = 0 := fun z => c_31 ((bz_lc_eq (b := 0) (by have := ht.2.2.2.2.2.2 i; omega) (by omega)).mpr z)
            refine lv_aload_n hx hb d_S_allFaults_49 rfl (lv_at hl 1 rfl) ?_
            refine va_get (D := (dC, dI)) (ci := 1) (v := .ref (ad 10)) (C := R_S) (T := F_S) (N := 6) hx hb htb in_S hown hK hP 7 rfl rfl 3 (by decide) (htb _ wd_85) (fun _ h9 => h9) rfl d_S_allFaults_50 ?_
            refine lv_iload_n hx hb d_S_allFaults_53 rfl (lv_at hl 2 rfl) ?_
            refine bz_lald (v := lN (bz_ld t s2 i)) hx hb hK hP 10 1 rfl rfl (a9 := i) (by omega) (by decide) (rfl) d_S_allFaults_54 ?_
            refine lv_aload_n hx hb d_S_allFaults_55 rfl (lv_at hl 1 rfl) ?_
            refine va_get (D := (dC, dI)) (ci := 1) (v := .ref (ad 1)) (C := R_S) (T := F_S) (N := 6) hx hb htb in_S hown hK hP 7 rfl rfl 0 (by decide) (htb _ wd_79) (fun _ h9 => h9) rfl d_S_allFaults_56 ?_
            refine va_getN (D := (dC, dI)) (ci := 2) (v := .ref (ad 6)) (C := R_T) (T := F_T) (N := 6) hx hb htb in_T hown hK hP 1 rfl rfl 4 (by decide) (va_Nw.use rfl (hN _ nd_54)) (fun _ h9 => h9) rfl d_S_allFaults_59 ?_
            refine lv_iload_n hx hb d_S_allFaults_62 rfl (lv_at hl 2 rfl) ?_
            refine bz_lald (v := lN (bz_h t i)) hx hb hK hP 6 1 rfl rfl (a9 := i) (by omega) (by decide) (rfl) d_S_allFaults_63 ?_
            refine W.lcmp hx hb d_S_allFaults_64 ?_
            refine lv_if_le (tgt := 71) hx hb d_S_allFaults_65 (by decide) (fun c_65 => ?_) (fun c_65 => ?_)
            · skip
              have c_65 := (bz_lc_le (by have := bz_ld_le ht s2 i; omega) (by have := ht.2.2.2.2.2.2 i; omega)).mp c_65
              have hl : lv_has ls 3 [(1, .int (nI (bz_sm (bz_fr t s2) (i + 1)))), (0, .ref (ad 7)), (2, .int (nI i))] := by rw [show nI (bz_sm (bz_fr t s2) (i + 1)) = nI (bz_sm (bz_fr t s2) i + bz_b (¬ bz_ht t s2 i)) from by show nI (bz_sm (bz_fr t s2) i + bz_fr t s2 i) = _; rw [bz_fr_h1 c_31, bz_b0 (show ¬ bz_h t i < bz_ld t s2 i by omega)]; rfl]; exact hl
              refine lv_iinc (v := nI (i + 1)) (lv' := [(2, .int (nI (i + 1))), (1, .int (nI (bz_sm (bz_fr t s2) (i + 1)))), (0, .ref (ad 7))]) hx hb d_S_allFaults_71 hl (k := 2) rfl (nI_1 _) (by decide) rfl (fun ls hl => ?_)
              refine lv_goto (tgt := 4) hx hb d_S_allFaults_74 (by decide) ?_
              exact ihlp (i + 1) (by omega) (by omega) ls (lv_sub hl [2, 1, 0] rfl)
            · skip
              have c_65 : bz_h t i < bz_ld t s2 i := Nat.lt_of_not_le fun z => c_65 ((bz_lc_le (by have := bz_ld_le ht s2 i; omega) (by have := ht.2.2.2.2.2.2 i; omega)).mpr z)
              refine lv_iinc (v := nI (bz_sm (bz_fr t s2) (i + 1))) (lv' := [(1, .int (nI (bz_sm (bz_fr t s2) (i + 1)))), (0, .ref (ad 7)), (2, .int (nI i))]) hx hb d_S_allFaults_68 hl (k := 0) rfl (by show _ = nI (bz_sm (bz_fr t s2) i + bz_fr t s2 i); rw [bz_fr_h1 c_31, bz_b1 c_65, ← Nat.add_assoc]; exact nI_1 _) (by decide) rfl (fun ls hl => ?_)
              refine lv_iinc (v := nI (i + 1)) (lv' := [(2, .int (nI (i + 1))), (1, .int (nI (bz_sm (bz_fr t s2) (i + 1)))), (0, .ref (ad 7))]) hx hb d_S_allFaults_71 hl (k := 2) rfl (nI_1 _) (by decide) rfl (fun ls hl => ?_)
              refine lv_goto (tgt := 4) hx hb d_S_allFaults_74 (by decide) ?_
              exact ihlp (i + 1) (by omega) (by omega) ls (lv_sub hl [2, 1, 0] rfl)
          · skip
            have c_31 := (bz_lc_eq (b := 0) (by have := ht.2.2.2.2.2.2 i; omega) (by omega)).mp c_31
            refine lv_iload_n hx hb d_S_allFaults_34 rfl (lv_at hl 0 rfl) ?_
            refine lv_aload_n hx hb d_S_allFaults_35 rfl (lv_at hl 1 rfl) ?_
            refine va_get (D := (dC, dI)) (ci := 1) (v := .ref (ad 9)) (C := R_S) (T := F_S) (N := 6) hx hb htb in_S hown hK hP 7 rfl rfl 2 (by decide) (htb _ wd_84) (fun _ h9 => h9) rfl d_S_allFaults_36 ?_
            refine lv_iload_n hx hb d_S_allFaults_39 rfl (lv_at hl 2 rfl) ?_
            refine bz_iald (v := bz_m (bz_in t s2 i)) hx hb hK hP 9 0 rfl rfl (a9 := i) (by omega) (by decide) (rfl) d_S_allFaults_40 ?_
            refine bz_si (va_runS (As := [.int (bz_m (bz_in t s2 i))]) (rest := [.int (nI (bz_sm (bz_fr t s2) i + bz_b (¬ bz_ht t s2 i)))]) ⟨hx, hb, hml, hown, htb⟩ (c_I_bitCount l dC dI ad cI cL t (bz_sR t s2) L v _) (va_cwS 1 htb (bz_gS wd_227 wd_225 wd_226 wd_24) rfl rfl rfl (by decide +kernel) ⟨Nat.le_of_ble_eq_true rfl, Nat.le_of_ble_eq_true rfl⟩) (bz_rs hN hK hP) rfl rfl hl.1 rfl (lv_room (Nat.le_of_ble_eq_true rfl)) d_S_allFaults_41 ⟨Nat.zero_le _, Nat.zero_le _⟩) ?_
            refine lv_iadd hx hb d_S_allFaults_44 ?_
            refine bz_ri (y := nI (bz_sm (bz_fr t s2) (i + 1))) (by show _ = nI (bz_sm (bz_fr t s2) i + bz_fr t s2 i); rw [bz_fr_h0 c_31, bz_ct_in ht, nI_add, Nat.add_assoc]) ?_
            refine lv_istore_n (lv' := [(1, .int (nI (bz_sm (bz_fr t s2) (i + 1)))), (0, .ref (ad 7)), (2, .int (nI i))]) hx hb d_S_allFaults_45 rfl hl (by decide) rfl (fun ls hl => ?_)
            refine lv_goto (tgt := 71) hx hb d_S_allFaults_46 (by decide) ?_
            refine lv_iinc (v := nI (i + 1)) (lv' := [(2, .int (nI (i + 1))), (1, .int (nI (bz_sm (bz_fr t s2) (i + 1)))), (0, .ref (ad 7))]) hx hb d_S_allFaults_71 hl (k := 2) rfl (nI_1 _) (by decide) rfl (fun ls hl => ?_)
            refine lv_goto (tgt := 4) hx hb d_S_allFaults_74 (by decide) ?_
            exact ihlp (i + 1) (by omega) (by omega) ls (lv_sub hl [2, 1, 0] rfl)
  exact lp _ 0 (Nat.lt_succ_self _) (by omega) ls (lv_sub hl [2, 1, 0] rfl)

set_option maxHeartbeats 4000000 in
set_option maxRecDepth 100000 in
/-- Share.cost -/
theorem c_S_cost (l : Launch) (dC : Nat → ClassId) (dI : Nat → Nat → Nat) (ad : Nat → Nat) (cI cL : ClassId) (t : bz_T) (s2 : bz_S) (L : (Nat → Int32) × Int64) (v : Int32) (ht : bz_ok t) : Met l y_S_cost w_S_cost ({ frames := 3, cells := 0, slots := 0, locals := 69 }) (bz_Pr (dC, dI) [(cI, .int), (cL, .long)] (bz_wB ad cI cL (bz_tR t) (bz_sR t s2) L v) [.ref (ad 7)]) (vp_Sl (fun r9 => r9 = lN (bz_co t s2))) 0 0 (fun _ => False) := by
  refine Met.ofW (cc := b_S_cost) (maxL := 1) (ret := (some .long)) (by decide) rfl ?_
  intro p e s m args below meth c s₁ B hml hv
  obtain ⟨rfl, hP, hK, hN⟩ := hv
  have hx := B.exec
  have hb := B.bytes
  have hr := B.returns
  have hts := atoms_spec (ws := w_S_cost) B.pre
  have hown : s.vm.findClass R_S = some m.cls := findClass_of_methodNamed B.named
  have htb : ∀ w ∈ bz_tb, w.before _ s = true := fun w h => hts w (List.mem_cons_of_mem _ h)
  have hlocks := B.notSynchronized
  have hl := lv_entry ([.ref (ad 7)]) (n := 1) (Nat.le_of_ble_eq_true rfl)
  rw [lg_entry_eq]
  generalize (lg_sl ([.ref (ad 7)]) ++ List.replicate (1 - (lg_sl ([.ref (ad 7)])).length) Slot.unset).toArray = ls at hl ⊢
  have hl : lv_has ls 1 [(0, .ref (ad 7))] := hl
  refine lv_ldc2 (v := 1000000000000) hx hb hown (htb _ wd_212) d_S_cost_0 ?_
  refine lv_aload_n hx hb d_S_cost_3 rfl (lv_at hl 0 rfl) ?_
  refine bz_si (va_runV (As := []) (rest := [.long 1000000000000]) ⟨hx, hb, hml, hown, htb⟩ (c_S_allFaults l dC dI ad cI cL t s2 L v ht) (cwV 0 htb (bz_gV wd_216 wd_213 wd_214 wd_215 wd_21) rfl rfl rfl (by decide +kernel) ⟨Nat.le_of_ble_eq_true rfl, Nat.le_of_ble_eq_true rfl⟩) (bz_rv hN hK hP (q0 := 7) rfl rfl) rfl rfl hl.1 rfl (lv_room (Nat.le_of_ble_eq_true rfl)) d_S_cost_4 ⟨Nat.zero_le _, Nat.zero_le _⟩) ?_
  refine lv_i2l hx hb d_S_cost_7 rfl ?_
  refine bz_rl (y := lN (bz_ft t s2)) (nI_l (by have := bz_ft_le ht s2; omega)) ?_
  refine lv_lmul hx hb d_S_cost_8 ?_
  refine lv_ldc2 (v := 100) hx hb hown (htb _ wd_231) d_S_cost_9 ?_
  refine lv_aload_n hx hb d_S_cost_12 rfl (lv_at hl 0 rfl) ?_
  refine bz_sl (va_runV (As := []) (rest := [.long 100, .long (1000000000000 * (lN (bz_ft t s2)))]) ⟨hx, hb, hml, hown, htb⟩ (c_S_greatestLoad l dC dI ad cI cL t s2 L v ht) (cwV 0 htb (bz_gV wd_235 wd_232 wd_233 wd_234 wd_21) rfl rfl rfl (by decide +kernel) ⟨Nat.le_of_ble_eq_true rfl, Nat.le_of_ble_eq_true rfl⟩) (bz_rv hN hK hP (q0 := 7) rfl rfl) rfl rfl hl.1 rfl (lv_room (Nat.le_of_ble_eq_true rfl)) d_S_cost_13 ⟨Nat.zero_le _, Nat.zero_le _⟩) ?_
  refine lv_lmul hx hb d_S_cost_16 ?_
  refine lv_ladd hx hb d_S_cost_17 ?_
  refine lv_aload_n hx hb d_S_cost_18 rfl (lv_at hl 0 rfl) ?_
  refine va_get (D := (dC, dI)) (ci := 1) (v := .int (nI (bz_ch t s2))) (C := R_S) (T := F_S) (N := 6) hx hb htb in_S hown hK hP 7 rfl rfl 5 (by decide) (htb _ wd_87) (fun _ h9 => h9) rfl d_S_cost_19 ?_
  refine lv_i2l hx hb d_S_cost_22 rfl ?_
  refine bz_rl (y := lN (bz_ch t s2)) (nI_l (by have := bz_ch_le ht s2; omega)) ?_
  refine lv_ladd hx hb d_S_cost_23 ?_
  refine bz_rl (y := lN (bz_co t s2)) (bz_cost_eq s2) ?_
  exact W.lret (v := lN (bz_co t s2)) hx hb hr (fun t9 ht9 hW => ⟨lN (bz_co t s2), rfl, rfl, ht9⟩) (fun _ h => nomatch h) d_S_cost_24
end
section
theorem d_S_clear_0 : decode b_S_clear 0 = .ok (.aload_n 0, 1) := by decide +kernel
theorem d_S_clear_1 : decode b_S_clear 1 = .ok (.iconst 1, 1) := by decide +kernel
theorem d_S_clear_2 : decode b_S_clear 2 = .ok (.aload_n 0, 1) := by decide +kernel
theorem d_S_clear_3 : decode b_S_clear 3 = .ok (.getfield 29, 3) := by decide +kernel
theorem d_S_clear_6 : decode b_S_clear 6 = .ok (.getfield 33, 3) := by decide +kernel
theorem d_S_clear_9 : decode b_S_clear 9 = .ok (.ishl, 1) := by decide +kernel
theorem d_S_clear_10 : decode b_S_clear 10 = .ok (.iconst 1, 1) := by decide +kernel
theorem d_S_clear_11 : decode b_S_clear 11 = .ok (.isub, 1) := by decide +kernel
theorem d_S_clear_12 : decode b_S_clear 12 = .ok (.putfield 22, 3) := by decide +kernel
theorem d_S_clear_15 : decode b_S_clear 15 = .ok (.aload_n 0, 1) := by decide +kernel
theorem d_S_clear_16 : decode b_S_clear 16 = .ok (.iconst 0, 1) := by decide +kernel
theorem d_S_clear_17 : decode b_S_clear 17 = .ok (.putfield 26, 3) := by decide +kernel
theorem d_S_clear_20 : decode b_S_clear 20 = .ok (.iconst 0, 1) := by decide +kernel
theorem d_S_clear_21 : decode b_S_clear 21 = .ok (.istore_n 1, 1) := by decide +kernel
theorem d_S_clear_22 : decode b_S_clear 22 = .ok (.iload_n 1, 1) := by decide +kernel
theorem d_S_clear_23 : decode b_S_clear 23 = .ok (.iconst 4, 1) := by decide +kernel
theorem d_S_clear_24 : decode b_S_clear 24 = .ok (.if_icmp .ge 23, 3) := by decide +kernel
theorem d_S_clear_27 : decode b_S_clear 27 = .ok (.aload_n 0, 1) := by decide +kernel
theorem d_S_clear_28 : decode b_S_clear 28 = .ok (.getfield 15, 3) := by decide +kernel
theorem d_S_clear_31 : decode b_S_clear 31 = .ok (.iload_n 1, 1) := by decide +kernel
theorem d_S_clear_32 : decode b_S_clear 32 = .ok (.iconst 0, 1) := by decide +kernel
theorem d_S_clear_33 : decode b_S_clear 33 = .ok (.iastore, 1) := by decide +kernel
theorem d_S_clear_34 : decode b_S_clear 34 = .ok (.aload_n 0, 1) := by decide +kernel
theorem d_S_clear_35 : decode b_S_clear 35 = .ok (.getfield 18, 3) := by decide +kernel
theorem d_S_clear_38 : decode b_S_clear 38 = .ok (.iload_n 1, 1) := by decide +kernel
theorem d_S_clear_39 : decode b_S_clear 39 = .ok (.lconst 0, 1) := by decide +kernel
theorem d_S_clear_40 : decode b_S_clear 40 = .ok (.lastore, 1) := by decide +kernel
theorem d_S_clear_41 : decode b_S_clear 41 = .ok (.iinc 1 1, 3) := by decide +kernel
theorem d_S_clear_44 : decode b_S_clear 44 = .ok (.goto (-22), 3) := by decide +kernel
theorem d_S_clear_47 : decode b_S_clear 47 = .ok (.return_, 1) := by decide +kernel
theorem d_S_put_0 : decode b_S_put 0 = .ok (.aload_n 0, 1) := by decide +kernel
theorem d_S_put_1 : decode b_S_put 1 = .ok (.getfield 9, 3) := by decide +kernel
theorem d_S_put_4 : decode b_S_put 4 = .ok (.iload_n 1, 1) := by decide +kernel
theorem d_S_put_5 : decode b_S_put 5 = .ok (.iload_n 2, 1) := by decide +kernel
theorem d_S_put_6 : decode b_S_put 6 = .ok (.iastore, 1) := by decide +kernel
theorem d_S_put_7 : decode b_S_put 7 = .ok (.aload_n 0, 1) := by decide +kernel
theorem d_S_put_8 : decode b_S_put 8 = .ok (.dup, 1) := by decide +kernel
theorem d_S_put_9 : decode b_S_put 9 = .ok (.getfield 22, 3) := by decide +kernel
theorem d_S_put_12 : decode b_S_put 12 = .ok (.iconst 1, 1) := by decide +kernel
theorem d_S_put_13 : decode b_S_put 13 = .ok (.iload_n 1, 1) := by decide +kernel
theorem d_S_put_14 : decode b_S_put 14 = .ok (.ishl, 1) := by decide +kernel
theorem d_S_put_15 : decode b_S_put 15 = .ok (.iconst (-1), 1) := by decide +kernel
theorem d_S_put_16 : decode b_S_put 16 = .ok (.ixor, 1) := by decide +kernel
theorem d_S_put_17 : decode b_S_put 17 = .ok (.iand, 1) := by decide +kernel
theorem d_S_put_18 : decode b_S_put 18 = .ok (.putfield 22, 3) := by decide +kernel
theorem d_S_put_21 : decode b_S_put 21 = .ok (.aload_n 0, 1) := by decide +kernel
theorem d_S_put_22 : decode b_S_put 22 = .ok (.getfield 15, 3) := by decide +kernel
theorem d_S_put_25 : decode b_S_put 25 = .ok (.iload_n 2, 1) := by decide +kernel
theorem d_S_put_26 : decode b_S_put 26 = .ok (.dup2, 1) := by decide +kernel
theorem d_S_put_27 : decode b_S_put 27 = .ok (.iaload, 1) := by decide +kernel
theorem d_S_put_28 : decode b_S_put 28 = .ok (.iconst 1, 1) := by decide +kernel
theorem d_S_put_29 : decode b_S_put 29 = .ok (.iload_n 1, 1) := by decide +kernel
theorem d_S_put_30 : decode b_S_put 30 = .ok (.ishl, 1) := by decide +kernel
theorem d_S_put_31 : decode b_S_put 31 = .ok (.ior, 1) := by decide +kernel
theorem d_S_put_32 : decode b_S_put 32 = .ok (.iastore, 1) := by decide +kernel
theorem d_S_put_33 : decode b_S_put 33 = .ok (.aload_n 0, 1) := by decide +kernel
theorem d_S_put_34 : decode b_S_put 34 = .ok (.getfield 18, 3) := by decide +kernel
theorem d_S_put_37 : decode b_S_put 37 = .ok (.iload_n 2, 1) := by decide +kernel
theorem d_S_put_38 : decode b_S_put 38 = .ok (.dup2, 1) := by decide +kernel
theorem d_S_put_39 : decode b_S_put 39 = .ok (.laload, 1) := by decide +kernel
theorem d_S_put_40 : decode b_S_put 40 = .ok (.aload_n 0, 1) := by decide +kernel
theorem d_S_put_41 : decode b_S_put 41 = .ok (.getfield 29, 3) := by decide +kernel
theorem d_S_put_44 : decode b_S_put 44 = .ok (.iload_n 1, 1) := by decide +kernel
theorem d_S_put_45 : decode b_S_put 45 = .ok (.iload_n 2, 1) := by decide +kernel
theorem d_S_put_46 : decode b_S_put 46 = .ok (.invokevirtual 45, 3) := by decide +kernel
theorem d_S_put_49 : decode b_S_put 49 = .ok (.ladd, 1) := by decide +kernel
theorem d_S_put_50 : decode b_S_put 50 = .ok (.lastore, 1) := by decide +kernel
theorem d_S_put_51 : decode b_S_put 51 = .ok (.iload_n 2, 1) := by decide +kernel
theorem d_S_put_52 : decode b_S_put 52 = .ok (.aload_n 0, 1) := by decide +kernel
theorem d_S_put_53 : decode b_S_put 53 = .ok (.getfield 29, 3) := by decide +kernel
theorem d_S_put_56 : decode b_S_put 56 = .ok (.getfield 49, 3) := by decide +kernel
theorem d_S_put_59 : decode b_S_put 59 = .ok (.iload_n 1, 1) := by decide +kernel
theorem d_S_put_60 : decode b_S_put 60 = .ok (.iaload, 1) := by decide +kernel
theorem d_S_put_61 : decode b_S_put 61 = .ok (.if_icmp .eq 13, 3) := by decide +kernel
theorem d_S_put_64 : decode b_S_put 64 = .ok (.aload_n 0, 1) := by decide +kernel
theorem d_S_put_65 : decode b_S_put 65 = .ok (.dup, 1) := by decide +kernel
theorem d_S_put_66 : decode b_S_put 66 = .ok (.getfield 26, 3) := by decide +kernel
theorem d_S_put_69 : decode b_S_put 69 = .ok (.iconst 1, 1) := by decide +kernel
theorem d_S_put_70 : decode b_S_put 70 = .ok (.iadd, 1) := by decide +kernel
theorem d_S_put_71 : decode b_S_put 71 = .ok (.putfield 26, 3) := by decide +kernel
theorem d_S_put_74 : decode b_S_put 74 = .ok (.return_, 1) := by decide +kernel
theorem d_S_take_0 : decode b_S_take 0 = .ok (.aload_n 0, 1) := by decide +kernel
theorem d_S_take_1 : decode b_S_take 1 = .ok (.getfield 9, 3) := by decide +kernel
theorem d_S_take_4 : decode b_S_take 4 = .ok (.iload_n 1, 1) := by decide +kernel
theorem d_S_take_5 : decode b_S_take 5 = .ok (.iaload, 1) := by decide +kernel
theorem d_S_take_6 : decode b_S_take 6 = .ok (.istore_n 2, 1) := by decide +kernel
theorem d_S_take_7 : decode b_S_take 7 = .ok (.aload_n 0, 1) := by decide +kernel
theorem d_S_take_8 : decode b_S_take 8 = .ok (.dup, 1) := by decide +kernel
theorem d_S_take_9 : decode b_S_take 9 = .ok (.getfield 22, 3) := by decide +kernel
theorem d_S_take_12 : decode b_S_take 12 = .ok (.iconst 1, 1) := by decide +kernel
theorem d_S_take_13 : decode b_S_take 13 = .ok (.iload_n 1, 1) := by decide +kernel
theorem d_S_take_14 : decode b_S_take 14 = .ok (.ishl, 1) := by decide +kernel
theorem d_S_take_15 : decode b_S_take 15 = .ok (.ior, 1) := by decide +kernel
theorem d_S_take_16 : decode b_S_take 16 = .ok (.putfield 22, 3) := by decide +kernel
theorem d_S_take_19 : decode b_S_take 19 = .ok (.aload_n 0, 1) := by decide +kernel
theorem d_S_take_20 : decode b_S_take 20 = .ok (.getfield 15, 3) := by decide +kernel
theorem d_S_take_23 : decode b_S_take 23 = .ok (.iload_n 2, 1) := by decide +kernel
theorem d_S_take_24 : decode b_S_take 24 = .ok (.dup2, 1) := by decide +kernel
theorem d_S_take_25 : decode b_S_take 25 = .ok (.iaload, 1) := by decide +kernel
theorem d_S_take_26 : decode b_S_take 26 = .ok (.iconst 1, 1) := by decide +kernel
theorem d_S_take_27 : decode b_S_take 27 = .ok (.iload_n 1, 1) := by decide +kernel
theorem d_S_take_28 : decode b_S_take 28 = .ok (.ishl, 1) := by decide +kernel
theorem d_S_take_29 : decode b_S_take 29 = .ok (.iconst (-1), 1) := by decide +kernel
theorem d_S_take_30 : decode b_S_take 30 = .ok (.ixor, 1) := by decide +kernel
theorem d_S_take_31 : decode b_S_take 31 = .ok (.iand, 1) := by decide +kernel
theorem d_S_take_32 : decode b_S_take 32 = .ok (.iastore, 1) := by decide +kernel
theorem d_S_take_33 : decode b_S_take 33 = .ok (.aload_n 0, 1) := by decide +kernel
theorem d_S_take_34 : decode b_S_take 34 = .ok (.getfield 18, 3) := by decide +kernel
theorem d_S_take_37 : decode b_S_take 37 = .ok (.iload_n 2, 1) := by decide +kernel
theorem d_S_take_38 : decode b_S_take 38 = .ok (.dup2, 1) := by decide +kernel
theorem d_S_take_39 : decode b_S_take 39 = .ok (.laload, 1) := by decide +kernel
theorem d_S_take_40 : decode b_S_take 40 = .ok (.aload_n 0, 1) := by decide +kernel
theorem d_S_take_41 : decode b_S_take 41 = .ok (.getfield 29, 3) := by decide +kernel
theorem d_S_take_44 : decode b_S_take 44 = .ok (.iload_n 1, 1) := by decide +kernel
theorem d_S_take_45 : decode b_S_take 45 = .ok (.iload_n 2, 1) := by decide +kernel
theorem d_S_take_46 : decode b_S_take 46 = .ok (.invokevirtual 45, 3) := by decide +kernel
theorem d_S_take_49 : decode b_S_take 49 = .ok (.lsub, 1) := by decide +kernel
theorem d_S_take_50 : decode b_S_take 50 = .ok (.lastore, 1) := by decide +kernel
theorem d_S_take_51 : decode b_S_take 51 = .ok (.iload_n 2, 1) := by decide +kernel
theorem d_S_take_52 : decode b_S_take 52 = .ok (.aload_n 0, 1) := by decide +kernel
theorem d_S_take_53 : decode b_S_take 53 = .ok (.getfield 29, 3) := by decide +kernel
theorem d_S_take_56 : decode b_S_take 56 = .ok (.getfield 49, 3) := by decide +kernel
theorem d_S_take_59 : decode b_S_take 59 = .ok (.iload_n 1, 1) := by decide +kernel
theorem d_S_take_60 : decode b_S_take 60 = .ok (.iaload, 1) := by decide +kernel
theorem d_S_take_61 : decode b_S_take 61 = .ok (.if_icmp .eq 13, 3) := by decide +kernel
theorem d_S_take_64 : decode b_S_take 64 = .ok (.aload_n 0, 1) := by decide +kernel
theorem d_S_take_65 : decode b_S_take 65 = .ok (.dup, 1) := by decide +kernel
theorem d_S_take_66 : decode b_S_take 66 = .ok (.getfield 26, 3) := by decide +kernel
theorem d_S_take_69 : decode b_S_take 69 = .ok (.iconst 1, 1) := by decide +kernel
theorem d_S_take_70 : decode b_S_take 70 = .ok (.isub, 1) := by decide +kernel
theorem d_S_take_71 : decode b_S_take 71 = .ok (.putfield 26, 3) := by decide +kernel
theorem d_S_take_74 : decode b_S_take 74 = .ok (.return_, 1) := by decide +kernel
theorem d_S_move_0 : decode b_S_move 0 = .ok (.aload_n 0, 1) := by decide +kernel
theorem d_S_move_1 : decode b_S_move 1 = .ok (.iload_n 1, 1) := by decide +kernel
theorem d_S_move_2 : decode b_S_move 2 = .ok (.invokevirtual 52, 3) := by decide +kernel
theorem d_S_move_5 : decode b_S_move 5 = .ok (.aload_n 0, 1) := by decide +kernel
theorem d_S_move_6 : decode b_S_move 6 = .ok (.iload_n 1, 1) := by decide +kernel
theorem d_S_move_7 : decode b_S_move 7 = .ok (.iload_n 2, 1) := by decide +kernel
theorem d_S_move_8 : decode b_S_move 8 = .ok (.invokevirtual 41, 3) := by decide +kernel
theorem d_S_move_11 : decode b_S_move 11 = .ok (.return_, 1) := by decide +kernel
theorem d_S_beginWith_0 : decode b_S_beginWith 0 = .ok (.aload_n 0, 1) := by decide +kernel
theorem d_S_beginWith_1 : decode b_S_beginWith 1 = .ok (.invokevirtual 38, 3) := by decide +kernel
theorem d_S_beginWith_4 : decode b_S_beginWith 4 = .ok (.iconst 0, 1) := by decide +kernel
theorem d_S_beginWith_5 : decode b_S_beginWith 5 = .ok (.istore_n 2, 1) := by decide +kernel
theorem d_S_beginWith_6 : decode b_S_beginWith 6 = .ok (.iload_n 2, 1) := by decide +kernel
theorem d_S_beginWith_7 : decode b_S_beginWith 7 = .ok (.aload_n 0, 1) := by decide +kernel
theorem d_S_beginWith_8 : decode b_S_beginWith 8 = .ok (.getfield 29, 3) := by decide +kernel
theorem d_S_beginWith_11 : decode b_S_beginWith 11 = .ok (.getfield 33, 3) := by decide +kernel
theorem d_S_beginWith_14 : decode b_S_beginWith 14 = .ok (.if_icmp .ge 23, 3) := by decide +kernel
theorem d_S_beginWith_17 : decode b_S_beginWith 17 = .ok (.iload_n 2, 1) := by decide +kernel
theorem d_S_beginWith_18 : decode b_S_beginWith 18 = .ok (.aload_n 1, 1) := by decide +kernel
theorem d_S_beginWith_19 : decode b_S_beginWith 19 = .ok (.arraylength, 1) := by decide +kernel
theorem d_S_beginWith_20 : decode b_S_beginWith 20 = .ok (.if_icmp .ge 17, 3) := by decide +kernel
theorem d_S_beginWith_23 : decode b_S_beginWith 23 = .ok (.aload_n 0, 1) := by decide +kernel
theorem d_S_beginWith_24 : decode b_S_beginWith 24 = .ok (.iload_n 2, 1) := by decide +kernel
theorem d_S_beginWith_25 : decode b_S_beginWith 25 = .ok (.aload_n 1, 1) := by decide +kernel
theorem d_S_beginWith_26 : decode b_S_beginWith 26 = .ok (.iload_n 2, 1) := by decide +kernel
theorem d_S_beginWith_27 : decode b_S_beginWith 27 = .ok (.iaload, 1) := by decide +kernel
theorem d_S_beginWith_28 : decode b_S_beginWith 28 = .ok (.invokevirtual 41, 3) := by decide +kernel
theorem d_S_beginWith_31 : decode b_S_beginWith 31 = .ok (.iinc 2 1, 3) := by decide +kernel
theorem d_S_beginWith_34 : decode b_S_beginWith 34 = .ok (.goto (-28), 3) := by decide +kernel
theorem d_S_beginWith_37 : decode b_S_beginWith 37 = .ok (.return_, 1) := by decide +kernel

theorem bz_put_R {t : bz_T} {s : bz_S} {a r c : Nat} (ha : a < bz_n t) (ho : s.2 a = true) (hc : c = bz_ch t (bz_pu s a r)) : bz_sR t (bz_pu s a r) = (upd (bz_sR t s).1 a (nI r), upd (bz_sR t s).2.1 r (bz_m (fun i => bz_in t s r i || decide (i = a))), vp_updL (bz_sR t s).2.2.1 r (lN (bz_ld t s r + bz_w t a r)), bz_m (fun i => bz_op t s i && !decide (i = a)), nI c) := by
  subst hc
  refine Prod.ext (funext fun i => ?_) (Prod.ext (funext fun q => ?_) (Prod.ext (funext fun q => ?_) (Prod.ext ?_ rfl)))
  · show nI (va_up s.1 a r i) = upd (fun a => nI (s.1 a)) a (nI r) i
    rw [bz_updI]
  · show bz_m (bz_in t (bz_pu s a r) q) = if q = r then _ else bz_m (bz_in t s q)
    rw [bz_in_pu ho]
    by_cases e : q = r
    · subst e
      rw [if_pos rfl]
      exact bz_ext fun i _ => by simp [ha]
    · rw [if_neg e]
      have e2 : ¬ r = q := fun z => e z.symm
      exact bz_ext fun i _ => by simp [e2]
  · show lN (bz_ld t (bz_pu s a r) q) = if q = r then _ else lN (bz_ld t s q)
    rw [bz_ld_pu ha ho]
    by_cases e : q = r
    · subst e
      rw [if_pos rfl, if_pos rfl]
    · rw [if_neg e, if_neg e]
  · show bz_m (bz_op t (bz_pu s a r)) = _
    rw [bz_op_pu]
theorem bz_take_R {t : bz_T} {s : bz_S} {a c : Nat} (ha : a < bz_n t) (ho : s.2 a = false) (hc : c = bz_ch t (bz_ta s a)) : bz_sR t (bz_ta s a) = ((bz_sR t s).1, upd (bz_sR t s).2.1 (s.1 a) (bz_m (fun i => bz_in t s (s.1 a) i && !decide (i = a))), vp_updL (bz_sR t s).2.2.1 (s.1 a) (lN (bz_ld t s (s.1 a) - bz_w t a (s.1 a))), bz_m (fun i => bz_op t s i || decide (i = a)), nI c) := by
  subst hc
  refine Prod.ext rfl (Prod.ext (funext fun q => ?_) (Prod.ext (funext fun q => ?_) (Prod.ext ?_ rfl)))
  · show bz_m (bz_in t (bz_ta s a) q) = if q = s.1 a then _ else bz_m (bz_in t s q)
    rw [bz_in_ta]
    by_cases e : q = s.1 a
    · subst e
      rw [if_pos rfl]
    · rw [if_neg e]
      refine bz_ext fun i _ => ?_
      by_cases e2 : i = a
      · subst e2
        have : bz_in t s q i = false := by
          unfold bz_in
          simp [ho]
          intro _ z
          exact e z.symm
        simp [this]
      · simp [e2]
  · show lN (bz_ld t (bz_ta s a) q) = if q = s.1 a then _ else lN (bz_ld t s q)
    have h := bz_ld_ta ha ho q
    by_cases e : q = s.1 a
    · rw [if_pos e] at h
      rw [if_pos e, ← e]
      congr 1
      omega
    · rw [if_neg e] at h
      rw [if_neg e]
      congr 1
      omega
  · show bz_m (bz_op t (bz_ta s a)) = _
    rw [bz_op_ta]
    exact bz_ext fun i _ => by simp [ha]
/-- the share whose first k areas are given -/
def bz_bg (f x : Nat → Nat) (k : Nat) : bz_S := (fun a => if a < k then f a else x a, fun a => decide (k ≤ a))
theorem bz_bg_0 (f x : Nat → Nat) : bz_bg f x 0 = (x, fun _ => true) := by
  refine Prod.ext (funext fun a => ?_) (funext fun a => ?_)
  · show (if a < 0 then f a else x a) = x a
    rw [if_neg (by omega)]
  · show decide (0 ≤ a) = true
    exact decide_eq_true (by omega)
theorem bz_bg_1 (f x : Nat → Nat) (k : Nat) : bz_pu (bz_bg f x k) k (f k) = bz_bg f x (k + 1) := by
  refine Prod.ext (funext fun a => ?_) (funext fun a => ?_)
  · show va_up _ k (f k) a = if a < k + 1 then f a else x a
    by_cases e : a = k
    · subst e
      rw [bz_up_s, if_pos (by omega)]
    · rw [bz_up_n _ _ e]
      show (if a < k then f a else x a) = _
      by_cases h : a < k
      · rw [if_pos h, if_pos (by omega)]
      · rw [if_neg h, if_neg (by omega)]
  · show va_up _ k false a = decide (k + 1 ≤ a)
    by_cases e : a = k
    · subst e
      rw [bz_up_s, decide_eq_false (by omega)]
    · rw [bz_up_n _ _ e]
      show decide (k ≤ a) = _
      exact decide_eq_decide.mpr (by omega)
theorem bz_clr_in (t : bz_T) (x : Nat → Nat) (r i : Nat) : bz_in t (x, fun _ => true) r i = false := by
  unfold bz_in
  simp
theorem bz_clr_ld (t : bz_T) (x : Nat → Nat) (r : Nat) : bz_ld t (x, fun _ => true) r = 0 := by
  unfold bz_ld
  have : ∀ n, bz_sm (fun a => if bz_in t (x, fun _ => true) r a then bz_w t a r else 0) n = 0 := by
    intro n
    induction n with
    | zero => rfl
    | succ n ih =>
      show bz_sm _ n + (if bz_in t (x, fun _ => true) r n then bz_w t n r else 0) = 0
      rw [ih, bz_clr_in]
      rfl
  exact this _
theorem bz_clr_ch (t : bz_T) (x : Nat → Nat) : bz_ch t (x, fun _ => true) = 0 := by
  unfold bz_ch
  have : ∀ n, bz_ct (fun a => !((x, fun _ => true) : bz_S).2 a && decide (((x, fun _ => true) : bz_S).1 a ≠ bz_d t a)) n = 0 := by
    intro n
    induction n with
    | zero => rfl
    | succ n ih => rw [bz_ct_0 (by simp), ih]
  exact this _
theorem bz_clr_op (t : bz_T) (x : Nat → Nat) : bz_m (fun i => decide (i < bz_n t)) = bz_m (bz_op t (x, fun _ => true)) := bz_ext fun i _ => by
  unfold bz_op
  simp

set_option maxHeartbeats 4000000 in
set_option maxRecDepth 100000 in
/-- Share.clear -/
theorem c_S_clear (l : Launch) (dC : Nat → ClassId) (dI : Nat → Nat → Nat) (sz : Nat) (ad : Nat → Nat) (cI cL : ClassId) (t : bz_T) (x : Nat → Nat) (A1 : Nat → Int32) (A2 : Nat → Int64) (o1 c1 : Int32) (L : (Nat → Int32) × Int64) (v : Int32) (ht : bz_ok t) : Met l y_S_clear w_S_clear ({ frames := 0, cells := 0, slots := 0, locals := 0 }) (bz_Pw (dC, dI) [(cI, .int), (cL, .long)] (bz_wB ad cI cL (bz_tR t) (fun a => nI (x a), A1, A2, o1, c1) L v) sz [.ref (ad 7)]) (bz_Qv (dC, dI) [(cI, .int), (cL, .long)] (va_A (bz_wB ad cI cL (bz_tR t) (fun a => nI (x a), A1, A2, o1, c1) L v) sz) (bz_wB ad cI cL (bz_tR t) (bz_sR t (x, fun _ => true)) L v)) 0 0 (va_A (bz_wB ad cI cL (bz_tR t) (fun a => nI (x a), A1, A2, o1, c1) L v) sz) := by
  refine Met.ofW (cc := b_S_clear) (maxL := 2) (ret := none) (by decide) rfl ?_
  intro p e s m args below meth c s₁ B hml hv
  obtain ⟨rfl, hsz, hP, hK, hD0, hN⟩ := hv
  have hx := B.exec
  have hb := B.bytes
  have hr := B.returns
  have hts := atoms_spec (ws := w_S_clear) B.pre
  have hown : s.vm.findClass R_S = some m.cls := findClass_of_methodNamed B.named
  have htb : ∀ w ∈ bz_tb, w.before _ s = true := fun w h => hts w (List.mem_cons_of_mem _ h)
  have hlocks := B.notSynchronized
  subst hsz
  have hD := hD0.self (sz := s.heap.size)
  generalize hAe : va_A (bz_wB ad cI cL (bz_tR t) (fun a => nI (x a), A1, A2, o1, c1) L v) s.heap.size = A at hD ⊢
  have hA : ∀ q : Nat, s.heap.size ≤ q → A q := fun q h => by rw [← hAe]; exact Or.inr h
  have hS : va_S A s.heap s.heap [] := va_S.rf
  have hl := lv_entry ([.ref (ad 7)]) (n := 2) (Nat.le_of_ble_eq_true rfl)
  rw [lg_entry_eq]
  generalize (lg_sl ([.ref (ad 7)]) ++ List.replicate (2 - (lg_sl ([.ref (ad 7)])).length) Slot.unset).toArray = ls at hl ⊢
  have hl : lv_has ls 2 [(0, .ref (ad 7))] := hl
  refine lv_aload_n hx hb d_S_clear_0 rfl (lv_at hl 0 rfl) ?_
  refine lv_iconst (v := 1) hx hb d_S_clear_1 (by decide) ?_
  refine lv_aload_n hx hb d_S_clear_2 rfl (lv_at hl 0 rfl) ?_
  refine va_get (D := (dC, dI)) (ci := 1) (v := .ref (ad 1)) (C := R_S) (T := F_S) (N := 6) hx hb htb in_S hown hK hP 7 rfl rfl 0 (by decide) (htb _ wd_79) (fun _ h9 => h9) rfl d_S_clear_3 ?_
  refine va_getN (D := (dC, dI)) (ci := 2) (v := .int (nI (bz_n t))) (C := R_T) (T := F_T) (N := 6) hx hb htb in_T hown hK hP 1 rfl rfl 5 (by decide) (va_Nw.use rfl (hN _ nd_56)) (fun _ h9 => h9) rfl d_S_clear_6 ?_
  refine lv_ishl hx hb d_S_clear_9 ?_
  refine lv_iconst (v := 1) hx hb d_S_clear_10 (by decide) ?_
  refine lv_isub hx hb d_S_clear_11 ?_
  refine bz_ri (y := bz_m (bz_op t (x, fun _ => true))) ((bz_all _ (by have := ht.1; omega)).trans (bz_clr_op t x)) ?_
  refine va_put (D := (dC, dI)) (ci := 1) (v := .int (bz_m (bz_op t (x, fun _ => true)))) (ty := .int) (C := R_S) (T := F_S) (N := 6) hx hb htb in_S tf_S tok_S n_S hown hK hP hD hS 7 rfl rfl 4 (by decide) (htb _ wd_86) (fun _ h9 => h9) rfl (by decide +kernel) rfl rfl (Nat.le_of_ble_eq_true rfl) d_S_clear_12 (fun H locs hP hD hS => ?_)
  have hP : va_P (dC, dI) vwCl (bz_wB ad cI cL (bz_tR t) ((fun a => nI (x a)), A1, A2, bz_m (bz_op t (x, fun _ => true)), c1) L v) H := hP
  have hD : va_D A (bz_wB ad cI cL (bz_tR t) ((fun a => nI (x a)), A1, A2, bz_m (bz_op t (x, fun _ => true)), c1) L v) := hD
  refine lv_aload_n hx hb d_S_clear_15 rfl (lv_at hl 0 rfl) ?_
  refine lv_iconst (v := 0) hx hb d_S_clear_16 (by decide) ?_
  refine bz_ri (y := nI (bz_ch t (x, fun _ => true))) (by rw [bz_clr_ch]; rfl) ?_
  refine va_put (D := (dC, dI)) (ci := 1) (v := .int (nI (bz_ch t (x, fun _ => true)))) (ty := .int) (C := R_S) (T := F_S) (N := 6) hx hb htb in_S tf_S tok_S n_S hown hK hP hD hS 7 rfl rfl 5 (by decide) (htb _ wd_87) (fun _ h9 => h9) rfl (by decide +kernel) rfl rfl (Nat.le_of_ble_eq_true rfl) d_S_clear_17 (fun H locs hP hD hS => ?_)
  have hP : va_P (dC, dI) vwCl (bz_wB ad cI cL (bz_tR t) ((fun a => nI (x a)), A1, A2, bz_m (bz_op t (x, fun _ => true)), nI (bz_ch t (x, fun _ => true))) L v) H := hP
  have hD : va_D A (bz_wB ad cI cL (bz_tR t) ((fun a => nI (x a)), A1, A2, bz_m (bz_op t (x, fun _ => true)), nI (bz_ch t (x, fun _ => true))) L v) := hD
  refine lv_iconst (v := nI 0) hx hb d_S_clear_20 (by decide) ?_
  refine lv_istore_n (lv' := [(1, .int (nI 0)), (0, .ref (ad 7))]) hx hb d_S_clear_21 rfl hl (by decide) rfl (fun ls hl => ?_)
  have e9 : (fun j => if j < 0 then 0 else A1 j) = A1 := funext fun j => by rw [if_neg (by omega)]
  have hP : va_P (dC, dI) vwCl (bz_wB ad cI cL (bz_tR t) ((fun a => nI (x a)), (fun j => if j < 0 then 0 else A1 j), A2, bz_m (bz_op t (x, fun _ => true)), nI (bz_ch t (x, fun _ => true))) L v) H := by rw [e9]; exact hP
  have hD : va_D A (bz_wB ad cI cL (bz_tR t) ((fun a => nI (x a)), (fun j => if j < 0 then 0 else A1 j), A2, bz_m (bz_op t (x, fun _ => true)), nI (bz_ch t (x, fun _ => true))) L v) := by rw [e9]; exact hD
  have e9 : (fun j => if j < 0 then 0 else A2 j) = A2 := funext fun j => by rw [if_neg (by omega)]
  have hP : va_P (dC, dI) vwCl (bz_wB ad cI cL (bz_tR t) ((fun a => nI (x a)), (fun j => if j < 0 then 0 else A1 j), (fun j => if j < 0 then 0 else A2 j), bz_m (bz_op t (x, fun _ => true)), nI (bz_ch t (x, fun _ => true))) L v) H := by rw [e9]; exact hP
  have hD : va_D A (bz_wB ad cI cL (bz_tR t) ((fun a => nI (x a)), (fun j => if j < 0 then 0 else A1 j), (fun j => if j < 0 then 0 else A2 j), bz_m (bz_op t (x, fun _ => true)), nI (bz_ch t (x, fun _ => true))) L v) := by rw [e9]; exact hD
  have lp : ∀ (k9 : Nat) (i : Nat), 4 - i < k9 → i ≤ 4 → ∀ (H : Heap) (locs : List Loc), va_P (dC, dI) vwCl (bz_wB ad cI cL (bz_tR t) ((fun a => nI (x a)), (fun j => if j < i then 0 else A1 j), (fun j => if j < i then 0 else A2 j), bz_m (bz_op t (x, fun _ => true)), nI (bz_ch t (x, fun _ => true))) L v) H → va_D A (bz_wB ad cI cL (bz_tR t) ((fun a => nI (x a)), (fun j => if j < i then 0 else A1 j), (fun j => if j < i then 0 else A2 j), bz_m (bz_op t (x, fun _ => true)), nI (bz_ch t (x, fun _ => true))) L v) → va_S A s.heap H locs → ∀ (ls : Array Slot), lv_has ls 2 [(0, .ref (ad 7)), (1, .int (nI i))] → W p l e (headSpec w_S_clear ({ frames := 0, cells := 0, slots := 0, locals := 0 })).room s m ([.ref (ad 7)]).toArray below meth c H locs 0 0 (MQ below (bz_Qv (dC, dI) [(cI, .int), (cL, .long)] A (bz_wB ad cI cL (bz_tR t) (bz_sR t (x, fun _ => true)) L v)) ([.ref (ad 7)]).toArray s 0 0 (A)) (F0 m 22 ls []) := by
    intro k9
    induction k9 with
    | zero =>
      intro i h9
      exact absurd h9 (Nat.not_lt_zero _)
    | succ k9 ihlp =>
      intro i h9_lp hi H locs hP hD hS ls hl
      refine lv_iload_n hx hb d_S_clear_22 rfl (lv_at hl 1 rfl) ?_
      refine lv_iconst (v := 4) hx hb d_S_clear_23 (by decide) ?_
      refine lv_icmp_ge (tgt := 47) hx hb d_S_clear_24 (by decide) (fun c_24 => ?_) (fun c_24 => ?_)
      · skip
        have hi4 : i = 4 := by have := (nI_leI (a := 4) (by omega) (by omega)).mp c_24; omega
        have hP := bz_P_set (q0 := 9) hP rfl (bz_arrI (g := fun r => bz_m (bz_in t (x, fun _ => true) r)) (fun j hj => by dsimp only; rw [if_pos (by omega), bz_zero]; exact bz_ext fun i _ => (bz_clr_in t x j i).symm))
        have hD := hD.set (p := 9) (e := .inl (cI, 4, .inl (fun r => bz_m (bz_in t (x, fun _ => true) r)))) rfl
        have hP := bz_P_set (q0 := 10) hP rfl (bz_arrL (g := fun r => lN (bz_ld t (x, fun _ => true) r)) (fun j hj => by dsimp only; rw [if_pos (by omega), bz_clr_ld]; rfl))
        have hD := hD.set (p := 10) (e := .inl (cL, 4, .inr (.inl (fun r => lN (bz_ld t (x, fun _ => true) r))))) rfl
        exact W.vret hx hb hr (fun t9 ht9 hW => ⟨⟨(), rfl, trivial, by rw [ht9]; exact hP, va_K.moved hW.alike hK, hD⟩, hS.F ht9⟩) hS.2.2 d_S_clear_47
      · skip
        have hi4 : i < 4 := Nat.lt_of_not_le fun z => c_24 ((nI_leI (a := 4) (b := i) (by omega) (by omega)).mpr z)
        refine lv_aload_n hx hb d_S_clear_27 rfl (lv_at hl 0 rfl) ?_
        refine va_get (D := (dC, dI)) (ci := 1) (v := .ref (ad 9)) (C := R_S) (T := F_S) (N := 6) hx hb htb in_S hown hK hP 7 rfl rfl 2 (by decide) (htb _ wd_84) (fun _ h9 => h9) rfl d_S_clear_28 ?_
        refine lv_iload_n hx hb d_S_clear_31 rfl (lv_at hl 1 rfl) ?_
        refine lv_iconst (v := 0) hx hb d_S_clear_32 (by decide) ?_
        refine bz_iast hx hb hK hP hD hS 9 0 rfl rfl (a9 := i) (by omega) (by decide) d_S_clear_33 (fun H locs hP hD hS => ?_)
        have hP : va_P (dC, dI) vwCl (bz_wB ad cI cL (bz_tR t) ((fun a => nI (x a)), (upd (fun j => if j < i then 0 else A1 j) i 0), (fun j => if j < i then 0 else A2 j), bz_m (bz_op t (x, fun _ => true)), nI (bz_ch t (x, fun _ => true))) L v) H := hP
        have hD : va_D A (bz_wB ad cI cL (bz_tR t) ((fun a => nI (x a)), (upd (fun j => if j < i then 0 else A1 j) i 0), (fun j => if j < i then 0 else A2 j), bz_m (bz_op t (x, fun _ => true)), nI (bz_ch t (x, fun _ => true))) L v) := hD
        have e9 : (fun j => if j < i + 1 then 0 else A1 j) = (upd (fun j => if j < i then 0 else A1 j) i 0) := funext fun j => by unfold upd; dsimp only; by_cases e : j = i; { rw [if_pos e, if_pos (by omega)] }; { rw [if_neg e]; by_cases h : j < i; { rw [if_pos h, if_pos (by omega)] }; { rw [if_neg h, if_neg (by omega)] } }
        have hP : va_P (dC, dI) vwCl (bz_wB ad cI cL (bz_tR t) ((fun a => nI (x a)), (fun j => if j < i + 1 then 0 else A1 j), (fun j => if j < i then 0 else A2 j), bz_m (bz_op t (x, fun _ => true)), nI (bz_ch t (x, fun _ => true))) L v) H := by rw [e9]; exact hP
        have hD : va_D A (bz_wB ad cI cL (bz_tR t) ((fun a => nI (x a)), (fun j => if j < i + 1 then 0 else A1 j), (fun j => if j < i then 0 else A2 j), bz_m (bz_op t (x, fun _ => true)), nI (bz_ch t (x, fun _ => true))) L v) := by rw [e9]; exact hD
        refine lv_aload_n hx hb d_S_clear_34 rfl (lv_at hl 0 rfl) ?_
        refine va_get (D := (dC, dI)) (ci := 1) (v := .ref (ad 10)) (C := R_S) (T := F_S) (N := 6) hx hb htb in_S hown hK hP 7 rfl rfl 3 (by decide) (htb _ wd_85) (fun _ h9 => h9) rfl d_S_clear_35 ?_
        refine lv_iload_n hx hb d_S_clear_38 rfl (lv_at hl 1 rfl) ?_
        refine lv_lconst (v := 0) hx hb d_S_clear_39 (by decide) ?_
        refine bz_last hx hb hK hP hD hS 10 1 rfl rfl (a9 := i) (by omega) (by decide) d_S_clear_40 (fun H locs hP hD hS => ?_)
        have hP : va_P (dC, dI) vwCl (bz_wB ad cI cL (bz_tR t) ((fun a => nI (x a)), (fun j => if j < i + 1 then 0 else A1 j), (vp_updL (fun j => if j < i then 0 else A2 j) i 0), bz_m (bz_op t (x, fun _ => true)), nI (bz_ch t (x, fun _ => true))) L v) H := hP
        have hD : va_D A (bz_wB ad cI cL (bz_tR t) ((fun a => nI (x a)), (fun j => if j < i + 1 then 0 else A1 j), (vp_updL (fun j => if j < i then 0 else A2 j) i 0), bz_m (bz_op t (x, fun _ => true)), nI (bz_ch t (x, fun _ => true))) L v) := hD
        have e9 : (fun j => if j < i + 1 then 0 else A2 j) = (vp_updL (fun j => if j < i then 0 else A2 j) i 0) := funext fun j => by unfold vp_updL; dsimp only; by_cases e : j = i; { rw [if_pos e, if_pos (by omega)] }; { rw [if_neg e]; by_cases h : j < i; { rw [if_pos h, if_pos (by omega)] }; { rw [if_neg h, if_neg (by omega)] } }
        have hP : va_P (dC, dI) vwCl (bz_wB ad cI cL (bz_tR t) ((fun a => nI (x a)), (fun j => if j < i + 1 then 0 else A1 j), (fun j => if j < i + 1 then 0 else A2 j), bz_m (bz_op t (x, fun _ => true)), nI (bz_ch t (x, fun _ => true))) L v) H := by rw [e9]; exact hP
        have hD : va_D A (bz_wB ad cI cL (bz_tR t) ((fun a => nI (x a)), (fun j => if j < i + 1 then 0 else A1 j), (fun j => if j < i + 1 then 0 else A2 j), bz_m (bz_op t (x, fun _ => true)), nI (bz_ch t (x, fun _ => true))) L v) := by rw [e9]; exact hD
        refine lv_iinc (v := nI (i + 1)) (lv' := [(1, .int (nI (i + 1))), (0, .ref (ad 7))]) hx hb d_S_clear_41 hl (k := 1) rfl (nI_1 _) (by decide) rfl (fun ls hl => ?_)
        refine lv_goto (tgt := 22) hx hb d_S_clear_44 (by decide) ?_
        exact ihlp (i + 1) (by omega) (by omega) H locs hP hD hS ls (lv_sub hl [1, 0] rfl)
  exact lp _ 0 (Nat.lt_succ_self _) (by omega) H locs hP hD hS ls (lv_sub hl [1, 0] rfl)

set_option maxHeartbeats 4000000 in
set_option maxRecDepth 100000 in
/-- Share.put -/
theorem c_S_put (l : Launch) (dC : Nat → ClassId) (dI : Nat → Nat → Nat) (sz : Nat) (ad : Nat → Nat) (cI cL : ClassId) (t : bz_T) (s2 : bz_S) (L : (Nat → Int32) × Int64) (v : Int32) (ht : bz_ok t) (a r : Nat) (ha : a < bz_n t) (hr4 : r < 4) (ho : s2.2 a = true) : Met l y_S_put w_S_put ({ frames := 2, cells := 0, slots := 0, locals := 44 }) (bz_Pw (dC, dI) [(cI, .int), (cL, .long)] (bz_wB ad cI cL (bz_tR t) (bz_sR t s2) L v) sz [.ref (ad 7), .int (nI a), .int (nI r)]) (bz_Qv (dC, dI) [(cI, .int), (cL, .long)] (va_A (bz_wB ad cI cL (bz_tR t) (bz_sR t s2) L v) sz) (bz_wB ad cI cL (bz_tR t) (bz_sR t (bz_pu s2 a r)) L v)) 0 0 (va_A (bz_wB ad cI cL (bz_tR t) (bz_sR t s2) L v) sz) := by
  refine Met.ofW (cc := b_S_put) (maxL := 3) (ret := none) (by decide) rfl ?_
  intro p e s m args below meth c s₁ B hml hv
  obtain ⟨rfl, hsz, hP, hK, hD0, hN⟩ := hv
  have hx := B.exec
  have hb := B.bytes
  have hr := B.returns
  have hts := atoms_spec (ws := w_S_put) B.pre
  have hown : s.vm.findClass R_S = some m.cls := findClass_of_methodNamed B.named
  have htb : ∀ w ∈ bz_tb, w.before _ s = true := fun w h => hts w (List.mem_cons_of_mem _ h)
  have hlocks := B.notSynchronized
  subst hsz
  have hD := hD0.self (sz := s.heap.size)
  generalize hAe : va_A (bz_wB ad cI cL (bz_tR t) (bz_sR t s2) L v) s.heap.size = A at hD ⊢
  have hA : ∀ q : Nat, s.heap.size ≤ q → A q := fun q h => by rw [← hAe]; exact Or.inr h
  have hS : va_S A s.heap s.heap [] := va_S.rf
  have hl := lv_entry ([.ref (ad 7), .int (nI a), .int (nI r)]) (n := 3) (Nat.le_of_ble_eq_true rfl)
  rw [lg_entry_eq]
  generalize (lg_sl ([.ref (ad 7), .int (nI a), .int (nI r)]) ++ List.replicate (3 - (lg_sl ([.ref (ad 7), .int (nI a), .int (nI r)])).length) Slot.unset).toArray = ls at hl ⊢
  have hl : lv_has ls 3 [(0, .ref (ad 7)), (1, .int (nI a)), (2, .int (nI r))] := hl
  have hn30 := ht.1
  have hda := ht.2.2.1 a
  refine lv_aload_n hx hb d_S_put_0 rfl (lv_at hl 0 rfl) ?_
  refine va_get (D := (dC, dI)) (ci := 1) (v := .ref (ad 8)) (C := R_S) (T := F_S) (N := 6) hx hb htb in_S hown hK hP 7 rfl rfl 1 (by decide) (htb _ wd_81) (fun _ h9 => h9) rfl d_S_put_1 ?_
  refine lv_iload_n hx hb d_S_put_4 rfl (lv_at hl 1 rfl) ?_
  refine lv_iload_n hx hb d_S_put_5 rfl (lv_at hl 2 rfl) ?_
  refine bz_iast hx hb hK hP hD hS 8 0 rfl rfl (a9 := a) (by omega) (by decide) d_S_put_6 (fun H locs hP hD hS => ?_)
  have hP : va_P (dC, dI) vwCl (bz_wB ad cI cL (bz_tR t) ((upd ((bz_sR t s2).1) a (nI r)), (bz_sR t s2).2.1, (bz_sR t s2).2.2.1, bz_m (bz_op t s2), nI (bz_ch t s2)) L v) H := hP
  have hD : va_D A (bz_wB ad cI cL (bz_tR t) ((upd ((bz_sR t s2).1) a (nI r)), (bz_sR t s2).2.1, (bz_sR t s2).2.2.1, bz_m (bz_op t s2), nI (bz_ch t s2)) L v) := hD
  refine lv_aload_n hx hb d_S_put_7 rfl (lv_at hl 0 rfl) ?_
  refine lv_dup hx hb d_S_put_8 rfl ?_
  refine va_get (D := (dC, dI)) (ci := 1) (v := .int (bz_m (bz_op t s2))) (C := R_S) (T := F_S) (N := 6) hx hb htb in_S hown hK hP 7 rfl rfl 4 (by decide) (htb _ wd_86) (fun _ h9 => h9) rfl d_S_put_9 ?_
  refine lv_iconst (v := 1) hx hb d_S_put_12 (by decide) ?_
  refine lv_iload_n hx hb d_S_put_13 rfl (lv_at hl 1 rfl) ?_
  refine lv_ishl hx hb d_S_put_14 ?_
  refine bz_ri (y := bz_m (fun i => decide (i = a))) (bz_one (by have := ht.1; omega)) ?_
  refine lv_iconst (v := (-1)) hx hb d_S_put_15 (by decide) ?_
  refine lv_ixor hx hb d_S_put_16 ?_
  refine bz_ri (y := bz_m (fun i => !decide (i = a))) (bz_not _) ?_
  refine lv_iand hx hb d_S_put_17 ?_
  refine bz_ri (y := bz_m (fun i => bz_op t s2 i && !decide (i = a))) (bz_and _ _) ?_
  refine va_put (D := (dC, dI)) (ci := 1) (v := .int (bz_m (fun i => bz_op t s2 i && !decide (i = a)))) (ty := .int) (C := R_S) (T := F_S) (N := 6) hx hb htb in_S tf_S tok_S n_S hown hK hP hD hS 7 rfl rfl 4 (by decide) (htb _ wd_86) (fun _ h9 => h9) rfl (by decide +kernel) rfl rfl (Nat.le_of_ble_eq_true rfl) d_S_put_18 (fun H locs hP hD hS => ?_)
  have hP : va_P (dC, dI) vwCl (bz_wB ad cI cL (bz_tR t) ((upd ((bz_sR t s2).1) a (nI r)), (bz_sR t s2).2.1, (bz_sR t s2).2.2.1, bz_m (fun i => bz_op t s2 i && !decide (i = a)), nI (bz_ch t s2)) L v) H := hP
  have hD : va_D A (bz_wB ad cI cL (bz_tR t) ((upd ((bz_sR t s2).1) a (nI r)), (bz_sR t s2).2.1, (bz_sR t s2).2.2.1, bz_m (fun i => bz_op t s2 i && !decide (i = a)), nI (bz_ch t s2)) L v) := hD
  refine lv_aload_n hx hb d_S_put_21 rfl (lv_at hl 0 rfl) ?_
  refine va_get (D := (dC, dI)) (ci := 1) (v := .ref (ad 9)) (C := R_S) (T := F_S) (N := 6) hx hb htb in_S hown hK hP 7 rfl rfl 2 (by decide) (htb _ wd_84) (fun _ h9 => h9) rfl d_S_put_22 ?_
  refine lv_iload_n hx hb d_S_put_25 rfl (lv_at hl 2 rfl) ?_
  refine lv_dup2_11 hx hb d_S_put_26 rfl rfl ?_
  refine bz_iald (v := bz_m (bz_in t s2 r)) hx hb hK hP 9 0 rfl rfl (a9 := r) (by omega) (by decide) (rfl) d_S_put_27 ?_
  refine lv_iconst (v := 1) hx hb d_S_put_28 (by decide) ?_
  refine lv_iload_n hx hb d_S_put_29 rfl (lv_at hl 1 rfl) ?_
  refine lv_ishl hx hb d_S_put_30 ?_
  refine bz_ri (y := bz_m (fun i => decide (i = a))) (bz_one (by have := ht.1; omega)) ?_
  refine lv_ior hx hb d_S_put_31 ?_
  refine bz_ri (y := bz_m (fun i => bz_in t s2 r i || decide (i = a))) (bz_or _ _) ?_
  refine bz_iast hx hb hK hP hD hS 9 0 rfl rfl (a9 := r) (by omega) (by decide) d_S_put_32 (fun H locs hP hD hS => ?_)
  have hP : va_P (dC, dI) vwCl (bz_wB ad cI cL (bz_tR t) ((upd ((bz_sR t s2).1) a (nI r)), (upd ((bz_sR t s2).2.1) r (bz_m (fun i => bz_in t s2 r i || decide (i = a)))), (bz_sR t s2).2.2.1, bz_m (fun i => bz_op t s2 i && !decide (i = a)), nI (bz_ch t s2)) L v) H := hP
  have hD : va_D A (bz_wB ad cI cL (bz_tR t) ((upd ((bz_sR t s2).1) a (nI r)), (upd ((bz_sR t s2).2.1) r (bz_m (fun i => bz_in t s2 r i || decide (i = a)))), (bz_sR t s2).2.2.1, bz_m (fun i => bz_op t s2 i && !decide (i = a)), nI (bz_ch t s2)) L v) := hD
  refine lv_aload_n hx hb d_S_put_33 rfl (lv_at hl 0 rfl) ?_
  refine va_get (D := (dC, dI)) (ci := 1) (v := .ref (ad 10)) (C := R_S) (T := F_S) (N := 6) hx hb htb in_S hown hK hP 7 rfl rfl 3 (by decide) (htb _ wd_85) (fun _ h9 => h9) rfl d_S_put_34 ?_
  refine lv_iload_n hx hb d_S_put_37 rfl (lv_at hl 2 rfl) ?_
  refine lv_dup2_11 hx hb d_S_put_38 rfl rfl ?_
  refine bz_lald (v := lN (bz_ld t s2 r)) hx hb hK hP 10 1 rfl rfl (a9 := r) (by omega) (by decide) (rfl) d_S_put_39 ?_
  refine lv_aload_n hx hb d_S_put_40 rfl (lv_at hl 0 rfl) ?_
  refine va_get (D := (dC, dI)) (ci := 1) (v := .ref (ad 1)) (C := R_S) (T := F_S) (N := 6) hx hb htb in_S hown hK hP 7 rfl rfl 0 (by decide) (htb _ wd_79) (fun _ h9 => h9) rfl d_S_put_41 ?_
  refine lv_iload_n hx hb d_S_put_44 rfl (lv_at hl 1 rfl) ?_
  refine lv_iload_n hx hb d_S_put_45 rfl (lv_at hl 2 rfl) ?_
  refine bz_sl (va_runV (As := [.int (nI a), .int (nI r)]) (rest := [.long (lN (bz_ld t s2 r)), .int (nI r), .ref (ad 10)]) ⟨hx, hb, hml, hown, htb⟩ (c_T_loadIn l dC dI ad cI cL t ((upd ((bz_sR t s2).1) a (nI r)), (upd ((bz_sR t s2).2.1) r (bz_m (fun i => bz_in t s2 r i || decide (i = a)))), (bz_sR t s2).2.2.1, bz_m (fun i => bz_op t s2 i && !decide (i = a)), nI (bz_ch t s2)) L v ht _ _ (by omega) (by omega)) (cwV 2 htb (bz_gV wd_204 wd_201 wd_202 wd_203 wd_20) rfl rfl rfl (by decide +kernel) ⟨Nat.le_of_ble_eq_true rfl, Nat.le_of_ble_eq_true rfl⟩) (bz_rv hN hK hP (q0 := 1) rfl rfl) rfl rfl hl.1 rfl (lv_room (Nat.le_of_ble_eq_true rfl)) d_S_put_46 ⟨Nat.zero_le _, Nat.zero_le _⟩) ?_
  refine lv_ladd hx hb d_S_put_49 ?_
  refine bz_rl (y := lN (bz_ld t s2 r + bz_w t a r)) (lN_add _ _) ?_
  refine bz_last hx hb hK hP hD hS 10 1 rfl rfl (a9 := r) (by omega) (by decide) d_S_put_50 (fun H locs hP hD hS => ?_)
  have hP : va_P (dC, dI) vwCl (bz_wB ad cI cL (bz_tR t) ((upd ((bz_sR t s2).1) a (nI r)), (upd ((bz_sR t s2).2.1) r (bz_m (fun i => bz_in t s2 r i || decide (i = a)))), (vp_updL ((bz_sR t s2).2.2.1) r (lN (bz_ld t s2 r + bz_w t a r))), bz_m (fun i => bz_op t s2 i && !decide (i = a)), nI (bz_ch t s2)) L v) H := hP
  have hD : va_D A (bz_wB ad cI cL (bz_tR t) ((upd ((bz_sR t s2).1) a (nI r)), (upd ((bz_sR t s2).2.1) r (bz_m (fun i => bz_in t s2 r i || decide (i = a)))), (vp_updL ((bz_sR t s2).2.2.1) r (lN (bz_ld t s2 r + bz_w t a r))), bz_m (fun i => bz_op t s2 i && !decide (i = a)), nI (bz_ch t s2)) L v) := hD
  refine lv_iload_n hx hb d_S_put_51 rfl (lv_at hl 2 rfl) ?_
  refine lv_aload_n hx hb d_S_put_52 rfl (lv_at hl 0 rfl) ?_
  refine va_get (D := (dC, dI)) (ci := 1) (v := .ref (ad 1)) (C := R_S) (T := F_S) (N := 6) hx hb htb in_S hown hK hP 7 rfl rfl 0 (by decide) (htb _ wd_79) (fun _ h9 => h9) rfl d_S_put_53 ?_
  refine va_getN (D := (dC, dI)) (ci := 2) (v := .ref (ad 3)) (C := R_T) (T := F_T) (N := 6) hx hb htb in_T hown hK hP 1 rfl rfl 1 (by decide) (va_Nw.use rfl (hN _ nd_48)) (fun _ h9 => h9) rfl d_S_put_56 ?_
  refine lv_iload_n hx hb d_S_put_59 rfl (lv_at hl 1 rfl) ?_
  refine bz_iald (v := nI (bz_d t a)) hx hb hK hP 3 0 rfl rfl (a9 := a) (by omega) (by decide) (rfl) d_S_put_60 ?_
  refine lv_icmp_eq (tgt := 74) hx hb d_S_put_61 (by decide) (fun c_61 => ?_) (fun c_61 => ?_)
  · skip
    have c_61 := (nI_eq (by omega) (by omega)).mp c_61
    have e9 : bz_sR t (bz_pu s2 a r) = ((upd ((bz_sR t s2).1) a (nI r)), (upd ((bz_sR t s2).2.1) r (bz_m (fun i => bz_in t s2 r i || decide (i = a)))), (vp_updL ((bz_sR t s2).2.2.1) r (lN (bz_ld t s2 r + bz_w t a r))), bz_m (fun i => bz_op t s2 i && !decide (i = a)), nI (bz_ch t s2)) := bz_put_R ha ho (by rw [bz_ch_pu ha ho, if_pos c_61])
    have hP : va_P (dC, dI) vwCl (bz_wB ad cI cL (bz_tR t) (bz_sR t (bz_pu s2 a r)) L v) H := by rw [e9]; exact hP
    have hD : va_D A (bz_wB ad cI cL (bz_tR t) (bz_sR t (bz_pu s2 a r)) L v) := by rw [e9]; exact hD
    exact W.vret hx hb hr (fun t9 ht9 hW => ⟨⟨(), rfl, trivial, by rw [ht9]; exact hP, va_K.moved hW.alike hK, hD⟩, hS.F ht9⟩) hS.2.2 d_S_put_74
  · skip
    have c_61 : ¬ r = bz_d t a := fun z => c_61 ((nI_eq (by omega) (by omega)).mpr z)
    refine lv_aload_n hx hb d_S_put_64 rfl (lv_at hl 0 rfl) ?_
    refine lv_dup hx hb d_S_put_65 rfl ?_
    refine va_get (D := (dC, dI)) (ci := 1) (v := .int (nI (bz_ch t s2))) (C := R_S) (T := F_S) (N := 6) hx hb htb in_S hown hK hP 7 rfl rfl 5 (by decide) (htb _ wd_87) (fun _ h9 => h9) rfl d_S_put_66 ?_
    refine lv_iconst (v := 1) hx hb d_S_put_69 (by decide) ?_
    refine lv_iadd hx hb d_S_put_70 ?_
    refine bz_ri (y := nI (bz_ch t s2 + 1)) (nI_1 _) ?_
    refine va_put (D := (dC, dI)) (ci := 1) (v := .int (nI (bz_ch t s2 + 1))) (ty := .int) (C := R_S) (T := F_S) (N := 6) hx hb htb in_S tf_S tok_S n_S hown hK hP hD hS 7 rfl rfl 5 (by decide) (htb _ wd_87) (fun _ h9 => h9) rfl (by decide +kernel) rfl rfl (Nat.le_of_ble_eq_true rfl) d_S_put_71 (fun H locs hP hD hS => ?_)
    have hP : va_P (dC, dI) vwCl (bz_wB ad cI cL (bz_tR t) ((upd ((bz_sR t s2).1) a (nI r)), (upd ((bz_sR t s2).2.1) r (bz_m (fun i => bz_in t s2 r i || decide (i = a)))), (vp_updL ((bz_sR t s2).2.2.1) r (lN (bz_ld t s2 r + bz_w t a r))), bz_m (fun i => bz_op t s2 i && !decide (i = a)), nI (bz_ch t s2 + 1)) L v) H := hP
    have hD : va_D A (bz_wB ad cI cL (bz_tR t) ((upd ((bz_sR t s2).1) a (nI r)), (upd ((bz_sR t s2).2.1) r (bz_m (fun i => bz_in t s2 r i || decide (i = a)))), (vp_updL ((bz_sR t s2).2.2.1) r (lN (bz_ld t s2 r + bz_w t a r))), bz_m (fun i => bz_op t s2 i && !decide (i = a)), nI (bz_ch t s2 + 1)) L v) := hD
    have e9 : bz_sR t (bz_pu s2 a r) = ((upd ((bz_sR t s2).1) a (nI r)), (upd ((bz_sR t s2).2.1) r (bz_m (fun i => bz_in t s2 r i || decide (i = a)))), (vp_updL ((bz_sR t s2).2.2.1) r (lN (bz_ld t s2 r + bz_w t a r))), bz_m (fun i => bz_op t s2 i && !decide (i = a)), nI (bz_ch t s2 + 1)) := bz_put_R ha ho (by rw [bz_ch_pu ha ho, if_neg c_61])
    have hP : va_P (dC, dI) vwCl (bz_wB ad cI cL (bz_tR t) (bz_sR t (bz_pu s2 a r)) L v) H := by rw [e9]; exact hP
    have hD : va_D A (bz_wB ad cI cL (bz_tR t) (bz_sR t (bz_pu s2 a r)) L v) := by rw [e9]; exact hD
    exact W.vret hx hb hr (fun t9 ht9 hW => ⟨⟨(), rfl, trivial, by rw [ht9]; exact hP, va_K.moved hW.alike hK, hD⟩, hS.F ht9⟩) hS.2.2 d_S_put_74

set_option maxHeartbeats 4000000 in
set_option maxRecDepth 100000 in
/-- Share.take -/
theorem c_S_take (l : Launch) (dC : Nat → ClassId) (dI : Nat → Nat → Nat) (sz : Nat) (ad : Nat → Nat) (cI cL : ClassId) (t : bz_T) (s2 : bz_S) (L : (Nat → Int32) × Int64) (v : Int32) (ht : bz_ok t) (a : Nat) (ha : a < bz_n t) (hr4 : s2.1 a < 4) (ho : s2.2 a = false) : Met l y_S_take w_S_take ({ frames := 2, cells := 0, slots := 0, locals := 44 }) (bz_Pw (dC, dI) [(cI, .int), (cL, .long)] (bz_wB ad cI cL (bz_tR t) (bz_sR t s2) L v) sz [.ref (ad 7), .int (nI a)]) (bz_Qv (dC, dI) [(cI, .int), (cL, .long)] (va_A (bz_wB ad cI cL (bz_tR t) (bz_sR t s2) L v) sz) (bz_wB ad cI cL (bz_tR t) (bz_sR t (bz_ta s2 a)) L v)) 0 0 (va_A (bz_wB ad cI cL (bz_tR t) (bz_sR t s2) L v) sz) := by
  refine Met.ofW (cc := b_S_take) (maxL := 3) (ret := none) (by decide) rfl ?_
  intro p e s m args below meth c s₁ B hml hv
  obtain ⟨rfl, hsz, hP, hK, hD0, hN⟩ := hv
  have hx := B.exec
  have hb := B.bytes
  have hr := B.returns
  have hts := atoms_spec (ws := w_S_take) B.pre
  have hown : s.vm.findClass R_S = some m.cls := findClass_of_methodNamed B.named
  have htb : ∀ w ∈ bz_tb, w.before _ s = true := fun w h => hts w (List.mem_cons_of_mem _ h)
  have hlocks := B.notSynchronized
  subst hsz
  have hD := hD0.self (sz := s.heap.size)
  generalize hAe : va_A (bz_wB ad cI cL (bz_tR t) (bz_sR t s2) L v) s.heap.size = A at hD ⊢
  have hA : ∀ q : Nat, s.heap.size ≤ q → A q := fun q h => by rw [← hAe]; exact Or.inr h
  have hS : va_S A s.heap s.heap [] := va_S.rf
  have hl := lv_entry ([.ref (ad 7), .int (nI a)]) (n := 3) (Nat.le_of_ble_eq_true rfl)
  rw [lg_entry_eq]
  generalize (lg_sl ([.ref (ad 7), .int (nI a)]) ++ List.replicate (3 - (lg_sl ([.ref (ad 7), .int (nI a)])).length) Slot.unset).toArray = ls at hl ⊢
  have hl : lv_has ls 3 [(0, .ref (ad 7)), (1, .int (nI a))] := hl
  have hn30 := ht.1
  have hda := ht.2.2.1 a
  refine lv_aload_n hx hb d_S_take_0 rfl (lv_at hl 0 rfl) ?_
  refine va_get (D := (dC, dI)) (ci := 1) (v := .ref (ad 8)) (C := R_S) (T := F_S) (N := 6) hx hb htb in_S hown hK hP 7 rfl rfl 1 (by decide) (htb _ wd_81) (fun _ h9 => h9) rfl d_S_take_1 ?_
  refine lv_iload_n hx hb d_S_take_4 rfl (lv_at hl 1 rfl) ?_
  refine bz_iald (v := nI (s2.1 a)) hx hb hK hP 8 0 rfl rfl (a9 := a) (by omega) (by decide) (rfl) d_S_take_5 ?_
  refine lv_istore_n (lv' := [(2, .int (nI (s2.1 a))), (0, .ref (ad 7)), (1, .int (nI a))]) hx hb d_S_take_6 rfl hl (by decide) rfl (fun ls hl => ?_)
  refine lv_aload_n hx hb d_S_take_7 rfl (lv_at hl 1 rfl) ?_
  refine lv_dup hx hb d_S_take_8 rfl ?_
  refine va_get (D := (dC, dI)) (ci := 1) (v := .int (bz_m (bz_op t s2))) (C := R_S) (T := F_S) (N := 6) hx hb htb in_S hown hK hP 7 rfl rfl 4 (by decide) (htb _ wd_86) (fun _ h9 => h9) rfl d_S_take_9 ?_
  refine lv_iconst (v := 1) hx hb d_S_take_12 (by decide) ?_
  refine lv_iload_n hx hb d_S_take_13 rfl (lv_at hl 2 rfl) ?_
  refine lv_ishl hx hb d_S_take_14 ?_
  refine bz_ri (y := bz_m (fun i => decide (i = a))) (bz_one (by have := ht.1; omega)) ?_
  refine lv_ior hx hb d_S_take_15 ?_
  refine bz_ri (y := bz_m (fun i => bz_op t s2 i || decide (i = a))) (bz_or _ _) ?_
  refine va_put (D := (dC, dI)) (ci := 1) (v := .int (bz_m (fun i => bz_op t s2 i || decide (i = a)))) (ty := .int) (C := R_S) (T := F_S) (N := 6) hx hb htb in_S tf_S tok_S n_S hown hK hP hD hS 7 rfl rfl 4 (by decide) (htb _ wd_86) (fun _ h9 => h9) rfl (by decide +kernel) rfl rfl (Nat.le_of_ble_eq_true rfl) d_S_take_16 (fun H locs hP hD hS => ?_)
  have hP : va_P (dC, dI) vwCl (bz_wB ad cI cL (bz_tR t) ((bz_sR t s2).1, (bz_sR t s2).2.1, (bz_sR t s2).2.2.1, bz_m (fun i => bz_op t s2 i || decide (i = a)), nI (bz_ch t s2)) L v) H := hP
  have hD : va_D A (bz_wB ad cI cL (bz_tR t) ((bz_sR t s2).1, (bz_sR t s2).2.1, (bz_sR t s2).2.2.1, bz_m (fun i => bz_op t s2 i || decide (i = a)), nI (bz_ch t s2)) L v) := hD
  refine lv_aload_n hx hb d_S_take_19 rfl (lv_at hl 1 rfl) ?_
  refine va_get (D := (dC, dI)) (ci := 1) (v := .ref (ad 9)) (C := R_S) (T := F_S) (N := 6) hx hb htb in_S hown hK hP 7 rfl rfl 2 (by decide) (htb _ wd_84) (fun _ h9 => h9) rfl d_S_take_20 ?_
  refine lv_iload_n hx hb d_S_take_23 rfl (lv_at hl 0 rfl) ?_
  refine lv_dup2_11 hx hb d_S_take_24 rfl rfl ?_
  refine bz_iald (v := bz_m (bz_in t s2 (s2.1 a))) hx hb hK hP 9 0 rfl rfl (a9 := (s2.1 a)) (by omega) (by decide) (rfl) d_S_take_25 ?_
  refine lv_iconst (v := 1) hx hb d_S_take_26 (by decide) ?_
  refine lv_iload_n hx hb d_S_take_27 rfl (lv_at hl 2 rfl) ?_
  refine lv_ishl hx hb d_S_take_28 ?_
  refine bz_ri (y := bz_m (fun i => decide (i = a))) (bz_one (by have := ht.1; omega)) ?_
  refine lv_iconst (v := (-1)) hx hb d_S_take_29 (by decide) ?_
  refine lv_ixor hx hb d_S_take_30 ?_
  refine bz_ri (y := bz_m (fun i => !decide (i = a))) (bz_not _) ?_
  refine lv_iand hx hb d_S_take_31 ?_
  refine bz_ri (y := bz_m (fun i => bz_in t s2 (s2.1 a) i && !decide (i = a))) (bz_and _ _) ?_
  refine bz_iast hx hb hK hP hD hS 9 0 rfl rfl (a9 := (s2.1 a)) (by omega) (by decide) d_S_take_32 (fun H locs hP hD hS => ?_)
  have hP : va_P (dC, dI) vwCl (bz_wB ad cI cL (bz_tR t) ((bz_sR t s2).1, (upd ((bz_sR t s2).2.1) (s2.1 a) (bz_m (fun i => bz_in t s2 (s2.1 a) i && !decide (i = a)))), (bz_sR t s2).2.2.1, bz_m (fun i => bz_op t s2 i || decide (i = a)), nI (bz_ch t s2)) L v) H := hP
  have hD : va_D A (bz_wB ad cI cL (bz_tR t) ((bz_sR t s2).1, (upd ((bz_sR t s2).2.1) (s2.1 a) (bz_m (fun i => bz_in t s2 (s2.1 a) i && !decide (i = a)))), (bz_sR t s2).2.2.1, bz_m (fun i => bz_op t s2 i || decide (i = a)), nI (bz_ch t s2)) L v) := hD
  refine lv_aload_n hx hb d_S_take_33 rfl (lv_at hl 1 rfl) ?_
  refine va_get (D := (dC, dI)) (ci := 1) (v := .ref (ad 10)) (C := R_S) (T := F_S) (N := 6) hx hb htb in_S hown hK hP 7 rfl rfl 3 (by decide) (htb _ wd_85) (fun _ h9 => h9) rfl d_S_take_34 ?_
  refine lv_iload_n hx hb d_S_take_37 rfl (lv_at hl 0 rfl) ?_
  refine lv_dup2_11 hx hb d_S_take_38 rfl rfl ?_
  refine bz_lald (v := lN (bz_ld t s2 (s2.1 a))) hx hb hK hP 10 1 rfl rfl (a9 := (s2.1 a)) (by omega) (by decide) (rfl) d_S_take_39 ?_
  refine lv_aload_n hx hb d_S_take_40 rfl (lv_at hl 1 rfl) ?_
  refine va_get (D := (dC, dI)) (ci := 1) (v := .ref (ad 1)) (C := R_S) (T := F_S) (N := 6) hx hb htb in_S hown hK hP 7 rfl rfl 0 (by decide) (htb _ wd_79) (fun _ h9 => h9) rfl d_S_take_41 ?_
  refine lv_iload_n hx hb d_S_take_44 rfl (lv_at hl 2 rfl) ?_
  refine lv_iload_n hx hb d_S_take_45 rfl (lv_at hl 0 rfl) ?_
  refine bz_sl (va_runV (As := [.int (nI a), .int (nI (s2.1 a))]) (rest := [.long (lN (bz_ld t s2 (s2.1 a))), .int (nI (s2.1 a)), .ref (ad 10)]) ⟨hx, hb, hml, hown, htb⟩ (c_T_loadIn l dC dI ad cI cL t ((bz_sR t s2).1, (upd ((bz_sR t s2).2.1) (s2.1 a) (bz_m (fun i => bz_in t s2 (s2.1 a) i && !decide (i = a)))), (bz_sR t s2).2.2.1, bz_m (fun i => bz_op t s2 i || decide (i = a)), nI (bz_ch t s2)) L v ht _ _ (by omega) (by omega)) (cwV 2 htb (bz_gV wd_204 wd_201 wd_202 wd_203 wd_20) rfl rfl rfl (by decide +kernel) ⟨Nat.le_of_ble_eq_true rfl, Nat.le_of_ble_eq_true rfl⟩) (bz_rv hN hK hP (q0 := 1) rfl rfl) rfl rfl hl.1 rfl (lv_room (Nat.le_of_ble_eq_true rfl)) d_S_take_46 ⟨Nat.zero_le _, Nat.zero_le _⟩) ?_
  refine lv_lsub hx hb d_S_take_49 ?_
  refine bz_rl (y := lN (bz_ld t s2 (s2.1 a) - bz_w t a (s2.1 a))) (lN_sub (by have := bz_ld_ta ha ho (s2.1 a); rw [if_pos rfl] at this; omega)) ?_
  refine bz_last hx hb hK hP hD hS 10 1 rfl rfl (a9 := (s2.1 a)) (by omega) (by decide) d_S_take_50 (fun H locs hP hD hS => ?_)
  have hP : va_P (dC, dI) vwCl (bz_wB ad cI cL (bz_tR t) ((bz_sR t s2).1, (upd ((bz_sR t s2).2.1) (s2.1 a) (bz_m (fun i => bz_in t s2 (s2.1 a) i && !decide (i = a)))), (vp_updL ((bz_sR t s2).2.2.1) (s2.1 a) (lN (bz_ld t s2 (s2.1 a) - bz_w t a (s2.1 a)))), bz_m (fun i => bz_op t s2 i || decide (i = a)), nI (bz_ch t s2)) L v) H := hP
  have hD : va_D A (bz_wB ad cI cL (bz_tR t) ((bz_sR t s2).1, (upd ((bz_sR t s2).2.1) (s2.1 a) (bz_m (fun i => bz_in t s2 (s2.1 a) i && !decide (i = a)))), (vp_updL ((bz_sR t s2).2.2.1) (s2.1 a) (lN (bz_ld t s2 (s2.1 a) - bz_w t a (s2.1 a)))), bz_m (fun i => bz_op t s2 i || decide (i = a)), nI (bz_ch t s2)) L v) := hD
  refine lv_iload_n hx hb d_S_take_51 rfl (lv_at hl 0 rfl) ?_
  refine lv_aload_n hx hb d_S_take_52 rfl (lv_at hl 1 rfl) ?_
  refine va_get (D := (dC, dI)) (ci := 1) (v := .ref (ad 1)) (C := R_S) (T := F_S) (N := 6) hx hb htb in_S hown hK hP 7 rfl rfl 0 (by decide) (htb _ wd_79) (fun _ h9 => h9) rfl d_S_take_53 ?_
  refine va_getN (D := (dC, dI)) (ci := 2) (v := .ref (ad 3)) (C := R_T) (T := F_T) (N := 6) hx hb htb in_T hown hK hP 1 rfl rfl 1 (by decide) (va_Nw.use rfl (hN _ nd_48)) (fun _ h9 => h9) rfl d_S_take_56 ?_
  refine lv_iload_n hx hb d_S_take_59 rfl (lv_at hl 2 rfl) ?_
  refine bz_iald (v := nI (bz_d t a)) hx hb hK hP 3 0 rfl rfl (a9 := a) (by omega) (by decide) (rfl) d_S_take_60 ?_
  refine lv_icmp_eq (tgt := 74) hx hb d_S_take_61 (by decide) (fun c_61 => ?_) (fun c_61 => ?_)
  · skip
    have c_61 := (nI_eq (by omega) (by omega)).mp c_61
    have e9 : bz_sR t (bz_ta s2 a) = ((bz_sR t s2).1, (upd ((bz_sR t s2).2.1) (s2.1 a) (bz_m (fun i => bz_in t s2 (s2.1 a) i && !decide (i = a)))), (vp_updL ((bz_sR t s2).2.2.1) (s2.1 a) (lN (bz_ld t s2 (s2.1 a) - bz_w t a (s2.1 a)))), bz_m (fun i => bz_op t s2 i || decide (i = a)), nI (bz_ch t s2)) := bz_take_R ha ho (by have := bz_ch_ta ha ho; rw [if_pos c_61] at this; omega)
    have hP : va_P (dC, dI) vwCl (bz_wB ad cI cL (bz_tR t) (bz_sR t (bz_ta s2 a)) L v) H := by rw [e9]; exact hP
    have hD : va_D A (bz_wB ad cI cL (bz_tR t) (bz_sR t (bz_ta s2 a)) L v) := by rw [e9]; exact hD
    exact W.vret hx hb hr (fun t9 ht9 hW => ⟨⟨(), rfl, trivial, by rw [ht9]; exact hP, va_K.moved hW.alike hK, hD⟩, hS.F ht9⟩) hS.2.2 d_S_take_74
  · skip
    have c_61 : ¬ s2.1 a = bz_d t a := fun z => c_61 ((nI_eq (by omega) (by omega)).mpr z)
    refine lv_aload_n hx hb d_S_take_64 rfl (lv_at hl 1 rfl) ?_
    refine lv_dup hx hb d_S_take_65 rfl ?_
    refine va_get (D := (dC, dI)) (ci := 1) (v := .int (nI (bz_ch t s2))) (C := R_S) (T := F_S) (N := 6) hx hb htb in_S hown hK hP 7 rfl rfl 5 (by decide) (htb _ wd_87) (fun _ h9 => h9) rfl d_S_take_66 ?_
    refine lv_iconst (v := 1) hx hb d_S_take_69 (by decide) ?_
    refine lv_isub hx hb d_S_take_70 ?_
    refine bz_ri (y := nI (bz_ch t s2 - 1)) (pk_sub (b := 1) (by have := bz_ch_ta ha ho; rw [if_neg c_61] at this; omega)) ?_
    refine va_put (D := (dC, dI)) (ci := 1) (v := .int (nI (bz_ch t s2 - 1))) (ty := .int) (C := R_S) (T := F_S) (N := 6) hx hb htb in_S tf_S tok_S n_S hown hK hP hD hS 7 rfl rfl 5 (by decide) (htb _ wd_87) (fun _ h9 => h9) rfl (by decide +kernel) rfl rfl (Nat.le_of_ble_eq_true rfl) d_S_take_71 (fun H locs hP hD hS => ?_)
    have hP : va_P (dC, dI) vwCl (bz_wB ad cI cL (bz_tR t) ((bz_sR t s2).1, (upd ((bz_sR t s2).2.1) (s2.1 a) (bz_m (fun i => bz_in t s2 (s2.1 a) i && !decide (i = a)))), (vp_updL ((bz_sR t s2).2.2.1) (s2.1 a) (lN (bz_ld t s2 (s2.1 a) - bz_w t a (s2.1 a)))), bz_m (fun i => bz_op t s2 i || decide (i = a)), nI (bz_ch t s2 - 1)) L v) H := hP
    have hD : va_D A (bz_wB ad cI cL (bz_tR t) ((bz_sR t s2).1, (upd ((bz_sR t s2).2.1) (s2.1 a) (bz_m (fun i => bz_in t s2 (s2.1 a) i && !decide (i = a)))), (vp_updL ((bz_sR t s2).2.2.1) (s2.1 a) (lN (bz_ld t s2 (s2.1 a) - bz_w t a (s2.1 a)))), bz_m (fun i => bz_op t s2 i || decide (i = a)), nI (bz_ch t s2 - 1)) L v) := hD
    have e9 : bz_sR t (bz_ta s2 a) = ((bz_sR t s2).1, (upd ((bz_sR t s2).2.1) (s2.1 a) (bz_m (fun i => bz_in t s2 (s2.1 a) i && !decide (i = a)))), (vp_updL ((bz_sR t s2).2.2.1) (s2.1 a) (lN (bz_ld t s2 (s2.1 a) - bz_w t a (s2.1 a)))), bz_m (fun i => bz_op t s2 i || decide (i = a)), nI (bz_ch t s2 - 1)) := bz_take_R ha ho (by have := bz_ch_ta ha ho; rw [if_neg c_61] at this; omega)
    have hP : va_P (dC, dI) vwCl (bz_wB ad cI cL (bz_tR t) (bz_sR t (bz_ta s2 a)) L v) H := by rw [e9]; exact hP
    have hD : va_D A (bz_wB ad cI cL (bz_tR t) (bz_sR t (bz_ta s2 a)) L v) := by rw [e9]; exact hD
    exact W.vret hx hb hr (fun t9 ht9 hW => ⟨⟨(), rfl, trivial, by rw [ht9]; exact hP, va_K.moved hW.alike hK, hD⟩, hS.F ht9⟩) hS.2.2 d_S_take_74
end
section
theorem d_Le_keep_0 : decode b_Le_keep 0 = .ok (.aload_n 0, 1) := by decide +kernel
theorem d_Le_keep_1 : decode b_Le_keep 1 = .ok (.lload_n 2, 1) := by decide +kernel
theorem d_Le_keep_2 : decode b_Le_keep 2 = .ok (.putfield 15, 3) := by decide +kernel
theorem d_Le_keep_5 : decode b_Le_keep 5 = .ok (.aload_n 1, 1) := by decide +kernel
theorem d_Le_keep_6 : decode b_Le_keep 6 = .ok (.getfield 19, 3) := by decide +kernel
theorem d_Le_keep_9 : decode b_Le_keep 9 = .ok (.iconst 0, 1) := by decide +kernel
theorem d_Le_keep_10 : decode b_Le_keep 10 = .ok (.aload_n 0, 1) := by decide +kernel
theorem d_Le_keep_11 : decode b_Le_keep 11 = .ok (.getfield 9, 3) := by decide +kernel
theorem d_Le_keep_14 : decode b_Le_keep 14 = .ok (.iconst 0, 1) := by decide +kernel
theorem d_Le_keep_15 : decode b_Le_keep 15 = .ok (.bipush 8, 2) := by decide +kernel
theorem d_Le_keep_17 : decode b_Le_keep 17 = .ok (.invokestatic 24, 3) := by decide +kernel
theorem d_Le_keep_20 : decode b_Le_keep 20 = .ok (.return_, 1) := by decide +kernel
theorem d_B_isArea_0 : decode b_B_isArea 0 = .ok (.iload_n 1, 1) := by decide +kernel
theorem d_B_isArea_1 : decode b_B_isArea 1 = .ok (.iconst 1, 1) := by decide +kernel
theorem d_B_isArea_2 : decode b_B_isArea 2 = .ok (.if_icmp .lt 18, 3) := by decide +kernel
theorem d_B_isArea_5 : decode b_B_isArea 5 = .ok (.iload_n 1, 1) := by decide +kernel
theorem d_B_isArea_6 : decode b_B_isArea 6 = .ok (.aload_n 0, 1) := by decide +kernel
theorem d_B_isArea_7 : decode b_B_isArea 7 = .ok (.getfield 12, 3) := by decide +kernel
theorem d_B_isArea_10 : decode b_B_isArea 10 = .ok (.getfield 42, 3) := by decide +kernel
theorem d_B_isArea_13 : decode b_B_isArea 13 = .ok (.if_icmp .gt 7, 3) := by decide +kernel
theorem d_B_isArea_16 : decode b_B_isArea 16 = .ok (.iconst 1, 1) := by decide +kernel
theorem d_B_isArea_17 : decode b_B_isArea 17 = .ok (.goto 4, 3) := by decide +kernel
theorem d_B_isArea_20 : decode b_B_isArea 20 = .ok (.iconst 0, 1) := by decide +kernel
theorem d_B_isArea_21 : decode b_B_isArea 21 = .ok (.ireturn, 1) := by decide +kernel
theorem d_B_isRound_0 : decode b_B_isRound 0 = .ok (.iload_n 0, 1) := by decide +kernel
theorem d_B_isRound_1 : decode b_B_isRound 1 = .ok (.ifCond .lt 12, 3) := by decide +kernel
theorem d_B_isRound_4 : decode b_B_isRound 4 = .ok (.iload_n 0, 1) := by decide +kernel
theorem d_B_isRound_5 : decode b_B_isRound 5 = .ok (.iconst 4, 1) := by decide +kernel
theorem d_B_isRound_6 : decode b_B_isRound 6 = .ok (.if_icmp .ge 7, 3) := by decide +kernel
theorem d_B_isRound_9 : decode b_B_isRound 9 = .ok (.iconst 1, 1) := by decide +kernel
theorem d_B_isRound_10 : decode b_B_isRound 10 = .ok (.goto 4, 3) := by decide +kernel
theorem d_B_isRound_13 : decode b_B_isRound 13 = .ok (.iconst 0, 1) := by decide +kernel
theorem d_B_isRound_14 : decode b_B_isRound 14 = .ok (.ireturn, 1) := by decide +kernel
theorem d_B_isForExact_0 : decode b_B_isForExact 0 = .ok (.aload_n 0, 1) := by decide +kernel
theorem d_B_isForExact_1 : decode b_B_isForExact 1 = .ok (.getfield 12, 3) := by decide +kernel
theorem d_B_isForExact_4 : decode b_B_isForExact 4 = .ok (.getfield 42, 3) := by decide +kernel
theorem d_B_isForExact_7 : decode b_B_isForExact 7 = .ok (.bipush 8, 2) := by decide +kernel
theorem d_B_isForExact_9 : decode b_B_isForExact 9 = .ok (.if_icmp .gt 7, 3) := by decide +kernel
theorem d_B_isForExact_12 : decode b_B_isForExact 12 = .ok (.iconst 1, 1) := by decide +kernel
theorem d_B_isForExact_13 : decode b_B_isForExact 13 = .ok (.goto 4, 3) := by decide +kernel
theorem d_B_isForExact_16 : decode b_B_isForExact 16 = .ok (.iconst 0, 1) := by decide +kernel
theorem d_B_isForExact_17 : decode b_B_isForExact 17 = .ok (.ireturn, 1) := by decide +kernel
theorem d_B_otherRound_0 : decode b_B_otherRound 0 = .ok (.iload_n 1, 1) := by decide +kernel
theorem d_B_otherRound_1 : decode b_B_otherRound 1 = .ok (.iload_n 0, 1) := by decide +kernel
theorem d_B_otherRound_2 : decode b_B_otherRound 2 = .ok (.if_icmp .ge 7, 3) := by decide +kernel
theorem d_B_otherRound_5 : decode b_B_otherRound 5 = .ok (.iload_n 1, 1) := by decide +kernel
theorem d_B_otherRound_6 : decode b_B_otherRound 6 = .ok (.goto 6, 3) := by decide +kernel
theorem d_B_otherRound_9 : decode b_B_otherRound 9 = .ok (.iload_n 1, 1) := by decide +kernel
theorem d_B_otherRound_10 : decode b_B_otherRound 10 = .ok (.iconst 1, 1) := by decide +kernel
theorem d_B_otherRound_11 : decode b_B_otherRound 11 = .ok (.iadd, 1) := by decide +kernel
theorem d_B_otherRound_12 : decode b_B_otherRound 12 = .ok (.ireturn, 1) := by decide +kernel

set_option maxHeartbeats 4000000 in
set_option maxRecDepth 100000 in
/-- Share.move -/
theorem c_S_move (l : Launch) (dC : Nat → ClassId) (dI : Nat → Nat → Nat) (sz : Nat) (ad : Nat → Nat) (cI cL : ClassId) (t : bz_T) (s2 : bz_S) (L : (Nat → Int32) × Int64) (v : Int32) (ht : bz_ok t) (a r : Nat) (ha : a < bz_n t) (hr4 : s2.1 a < 4) (ho : s2.2 a = false) (hrr : r < 4) : Met l y_S_move w_S_move ({ frames := 3, cells := 0, slots := 0, locals := 66 }) (bz_Pw (dC, dI) [(cI, .int), (cL, .long)] (bz_wB ad cI cL (bz_tR t) (bz_sR t s2) L v) sz [.ref (ad 7), .int (nI a), .int (nI r)]) (bz_Qv (dC, dI) [(cI, .int), (cL, .long)] (va_A (bz_wB ad cI cL (bz_tR t) (bz_sR t s2) L v) sz) (bz_wB ad cI cL (bz_tR t) (bz_sR t (bz_pu (bz_ta s2 a) a r)) L v)) 0 0 (va_A (bz_wB ad cI cL (bz_tR t) (bz_sR t s2) L v) sz) := by
  refine Met.ofW (cc := b_S_move) (maxL := 3) (ret := none) (by decide) rfl ?_
  intro p e s m args below meth c s₁ B hml hv
  obtain ⟨rfl, hsz, hP, hK, hD0, hN⟩ := hv
  have hx := B.exec
  have hb := B.bytes
  have hr := B.returns
  have hts := atoms_spec (ws := w_S_move) B.pre
  have hown : s.vm.findClass R_S = some m.cls := findClass_of_methodNamed B.named
  have htb : ∀ w ∈ bz_tb, w.before _ s = true := fun w h => hts w (List.mem_cons_of_mem _ h)
  have hlocks := B.notSynchronized
  subst hsz
  have hD := hD0.self (sz := s.heap.size)
  generalize hAe : va_A (bz_wB ad cI cL (bz_tR t) (bz_sR t s2) L v) s.heap.size = A at hD ⊢
  have hA : ∀ q : Nat, s.heap.size ≤ q → A q := fun q h => by rw [← hAe]; exact Or.inr h
  have hS : va_S A s.heap s.heap [] := va_S.rf
  have hl := lv_entry ([.ref (ad 7), .int (nI a), .int (nI r)]) (n := 3) (Nat.le_of_ble_eq_true rfl)
  rw [lg_entry_eq]
  generalize (lg_sl ([.ref (ad 7), .int (nI a), .int (nI r)]) ++ List.replicate (3 - (lg_sl ([.ref (ad 7), .int (nI a), .int (nI r)])).length) Slot.unset).toArray = ls at hl ⊢
  have hl : lv_has ls 3 [(0, .ref (ad 7)), (1, .int (nI a)), (2, .int (nI r))] := hl
  refine lv_aload_n hx hb d_S_move_0 rfl (lv_at hl 0 rfl) ?_
  refine lv_iload_n hx hb d_S_move_1 rfl (lv_at hl 1 rfl) ?_
  refine bz_cv (va_runV (As := [.int (nI a)]) (rest := []) ⟨hx, hb, hml, hown, htb⟩ (c_S_take l dC dI _ ad cI cL t s2 L v ht _ (ha) (hr4) (ho)) (cwV 1 htb (bz_gV wd_254 wd_266 wd_252 wd_253 wd_21) rfl rfl rfl (by decide +kernel) ⟨Nat.le_of_ble_eq_true rfl, Nat.le_of_ble_eq_true rfl⟩) (bz_wv hN hK hP hD (q0 := 7) rfl rfl) rfl rfl hl.1 rfl (lv_room (Nat.le_of_ble_eq_true rfl)) d_S_move_2 ⟨Nat.zero_le _, Nat.zero_le _⟩) hD hS hA (fun H locs hP hD hS => ?_)
  have hP : va_P (dC, dI) vwCl (bz_wB ad cI cL (bz_tR t) (bz_sR t (bz_ta s2 a)) L v) H := hP
  have hD : va_D A (bz_wB ad cI cL (bz_tR t) (bz_sR t (bz_ta s2 a)) L v) := hD
  refine lv_aload_n hx hb d_S_move_5 rfl (lv_at hl 0 rfl) ?_
  refine lv_iload_n hx hb d_S_move_6 rfl (lv_at hl 1 rfl) ?_
  refine lv_iload_n hx hb d_S_move_7 rfl (lv_at hl 2 rfl) ?_
  refine bz_cv (va_runV (As := [.int (nI a), .int (nI r)]) (rest := []) ⟨hx, hb, hml, hown, htb⟩ (c_S_put l dC dI _ ad cI cL t (bz_ta s2 a) L v ht _ _ (ha) (by omega) (bz_up_s _ _ _)) (cwV 2 htb (bz_gV wd_200 wd_197 wd_198 wd_199 wd_21) rfl rfl rfl (by decide +kernel) ⟨Nat.le_of_ble_eq_true rfl, Nat.le_of_ble_eq_true rfl⟩) (bz_wv hN hK hP hD (q0 := 7) rfl rfl) rfl rfl hl.1 rfl (lv_room (Nat.le_of_ble_eq_true rfl)) d_S_move_8 ⟨Nat.zero_le _, Nat.zero_le _⟩) hD hS hA (fun H locs hP hD hS => ?_)
  have hP : va_P (dC, dI) vwCl (bz_wB ad cI cL (bz_tR t) (bz_sR t (bz_pu (bz_ta s2 a) a r)) L v) H := hP
  have hD : va_D A (bz_wB ad cI cL (bz_tR t) (bz_sR t (bz_pu (bz_ta s2 a) a r)) L v) := hD
  exact W.vret hx hb hr (fun t9 ht9 hW => ⟨⟨(), rfl, trivial, by rw [ht9]; exact hP, va_K.moved hW.alike hK, hD⟩, hS.F ht9⟩) hS.2.2 d_S_move_11

set_option maxHeartbeats 4000000 in
set_option maxRecDepth 100000 in
/-- Share.beginWith -/
theorem c_S_beginWithT (l : Launch) (dC : Nat → ClassId) (dI : Nat → Nat → Nat) (sz : Nat) (ad : Nat → Nat) (cI cL : ClassId) (t : bz_T) (x : Nat → Nat) (A1 : Nat → Int32) (A2 : Nat → Int64) (o1 c1 : Int32) (L : (Nat → Int32) × Int64) (v : Int32) (ht : bz_ok t) : Met l y_S_beginWith w_S_beginWith ({ frames := 3, cells := 0, slots := 0, locals := 66 }) (bz_Pw (dC, dI) [(cI, .int), (cL, .long)] (bz_wB ad cI cL (bz_tR t) (fun a => nI (x a), A1, A2, o1, c1) L v) sz [.ref (ad 7), .ref (ad 3)]) (bz_Qv (dC, dI) [(cI, .int), (cL, .long)] (va_A (bz_wB ad cI cL (bz_tR t) (fun a => nI (x a), A1, A2, o1, c1) L v) sz) (bz_wB ad cI cL (bz_tR t) (bz_sR t (bz_bg (bz_d t) x (bz_n t))) L v)) 0 0 (va_A (bz_wB ad cI cL (bz_tR t) (fun a => nI (x a), A1, A2, o1, c1) L v) sz) := by
  refine Met.ofW (cc := b_S_beginWith) (maxL := 3) (ret := none) (by decide) rfl ?_
  intro p e s m args below meth c s₁ B hml hv
  obtain ⟨rfl, hsz, hP, hK, hD0, hN⟩ := hv
  have hx := B.exec
  have hb := B.bytes
  have hr := B.returns
  have hts := atoms_spec (ws := w_S_beginWith) B.pre
  have hown : s.vm.findClass R_S = some m.cls := findClass_of_methodNamed B.named
  have htb : ∀ w ∈ bz_tb, w.before _ s = true := fun w h => hts w (List.mem_cons_of_mem _ h)
  have hlocks := B.notSynchronized
  subst hsz
  have hD := hD0.self (sz := s.heap.size)
  generalize hAe : va_A (bz_wB ad cI cL (bz_tR t) (fun a => nI (x a), A1, A2, o1, c1) L v) s.heap.size = A at hD ⊢
  have hA : ∀ q : Nat, s.heap.size ≤ q → A q := fun q h => by rw [← hAe]; exact Or.inr h
  have hS : va_S A s.heap s.heap [] := va_S.rf
  have hl := lv_entry ([.ref (ad 7), .ref (ad 3)]) (n := 3) (Nat.le_of_ble_eq_true rfl)
  rw [lg_entry_eq]
  generalize (lg_sl ([.ref (ad 7), .ref (ad 3)]) ++ List.replicate (3 - (lg_sl ([.ref (ad 7), .ref (ad 3)])).length) Slot.unset).toArray = ls at hl ⊢
  have hl : lv_has ls 3 [(0, .ref (ad 7)), (1, .ref (ad 3))] := hl
  have hn30 := ht.1
  refine lv_aload_n hx hb d_S_beginWith_0 rfl (lv_at hl 0 rfl) ?_
  refine bz_cv (va_runV (As := []) (rest := []) ⟨hx, hb, hml, hown, htb⟩ (c_S_clear l dC dI _ ad cI cL t x A1 A2 o1 c1 L v ht) (cwV 0 htb (bz_gV wd_196 wd_193 wd_194 wd_195 wd_21) rfl rfl rfl (by decide +kernel) ⟨Nat.le_of_ble_eq_true rfl, Nat.le_of_ble_eq_true rfl⟩) (bz_wv hN hK hP hD (q0 := 7) rfl rfl) rfl rfl hl.1 rfl (lv_room (Nat.le_of_ble_eq_true rfl)) d_S_beginWith_1 ⟨Nat.zero_le _, Nat.zero_le _⟩) hD hS hA (fun H locs hP hD hS => ?_)
  have hP : va_P (dC, dI) vwCl (bz_wB ad cI cL (bz_tR t) (bz_sR t (x, fun _ => true)) L v) H := hP
  have hD : va_D A (bz_wB ad cI cL (bz_tR t) (bz_sR t (x, fun _ => true)) L v) := hD
  refine lv_iconst (v := nI 0) hx hb d_S_beginWith_4 (by decide) ?_
  refine lv_istore_n (lv' := [(2, .int (nI 0)), (0, .ref (ad 7)), (1, .ref (ad 3))]) hx hb d_S_beginWith_5 rfl hl (by decide) rfl (fun ls hl => ?_)
  have e9 : bz_sR t (bz_bg (bz_d t) x 0) = bz_sR t (x, fun _ => true) := by rw [bz_bg_0]
  have hP : va_P (dC, dI) vwCl (bz_wB ad cI cL (bz_tR t) (bz_sR t (bz_bg (bz_d t) x 0)) L v) H := by rw [e9]; exact hP
  have hD : va_D A (bz_wB ad cI cL (bz_tR t) (bz_sR t (bz_bg (bz_d t) x 0)) L v) := by rw [e9]; exact hD
  have lp : ∀ (k9 : Nat) (i : Nat), bz_n t - i < k9 → i ≤ bz_n t → ∀ (H : Heap) (locs : List Loc), va_P (dC, dI) vwCl (bz_wB ad cI cL (bz_tR t) (bz_sR t (bz_bg (bz_d t) x i)) L v) H → va_D A (bz_wB ad cI cL (bz_tR t) (bz_sR t (bz_bg (bz_d t) x i)) L v) → va_S A s.heap H locs → ∀ (ls : Array Slot), lv_has ls 3 [(0, .ref (ad 7)), (1, .ref (ad 3)), (2, .int (nI i))] → W p l e (headSpec w_S_beginWith ({ frames := 3, cells := 0, slots := 0, locals := 66 })).room s m ([.ref (ad 7), .ref (ad 3)]).toArray below meth c H locs 0 0 (MQ below (bz_Qv (dC, dI) [(cI, .int), (cL, .long)] A (bz_wB ad cI cL (bz_tR t) (bz_sR t (bz_bg (bz_d t) x (bz_n t))) L v)) ([.ref (ad 7), .ref (ad 3)]).toArray s 0 0 (A)) (F0 m 6 ls []) := by
    intro k9
    induction k9 with
    | zero =>
      intro i h9
      exact absurd h9 (Nat.not_lt_zero _)
    | succ k9 ihlp =>
      intro i h9_lp hi H locs hP hD hS ls hl
      refine lv_iload_n hx hb d_S_beginWith_6 rfl (lv_at hl 2 rfl) ?_
      refine lv_aload_n hx hb d_S_beginWith_7 rfl (lv_at hl 0 rfl) ?_
      refine va_get (D := (dC, dI)) (ci := 1) (v := .ref (ad 1)) (C := R_S) (T := F_S) (N := 6) hx hb htb in_S hown hK hP 7 rfl rfl 0 (by decide) (htb _ wd_79) (fun _ h9 => h9) rfl d_S_beginWith_8 ?_
      refine va_getN (D := (dC, dI)) (ci := 2) (v := .int (nI (bz_n t))) (C := R_T) (T := F_T) (N := 6) hx hb htb in_T hown hK hP 1 rfl rfl 5 (by decide) (va_Nw.use rfl (hN _ nd_56)) (fun _ h9 => h9) rfl d_S_beginWith_11 ?_
      refine lv_icmp_ge (tgt := 37) hx hb d_S_beginWith_14 (by decide) (fun c_14 => ?_) (fun c_14 => ?_)
      · skip
        have hin : i = bz_n t := by have := (nI_leI (by omega) (by omega)).mp c_14; omega
        have e9 : bz_sR t (bz_bg (bz_d t) x (bz_n t)) = bz_sR t (bz_bg (bz_d t) x i) := by rw [hin]
        have hP : va_P (dC, dI) vwCl (bz_wB ad cI cL (bz_tR t) (bz_sR t (bz_bg (bz_d t) x (bz_n t))) L v) H := by rw [e9]; exact hP
        have hD : va_D A (bz_wB ad cI cL (bz_tR t) (bz_sR t (bz_bg (bz_d t) x (bz_n t))) L v) := by rw [e9]; exact hD
        exact W.vret hx hb hr (fun t9 ht9 hW => ⟨⟨(), rfl, trivial, by rw [ht9]; exact hP, va_K.moved hW.alike hK, hD⟩, hS.F ht9⟩) hS.2.2 d_S_beginWith_37
      · skip
        have hin : i < bz_n t := Nat.lt_of_not_le fun z => c_14 ((nI_leI (by omega) (by omega)).mpr z)
        have hdi := ht.2.2.1 i
        refine lv_iload_n hx hb d_S_beginWith_17 rfl (lv_at hl 2 rfl) ?_
        refine lv_aload_n hx hb d_S_beginWith_18 rfl (lv_at hl 1 rfl) ?_
        refine va_alen (v := nI 30) hx hb hK hP 3 0 rfl rfl rfl d_S_beginWith_19 ?_
        refine lv_icmp_ge (tgt := 37) hx hb d_S_beginWith_20 (by decide) (fun c_20 => ?_) (fun c_20 => ?_)
        · skip
          exact absurd ((nI_leI (a := 30) (by omega) (by omega)).mp c_20) (by omega)
        · skip
          refine lv_aload_n hx hb d_S_beginWith_23 rfl (lv_at hl 0 rfl) ?_
          refine lv_iload_n hx hb d_S_beginWith_24 rfl (lv_at hl 2 rfl) ?_
          refine lv_aload_n hx hb d_S_beginWith_25 rfl (lv_at hl 1 rfl) ?_
          refine lv_iload_n hx hb d_S_beginWith_26 rfl (lv_at hl 2 rfl) ?_
          refine bz_iald (v := nI (bz_d t i)) hx hb hK hP 3 0 rfl rfl (a9 := i) (by omega) (by decide) (rfl) d_S_beginWith_27 ?_
          refine bz_cv (va_runV (As := [.int (nI i), .int (nI (bz_d t i))]) (rest := []) ⟨hx, hb, hml, hown, htb⟩ (c_S_put l dC dI _ ad cI cL t (bz_bg (bz_d t) x i) L v ht _ _ (by omega) (by omega) (decide_eq_true (Nat.le_refl _))) (cwV 2 htb (bz_gV wd_200 wd_197 wd_198 wd_199 wd_21) rfl rfl rfl (by decide +kernel) ⟨Nat.le_of_ble_eq_true rfl, Nat.le_of_ble_eq_true rfl⟩) (bz_wv hN hK hP hD (q0 := 7) rfl rfl) rfl rfl hl.1 rfl (lv_room (Nat.le_of_ble_eq_true rfl)) d_S_beginWith_28 ⟨Nat.zero_le _, Nat.zero_le _⟩) hD hS hA (fun H locs hP hD hS => ?_)
          have hP : va_P (dC, dI) vwCl (bz_wB ad cI cL (bz_tR t) (bz_sR t (bz_pu (bz_bg (bz_d t) x i) i (bz_d t i))) L v) H := hP
          have hD : va_D A (bz_wB ad cI cL (bz_tR t) (bz_sR t (bz_pu (bz_bg (bz_d t) x i) i (bz_d t i))) L v) := hD
          have e9 : bz_sR t (bz_bg (bz_d t) x (i + 1)) = bz_sR t (bz_pu (bz_bg (bz_d t) x i) i (bz_d t i)) := by rw [bz_bg_1]
          have hP : va_P (dC, dI) vwCl (bz_wB ad cI cL (bz_tR t) (bz_sR t (bz_bg (bz_d t) x (i + 1))) L v) H := by rw [e9]; exact hP
          have hD : va_D A (bz_wB ad cI cL (bz_tR t) (bz_sR t (bz_bg (bz_d t) x (i + 1))) L v) := by rw [e9]; exact hD
          refine lv_iinc (v := nI (i + 1)) (lv' := [(2, .int (nI (i + 1))), (0, .ref (ad 7)), (1, .ref (ad 3))]) hx hb d_S_beginWith_31 hl (k := 2) rfl (nI_1 _) (by decide) rfl (fun ls hl => ?_)
          refine lv_goto (tgt := 6) hx hb d_S_beginWith_34 (by decide) ?_
          exact ihlp (i + 1) (by omega) (by omega) H locs hP hD hS ls (lv_sub hl [1, 2, 0] rfl)
  exact lp _ 0 (Nat.lt_succ_self _) (by omega) H locs hP hD hS ls (lv_sub hl [1, 2, 0] rfl)

set_option maxHeartbeats 4000000 in
set_option maxRecDepth 100000 in
/-- Share.beginWith -/
theorem c_S_beginWithL (l : Launch) (dC : Nat → ClassId) (dI : Nat → Nat → Nat) (sz : Nat) (ad : Nat → Nat) (cI cL : ClassId) (t : bz_T) (x : Nat → Nat) (A1 : Nat → Int32) (A2 : Nat → Int64) (o1 c1 : Int32) (rw : Nat → Nat) (co : Int64) (v : Int32) (ht : bz_ok t) (hn8 : bz_n t ≤ 8) (hrw : ∀ a, a < bz_n t → rw a < 4) : Met l y_S_beginWith w_S_beginWith ({ frames := 3, cells := 0, slots := 0, locals := 66 }) (bz_Pw (dC, dI) [(cI, .int), (cL, .long)] (bz_wB ad cI cL (bz_tR t) (fun a => nI (x a), A1, A2, o1, c1) (fun j => nI (rw j), co) v) sz [.ref (ad 7), .ref (ad 12)]) (bz_Qv (dC, dI) [(cI, .int), (cL, .long)] (va_A (bz_wB ad cI cL (bz_tR t) (fun a => nI (x a), A1, A2, o1, c1) (fun j => nI (rw j), co) v) sz) (bz_wB ad cI cL (bz_tR t) (bz_sR t (bz_bg rw x (bz_n t))) (fun j => nI (rw j), co) v)) 0 0 (va_A (bz_wB ad cI cL (bz_tR t) (fun a => nI (x a), A1, A2, o1, c1) (fun j => nI (rw j), co) v) sz) := by
  refine Met.ofW (cc := b_S_beginWith) (maxL := 3) (ret := none) (by decide) rfl ?_
  intro p e s m args below meth c s₁ B hml hv
  obtain ⟨rfl, hsz, hP, hK, hD0, hN⟩ := hv
  have hx := B.exec
  have hb := B.bytes
  have hr := B.returns
  have hts := atoms_spec (ws := w_S_beginWith) B.pre
  have hown : s.vm.findClass R_S = some m.cls := findClass_of_methodNamed B.named
  have htb : ∀ w ∈ bz_tb, w.before _ s = true := fun w h => hts w (List.mem_cons_of_mem _ h)
  have hlocks := B.notSynchronized
  subst hsz
  have hD := hD0.self (sz := s.heap.size)
  generalize hAe : va_A (bz_wB ad cI cL (bz_tR t) (fun a => nI (x a), A1, A2, o1, c1) (fun j => nI (rw j), co) v) s.heap.size = A at hD ⊢
  have hA : ∀ q : Nat, s.heap.size ≤ q → A q := fun q h => by rw [← hAe]; exact Or.inr h
  have hS : va_S A s.heap s.heap [] := va_S.rf
  have hl := lv_entry ([.ref (ad 7), .ref (ad 12)]) (n := 3) (Nat.le_of_ble_eq_true rfl)
  rw [lg_entry_eq]
  generalize (lg_sl ([.ref (ad 7), .ref (ad 12)]) ++ List.replicate (3 - (lg_sl ([.ref (ad 7), .ref (ad 12)])).length) Slot.unset).toArray = ls at hl ⊢
  have hl : lv_has ls 3 [(0, .ref (ad 7)), (1, .ref (ad 12))] := hl
  have hn30 := ht.1
  refine lv_aload_n hx hb d_S_beginWith_0 rfl (lv_at hl 0 rfl) ?_
  refine bz_cv (va_runV (As := []) (rest := []) ⟨hx, hb, hml, hown, htb⟩ (c_S_clear l dC dI _ ad cI cL t x A1 A2 o1 c1 (fun j => nI (rw j), co) v ht) (cwV 0 htb (bz_gV wd_196 wd_193 wd_194 wd_195 wd_21) rfl rfl rfl (by decide +kernel) ⟨Nat.le_of_ble_eq_true rfl, Nat.le_of_ble_eq_true rfl⟩) (bz_wv hN hK hP hD (q0 := 7) rfl rfl) rfl rfl hl.1 rfl (lv_room (Nat.le_of_ble_eq_true rfl)) d_S_beginWith_1 ⟨Nat.zero_le _, Nat.zero_le _⟩) hD hS hA (fun H locs hP hD hS => ?_)
  have hP : va_P (dC, dI) vwCl (bz_wB ad cI cL (bz_tR t) (bz_sR t (x, fun _ => true)) (fun j => nI (rw j), co) v) H := hP
  have hD : va_D A (bz_wB ad cI cL (bz_tR t) (bz_sR t (x, fun _ => true)) (fun j => nI (rw j), co) v) := hD
  refine lv_iconst (v := nI 0) hx hb d_S_beginWith_4 (by decide) ?_
  refine lv_istore_n (lv' := [(2, .int (nI 0)), (0, .ref (ad 7)), (1, .ref (ad 12))]) hx hb d_S_beginWith_5 rfl hl (by decide) rfl (fun ls hl => ?_)
  have e9 : bz_sR t (bz_bg rw x 0) = bz_sR t (x, fun _ => true) := by rw [bz_bg_0]
  have hP : va_P (dC, dI) vwCl (bz_wB ad cI cL (bz_tR t) (bz_sR t (bz_bg rw x 0)) (fun j => nI (rw j), co) v) H := by rw [e9]; exact hP
  have hD : va_D A (bz_wB ad cI cL (bz_tR t) (bz_sR t (bz_bg rw x 0)) (fun j => nI (rw j), co) v) := by rw [e9]; exact hD
  have lp : ∀ (k9 : Nat) (i : Nat), bz_n t - i < k9 → i ≤ bz_n t → ∀ (H : Heap) (locs : List Loc), va_P (dC, dI) vwCl (bz_wB ad cI cL (bz_tR t) (bz_sR t (bz_bg rw x i)) (fun j => nI (rw j), co) v) H → va_D A (bz_wB ad cI cL (bz_tR t) (bz_sR t (bz_bg rw x i)) (fun j => nI (rw j), co) v) → va_S A s.heap H locs → ∀ (ls : Array Slot), lv_has ls 3 [(0, .ref (ad 7)), (1, .ref (ad 12)), (2, .int (nI i))] → W p l e (headSpec w_S_beginWith ({ frames := 3, cells := 0, slots := 0, locals := 66 })).room s m ([.ref (ad 7), .ref (ad 12)]).toArray below meth c H locs 0 0 (MQ below (bz_Qv (dC, dI) [(cI, .int), (cL, .long)] A (bz_wB ad cI cL (bz_tR t) (bz_sR t (bz_bg rw x (bz_n t))) (fun j => nI (rw j), co) v)) ([.ref (ad 7), .ref (ad 12)]).toArray s 0 0 (A)) (F0 m 6 ls []) := by
    intro k9
    induction k9 with
    | zero =>
      intro i h9
      exact absurd h9 (Nat.not_lt_zero _)
    | succ k9 ihlp =>
      intro i h9_lp hi H locs hP hD hS ls hl
      refine lv_iload_n hx hb d_S_beginWith_6 rfl (lv_at hl 2 rfl) ?_
      refine lv_aload_n hx hb d_S_beginWith_7 rfl (lv_at hl 0 rfl) ?_
      refine va_get (D := (dC, dI)) (ci := 1) (v := .ref (ad 1)) (C := R_S) (T := F_S) (N := 6) hx hb htb in_S hown hK hP 7 rfl rfl 0 (by decide) (htb _ wd_79) (fun _ h9 => h9) rfl d_S_beginWith_8 ?_
      refine va_getN (D := (dC, dI)) (ci := 2) (v := .int (nI (bz_n t))) (C := R_T) (T := F_T) (N := 6) hx hb htb in_T hown hK hP 1 rfl rfl 5 (by decide) (va_Nw.use rfl (hN _ nd_56)) (fun _ h9 => h9) rfl d_S_beginWith_11 ?_
      refine lv_icmp_ge (tgt := 37) hx hb d_S_beginWith_14 (by decide) (fun c_14 => ?_) (fun c_14 => ?_)
      · skip
        have hin : i = bz_n t := by have := (nI_leI (by omega) (by omega)).mp c_14; omega
        have e9 : bz_sR t (bz_bg rw x (bz_n t)) = bz_sR t (bz_bg rw x i) := by rw [hin]
        have hP : va_P (dC, dI) vwCl (bz_wB ad cI cL (bz_tR t) (bz_sR t (bz_bg rw x (bz_n t))) (fun j => nI (rw j), co) v) H := by rw [e9]; exact hP
        have hD : va_D A (bz_wB ad cI cL (bz_tR t) (bz_sR t (bz_bg rw x (bz_n t))) (fun j => nI (rw j), co) v) := by rw [e9]; exact hD
        exact W.vret hx hb hr (fun t9 ht9 hW => ⟨⟨(), rfl, trivial, by rw [ht9]; exact hP, va_K.moved hW.alike hK, hD⟩, hS.F ht9⟩) hS.2.2 d_S_beginWith_37
      · skip
        have hin : i < bz_n t := Nat.lt_of_not_le fun z => c_14 ((nI_leI (by omega) (by omega)).mpr z)
        have hdi := hrw i hin
        refine lv_iload_n hx hb d_S_beginWith_17 rfl (lv_at hl 2 rfl) ?_
        refine lv_aload_n hx hb d_S_beginWith_18 rfl (lv_at hl 1 rfl) ?_
        refine va_alen (v := nI 8) hx hb hK hP 12 0 rfl rfl rfl d_S_beginWith_19 ?_
        refine lv_icmp_ge (tgt := 37) hx hb d_S_beginWith_20 (by decide) (fun c_20 => ?_) (fun c_20 => ?_)
        · skip
          exact absurd ((nI_leI (a := 8) (by omega) (by omega)).mp c_20) (by omega)
        · skip
          refine lv_aload_n hx hb d_S_beginWith_23 rfl (lv_at hl 0 rfl) ?_
          refine lv_iload_n hx hb d_S_beginWith_24 rfl (lv_at hl 2 rfl) ?_
          refine lv_aload_n hx hb d_S_beginWith_25 rfl (lv_at hl 1 rfl) ?_
          refine lv_iload_n hx hb d_S_beginWith_26 rfl (lv_at hl 2 rfl) ?_
          refine bz_iald (v := nI (rw i)) hx hb hK hP 12 0 rfl rfl (a9 := i) (by omega) (by decide) (rfl) d_S_beginWith_27 ?_
          refine bz_cv (va_runV (As := [.int (nI i), .int (nI (rw i))]) (rest := []) ⟨hx, hb, hml, hown, htb⟩ (c_S_put l dC dI _ ad cI cL t (bz_bg rw x i) (fun j => nI (rw j), co) v ht _ _ (by omega) (by omega) (decide_eq_true (Nat.le_refl _))) (cwV 2 htb (bz_gV wd_200 wd_197 wd_198 wd_199 wd_21) rfl rfl rfl (by decide +kernel) ⟨Nat.le_of_ble_eq_true rfl, Nat.le_of_ble_eq_true rfl⟩) (bz_wv hN hK hP hD (q0 := 7) rfl rfl) rfl rfl hl.1 rfl (lv_room (Nat.le_of_ble_eq_true rfl)) d_S_beginWith_28 ⟨Nat.zero_le _, Nat.zero_le _⟩) hD hS hA (fun H locs hP hD hS => ?_)
          have hP : va_P (dC, dI) vwCl (bz_wB ad cI cL (bz_tR t) (bz_sR t (bz_pu (bz_bg rw x i) i (rw i))) (fun j => nI (rw j), co) v) H := hP
          have hD : va_D A (bz_wB ad cI cL (bz_tR t) (bz_sR t (bz_pu (bz_bg rw x i) i (rw i))) (fun j => nI (rw j), co) v) := hD
          have e9 : bz_sR t (bz_bg rw x (i + 1)) = bz_sR t (bz_pu (bz_bg rw x i) i (rw i)) := by rw [bz_bg_1]
          have hP : va_P (dC, dI) vwCl (bz_wB ad cI cL (bz_tR t) (bz_sR t (bz_bg rw x (i + 1))) (fun j => nI (rw j), co) v) H := by rw [e9]; exact hP
          have hD : va_D A (bz_wB ad cI cL (bz_tR t) (bz_sR t (bz_bg rw x (i + 1))) (fun j => nI (rw j), co) v) := by rw [e9]; exact hD
          refine lv_iinc (v := nI (i + 1)) (lv' := [(2, .int (nI (i + 1))), (0, .ref (ad 7)), (1, .ref (ad 12))]) hx hb d_S_beginWith_31 hl (k := 2) rfl (nI_1 _) (by decide) rfl (fun ls hl => ?_)
          refine lv_goto (tgt := 6) hx hb d_S_beginWith_34 (by decide) ?_
          exact ihlp (i + 1) (by omega) (by omega) H locs hP hD hS ls (lv_sub hl [1, 2, 0] rfl)
  exact lp _ 0 (Nat.lt_succ_self _) (by omega) H locs hP hD hS ls (lv_sub hl [1, 2, 0] rfl)

set_option maxHeartbeats 4000000 in
set_option maxRecDepth 100000 in
/-- Least.keep -/
theorem c_Le_keep (l : Launch) (dC : Nat → ClassId) (dI : Nat → Nat → Nat) (sz : Nat) (ad : Nat → Nat) (cI cL : ClassId) (t : bz_T) (s2 : bz_S) (L : (Nat → Int32) × Int64) (v : Int32) (ht : bz_ok t) (k : Nat) : Met l y_Le_keep w_Le_keep ({ frames := 1, cells := 0, slots := 0, locals := 60 }) (bz_Pw (dC, dI) [(cI, .int), (cL, .long)] (bz_wB ad cI cL (bz_tR t) (bz_sR t s2) L v) sz [.ref (ad 11), .ref (ad 7), .long (lN k)]) (bz_Qv (dC, dI) [(cI, .int), (cL, .long)] (va_A (bz_wB ad cI cL (bz_tR t) (bz_sR t s2) L v) sz) (bz_wB ad cI cL (bz_tR t) (bz_sR t s2) (fun j => nI (s2.1 j), lN k) v)) 0 0 (va_A (bz_wB ad cI cL (bz_tR t) (bz_sR t s2) L v) sz) := by
  refine Met.ofW (cc := b_Le_keep) (maxL := 4) (ret := none) (by decide) rfl ?_
  intro p e s m args below meth c s₁ B hml hv
  obtain ⟨rfl, hsz, hP, hK, hD0, hN⟩ := hv
  have hx := B.exec
  have hb := B.bytes
  have hr := B.returns
  have hts := atoms_spec (ws := w_Le_keep) B.pre
  have hown : s.vm.findClass R_Le = some m.cls := findClass_of_methodNamed B.named
  have htb : ∀ w ∈ bz_tb, w.before _ s = true := fun w h => hts w (List.mem_cons_of_mem _ h)
  have hlocks := B.notSynchronized
  subst hsz
  have hD := hD0.self (sz := s.heap.size)
  generalize hAe : va_A (bz_wB ad cI cL (bz_tR t) (bz_sR t s2) L v) s.heap.size = A at hD ⊢
  have hA : ∀ q : Nat, s.heap.size ≤ q → A q := fun q h => by rw [← hAe]; exact Or.inr h
  have hS : va_S A s.heap s.heap [] := va_S.rf
  have hl := lv_entry ([.ref (ad 11), .ref (ad 7), .long (lN k)]) (n := 4) (Nat.le_of_ble_eq_true rfl)
  rw [lg_entry_eq]
  generalize (lg_sl ([.ref (ad 11), .ref (ad 7), .long (lN k)]) ++ List.replicate (4 - (lg_sl ([.ref (ad 11), .ref (ad 7), .long (lN k)])).length) Slot.unset).toArray = ls at hl ⊢
  have hl : lv_has ls 4 [(0, .ref (ad 11)), (1, .ref (ad 7)), (2, .long (lN k))] := hl
  refine lv_aload_n hx hb d_Le_keep_0 rfl (lv_at hl 0 rfl) ?_
  refine lv_lload_n hx hb d_Le_keep_1 rfl (lv_at hl 2 rfl) ?_
  refine va_put (D := (dC, dI)) (ci := 0) (v := .long (lN k)) (ty := .long) (C := R_Le) (T := F_Le) (N := 2) hx hb htb in_Le tf_Le tok_Le n_Le hown hK hP hD hS 11 rfl rfl 1 (by decide) (htb _ wd_110) (fun _ h9 => h9) rfl (by decide +kernel) rfl rfl (Nat.le_of_ble_eq_true rfl) d_Le_keep_2 (fun H locs hP hD hS => ?_)
  have hP : va_P (dC, dI) vwCl (bz_wB ad cI cL (bz_tR t) (bz_sR t s2) (L.1, lN k) v) H := hP
  have hD : va_D A (bz_wB ad cI cL (bz_tR t) (bz_sR t s2) (L.1, lN k) v) := hD
  refine lv_aload_n hx hb d_Le_keep_5 rfl (lv_at hl 1 rfl) ?_
  refine va_getN (D := (dC, dI)) (ci := 1) (v := .ref (ad 8)) (C := R_S) (T := F_S) (N := 6) hx hb htb in_S hown hK hP 7 rfl rfl 1 (by decide) (va_Nw.use rfl (hN _ nd_82)) (fun _ h9 => h9) rfl d_Le_keep_6 ?_
  refine lv_iconst (v := 0) hx hb d_Le_keep_9 (by decide) ?_
  refine lv_aload_n hx hb d_Le_keep_10 rfl (lv_at hl 0 rfl) ?_
  refine va_get (D := (dC, dI)) (ci := 0) (v := .ref (ad 12)) (C := R_Le) (T := F_Le) (N := 2) hx hb htb in_Le hown hK hP 11 rfl rfl 0 (by decide) (htb _ wd_108) (fun _ h9 => h9) rfl d_Le_keep_11 ?_
  refine lv_iconst (v := 0) hx hb d_Le_keep_14 (by decide) ?_
  refine lv_bipush (v := 8) hx hb d_Le_keep_15 (by decide) ?_
  refine va_copyi hx hb (hml.trans hl.1.symm) hown (htb _ wd_247) (htb _ wd_249) (htb _ wd_248) (htb _ wd_26) hK hP hD hS 8 12 0 0 rfl rfl rfl rfl rfl (by decide) (by decide) (by decide) (by decide) (by decide) (fun _ _ => rfl) (Nat.le_of_ble_eq_true rfl) (by decide) d_Le_keep_17 (fun H locs hP hD hS => ?_)
  have hP := bz_P_set (q0 := 12) hP rfl (bz_arrI (g := fun j => nI (s2.1 j)) (fun j hj => by rw [show (0 : Int32).toNatClampNeg = 0 from by decide, show (8 : Int32).toNatClampNeg = 8 from by decide, pk_cpy_in (Nat.zero_le _) (by omega)]; show nI (s2.1 (0 + (j - 0))) = _; rw [Nat.zero_add, Nat.sub_zero]))
  have hD := hD.set (p := 12) (e := .inl (cI, 8, .inl (fun j => nI (s2.1 j)))) rfl
  have hP : va_P (dC, dI) vwCl (bz_wB ad cI cL (bz_tR t) (bz_sR t s2) ((fun j => nI (s2.1 j)), lN k) v) H := hP
  have hD : va_D A (bz_wB ad cI cL (bz_tR t) (bz_sR t s2) ((fun j => nI (s2.1 j)), lN k) v) := hD
  exact W.vret hx hb hr (fun t9 ht9 hW => ⟨⟨(), rfl, trivial, by rw [ht9]; exact hP, va_K.moved hW.alike hK, hD⟩, hS.F ht9⟩) hS.2.2 d_Le_keep_20

/-- a number of a round, of an area -/
def bz_ir (z : Int32) : Bool := decide (0 ≤ z ∧ z < 4)
def bz_ia (n : Nat) (z : Int32) : Bool := decide (1 ≤ z ∧ z ≤ nI n)
theorem bz_ir_of {z : Int32} (h : bz_ir z = true) : ∃ r, r < 4 ∧ z = nI r := by
  have h := of_decide_eq_true h
  obtain ⟨j, h1, h2⟩ := nI_of (x := z) (Int32.not_lt.mpr h.1)
  subst h2
  exact ⟨j, (nI_ltI (b := 4) h1 (by omega)).mp h.2, rfl⟩
theorem bz_ia_of {n : Nat} (hn : n ≤ 30) {z : Int32} (h : bz_ia n z = true) : ∃ a, a < n ∧ z = nI (a + 1) := by
  have h := of_decide_eq_true h
  obtain ⟨j, h1, h2⟩ := nI_of (x := z) (Int32.not_lt.mpr (Int32.le_trans (by decide) h.1))
  subst h2
  have q1 := (nI_leI (a := 1) (by omega) h1).mp h.1
  have q2 := (nI_leI h1 (by omega)).mp h.2
  exact ⟨j - 1, by omega, by rw [Nat.sub_add_cancel q1]⟩

set_option maxHeartbeats 4000000 in
set_option maxRecDepth 100000 in
/-- isRound -/
theorem c_B_isRound (l : Launch) (dC : Nat → ClassId) (dI : Nat → Nat → Nat) (ad : Nat → Nat) (cI cL : ClassId) (t : bz_T) (R : bz_RS) (L : (Nat → Int32) × Int64) (v : Int32) (z : Int32) : Met l y_B_isRound w_B_isRound ({ frames := 0, cells := 0, slots := 0, locals := 0 }) (bz_Pr (dC, dI) [(cI, .int), (cL, .long)] (bz_wB ad cI cL (bz_tR t) R L v) [.int z]) (vp_Si (fun r9 => r9 = bz_i (bz_ir z))) 0 0 (fun _ => False) := by
  refine Met.ofW (cc := b_B_isRound) (maxL := 1) (ret := (some .boolean)) (by decide) rfl ?_
  intro p e s m args below meth c s₁ B hml hv
  obtain ⟨rfl, hP, hK, hN⟩ := hv
  have hx := B.exec
  have hb := B.bytes
  have hr := B.returns
  have hts := atoms_spec (ws := w_B_isRound) B.pre
  have hown : s.vm.findClass R_B = some m.cls := findClass_of_methodNamed B.named
  have htb : ∀ w ∈ bz_tb, w.before _ s = true := fun w h => hts w (List.mem_cons_of_mem _ h)
  have hlocks := B.notSynchronized
  have hl := lv_entry ([.int z]) (n := 1) (Nat.le_of_ble_eq_true rfl)
  rw [lg_entry_eq]
  generalize (lg_sl ([.int z]) ++ List.replicate (1 - (lg_sl ([.int z])).length) Slot.unset).toArray = ls at hl ⊢
  have hl : lv_has ls 1 [(0, .int z)] := hl
  refine lv_iload_n hx hb d_B_isRound_0 rfl (lv_at hl 0 rfl) ?_
  refine lv_if_lt (tgt := 13) hx hb d_B_isRound_1 (by decide) (fun c_1 => ?_) (fun c_1 => ?_)
  · skip
    have hq : bz_ir z = false := decide_eq_false fun q => Int32.not_lt.mpr q.1 c_1
    refine lv_iconst (v := 0) hx hb d_B_isRound_13 (by decide) ?_
    exact W.zret (v := 0) hx hb hr (rfl) (fun t9 ht9 hW => ⟨0, rfl, by rw [hq]; rfl, ht9⟩) (fun _ h => nomatch h) d_B_isRound_14
  · skip
    refine lv_iload_n hx hb d_B_isRound_4 rfl (lv_at hl 0 rfl) ?_
    refine lv_iconst (v := 4) hx hb d_B_isRound_5 (by decide) ?_
    refine lv_icmp_ge (tgt := 13) hx hb d_B_isRound_6 (by decide) (fun c_6 => ?_) (fun c_6 => ?_)
    · skip
      have hq : bz_ir z = false := decide_eq_false fun q => Int32.not_lt.mpr c_6 q.2
      refine lv_iconst (v := 0) hx hb d_B_isRound_13 (by decide) ?_
      exact W.zret (v := 0) hx hb hr (rfl) (fun t9 ht9 hW => ⟨0, rfl, by rw [hq]; rfl, ht9⟩) (fun _ h => nomatch h) d_B_isRound_14
    · skip
      have hq : bz_ir z = true := decide_eq_true ⟨Int32.not_lt.mp c_1, Int32.not_le.mp c_6⟩
      refine lv_iconst (v := 1) hx hb d_B_isRound_9 (by decide) ?_
      refine lv_goto (tgt := 14) hx hb d_B_isRound_10 (by decide) ?_
      exact W.zret (v := 1) hx hb hr (rfl) (fun t9 ht9 hW => ⟨1, rfl, by rw [hq]; rfl, ht9⟩) (fun _ h => nomatch h) d_B_isRound_14

set_option maxHeartbeats 4000000 in
set_option maxRecDepth 100000 in
/-- isArea -/
theorem c_B_isArea (l : Launch) (dC : Nat → ClassId) (dI : Nat → Nat → Nat) (ad : Nat → Nat) (cI cL : ClassId) (t : bz_T) (R : bz_RS) (L : (Nat → Int32) × Int64) (v : Int32) (z : Int32) : Met l y_B_isArea w_B_isArea ({ frames := 0, cells := 0, slots := 0, locals := 0 }) (bz_Pr (dC, dI) [(cI, .int), (cL, .long)] (bz_wB ad cI cL (bz_tR t) R L v) [.ref (ad 0), .int z]) (vp_Si (fun r9 => r9 = bz_i (bz_ia (bz_n t) z))) 0 0 (fun _ => False) := by
  refine Met.ofW (cc := b_B_isArea) (maxL := 2) (ret := (some .boolean)) (by decide) rfl ?_
  intro p e s m args below meth c s₁ B hml hv
  obtain ⟨rfl, hP, hK, hN⟩ := hv
  have hx := B.exec
  have hb := B.bytes
  have hr := B.returns
  have hts := atoms_spec (ws := w_B_isArea) B.pre
  have hown : s.vm.findClass R_B = some m.cls := findClass_of_methodNamed B.named
  have htb : ∀ w ∈ bz_tb, w.before _ s = true := fun w h => hts w (List.mem_cons_of_mem _ h)
  have hlocks := B.notSynchronized
  have hl := lv_entry ([.ref (ad 0), .int z]) (n := 2) (Nat.le_of_ble_eq_true rfl)
  rw [lg_entry_eq]
  generalize (lg_sl ([.ref (ad 0), .int z]) ++ List.replicate (2 - (lg_sl ([.ref (ad 0), .int z])).length) Slot.unset).toArray = ls at hl ⊢
  have hl : lv_has ls 2 [(0, .ref (ad 0)), (1, .int z)] := hl
  refine lv_iload_n hx hb d_B_isArea_0 rfl (lv_at hl 1 rfl) ?_
  refine lv_iconst (v := 1) hx hb d_B_isArea_1 (by decide) ?_
  refine lv_icmp_lt (tgt := 20) hx hb d_B_isArea_2 (by decide) (fun c_2 => ?_) (fun c_2 => ?_)
  · skip
    have hq : bz_ia (bz_n t) z = false := decide_eq_false fun q => Int32.not_lt.mpr q.1 c_2
    refine lv_iconst (v := 0) hx hb d_B_isArea_20 (by decide) ?_
    exact W.zret (v := 0) hx hb hr (rfl) (fun t9 ht9 hW => ⟨0, rfl, by rw [hq]; rfl, ht9⟩) (fun _ h => nomatch h) d_B_isArea_21
  · skip
    refine lv_iload_n hx hb d_B_isArea_5 rfl (lv_at hl 1 rfl) ?_
    refine lv_aload_n hx hb d_B_isArea_6 rfl (lv_at hl 0 rfl) ?_
    refine va_get (D := (dC, dI)) (ci := 3) (v := .ref (ad 1)) (C := R_B) (T := F_B) (N := 4) hx hb htb in_B hown hK hP 0 rfl rfl 0 (by decide) (htb _ wd_117) (fun _ h9 => h9) rfl d_B_isArea_7 ?_
    refine va_getN (D := (dC, dI)) (ci := 2) (v := .int (nI (bz_n t))) (C := R_T) (T := F_T) (N := 6) hx hb htb in_T hown hK hP 1 rfl rfl 5 (by decide) (va_Nw.use rfl (hN _ nd_57)) (fun _ h9 => h9) rfl d_B_isArea_10 ?_
    refine lv_icmp_gt (tgt := 20) hx hb d_B_isArea_13 (by decide) (fun c_13 => ?_) (fun c_13 => ?_)
    · skip
      have hq : bz_ia (bz_n t) z = false := decide_eq_false fun q => Int32.not_lt.mpr q.2 c_13
      refine lv_iconst (v := 0) hx hb d_B_isArea_20 (by decide) ?_
      exact W.zret (v := 0) hx hb hr (rfl) (fun t9 ht9 hW => ⟨0, rfl, by rw [hq]; rfl, ht9⟩) (fun _ h => nomatch h) d_B_isArea_21
    · skip
      have hq : bz_ia (bz_n t) z = true := decide_eq_true ⟨Int32.not_lt.mp c_2, Int32.not_lt.mp c_13⟩
      refine lv_iconst (v := 1) hx hb d_B_isArea_16 (by decide) ?_
      refine lv_goto (tgt := 21) hx hb d_B_isArea_17 (by decide) ?_
      exact W.zret (v := 1) hx hb hr (rfl) (fun t9 ht9 hW => ⟨1, rfl, by rw [hq]; rfl, ht9⟩) (fun _ h => nomatch h) d_B_isArea_21

set_option maxHeartbeats 4000000 in
set_option maxRecDepth 100000 in
/-- isForExact -/
theorem c_B_isForExact (l : Launch) (dC : Nat → ClassId) (dI : Nat → Nat → Nat) (ad : Nat → Nat) (cI cL : ClassId) (t : bz_T) (R : bz_RS) (L : (Nat → Int32) × Int64) (v : Int32) (ht : bz_ok t) : Met l y_B_isForExact w_B_isForExact ({ frames := 0, cells := 0, slots := 0, locals := 0 }) (bz_Pr (dC, dI) [(cI, .int), (cL, .long)] (bz_wB ad cI cL (bz_tR t) R L v) [.ref (ad 0)]) (vp_Si (fun r9 => r9 = bz_i (decide (bz_n t ≤ 8)))) 0 0 (fun _ => False) := by
  refine Met.ofW (cc := b_B_isForExact) (maxL := 1) (ret := (some .boolean)) (by decide) rfl ?_
  intro p e s m args below meth c s₁ B hml hv
  obtain ⟨rfl, hP, hK, hN⟩ := hv
  have hx := B.exec
  have hb := B.bytes
  have hr := B.returns
  have hts := atoms_spec (ws := w_B_isForExact) B.pre
  have hown : s.vm.findClass R_B = some m.cls := findClass_of_methodNamed B.named
  have htb : ∀ w ∈ bz_tb, w.before _ s = true := fun w h => hts w (List.mem_cons_of_mem _ h)
  have hlocks := B.notSynchronized
  have hl := lv_entry ([.ref (ad 0)]) (n := 1) (Nat.le_of_ble_eq_true rfl)
  rw [lg_entry_eq]
  generalize (lg_sl ([.ref (ad 0)]) ++ List.replicate (1 - (lg_sl ([.ref (ad 0)])).length) Slot.unset).toArray = ls at hl ⊢
  have hl : lv_has ls 1 [(0, .ref (ad 0))] := hl
  refine lv_aload_n hx hb d_B_isForExact_0 rfl (lv_at hl 0 rfl) ?_
  refine va_get (D := (dC, dI)) (ci := 3) (v := .ref (ad 1)) (C := R_B) (T := F_B) (N := 4) hx hb htb in_B hown hK hP 0 rfl rfl 0 (by decide) (htb _ wd_117) (fun _ h9 => h9) rfl d_B_isForExact_1 ?_
  refine va_getN (D := (dC, dI)) (ci := 2) (v := .int (nI (bz_n t))) (C := R_T) (T := F_T) (N := 6) hx hb htb in_T hown hK hP 1 rfl rfl 5 (by decide) (va_Nw.use rfl (hN _ nd_57)) (fun _ h9 => h9) rfl d_B_isForExact_4 ?_
  refine lv_bipush (v := 8) hx hb d_B_isForExact_7 (by decide) ?_
  refine lv_icmp_gt (tgt := 16) hx hb d_B_isForExact_9 (by decide) (fun c_9 => ?_) (fun c_9 => ?_)
  · skip
    have hq : decide (bz_n t ≤ 8) = false := decide_eq_false fun q => Int32.not_lt.mpr ((nI_leI (b := 8) (by omega) (by omega)).mpr q) c_9
    refine lv_iconst (v := 0) hx hb d_B_isForExact_16 (by decide) ?_
    exact W.zret (v := 0) hx hb hr (rfl) (fun t9 ht9 hW => ⟨0, rfl, by rw [hq]; rfl, ht9⟩) (fun _ h => nomatch h) d_B_isForExact_17
  · skip
    have hq : decide (bz_n t ≤ 8) = true := decide_eq_true ((nI_leI (b := 8) (by have := ht.1; omega) (by omega)).mp (Int32.not_lt.mp c_9))
    refine lv_iconst (v := 1) hx hb d_B_isForExact_12 (by decide) ?_
    refine lv_goto (tgt := 17) hx hb d_B_isForExact_13 (by decide) ?_
    exact W.zret (v := 1) hx hb hr (rfl) (fun t9 ht9 hW => ⟨1, rfl, by rw [hq]; rfl, ht9⟩) (fun _ h => nomatch h) d_B_isForExact_17

set_option maxHeartbeats 4000000 in
set_option maxRecDepth 100000 in
/-- otherRound -/
theorem c_B_otherRound (l : Launch) (dC : Nat → ClassId) (dI : Nat → Nat → Nat) (ad : Nat → Nat) (cI cL : ClassId) (t : bz_T) (R : bz_RS) (L : (Nat → Int32) × Int64) (v : Int32) (r i : Nat) (hr4 : r < 4) (hi4 : i < 4) : Met l y_B_otherRound w_B_otherRound ({ frames := 0, cells := 0, slots := 0, locals := 0 }) (bz_Pr (dC, dI) [(cI, .int), (cL, .long)] (bz_wB ad cI cL (bz_tR t) R L v) [.int (nI r), .int (nI i)]) (vp_Si (fun r9 => r9 = nI (bz_ot r i))) 0 0 (fun _ => False) := by
  refine Met.ofW (cc := b_B_otherRound) (maxL := 2) (ret := (some .int)) (by decide) rfl ?_
  intro p e s m args below meth c s₁ B hml hv
  obtain ⟨rfl, hP, hK, hN⟩ := hv
  have hx := B.exec
  have hb := B.bytes
  have hr := B.returns
  have hts := atoms_spec (ws := w_B_otherRound) B.pre
  have hown : s.vm.findClass R_B = some m.cls := findClass_of_methodNamed B.named
  have htb : ∀ w ∈ bz_tb, w.before _ s = true := fun w h => hts w (List.mem_cons_of_mem _ h)
  have hlocks := B.notSynchronized
  have hl := lv_entry ([.int (nI r), .int (nI i)]) (n := 2) (Nat.le_of_ble_eq_true rfl)
  rw [lg_entry_eq]
  generalize (lg_sl ([.int (nI r), .int (nI i)]) ++ List.replicate (2 - (lg_sl ([.int (nI r), .int (nI i)])).length) Slot.unset).toArray = ls at hl ⊢
  have hl : lv_has ls 2 [(0, .int (nI r)), (1, .int (nI i))] := hl
  refine lv_iload_n hx hb d_B_otherRound_0 rfl (lv_at hl 1 rfl) ?_
  refine lv_iload_n hx hb d_B_otherRound_1 rfl (lv_at hl 0 rfl) ?_
  refine lv_icmp_ge (tgt := 9) hx hb d_B_otherRound_2 (by decide) (fun c_2 => ?_) (fun c_2 => ?_)
  · skip
    have hq : ¬ i < r := Nat.not_lt.mpr ((nI_leI (by omega) (by omega)).mp c_2)
    refine lv_iload_n hx hb d_B_otherRound_9 rfl (lv_at hl 1 rfl) ?_
    refine lv_iconst (v := 1) hx hb d_B_otherRound_10 (by decide) ?_
    refine lv_iadd hx hb d_B_otherRound_11 ?_
    refine bz_ri (y := nI (i + 1)) (nI_1 _) ?_
    exact W.iret (v := nI (i + 1)) hx hb hr (fun t9 ht9 hW => ⟨nI (i + 1), rfl, by unfold bz_ot; rw [if_neg hq], ht9⟩) (fun _ h => nomatch h) d_B_otherRound_12
  · skip
    have hq : i < r := Nat.lt_of_not_le fun q => c_2 ((nI_leI (by omega) (by omega)).mpr q)
    refine lv_iload_n hx hb d_B_otherRound_5 rfl (lv_at hl 1 rfl) ?_
    refine lv_goto (tgt := 12) hx hb d_B_otherRound_6 (by decide) ?_
    exact W.iret (v := nI i) hx hb hr (fun t9 ht9 hW => ⟨nI i, rfl, by unfold bz_ot; rw [if_pos hq], ht9⟩) (fun _ h => nomatch h) d_B_otherRound_12
end
section
theorem d_B_tryRoundsFrom_0 : decode b_B_tryRoundsFrom 0 = .ok (.aload_n 1, 1) := by decide +kernel
theorem d_B_tryRoundsFrom_1 : decode b_B_tryRoundsFrom 1 = .ok (.invokevirtual 143, 3) := by decide +kernel
theorem d_B_tryRoundsFrom_4 : decode b_B_tryRoundsFrom 4 = .ok (.lstore_n 3, 1) := by decide +kernel
theorem d_B_tryRoundsFrom_5 : decode b_B_tryRoundsFrom 5 = .ok (.lload_n 3, 1) := by decide +kernel
theorem d_B_tryRoundsFrom_6 : decode b_B_tryRoundsFrom 6 = .ok (.aload_n 2, 1) := by decide +kernel
theorem d_B_tryRoundsFrom_7 : decode b_B_tryRoundsFrom 7 = .ok (.getfield 146, 3) := by decide +kernel
theorem d_B_tryRoundsFrom_10 : decode b_B_tryRoundsFrom 10 = .ok (.lcmp, 1) := by decide +kernel
theorem d_B_tryRoundsFrom_11 : decode b_B_tryRoundsFrom 11 = .ok (.ifCond .lt 4, 3) := by decide +kernel
theorem d_B_tryRoundsFrom_14 : decode b_B_tryRoundsFrom 14 = .ok (.return_, 1) := by decide +kernel
theorem d_B_tryRoundsFrom_15 : decode b_B_tryRoundsFrom 15 = .ok (.iload_n 0, 1) := by decide +kernel
theorem d_B_tryRoundsFrom_16 : decode b_B_tryRoundsFrom 16 = .ok (.aload_n 1, 1) := by decide +kernel
theorem d_B_tryRoundsFrom_17 : decode b_B_tryRoundsFrom 17 = .ok (.getfield 159, 3) := by decide +kernel
theorem d_B_tryRoundsFrom_20 : decode b_B_tryRoundsFrom 20 = .ok (.getfield 42, 3) := by decide +kernel
theorem d_B_tryRoundsFrom_23 : decode b_B_tryRoundsFrom 23 = .ok (.if_icmp .ge 9, 3) := by decide +kernel
theorem d_B_tryRoundsFrom_26 : decode b_B_tryRoundsFrom 26 = .ok (.iload_n 0, 1) := by decide +kernel
theorem d_B_tryRoundsFrom_27 : decode b_B_tryRoundsFrom 27 = .ok (.bipush 8, 2) := by decide +kernel
theorem d_B_tryRoundsFrom_29 : decode b_B_tryRoundsFrom 29 = .ok (.if_icmp .lt 10, 3) := by decide +kernel
theorem d_B_tryRoundsFrom_32 : decode b_B_tryRoundsFrom 32 = .ok (.aload_n 2, 1) := by decide +kernel
theorem d_B_tryRoundsFrom_33 : decode b_B_tryRoundsFrom 33 = .ok (.aload_n 1, 1) := by decide +kernel
theorem d_B_tryRoundsFrom_34 : decode b_B_tryRoundsFrom 34 = .ok (.lload_n 3, 1) := by decide +kernel
theorem d_B_tryRoundsFrom_35 : decode b_B_tryRoundsFrom 35 = .ok (.invokevirtual 160, 3) := by decide +kernel
theorem d_B_tryRoundsFrom_38 : decode b_B_tryRoundsFrom 38 = .ok (.return_, 1) := by decide +kernel
theorem d_B_tryRoundsFrom_39 : decode b_B_tryRoundsFrom 39 = .ok (.iconst 0, 1) := by decide +kernel
theorem d_B_tryRoundsFrom_40 : decode b_B_tryRoundsFrom 40 = .ok (.istore 5, 2) := by decide +kernel
theorem d_B_tryRoundsFrom_42 : decode b_B_tryRoundsFrom 42 = .ok (.iload 5, 2) := by decide +kernel
theorem d_B_tryRoundsFrom_44 : decode b_B_tryRoundsFrom 44 = .ok (.iconst 4, 1) := by decide +kernel
theorem d_B_tryRoundsFrom_45 : decode b_B_tryRoundsFrom 45 = .ok (.if_icmp .ge 29, 3) := by decide +kernel
theorem d_B_tryRoundsFrom_48 : decode b_B_tryRoundsFrom 48 = .ok (.aload_n 1, 1) := by decide +kernel
theorem d_B_tryRoundsFrom_49 : decode b_B_tryRoundsFrom 49 = .ok (.iload_n 0, 1) := by decide +kernel
theorem d_B_tryRoundsFrom_50 : decode b_B_tryRoundsFrom 50 = .ok (.iload 5, 2) := by decide +kernel
theorem d_B_tryRoundsFrom_52 : decode b_B_tryRoundsFrom 52 = .ok (.invokevirtual 164, 3) := by decide +kernel
theorem d_B_tryRoundsFrom_55 : decode b_B_tryRoundsFrom 55 = .ok (.iload_n 0, 1) := by decide +kernel
theorem d_B_tryRoundsFrom_56 : decode b_B_tryRoundsFrom 56 = .ok (.iconst 1, 1) := by decide +kernel
theorem d_B_tryRoundsFrom_57 : decode b_B_tryRoundsFrom 57 = .ok (.iadd, 1) := by decide +kernel
theorem d_B_tryRoundsFrom_58 : decode b_B_tryRoundsFrom 58 = .ok (.aload_n 1, 1) := by decide +kernel
theorem d_B_tryRoundsFrom_59 : decode b_B_tryRoundsFrom 59 = .ok (.aload_n 2, 1) := by decide +kernel
theorem d_B_tryRoundsFrom_60 : decode b_B_tryRoundsFrom 60 = .ok (.invokestatic 152, 3) := by decide +kernel
theorem d_B_tryRoundsFrom_63 : decode b_B_tryRoundsFrom 63 = .ok (.aload_n 1, 1) := by decide +kernel
theorem d_B_tryRoundsFrom_64 : decode b_B_tryRoundsFrom 64 = .ok (.iload_n 0, 1) := by decide +kernel
theorem d_B_tryRoundsFrom_65 : decode b_B_tryRoundsFrom 65 = .ok (.invokevirtual 167, 3) := by decide +kernel
theorem d_B_tryRoundsFrom_68 : decode b_B_tryRoundsFrom 68 = .ok (.iinc 5 1, 3) := by decide +kernel
theorem d_B_tryRoundsFrom_71 : decode b_B_tryRoundsFrom 71 = .ok (.goto (-29), 3) := by decide +kernel
theorem d_B_tryRoundsFrom_74 : decode b_B_tryRoundsFrom 74 = .ok (.return_, 1) := by decide +kernel
theorem d_B_findLeastShare_0 : decode b_B_findLeastShare 0 = .ok (.aload_n 0, 1) := by decide +kernel
theorem d_B_findLeastShare_1 : decode b_B_findLeastShare 1 = .ok (.getfield 21, 3) := by decide +kernel
theorem d_B_findLeastShare_4 : decode b_B_findLeastShare 4 = .ok (.aload_n 0, 1) := by decide +kernel
theorem d_B_findLeastShare_5 : decode b_B_findLeastShare 5 = .ok (.getfield 12, 3) := by decide +kernel
theorem d_B_findLeastShare_8 : decode b_B_findLeastShare 8 = .ok (.getfield 136, 3) := by decide +kernel
theorem d_B_findLeastShare_11 : decode b_B_findLeastShare 11 = .ok (.invokevirtual 139, 3) := by decide +kernel
theorem d_B_findLeastShare_14 : decode b_B_findLeastShare 14 = .ok (.aload_n 0, 1) := by decide +kernel
theorem d_B_findLeastShare_15 : decode b_B_findLeastShare 15 = .ok (.getfield 28, 3) := by decide +kernel
theorem d_B_findLeastShare_18 : decode b_B_findLeastShare 18 = .ok (.aload_n 0, 1) := by decide +kernel
theorem d_B_findLeastShare_19 : decode b_B_findLeastShare 19 = .ok (.getfield 21, 3) := by decide +kernel
theorem d_B_findLeastShare_22 : decode b_B_findLeastShare 22 = .ok (.invokevirtual 143, 3) := by decide +kernel
theorem d_B_findLeastShare_25 : decode b_B_findLeastShare 25 = .ok (.lconst 1, 1) := by decide +kernel
theorem d_B_findLeastShare_26 : decode b_B_findLeastShare 26 = .ok (.ladd, 1) := by decide +kernel
theorem d_B_findLeastShare_27 : decode b_B_findLeastShare 27 = .ok (.putfield 146, 3) := by decide +kernel
theorem d_B_findLeastShare_30 : decode b_B_findLeastShare 30 = .ok (.aload_n 0, 1) := by decide +kernel
theorem d_B_findLeastShare_31 : decode b_B_findLeastShare 31 = .ok (.getfield 21, 3) := by decide +kernel
theorem d_B_findLeastShare_34 : decode b_B_findLeastShare 34 = .ok (.invokevirtual 149, 3) := by decide +kernel
theorem d_B_findLeastShare_37 : decode b_B_findLeastShare 37 = .ok (.iconst 0, 1) := by decide +kernel
theorem d_B_findLeastShare_38 : decode b_B_findLeastShare 38 = .ok (.aload_n 0, 1) := by decide +kernel
theorem d_B_findLeastShare_39 : decode b_B_findLeastShare 39 = .ok (.getfield 21, 3) := by decide +kernel
theorem d_B_findLeastShare_42 : decode b_B_findLeastShare 42 = .ok (.aload_n 0, 1) := by decide +kernel
theorem d_B_findLeastShare_43 : decode b_B_findLeastShare 43 = .ok (.getfield 28, 3) := by decide +kernel
theorem d_B_findLeastShare_46 : decode b_B_findLeastShare 46 = .ok (.invokestatic 152, 3) := by decide +kernel
theorem d_B_findLeastShare_49 : decode b_B_findLeastShare 49 = .ok (.aload_n 0, 1) := by decide +kernel
theorem d_B_findLeastShare_50 : decode b_B_findLeastShare 50 = .ok (.getfield 21, 3) := by decide +kernel
theorem d_B_findLeastShare_53 : decode b_B_findLeastShare 53 = .ok (.aload_n 0, 1) := by decide +kernel
theorem d_B_findLeastShare_54 : decode b_B_findLeastShare 54 = .ok (.getfield 28, 3) := by decide +kernel
theorem d_B_findLeastShare_57 : decode b_B_findLeastShare 57 = .ok (.getfield 156, 3) := by decide +kernel
theorem d_B_findLeastShare_60 : decode b_B_findLeastShare 60 = .ok (.invokevirtual 139, 3) := by decide +kernel
theorem d_B_findLeastShare_63 : decode b_B_findLeastShare 63 = .ok (.return_, 1) := by decide +kernel

theorem bz_be_pu (k r : Nat) (f : Nat → Nat) : bz_pu (bz_be k f) k r = bz_be (k + 1) (va_up f k r) := by
  refine Prod.ext rfl (funext fun a => ?_)
  show va_up _ k false a = decide (k + 1 ≤ a)
  by_cases e : a = k
  · subst e
    rw [bz_up_s, decide_eq_false (by omega)]
  · rw [bz_up_n _ _ e]
    show decide (k ≤ a) = _
    exact decide_eq_decide.mpr (by omega)
theorem bz_be_ta (k : Nat) (f : Nat → Nat) : bz_ta (bz_be (k + 1) f) k = bz_be k f := by
  refine Prod.ext rfl (funext fun a => ?_)
  show va_up _ k true a = decide (k ≤ a)
  by_cases e : a = k
  · subst e
    rw [bz_up_s, decide_eq_true (by omega)]
  · rw [bz_up_n _ _ e]
    show decide (k + 1 ≤ a) = _
    exact decide_eq_decide.mpr (by omega)
theorem bz_be_0 (f : Nat → Nat) : bz_be 0 f = (f, fun _ => true) := Prod.ext rfl (funext fun a => decide_eq_true (Nat.zero_le a))

/-- the contract of the search from area k on, d areas being open -/
def bz_TC (l : Launch) (dC : Nat → ClassId) (dI : Nat → Nat → Nat) (ad : Nat → Nat) (cI cL : ClassId) (t : bz_T) (v : Int32) (d : Nat) : Prop :=
  ∀ (sz k : Nat) (f : Nat → Nat) (b : Nat × (Nat → Nat)), k + d = bz_n t → (∀ a, a < k → f a < 4) → b.1 ≤ 124003000000031 → bz_n t ≤ 8 → Met l y_B_tryRoundsFrom w_B_tryRoundsFrom ({ frames := 4 + d, cells := 0, slots := 0, locals := 89 + 25 * d }) (bz_Pw (dC, dI) [(cI, .int), (cL, .long)] (bz_wB ad cI cL (bz_tR t) (bz_sR t (bz_be k f)) (fun j => nI (b.2 j), lN b.1) v) sz [.int (nI k), .ref (ad 7), .ref (ad 11)]) (bz_Qx (dC, dI) [(cI, .int), (cL, .long)] (va_A (bz_wB ad cI cL (bz_tR t) (bz_sR t (bz_be k f)) (fun j => nI (b.2 j), lN b.1) v) sz) (fun u : (Nat → Nat) × (Nat × (Nat → Nat)) => (∀ a, a < k → u.1 a = f a) ∧ bz_up t (bz_E t k f) b u.2 ∧ u.2.1 ≤ b.1) (fun u : (Nat → Nat) × (Nat × (Nat → Nat)) => bz_wB ad cI cL (bz_tR t) (bz_sR t (bz_be k u.1)) (fun j => nI (u.2.2 j), lN u.2.1) v)) 0 0 (va_A (bz_wB ad cI cL (bz_tR t) (bz_sR t (bz_be k f)) (fun j => nI (b.2 j), lN b.1) v) sz)

set_option maxHeartbeats 4000000 in
set_option maxRecDepth 100000 in
/-- tryRoundsFrom, one level -/
theorem c_B_tryRoundsFrom (l : Launch) (dC : Nat → ClassId) (dI : Nat → Nat → Nat) (sz : Nat) (ad : Nat → Nat) (cI cL : ClassId) (t : bz_T) (v : Int32) (ht : bz_ok t) (d : Nat) (ih : ∀ d2, d2 + 1 = d → bz_TC l dC dI ad cI cL t v d2) (k : Nat) (f : Nat → Nat) (b : Nat × (Nat → Nat)) (hkd : k + d = bz_n t) (hf : ∀ a, a < k → f a < 4) (hb0 : b.1 ≤ 124003000000031) (hn8 : bz_n t ≤ 8) : Met l y_B_tryRoundsFrom w_B_tryRoundsFrom ({ frames := 4 + d, cells := 0, slots := 0, locals := 89 + 25 * d }) (bz_Pw (dC, dI) [(cI, .int), (cL, .long)] (bz_wB ad cI cL (bz_tR t) (bz_sR t (bz_be k f)) (fun j => nI (b.2 j), lN b.1) v) sz [.int (nI k), .ref (ad 7), .ref (ad 11)]) (bz_Qx (dC, dI) [(cI, .int), (cL, .long)] (va_A (bz_wB ad cI cL (bz_tR t) (bz_sR t (bz_be k f)) (fun j => nI (b.2 j), lN b.1) v) sz) (fun u : (Nat → Nat) × (Nat × (Nat → Nat)) => (∀ a, a < k → u.1 a = f a) ∧ bz_up t (bz_E t k f) b u.2 ∧ u.2.1 ≤ b.1) (fun u : (Nat → Nat) × (Nat × (Nat → Nat)) => bz_wB ad cI cL (bz_tR t) (bz_sR t (bz_be k u.1)) (fun j => nI (u.2.2 j), lN u.2.1) v)) 0 0 (va_A (bz_wB ad cI cL (bz_tR t) (bz_sR t (bz_be k f)) (fun j => nI (b.2 j), lN b.1) v) sz) := by
  refine Met.ofW (cc := b_B_tryRoundsFrom) (maxL := 6) (ret := none) (by decide) rfl ?_
  intro p e s m args below meth c s₁ B hml hv
  obtain ⟨rfl, hsz, hP, hK, hD0, hN⟩ := hv
  have hx := B.exec
  have hb := B.bytes
  have hr := B.returns
  have hts := atoms_spec (ws := w_B_tryRoundsFrom) B.pre
  have hown : s.vm.findClass R_B = some m.cls := findClass_of_methodNamed B.named
  have htb : ∀ w ∈ bz_tb, w.before _ s = true := fun w h => hts w (List.mem_cons_of_mem _ h)
  have hlocks := B.notSynchronized
  subst hsz
  have hD := hD0.self (sz := s.heap.size)
  generalize hAe : va_A (bz_wB ad cI cL (bz_tR t) (bz_sR t (bz_be k f)) (fun j => nI (b.2 j), lN b.1) v) s.heap.size = A at hD ⊢
  have hA : ∀ q : Nat, s.heap.size ≤ q → A q := fun q h => by rw [← hAe]; exact Or.inr h
  have hS : va_S A s.heap s.heap [] := va_S.rf
  have hl := lv_entry ([.int (nI k), .ref (ad 7), .ref (ad 11)]) (n := 6) (Nat.le_of_ble_eq_true rfl)
  rw [lg_entry_eq]
  generalize (lg_sl ([.int (nI k), .ref (ad 7), .ref (ad 11)]) ++ List.replicate (6 - (lg_sl ([.int (nI k), .ref (ad 7), .ref (ad 11)])).length) Slot.unset).toArray = ls at hl ⊢
  have hl : lv_has ls 6 [(0, .int (nI k)), (1, .ref (ad 7)), (2, .ref (ad 11))] := hl
  have hn30 := ht.1
  have hcb := bz_co_le ht (bz_be k f)
  refine lv_aload_n hx hb d_B_tryRoundsFrom_0 rfl (lv_at hl 1 rfl) ?_
  refine bz_sl (va_runV (As := []) (rest := []) ⟨hx, hb, hml, hown, htb⟩ (c_S_cost l dC dI ad cI cL t (bz_be k f) (fun j => nI (b.2 j), lN b.1) v ht) (cwV 0 htb (bz_gV wd_211 wd_208 wd_209 wd_210 wd_21) rfl rfl rfl (by decide +kernel) ⟨show 4 ≤ 4 + d by omega, show 89 ≤ 89 + 25 * d by omega⟩) (bz_rv hN hK hP (q0 := 7) rfl rfl) rfl rfl hl.1 rfl (lv_room (Nat.le_of_ble_eq_true rfl)) d_B_tryRoundsFrom_1 ⟨Nat.zero_le _, Nat.zero_le _⟩) ?_
  refine lv_lstore_n (lv' := [(3, .long (lN (bz_co t (bz_be k f)))), (0, .int (nI k)), (1, .ref (ad 7)), (2, .ref (ad 11))]) hx hb d_B_tryRoundsFrom_4 rfl hl (by decide) rfl (fun ls hl => ?_)
  refine lv_lload_n hx hb d_B_tryRoundsFrom_5 rfl (lv_at hl 0 rfl) ?_
  refine lv_aload_n hx hb d_B_tryRoundsFrom_6 rfl (lv_at hl 3 rfl) ?_
  refine va_getN (D := (dC, dI)) (ci := 0) (v := .long (lN b.1)) (C := R_Le) (T := F_Le) (N := 2) hx hb htb in_Le hown hK hP 11 rfl rfl 1 (by decide) (va_Nw.use rfl (hN _ nd_111)) (fun _ h9 => h9) rfl d_B_tryRoundsFrom_7 ?_
  refine W.lcmp hx hb d_B_tryRoundsFrom_10 ?_
  refine lv_if_lt (tgt := 15) hx hb d_B_tryRoundsFrom_11 (by decide) (fun c_11 => ?_) (fun c_11 => ?_)
  · skip
    have hco : bz_co t (bz_be k f) < b.1 := (bz_lc_lt (by omega) (by omega)).mp c_11
    refine lv_iload_n hx hb d_B_tryRoundsFrom_15 rfl (lv_at hl 1 rfl) ?_
    refine lv_aload_n hx hb d_B_tryRoundsFrom_16 rfl (lv_at hl 2 rfl) ?_
    refine va_getN (D := (dC, dI)) (ci := 1) (v := .ref (ad 1)) (C := R_S) (T := F_S) (N := 6) hx hb htb in_S hown hK hP 7 rfl rfl 0 (by decide) (va_Nw.use rfl (hN _ nd_80)) (fun _ h9 => h9) rfl d_B_tryRoundsFrom_17 ?_
    refine va_getN (D := (dC, dI)) (ci := 2) (v := .int (nI (bz_n t))) (C := R_T) (T := F_T) (N := 6) hx hb htb in_T hown hK hP 1 rfl rfl 5 (by decide) (va_Nw.use rfl (hN _ nd_57)) (fun _ h9 => h9) rfl d_B_tryRoundsFrom_20 ?_
    refine lv_icmp_ge (tgt := 32) hx hb d_B_tryRoundsFrom_23 (by decide) (fun c_23 => ?_) (fun c_23 => ?_)
    · skip
      have hkn := (nI_leI (by omega) (by omega)).mp c_23
      refine lv_aload_n hx hb d_B_tryRoundsFrom_32 rfl (lv_at hl 3 rfl) ?_
      refine lv_aload_n hx hb d_B_tryRoundsFrom_33 rfl (lv_at hl 2 rfl) ?_
      refine lv_lload_n hx hb d_B_tryRoundsFrom_34 rfl (lv_at hl 0 rfl) ?_
      refine bz_cv (va_runV (As := [.ref (ad 7), .long (lN (bz_co t (bz_be k f)))]) (rest := []) ⟨hx, hb, hml, hown, htb⟩ (c_Le_keep l dC dI _ ad cI cL t (bz_be k f) (fun j => nI (b.2 j), lN b.1) v ht _) (cwV 2 htb (bz_gV wd_246 wd_243 wd_244 wd_245 wd_22) rfl rfl rfl (by decide +kernel) ⟨show 2 ≤ 4 + d by omega, show 83 ≤ 89 + 25 * d by omega⟩) (bz_wv hN hK hP hD (q0 := 11) rfl rfl) rfl rfl hl.1 rfl (lv_room (Nat.le_of_ble_eq_true rfl)) d_B_tryRoundsFrom_35 ⟨Nat.zero_le _, Nat.zero_le _⟩) hD hS hA (fun H locs hP hD hS => ?_)
      have hP : va_P (dC, dI) vwCl (bz_wB ad cI cL (bz_tR t) (bz_sR t (bz_be k f)) ((fun j => nI ((bz_be k f).1 j)), lN (bz_co t (bz_be k f))) v) H := hP
      have hD : va_D A (bz_wB ad cI cL (bz_tR t) (bz_sR t (bz_be k f)) ((fun j => nI ((bz_be k f).1 j)), lN (bz_co t (bz_be k f))) v) := hD
      exact W.vret hx hb hr (fun t9 ht9 hW => ⟨⟨(f, (bz_co t (bz_be k f), f)), rfl, ⟨fun _ _ => rfl, bz_leaf (by omega) (fun a ha => hf a (by omega)) (fun _ _ => rfl) hco, Nat.le_of_lt hco⟩, by rw [ht9]; exact hP, va_K.moved hW.alike hK, hD⟩, hS.F ht9⟩) hS.2.2 d_B_tryRoundsFrom_38
    · skip
      have hkn : k < bz_n t := Nat.lt_of_not_le fun z => c_23 ((nI_leI (by omega) (by omega)).mpr z)
      refine lv_iload_n hx hb d_B_tryRoundsFrom_26 rfl (lv_at hl 1 rfl) ?_
      refine lv_bipush (v := 8) hx hb d_B_tryRoundsFrom_27 (by decide) ?_
      refine lv_icmp_lt (tgt := 39) hx hb d_B_tryRoundsFrom_29 (by decide) (fun c_29 => ?_) (fun c_29 => ?_)
      · skip
        refine lv_iconst (v := nI 0) hx hb d_B_tryRoundsFrom_39 (by decide) ?_
        refine lv_istore (lv' := [(5, .int (nI 0)), (3, .long (lN (bz_co t (bz_be k f)))), (0, .int (nI k)), (1, .ref (ad 7)), (2, .ref (ad 11))]) hx hb d_B_tryRoundsFrom_40 hl (by decide) rfl (fun ls hl => ?_)
        have lp : ∀ (k9 : Nat) (j : Nat) (f2 : Nat → Nat) (c2 : Nat × (Nat → Nat)), 4 - j < k9 → (j ≤ 4) → (∀ a, a < k → f2 a = f a) → (bz_up t (fun s => bz_E t k f s ∧ s k < j) b c2) → (c2.1 ≤ b.1) → ∀ (H : Heap) (locs : List Loc), va_P (dC, dI) vwCl (bz_wB ad cI cL (bz_tR t) (bz_sR t (bz_be k f2)) (fun j => nI (c2.2 j), lN c2.1) v) H → va_D A (bz_wB ad cI cL (bz_tR t) (bz_sR t (bz_be k f2)) (fun j => nI (c2.2 j), lN c2.1) v) → va_S A s.heap H locs → ∀ (ls : Array Slot), lv_has ls 6 [(0, .int (nI k)), (1, .ref (ad 7)), (2, .ref (ad 11)), (5, .int (nI j))] → W p l e (headSpec w_B_tryRoundsFrom ({ frames := 4 + d, cells := 0, slots := 0, locals := 89 + 25 * d })).room s m ([.int (nI k), .ref (ad 7), .ref (ad 11)]).toArray below meth c H locs 0 0 (MQ below (bz_Qx (dC, dI) [(cI, .int), (cL, .long)] A (fun u : (Nat → Nat) × (Nat × (Nat → Nat)) => (∀ a, a < k → u.1 a = f a) ∧ bz_up t (bz_E t k f) b u.2 ∧ u.2.1 ≤ b.1) (fun u : (Nat → Nat) × (Nat × (Nat → Nat)) => bz_wB ad cI cL (bz_tR t) (bz_sR t (bz_be k u.1)) (fun j => nI (u.2.2 j), lN u.2.1) v)) ([.int (nI k), .ref (ad 7), .ref (ad 11)]).toArray s 0 0 (A)) (F0 m 42 ls []) := by
          intro k9
          induction k9 with
          | zero =>
            intro j f2 c2 h9
            exact absurd h9 (Nat.not_lt_zero _)
          | succ k9 ihlp =>
            intro j f2 c2 h9_lp hj hf2 hup hc2 H locs hP hD hS ls hl
            refine lv_iload hx hb d_B_tryRoundsFrom_42 (lv_at hl 3 rfl) ?_
            refine lv_iconst (v := 4) hx hb d_B_tryRoundsFrom_44 (by decide) ?_
            refine lv_icmp_ge (tgt := 74) hx hb d_B_tryRoundsFrom_45 (by decide) (fun c_45 => ?_) (fun c_45 => ?_)
            · skip
              have hj4 : j = 4 := by have := (nI_leI (a := 4) (by omega) (by omega)).mp c_45; omega
              exact W.vret hx hb hr (fun t9 ht9 hW => ⟨⟨(f2, c2), rfl, ⟨hf2, bz_rd4 (by omega) (by rw [← hj4]; exact hup), hc2⟩, by rw [ht9]; exact hP, va_K.moved hW.alike hK, hD⟩, hS.F ht9⟩) hS.2.2 d_B_tryRoundsFrom_74
            · skip
              have hj4 : j < 4 := Nat.lt_of_not_le fun z => c_45 ((nI_leI (a := 4) (b := j) (by omega) (by omega)).mpr z)
              refine lv_aload_n hx hb d_B_tryRoundsFrom_48 rfl (lv_at hl 1 rfl) ?_
              refine lv_iload_n hx hb d_B_tryRoundsFrom_49 rfl (lv_at hl 0 rfl) ?_
              refine lv_iload hx hb d_B_tryRoundsFrom_50 (lv_at hl 3 rfl) ?_
              refine bz_cv (va_runV (As := [.int (nI k), .int (nI j)]) (rest := []) ⟨hx, hb, hml, hown, htb⟩ (c_S_put l dC dI _ ad cI cL t (bz_be k f2) (fun j => nI (c2.2 j), lN c2.1) v ht _ _ (by omega) (by omega) (decide_eq_true (Nat.le_refl _))) (cwV 2 htb (bz_gV wd_200 wd_250 wd_198 wd_199 wd_21) rfl rfl rfl (by decide +kernel) ⟨show 3 ≤ 4 + d by omega, show 66 ≤ 89 + 25 * d by omega⟩) (bz_wv hN hK hP hD (q0 := 7) rfl rfl) rfl rfl hl.1 rfl (lv_room (Nat.le_of_ble_eq_true rfl)) d_B_tryRoundsFrom_52 ⟨Nat.zero_le _, Nat.zero_le _⟩) hD hS hA (fun H locs hP hD hS => ?_)
              have hP : va_P (dC, dI) vwCl (bz_wB ad cI cL (bz_tR t) (bz_sR t (bz_pu (bz_be k f2) k j)) (fun j => nI (c2.2 j), lN c2.1) v) H := hP
              have hD : va_D A (bz_wB ad cI cL (bz_tR t) (bz_sR t (bz_pu (bz_be k f2) k j)) (fun j => nI (c2.2 j), lN c2.1) v) := hD
              have e9 : bz_sR t (bz_be (k + 1) (va_up f2 k j)) = bz_sR t (bz_pu (bz_be k f2) k j) := by rw [bz_be_pu]
              have hP : va_P (dC, dI) vwCl (bz_wB ad cI cL (bz_tR t) (bz_sR t (bz_be (k + 1) (va_up f2 k j))) (fun j => nI (c2.2 j), lN c2.1) v) H := by rw [e9]; exact hP
              have hD : va_D A (bz_wB ad cI cL (bz_tR t) (bz_sR t (bz_be (k + 1) (va_up f2 k j))) (fun j => nI (c2.2 j), lN c2.1) v) := by rw [e9]; exact hD
              refine lv_iload_n hx hb d_B_tryRoundsFrom_55 rfl (lv_at hl 0 rfl) ?_
              refine lv_iconst (v := 1) hx hb d_B_tryRoundsFrom_56 (by decide) ?_
              refine lv_iadd hx hb d_B_tryRoundsFrom_57 ?_
              refine bz_ri (y := nI (k + 1)) (nI_1 _) ?_
              refine lv_aload_n hx hb d_B_tryRoundsFrom_58 rfl (lv_at hl 1 rfl) ?_
              refine lv_aload_n hx hb d_B_tryRoundsFrom_59 rfl (lv_at hl 2 rfl) ?_
              obtain ⟨d2, hd2⟩ : ∃ d2, d2 + 1 = d := ⟨d - 1, by omega⟩
              refine bz_cx (va_runS (As := [.int (nI (k + 1)), .ref (ad 7), .ref (ad 11)]) (rest := []) ⟨hx, hb, hml, hown, htb⟩ (ih d2 hd2 _ (k + 1) (va_up f2 k j) c2 (by omega) (fun a ha => by by_cases e : a = k; { subst e; rw [bz_up_s]; omega }; { rw [bz_up_n _ _ e, hf2 a (by omega)]; exact hf a (by omega) }) (by omega) hn8) (va_cwS 3 htb (bz_gS wd_242 wd_240 wd_241 wd_19) rfl rfl rfl (by decide +kernel) ⟨show 4 + d2 + 1 ≤ 4 + d by omega, show 8 + (6 + 11) + (89 + 25 * d2) ≤ 89 + 25 * d by omega⟩) (bz_ws hN hK hP hD) rfl rfl hl.1 rfl (lv_room (Nat.le_of_ble_eq_true rfl)) d_B_tryRoundsFrom_60 ⟨Nat.zero_le _, Nat.zero_le _⟩) hD hS hA (fun u hu H locs hP hD hS => ?_)
              obtain ⟨f3, c3⟩ := u
              obtain ⟨hu1, hu2, hu3⟩ := hu
              dsimp only at hu1 hu2 hu3 hP hD
              have hP : va_P (dC, dI) vwCl (bz_wB ad cI cL (bz_tR t) (bz_sR t (bz_be (k + 1) f3)) (fun j => nI (c3.2 j), lN c3.1) v) H := hP
              have hD : va_D A (bz_wB ad cI cL (bz_tR t) (bz_sR t (bz_be (k + 1) f3)) (fun j => nI (c3.2 j), lN c3.1) v) := hD
              have hk3 : f3 k = j := by rw [hu1 k (by omega), bz_up_s]
              refine lv_aload_n hx hb d_B_tryRoundsFrom_63 rfl (lv_at hl 1 rfl) ?_
              refine lv_iload_n hx hb d_B_tryRoundsFrom_64 rfl (lv_at hl 0 rfl) ?_
              refine bz_cv (va_runV (As := [.int (nI k)]) (rest := []) ⟨hx, hb, hml, hown, htb⟩ (c_S_take l dC dI _ ad cI cL t (bz_be (k + 1) f3) (fun j => nI (c3.2 j), lN c3.1) v ht _ (by omega) (by show f3 k < 4; omega) (decide_eq_false (Nat.not_succ_le_self k))) (cwV 1 htb (bz_gV wd_254 wd_251 wd_252 wd_253 wd_21) rfl rfl rfl (by decide +kernel) ⟨show 3 ≤ 4 + d by omega, show 66 ≤ 89 + 25 * d by omega⟩) (bz_wv hN hK hP hD (q0 := 7) rfl rfl) rfl rfl hl.1 rfl (lv_room (Nat.le_of_ble_eq_true rfl)) d_B_tryRoundsFrom_65 ⟨Nat.zero_le _, Nat.zero_le _⟩) hD hS hA (fun H locs hP hD hS => ?_)
              have hP : va_P (dC, dI) vwCl (bz_wB ad cI cL (bz_tR t) (bz_sR t (bz_ta (bz_be (k + 1) f3) k)) (fun j => nI (c3.2 j), lN c3.1) v) H := hP
              have hD : va_D A (bz_wB ad cI cL (bz_tR t) (bz_sR t (bz_ta (bz_be (k + 1) f3) k)) (fun j => nI (c3.2 j), lN c3.1) v) := hD
              have e9 : bz_sR t (bz_be k f3) = bz_sR t (bz_ta (bz_be (k + 1) f3) k) := by rw [bz_be_ta]
              have hP : va_P (dC, dI) vwCl (bz_wB ad cI cL (bz_tR t) (bz_sR t (bz_be k f3)) (fun j => nI (c3.2 j), lN c3.1) v) H := by rw [e9]; exact hP
              have hD : va_D A (bz_wB ad cI cL (bz_tR t) (bz_sR t (bz_be k f3)) (fun j => nI (c3.2 j), lN c3.1) v) := by rw [e9]; exact hD
              refine lv_iinc (v := nI (j + 1)) (lv' := [(5, .int (nI (j + 1))), (0, .int (nI k)), (1, .ref (ad 7)), (2, .ref (ad 11))]) hx hb d_B_tryRoundsFrom_68 hl (k := 3) rfl (nI_1 _) (by decide) rfl (fun ls hl => ?_)
              refine lv_goto (tgt := 42) hx hb d_B_tryRoundsFrom_71 (by decide) ?_
              exact ihlp (j + 1) f3 c3 (by omega) (by omega) (fun a ha => by rw [hu1 a (by omega), bz_up_n _ _ (by omega), hf2 a ha]) (bz_rd1 (by omega) (fun a ha => by rw [bz_up_n _ _ (by omega), hf2 a ha]) (bz_up_s _ _ _) hup hu2) (by omega) _ _ hP hD hS ls (lv_sub hl [1, 2, 3, 0] rfl)
        exact lp _ 0 f b (Nat.lt_succ_self _) (by omega) (fun _ _ => rfl) (bz_rd0) (Nat.le_refl _) _ _ hP hD hS ls (lv_sub hl [2, 3, 4, 0] rfl)
      · skip
        exact absurd ((nI_ltI (a := k) (b := 8) (by omega) (by omega)).mpr (by omega)) c_29
  · skip
    have hco : b.1 ≤ bz_co t (bz_be k f) := Nat.le_of_not_lt fun z => c_11 ((bz_lc_lt (by omega) (by omega)).mpr z)
    exact W.vret hx hb hr (fun t9 ht9 hW => ⟨⟨(f, b), rfl, ⟨fun _ _ => rfl, bz_cut (by omega) hco, Nat.le_refl _⟩, by rw [ht9]; exact hP, va_K.moved hW.alike hK, hD⟩, hS.F ht9⟩) hS.2.2 d_B_tryRoundsFrom_14

theorem bz_TC_all (l : Launch) (dC : Nat → ClassId) (dI : Nat → Nat → Nat) (ad : Nat → Nat) (cI cL : ClassId) (t : bz_T) (v : Int32) (ht : bz_ok t) : ∀ d, bz_TC l dC dI ad cI cL t v d := by
  intro d
  induction d with
  | zero => exact fun sz k f b h1 h2 h3 h4 => c_B_tryRoundsFrom l dC dI sz ad cI cL t v ht 0 (fun d2 h => absurd h (by omega)) k f b h1 h2 h3 h4
  | succ d ih => exact fun sz k f b h1 h2 h3 h4 => c_B_tryRoundsFrom l dC dI sz ad cI cL t v ht (d + 1) (fun d2 h => by rw [show d2 = d by omega]; exact ih) k f b h1 h2 h3 h4
end
section
theorem d_B_improveByMoves_0 : decode b_B_improveByMoves 0 = .ok (.aload_n 0, 1) := by decide +kernel
theorem d_B_improveByMoves_1 : decode b_B_improveByMoves 1 = .ok (.getfield 21, 3) := by decide +kernel
theorem d_B_improveByMoves_4 : decode b_B_improveByMoves 4 = .ok (.aload_n 0, 1) := by decide +kernel
theorem d_B_improveByMoves_5 : decode b_B_improveByMoves 5 = .ok (.getfield 12, 3) := by decide +kernel
theorem d_B_improveByMoves_8 : decode b_B_improveByMoves 8 = .ok (.getfield 136, 3) := by decide +kernel
theorem d_B_improveByMoves_11 : decode b_B_improveByMoves 11 = .ok (.invokevirtual 139, 3) := by decide +kernel
theorem d_B_improveByMoves_14 : decode b_B_improveByMoves 14 = .ok (.aload_n 0, 1) := by decide +kernel
theorem d_B_improveByMoves_15 : decode b_B_improveByMoves 15 = .ok (.getfield 21, 3) := by decide +kernel
theorem d_B_improveByMoves_18 : decode b_B_improveByMoves 18 = .ok (.invokevirtual 143, 3) := by decide +kernel
theorem d_B_improveByMoves_21 : decode b_B_improveByMoves 21 = .ok (.lstore_n 3, 1) := by decide +kernel
theorem d_B_improveByMoves_22 : decode b_B_improveByMoves 22 = .ok (.aload_n 0, 1) := by decide +kernel
theorem d_B_improveByMoves_23 : decode b_B_improveByMoves 23 = .ok (.getfield 12, 3) := by decide +kernel
theorem d_B_improveByMoves_26 : decode b_B_improveByMoves 26 = .ok (.getfield 42, 3) := by decide +kernel
theorem d_B_improveByMoves_29 : decode b_B_improveByMoves 29 = .ok (.iconst 3, 1) := by decide +kernel
theorem d_B_improveByMoves_30 : decode b_B_improveByMoves 30 = .ok (.imul, 1) := by decide +kernel
theorem d_B_improveByMoves_31 : decode b_B_improveByMoves 31 = .ok (.istore 5, 2) := by decide +kernel
theorem d_B_improveByMoves_33 : decode b_B_improveByMoves 33 = .ok (.iconst 0, 1) := by decide +kernel
theorem d_B_improveByMoves_34 : decode b_B_improveByMoves 34 = .ok (.istore 6, 2) := by decide +kernel
theorem d_B_improveByMoves_36 : decode b_B_improveByMoves 36 = .ok (.lconst 0, 1) := by decide +kernel
theorem d_B_improveByMoves_37 : decode b_B_improveByMoves 37 = .ok (.lstore 7, 2) := by decide +kernel
theorem d_B_improveByMoves_39 : decode b_B_improveByMoves 39 = .ok (.lload 7, 2) := by decide +kernel
theorem d_B_improveByMoves_41 : decode b_B_improveByMoves 41 = .ok (.lload_n 1, 1) := by decide +kernel
theorem d_B_improveByMoves_42 : decode b_B_improveByMoves 42 = .ok (.lcmp, 1) := by decide +kernel
theorem d_B_improveByMoves_43 : decode b_B_improveByMoves 43 = .ok (.ifCond .ge 94, 3) := by decide +kernel
theorem d_B_improveByMoves_46 : decode b_B_improveByMoves 46 = .ok (.iload 6, 2) := by decide +kernel
theorem d_B_improveByMoves_48 : decode b_B_improveByMoves 48 = .ok (.iload 5, 2) := by decide +kernel
theorem d_B_improveByMoves_50 : decode b_B_improveByMoves 50 = .ok (.if_icmp .ge 87, 3) := by decide +kernel
theorem d_B_improveByMoves_53 : decode b_B_improveByMoves 53 = .ok (.iload 6, 2) := by decide +kernel
theorem d_B_improveByMoves_55 : decode b_B_improveByMoves 55 = .ok (.iconst 3, 1) := by decide +kernel
theorem d_B_improveByMoves_56 : decode b_B_improveByMoves 56 = .ok (.idiv, 1) := by decide +kernel
theorem d_B_improveByMoves_57 : decode b_B_improveByMoves 57 = .ok (.istore 9, 2) := by decide +kernel
theorem d_B_improveByMoves_59 : decode b_B_improveByMoves 59 = .ok (.aload_n 0, 1) := by decide +kernel
theorem d_B_improveByMoves_60 : decode b_B_improveByMoves 60 = .ok (.getfield 21, 3) := by decide +kernel
theorem d_B_improveByMoves_63 : decode b_B_improveByMoves 63 = .ok (.getfield 92, 3) := by decide +kernel
theorem d_B_improveByMoves_66 : decode b_B_improveByMoves 66 = .ok (.iload 9, 2) := by decide +kernel
theorem d_B_improveByMoves_68 : decode b_B_improveByMoves 68 = .ok (.iaload, 1) := by decide +kernel
theorem d_B_improveByMoves_69 : decode b_B_improveByMoves 69 = .ok (.istore 10, 2) := by decide +kernel
theorem d_B_improveByMoves_71 : decode b_B_improveByMoves 71 = .ok (.aload_n 0, 1) := by decide +kernel
theorem d_B_improveByMoves_72 : decode b_B_improveByMoves 72 = .ok (.getfield 21, 3) := by decide +kernel
theorem d_B_improveByMoves_75 : decode b_B_improveByMoves 75 = .ok (.iload 9, 2) := by decide +kernel
theorem d_B_improveByMoves_77 : decode b_B_improveByMoves 77 = .ok (.iload 10, 2) := by decide +kernel
theorem d_B_improveByMoves_79 : decode b_B_improveByMoves 79 = .ok (.iload 6, 2) := by decide +kernel
theorem d_B_improveByMoves_81 : decode b_B_improveByMoves 81 = .ok (.iconst 3, 1) := by decide +kernel
theorem d_B_improveByMoves_82 : decode b_B_improveByMoves 82 = .ok (.irem, 1) := by decide +kernel
theorem d_B_improveByMoves_83 : decode b_B_improveByMoves 83 = .ok (.invokestatic 171, 3) := by decide +kernel
theorem d_B_improveByMoves_86 : decode b_B_improveByMoves 86 = .ok (.invokevirtual 175, 3) := by decide +kernel
theorem d_B_improveByMoves_89 : decode b_B_improveByMoves 89 = .ok (.aload_n 0, 1) := by decide +kernel
theorem d_B_improveByMoves_90 : decode b_B_improveByMoves 90 = .ok (.getfield 21, 3) := by decide +kernel
theorem d_B_improveByMoves_93 : decode b_B_improveByMoves 93 = .ok (.invokevirtual 143, 3) := by decide +kernel
theorem d_B_improveByMoves_96 : decode b_B_improveByMoves 96 = .ok (.lstore 11, 2) := by decide +kernel
theorem d_B_improveByMoves_98 : decode b_B_improveByMoves 98 = .ok (.lload 11, 2) := by decide +kernel
theorem d_B_improveByMoves_100 : decode b_B_improveByMoves 100 = .ok (.lload_n 3, 1) := by decide +kernel
theorem d_B_improveByMoves_101 : decode b_B_improveByMoves 101 = .ok (.lcmp, 1) := by decide +kernel
theorem d_B_improveByMoves_102 : decode b_B_improveByMoves 102 = .ok (.ifCond .ge 12, 3) := by decide +kernel
theorem d_B_improveByMoves_105 : decode b_B_improveByMoves 105 = .ok (.lload 11, 2) := by decide +kernel
theorem d_B_improveByMoves_107 : decode b_B_improveByMoves 107 = .ok (.lstore_n 3, 1) := by decide +kernel
theorem d_B_improveByMoves_108 : decode b_B_improveByMoves 108 = .ok (.iconst 0, 1) := by decide +kernel
theorem d_B_improveByMoves_109 : decode b_B_improveByMoves 109 = .ok (.istore 6, 2) := by decide +kernel
theorem d_B_improveByMoves_111 : decode b_B_improveByMoves 111 = .ok (.goto 17, 3) := by decide +kernel
theorem d_B_improveByMoves_114 : decode b_B_improveByMoves 114 = .ok (.aload_n 0, 1) := by decide +kernel
theorem d_B_improveByMoves_115 : decode b_B_improveByMoves 115 = .ok (.getfield 21, 3) := by decide +kernel
theorem d_B_improveByMoves_118 : decode b_B_improveByMoves 118 = .ok (.iload 9, 2) := by decide +kernel
theorem d_B_improveByMoves_120 : decode b_B_improveByMoves 120 = .ok (.iload 10, 2) := by decide +kernel
theorem d_B_improveByMoves_122 : decode b_B_improveByMoves 122 = .ok (.invokevirtual 175, 3) := by decide +kernel
theorem d_B_improveByMoves_125 : decode b_B_improveByMoves 125 = .ok (.iinc 6 1, 3) := by decide +kernel
theorem d_B_improveByMoves_128 : decode b_B_improveByMoves 128 = .ok (.lload 7, 2) := by decide +kernel
theorem d_B_improveByMoves_130 : decode b_B_improveByMoves 130 = .ok (.lconst 1, 1) := by decide +kernel
theorem d_B_improveByMoves_131 : decode b_B_improveByMoves 131 = .ok (.ladd, 1) := by decide +kernel
theorem d_B_improveByMoves_132 : decode b_B_improveByMoves 132 = .ok (.lstore 7, 2) := by decide +kernel
theorem d_B_improveByMoves_134 : decode b_B_improveByMoves 134 = .ok (.goto (-95), 3) := by decide +kernel
theorem d_B_improveByMoves_137 : decode b_B_improveByMoves 137 = .ok (.return_, 1) := by decide +kernel
theorem d_B_solve_0 : decode b_B_solve 0 = .ok (.lload_n 1, 1) := by decide +kernel
theorem d_B_solve_1 : decode b_B_solve 1 = .ok (.lconst 0, 1) := by decide +kernel
theorem d_B_solve_2 : decode b_B_solve 2 = .ok (.lcmp, 1) := by decide +kernel
theorem d_B_solve_3 : decode b_B_solve 3 = .ok (.ifCond .lt 11, 3) := by decide +kernel
theorem d_B_solve_6 : decode b_B_solve 6 = .ok (.lload_n 1, 1) := by decide +kernel
theorem d_B_solve_7 : decode b_B_solve 7 = .ok (.ldc2_w 73, 3) := by decide +kernel
theorem d_B_solve_10 : decode b_B_solve 10 = .ok (.lcmp, 1) := by decide +kernel
theorem d_B_solve_11 : decode b_B_solve 11 = .ok (.ifCond .le 7, 3) := by decide +kernel
theorem d_B_solve_14 : decode b_B_solve 14 = .ok (.ldc2_w 75, 3) := by decide +kernel
theorem d_B_solve_17 : decode b_B_solve 17 = .ok (.lreturn, 1) := by decide +kernel
theorem d_B_solve_18 : decode b_B_solve 18 = .ok (.aload_n 0, 1) := by decide +kernel
theorem d_B_solve_19 : decode b_B_solve 19 = .ok (.invokevirtual 77, 3) := by decide +kernel
theorem d_B_solve_22 : decode b_B_solve 22 = .ok (.ifCond .eq 10, 3) := by decide +kernel
theorem d_B_solve_25 : decode b_B_solve 25 = .ok (.aload_n 0, 1) := by decide +kernel
theorem d_B_solve_26 : decode b_B_solve 26 = .ok (.invokevirtual 81, 3) := by decide +kernel
theorem d_B_solve_29 : decode b_B_solve 29 = .ok (.goto 8, 3) := by decide +kernel
theorem d_B_solve_32 : decode b_B_solve 32 = .ok (.aload_n 0, 1) := by decide +kernel
theorem d_B_solve_33 : decode b_B_solve 33 = .ok (.lload_n 1, 1) := by decide +kernel
theorem d_B_solve_34 : decode b_B_solve 34 = .ok (.invokevirtual 84, 3) := by decide +kernel
theorem d_B_solve_37 : decode b_B_solve 37 = .ok (.aload_n 0, 1) := by decide +kernel
theorem d_B_solve_38 : decode b_B_solve 38 = .ok (.iconst 1, 1) := by decide +kernel
theorem d_B_solve_39 : decode b_B_solve 39 = .ok (.putfield 32, 3) := by decide +kernel
theorem d_B_solve_42 : decode b_B_solve 42 = .ok (.aload_n 0, 1) := by decide +kernel
theorem d_B_solve_43 : decode b_B_solve 43 = .ok (.getfield 21, 3) := by decide +kernel
theorem d_B_solve_46 : decode b_B_solve 46 = .ok (.invokevirtual 88, 3) := by decide +kernel
theorem d_B_solve_49 : decode b_B_solve 49 = .ok (.lreturn, 1) := by decide +kernel

theorem bz_sR_ext {t : bz_T} {s s2 : bz_S} (h0 : s.1 = s2.1) (h : ∀ a, a < bz_n t → s.2 a = s2.2 a) : bz_sR t s = bz_sR t s2 := by
  have h' : ∀ a, a < bz_n t → s.1 a = s2.1 a ∧ s.2 a = s2.2 a := fun a ha => ⟨by rw [h0], h a ha⟩
  unfold bz_sR
  rw [h0, bz_op_ext h', bz_ch_ext h', show (fun r => bz_m (bz_in t s r)) = fun r => bz_m (bz_in t s2 r) from funext fun r => by rw [bz_in_ext h'], show (fun r => lN (bz_ld t s r)) = fun r => lN (bz_ld t s2 r) from funext fun r => by rw [bz_ld_ext h']]
theorem bz_bg_fu (t : bz_T) (g x : Nat → Nat) : bz_sR t (bz_fu (bz_bg g x (bz_n t)).1) = bz_sR t (bz_bg g x (bz_n t)) := bz_sR_ext rfl fun a ha => by
  show false = decide (bz_n t ≤ a)
  rw [decide_eq_false (by omega)]
theorem bz_bg_lo {g x : Nat → Nat} {n a : Nat} (h : a < n) : (bz_bg g x n).1 a = g a := by
  show (if a < n then g a else x a) = g a
  rw [if_pos h]
theorem bz_bg_co (t : bz_T) (g x : Nat → Nat) : bz_co t (bz_bg g x (bz_n t)) = bz_co t (bz_fu g) := bz_co_ext fun a ha => ⟨bz_bg_lo ha, decide_eq_false (by omega)⟩
theorem bz_bs_ext {t : bz_T} {f g : Nat → Nat} (h : bz_bs t f) (e : ∀ a, a < bz_n t → g a = f a) : bz_bs t g := by
  have ec : bz_co t (bz_fu g) = bz_co t (bz_fu f) := bz_co_ext fun a ha => ⟨e a ha, rfl⟩
  refine ⟨fun a ha => by rw [e a ha]; exact h.1 a ha, fun s hs => ?_⟩
  rw [ec]
  rcases h.2 s hs with q | ⟨q1, q2⟩
  · exact Or.inl q
  · refine Or.inr ⟨q1, ?_⟩
    rcases q2 with q | ⟨a, a1, a2, a3⟩
    · exact Or.inl fun a ha => (e a ha).trans (q a ha)
    · exact Or.inr ⟨a, a1, fun i hi => (e i (by omega)).trans (a2 i hi), by rw [e a a1]; exact a3⟩
theorem bz_fu_mv (g : Nat → Nat) (a r : Nat) : bz_pu (bz_ta (bz_fu g) a) a r = bz_fu (va_up g a r) := by
  refine Prod.ext rfl (funext fun i => ?_)
  show va_up (va_up (fun _ => false) a true) a false i = false
  by_cases e : i = a
  · subst e
    rw [bz_up_s]
  · rw [bz_up_n _ _ e, bz_up_n _ _ e]
theorem bz_up_back (g : Nat → Nat) (a r : Nat) : va_up (va_up g a r) a (g a) = g := by
  funext i
  by_cases e : i = a
  · subst e
    rw [bz_up_s]
  · rw [bz_up_n _ _ e, bz_up_n _ _ e]
theorem bz_ot_lt {r i : Nat} (hr : r < 4) (hi : i < 3) : bz_ot r i < 4 := by
  unfold bz_ot
  split <;> omega
theorem bz_mv_ext {t : bz_T} : ∀ (k mi : Nat) (f g : Nat → Nat), (∀ a, a < bz_n t → f a = g a) → ∀ a, a < bz_n t → bz_mv t k mi f a = bz_mv t k mi g a
  | 0, _, _, _, h => h
  | k + 1, mi, f, g, h => by
    by_cases hm : mi < 3 * bz_n t
    · have hfg := h (mi / 3) (by omega)
      have hu : ∀ a, a < bz_n t → va_up f (mi / 3) (bz_ot (f (mi / 3)) (mi % 3)) a = va_up g (mi / 3) (bz_ot (g (mi / 3)) (mi % 3)) a := by
        intro a ha
        by_cases e : a = mi / 3
        · rw [e, bz_up_s, bz_up_s, hfg]
        · rw [bz_up_n _ _ e, bz_up_n _ _ e, h a ha]
      have e1 : bz_co t (bz_fu (va_up f (mi / 3) (bz_ot (f (mi / 3)) (mi % 3)))) = bz_co t (bz_fu (va_up g (mi / 3) (bz_ot (g (mi / 3)) (mi % 3)))) := bz_co_ext fun a ha => ⟨hu a ha, rfl⟩
      have e2 : bz_co t (bz_fu f) = bz_co t (bz_fu g) := bz_co_ext fun a ha => ⟨h a ha, rfl⟩
      by_cases hc : bz_co t (bz_fu (va_up f (mi / 3) (bz_ot (f (mi / 3)) (mi % 3)))) < bz_co t (bz_fu f)
      · rw [bz_mv_do hm hc, bz_mv_do hm (by rw [← e1, ← e2]; exact hc)]
        exact bz_mv_ext k 0 _ _ hu
      · rw [bz_mv_no hm hc, bz_mv_no hm (by rw [← e1, ← e2]; exact hc)]
        exact bz_mv_ext k (mi + 1) f g h
    · rw [bz_mv_end (by omega), bz_mv_end (by omega)]
      exact h
/-- what a share is when it is solved with so many steps -/
def bz_so (t : bz_T) (k : Nat) (f : Nat → Nat) : Prop := (∀ a, a < bz_n t → f a < 4) ∧ (bz_n t ≤ 8 → bz_bs t f) ∧ (¬ bz_n t ≤ 8 → ∀ a, a < bz_n t → f a = bz_mv t k 0 (bz_d t) a)

set_option maxHeartbeats 4000000 in
set_option maxRecDepth 100000 in
/-- findLeastShare -/
theorem c_B_findLeastShare (l : Launch) (dC : Nat → ClassId) (dI : Nat → Nat → Nat) (sz : Nat) (ad : Nat → Nat) (cI cL : ClassId) (t : bz_T) (x : Nat → Nat) (A1 : Nat → Int32) (A2 : Nat → Int64) (o1 c1 : Int32) (rw : Nat → Nat) (co : Int64) (v : Int32) (ht : bz_ok t) (hn8 : bz_n t ≤ 8) : Met l y_B_findLeastShare w_B_findLeastShare ({ frames := 13, cells := 0, slots := 0, locals := 314 }) (bz_Pw (dC, dI) [(cI, .int), (cL, .long)] (bz_wB ad cI cL (bz_tR t) (fun a => nI (x a), A1, A2, o1, c1) (fun j => nI (rw j), co) v) sz [.ref (ad 0)]) (bz_Qx (dC, dI) [(cI, .int), (cL, .long)] (va_A (bz_wB ad cI cL (bz_tR t) (fun a => nI (x a), A1, A2, o1, c1) (fun j => nI (rw j), co) v) sz) (fun u : (Nat → Nat) × (Nat → Nat) × Int64 => bz_bs t u.1) (fun u : (Nat → Nat) × (Nat → Nat) × Int64 => bz_wB ad cI cL (bz_tR t) (bz_sR t (bz_fu u.1)) (fun j => nI (u.2.1 j), u.2.2) v)) 0 0 (va_A (bz_wB ad cI cL (bz_tR t) (fun a => nI (x a), A1, A2, o1, c1) (fun j => nI (rw j), co) v) sz) := by
  refine Met.ofW (cc := b_B_findLeastShare) (maxL := 1) (ret := none) (by decide) rfl ?_
  intro p e s m args below meth c s₁ B hml hv
  obtain ⟨rfl, hsz, hP, hK, hD0, hN⟩ := hv
  have hx := B.exec
  have hb := B.bytes
  have hr := B.returns
  have hts := atoms_spec (ws := w_B_findLeastShare) B.pre
  have hown : s.vm.findClass R_B = some m.cls := findClass_of_methodNamed B.named
  have htb : ∀ w ∈ bz_tb, w.before _ s = true := fun w h => hts w (List.mem_cons_of_mem _ h)
  have hlocks := B.notSynchronized
  subst hsz
  have hD := hD0.self (sz := s.heap.size)
  generalize hAe : va_A (bz_wB ad cI cL (bz_tR t) (fun a => nI (x a), A1, A2, o1, c1) (fun j => nI (rw j), co) v) s.heap.size = A at hD ⊢
  have hA : ∀ q : Nat, s.heap.size ≤ q → A q := fun q h => by rw [← hAe]; exact Or.inr h
  have hS : va_S A s.heap s.heap [] := va_S.rf
  have hl := lv_entry ([.ref (ad 0)]) (n := 1) (Nat.le_of_ble_eq_true rfl)
  rw [lg_entry_eq]
  generalize (lg_sl ([.ref (ad 0)]) ++ List.replicate (1 - (lg_sl ([.ref (ad 0)])).length) Slot.unset).toArray = ls at hl ⊢
  have hl : lv_has ls 1 [(0, .ref (ad 0))] := hl
  have hn30 := ht.1
  refine lv_aload_n hx hb d_B_findLeastShare_0 rfl (lv_at hl 0 rfl) ?_
  refine va_get (D := (dC, dI)) (ci := 3) (v := .ref (ad 7)) (C := R_B) (T := F_B) (N := 4) hx hb htb in_B hown hK hP 0 rfl rfl 1 (by decide) (htb _ wd_118) (fun _ h9 => h9) rfl d_B_findLeastShare_1 ?_
  refine lv_aload_n hx hb d_B_findLeastShare_4 rfl (lv_at hl 0 rfl) ?_
  refine va_get (D := (dC, dI)) (ci := 3) (v := .ref (ad 1)) (C := R_B) (T := F_B) (N := 4) hx hb htb in_B hown hK hP 0 rfl rfl 0 (by decide) (htb _ wd_117) (fun _ h9 => h9) rfl d_B_findLeastShare_5 ?_
  refine va_getN (D := (dC, dI)) (ci := 2) (v := .ref (ad 3)) (C := R_T) (T := F_T) (N := 6) hx hb htb in_T hown hK hP 1 rfl rfl 1 (by decide) (va_Nw.use rfl (hN _ nd_49)) (fun _ h9 => h9) rfl d_B_findLeastShare_8 ?_
  refine bz_cv (va_runV (As := [.ref (ad 3)]) (rest := []) ⟨hx, hb, hml, hown, htb⟩ (c_S_beginWithT l dC dI _ ad cI cL t x A1 A2 o1 c1 (fun j => nI (rw j), co) v ht) (cwV 1 htb (bz_gV wd_192 wd_189 wd_190 wd_191 wd_21) rfl rfl rfl (by decide +kernel) ⟨Nat.le_of_ble_eq_true rfl, Nat.le_of_ble_eq_true rfl⟩) (bz_wv hN hK hP hD (q0 := 7) rfl rfl) rfl rfl hl.1 rfl (lv_room (Nat.le_of_ble_eq_true rfl)) d_B_findLeastShare_11 ⟨Nat.zero_le _, Nat.zero_le _⟩) hD hS hA (fun H locs hP hD hS => ?_)
  have hP : va_P (dC, dI) vwCl (bz_wB ad cI cL (bz_tR t) (bz_sR t (bz_bg (bz_d t) x (bz_n t))) (fun j => nI (rw j), co) v) H := hP
  have hD : va_D A (bz_wB ad cI cL (bz_tR t) (bz_sR t (bz_bg (bz_d t) x (bz_n t))) (fun j => nI (rw j), co) v) := hD
  refine lv_aload_n hx hb d_B_findLeastShare_14 rfl (lv_at hl 0 rfl) ?_
  refine va_get (D := (dC, dI)) (ci := 3) (v := .ref (ad 11)) (C := R_B) (T := F_B) (N := 4) hx hb htb in_B hown hK hP 0 rfl rfl 2 (by decide) (htb _ wd_119) (fun _ h9 => h9) rfl d_B_findLeastShare_15 ?_
  refine lv_aload_n hx hb d_B_findLeastShare_18 rfl (lv_at hl 0 rfl) ?_
  refine va_get (D := (dC, dI)) (ci := 3) (v := .ref (ad 7)) (C := R_B) (T := F_B) (N := 4) hx hb htb in_B hown hK hP 0 rfl rfl 1 (by decide) (htb _ wd_118) (fun _ h9 => h9) rfl d_B_findLeastShare_19 ?_
  refine bz_sl (va_runV (As := []) (rest := [.ref (ad 11)]) ⟨hx, hb, hml, hown, htb⟩ (c_S_cost l dC dI ad cI cL t (bz_bg (bz_d t) x (bz_n t)) (fun j => nI (rw j), co) v ht) (cwV 0 htb (bz_gV wd_211 wd_208 wd_209 wd_210 wd_21) rfl rfl rfl (by decide +kernel) ⟨Nat.le_of_ble_eq_true rfl, Nat.le_of_ble_eq_true rfl⟩) (bz_rv hN hK hP (q0 := 7) rfl rfl) rfl rfl hl.1 rfl (lv_room (Nat.le_of_ble_eq_true rfl)) d_B_findLeastShare_22 ⟨Nat.zero_le _, Nat.zero_le _⟩) ?_
  refine lv_lconst (v := 1) hx hb d_B_findLeastShare_25 (by decide) ?_
  refine lv_ladd hx hb d_B_findLeastShare_26 ?_
  refine bz_rl (y := lN (bz_co t (bz_bg (bz_d t) x (bz_n t)) + 1)) (lN_1 _) ?_
  refine va_putN (D := (dC, dI)) (ci := 0) (v := .long (lN (bz_co t (bz_bg (bz_d t) x (bz_n t)) + 1))) (ty := .long) (C := R_Le) (T := F_Le) (N := 2) hx hb htb in_Le tf_Le tok_Le n_Le hown hK hP hD hS 11 rfl rfl 1 (by decide) (va_Nw.use rfl (hN _ nd_111)) (fun _ h9 => h9) rfl (by decide +kernel) rfl rfl (Nat.le_of_ble_eq_true rfl) d_B_findLeastShare_27 (fun H locs hP hD hS => ?_)
  have hP : va_P (dC, dI) vwCl (bz_wB ad cI cL (bz_tR t) (bz_sR t (bz_bg (bz_d t) x (bz_n t))) ((fun j => nI (rw j), co).1, lN (bz_co t (bz_bg (bz_d t) x (bz_n t)) + 1)) v) H := hP
  have hD : va_D A (bz_wB ad cI cL (bz_tR t) (bz_sR t (bz_bg (bz_d t) x (bz_n t))) ((fun j => nI (rw j), co).1, lN (bz_co t (bz_bg (bz_d t) x (bz_n t)) + 1)) v) := hD
  refine lv_aload_n hx hb d_B_findLeastShare_30 rfl (lv_at hl 0 rfl) ?_
  refine va_get (D := (dC, dI)) (ci := 3) (v := .ref (ad 7)) (C := R_B) (T := F_B) (N := 4) hx hb htb in_B hown hK hP 0 rfl rfl 1 (by decide) (htb _ wd_118) (fun _ h9 => h9) rfl d_B_findLeastShare_31 ?_
  refine bz_cv (va_runV (As := []) (rest := []) ⟨hx, hb, hml, hown, htb⟩ (c_S_clear l dC dI _ ad cI cL t (bz_bg (bz_d t) x (bz_n t)).1 (bz_sR t (bz_bg (bz_d t) x (bz_n t))).2.1 (bz_sR t (bz_bg (bz_d t) x (bz_n t))).2.2.1 (bz_sR t (bz_bg (bz_d t) x (bz_n t))).2.2.2.1 (bz_sR t (bz_bg (bz_d t) x (bz_n t))).2.2.2.2 ((fun j => nI (rw j), co).1, lN (bz_co t (bz_bg (bz_d t) x (bz_n t)) + 1)) v ht) (cwV 0 htb (bz_gV wd_196 wd_239 wd_194 wd_195 wd_21) rfl rfl rfl (by decide +kernel) ⟨Nat.le_of_ble_eq_true rfl, Nat.le_of_ble_eq_true rfl⟩) (bz_wv hN hK hP hD (q0 := 7) rfl rfl) rfl rfl hl.1 rfl (lv_room (Nat.le_of_ble_eq_true rfl)) d_B_findLeastShare_34 ⟨Nat.zero_le _, Nat.zero_le _⟩) hD hS hA (fun H locs hP hD hS => ?_)
  have hP : va_P (dC, dI) vwCl (bz_wB ad cI cL (bz_tR t) (bz_sR t ((bz_bg (bz_d t) x (bz_n t)).1, fun _ => true)) ((fun j => nI (rw j), co).1, lN (bz_co t (bz_bg (bz_d t) x (bz_n t)) + 1)) v) H := hP
  have hD : va_D A (bz_wB ad cI cL (bz_tR t) (bz_sR t ((bz_bg (bz_d t) x (bz_n t)).1, fun _ => true)) ((fun j => nI (rw j), co).1, lN (bz_co t (bz_bg (bz_d t) x (bz_n t)) + 1)) v) := hD
  refine lv_iconst (v := 0) hx hb d_B_findLeastShare_37 (by decide) ?_
  refine bz_ri (y := nI 0) (rfl) ?_
  refine lv_aload_n hx hb d_B_findLeastShare_38 rfl (lv_at hl 0 rfl) ?_
  refine va_get (D := (dC, dI)) (ci := 3) (v := .ref (ad 7)) (C := R_B) (T := F_B) (N := 4) hx hb htb in_B hown hK hP 0 rfl rfl 1 (by decide) (htb _ wd_118) (fun _ h9 => h9) rfl d_B_findLeastShare_39 ?_
  refine lv_aload_n hx hb d_B_findLeastShare_42 rfl (lv_at hl 0 rfl) ?_
  refine va_get (D := (dC, dI)) (ci := 3) (v := .ref (ad 11)) (C := R_B) (T := F_B) (N := 4) hx hb htb in_B hown hK hP 0 rfl rfl 2 (by decide) (htb _ wd_119) (fun _ h9 => h9) rfl d_B_findLeastShare_43 ?_
  have e9 : bz_sR t (bz_be 0 (bz_bg (bz_d t) x (bz_n t)).1) = bz_sR t ((bz_bg (bz_d t) x (bz_n t)).1, fun _ => true) := by rw [bz_be_0]
  have hP : va_P (dC, dI) vwCl (bz_wB ad cI cL (bz_tR t) (bz_sR t (bz_be 0 (bz_bg (bz_d t) x (bz_n t)).1)) ((fun j => nI (rw j), co).1, lN (bz_co t (bz_bg (bz_d t) x (bz_n t)) + 1)) v) H := by rw [e9]; exact hP
  have hD : va_D A (bz_wB ad cI cL (bz_tR t) (bz_sR t (bz_be 0 (bz_bg (bz_d t) x (bz_n t)).1)) ((fun j => nI (rw j), co).1, lN (bz_co t (bz_bg (bz_d t) x (bz_n t)) + 1)) v) := by rw [e9]; exact hD
  refine bz_cx (va_runS (As := [.int (nI 0), .ref (ad 7), .ref (ad 11)]) (rest := []) ⟨hx, hb, hml, hown, htb⟩ (bz_TC_all l dC dI ad cI cL t v ht (bz_n t) _ 0 (bz_bg (bz_d t) x (bz_n t)).1 (bz_co t (bz_bg (bz_d t) x (bz_n t)) + 1, rw) (by omega) (fun a ha => absurd ha (by omega)) (by show bz_co t (bz_bg (bz_d t) x (bz_n t)) + 1 ≤ 124003000000031; have := bz_co_le ht (bz_bg (bz_d t) x (bz_n t)); omega) hn8) (va_cwS 3 htb (bz_gS wd_242 wd_240 wd_241 wd_19) rfl rfl rfl (by decide +kernel) ⟨show 4 + bz_n t + 1 ≤ 13 by omega, show 8 + (6 + 11) + (89 + 25 * bz_n t) ≤ 314 by omega⟩) (bz_ws hN hK hP hD) rfl rfl hl.1 rfl (lv_room (Nat.le_of_ble_eq_true rfl)) d_B_findLeastShare_46 ⟨Nat.zero_le _, Nat.zero_le _⟩) hD hS hA (fun u hu H locs hP hD hS => ?_)
  obtain ⟨f3, c3⟩ := u
  obtain ⟨hu1, hu2, hu3⟩ := hu
  dsimp only at hu1 hu2 hu3 hP hD
  have hbs : bz_bs t c3.2 := bz_bs_of ht.2.2.1 (by show _ < bz_co t (bz_bg (bz_d t) x (bz_n t)) + 1; rw [bz_bg_co]; omega) hu2
  have hP : va_P (dC, dI) vwCl (bz_wB ad cI cL (bz_tR t) (bz_sR t (bz_be 0 f3)) (fun j => nI (c3.2 j), lN c3.1) v) H := hP
  have hD : va_D A (bz_wB ad cI cL (bz_tR t) (bz_sR t (bz_be 0 f3)) (fun j => nI (c3.2 j), lN c3.1) v) := hD
  refine lv_aload_n hx hb d_B_findLeastShare_49 rfl (lv_at hl 0 rfl) ?_
  refine va_get (D := (dC, dI)) (ci := 3) (v := .ref (ad 7)) (C := R_B) (T := F_B) (N := 4) hx hb htb in_B hown hK hP 0 rfl rfl 1 (by decide) (htb _ wd_118) (fun _ h9 => h9) rfl d_B_findLeastShare_50 ?_
  refine lv_aload_n hx hb d_B_findLeastShare_53 rfl (lv_at hl 0 rfl) ?_
  refine va_get (D := (dC, dI)) (ci := 3) (v := .ref (ad 11)) (C := R_B) (T := F_B) (N := 4) hx hb htb in_B hown hK hP 0 rfl rfl 2 (by decide) (htb _ wd_119) (fun _ h9 => h9) rfl d_B_findLeastShare_54 ?_
  refine va_getN (D := (dC, dI)) (ci := 0) (v := .ref (ad 12)) (C := R_Le) (T := F_Le) (N := 2) hx hb htb in_Le hown hK hP 11 rfl rfl 0 (by decide) (va_Nw.use rfl (hN _ nd_109)) (fun _ h9 => h9) rfl d_B_findLeastShare_57 ?_
  refine bz_cv (va_runV (As := [.ref (ad 12)]) (rest := []) ⟨hx, hb, hml, hown, htb⟩ (c_S_beginWithL l dC dI _ ad cI cL t (bz_be 0 f3).1 (bz_sR t (bz_be 0 f3)).2.1 (bz_sR t (bz_be 0 f3)).2.2.1 (bz_sR t (bz_be 0 f3)).2.2.2.1 (bz_sR t (bz_be 0 f3)).2.2.2.2 c3.2 (lN c3.1) v ht hn8 (hbs.1)) (cwV 1 htb (bz_gV wd_192 wd_189 wd_190 wd_191 wd_21) rfl rfl rfl (by decide +kernel) ⟨Nat.le_of_ble_eq_true rfl, Nat.le_of_ble_eq_true rfl⟩) (bz_wv hN hK hP hD (q0 := 7) rfl rfl) rfl rfl hl.1 rfl (lv_room (Nat.le_of_ble_eq_true rfl)) d_B_findLeastShare_60 ⟨Nat.zero_le _, Nat.zero_le _⟩) hD hS hA (fun H locs hP hD hS => ?_)
  have hP : va_P (dC, dI) vwCl (bz_wB ad cI cL (bz_tR t) (bz_sR t (bz_bg c3.2 (bz_be 0 f3).1 (bz_n t))) (fun j => nI (c3.2 j), lN c3.1) v) H := hP
  have hD : va_D A (bz_wB ad cI cL (bz_tR t) (bz_sR t (bz_bg c3.2 (bz_be 0 f3).1 (bz_n t))) (fun j => nI (c3.2 j), lN c3.1) v) := hD
  have e9 : bz_sR t (bz_fu (bz_bg c3.2 (bz_be 0 f3).1 (bz_n t)).1) = bz_sR t (bz_bg c3.2 (bz_be 0 f3).1 (bz_n t)) := bz_bg_fu t c3.2 (bz_be 0 f3).1
  have hP : va_P (dC, dI) vwCl (bz_wB ad cI cL (bz_tR t) (bz_sR t (bz_fu (bz_bg c3.2 (bz_be 0 f3).1 (bz_n t)).1)) (fun j => nI (c3.2 j), lN c3.1) v) H := by rw [e9]; exact hP
  have hD : va_D A (bz_wB ad cI cL (bz_tR t) (bz_sR t (bz_fu (bz_bg c3.2 (bz_be 0 f3).1 (bz_n t)).1)) (fun j => nI (c3.2 j), lN c3.1) v) := by rw [e9]; exact hD
  exact W.vret hx hb hr (fun t9 ht9 hW => ⟨⟨((bz_bg c3.2 (bz_be 0 f3).1 (bz_n t)).1, c3.2, lN c3.1), rfl, bz_bs_ext hbs fun a ha => bz_bg_lo ha, by rw [ht9]; exact hP, va_K.moved hW.alike hK, hD⟩, hS.F ht9⟩) hS.2.2 d_B_findLeastShare_63

set_option maxHeartbeats 4000000 in
set_option maxRecDepth 100000 in
/-- improveByMoves -/
theorem c_B_improveByMoves (l : Launch) (dC : Nat → ClassId) (dI : Nat → Nat → Nat) (sz : Nat) (ad : Nat → Nat) (cI cL : ClassId) (t : bz_T) (x : Nat → Nat) (A1 : Nat → Int32) (A2 : Nat → Int64) (o1 c1 : Int32) (rw : Nat → Nat) (co : Int64) (v : Int32) (ht : bz_ok t) (K : Nat) (hK0 : K ≤ 100000) : Met l y_B_improveByMoves w_B_improveByMoves ({ frames := 4, cells := 0, slots := 0, locals := 89 }) (bz_Pw (dC, dI) [(cI, .int), (cL, .long)] (bz_wB ad cI cL (bz_tR t) (fun a => nI (x a), A1, A2, o1, c1) (fun j => nI (rw j), co) v) sz [.ref (ad 0), .long (lN K)]) (bz_Qx (dC, dI) [(cI, .int), (cL, .long)] (va_A (bz_wB ad cI cL (bz_tR t) (fun a => nI (x a), A1, A2, o1, c1) (fun j => nI (rw j), co) v) sz) (fun u : (Nat → Nat) × (Nat → Nat) × Int64 => (∀ a, a < bz_n t → u.1 a < 4) ∧ ∀ a, a < bz_n t → u.1 a = bz_mv t K 0 (bz_d t) a) (fun u : (Nat → Nat) × (Nat → Nat) × Int64 => bz_wB ad cI cL (bz_tR t) (bz_sR t (bz_fu u.1)) (fun j => nI (u.2.1 j), u.2.2) v)) 0 0 (va_A (bz_wB ad cI cL (bz_tR t) (fun a => nI (x a), A1, A2, o1, c1) (fun j => nI (rw j), co) v) sz) := by
  refine Met.ofW (cc := b_B_improveByMoves) (maxL := 13) (ret := none) (by decide) rfl ?_
  intro p e s m args below meth c s₁ B hml hv
  obtain ⟨rfl, hsz, hP, hK, hD0, hN⟩ := hv
  have hx := B.exec
  have hb := B.bytes
  have hr := B.returns
  have hts := atoms_spec (ws := w_B_improveByMoves) B.pre
  have hown : s.vm.findClass R_B = some m.cls := findClass_of_methodNamed B.named
  have htb : ∀ w ∈ bz_tb, w.before _ s = true := fun w h => hts w (List.mem_cons_of_mem _ h)
  have hlocks := B.notSynchronized
  subst hsz
  have hD := hD0.self (sz := s.heap.size)
  generalize hAe : va_A (bz_wB ad cI cL (bz_tR t) (fun a => nI (x a), A1, A2, o1, c1) (fun j => nI (rw j), co) v) s.heap.size = A at hD ⊢
  have hA : ∀ q : Nat, s.heap.size ≤ q → A q := fun q h => by rw [← hAe]; exact Or.inr h
  have hS : va_S A s.heap s.heap [] := va_S.rf
  have hl := lv_entry ([.ref (ad 0), .long (lN K)]) (n := 13) (Nat.le_of_ble_eq_true rfl)
  rw [lg_entry_eq]
  generalize (lg_sl ([.ref (ad 0), .long (lN K)]) ++ List.replicate (13 - (lg_sl ([.ref (ad 0), .long (lN K)])).length) Slot.unset).toArray = ls at hl ⊢
  have hl : lv_has ls 13 [(0, .ref (ad 0)), (1, .long (lN K))] := hl
  have hn30 := ht.1
  refine lv_aload_n hx hb d_B_improveByMoves_0 rfl (lv_at hl 0 rfl) ?_
  refine va_get (D := (dC, dI)) (ci := 3) (v := .ref (ad 7)) (C := R_B) (T := F_B) (N := 4) hx hb htb in_B hown hK hP 0 rfl rfl 1 (by decide) (htb _ wd_118) (fun _ h9 => h9) rfl d_B_improveByMoves_1 ?_
  refine lv_aload_n hx hb d_B_improveByMoves_4 rfl (lv_at hl 0 rfl) ?_
  refine va_get (D := (dC, dI)) (ci := 3) (v := .ref (ad 1)) (C := R_B) (T := F_B) (N := 4) hx hb htb in_B hown hK hP 0 rfl rfl 0 (by decide) (htb _ wd_117) (fun _ h9 => h9) rfl d_B_improveByMoves_5 ?_
  refine va_getN (D := (dC, dI)) (ci := 2) (v := .ref (ad 3)) (C := R_T) (T := F_T) (N := 6) hx hb htb in_T hown hK hP 1 rfl rfl 1 (by decide) (va_Nw.use rfl (hN _ nd_49)) (fun _ h9 => h9) rfl d_B_improveByMoves_8 ?_
  refine bz_cv (va_runV (As := [.ref (ad 3)]) (rest := []) ⟨hx, hb, hml, hown, htb⟩ (c_S_beginWithT l dC dI _ ad cI cL t x A1 A2 o1 c1 (fun j => nI (rw j), co) v ht) (cwV 1 htb (bz_gV wd_192 wd_189 wd_190 wd_191 wd_21) rfl rfl rfl (by decide +kernel) ⟨Nat.le_of_ble_eq_true rfl, Nat.le_of_ble_eq_true rfl⟩) (bz_wv hN hK hP hD (q0 := 7) rfl rfl) rfl rfl hl.1 rfl (lv_room (Nat.le_of_ble_eq_true rfl)) d_B_improveByMoves_11 ⟨Nat.zero_le _, Nat.zero_le _⟩) hD hS hA (fun H locs hP hD hS => ?_)
  have hP : va_P (dC, dI) vwCl (bz_wB ad cI cL (bz_tR t) (bz_sR t (bz_bg (bz_d t) x (bz_n t))) (fun j => nI (rw j), co) v) H := hP
  have hD : va_D A (bz_wB ad cI cL (bz_tR t) (bz_sR t (bz_bg (bz_d t) x (bz_n t))) (fun j => nI (rw j), co) v) := hD
  have e9 : bz_sR t (bz_fu (bz_bg (bz_d t) x (bz_n t)).1) = bz_sR t (bz_bg (bz_d t) x (bz_n t)) := bz_bg_fu t (bz_d t) x
  have hP : va_P (dC, dI) vwCl (bz_wB ad cI cL (bz_tR t) (bz_sR t (bz_fu (bz_bg (bz_d t) x (bz_n t)).1)) (fun j => nI (rw j), co) v) H := by rw [e9]; exact hP
  have hD : va_D A (bz_wB ad cI cL (bz_tR t) (bz_sR t (bz_fu (bz_bg (bz_d t) x (bz_n t)).1)) (fun j => nI (rw j), co) v) := by rw [e9]; exact hD
  refine lv_aload_n hx hb d_B_improveByMoves_14 rfl (lv_at hl 0 rfl) ?_
  refine va_get (D := (dC, dI)) (ci := 3) (v := .ref (ad 7)) (C := R_B) (T := F_B) (N := 4) hx hb htb in_B hown hK hP 0 rfl rfl 1 (by decide) (htb _ wd_118) (fun _ h9 => h9) rfl d_B_improveByMoves_15 ?_
  refine bz_sl (va_runV (As := []) (rest := []) ⟨hx, hb, hml, hown, htb⟩ (c_S_cost l dC dI ad cI cL t (bz_fu (bz_bg (bz_d t) x (bz_n t)).1) (fun j => nI (rw j), co) v ht) (cwV 0 htb (bz_gV wd_211 wd_208 wd_209 wd_210 wd_21) rfl rfl rfl (by decide +kernel) ⟨Nat.le_of_ble_eq_true rfl, Nat.le_of_ble_eq_true rfl⟩) (bz_rv hN hK hP (q0 := 7) rfl rfl) rfl rfl hl.1 rfl (lv_room (Nat.le_of_ble_eq_true rfl)) d_B_improveByMoves_18 ⟨Nat.zero_le _, Nat.zero_le _⟩) ?_
  refine lv_lstore_n (lv' := [(3, .long (lN (bz_co t (bz_fu (bz_bg (bz_d t) x (bz_n t)).1)))), (0, .ref (ad 0)), (1, .long (lN K))]) hx hb d_B_improveByMoves_21 rfl hl (by decide) rfl (fun ls hl => ?_)
  refine lv_aload_n hx hb d_B_improveByMoves_22 rfl (lv_at hl 1 rfl) ?_
  refine va_get (D := (dC, dI)) (ci := 3) (v := .ref (ad 1)) (C := R_B) (T := F_B) (N := 4) hx hb htb in_B hown hK hP 0 rfl rfl 0 (by decide) (htb _ wd_117) (fun _ h9 => h9) rfl d_B_improveByMoves_23 ?_
  refine va_getN (D := (dC, dI)) (ci := 2) (v := .int (nI (bz_n t))) (C := R_T) (T := F_T) (N := 6) hx hb htb in_T hown hK hP 1 rfl rfl 5 (by decide) (va_Nw.use rfl (hN _ nd_57)) (fun _ h9 => h9) rfl d_B_improveByMoves_26 ?_
  refine lv_iconst (v := 3) hx hb d_B_improveByMoves_29 (by decide) ?_
  refine lv_imul hx hb d_B_improveByMoves_30 ?_
  refine bz_ri (y := nI (3 * bz_n t)) (by rw [show (3 : Int32) = nI 3 from rfl, pk_mul, Nat.mul_comm]) ?_
  refine lv_istore (lv' := [(5, .int (nI (3 * bz_n t))), (3, .long (lN (bz_co t (bz_fu (bz_bg (bz_d t) x (bz_n t)).1)))), (0, .ref (ad 0)), (1, .long (lN K))]) hx hb d_B_improveByMoves_31 hl (by decide) rfl (fun ls hl => ?_)
  refine lv_iconst (v := nI 0) hx hb d_B_improveByMoves_33 (by decide) ?_
  refine lv_istore (lv' := [(6, .int (nI 0)), (5, .int (nI (3 * bz_n t))), (3, .long (lN (bz_co t (bz_fu (bz_bg (bz_d t) x (bz_n t)).1)))), (0, .ref (ad 0)), (1, .long (lN K))]) hx hb d_B_improveByMoves_34 hl (by decide) rfl (fun ls hl => ?_)
  refine lv_lconst (v := 0) hx hb d_B_improveByMoves_36 (by decide) ?_
  refine bz_rl (y := lN 0) (rfl) ?_
  refine lv_lstore (lv' := [(7, .long (lN 0)), (6, .int (nI 0)), (5, .int (nI (3 * bz_n t))), (3, .long (lN (bz_co t (bz_fu (bz_bg (bz_d t) x (bz_n t)).1)))), (0, .ref (ad 0)), (1, .long (lN K))]) hx hb d_B_improveByMoves_37 hl (by decide) rfl (fun ls hl => ?_)
  have lp : ∀ (k9 : Nat) (q : Nat) (mi : Nat) (g : Nat → Nat), K - q < k9 → (q ≤ K) → (mi ≤ 3 * bz_n t) → (∀ a, a < bz_n t → g a < 4) → (bz_mv t K 0 (bz_bg (bz_d t) x (bz_n t)).1 = bz_mv t (K - q) mi g) → ∀ (H : Heap) (locs : List Loc), va_P (dC, dI) vwCl (bz_wB ad cI cL (bz_tR t) (bz_sR t (bz_fu g)) (fun j => nI (rw j), co) v) H → va_D A (bz_wB ad cI cL (bz_tR t) (bz_sR t (bz_fu g)) (fun j => nI (rw j), co) v) → va_S A s.heap H locs → ∀ (ls : Array Slot), lv_has ls 13 [(0, .ref (ad 0)), (1, .long (lN K)), (3, .long (lN (bz_co t (bz_fu g)))), (5, .int (nI (3 * bz_n t))), (6, .int (nI mi)), (7, .long (lN q))] → W p l e (headSpec w_B_improveByMoves ({ frames := 4, cells := 0, slots := 0, locals := 89 })).room s m ([.ref (ad 0), .long (lN K)]).toArray below meth c H locs 0 0 (MQ below (bz_Qx (dC, dI) [(cI, .int), (cL, .long)] A (fun u : (Nat → Nat) × (Nat → Nat) × Int64 => (∀ a, a < bz_n t → u.1 a < 4) ∧ ∀ a, a < bz_n t → u.1 a = bz_mv t K 0 (bz_d t) a) (fun u : (Nat → Nat) × (Nat → Nat) × Int64 => bz_wB ad cI cL (bz_tR t) (bz_sR t (bz_fu u.1)) (fun j => nI (u.2.1 j), u.2.2) v)) ([.ref (ad 0), .long (lN K)]).toArray s 0 0 (A)) (F0 m 39 ls []) := by
    intro k9
    induction k9 with
    | zero =>
      intro q mi g h9
      exact absurd h9 (Nat.not_lt_zero _)
    | succ k9 ihlp =>
      intro q mi g h9_lp hq hmi hg hmv H locs hP hD hS ls hl
      refine lv_lload hx hb d_B_improveByMoves_39 (lv_at hl 5 rfl) ?_
      refine lv_lload_n hx hb d_B_improveByMoves_41 rfl (lv_at hl 1 rfl) ?_
      refine W.lcmp hx hb d_B_improveByMoves_42 ?_
      refine lv_if_ge (tgt := 137) hx hb d_B_improveByMoves_43 (by decide) (fun c_43 => ?_) (fun c_43 => ?_)
      · skip
        have hend : bz_mv t (K - q) mi g = g := by have := (bz_lc_ge (by omega) (by omega)).mp c_43; rw [show K - q = 0 by omega]; rfl
        exact W.vret hx hb hr (fun t9 ht9 hW => ⟨⟨(g, rw, co), rfl, ⟨hg, fun a ha => by rw [← bz_mv_ext K 0 _ _ (fun a ha => bz_bg_lo (x := x) ha) a ha, hmv, hend]⟩, by rw [ht9]; exact hP, va_K.moved hW.alike hK, hD⟩, hS.F ht9⟩) hS.2.2 d_B_improveByMoves_137
      · skip
        have hqK : q < K := Nat.lt_of_not_le fun z => c_43 ((bz_lc_ge (by omega) (by omega)).mpr z)
        refine lv_iload hx hb d_B_improveByMoves_46 (lv_at hl 4 rfl) ?_
        refine lv_iload hx hb d_B_improveByMoves_48 (lv_at hl 3 rfl) ?_
        refine lv_icmp_ge (tgt := 137) hx hb d_B_improveByMoves_50 (by decide) (fun c_50 => ?_) (fun c_50 => ?_)
        · skip
          have hend : bz_mv t (K - q) mi g = g := bz_mv_end ((nI_leI (by omega) (by omega)).mp c_50) _ _
          exact W.vret hx hb hr (fun t9 ht9 hW => ⟨⟨(g, rw, co), rfl, ⟨hg, fun a ha => by rw [← bz_mv_ext K 0 _ _ (fun a ha => bz_bg_lo (x := x) ha) a ha, hmv, hend]⟩, by rw [ht9]; exact hP, va_K.moved hW.alike hK, hD⟩, hS.F ht9⟩) hS.2.2 d_B_improveByMoves_137
        · skip
          have hm : mi < 3 * bz_n t := Nat.lt_of_not_le fun z => c_50 ((nI_leI (by omega) (by omega)).mpr z)
          have hcb1 := bz_co_le ht (bz_fu g)
          have hcb2 := bz_co_le ht (bz_fu (va_up g (mi / 3) (bz_ot (g (mi / 3)) (mi % 3))))
          refine lv_iload hx hb d_B_improveByMoves_53 (lv_at hl 4 rfl) ?_
          refine lv_iconst (v := 3) hx hb d_B_improveByMoves_55 (by decide) ?_
          refine lv_idiv hx hb d_B_improveByMoves_56 (by decide) ?_
          refine bz_ri (y := nI (mi / 3)) (pk_div (d := 3) (by omega) (by omega) (by omega)) ?_
          refine lv_istore (lv' := [(9, .int (nI (mi / 3))), (0, .ref (ad 0)), (1, .long (lN K)), (3, .long (lN (bz_co t (bz_fu g)))), (5, .int (nI (3 * bz_n t))), (6, .int (nI mi)), (7, .long (lN q))]) hx hb d_B_improveByMoves_57 hl (by decide) rfl (fun ls hl => ?_)
          refine lv_aload_n hx hb d_B_improveByMoves_59 rfl (lv_at hl 1 rfl) ?_
          refine va_get (D := (dC, dI)) (ci := 3) (v := .ref (ad 7)) (C := R_B) (T := F_B) (N := 4) hx hb htb in_B hown hK hP 0 rfl rfl 1 (by decide) (htb _ wd_118) (fun _ h9 => h9) rfl d_B_improveByMoves_60 ?_
          refine va_getN (D := (dC, dI)) (ci := 1) (v := .ref (ad 8)) (C := R_S) (T := F_S) (N := 6) hx hb htb in_S hown hK hP 7 rfl rfl 1 (by decide) (va_Nw.use rfl (hN _ nd_83)) (fun _ h9 => h9) rfl d_B_improveByMoves_63 ?_
          refine lv_iload hx hb d_B_improveByMoves_66 (lv_at hl 0 rfl) ?_
          refine bz_iald (v := nI (g (mi / 3))) hx hb hK hP 8 0 rfl rfl (a9 := (mi / 3)) (by omega) (by decide) (rfl) d_B_improveByMoves_68 ?_
          refine lv_istore (lv' := [(10, .int (nI (g (mi / 3)))), (9, .int (nI (mi / 3))), (0, .ref (ad 0)), (1, .long (lN K)), (3, .long (lN (bz_co t (bz_fu g)))), (5, .int (nI (3 * bz_n t))), (6, .int (nI mi)), (7, .long (lN q))]) hx hb d_B_improveByMoves_69 hl (by decide) rfl (fun ls hl => ?_)
          refine lv_aload_n hx hb d_B_improveByMoves_71 rfl (lv_at hl 2 rfl) ?_
          refine va_get (D := (dC, dI)) (ci := 3) (v := .ref (ad 7)) (C := R_B) (T := F_B) (N := 4) hx hb htb in_B hown hK hP 0 rfl rfl 1 (by decide) (htb _ wd_118) (fun _ h9 => h9) rfl d_B_improveByMoves_72 ?_
          refine lv_iload hx hb d_B_improveByMoves_75 (lv_at hl 1 rfl) ?_
          refine lv_iload hx hb d_B_improveByMoves_77 (lv_at hl 0 rfl) ?_
          refine lv_iload hx hb d_B_improveByMoves_79 (lv_at hl 6 rfl) ?_
          refine lv_iconst (v := 3) hx hb d_B_improveByMoves_81 (by decide) ?_
          refine lv_irem hx hb d_B_improveByMoves_82 (by decide) ?_
          refine bz_ri (y := nI (mi % 3)) (pk_rem (d := 3) (by omega) (by omega) (by omega)) ?_
          refine bz_si (va_runS (As := [.int (nI (g (mi / 3))), .int (nI (mi % 3))]) (rest := [.int (nI (mi / 3)), .ref (ad 7)]) ⟨hx, hb, hml, hown, htb⟩ (c_B_otherRound l dC dI ad cI cL t (bz_sR t (bz_fu g)) (fun j => nI (rw j), co) v _ _ (hg _ (by omega)) (by omega)) (va_cwS 2 htb (bz_gS wd_261 wd_259 wd_260 wd_19) rfl rfl rfl (by decide +kernel) ⟨Nat.le_of_ble_eq_true rfl, Nat.le_of_ble_eq_true rfl⟩) (bz_rs hN hK hP) rfl rfl hl.1 rfl (lv_room (Nat.le_of_ble_eq_true rfl)) d_B_improveByMoves_83 ⟨Nat.zero_le _, Nat.zero_le _⟩) ?_
          refine bz_cv (va_runV (As := [.int (nI (mi / 3)), .int (nI (bz_ot (g (mi / 3)) (mi % 3)))]) (rest := []) ⟨hx, hb, hml, hown, htb⟩ (c_S_move l dC dI _ ad cI cL t (bz_fu g) (fun j => nI (rw j), co) v ht _ _ (by omega) (hg _ (by omega)) (rfl) (bz_ot_lt (hg _ (by omega)) (by omega))) (cwV 2 htb (bz_gV wd_265 wd_262 wd_263 wd_264 wd_21) rfl rfl rfl (by decide +kernel) ⟨Nat.le_of_ble_eq_true rfl, Nat.le_of_ble_eq_true rfl⟩) (bz_wv hN hK hP hD (q0 := 7) rfl rfl) rfl rfl hl.1 rfl (lv_room (Nat.le_of_ble_eq_true rfl)) d_B_improveByMoves_86 ⟨Nat.zero_le _, Nat.zero_le _⟩) hD hS hA (fun H locs hP hD hS => ?_)
          have hP : va_P (dC, dI) vwCl (bz_wB ad cI cL (bz_tR t) (bz_sR t (bz_pu (bz_ta (bz_fu g) (mi / 3)) (mi / 3) (bz_ot (g (mi / 3)) (mi % 3)))) (fun j => nI (rw j), co) v) H := hP
          have hD : va_D A (bz_wB ad cI cL (bz_tR t) (bz_sR t (bz_pu (bz_ta (bz_fu g) (mi / 3)) (mi / 3) (bz_ot (g (mi / 3)) (mi % 3)))) (fun j => nI (rw j), co) v) := hD
          have e9 : bz_sR t (bz_fu (va_up g (mi / 3) (bz_ot (g (mi / 3)) (mi % 3)))) = bz_sR t (bz_pu (bz_ta (bz_fu g) (mi / 3)) (mi / 3) (bz_ot (g (mi / 3)) (mi % 3))) := by rw [bz_fu_mv]
          have hP : va_P (dC, dI) vwCl (bz_wB ad cI cL (bz_tR t) (bz_sR t (bz_fu (va_up g (mi / 3) (bz_ot (g (mi / 3)) (mi % 3))))) (fun j => nI (rw j), co) v) H := by rw [e9]; exact hP
          have hD : va_D A (bz_wB ad cI cL (bz_tR t) (bz_sR t (bz_fu (va_up g (mi / 3) (bz_ot (g (mi / 3)) (mi % 3))))) (fun j => nI (rw j), co) v) := by rw [e9]; exact hD
          refine lv_aload_n hx hb d_B_improveByMoves_89 rfl (lv_at hl 2 rfl) ?_
          refine va_get (D := (dC, dI)) (ci := 3) (v := .ref (ad 7)) (C := R_B) (T := F_B) (N := 4) hx hb htb in_B hown hK hP 0 rfl rfl 1 (by decide) (htb _ wd_118) (fun _ h9 => h9) rfl d_B_improveByMoves_90 ?_
          refine bz_sl (va_runV (As := []) (rest := []) ⟨hx, hb, hml, hown, htb⟩ (c_S_cost l dC dI ad cI cL t (bz_fu (va_up g (mi / 3) (bz_ot (g (mi / 3)) (mi % 3)))) (fun j => nI (rw j), co) v ht) (cwV 0 htb (bz_gV wd_211 wd_208 wd_209 wd_210 wd_21) rfl rfl rfl (by decide +kernel) ⟨Nat.le_of_ble_eq_true rfl, Nat.le_of_ble_eq_true rfl⟩) (bz_rv hN hK hP (q0 := 7) rfl rfl) rfl rfl hl.1 rfl (lv_room (Nat.le_of_ble_eq_true rfl)) d_B_improveByMoves_93 ⟨Nat.zero_le _, Nat.zero_le _⟩) ?_
          refine lv_lstore (lv' := [(11, .long (lN (bz_co t (bz_fu (va_up g (mi / 3) (bz_ot (g (mi / 3)) (mi % 3))))))), (10, .int (nI (g (mi / 3)))), (9, .int (nI (mi / 3))), (0, .ref (ad 0)), (1, .long (lN K)), (3, .long (lN (bz_co t (bz_fu g)))), (5, .int (nI (3 * bz_n t))), (6, .int (nI mi)), (7, .long (lN q))]) hx hb d_B_improveByMoves_96 hl (by decide) rfl (fun ls hl => ?_)
          refine lv_lload hx hb d_B_improveByMoves_98 (lv_at hl 0 rfl) ?_
          refine lv_lload_n hx hb d_B_improveByMoves_100 rfl (lv_at hl 5 rfl) ?_
          refine W.lcmp hx hb d_B_improveByMoves_101 ?_
          refine lv_if_ge (tgt := 114) hx hb d_B_improveByMoves_102 (by decide) (fun c_102 => ?_) (fun c_102 => ?_)
          · skip
            have hless : ¬ bz_co t (bz_fu (va_up g (mi / 3) (bz_ot (g (mi / 3)) (mi % 3)))) < bz_co t (bz_fu g) := Nat.not_lt.mpr ((bz_lc_ge (by omega) (by omega)).mp c_102)
            refine lv_aload_n hx hb d_B_improveByMoves_114 rfl (lv_at hl 3 rfl) ?_
            refine va_get (D := (dC, dI)) (ci := 3) (v := .ref (ad 7)) (C := R_B) (T := F_B) (N := 4) hx hb htb in_B hown hK hP 0 rfl rfl 1 (by decide) (htb _ wd_118) (fun _ h9 => h9) rfl d_B_improveByMoves_115 ?_
            refine lv_iload hx hb d_B_improveByMoves_118 (lv_at hl 2 rfl) ?_
            refine lv_iload hx hb d_B_improveByMoves_120 (lv_at hl 1 rfl) ?_
            refine bz_cv (va_runV (As := [.int (nI (mi / 3)), .int (nI (g (mi / 3)))]) (rest := []) ⟨hx, hb, hml, hown, htb⟩ (c_S_move l dC dI _ ad cI cL t (bz_fu (va_up g (mi / 3) (bz_ot (g (mi / 3)) (mi % 3)))) (fun j => nI (rw j), co) v ht _ _ (by omega) (by show (va_up g (mi / 3) (bz_ot (g (mi / 3)) (mi % 3))) (mi / 3) < 4; rw [bz_up_s]; exact bz_ot_lt (hg _ (by omega)) (by omega)) (rfl) (hg _ (by omega))) (cwV 2 htb (bz_gV wd_265 wd_262 wd_263 wd_264 wd_21) rfl rfl rfl (by decide +kernel) ⟨Nat.le_of_ble_eq_true rfl, Nat.le_of_ble_eq_true rfl⟩) (bz_wv hN hK hP hD (q0 := 7) rfl rfl) rfl rfl hl.1 rfl (lv_room (Nat.le_of_ble_eq_true rfl)) d_B_improveByMoves_122 ⟨Nat.zero_le _, Nat.zero_le _⟩) hD hS hA (fun H locs hP hD hS => ?_)
            have hP : va_P (dC, dI) vwCl (bz_wB ad cI cL (bz_tR t) (bz_sR t (bz_pu (bz_ta (bz_fu (va_up g (mi / 3) (bz_ot (g (mi / 3)) (mi % 3)))) (mi / 3)) (mi / 3) (g (mi / 3)))) (fun j => nI (rw j), co) v) H := hP
            have hD : va_D A (bz_wB ad cI cL (bz_tR t) (bz_sR t (bz_pu (bz_ta (bz_fu (va_up g (mi / 3) (bz_ot (g (mi / 3)) (mi % 3)))) (mi / 3)) (mi / 3) (g (mi / 3)))) (fun j => nI (rw j), co) v) := hD
            have e9 : bz_sR t (bz_fu g) = bz_sR t (bz_pu (bz_ta (bz_fu (va_up g (mi / 3) (bz_ot (g (mi / 3)) (mi % 3)))) (mi / 3)) (mi / 3) (g (mi / 3))) := by rw [bz_fu_mv, bz_up_back]
            have hP : va_P (dC, dI) vwCl (bz_wB ad cI cL (bz_tR t) (bz_sR t (bz_fu g)) (fun j => nI (rw j), co) v) H := by rw [e9]; exact hP
            have hD : va_D A (bz_wB ad cI cL (bz_tR t) (bz_sR t (bz_fu g)) (fun j => nI (rw j), co) v) := by rw [e9]; exact hD
            refine lv_iinc (v := nI (mi + 1)) (lv' := [(6, .int (nI (mi + 1))), (11, .long (lN (bz_co t (bz_fu (va_up g (mi / 3) (bz_ot (g (mi / 3)) (mi % 3))))))), (10, .int (nI (g (mi / 3)))), (9, .int (nI (mi / 3))), (0, .ref (ad 0)), (1, .long (lN K)), (3, .long (lN (bz_co t (bz_fu g)))), (5, .int (nI (3 * bz_n t))), (7, .long (lN q))]) hx hb d_B_improveByMoves_125 hl (k := 7) rfl (nI_1 _) (by decide) rfl (fun ls hl => ?_)
            refine lv_lload hx hb d_B_improveByMoves_128 (lv_at hl 8 rfl) ?_
            refine lv_lconst (v := 1) hx hb d_B_improveByMoves_130 (by decide) ?_
            refine lv_ladd hx hb d_B_improveByMoves_131 ?_
            refine bz_rl (y := lN (q + 1)) (lN_1 _) ?_
            refine lv_lstore (lv' := [(7, .long (lN (q + 1))), (6, .int (nI (mi + 1))), (11, .long (lN (bz_co t (bz_fu (va_up g (mi / 3) (bz_ot (g (mi / 3)) (mi % 3))))))), (10, .int (nI (g (mi / 3)))), (9, .int (nI (mi / 3))), (0, .ref (ad 0)), (1, .long (lN K)), (3, .long (lN (bz_co t (bz_fu g)))), (5, .int (nI (3 * bz_n t)))]) hx hb d_B_improveByMoves_132 hl (by decide) rfl (fun ls hl => ?_)
            refine lv_goto (tgt := 39) hx hb d_B_improveByMoves_134 (by decide) ?_
            exact ihlp (q + 1) (mi + 1) g (by omega) (by omega) (by omega) (hg) (by rw [hmv, show K - q = K - (q + 1) + 1 by omega, bz_mv_no hm hless]) _ _ hP hD hS ls (lv_sub hl [5, 6, 7, 8, 1, 0] rfl)
          · skip
            have hless : bz_co t (bz_fu (va_up g (mi / 3) (bz_ot (g (mi / 3)) (mi % 3)))) < bz_co t (bz_fu g) := Nat.lt_of_not_le fun z => c_102 ((bz_lc_ge (by omega) (by omega)).mpr z)
            refine lv_lload hx hb d_B_improveByMoves_105 (lv_at hl 0 rfl) ?_
            refine lv_lstore_n (lv' := [(3, .long (lN (bz_co t (bz_fu (va_up g (mi / 3) (bz_ot (g (mi / 3)) (mi % 3))))))), (11, .long (lN (bz_co t (bz_fu (va_up g (mi / 3) (bz_ot (g (mi / 3)) (mi % 3))))))), (10, .int (nI (g (mi / 3)))), (9, .int (nI (mi / 3))), (0, .ref (ad 0)), (1, .long (lN K)), (5, .int (nI (3 * bz_n t))), (6, .int (nI mi)), (7, .long (lN q))]) hx hb d_B_improveByMoves_107 rfl hl (by decide) rfl (fun ls hl => ?_)
            refine lv_iconst (v := nI 0) hx hb d_B_improveByMoves_108 (by decide) ?_
            refine lv_istore (lv' := [(6, .int (nI 0)), (3, .long (lN (bz_co t (bz_fu (va_up g (mi / 3) (bz_ot (g (mi / 3)) (mi % 3))))))), (11, .long (lN (bz_co t (bz_fu (va_up g (mi / 3) (bz_ot (g (mi / 3)) (mi % 3))))))), (10, .int (nI (g (mi / 3)))), (9, .int (nI (mi / 3))), (0, .ref (ad 0)), (1, .long (lN K)), (5, .int (nI (3 * bz_n t))), (7, .long (lN q))]) hx hb d_B_improveByMoves_109 hl (by decide) rfl (fun ls hl => ?_)
            refine lv_goto (tgt := 128) hx hb d_B_improveByMoves_111 (by decide) ?_
            refine lv_lload hx hb d_B_improveByMoves_128 (lv_at hl 8 rfl) ?_
            refine lv_lconst (v := 1) hx hb d_B_improveByMoves_130 (by decide) ?_
            refine lv_ladd hx hb d_B_improveByMoves_131 ?_
            refine bz_rl (y := lN (q + 1)) (lN_1 _) ?_
            refine lv_lstore (lv' := [(7, .long (lN (q + 1))), (6, .int (nI 0)), (3, .long (lN (bz_co t (bz_fu (va_up g (mi / 3) (bz_ot (g (mi / 3)) (mi % 3))))))), (11, .long (lN (bz_co t (bz_fu (va_up g (mi / 3) (bz_ot (g (mi / 3)) (mi % 3))))))), (10, .int (nI (g (mi / 3)))), (9, .int (nI (mi / 3))), (0, .ref (ad 0)), (1, .long (lN K)), (5, .int (nI (3 * bz_n t)))]) hx hb d_B_improveByMoves_132 hl (by decide) rfl (fun ls hl => ?_)
            refine lv_goto (tgt := 39) hx hb d_B_improveByMoves_134 (by decide) ?_
            exact ihlp (q + 1) 0 (va_up g (mi / 3) (bz_ot (g (mi / 3)) (mi % 3))) (by omega) (by omega) (by omega) (fun a ha => by by_cases e : a = mi / 3; { rw [e, bz_up_s]; exact bz_ot_lt (hg _ (by omega)) (by omega) }; { rw [bz_up_n _ _ e]; exact hg a ha }) (by rw [hmv, show K - q = K - (q + 1) + 1 by omega, bz_mv_do hm hless]) _ _ hP hD hS ls (lv_sub hl [6, 7, 2, 8, 1, 0] rfl)
  exact lp _ 0 0 ((bz_bg (bz_d t) x (bz_n t)).1) (Nat.lt_succ_self _) (by omega) (by omega) (fun a ha => by rw [bz_bg_lo ha]; exact ht.2.2.1 a) (rfl) _ _ hP hD hS ls (lv_sub hl [4, 5, 3, 2, 1, 0] rfl)
end
section
theorem d_T_addArea_0 : decode b_T_addArea 0 = .ok (.aload_n 0, 1) := by decide +kernel
theorem d_T_addArea_1 : decode b_T_addArea 1 = .ok (.getfield 9, 3) := by decide +kernel
theorem d_T_addArea_4 : decode b_T_addArea 4 = .ok (.aload_n 0, 1) := by decide +kernel
theorem d_T_addArea_5 : decode b_T_addArea 5 = .ok (.getfield 28, 3) := by decide +kernel
theorem d_T_addArea_8 : decode b_T_addArea 8 = .ok (.lload_n 1, 1) := by decide +kernel
theorem d_T_addArea_9 : decode b_T_addArea 9 = .ok (.lastore, 1) := by decide +kernel
theorem d_T_addArea_10 : decode b_T_addArea 10 = .ok (.aload_n 0, 1) := by decide +kernel
theorem d_T_addArea_11 : decode b_T_addArea 11 = .ok (.getfield 15, 3) := by decide +kernel
theorem d_T_addArea_14 : decode b_T_addArea 14 = .ok (.aload_n 0, 1) := by decide +kernel
theorem d_T_addArea_15 : decode b_T_addArea 15 = .ok (.getfield 28, 3) := by decide +kernel
theorem d_T_addArea_18 : decode b_T_addArea 18 = .ok (.iload_n 3, 1) := by decide +kernel
theorem d_T_addArea_19 : decode b_T_addArea 19 = .ok (.iastore, 1) := by decide +kernel
theorem d_T_addArea_20 : decode b_T_addArea 20 = .ok (.aload_n 0, 1) := by decide +kernel
theorem d_T_addArea_21 : decode b_T_addArea 21 = .ok (.dup, 1) := by decide +kernel
theorem d_T_addArea_22 : decode b_T_addArea 22 = .ok (.getfield 28, 3) := by decide +kernel
theorem d_T_addArea_25 : decode b_T_addArea 25 = .ok (.iconst 1, 1) := by decide +kernel
theorem d_T_addArea_26 : decode b_T_addArea 26 = .ok (.iadd, 1) := by decide +kernel
theorem d_T_addArea_27 : decode b_T_addArea 27 = .ok (.putfield 28, 3) := by decide +kernel
theorem d_T_addArea_30 : decode b_T_addArea 30 = .ok (.return_, 1) := by decide +kernel
theorem d_T_turnJoin_0 : decode b_T_turnJoin 0 = .ok (.aload_n 0, 1) := by decide +kernel
theorem d_T_turnJoin_1 : decode b_T_turnJoin 1 = .ok (.getfield 19, 3) := by decide +kernel
theorem d_T_turnJoin_4 : decode b_T_turnJoin 4 = .ok (.iload_n 1, 1) := by decide +kernel
theorem d_T_turnJoin_5 : decode b_T_turnJoin 5 = .ok (.dup2, 1) := by decide +kernel
theorem d_T_turnJoin_6 : decode b_T_turnJoin 6 = .ok (.iaload, 1) := by decide +kernel
theorem d_T_turnJoin_7 : decode b_T_turnJoin 7 = .ok (.iconst 1, 1) := by decide +kernel
theorem d_T_turnJoin_8 : decode b_T_turnJoin 8 = .ok (.iload_n 2, 1) := by decide +kernel
theorem d_T_turnJoin_9 : decode b_T_turnJoin 9 = .ok (.ishl, 1) := by decide +kernel
theorem d_T_turnJoin_10 : decode b_T_turnJoin 10 = .ok (.ixor, 1) := by decide +kernel
theorem d_T_turnJoin_11 : decode b_T_turnJoin 11 = .ok (.iastore, 1) := by decide +kernel
theorem d_T_turnJoin_12 : decode b_T_turnJoin 12 = .ok (.aload_n 0, 1) := by decide +kernel
theorem d_T_turnJoin_13 : decode b_T_turnJoin 13 = .ok (.getfield 19, 3) := by decide +kernel
theorem d_T_turnJoin_16 : decode b_T_turnJoin 16 = .ok (.iload_n 2, 1) := by decide +kernel
theorem d_T_turnJoin_17 : decode b_T_turnJoin 17 = .ok (.dup2, 1) := by decide +kernel
theorem d_T_turnJoin_18 : decode b_T_turnJoin 18 = .ok (.iaload, 1) := by decide +kernel
theorem d_T_turnJoin_19 : decode b_T_turnJoin 19 = .ok (.iconst 1, 1) := by decide +kernel
theorem d_T_turnJoin_20 : decode b_T_turnJoin 20 = .ok (.iload_n 1, 1) := by decide +kernel
theorem d_T_turnJoin_21 : decode b_T_turnJoin 21 = .ok (.ishl, 1) := by decide +kernel
theorem d_T_turnJoin_22 : decode b_T_turnJoin 22 = .ok (.ixor, 1) := by decide +kernel
theorem d_T_turnJoin_23 : decode b_T_turnJoin 23 = .ok (.iastore, 1) := by decide +kernel
theorem d_T_turnJoin_24 : decode b_T_turnJoin 24 = .ok (.return_, 1) := by decide +kernel
theorem d_T_learn_0 : decode b_T_learn 0 = .ok (.aload_n 0, 1) := by decide +kernel
theorem d_T_learn_1 : decode b_T_learn 1 = .ok (.getfield 22, 3) := by decide +kernel
theorem d_T_learn_4 : decode b_T_learn 4 = .ok (.iload_n 2, 1) := by decide +kernel
theorem d_T_learn_5 : decode b_T_learn 5 = .ok (.dup2, 1) := by decide +kernel
theorem d_T_learn_6 : decode b_T_learn 6 = .ok (.iaload, 1) := by decide +kernel
theorem d_T_learn_7 : decode b_T_learn 7 = .ok (.iconst 1, 1) := by decide +kernel
theorem d_T_learn_8 : decode b_T_learn 8 = .ok (.iload_n 1, 1) := by decide +kernel
theorem d_T_learn_9 : decode b_T_learn 9 = .ok (.ishl, 1) := by decide +kernel
theorem d_T_learn_10 : decode b_T_learn 10 = .ok (.ior, 1) := by decide +kernel
theorem d_T_learn_11 : decode b_T_learn 11 = .ok (.iastore, 1) := by decide +kernel
theorem d_T_learn_12 : decode b_T_learn 12 = .ok (.return_, 1) := by decide +kernel
theorem d_B_area_0 : decode b_B_area 0 = .ok (.lload_n 1, 1) := by decide +kernel
theorem d_B_area_1 : decode b_B_area 1 = .ok (.lconst 0, 1) := by decide +kernel
theorem d_B_area_2 : decode b_B_area 2 = .ok (.lcmp, 1) := by decide +kernel
theorem d_B_area_3 : decode b_B_area 3 = .ok (.ifCond .lt 18, 3) := by decide +kernel
theorem d_B_area_6 : decode b_B_area 6 = .ok (.lload_n 1, 1) := by decide +kernel
theorem d_B_area_7 : decode b_B_area 7 = .ok (.ldc2_w 36, 3) := by decide +kernel
theorem d_B_area_10 : decode b_B_area 10 = .ok (.lcmp, 1) := by decide +kernel
theorem d_B_area_11 : decode b_B_area 11 = .ok (.ifCond .gt 10, 3) := by decide +kernel
theorem d_B_area_14 : decode b_B_area 14 = .ok (.iload_n 3, 1) := by decide +kernel
theorem d_B_area_15 : decode b_B_area 15 = .ok (.invokestatic 38, 3) := by decide +kernel
theorem d_B_area_18 : decode b_B_area 18 = .ok (.ifCond .ne 6, 3) := by decide +kernel
theorem d_B_area_21 : decode b_B_area 21 = .ok (.bipush (-12), 2) := by decide +kernel
theorem d_B_area_23 : decode b_B_area 23 = .ok (.ireturn, 1) := by decide +kernel
theorem d_B_area_24 : decode b_B_area 24 = .ok (.aload_n 0, 1) := by decide +kernel
theorem d_B_area_25 : decode b_B_area 25 = .ok (.getfield 12, 3) := by decide +kernel
theorem d_B_area_28 : decode b_B_area 28 = .ok (.getfield 42, 3) := by decide +kernel
theorem d_B_area_31 : decode b_B_area 31 = .ok (.bipush 30, 2) := by decide +kernel
theorem d_B_area_33 : decode b_B_area 33 = .ok (.if_icmp .lt 6, 3) := by decide +kernel
theorem d_B_area_36 : decode b_B_area 36 = .ok (.bipush (-14), 2) := by decide +kernel
theorem d_B_area_38 : decode b_B_area 38 = .ok (.ireturn, 1) := by decide +kernel
theorem d_B_area_39 : decode b_B_area 39 = .ok (.aload_n 0, 1) := by decide +kernel
theorem d_B_area_40 : decode b_B_area 40 = .ok (.getfield 12, 3) := by decide +kernel
theorem d_B_area_43 : decode b_B_area 43 = .ok (.lload_n 1, 1) := by decide +kernel
theorem d_B_area_44 : decode b_B_area 44 = .ok (.iload_n 3, 1) := by decide +kernel
theorem d_B_area_45 : decode b_B_area 45 = .ok (.invokevirtual 46, 3) := by decide +kernel
theorem d_B_area_48 : decode b_B_area 48 = .ok (.aload_n 0, 1) := by decide +kernel
theorem d_B_area_49 : decode b_B_area 49 = .ok (.iconst 0, 1) := by decide +kernel
theorem d_B_area_50 : decode b_B_area 50 = .ok (.putfield 32, 3) := by decide +kernel
theorem d_B_area_53 : decode b_B_area 53 = .ok (.aload_n 0, 1) := by decide +kernel
theorem d_B_area_54 : decode b_B_area 54 = .ok (.getfield 12, 3) := by decide +kernel
theorem d_B_area_57 : decode b_B_area 57 = .ok (.getfield 42, 3) := by decide +kernel
theorem d_B_area_60 : decode b_B_area 60 = .ok (.ireturn, 1) := by decide +kernel
theorem d_B_joined_0 : decode b_B_joined 0 = .ok (.aload_n 0, 1) := by decide +kernel
theorem d_B_joined_1 : decode b_B_joined 1 = .ok (.iload_n 1, 1) := by decide +kernel
theorem d_B_joined_2 : decode b_B_joined 2 = .ok (.invokevirtual 50, 3) := by decide +kernel
theorem d_B_joined_5 : decode b_B_joined 5 = .ok (.ifCond .eq 16, 3) := by decide +kernel
theorem d_B_joined_8 : decode b_B_joined 8 = .ok (.aload_n 0, 1) := by decide +kernel
theorem d_B_joined_9 : decode b_B_joined 9 = .ok (.iload_n 2, 1) := by decide +kernel
theorem d_B_joined_10 : decode b_B_joined 10 = .ok (.invokevirtual 50, 3) := by decide +kernel
theorem d_B_joined_13 : decode b_B_joined 13 = .ok (.ifCond .eq 8, 3) := by decide +kernel
theorem d_B_joined_16 : decode b_B_joined 16 = .ok (.iload_n 1, 1) := by decide +kernel
theorem d_B_joined_17 : decode b_B_joined 17 = .ok (.iload_n 2, 1) := by decide +kernel
theorem d_B_joined_18 : decode b_B_joined 18 = .ok (.if_icmp .ne 5, 3) := by decide +kernel
theorem d_B_joined_21 : decode b_B_joined 21 = .ok (.iconst 0, 1) := by decide +kernel
theorem d_B_joined_22 : decode b_B_joined 22 = .ok (.ireturn, 1) := by decide +kernel
theorem d_B_joined_23 : decode b_B_joined 23 = .ok (.iload_n 3, 1) := by decide +kernel
theorem d_B_joined_24 : decode b_B_joined 24 = .ok (.ifCond .ne 7, 3) := by decide +kernel
theorem d_B_joined_27 : decode b_B_joined 27 = .ok (.iconst 1, 1) := by decide +kernel
theorem d_B_joined_28 : decode b_B_joined 28 = .ok (.goto 4, 3) := by decide +kernel
theorem d_B_joined_31 : decode b_B_joined 31 = .ok (.iconst 0, 1) := by decide +kernel
theorem d_B_joined_32 : decode b_B_joined 32 = .ok (.istore 4, 2) := by decide +kernel
theorem d_B_joined_34 : decode b_B_joined 34 = .ok (.aload_n 0, 1) := by decide +kernel
theorem d_B_joined_35 : decode b_B_joined 35 = .ok (.getfield 12, 3) := by decide +kernel
theorem d_B_joined_38 : decode b_B_joined 38 = .ok (.iload_n 1, 1) := by decide +kernel
theorem d_B_joined_39 : decode b_B_joined 39 = .ok (.iconst 1, 1) := by decide +kernel
theorem d_B_joined_40 : decode b_B_joined 40 = .ok (.isub, 1) := by decide +kernel
theorem d_B_joined_41 : decode b_B_joined 41 = .ok (.iload_n 2, 1) := by decide +kernel
theorem d_B_joined_42 : decode b_B_joined 42 = .ok (.iconst 1, 1) := by decide +kernel
theorem d_B_joined_43 : decode b_B_joined 43 = .ok (.isub, 1) := by decide +kernel
theorem d_B_joined_44 : decode b_B_joined 44 = .ok (.invokevirtual 53, 3) := by decide +kernel
theorem d_B_joined_47 : decode b_B_joined 47 = .ok (.iload 4, 2) := by decide +kernel
theorem d_B_joined_49 : decode b_B_joined 49 = .ok (.if_icmp .eq 21, 3) := by decide +kernel
theorem d_B_joined_52 : decode b_B_joined 52 = .ok (.aload_n 0, 1) := by decide +kernel
theorem d_B_joined_53 : decode b_B_joined 53 = .ok (.getfield 12, 3) := by decide +kernel
theorem d_B_joined_56 : decode b_B_joined 56 = .ok (.iload_n 1, 1) := by decide +kernel
theorem d_B_joined_57 : decode b_B_joined 57 = .ok (.iconst 1, 1) := by decide +kernel
theorem d_B_joined_58 : decode b_B_joined 58 = .ok (.isub, 1) := by decide +kernel
theorem d_B_joined_59 : decode b_B_joined 59 = .ok (.iload_n 2, 1) := by decide +kernel
theorem d_B_joined_60 : decode b_B_joined 60 = .ok (.iconst 1, 1) := by decide +kernel
theorem d_B_joined_61 : decode b_B_joined 61 = .ok (.isub, 1) := by decide +kernel
theorem d_B_joined_62 : decode b_B_joined 62 = .ok (.invokevirtual 57, 3) := by decide +kernel
theorem d_B_joined_65 : decode b_B_joined 65 = .ok (.aload_n 0, 1) := by decide +kernel
theorem d_B_joined_66 : decode b_B_joined 66 = .ok (.iconst 0, 1) := by decide +kernel
theorem d_B_joined_67 : decode b_B_joined 67 = .ok (.putfield 32, 3) := by decide +kernel
theorem d_B_joined_70 : decode b_B_joined 70 = .ok (.iload 4, 2) := by decide +kernel
theorem d_B_joined_72 : decode b_B_joined 72 = .ok (.ireturn, 1) := by decide +kernel
theorem d_B_carrier_0 : decode b_B_carrier 0 = .ok (.iload_n 1, 1) := by decide +kernel
theorem d_B_carrier_1 : decode b_B_carrier 1 = .ok (.invokestatic 38, 3) := by decide +kernel
theorem d_B_carrier_4 : decode b_B_carrier 4 = .ok (.ifCond .eq 17, 3) := by decide +kernel
theorem d_B_carrier_7 : decode b_B_carrier 7 = .ok (.lload_n 2, 1) := by decide +kernel
theorem d_B_carrier_8 : decode b_B_carrier 8 = .ok (.lconst 0, 1) := by decide +kernel
theorem d_B_carrier_9 : decode b_B_carrier 9 = .ok (.lcmp, 1) := by decide +kernel
theorem d_B_carrier_10 : decode b_B_carrier 10 = .ok (.ifCond .lt 11, 3) := by decide +kernel
theorem d_B_carrier_13 : decode b_B_carrier 13 = .ok (.lload_n 2, 1) := by decide +kernel
theorem d_B_carrier_14 : decode b_B_carrier 14 = .ok (.ldc2_w 61, 3) := by decide +kernel
theorem d_B_carrier_17 : decode b_B_carrier 17 = .ok (.lcmp, 1) := by decide +kernel
theorem d_B_carrier_18 : decode b_B_carrier 18 = .ok (.ifCond .le 6, 3) := by decide +kernel
theorem d_B_carrier_21 : decode b_B_carrier 21 = .ok (.bipush (-12), 2) := by decide +kernel
theorem d_B_carrier_23 : decode b_B_carrier 23 = .ok (.ireturn, 1) := by decide +kernel
theorem d_B_carrier_24 : decode b_B_carrier 24 = .ok (.aload_n 0, 1) := by decide +kernel
theorem d_B_carrier_25 : decode b_B_carrier 25 = .ok (.getfield 12, 3) := by decide +kernel
theorem d_B_carrier_28 : decode b_B_carrier 28 = .ok (.getfield 63, 3) := by decide +kernel
theorem d_B_carrier_31 : decode b_B_carrier 31 = .ok (.iload_n 1, 1) := by decide +kernel
theorem d_B_carrier_32 : decode b_B_carrier 32 = .ok (.laload, 1) := by decide +kernel
theorem d_B_carrier_33 : decode b_B_carrier 33 = .ok (.lstore 4, 2) := by decide +kernel
theorem d_B_carrier_35 : decode b_B_carrier 35 = .ok (.lload 4, 2) := by decide +kernel
theorem d_B_carrier_37 : decode b_B_carrier 37 = .ok (.lload_n 2, 1) := by decide +kernel
theorem d_B_carrier_38 : decode b_B_carrier 38 = .ok (.lcmp, 1) := by decide +kernel
theorem d_B_carrier_39 : decode b_B_carrier 39 = .ok (.ifCond .eq 18, 3) := by decide +kernel
theorem d_B_carrier_42 : decode b_B_carrier 42 = .ok (.aload_n 0, 1) := by decide +kernel
theorem d_B_carrier_43 : decode b_B_carrier 43 = .ok (.getfield 12, 3) := by decide +kernel
theorem d_B_carrier_46 : decode b_B_carrier 46 = .ok (.getfield 63, 3) := by decide +kernel
theorem d_B_carrier_49 : decode b_B_carrier 49 = .ok (.iload_n 1, 1) := by decide +kernel
theorem d_B_carrier_50 : decode b_B_carrier 50 = .ok (.lload_n 2, 1) := by decide +kernel
theorem d_B_carrier_51 : decode b_B_carrier 51 = .ok (.lastore, 1) := by decide +kernel
theorem d_B_carrier_52 : decode b_B_carrier 52 = .ok (.aload_n 0, 1) := by decide +kernel
theorem d_B_carrier_53 : decode b_B_carrier 53 = .ok (.iconst 0, 1) := by decide +kernel
theorem d_B_carrier_54 : decode b_B_carrier 54 = .ok (.putfield 32, 3) := by decide +kernel
theorem d_B_carrier_57 : decode b_B_carrier 57 = .ok (.lload 4, 2) := by decide +kernel
theorem d_B_carrier_59 : decode b_B_carrier 59 = .ok (.l2i, 1) := by decide +kernel
theorem d_B_carrier_60 : decode b_B_carrier 60 = .ok (.ireturn, 1) := by decide +kernel
theorem d_B_know_0 : decode b_B_know 0 = .ok (.aload_n 0, 1) := by decide +kernel
theorem d_B_know_1 : decode b_B_know 1 = .ok (.iload_n 2, 1) := by decide +kernel
theorem d_B_know_2 : decode b_B_know 2 = .ok (.invokevirtual 50, 3) := by decide +kernel
theorem d_B_know_5 : decode b_B_know 5 = .ok (.ifCond .ne 6, 3) := by decide +kernel
theorem d_B_know_8 : decode b_B_know 8 = .ok (.bipush (-11), 2) := by decide +kernel
theorem d_B_know_10 : decode b_B_know 10 = .ok (.ireturn, 1) := by decide +kernel
theorem d_B_know_11 : decode b_B_know 11 = .ok (.iload_n 1, 1) := by decide +kernel
theorem d_B_know_12 : decode b_B_know 12 = .ok (.invokestatic 38, 3) := by decide +kernel
theorem d_B_know_15 : decode b_B_know 15 = .ok (.ifCond .ne 6, 3) := by decide +kernel
theorem d_B_know_18 : decode b_B_know 18 = .ok (.bipush (-12), 2) := by decide +kernel
theorem d_B_know_20 : decode b_B_know 20 = .ok (.ireturn, 1) := by decide +kernel
theorem d_B_know_21 : decode b_B_know 21 = .ok (.aload_n 0, 1) := by decide +kernel
theorem d_B_know_22 : decode b_B_know 22 = .ok (.getfield 12, 3) := by decide +kernel
theorem d_B_know_25 : decode b_B_know 25 = .ok (.iload_n 2, 1) := by decide +kernel
theorem d_B_know_26 : decode b_B_know 26 = .ok (.iconst 1, 1) := by decide +kernel
theorem d_B_know_27 : decode b_B_know 27 = .ok (.isub, 1) := by decide +kernel
theorem d_B_know_28 : decode b_B_know 28 = .ok (.iload_n 1, 1) := by decide +kernel
theorem d_B_know_29 : decode b_B_know 29 = .ok (.invokevirtual 67, 3) := by decide +kernel
theorem d_B_know_32 : decode b_B_know 32 = .ok (.ifCond .eq 5, 3) := by decide +kernel
theorem d_B_know_35 : decode b_B_know 35 = .ok (.iconst 0, 1) := by decide +kernel
theorem d_B_know_36 : decode b_B_know 36 = .ok (.ireturn, 1) := by decide +kernel
theorem d_B_know_37 : decode b_B_know 37 = .ok (.aload_n 0, 1) := by decide +kernel
theorem d_B_know_38 : decode b_B_know 38 = .ok (.getfield 12, 3) := by decide +kernel
theorem d_B_know_41 : decode b_B_know 41 = .ok (.iload_n 2, 1) := by decide +kernel
theorem d_B_know_42 : decode b_B_know 42 = .ok (.iconst 1, 1) := by decide +kernel
theorem d_B_know_43 : decode b_B_know 43 = .ok (.isub, 1) := by decide +kernel
theorem d_B_know_44 : decode b_B_know 44 = .ok (.iload_n 1, 1) := by decide +kernel
theorem d_B_know_45 : decode b_B_know 45 = .ok (.invokevirtual 70, 3) := by decide +kernel
theorem d_B_know_48 : decode b_B_know 48 = .ok (.aload_n 0, 1) := by decide +kernel
theorem d_B_know_49 : decode b_B_know 49 = .ok (.iconst 0, 1) := by decide +kernel
theorem d_B_know_50 : decode b_B_know 50 = .ok (.putfield 32, 3) := by decide +kernel
theorem d_B_know_53 : decode b_B_know 53 = .ok (.iconst 1, 1) := by decide +kernel
theorem d_B_know_54 : decode b_B_know 54 = .ok (.ireturn, 1) := by decide +kernel

/-- what changes a town -/
def bz_aA (t : bz_T) (x r : Nat) : bz_T := (bz_n t + 1, va_up (bz_l t) (bz_n t) x, va_up (bz_d t) (bz_n t) r, bz_j t, bz_k t, bz_h t)
def bz_sJ (t : bz_T) (a b : Nat) (o : Bool) : bz_T := (bz_n t, bz_l t, bz_d t, fun x y => if (x = a ∧ y = b) ∨ (x = b ∧ y = a) then o else bz_j t x y, bz_k t, bz_h t)
def bz_sK (t : bz_T) (r a : Nat) : bz_T := (bz_n t, bz_l t, bz_d t, bz_j t, va_up (bz_k t) r (fun i => bz_k t r i || decide (i = a)), bz_h t)
def bz_sH (t : bz_T) (r x : Nat) : bz_T := (bz_n t, bz_l t, bz_d t, bz_j t, bz_k t, va_up (bz_h t) r x)
theorem bz_aA_R (t : bz_T) (x r : Nat) : bz_tR (bz_aA t x r) = (vp_updL (bz_tR t).1 (bz_n t) (lN x), upd (bz_tR t).2.1 (bz_n t) (nI r), (bz_tR t).2.2.1, (bz_tR t).2.2.2.1, (bz_tR t).2.2.2.2.1, nI (bz_n t + 1)) := by
  refine Prod.ext ?_ (Prod.ext ?_ rfl)
  · exact (bz_updL (bz_l t) (bz_n t) x).symm
  · exact (bz_updI (bz_d t) (bz_n t) r).symm
theorem bz_sJ_R {t : bz_T} (ht : bz_ok t) {a b : Nat} (hab : a ≠ b) {o : Bool} (hj : bz_j t a b = !o) : bz_tR (bz_sJ t a b o) = ((bz_tR t).1, (bz_tR t).2.1, upd (upd (bz_tR t).2.2.1 a (bz_m (fun i => bz_j t a i ^^ decide (i = b)))) b (bz_m (fun i => bz_j t b i ^^ decide (i = a))), (bz_tR t).2.2.2.1, (bz_tR t).2.2.2.2.1, nI (bz_n t)) := by
  refine Prod.ext rfl (Prod.ext rfl (Prod.ext (funext fun x => ?_) rfl))
  have hj2 : bz_j t b a = !o := by rw [ht.2.2.2.2.1 b a]; exact hj
  show bz_m (bz_j (bz_sJ t a b o) x) = if x = b then _ else (if x = a then _ else bz_m (bz_j t x))
  by_cases e1 : x = b
  · subst e1
    rw [if_pos rfl]
    refine bz_ext fun i _ => ?_
    show (if (x = a ∧ i = x) ∨ (x = x ∧ i = a) then o else bz_j t x i) = _
    by_cases e2 : i = a
    · subst e2
      rw [if_pos (Or.inr ⟨rfl, rfl⟩), hj2]
      cases o <;> simp
    · rw [if_neg (by rintro (⟨h, -⟩ | ⟨-, h⟩); exact hab h.symm; exact e2 h)]
      simp [e2]
  · rw [if_neg e1]
    by_cases e2 : x = a
    · subst e2
      rw [if_pos rfl]
      refine bz_ext fun i _ => ?_
      show (if (x = x ∧ i = b) ∨ (x = b ∧ i = x) then o else bz_j t x i) = _
      by_cases e3 : i = b
      · subst e3
        rw [if_pos (Or.inl ⟨rfl, rfl⟩), hj]
        cases o <;> simp
      · rw [if_neg (by rintro (⟨-, h⟩ | ⟨h, -⟩); exact e3 h; exact e1 h)]
        simp [e3]
    · rw [if_neg e2]
      refine bz_ext fun i _ => ?_
      show (if (x = a ∧ i = b) ∨ (x = b ∧ i = a) then o else bz_j t x i) = _
      rw [if_neg (by rintro (⟨h, -⟩ | ⟨h, -⟩); exact e2 h; exact e1 h)]
theorem bz_sK_R (t : bz_T) (r a : Nat) : bz_tR (bz_sK t r a) = ((bz_tR t).1, (bz_tR t).2.1, (bz_tR t).2.2.1, upd (bz_tR t).2.2.2.1 r (bz_m (fun i => bz_k t r i || decide (i = a))), (bz_tR t).2.2.2.2.1, nI (bz_n t)) := by
  refine Prod.ext rfl (Prod.ext rfl (Prod.ext rfl (Prod.ext ?_ rfl)))
  exact (bz_updM (bz_k t) r _).symm
theorem bz_sH_R (t : bz_T) (r x : Nat) : bz_tR (bz_sH t r x) = ((bz_tR t).1, (bz_tR t).2.1, (bz_tR t).2.2.1, (bz_tR t).2.2.2.1, vp_updL (bz_tR t).2.2.2.2.1 r (lN x), nI (bz_n t)) := by
  refine Prod.ext rfl (Prod.ext rfl (Prod.ext rfl (Prod.ext rfl (Prod.ext ?_ rfl))))
  exact (bz_updL (bz_h t) r x).symm
theorem bz_aA_ok {t : bz_T} (h : bz_ok t) {x r : Nat} (hn : bz_n t < 30) (hx : x ≤ 1000000) (hr : r < 4) : bz_ok (bz_aA t x r) := by
  obtain ⟨h1, h2, h3, h4, h5, h6, h7⟩ := h
  refine ⟨?_, fun a => ?_, fun a => ?_, fun a b hab => ?_, h5, fun q a hq => ?_, h7⟩
  · show bz_n t + 1 ≤ 30
    omega
  · show va_up (bz_l t) (bz_n t) x a ≤ 1000000
    unfold va_up
    split
    · exact hx
    · exact h2 a
  · show va_up (bz_d t) (bz_n t) r a < 4
    unfold va_up
    split
    · exact hr
    · exact h3 a
  · have := h4 a b hab
    show a < bz_n t + 1 ∧ b < bz_n t + 1 ∧ a ≠ b
    exact ⟨by omega, by omega, this.2.2⟩
  · have := h6 q a hq
    show q < 4 ∧ a < bz_n t + 1
    exact ⟨this.1, by omega⟩
theorem bz_sJ_ok {t : bz_T} (h : bz_ok t) {a b : Nat} {o : Bool} (ha : a < bz_n t) (hb : b < bz_n t) (hab : a ≠ b) : bz_ok (bz_sJ t a b o) := by
  obtain ⟨h1, h2, h3, h4, h5, h6, h7⟩ := h
  refine ⟨h1, h2, h3, fun x y hxy => ?_, fun x y => ?_, h6, h7⟩
  · have hxy : (if (x = a ∧ y = b) ∨ (x = b ∧ y = a) then o else bz_j t x y) = true := hxy
    by_cases e : (x = a ∧ y = b) ∨ (x = b ∧ y = a)
    · show x < bz_n t ∧ y < bz_n t ∧ x ≠ y
      rcases e with ⟨e1, e2⟩ | ⟨e1, e2⟩
      · subst e1; subst e2; exact ⟨ha, hb, hab⟩
      · subst e1; subst e2; exact ⟨hb, ha, hab.symm⟩
    · rw [if_neg e] at hxy
      exact h4 x y hxy
  · show (if (x = a ∧ y = b) ∨ (x = b ∧ y = a) then o else bz_j t x y) = (if (y = a ∧ x = b) ∨ (y = b ∧ x = a) then o else bz_j t y x)
    by_cases e : (x = a ∧ y = b) ∨ (x = b ∧ y = a)
    · rw [if_pos e, if_pos (by rcases e with ⟨e1, e2⟩ | ⟨e1, e2⟩; exact Or.inr ⟨e2, e1⟩; exact Or.inl ⟨e2, e1⟩)]
    · rw [if_neg e, if_neg (by rintro (⟨e1, e2⟩ | ⟨e1, e2⟩); exact e (Or.inr ⟨e2, e1⟩); exact e (Or.inl ⟨e2, e1⟩))]
      exact h5 x y
theorem bz_sK_ok {t : bz_T} (h : bz_ok t) {r a : Nat} (hr : r < 4) (ha : a < bz_n t) : bz_ok (bz_sK t r a) := by
  obtain ⟨h1, h2, h3, h4, h5, h6, h7⟩ := h
  refine ⟨h1, h2, h3, h4, h5, fun q i hq => ?_, h7⟩
  have hq : va_up (bz_k t) r (fun i => bz_k t r i || decide (i = a)) q i = true := hq
  by_cases e : q = r
  · subst e
    rw [bz_up_s] at hq
    rcases (Bool.or_eq_true _ _).mp hq with z | z
    · exact h6 q i z
    · have : i = a := of_decide_eq_true z
      subst this
      exact ⟨hr, ha⟩
  · rw [bz_up_n _ _ e] at hq
    exact h6 q i hq
theorem bz_sH_ok {t : bz_T} (h : bz_ok t) {r x : Nat} (hx : x ≤ 1000000000) : bz_ok (bz_sH t r x) := by
  obtain ⟨h1, h2, h3, h4, h5, h6, h7⟩ := h
  refine ⟨h1, h2, h3, h4, h5, h6, fun q => ?_⟩
  show va_up (bz_h t) r x q ≤ 1000000000
  unfold va_up
  split
  · exact hx
  · exact h7 q

set_option maxHeartbeats 4000000 in
set_option maxRecDepth 100000 in
/-- Town.addArea -/
theorem c_T_addArea (l : Launch) (dC : Nat → ClassId) (dI : Nat → Nat → Nat) (sz : Nat) (ad : Nat → Nat) (cI cL : ClassId) (t : bz_T) (R : bz_RS) (L : (Nat → Int32) × Int64) (v : Int32) (ht : bz_ok t) (x r : Nat) (hn : bz_n t < 30) : Met l y_T_addArea w_T_addArea ({ frames := 0, cells := 0, slots := 0, locals := 0 }) (bz_Pw (dC, dI) [(cI, .int), (cL, .long)] (bz_wB ad cI cL (bz_tR t) R L v) sz [.ref (ad 1), .long (lN x), .int (nI r)]) (bz_Qv (dC, dI) [(cI, .int), (cL, .long)] (va_A (bz_wB ad cI cL (bz_tR t) R L v) sz) (bz_wB ad cI cL (bz_tR (bz_aA t x r)) R L v)) 0 0 (va_A (bz_wB ad cI cL (bz_tR t) R L v) sz) := by
  refine Met.ofW (cc := b_T_addArea) (maxL := 4) (ret := none) (by decide) rfl ?_
  intro p e s m args below meth c s₁ B hml hv
  obtain ⟨rfl, hsz, hP, hK, hD0, hN⟩ := hv
  have hx := B.exec
  have hb := B.bytes
  have hr := B.returns
  have hts := atoms_spec (ws := w_T_addArea) B.pre
  have hown : s.vm.findClass R_T = some m.cls := findClass_of_methodNamed B.named
  have htb : ∀ w ∈ bz_tb, w.before _ s = true := fun w h => hts w (List.mem_cons_of_mem _ h)
  have hlocks := B.notSynchronized
  subst hsz
  have hD := hD0.self (sz := s.heap.size)
  generalize hAe : va_A (bz_wB ad cI cL (bz_tR t) R L v) s.heap.size = A at hD ⊢
  have hA : ∀ q : Nat, s.heap.size ≤ q → A q := fun q h => by rw [← hAe]; exact Or.inr h
  have hS : va_S A s.heap s.heap [] := va_S.rf
  have hl := lv_entry ([.ref (ad 1), .long (lN x), .int (nI r)]) (n := 4) (Nat.le_of_ble_eq_true rfl)
  rw [lg_entry_eq]
  generalize (lg_sl ([.ref (ad 1), .long (lN x), .int (nI r)]) ++ List.replicate (4 - (lg_sl ([.ref (ad 1), .long (lN x), .int (nI r)])).length) Slot.unset).toArray = ls at hl ⊢
  have hl : lv_has ls 4 [(0, .ref (ad 1)), (1, .long (lN x)), (3, .int (nI r))] := hl
  refine lv_aload_n hx hb d_T_addArea_0 rfl (lv_at hl 0 rfl) ?_
  refine va_get (D := (dC, dI)) (ci := 2) (v := .ref (ad 2)) (C := R_T) (T := F_T) (N := 6) hx hb htb in_T hown hK hP 1 rfl rfl 0 (by decide) (htb _ wd_46) (fun _ h9 => h9) rfl d_T_addArea_1 ?_
  refine lv_aload_n hx hb d_T_addArea_4 rfl (lv_at hl 0 rfl) ?_
  refine va_get (D := (dC, dI)) (ci := 2) (v := .int (nI (bz_n t))) (C := R_T) (T := F_T) (N := 6) hx hb htb in_T hown hK hP 1 rfl rfl 5 (by decide) (htb _ wd_55) (fun _ h9 => h9) rfl d_T_addArea_5 ?_
  refine lv_lload_n hx hb d_T_addArea_8 rfl (lv_at hl 1 rfl) ?_
  refine bz_last hx hb hK hP hD hS 2 1 rfl rfl (a9 := (bz_n t)) (by omega) (by decide) d_T_addArea_9 (fun H locs hP hD hS => ?_)
  have hP : va_P (dC, dI) vwCl (bz_wB ad cI cL ((vp_updL ((bz_tR t).1) (bz_n t) (lN x)), (bz_tR t).2.1, (bz_tR t).2.2.1, (bz_tR t).2.2.2.1, (bz_tR t).2.2.2.2.1, nI (bz_n t)) R L v) H := hP
  have hD : va_D A (bz_wB ad cI cL ((vp_updL ((bz_tR t).1) (bz_n t) (lN x)), (bz_tR t).2.1, (bz_tR t).2.2.1, (bz_tR t).2.2.2.1, (bz_tR t).2.2.2.2.1, nI (bz_n t)) R L v) := hD
  refine lv_aload_n hx hb d_T_addArea_10 rfl (lv_at hl 0 rfl) ?_
  refine va_get (D := (dC, dI)) (ci := 2) (v := .ref (ad 3)) (C := R_T) (T := F_T) (N := 6) hx hb htb in_T hown hK hP 1 rfl rfl 1 (by decide) (htb _ wd_47) (fun _ h9 => h9) rfl d_T_addArea_11 ?_
  refine lv_aload_n hx hb d_T_addArea_14 rfl (lv_at hl 0 rfl) ?_
  refine va_get (D := (dC, dI)) (ci := 2) (v := .int (nI (bz_n t))) (C := R_T) (T := F_T) (N := 6) hx hb htb in_T hown hK hP 1 rfl rfl 5 (by decide) (htb _ wd_55) (fun _ h9 => h9) rfl d_T_addArea_15 ?_
  refine lv_iload_n hx hb d_T_addArea_18 rfl (lv_at hl 2 rfl) ?_
  refine bz_iast hx hb hK hP hD hS 3 0 rfl rfl (a9 := (bz_n t)) (by omega) (by decide) d_T_addArea_19 (fun H locs hP hD hS => ?_)
  have hP : va_P (dC, dI) vwCl (bz_wB ad cI cL ((vp_updL ((bz_tR t).1) (bz_n t) (lN x)), (upd ((bz_tR t).2.1) (bz_n t) (nI r)), (bz_tR t).2.2.1, (bz_tR t).2.2.2.1, (bz_tR t).2.2.2.2.1, nI (bz_n t)) R L v) H := hP
  have hD : va_D A (bz_wB ad cI cL ((vp_updL ((bz_tR t).1) (bz_n t) (lN x)), (upd ((bz_tR t).2.1) (bz_n t) (nI r)), (bz_tR t).2.2.1, (bz_tR t).2.2.2.1, (bz_tR t).2.2.2.2.1, nI (bz_n t)) R L v) := hD
  refine lv_aload_n hx hb d_T_addArea_20 rfl (lv_at hl 0 rfl) ?_
  refine lv_dup hx hb d_T_addArea_21 rfl ?_
  refine va_get (D := (dC, dI)) (ci := 2) (v := .int (nI (bz_n t))) (C := R_T) (T := F_T) (N := 6) hx hb htb in_T hown hK hP 1 rfl rfl 5 (by decide) (htb _ wd_55) (fun _ h9 => h9) rfl d_T_addArea_22 ?_
  refine lv_iconst (v := 1) hx hb d_T_addArea_25 (by decide) ?_
  refine lv_iadd hx hb d_T_addArea_26 ?_
  refine bz_ri (y := nI (bz_n t + 1)) (nI_1 _) ?_
  refine va_put (D := (dC, dI)) (ci := 2) (v := .int (nI (bz_n t + 1))) (ty := .int) (C := R_T) (T := F_T) (N := 6) hx hb htb in_T tf_T tok_T n_T hown hK hP hD hS 1 rfl rfl 5 (by decide) (htb _ wd_55) (fun _ h9 => h9) rfl (by decide +kernel) rfl rfl (Nat.le_of_ble_eq_true rfl) d_T_addArea_27 (fun H locs hP hD hS => ?_)
  have hP : va_P (dC, dI) vwCl (bz_wB ad cI cL ((vp_updL ((bz_tR t).1) (bz_n t) (lN x)), (upd ((bz_tR t).2.1) (bz_n t) (nI r)), (bz_tR t).2.2.1, (bz_tR t).2.2.2.1, (bz_tR t).2.2.2.2.1, nI (bz_n t + 1)) R L v) H := hP
  have hD : va_D A (bz_wB ad cI cL ((vp_updL ((bz_tR t).1) (bz_n t) (lN x)), (upd ((bz_tR t).2.1) (bz_n t) (nI r)), (bz_tR t).2.2.1, (bz_tR t).2.2.2.1, (bz_tR t).2.2.2.2.1, nI (bz_n t + 1)) R L v) := hD
  have e9 : bz_tR (bz_aA t x r) = ((vp_updL ((bz_tR t).1) (bz_n t) (lN x)), (upd ((bz_tR t).2.1) (bz_n t) (nI r)), (bz_tR t).2.2.1, (bz_tR t).2.2.2.1, (bz_tR t).2.2.2.2.1, nI (bz_n t + 1)) := bz_aA_R t x r
  have hP : va_P (dC, dI) vwCl (bz_wB ad cI cL (bz_tR (bz_aA t x r)) R L v) H := by rw [e9]; exact hP
  have hD : va_D A (bz_wB ad cI cL (bz_tR (bz_aA t x r)) R L v) := by rw [e9]; exact hD
  exact W.vret hx hb hr (fun t9 ht9 hW => ⟨⟨(), rfl, trivial, by rw [ht9]; exact hP, va_K.moved hW.alike hK, hD⟩, hS.F ht9⟩) hS.2.2 d_T_addArea_30

set_option maxHeartbeats 4000000 in
set_option maxRecDepth 100000 in
/-- Town.turnJoin -/
theorem c_T_turnJoin (l : Launch) (dC : Nat → ClassId) (dI : Nat → Nat → Nat) (sz : Nat) (ad : Nat → Nat) (cI cL : ClassId) (t : bz_T) (R : bz_RS) (L : (Nat → Int32) × Int64) (v : Int32) (ht : bz_ok t) (a b : Nat) (o : Bool) (ha : a < bz_n t) (hbn : b < bz_n t) (hab : a ≠ b) (hj : bz_j t a b = !o) : Met l y_T_turnJoin w_T_turnJoin ({ frames := 0, cells := 0, slots := 0, locals := 0 }) (bz_Pw (dC, dI) [(cI, .int), (cL, .long)] (bz_wB ad cI cL (bz_tR t) R L v) sz [.ref (ad 1), .int (nI a), .int (nI b)]) (bz_Qv (dC, dI) [(cI, .int), (cL, .long)] (va_A (bz_wB ad cI cL (bz_tR t) R L v) sz) (bz_wB ad cI cL (bz_tR (bz_sJ t a b o)) R L v)) 0 0 (va_A (bz_wB ad cI cL (bz_tR t) R L v) sz) := by
  refine Met.ofW (cc := b_T_turnJoin) (maxL := 3) (ret := none) (by decide) rfl ?_
  intro p e s m args below meth c s₁ B hml hv
  obtain ⟨rfl, hsz, hP, hK, hD0, hN⟩ := hv
  have hx := B.exec
  have hb := B.bytes
  have hr := B.returns
  have hts := atoms_spec (ws := w_T_turnJoin) B.pre
  have hown : s.vm.findClass R_T = some m.cls := findClass_of_methodNamed B.named
  have htb : ∀ w ∈ bz_tb, w.before _ s = true := fun w h => hts w (List.mem_cons_of_mem _ h)
  have hlocks := B.notSynchronized
  subst hsz
  have hD := hD0.self (sz := s.heap.size)
  generalize hAe : va_A (bz_wB ad cI cL (bz_tR t) R L v) s.heap.size = A at hD ⊢
  have hA : ∀ q : Nat, s.heap.size ≤ q → A q := fun q h => by rw [← hAe]; exact Or.inr h
  have hS : va_S A s.heap s.heap [] := va_S.rf
  have hl := lv_entry ([.ref (ad 1), .int (nI a), .int (nI b)]) (n := 3) (Nat.le_of_ble_eq_true rfl)
  rw [lg_entry_eq]
  generalize (lg_sl ([.ref (ad 1), .int (nI a), .int (nI b)]) ++ List.replicate (3 - (lg_sl ([.ref (ad 1), .int (nI a), .int (nI b)])).length) Slot.unset).toArray = ls at hl ⊢
  have hl : lv_has ls 3 [(0, .ref (ad 1)), (1, .int (nI a)), (2, .int (nI b))] := hl
  have hn30 := ht.1
  refine lv_aload_n hx hb d_T_turnJoin_0 rfl (lv_at hl 0 rfl) ?_
  refine va_get (D := (dC, dI)) (ci := 2) (v := .ref (ad 4)) (C := R_T) (T := F_T) (N := 6) hx hb htb in_T hown hK hP 1 rfl rfl 2 (by decide) (htb _ wd_50) (fun _ h9 => h9) rfl d_T_turnJoin_1 ?_
  refine lv_iload_n hx hb d_T_turnJoin_4 rfl (lv_at hl 1 rfl) ?_
  refine lv_dup2_11 hx hb d_T_turnJoin_5 rfl rfl ?_
  refine bz_iald (v := bz_m (bz_j t a)) hx hb hK hP 4 0 rfl rfl (a9 := a) (by omega) (by decide) (rfl) d_T_turnJoin_6 ?_
  refine lv_iconst (v := 1) hx hb d_T_turnJoin_7 (by decide) ?_
  refine lv_iload_n hx hb d_T_turnJoin_8 rfl (lv_at hl 2 rfl) ?_
  refine lv_ishl hx hb d_T_turnJoin_9 ?_
  refine bz_ri (y := bz_m (fun i => decide (i = b))) (bz_one (by omega)) ?_
  refine lv_ixor hx hb d_T_turnJoin_10 ?_
  refine bz_ri (y := bz_m (fun i => bz_j t a i ^^ decide (i = b))) (bz_xor _ _) ?_
  refine bz_iast hx hb hK hP hD hS 4 0 rfl rfl (a9 := a) (by omega) (by decide) d_T_turnJoin_11 (fun H locs hP hD hS => ?_)
  have hP : va_P (dC, dI) vwCl (bz_wB ad cI cL ((bz_tR t).1, (bz_tR t).2.1, (upd ((bz_tR t).2.2.1) a (bz_m (fun i => bz_j t a i ^^ decide (i = b)))), (bz_tR t).2.2.2.1, (bz_tR t).2.2.2.2.1, nI (bz_n t)) R L v) H := hP
  have hD : va_D A (bz_wB ad cI cL ((bz_tR t).1, (bz_tR t).2.1, (upd ((bz_tR t).2.2.1) a (bz_m (fun i => bz_j t a i ^^ decide (i = b)))), (bz_tR t).2.2.2.1, (bz_tR t).2.2.2.2.1, nI (bz_n t)) R L v) := hD
  refine lv_aload_n hx hb d_T_turnJoin_12 rfl (lv_at hl 0 rfl) ?_
  refine va_get (D := (dC, dI)) (ci := 2) (v := .ref (ad 4)) (C := R_T) (T := F_T) (N := 6) hx hb htb in_T hown hK hP 1 rfl rfl 2 (by decide) (htb _ wd_50) (fun _ h9 => h9) rfl d_T_turnJoin_13 ?_
  refine lv_iload_n hx hb d_T_turnJoin_16 rfl (lv_at hl 2 rfl) ?_
  refine lv_dup2_11 hx hb d_T_turnJoin_17 rfl rfl ?_
  refine bz_iald (v := bz_m (bz_j t b)) hx hb hK hP 4 0 rfl rfl (a9 := b) (by omega) (by decide) (pk_un (Ne.symm hab)) d_T_turnJoin_18 ?_
  refine lv_iconst (v := 1) hx hb d_T_turnJoin_19 (by decide) ?_
  refine lv_iload_n hx hb d_T_turnJoin_20 rfl (lv_at hl 1 rfl) ?_
  refine lv_ishl hx hb d_T_turnJoin_21 ?_
  refine bz_ri (y := bz_m (fun i => decide (i = a))) (bz_one (by omega)) ?_
  refine lv_ixor hx hb d_T_turnJoin_22 ?_
  refine bz_ri (y := bz_m (fun i => bz_j t b i ^^ decide (i = a))) (bz_xor _ _) ?_
  refine bz_iast hx hb hK hP hD hS 4 0 rfl rfl (a9 := b) (by omega) (by decide) d_T_turnJoin_23 (fun H locs hP hD hS => ?_)
  have hP : va_P (dC, dI) vwCl (bz_wB ad cI cL ((bz_tR t).1, (bz_tR t).2.1, (upd (upd ((bz_tR t).2.2.1) a (bz_m (fun i => bz_j t a i ^^ decide (i = b)))) b (bz_m (fun i => bz_j t b i ^^ decide (i = a)))), (bz_tR t).2.2.2.1, (bz_tR t).2.2.2.2.1, nI (bz_n t)) R L v) H := hP
  have hD : va_D A (bz_wB ad cI cL ((bz_tR t).1, (bz_tR t).2.1, (upd (upd ((bz_tR t).2.2.1) a (bz_m (fun i => bz_j t a i ^^ decide (i = b)))) b (bz_m (fun i => bz_j t b i ^^ decide (i = a)))), (bz_tR t).2.2.2.1, (bz_tR t).2.2.2.2.1, nI (bz_n t)) R L v) := hD
  have e9 : bz_tR (bz_sJ t a b o) = ((bz_tR t).1, (bz_tR t).2.1, (upd (upd ((bz_tR t).2.2.1) a (bz_m (fun i => bz_j t a i ^^ decide (i = b)))) b (bz_m (fun i => bz_j t b i ^^ decide (i = a)))), (bz_tR t).2.2.2.1, (bz_tR t).2.2.2.2.1, nI (bz_n t)) := bz_sJ_R ht hab hj
  have hP : va_P (dC, dI) vwCl (bz_wB ad cI cL (bz_tR (bz_sJ t a b o)) R L v) H := by rw [e9]; exact hP
  have hD : va_D A (bz_wB ad cI cL (bz_tR (bz_sJ t a b o)) R L v) := by rw [e9]; exact hD
  exact W.vret hx hb hr (fun t9 ht9 hW => ⟨⟨(), rfl, trivial, by rw [ht9]; exact hP, va_K.moved hW.alike hK, hD⟩, hS.F ht9⟩) hS.2.2 d_T_turnJoin_24

set_option maxHeartbeats 4000000 in
set_option maxRecDepth 100000 in
/-- Town.learn -/
theorem c_T_learn (l : Launch) (dC : Nat → ClassId) (dI : Nat → Nat → Nat) (sz : Nat) (ad : Nat → Nat) (cI cL : ClassId) (t : bz_T) (R : bz_RS) (L : (Nat → Int32) × Int64) (v : Int32) (ht : bz_ok t) (a r : Nat) (ha : a < bz_n t) (hr4 : r < 4) : Met l y_T_learn w_T_learn ({ frames := 0, cells := 0, slots := 0, locals := 0 }) (bz_Pw (dC, dI) [(cI, .int), (cL, .long)] (bz_wB ad cI cL (bz_tR t) R L v) sz [.ref (ad 1), .int (nI a), .int (nI r)]) (bz_Qv (dC, dI) [(cI, .int), (cL, .long)] (va_A (bz_wB ad cI cL (bz_tR t) R L v) sz) (bz_wB ad cI cL (bz_tR (bz_sK t r a)) R L v)) 0 0 (va_A (bz_wB ad cI cL (bz_tR t) R L v) sz) := by
  refine Met.ofW (cc := b_T_learn) (maxL := 3) (ret := none) (by decide) rfl ?_
  intro p e s m args below meth c s₁ B hml hv
  obtain ⟨rfl, hsz, hP, hK, hD0, hN⟩ := hv
  have hx := B.exec
  have hb := B.bytes
  have hr := B.returns
  have hts := atoms_spec (ws := w_T_learn) B.pre
  have hown : s.vm.findClass R_T = some m.cls := findClass_of_methodNamed B.named
  have htb : ∀ w ∈ bz_tb, w.before _ s = true := fun w h => hts w (List.mem_cons_of_mem _ h)
  have hlocks := B.notSynchronized
  subst hsz
  have hD := hD0.self (sz := s.heap.size)
  generalize hAe : va_A (bz_wB ad cI cL (bz_tR t) R L v) s.heap.size = A at hD ⊢
  have hA : ∀ q : Nat, s.heap.size ≤ q → A q := fun q h => by rw [← hAe]; exact Or.inr h
  have hS : va_S A s.heap s.heap [] := va_S.rf
  have hl := lv_entry ([.ref (ad 1), .int (nI a), .int (nI r)]) (n := 3) (Nat.le_of_ble_eq_true rfl)
  rw [lg_entry_eq]
  generalize (lg_sl ([.ref (ad 1), .int (nI a), .int (nI r)]) ++ List.replicate (3 - (lg_sl ([.ref (ad 1), .int (nI a), .int (nI r)])).length) Slot.unset).toArray = ls at hl ⊢
  have hl : lv_has ls 3 [(0, .ref (ad 1)), (1, .int (nI a)), (2, .int (nI r))] := hl
  have hn30 := ht.1
  refine lv_aload_n hx hb d_T_learn_0 rfl (lv_at hl 0 rfl) ?_
  refine va_get (D := (dC, dI)) (ci := 2) (v := .ref (ad 5)) (C := R_T) (T := F_T) (N := 6) hx hb htb in_T hown hK hP 1 rfl rfl 3 (by decide) (htb _ wd_51) (fun _ h9 => h9) rfl d_T_learn_1 ?_
  refine lv_iload_n hx hb d_T_learn_4 rfl (lv_at hl 2 rfl) ?_
  refine lv_dup2_11 hx hb d_T_learn_5 rfl rfl ?_
  refine bz_iald (v := bz_m (bz_k t r)) hx hb hK hP 5 0 rfl rfl (a9 := r) (by omega) (by decide) (rfl) d_T_learn_6 ?_
  refine lv_iconst (v := 1) hx hb d_T_learn_7 (by decide) ?_
  refine lv_iload_n hx hb d_T_learn_8 rfl (lv_at hl 1 rfl) ?_
  refine lv_ishl hx hb d_T_learn_9 ?_
  refine bz_ri (y := bz_m (fun i => decide (i = a))) (bz_one (by omega)) ?_
  refine lv_ior hx hb d_T_learn_10 ?_
  refine bz_ri (y := bz_m (fun i => bz_k t r i || decide (i = a))) (bz_or _ _) ?_
  refine bz_iast hx hb hK hP hD hS 5 0 rfl rfl (a9 := r) (by omega) (by decide) d_T_learn_11 (fun H locs hP hD hS => ?_)
  have hP : va_P (dC, dI) vwCl (bz_wB ad cI cL ((bz_tR t).1, (bz_tR t).2.1, (bz_tR t).2.2.1, (upd ((bz_tR t).2.2.2.1) r (bz_m (fun i => bz_k t r i || decide (i = a)))), (bz_tR t).2.2.2.2.1, nI (bz_n t)) R L v) H := hP
  have hD : va_D A (bz_wB ad cI cL ((bz_tR t).1, (bz_tR t).2.1, (bz_tR t).2.2.1, (upd ((bz_tR t).2.2.2.1) r (bz_m (fun i => bz_k t r i || decide (i = a)))), (bz_tR t).2.2.2.2.1, nI (bz_n t)) R L v) := hD
  have e9 : bz_tR (bz_sK t r a) = ((bz_tR t).1, (bz_tR t).2.1, (bz_tR t).2.2.1, (upd ((bz_tR t).2.2.2.1) r (bz_m (fun i => bz_k t r i || decide (i = a)))), (bz_tR t).2.2.2.2.1, nI (bz_n t)) := bz_sK_R t r a
  have hP : va_P (dC, dI) vwCl (bz_wB ad cI cL (bz_tR (bz_sK t r a)) R L v) H := by rw [e9]; exact hP
  have hD : va_D A (bz_wB ad cI cL (bz_tR (bz_sK t r a)) R L v) := by rw [e9]; exact hD
  exact W.vret hx hb hr (fun t9 ht9 hW => ⟨⟨(), rfl, trivial, by rw [ht9]; exact hP, va_K.moved hW.alike hK, hD⟩, hS.F ht9⟩) hS.2.2 d_T_learn_12

set_option maxHeartbeats 4000000 in
set_option maxRecDepth 100000 in
/-- area, refused: a number is outside -/
theorem c_B_area_o (l : Launch) (dC : Nat → ClassId) (dI : Nat → Nat → Nat) (ad : Nat → Nat) (cI cL : ClassId) (t : bz_T) (R : bz_RS) (L : (Nat → Int32) × Int64) (v : Int32) (ht : bz_ok t) (z : Int64) (q : Int32) (hz : ¬ (0 ≤ z ∧ z ≤ 1000000 ∧ bz_ir q = true)) : Met l y_B_area w_B_area ({ frames := 1, cells := 0, slots := 0, locals := 23 }) (bz_Pr (dC, dI) [(cI, .int), (cL, .long)] (bz_wB ad cI cL (bz_tR t) R L v) [.ref (ad 0), .long z, .int q]) (vp_Si (fun r9 => r9 = (-12))) 0 0 (fun _ => False) := by
  refine Met.ofW (cc := b_B_area) (maxL := 4) (ret := (some .int)) (by decide) rfl ?_
  intro p e s m args below meth c s₁ B hml hv
  obtain ⟨rfl, hP, hK, hN⟩ := hv
  have hx := B.exec
  have hb := B.bytes
  have hr := B.returns
  have hts := atoms_spec (ws := w_B_area) B.pre
  have hown : s.vm.findClass R_B = some m.cls := findClass_of_methodNamed B.named
  have htb : ∀ w ∈ bz_tb, w.before _ s = true := fun w h => hts w (List.mem_cons_of_mem _ h)
  have hlocks := B.notSynchronized
  have hl := lv_entry ([.ref (ad 0), .long z, .int q]) (n := 4) (Nat.le_of_ble_eq_true rfl)
  rw [lg_entry_eq]
  generalize (lg_sl ([.ref (ad 0), .long z, .int q]) ++ List.replicate (4 - (lg_sl ([.ref (ad 0), .long z, .int q])).length) Slot.unset).toArray = ls at hl ⊢
  have hl : lv_has ls 4 [(0, .ref (ad 0)), (1, .long z), (3, .int q)] := hl
  refine lv_lload_n hx hb d_B_area_0 rfl (lv_at hl 1 rfl) ?_
  refine lv_lconst (v := 0) hx hb d_B_area_1 (by decide) ?_
  refine W.lcmp hx hb d_B_area_2 ?_
  refine lv_if_lt (tgt := 21) hx hb d_B_area_3 (by decide) (fun c_3 => ?_) (fun c_3 => ?_)
  · skip
    refine lv_bipush (v := (-12)) hx hb d_B_area_21 (by decide) ?_
    exact W.iret (v := (-12)) hx hb hr (fun t9 ht9 hW => ⟨(-12), rfl, rfl, ht9⟩) (fun _ h => nomatch h) d_B_area_23
  · skip
    refine lv_lload_n hx hb d_B_area_6 rfl (lv_at hl 1 rfl) ?_
    refine lv_ldc2 (v := 1000000) hx hb hown (htb _ wd_134) d_B_area_7 ?_
    refine W.lcmp hx hb d_B_area_10 ?_
    refine lv_if_gt (tgt := 21) hx hb d_B_area_11 (by decide) (fun c_11 => ?_) (fun c_11 => ?_)
    · skip
      refine lv_bipush (v := (-12)) hx hb d_B_area_21 (by decide) ?_
      exact W.iret (v := (-12)) hx hb hr (fun t9 ht9 hW => ⟨(-12), rfl, rfl, ht9⟩) (fun _ h => nomatch h) d_B_area_23
    · skip
      refine lv_iload_n hx hb d_B_area_14 rfl (lv_at hl 2 rfl) ?_
      refine bz_si (va_runS (As := [.int q]) (rest := []) ⟨hx, hb, hml, hown, htb⟩ (c_B_isRound l dC dI ad cI cL t R L v _) (va_cwS 1 htb (bz_gS wd_137 wd_135 wd_136 wd_19) rfl rfl rfl (by decide +kernel) ⟨Nat.le_of_ble_eq_true rfl, Nat.le_of_ble_eq_true rfl⟩) (bz_rs hN hK hP) rfl rfl hl.1 rfl (lv_room (Nat.le_of_ble_eq_true rfl)) d_B_area_15 ⟨Nat.zero_le _, Nat.zero_le _⟩) ?_
      refine lv_if_ne (tgt := 24) hx hb d_B_area_18 (by decide) (fun c_18 => ?_) (fun c_18 => ?_)
      · skip
        exact absurd ⟨Int64.not_lt.mp (fun y => c_3 ((lg_cmp_lt z 0).mpr y)), Int64.not_lt.mp (fun y => c_11 ((lg_cmp_gt z 1000000).mpr y)), bz_i_ne c_18⟩ hz
      · skip
        refine lv_bipush (v := (-12)) hx hb d_B_area_21 (by decide) ?_
        exact W.iret (v := (-12)) hx hb hr (fun t9 ht9 hW => ⟨(-12), rfl, rfl, ht9⟩) (fun _ h => nomatch h) d_B_area_23

set_option maxHeartbeats 4000000 in
set_option maxRecDepth 100000 in
/-- area, refused: no room -/
theorem c_B_area_r (l : Launch) (dC : Nat → ClassId) (dI : Nat → Nat → Nat) (ad : Nat → Nat) (cI cL : ClassId) (t : bz_T) (R : bz_RS) (L : (Nat → Int32) × Int64) (v : Int32) (ht : bz_ok t) (x r : Nat) (hx0 : x ≤ 1000000) (hr4 : r < 4) (hn : ¬ bz_n t < 30) : Met l y_B_area w_B_area ({ frames := 1, cells := 0, slots := 0, locals := 23 }) (bz_Pr (dC, dI) [(cI, .int), (cL, .long)] (bz_wB ad cI cL (bz_tR t) R L v) [.ref (ad 0), .long (lN x), .int (nI r)]) (vp_Si (fun r9 => r9 = (-14))) 0 0 (fun _ => False) := by
  refine Met.ofW (cc := b_B_area) (maxL := 4) (ret := (some .int)) (by decide) rfl ?_
  intro p e s m args below meth c s₁ B hml hv
  obtain ⟨rfl, hP, hK, hN⟩ := hv
  have hx := B.exec
  have hb := B.bytes
  have hr := B.returns
  have hts := atoms_spec (ws := w_B_area) B.pre
  have hown : s.vm.findClass R_B = some m.cls := findClass_of_methodNamed B.named
  have htb : ∀ w ∈ bz_tb, w.before _ s = true := fun w h => hts w (List.mem_cons_of_mem _ h)
  have hlocks := B.notSynchronized
  have hl := lv_entry ([.ref (ad 0), .long (lN x), .int (nI r)]) (n := 4) (Nat.le_of_ble_eq_true rfl)
  rw [lg_entry_eq]
  generalize (lg_sl ([.ref (ad 0), .long (lN x), .int (nI r)]) ++ List.replicate (4 - (lg_sl ([.ref (ad 0), .long (lN x), .int (nI r)])).length) Slot.unset).toArray = ls at hl ⊢
  have hl : lv_has ls 4 [(0, .ref (ad 0)), (1, .long (lN x)), (3, .int (nI r))] := hl
  have hir : bz_ir (nI r) = true := decide_eq_true ⟨nI_pos' (by omega), (nI_ltI (b := 4) (by omega) (by omega)).mpr hr4⟩
  have hn30 := ht.1
  refine lv_lload_n hx hb d_B_area_0 rfl (lv_at hl 1 rfl) ?_
  refine lv_lconst (v := 0) hx hb d_B_area_1 (by decide) ?_
  refine W.lcmp hx hb d_B_area_2 ?_
  refine lv_if_lt (tgt := 21) hx hb d_B_area_3 (by decide) (fun c_3 => ?_) (fun c_3 => ?_)
  · skip
    exact absurd ((bz_lc_lt (b := 0) (by omega) (by omega)).mp c_3) (by omega)
  · skip
    refine lv_lload_n hx hb d_B_area_6 rfl (lv_at hl 1 rfl) ?_
    refine lv_ldc2 (v := 1000000) hx hb hown (htb _ wd_134) d_B_area_7 ?_
    refine W.lcmp hx hb d_B_area_10 ?_
    refine lv_if_gt (tgt := 21) hx hb d_B_area_11 (by decide) (fun c_11 => ?_) (fun c_11 => ?_)
    · skip
      exact absurd ((bz_lc_gt (b := 1000000) (by omega) (by omega)).mp c_11) (by omega)
    · skip
      refine lv_iload_n hx hb d_B_area_14 rfl (lv_at hl 2 rfl) ?_
      refine bz_si (va_runS (As := [.int (nI r)]) (rest := []) ⟨hx, hb, hml, hown, htb⟩ (c_B_isRound l dC dI ad cI cL t R L v _) (va_cwS 1 htb (bz_gS wd_137 wd_135 wd_136 wd_19) rfl rfl rfl (by decide +kernel) ⟨Nat.le_of_ble_eq_true rfl, Nat.le_of_ble_eq_true rfl⟩) (bz_rs hN hK hP) rfl rfl hl.1 rfl (lv_room (Nat.le_of_ble_eq_true rfl)) d_B_area_15 ⟨Nat.zero_le _, Nat.zero_le _⟩) ?_
      refine lv_if_ne (tgt := 24) hx hb d_B_area_18 (by decide) (fun c_18 => ?_) (fun c_18 => ?_)
      · skip
        refine lv_aload_n hx hb d_B_area_24 rfl (lv_at hl 0 rfl) ?_
        refine va_get (D := (dC, dI)) (ci := 3) (v := .ref (ad 1)) (C := R_B) (T := F_B) (N := 4) hx hb htb in_B hown hK hP 0 rfl rfl 0 (by decide) (htb _ wd_117) (fun _ h9 => h9) rfl d_B_area_25 ?_
        refine va_getN (D := (dC, dI)) (ci := 2) (v := .int (nI (bz_n t))) (C := R_T) (T := F_T) (N := 6) hx hb htb in_T hown hK hP 1 rfl rfl 5 (by decide) (va_Nw.use rfl (hN _ nd_57)) (fun _ h9 => h9) rfl d_B_area_28 ?_
        refine lv_bipush (v := 30) hx hb d_B_area_31 (by decide) ?_
        refine lv_icmp_lt (tgt := 39) hx hb d_B_area_33 (by decide) (fun c_33 => ?_) (fun c_33 => ?_)
        · skip
          exact absurd ((nI_ltI (b := 30) (by omega) (by omega)).mp c_33) hn
        · skip
          refine lv_bipush (v := (-14)) hx hb d_B_area_36 (by decide) ?_
          exact W.iret (v := (-14)) hx hb hr (fun t9 ht9 hW => ⟨(-14), rfl, rfl, ht9⟩) (fun _ h => nomatch h) d_B_area_38
      · skip
        exact absurd (bz_i_eq c_18) (by rw [hir]; decide)

set_option maxHeartbeats 4000000 in
set_option maxRecDepth 100000 in
/-- area -/
theorem c_B_area (l : Launch) (dC : Nat → ClassId) (dI : Nat → Nat → Nat) (sz : Nat) (ad : Nat → Nat) (cI cL : ClassId) (t : bz_T) (R : bz_RS) (L : (Nat → Int32) × Int64) (v : Int32) (ht : bz_ok t) (x r : Nat) (hx0 : x ≤ 1000000) (hr4 : r < 4) (hn : bz_n t < 30) : Met l y_B_area w_B_area ({ frames := 1, cells := 0, slots := 0, locals := 23 }) (bz_Pw (dC, dI) [(cI, .int), (cL, .long)] (bz_wB ad cI cL (bz_tR t) R L v) sz [.ref (ad 0), .long (lN x), .int (nI r)]) (bz_Qi (dC, dI) [(cI, .int), (cL, .long)] (va_A (bz_wB ad cI cL (bz_tR t) R L v) sz) (nI (bz_n t + 1)) (bz_wB ad cI cL (bz_tR (bz_aA t x r)) R L 0)) 0 0 (va_A (bz_wB ad cI cL (bz_tR t) R L v) sz) := by
  refine Met.ofW (cc := b_B_area) (maxL := 4) (ret := (some .int)) (by decide) rfl ?_
  intro p e s m args below meth c s₁ B hml hv
  obtain ⟨rfl, hsz, hP, hK, hD0, hN⟩ := hv
  have hx := B.exec
  have hb := B.bytes
  have hr := B.returns
  have hts := atoms_spec (ws := w_B_area) B.pre
  have hown : s.vm.findClass R_B = some m.cls := findClass_of_methodNamed B.named
  have htb : ∀ w ∈ bz_tb, w.before _ s = true := fun w h => hts w (List.mem_cons_of_mem _ h)
  have hlocks := B.notSynchronized
  subst hsz
  have hD := hD0.self (sz := s.heap.size)
  generalize hAe : va_A (bz_wB ad cI cL (bz_tR t) R L v) s.heap.size = A at hD ⊢
  have hA : ∀ q : Nat, s.heap.size ≤ q → A q := fun q h => by rw [← hAe]; exact Or.inr h
  have hS : va_S A s.heap s.heap [] := va_S.rf
  have hl := lv_entry ([.ref (ad 0), .long (lN x), .int (nI r)]) (n := 4) (Nat.le_of_ble_eq_true rfl)
  rw [lg_entry_eq]
  generalize (lg_sl ([.ref (ad 0), .long (lN x), .int (nI r)]) ++ List.replicate (4 - (lg_sl ([.ref (ad 0), .long (lN x), .int (nI r)])).length) Slot.unset).toArray = ls at hl ⊢
  have hl : lv_has ls 4 [(0, .ref (ad 0)), (1, .long (lN x)), (3, .int (nI r))] := hl
  have hir : bz_ir (nI r) = true := decide_eq_true ⟨nI_pos' (by omega), (nI_ltI (b := 4) (by omega) (by omega)).mpr hr4⟩
  have hn30 := ht.1
  refine lv_lload_n hx hb d_B_area_0 rfl (lv_at hl 1 rfl) ?_
  refine lv_lconst (v := 0) hx hb d_B_area_1 (by decide) ?_
  refine W.lcmp hx hb d_B_area_2 ?_
  refine lv_if_lt (tgt := 21) hx hb d_B_area_3 (by decide) (fun c_3 => ?_) (fun c_3 => ?_)
  · skip
    exact absurd ((bz_lc_lt (b := 0) (by omega) (by omega)).mp c_3) (by omega)
  · skip
    refine lv_lload_n hx hb d_B_area_6 rfl (lv_at hl 1 rfl) ?_
    refine lv_ldc2 (v := 1000000) hx hb hown (htb _ wd_134) d_B_area_7 ?_
    refine W.lcmp hx hb d_B_area_10 ?_
    refine lv_if_gt (tgt := 21) hx hb d_B_area_11 (by decide) (fun c_11 => ?_) (fun c_11 => ?_)
    · skip
      exact absurd ((bz_lc_gt (b := 1000000) (by omega) (by omega)).mp c_11) (by omega)
    · skip
      refine lv_iload_n hx hb d_B_area_14 rfl (lv_at hl 2 rfl) ?_
      refine bz_si (va_runS (As := [.int (nI r)]) (rest := []) ⟨hx, hb, hml, hown, htb⟩ (c_B_isRound l dC dI ad cI cL t R L v _) (va_cwS 1 htb (bz_gS wd_137 wd_135 wd_136 wd_19) rfl rfl rfl (by decide +kernel) ⟨Nat.le_of_ble_eq_true rfl, Nat.le_of_ble_eq_true rfl⟩) (bz_rs hN hK hP) rfl rfl hl.1 rfl (lv_room (Nat.le_of_ble_eq_true rfl)) d_B_area_15 ⟨Nat.zero_le _, Nat.zero_le _⟩) ?_
      refine lv_if_ne (tgt := 24) hx hb d_B_area_18 (by decide) (fun c_18 => ?_) (fun c_18 => ?_)
      · skip
        refine lv_aload_n hx hb d_B_area_24 rfl (lv_at hl 0 rfl) ?_
        refine va_get (D := (dC, dI)) (ci := 3) (v := .ref (ad 1)) (C := R_B) (T := F_B) (N := 4) hx hb htb in_B hown hK hP 0 rfl rfl 0 (by decide) (htb _ wd_117) (fun _ h9 => h9) rfl d_B_area_25 ?_
        refine va_getN (D := (dC, dI)) (ci := 2) (v := .int (nI (bz_n t))) (C := R_T) (T := F_T) (N := 6) hx hb htb in_T hown hK hP 1 rfl rfl 5 (by decide) (va_Nw.use rfl (hN _ nd_57)) (fun _ h9 => h9) rfl d_B_area_28 ?_
        refine lv_bipush (v := 30) hx hb d_B_area_31 (by decide) ?_
        refine lv_icmp_lt (tgt := 39) hx hb d_B_area_33 (by decide) (fun c_33 => ?_) (fun c_33 => ?_)
        · skip
          refine lv_aload_n hx hb d_B_area_39 rfl (lv_at hl 0 rfl) ?_
          refine va_get (D := (dC, dI)) (ci := 3) (v := .ref (ad 1)) (C := R_B) (T := F_B) (N := 4) hx hb htb in_B hown hK hP 0 rfl rfl 0 (by decide) (htb _ wd_117) (fun _ h9 => h9) rfl d_B_area_40 ?_
          refine lv_lload_n hx hb d_B_area_43 rfl (lv_at hl 1 rfl) ?_
          refine lv_iload_n hx hb d_B_area_44 rfl (lv_at hl 2 rfl) ?_
          refine bz_cv (va_runV (As := [.long (lN x), .int (nI r)]) (rest := []) ⟨hx, hb, hml, hown, htb⟩ (c_T_addArea l dC dI _ ad cI cL t R L v ht _ _ (by omega)) (cwV 2 htb (bz_gV wd_141 wd_138 wd_139 wd_140 wd_20) rfl rfl rfl (by decide +kernel) ⟨Nat.le_of_ble_eq_true rfl, Nat.le_of_ble_eq_true rfl⟩) (bz_wv hN hK hP hD (q0 := 1) rfl rfl) rfl rfl hl.1 rfl (lv_room (Nat.le_of_ble_eq_true rfl)) d_B_area_45 ⟨Nat.zero_le _, Nat.zero_le _⟩) hD hS hA (fun H locs hP hD hS => ?_)
          have hP : va_P (dC, dI) vwCl (bz_wB ad cI cL (bz_tR (bz_aA t x r)) R L v) H := hP
          have hD : va_D A (bz_wB ad cI cL (bz_tR (bz_aA t x r)) R L v) := hD
          refine lv_aload_n hx hb d_B_area_48 rfl (lv_at hl 0 rfl) ?_
          refine lv_iconst (v := 0) hx hb d_B_area_49 (by decide) ?_
          refine va_put (D := (dC, dI)) (ci := 3) (v := .int 0) (ty := .boolean) (C := R_B) (T := F_B) (N := 4) hx hb htb in_B tf_B tok_B n_B hown hK hP hD hS 0 rfl rfl 3 (by decide) (htb _ wd_120) (fun _ h9 => h9) rfl (by decide +kernel) rfl rfl (Nat.le_of_ble_eq_true rfl) d_B_area_50 (fun H locs hP hD hS => ?_)
          have hP : va_P (dC, dI) vwCl (bz_wB ad cI cL (bz_tR (bz_aA t x r)) R L 0) H := hP
          have hD : va_D A (bz_wB ad cI cL (bz_tR (bz_aA t x r)) R L 0) := hD
          refine lv_aload_n hx hb d_B_area_53 rfl (lv_at hl 0 rfl) ?_
          refine va_get (D := (dC, dI)) (ci := 3) (v := .ref (ad 1)) (C := R_B) (T := F_B) (N := 4) hx hb htb in_B hown hK hP 0 rfl rfl 0 (by decide) (htb _ wd_117) (fun _ h9 => h9) rfl d_B_area_54 ?_
          refine va_getN (D := (dC, dI)) (ci := 2) (v := .int (nI (bz_n (bz_aA t x r)))) (C := R_T) (T := F_T) (N := 6) hx hb htb in_T hown hK hP 1 rfl rfl 5 (by decide) (va_Nw.use rfl (hN _ nd_57)) (fun _ h9 => h9) rfl d_B_area_57 ?_
          exact W.iret (v := nI (bz_n (bz_aA t x r))) hx hb hr (fun t9 ht9 hW => ⟨⟨nI (bz_n (bz_aA t x r)), (), rfl, rfl, by rw [ht9]; exact hP, va_K.moved hW.alike hK, hD⟩, hS.F ht9⟩) hS.2.2 d_B_area_60
        · skip
          exact absurd ((nI_ltI (b := 30) (by omega) (by omega)).mpr hn) c_33
      · skip
        exact absurd (bz_i_eq c_18) (by rw [hir]; decide)

set_option maxHeartbeats 4000000 in
set_option maxRecDepth 100000 in
/-- joined, nothing comes of it -/
theorem c_B_joined_o (l : Launch) (dC : Nat → ClassId) (dI : Nat → Nat → Nat) (ad : Nat → Nat) (cI cL : ClassId) (t : bz_T) (R : bz_RS) (L : (Nat → Int32) × Int64) (v : Int32) (ht : bz_ok t) (x y : Int32) (br : Bool) (hz : ¬ (bz_ia (bz_n t) x = true ∧ bz_ia (bz_n t) y = true ∧ x ≠ y)) : Met l y_B_joined w_B_joined ({ frames := 1, cells := 0, slots := 0, locals := 22 }) (bz_Pr (dC, dI) [(cI, .int), (cL, .long)] (bz_wB ad cI cL (bz_tR t) R L v) [.ref (ad 0), .int x, .int y, .int (bz_i br)]) (vp_Si (fun r9 => r9 = 0)) 0 0 (fun _ => False) := by
  refine Met.ofW (cc := b_B_joined) (maxL := 5) (ret := (some .boolean)) (by decide) rfl ?_
  intro p e s m args below meth c s₁ B hml hv
  obtain ⟨rfl, hP, hK, hN⟩ := hv
  have hx := B.exec
  have hb := B.bytes
  have hr := B.returns
  have hts := atoms_spec (ws := w_B_joined) B.pre
  have hown : s.vm.findClass R_B = some m.cls := findClass_of_methodNamed B.named
  have htb : ∀ w ∈ bz_tb, w.before _ s = true := fun w h => hts w (List.mem_cons_of_mem _ h)
  have hlocks := B.notSynchronized
  have hl := lv_entry ([.ref (ad 0), .int x, .int y, .int (bz_i br)]) (n := 5) (Nat.le_of_ble_eq_true rfl)
  rw [lg_entry_eq]
  generalize (lg_sl ([.ref (ad 0), .int x, .int y, .int (bz_i br)]) ++ List.replicate (5 - (lg_sl ([.ref (ad 0), .int x, .int y, .int (bz_i br)])).length) Slot.unset).toArray = ls at hl ⊢
  have hl : lv_has ls 5 [(0, .ref (ad 0)), (1, .int x), (2, .int y), (3, .int (bz_i br))] := hl
  refine lv_aload_n hx hb d_B_joined_0 rfl (lv_at hl 0 rfl) ?_
  refine lv_iload_n hx hb d_B_joined_1 rfl (lv_at hl 1 rfl) ?_
  refine bz_si (va_runV (As := [.int x]) (rest := []) ⟨hx, hb, hml, hown, htb⟩ (c_B_isArea l dC dI ad cI cL t R L v _) (cwV 1 htb (bz_gV wd_149 wd_146 wd_148 wd_0 wd_19) rfl rfl rfl (by decide +kernel) ⟨Nat.le_of_ble_eq_true rfl, Nat.le_of_ble_eq_true rfl⟩) (bz_rv hN hK hP (q0 := 0) rfl rfl) rfl rfl hl.1 rfl (lv_room (Nat.le_of_ble_eq_true rfl)) d_B_joined_2 ⟨Nat.zero_le _, Nat.zero_le _⟩) ?_
  refine lv_if_eq (tgt := 21) hx hb d_B_joined_5 (by decide) (fun c_5 => ?_) (fun c_5 => ?_)
  · skip
    refine lv_iconst (v := 0) hx hb d_B_joined_21 (by decide) ?_
    exact W.zret (v := 0) hx hb hr (rfl) (fun t9 ht9 hW => ⟨0, rfl, rfl, ht9⟩) (fun _ h => nomatch h) d_B_joined_22
  · skip
    refine lv_aload_n hx hb d_B_joined_8 rfl (lv_at hl 0 rfl) ?_
    refine lv_iload_n hx hb d_B_joined_9 rfl (lv_at hl 2 rfl) ?_
    refine bz_si (va_runV (As := [.int y]) (rest := []) ⟨hx, hb, hml, hown, htb⟩ (c_B_isArea l dC dI ad cI cL t R L v _) (cwV 1 htb (bz_gV wd_149 wd_146 wd_148 wd_0 wd_19) rfl rfl rfl (by decide +kernel) ⟨Nat.le_of_ble_eq_true rfl, Nat.le_of_ble_eq_true rfl⟩) (bz_rv hN hK hP (q0 := 0) rfl rfl) rfl rfl hl.1 rfl (lv_room (Nat.le_of_ble_eq_true rfl)) d_B_joined_10 ⟨Nat.zero_le _, Nat.zero_le _⟩) ?_
    refine lv_if_eq (tgt := 21) hx hb d_B_joined_13 (by decide) (fun c_13 => ?_) (fun c_13 => ?_)
    · skip
      refine lv_iconst (v := 0) hx hb d_B_joined_21 (by decide) ?_
      exact W.zret (v := 0) hx hb hr (rfl) (fun t9 ht9 hW => ⟨0, rfl, rfl, ht9⟩) (fun _ h => nomatch h) d_B_joined_22
    · skip
      refine lv_iload_n hx hb d_B_joined_16 rfl (lv_at hl 1 rfl) ?_
      refine lv_iload_n hx hb d_B_joined_17 rfl (lv_at hl 2 rfl) ?_
      refine lv_icmp_ne (tgt := 23) hx hb d_B_joined_18 (by decide) (fun c_18 => ?_) (fun c_18 => ?_)
      · skip
        exact absurd ⟨bz_i_ne c_5, bz_i_ne c_13, c_18⟩ hz
      · skip
        refine lv_iconst (v := 0) hx hb d_B_joined_21 (by decide) ?_
        exact W.zret (v := 0) hx hb hr (rfl) (fun t9 ht9 hW => ⟨0, rfl, rfl, ht9⟩) (fun _ h => nomatch h) d_B_joined_22

set_option maxHeartbeats 4000000 in
set_option maxRecDepth 100000 in
/-- joined, as before -/
theorem c_B_joined_s (l : Launch) (dC : Nat → ClassId) (dI : Nat → Nat → Nat) (ad : Nat → Nat) (cI cL : ClassId) (t : bz_T) (R : bz_RS) (L : (Nat → Int32) × Int64) (v : Int32) (ht : bz_ok t) (a b : Nat) (br : Bool) (ha : a < bz_n t) (hbn : b < bz_n t) (hab : a ≠ b) (hj : bz_j t a b = !br) : Met l y_B_joined w_B_joined ({ frames := 1, cells := 0, slots := 0, locals := 22 }) (bz_Pr (dC, dI) [(cI, .int), (cL, .long)] (bz_wB ad cI cL (bz_tR t) R L v) [.ref (ad 0), .int (nI (a + 1)), .int (nI (b + 1)), .int (bz_i br)]) (vp_Si (fun r9 => r9 = bz_i (!br))) 0 0 (fun _ => False) := by
  refine Met.ofW (cc := b_B_joined) (maxL := 5) (ret := (some .boolean)) (by decide) rfl ?_
  intro p e s m args below meth c s₁ B hml hv
  obtain ⟨rfl, hP, hK, hN⟩ := hv
  have hx := B.exec
  have hb := B.bytes
  have hr := B.returns
  have hts := atoms_spec (ws := w_B_joined) B.pre
  have hown : s.vm.findClass R_B = some m.cls := findClass_of_methodNamed B.named
  have htb : ∀ w ∈ bz_tb, w.before _ s = true := fun w h => hts w (List.mem_cons_of_mem _ h)
  have hlocks := B.notSynchronized
  have hl := lv_entry ([.ref (ad 0), .int (nI (a + 1)), .int (nI (b + 1)), .int (bz_i br)]) (n := 5) (Nat.le_of_ble_eq_true rfl)
  rw [lg_entry_eq]
  generalize (lg_sl ([.ref (ad 0), .int (nI (a + 1)), .int (nI (b + 1)), .int (bz_i br)]) ++ List.replicate (5 - (lg_sl ([.ref (ad 0), .int (nI (a + 1)), .int (nI (b + 1)), .int (bz_i br)])).length) Slot.unset).toArray = ls at hl ⊢
  have hl : lv_has ls 5 [(0, .ref (ad 0)), (1, .int (nI (a + 1))), (2, .int (nI (b + 1))), (3, .int (bz_i br))] := hl
  have hn30 := ht.1
  have hia : bz_ia (bz_n t) (nI (a + 1)) = true := decide_eq_true ⟨(nI_leI (a := 1) (by omega) (by omega)).mpr (by omega), (nI_leI (by omega) (by omega)).mpr (by omega)⟩
  have hib : bz_ia (bz_n t) (nI (b + 1)) = true := decide_eq_true ⟨(nI_leI (a := 1) (by omega) (by omega)).mpr (by omega), (nI_leI (by omega) (by omega)).mpr (by omega)⟩
  refine lv_aload_n hx hb d_B_joined_0 rfl (lv_at hl 0 rfl) ?_
  refine lv_iload_n hx hb d_B_joined_1 rfl (lv_at hl 1 rfl) ?_
  refine bz_si (va_runV (As := [.int (nI (a + 1))]) (rest := []) ⟨hx, hb, hml, hown, htb⟩ (c_B_isArea l dC dI ad cI cL t R L v _) (cwV 1 htb (bz_gV wd_149 wd_146 wd_148 wd_0 wd_19) rfl rfl rfl (by decide +kernel) ⟨Nat.le_of_ble_eq_true rfl, Nat.le_of_ble_eq_true rfl⟩) (bz_rv hN hK hP (q0 := 0) rfl rfl) rfl rfl hl.1 rfl (lv_room (Nat.le_of_ble_eq_true rfl)) d_B_joined_2 ⟨Nat.zero_le _, Nat.zero_le _⟩) ?_
  refine lv_if_eq (tgt := 21) hx hb d_B_joined_5 (by decide) (fun c_5 => ?_) (fun c_5 => ?_)
  · skip
    exact absurd (bz_i_eq c_5) (by rw [hia]; decide)
  · skip
    refine lv_aload_n hx hb d_B_joined_8 rfl (lv_at hl 0 rfl) ?_
    refine lv_iload_n hx hb d_B_joined_9 rfl (lv_at hl 2 rfl) ?_
    refine bz_si (va_runV (As := [.int (nI (b + 1))]) (rest := []) ⟨hx, hb, hml, hown, htb⟩ (c_B_isArea l dC dI ad cI cL t R L v _) (cwV 1 htb (bz_gV wd_149 wd_146 wd_148 wd_0 wd_19) rfl rfl rfl (by decide +kernel) ⟨Nat.le_of_ble_eq_true rfl, Nat.le_of_ble_eq_true rfl⟩) (bz_rv hN hK hP (q0 := 0) rfl rfl) rfl rfl hl.1 rfl (lv_room (Nat.le_of_ble_eq_true rfl)) d_B_joined_10 ⟨Nat.zero_le _, Nat.zero_le _⟩) ?_
    refine lv_if_eq (tgt := 21) hx hb d_B_joined_13 (by decide) (fun c_13 => ?_) (fun c_13 => ?_)
    · skip
      exact absurd (bz_i_eq c_13) (by rw [hib]; decide)
    · skip
      refine lv_iload_n hx hb d_B_joined_16 rfl (lv_at hl 1 rfl) ?_
      refine lv_iload_n hx hb d_B_joined_17 rfl (lv_at hl 2 rfl) ?_
      refine lv_icmp_ne (tgt := 23) hx hb d_B_joined_18 (by decide) (fun c_18 => ?_) (fun c_18 => ?_)
      · skip
        refine lv_iload_n hx hb d_B_joined_23 rfl (lv_at hl 3 rfl) ?_
        refine lv_if_ne (tgt := 31) hx hb d_B_joined_24 (by decide) (fun c_24 => ?_) (fun c_24 => ?_)
        · skip
          have hbr := bz_i_ne c_24
          refine lv_iconst (v := nI 0) hx hb d_B_joined_31 (by decide) ?_
          refine lv_istore (lv' := [(4, .int (nI 0)), (0, .ref (ad 0)), (1, .int (nI (a + 1))), (2, .int (nI (b + 1))), (3, .int (bz_i br))]) hx hb d_B_joined_32 hl (by decide) rfl (fun ls hl => ?_)
          refine lv_aload_n hx hb d_B_joined_34 rfl (lv_at hl 1 rfl) ?_
          refine va_get (D := (dC, dI)) (ci := 3) (v := .ref (ad 1)) (C := R_B) (T := F_B) (N := 4) hx hb htb in_B hown hK hP 0 rfl rfl 0 (by decide) (htb _ wd_117) (fun _ h9 => h9) rfl d_B_joined_35 ?_
          refine lv_iload_n hx hb d_B_joined_38 rfl (lv_at hl 2 rfl) ?_
          refine lv_iconst (v := 1) hx hb d_B_joined_39 (by decide) ?_
          refine lv_isub hx hb d_B_joined_40 ?_
          refine bz_ri (y := nI a) (nI_pred a) ?_
          refine lv_iload_n hx hb d_B_joined_41 rfl (lv_at hl 3 rfl) ?_
          refine lv_iconst (v := 1) hx hb d_B_joined_42 (by decide) ?_
          refine lv_isub hx hb d_B_joined_43 ?_
          refine bz_ri (y := nI b) (nI_pred b) ?_
          refine bz_si (va_runV (As := [.int (nI a), .int (nI b)]) (rest := []) ⟨hx, hb, hml, hown, htb⟩ (c_T_areJoined l dC dI ad cI cL t R L v _ _ (by omega) (by omega)) (cwV 2 htb (bz_gV wd_153 wd_150 wd_151 wd_152 wd_20) rfl rfl rfl (by decide +kernel) ⟨Nat.le_of_ble_eq_true rfl, Nat.le_of_ble_eq_true rfl⟩) (bz_rv hN hK hP (q0 := 1) rfl rfl) rfl rfl hl.1 rfl (lv_room (Nat.le_of_ble_eq_true rfl)) d_B_joined_44 ⟨Nat.zero_le _, Nat.zero_le _⟩) ?_
          refine lv_iload hx hb d_B_joined_47 (lv_at hl 0 rfl) ?_
          refine lv_icmp_eq (tgt := 70) hx hb d_B_joined_49 (by decide) (fun c_49 => ?_) (fun c_49 => ?_)
          · skip
            refine lv_iload hx hb d_B_joined_70 (lv_at hl 0 rfl) ?_
            exact W.zret (v := nI 0) hx hb hr (rfl) (fun t9 ht9 hW => ⟨nI 0, rfl, by rw [hbr]; rfl, ht9⟩) (fun _ h => nomatch h) d_B_joined_72
          · skip
            exact absurd (by rw [hj, hbr]; rfl) c_49
        · skip
          have hbr := bz_i_eq c_24
          refine lv_iconst (v := 1) hx hb d_B_joined_27 (by decide) ?_
          refine lv_goto (tgt := 32) hx hb d_B_joined_28 (by decide) ?_
          refine lv_istore (lv' := [(4, .int 1), (0, .ref (ad 0)), (1, .int (nI (a + 1))), (2, .int (nI (b + 1))), (3, .int (bz_i br))]) hx hb d_B_joined_32 hl (by decide) rfl (fun ls hl => ?_)
          refine lv_aload_n hx hb d_B_joined_34 rfl (lv_at hl 1 rfl) ?_
          refine va_get (D := (dC, dI)) (ci := 3) (v := .ref (ad 1)) (C := R_B) (T := F_B) (N := 4) hx hb htb in_B hown hK hP 0 rfl rfl 0 (by decide) (htb _ wd_117) (fun _ h9 => h9) rfl d_B_joined_35 ?_
          refine lv_iload_n hx hb d_B_joined_38 rfl (lv_at hl 2 rfl) ?_
          refine lv_iconst (v := 1) hx hb d_B_joined_39 (by decide) ?_
          refine lv_isub hx hb d_B_joined_40 ?_
          refine bz_ri (y := nI a) (nI_pred a) ?_
          refine lv_iload_n hx hb d_B_joined_41 rfl (lv_at hl 3 rfl) ?_
          refine lv_iconst (v := 1) hx hb d_B_joined_42 (by decide) ?_
          refine lv_isub hx hb d_B_joined_43 ?_
          refine bz_ri (y := nI b) (nI_pred b) ?_
          refine bz_si (va_runV (As := [.int (nI a), .int (nI b)]) (rest := []) ⟨hx, hb, hml, hown, htb⟩ (c_T_areJoined l dC dI ad cI cL t R L v _ _ (by omega) (by omega)) (cwV 2 htb (bz_gV wd_153 wd_150 wd_151 wd_152 wd_20) rfl rfl rfl (by decide +kernel) ⟨Nat.le_of_ble_eq_true rfl, Nat.le_of_ble_eq_true rfl⟩) (bz_rv hN hK hP (q0 := 1) rfl rfl) rfl rfl hl.1 rfl (lv_room (Nat.le_of_ble_eq_true rfl)) d_B_joined_44 ⟨Nat.zero_le _, Nat.zero_le _⟩) ?_
          refine lv_iload hx hb d_B_joined_47 (lv_at hl 0 rfl) ?_
          refine lv_icmp_eq (tgt := 70) hx hb d_B_joined_49 (by decide) (fun c_49 => ?_) (fun c_49 => ?_)
          · skip
            refine lv_iload hx hb d_B_joined_70 (lv_at hl 0 rfl) ?_
            exact W.zret (v := 1) hx hb hr (rfl) (fun t9 ht9 hW => ⟨1, rfl, by rw [hbr]; rfl, ht9⟩) (fun _ h => nomatch h) d_B_joined_72
          · skip
            exact absurd (by rw [hj, hbr]; rfl) c_49
      · skip
        exact absurd ((nI_eq (by omega) (by omega)).mp c_18) (by omega)

set_option maxHeartbeats 4000000 in
set_option maxRecDepth 100000 in
/-- joined -/
theorem c_B_joined (l : Launch) (dC : Nat → ClassId) (dI : Nat → Nat → Nat) (sz : Nat) (ad : Nat → Nat) (cI cL : ClassId) (t : bz_T) (R : bz_RS) (L : (Nat → Int32) × Int64) (v : Int32) (ht : bz_ok t) (a b : Nat) (br : Bool) (ha : a < bz_n t) (hbn : b < bz_n t) (hab : a ≠ b) (hj : bz_j t a b = br) : Met l y_B_joined w_B_joined ({ frames := 1, cells := 0, slots := 0, locals := 22 }) (bz_Pw (dC, dI) [(cI, .int), (cL, .long)] (bz_wB ad cI cL (bz_tR t) R L v) sz [.ref (ad 0), .int (nI (a + 1)), .int (nI (b + 1)), .int (bz_i br)]) (bz_Qi (dC, dI) [(cI, .int), (cL, .long)] (va_A (bz_wB ad cI cL (bz_tR t) R L v) sz) (bz_i (!br)) (bz_wB ad cI cL (bz_tR (bz_sJ t a b (!br))) R L 0)) 0 0 (va_A (bz_wB ad cI cL (bz_tR t) R L v) sz) := by
  refine Met.ofW (cc := b_B_joined) (maxL := 5) (ret := (some .boolean)) (by decide) rfl ?_
  intro p e s m args below meth c s₁ B hml hv
  obtain ⟨rfl, hsz, hP, hK, hD0, hN⟩ := hv
  have hx := B.exec
  have hb := B.bytes
  have hr := B.returns
  have hts := atoms_spec (ws := w_B_joined) B.pre
  have hown : s.vm.findClass R_B = some m.cls := findClass_of_methodNamed B.named
  have htb : ∀ w ∈ bz_tb, w.before _ s = true := fun w h => hts w (List.mem_cons_of_mem _ h)
  have hlocks := B.notSynchronized
  subst hsz
  have hD := hD0.self (sz := s.heap.size)
  generalize hAe : va_A (bz_wB ad cI cL (bz_tR t) R L v) s.heap.size = A at hD ⊢
  have hA : ∀ q : Nat, s.heap.size ≤ q → A q := fun q h => by rw [← hAe]; exact Or.inr h
  have hS : va_S A s.heap s.heap [] := va_S.rf
  have hl := lv_entry ([.ref (ad 0), .int (nI (a + 1)), .int (nI (b + 1)), .int (bz_i br)]) (n := 5) (Nat.le_of_ble_eq_true rfl)
  rw [lg_entry_eq]
  generalize (lg_sl ([.ref (ad 0), .int (nI (a + 1)), .int (nI (b + 1)), .int (bz_i br)]) ++ List.replicate (5 - (lg_sl ([.ref (ad 0), .int (nI (a + 1)), .int (nI (b + 1)), .int (bz_i br)])).length) Slot.unset).toArray = ls at hl ⊢
  have hl : lv_has ls 5 [(0, .ref (ad 0)), (1, .int (nI (a + 1))), (2, .int (nI (b + 1))), (3, .int (bz_i br))] := hl
  have hn30 := ht.1
  have hia : bz_ia (bz_n t) (nI (a + 1)) = true := decide_eq_true ⟨(nI_leI (a := 1) (by omega) (by omega)).mpr (by omega), (nI_leI (by omega) (by omega)).mpr (by omega)⟩
  have hib : bz_ia (bz_n t) (nI (b + 1)) = true := decide_eq_true ⟨(nI_leI (a := 1) (by omega) (by omega)).mpr (by omega), (nI_leI (by omega) (by omega)).mpr (by omega)⟩
  refine lv_aload_n hx hb d_B_joined_0 rfl (lv_at hl 0 rfl) ?_
  refine lv_iload_n hx hb d_B_joined_1 rfl (lv_at hl 1 rfl) ?_
  refine bz_si (va_runV (As := [.int (nI (a + 1))]) (rest := []) ⟨hx, hb, hml, hown, htb⟩ (c_B_isArea l dC dI ad cI cL t R L v _) (cwV 1 htb (bz_gV wd_149 wd_146 wd_148 wd_0 wd_19) rfl rfl rfl (by decide +kernel) ⟨Nat.le_of_ble_eq_true rfl, Nat.le_of_ble_eq_true rfl⟩) (bz_rv hN hK hP (q0 := 0) rfl rfl) rfl rfl hl.1 rfl (lv_room (Nat.le_of_ble_eq_true rfl)) d_B_joined_2 ⟨Nat.zero_le _, Nat.zero_le _⟩) ?_
  refine lv_if_eq (tgt := 21) hx hb d_B_joined_5 (by decide) (fun c_5 => ?_) (fun c_5 => ?_)
  · skip
    exact absurd (bz_i_eq c_5) (by rw [hia]; decide)
  · skip
    refine lv_aload_n hx hb d_B_joined_8 rfl (lv_at hl 0 rfl) ?_
    refine lv_iload_n hx hb d_B_joined_9 rfl (lv_at hl 2 rfl) ?_
    refine bz_si (va_runV (As := [.int (nI (b + 1))]) (rest := []) ⟨hx, hb, hml, hown, htb⟩ (c_B_isArea l dC dI ad cI cL t R L v _) (cwV 1 htb (bz_gV wd_149 wd_146 wd_148 wd_0 wd_19) rfl rfl rfl (by decide +kernel) ⟨Nat.le_of_ble_eq_true rfl, Nat.le_of_ble_eq_true rfl⟩) (bz_rv hN hK hP (q0 := 0) rfl rfl) rfl rfl hl.1 rfl (lv_room (Nat.le_of_ble_eq_true rfl)) d_B_joined_10 ⟨Nat.zero_le _, Nat.zero_le _⟩) ?_
    refine lv_if_eq (tgt := 21) hx hb d_B_joined_13 (by decide) (fun c_13 => ?_) (fun c_13 => ?_)
    · skip
      exact absurd (bz_i_eq c_13) (by rw [hib]; decide)
    · skip
      refine lv_iload_n hx hb d_B_joined_16 rfl (lv_at hl 1 rfl) ?_
      refine lv_iload_n hx hb d_B_joined_17 rfl (lv_at hl 2 rfl) ?_
      refine lv_icmp_ne (tgt := 23) hx hb d_B_joined_18 (by decide) (fun c_18 => ?_) (fun c_18 => ?_)
      · skip
        refine lv_iload_n hx hb d_B_joined_23 rfl (lv_at hl 3 rfl) ?_
        refine lv_if_ne (tgt := 31) hx hb d_B_joined_24 (by decide) (fun c_24 => ?_) (fun c_24 => ?_)
        · skip
          have hbr := bz_i_ne c_24
          refine lv_iconst (v := nI 0) hx hb d_B_joined_31 (by decide) ?_
          refine lv_istore (lv' := [(4, .int (nI 0)), (0, .ref (ad 0)), (1, .int (nI (a + 1))), (2, .int (nI (b + 1))), (3, .int (bz_i br))]) hx hb d_B_joined_32 hl (by decide) rfl (fun ls hl => ?_)
          refine lv_aload_n hx hb d_B_joined_34 rfl (lv_at hl 1 rfl) ?_
          refine va_get (D := (dC, dI)) (ci := 3) (v := .ref (ad 1)) (C := R_B) (T := F_B) (N := 4) hx hb htb in_B hown hK hP 0 rfl rfl 0 (by decide) (htb _ wd_117) (fun _ h9 => h9) rfl d_B_joined_35 ?_
          refine lv_iload_n hx hb d_B_joined_38 rfl (lv_at hl 2 rfl) ?_
          refine lv_iconst (v := 1) hx hb d_B_joined_39 (by decide) ?_
          refine lv_isub hx hb d_B_joined_40 ?_
          refine bz_ri (y := nI a) (nI_pred a) ?_
          refine lv_iload_n hx hb d_B_joined_41 rfl (lv_at hl 3 rfl) ?_
          refine lv_iconst (v := 1) hx hb d_B_joined_42 (by decide) ?_
          refine lv_isub hx hb d_B_joined_43 ?_
          refine bz_ri (y := nI b) (nI_pred b) ?_
          refine bz_si (va_runV (As := [.int (nI a), .int (nI b)]) (rest := []) ⟨hx, hb, hml, hown, htb⟩ (c_T_areJoined l dC dI ad cI cL t R L v _ _ (by omega) (by omega)) (cwV 2 htb (bz_gV wd_153 wd_150 wd_151 wd_152 wd_20) rfl rfl rfl (by decide +kernel) ⟨Nat.le_of_ble_eq_true rfl, Nat.le_of_ble_eq_true rfl⟩) (bz_rv hN hK hP (q0 := 1) rfl rfl) rfl rfl hl.1 rfl (lv_room (Nat.le_of_ble_eq_true rfl)) d_B_joined_44 ⟨Nat.zero_le _, Nat.zero_le _⟩) ?_
          refine lv_iload hx hb d_B_joined_47 (lv_at hl 0 rfl) ?_
          refine lv_icmp_eq (tgt := 70) hx hb d_B_joined_49 (by decide) (fun c_49 => ?_) (fun c_49 => ?_)
          · skip
            exact absurd c_49 (by rw [hj, hbr]; decide)
          · skip
            refine lv_aload_n hx hb d_B_joined_52 rfl (lv_at hl 1 rfl) ?_
            refine va_get (D := (dC, dI)) (ci := 3) (v := .ref (ad 1)) (C := R_B) (T := F_B) (N := 4) hx hb htb in_B hown hK hP 0 rfl rfl 0 (by decide) (htb _ wd_117) (fun _ h9 => h9) rfl d_B_joined_53 ?_
            refine lv_iload_n hx hb d_B_joined_56 rfl (lv_at hl 2 rfl) ?_
            refine lv_iconst (v := 1) hx hb d_B_joined_57 (by decide) ?_
            refine lv_isub hx hb d_B_joined_58 ?_
            refine bz_ri (y := nI a) (nI_pred a) ?_
            refine lv_iload_n hx hb d_B_joined_59 rfl (lv_at hl 3 rfl) ?_
            refine lv_iconst (v := 1) hx hb d_B_joined_60 (by decide) ?_
            refine lv_isub hx hb d_B_joined_61 ?_
            refine bz_ri (y := nI b) (nI_pred b) ?_
            refine bz_cv (va_runV (As := [.int (nI a), .int (nI b)]) (rest := []) ⟨hx, hb, hml, hown, htb⟩ (c_T_turnJoin l dC dI _ ad cI cL t R L v ht _ _ (!br) ha hbn hab (by rw [hj]; cases br <;> rfl)) (cwV 2 htb (bz_gV wd_157 wd_154 wd_155 wd_156 wd_20) rfl rfl rfl (by decide +kernel) ⟨Nat.le_of_ble_eq_true rfl, Nat.le_of_ble_eq_true rfl⟩) (bz_wv hN hK hP hD (q0 := 1) rfl rfl) rfl rfl hl.1 rfl (lv_room (Nat.le_of_ble_eq_true rfl)) d_B_joined_62 ⟨Nat.zero_le _, Nat.zero_le _⟩) hD hS hA (fun H locs hP hD hS => ?_)
            have hP : va_P (dC, dI) vwCl (bz_wB ad cI cL (bz_tR (bz_sJ t a b (!br))) R L v) H := hP
            have hD : va_D A (bz_wB ad cI cL (bz_tR (bz_sJ t a b (!br))) R L v) := hD
            refine lv_aload_n hx hb d_B_joined_65 rfl (lv_at hl 1 rfl) ?_
            refine lv_iconst (v := 0) hx hb d_B_joined_66 (by decide) ?_
            refine va_put (D := (dC, dI)) (ci := 3) (v := .int 0) (ty := .boolean) (C := R_B) (T := F_B) (N := 4) hx hb htb in_B tf_B tok_B n_B hown hK hP hD hS 0 rfl rfl 3 (by decide) (htb _ wd_120) (fun _ h9 => h9) rfl (by decide +kernel) rfl rfl (Nat.le_of_ble_eq_true rfl) d_B_joined_67 (fun H locs hP hD hS => ?_)
            have hP : va_P (dC, dI) vwCl (bz_wB ad cI cL (bz_tR (bz_sJ t a b (!br))) R L 0) H := hP
            have hD : va_D A (bz_wB ad cI cL (bz_tR (bz_sJ t a b (!br))) R L 0) := hD
            refine lv_iload hx hb d_B_joined_70 (lv_at hl 0 rfl) ?_
            exact W.zret (v := nI 0) hx hb hr (rfl) (fun t9 ht9 hW => ⟨⟨nI 0, (), rfl, by rw [hbr]; rfl, by rw [ht9]; exact hP, va_K.moved hW.alike hK, hD⟩, hS.F ht9⟩) hS.2.2 d_B_joined_72
        · skip
          have hbr := bz_i_eq c_24
          refine lv_iconst (v := 1) hx hb d_B_joined_27 (by decide) ?_
          refine lv_goto (tgt := 32) hx hb d_B_joined_28 (by decide) ?_
          refine lv_istore (lv' := [(4, .int 1), (0, .ref (ad 0)), (1, .int (nI (a + 1))), (2, .int (nI (b + 1))), (3, .int (bz_i br))]) hx hb d_B_joined_32 hl (by decide) rfl (fun ls hl => ?_)
          refine lv_aload_n hx hb d_B_joined_34 rfl (lv_at hl 1 rfl) ?_
          refine va_get (D := (dC, dI)) (ci := 3) (v := .ref (ad 1)) (C := R_B) (T := F_B) (N := 4) hx hb htb in_B hown hK hP 0 rfl rfl 0 (by decide) (htb _ wd_117) (fun _ h9 => h9) rfl d_B_joined_35 ?_
          refine lv_iload_n hx hb d_B_joined_38 rfl (lv_at hl 2 rfl) ?_
          refine lv_iconst (v := 1) hx hb d_B_joined_39 (by decide) ?_
          refine lv_isub hx hb d_B_joined_40 ?_
          refine bz_ri (y := nI a) (nI_pred a) ?_
          refine lv_iload_n hx hb d_B_joined_41 rfl (lv_at hl 3 rfl) ?_
          refine lv_iconst (v := 1) hx hb d_B_joined_42 (by decide) ?_
          refine lv_isub hx hb d_B_joined_43 ?_
          refine bz_ri (y := nI b) (nI_pred b) ?_
          refine bz_si (va_runV (As := [.int (nI a), .int (nI b)]) (rest := []) ⟨hx, hb, hml, hown, htb⟩ (c_T_areJoined l dC dI ad cI cL t R L v _ _ (by omega) (by omega)) (cwV 2 htb (bz_gV wd_153 wd_150 wd_151 wd_152 wd_20) rfl rfl rfl (by decide +kernel) ⟨Nat.le_of_ble_eq_true rfl, Nat.le_of_ble_eq_true rfl⟩) (bz_rv hN hK hP (q0 := 1) rfl rfl) rfl rfl hl.1 rfl (lv_room (Nat.le_of_ble_eq_true rfl)) d_B_joined_44 ⟨Nat.zero_le _, Nat.zero_le _⟩) ?_
          refine lv_iload hx hb d_B_joined_47 (lv_at hl 0 rfl) ?_
          refine lv_icmp_eq (tgt := 70) hx hb d_B_joined_49 (by decide) (fun c_49 => ?_) (fun c_49 => ?_)
          · skip
            exact absurd c_49 (by rw [hj, hbr]; decide)
          · skip
            refine lv_aload_n hx hb d_B_joined_52 rfl (lv_at hl 1 rfl) ?_
            refine va_get (D := (dC, dI)) (ci := 3) (v := .ref (ad 1)) (C := R_B) (T := F_B) (N := 4) hx hb htb in_B hown hK hP 0 rfl rfl 0 (by decide) (htb _ wd_117) (fun _ h9 => h9) rfl d_B_joined_53 ?_
            refine lv_iload_n hx hb d_B_joined_56 rfl (lv_at hl 2 rfl) ?_
            refine lv_iconst (v := 1) hx hb d_B_joined_57 (by decide) ?_
            refine lv_isub hx hb d_B_joined_58 ?_
            refine bz_ri (y := nI a) (nI_pred a) ?_
            refine lv_iload_n hx hb d_B_joined_59 rfl (lv_at hl 3 rfl) ?_
            refine lv_iconst (v := 1) hx hb d_B_joined_60 (by decide) ?_
            refine lv_isub hx hb d_B_joined_61 ?_
            refine bz_ri (y := nI b) (nI_pred b) ?_
            refine bz_cv (va_runV (As := [.int (nI a), .int (nI b)]) (rest := []) ⟨hx, hb, hml, hown, htb⟩ (c_T_turnJoin l dC dI _ ad cI cL t R L v ht _ _ (!br) ha hbn hab (by rw [hj]; cases br <;> rfl)) (cwV 2 htb (bz_gV wd_157 wd_154 wd_155 wd_156 wd_20) rfl rfl rfl (by decide +kernel) ⟨Nat.le_of_ble_eq_true rfl, Nat.le_of_ble_eq_true rfl⟩) (bz_wv hN hK hP hD (q0 := 1) rfl rfl) rfl rfl hl.1 rfl (lv_room (Nat.le_of_ble_eq_true rfl)) d_B_joined_62 ⟨Nat.zero_le _, Nat.zero_le _⟩) hD hS hA (fun H locs hP hD hS => ?_)
            have hP : va_P (dC, dI) vwCl (bz_wB ad cI cL (bz_tR (bz_sJ t a b (!br))) R L v) H := hP
            have hD : va_D A (bz_wB ad cI cL (bz_tR (bz_sJ t a b (!br))) R L v) := hD
            refine lv_aload_n hx hb d_B_joined_65 rfl (lv_at hl 1 rfl) ?_
            refine lv_iconst (v := 0) hx hb d_B_joined_66 (by decide) ?_
            refine va_put (D := (dC, dI)) (ci := 3) (v := .int 0) (ty := .boolean) (C := R_B) (T := F_B) (N := 4) hx hb htb in_B tf_B tok_B n_B hown hK hP hD hS 0 rfl rfl 3 (by decide) (htb _ wd_120) (fun _ h9 => h9) rfl (by decide +kernel) rfl rfl (Nat.le_of_ble_eq_true rfl) d_B_joined_67 (fun H locs hP hD hS => ?_)
            have hP : va_P (dC, dI) vwCl (bz_wB ad cI cL (bz_tR (bz_sJ t a b (!br))) R L 0) H := hP
            have hD : va_D A (bz_wB ad cI cL (bz_tR (bz_sJ t a b (!br))) R L 0) := hD
            refine lv_iload hx hb d_B_joined_70 (lv_at hl 0 rfl) ?_
            exact W.zret (v := 1) hx hb hr (rfl) (fun t9 ht9 hW => ⟨⟨1, (), rfl, by rw [hbr]; rfl, by rw [ht9]; exact hP, va_K.moved hW.alike hK, hD⟩, hS.F ht9⟩) hS.2.2 d_B_joined_72
      · skip
        exact absurd ((nI_eq (by omega) (by omega)).mp c_18) (by omega)

set_option maxHeartbeats 4000000 in
set_option maxRecDepth 100000 in
/-- carrier, refused -/
theorem c_B_carrier_o (l : Launch) (dC : Nat → ClassId) (dI : Nat → Nat → Nat) (ad : Nat → Nat) (cI cL : ClassId) (t : bz_T) (R : bz_RS) (L : (Nat → Int32) × Int64) (v : Int32) (ht : bz_ok t) (q : Int32) (z : Int64) (hz : ¬ (bz_ir q = true ∧ 0 ≤ z ∧ z ≤ 1000000000)) : Met l y_B_carrier w_B_carrier ({ frames := 1, cells := 0, slots := 0, locals := 20 }) (bz_Pr (dC, dI) [(cI, .int), (cL, .long)] (bz_wB ad cI cL (bz_tR t) R L v) [.ref (ad 0), .int q, .long z]) (vp_Si (fun r9 => r9 = (-12))) 0 0 (fun _ => False) := by
  refine Met.ofW (cc := b_B_carrier) (maxL := 6) (ret := (some .int)) (by decide) rfl ?_
  intro p e s m args below meth c s₁ B hml hv
  obtain ⟨rfl, hP, hK, hN⟩ := hv
  have hx := B.exec
  have hb := B.bytes
  have hr := B.returns
  have hts := atoms_spec (ws := w_B_carrier) B.pre
  have hown : s.vm.findClass R_B = some m.cls := findClass_of_methodNamed B.named
  have htb : ∀ w ∈ bz_tb, w.before _ s = true := fun w h => hts w (List.mem_cons_of_mem _ h)
  have hlocks := B.notSynchronized
  have hl := lv_entry ([.ref (ad 0), .int q, .long z]) (n := 6) (Nat.le_of_ble_eq_true rfl)
  rw [lg_entry_eq]
  generalize (lg_sl ([.ref (ad 0), .int q, .long z]) ++ List.replicate (6 - (lg_sl ([.ref (ad 0), .int q, .long z])).length) Slot.unset).toArray = ls at hl ⊢
  have hl : lv_has ls 6 [(0, .ref (ad 0)), (1, .int q), (2, .long z)] := hl
  refine lv_iload_n hx hb d_B_carrier_0 rfl (lv_at hl 1 rfl) ?_
  refine bz_si (va_runS (As := [.int q]) (rest := []) ⟨hx, hb, hml, hown, htb⟩ (c_B_isRound l dC dI ad cI cL t R L v _) (va_cwS 1 htb (bz_gS wd_137 wd_135 wd_136 wd_19) rfl rfl rfl (by decide +kernel) ⟨Nat.le_of_ble_eq_true rfl, Nat.le_of_ble_eq_true rfl⟩) (bz_rs hN hK hP) rfl rfl hl.1 rfl (lv_room (Nat.le_of_ble_eq_true rfl)) d_B_carrier_1 ⟨Nat.zero_le _, Nat.zero_le _⟩) ?_
  refine lv_if_eq (tgt := 21) hx hb d_B_carrier_4 (by decide) (fun c_4 => ?_) (fun c_4 => ?_)
  · skip
    refine lv_bipush (v := (-12)) hx hb d_B_carrier_21 (by decide) ?_
    exact W.iret (v := (-12)) hx hb hr (fun t9 ht9 hW => ⟨(-12), rfl, rfl, ht9⟩) (fun _ h => nomatch h) d_B_carrier_23
  · skip
    refine lv_lload_n hx hb d_B_carrier_7 rfl (lv_at hl 2 rfl) ?_
    refine lv_lconst (v := 0) hx hb d_B_carrier_8 (by decide) ?_
    refine W.lcmp hx hb d_B_carrier_9 ?_
    refine lv_if_lt (tgt := 21) hx hb d_B_carrier_10 (by decide) (fun c_10 => ?_) (fun c_10 => ?_)
    · skip
      refine lv_bipush (v := (-12)) hx hb d_B_carrier_21 (by decide) ?_
      exact W.iret (v := (-12)) hx hb hr (fun t9 ht9 hW => ⟨(-12), rfl, rfl, ht9⟩) (fun _ h => nomatch h) d_B_carrier_23
    · skip
      refine lv_lload_n hx hb d_B_carrier_13 rfl (lv_at hl 2 rfl) ?_
      refine lv_ldc2 (v := 1000000000) hx hb hown (htb _ wd_162) d_B_carrier_14 ?_
      refine W.lcmp hx hb d_B_carrier_17 ?_
      refine lv_if_le (tgt := 24) hx hb d_B_carrier_18 (by decide) (fun c_18 => ?_) (fun c_18 => ?_)
      · skip
        exact absurd ⟨bz_i_ne c_4, Int64.not_lt.mp (fun y => c_10 ((lg_cmp_lt z 0).mpr y)), (lg_cmp_le z 1000000000).mp c_18⟩ hz
      · skip
        refine lv_bipush (v := (-12)) hx hb d_B_carrier_21 (by decide) ?_
        exact W.iret (v := (-12)) hx hb hr (fun t9 ht9 hW => ⟨(-12), rfl, rfl, ht9⟩) (fun _ h => nomatch h) d_B_carrier_23

set_option maxHeartbeats 4000000 in
set_option maxRecDepth 100000 in
/-- carrier, the same hours -/
theorem c_B_carrier_s (l : Launch) (dC : Nat → ClassId) (dI : Nat → Nat → Nat) (ad : Nat → Nat) (cI cL : ClassId) (t : bz_T) (R : bz_RS) (L : (Nat → Int32) × Int64) (v : Int32) (ht : bz_ok t) (r x : Nat) (hr4 : r < 4) (hx0 : x ≤ 1000000000) (hh : bz_h t r = x) : Met l y_B_carrier w_B_carrier ({ frames := 1, cells := 0, slots := 0, locals := 20 }) (bz_Pr (dC, dI) [(cI, .int), (cL, .long)] (bz_wB ad cI cL (bz_tR t) R L v) [.ref (ad 0), .int (nI r), .long (lN x)]) (vp_Si (fun r9 => r9 = nI (bz_h t r))) 0 0 (fun _ => False) := by
  refine Met.ofW (cc := b_B_carrier) (maxL := 6) (ret := (some .int)) (by decide) rfl ?_
  intro p e s m args below meth c s₁ B hml hv
  obtain ⟨rfl, hP, hK, hN⟩ := hv
  have hx := B.exec
  have hb := B.bytes
  have hr := B.returns
  have hts := atoms_spec (ws := w_B_carrier) B.pre
  have hown : s.vm.findClass R_B = some m.cls := findClass_of_methodNamed B.named
  have htb : ∀ w ∈ bz_tb, w.before _ s = true := fun w h => hts w (List.mem_cons_of_mem _ h)
  have hlocks := B.notSynchronized
  have hl := lv_entry ([.ref (ad 0), .int (nI r), .long (lN x)]) (n := 6) (Nat.le_of_ble_eq_true rfl)
  rw [lg_entry_eq]
  generalize (lg_sl ([.ref (ad 0), .int (nI r), .long (lN x)]) ++ List.replicate (6 - (lg_sl ([.ref (ad 0), .int (nI r), .long (lN x)])).length) Slot.unset).toArray = ls at hl ⊢
  have hl : lv_has ls 6 [(0, .ref (ad 0)), (1, .int (nI r)), (2, .long (lN x))] := hl
  have hir : bz_ir (nI r) = true := decide_eq_true ⟨nI_pos' (by omega), (nI_ltI (b := 4) (by omega) (by omega)).mpr hr4⟩
  have hhr := ht.2.2.2.2.2.2 r
  refine lv_iload_n hx hb d_B_carrier_0 rfl (lv_at hl 1 rfl) ?_
  refine bz_si (va_runS (As := [.int (nI r)]) (rest := []) ⟨hx, hb, hml, hown, htb⟩ (c_B_isRound l dC dI ad cI cL t R L v _) (va_cwS 1 htb (bz_gS wd_137 wd_135 wd_136 wd_19) rfl rfl rfl (by decide +kernel) ⟨Nat.le_of_ble_eq_true rfl, Nat.le_of_ble_eq_true rfl⟩) (bz_rs hN hK hP) rfl rfl hl.1 rfl (lv_room (Nat.le_of_ble_eq_true rfl)) d_B_carrier_1 ⟨Nat.zero_le _, Nat.zero_le _⟩) ?_
  refine lv_if_eq (tgt := 21) hx hb d_B_carrier_4 (by decide) (fun c_4 => ?_) (fun c_4 => ?_)
  · skip
    exact absurd (bz_i_eq c_4) (by rw [hir]; decide)
  · skip
    refine lv_lload_n hx hb d_B_carrier_7 rfl (lv_at hl 2 rfl) ?_
    refine lv_lconst (v := 0) hx hb d_B_carrier_8 (by decide) ?_
    refine W.lcmp hx hb d_B_carrier_9 ?_
    refine lv_if_lt (tgt := 21) hx hb d_B_carrier_10 (by decide) (fun c_10 => ?_) (fun c_10 => ?_)
    · skip
      exact absurd ((bz_lc_lt (b := 0) (by omega) (by omega)).mp c_10) (by omega)
    · skip
      refine lv_lload_n hx hb d_B_carrier_13 rfl (lv_at hl 2 rfl) ?_
      refine lv_ldc2 (v := 1000000000) hx hb hown (htb _ wd_162) d_B_carrier_14 ?_
      refine W.lcmp hx hb d_B_carrier_17 ?_
      refine lv_if_le (tgt := 24) hx hb d_B_carrier_18 (by decide) (fun c_18 => ?_) (fun c_18 => ?_)
      · skip
        refine lv_aload_n hx hb d_B_carrier_24 rfl (lv_at hl 0 rfl) ?_
        refine va_get (D := (dC, dI)) (ci := 3) (v := .ref (ad 1)) (C := R_B) (T := F_B) (N := 4) hx hb htb in_B hown hK hP 0 rfl rfl 0 (by decide) (htb _ wd_117) (fun _ h9 => h9) rfl d_B_carrier_25 ?_
        refine va_getN (D := (dC, dI)) (ci := 2) (v := .ref (ad 6)) (C := R_T) (T := F_T) (N := 6) hx hb htb in_T hown hK hP 1 rfl rfl 4 (by decide) (va_Nw.use rfl (hN _ nd_53)) (fun _ h9 => h9) rfl d_B_carrier_28 ?_
        refine lv_iload_n hx hb d_B_carrier_31 rfl (lv_at hl 1 rfl) ?_
        refine bz_lald (v := lN (bz_h t r)) hx hb hK hP 6 1 rfl rfl (a9 := r) (by omega) (by decide) (rfl) d_B_carrier_32 ?_
        refine lv_lstore (lv' := [(4, .long (lN (bz_h t r))), (0, .ref (ad 0)), (1, .int (nI r)), (2, .long (lN x))]) hx hb d_B_carrier_33 hl (by decide) rfl (fun ls hl => ?_)
        refine lv_lload hx hb d_B_carrier_35 (lv_at hl 0 rfl) ?_
        refine lv_lload_n hx hb d_B_carrier_37 rfl (lv_at hl 3 rfl) ?_
        refine W.lcmp hx hb d_B_carrier_38 ?_
        refine lv_if_eq (tgt := 57) hx hb d_B_carrier_39 (by decide) (fun c_39 => ?_) (fun c_39 => ?_)
        · skip
          refine lv_lload hx hb d_B_carrier_57 (lv_at hl 0 rfl) ?_
          refine lv_l2i hx hb d_B_carrier_59 rfl ?_
          refine bz_ri (y := nI (bz_h t r)) (lN_i _) ?_
          exact W.iret (v := nI (bz_h t r)) hx hb hr (fun t9 ht9 hW => ⟨nI (bz_h t r), rfl, rfl, ht9⟩) (fun _ h => nomatch h) d_B_carrier_60
        · skip
          exact absurd ((bz_lc_eq (by omega) (by omega)).mpr hh) c_39
      · skip
        exact absurd ((bz_lc_le (b := 1000000000) (by omega) (by omega)).mpr hx0) c_18

set_option maxHeartbeats 4000000 in
set_option maxRecDepth 100000 in
/-- carrier -/
theorem c_B_carrier (l : Launch) (dC : Nat → ClassId) (dI : Nat → Nat → Nat) (sz : Nat) (ad : Nat → Nat) (cI cL : ClassId) (t : bz_T) (R : bz_RS) (L : (Nat → Int32) × Int64) (v : Int32) (ht : bz_ok t) (r x : Nat) (hr4 : r < 4) (hx0 : x ≤ 1000000000) (hh : ¬ bz_h t r = x) : Met l y_B_carrier w_B_carrier ({ frames := 1, cells := 0, slots := 0, locals := 20 }) (bz_Pw (dC, dI) [(cI, .int), (cL, .long)] (bz_wB ad cI cL (bz_tR t) R L v) sz [.ref (ad 0), .int (nI r), .long (lN x)]) (bz_Qi (dC, dI) [(cI, .int), (cL, .long)] (va_A (bz_wB ad cI cL (bz_tR t) R L v) sz) (nI (bz_h t r)) (bz_wB ad cI cL (bz_tR (bz_sH t r x)) R L 0)) 0 0 (va_A (bz_wB ad cI cL (bz_tR t) R L v) sz) := by
  refine Met.ofW (cc := b_B_carrier) (maxL := 6) (ret := (some .int)) (by decide) rfl ?_
  intro p e s m args below meth c s₁ B hml hv
  obtain ⟨rfl, hsz, hP, hK, hD0, hN⟩ := hv
  have hx := B.exec
  have hb := B.bytes
  have hr := B.returns
  have hts := atoms_spec (ws := w_B_carrier) B.pre
  have hown : s.vm.findClass R_B = some m.cls := findClass_of_methodNamed B.named
  have htb : ∀ w ∈ bz_tb, w.before _ s = true := fun w h => hts w (List.mem_cons_of_mem _ h)
  have hlocks := B.notSynchronized
  subst hsz
  have hD := hD0.self (sz := s.heap.size)
  generalize hAe : va_A (bz_wB ad cI cL (bz_tR t) R L v) s.heap.size = A at hD ⊢
  have hA : ∀ q : Nat, s.heap.size ≤ q → A q := fun q h => by rw [← hAe]; exact Or.inr h
  have hS : va_S A s.heap s.heap [] := va_S.rf
  have hl := lv_entry ([.ref (ad 0), .int (nI r), .long (lN x)]) (n := 6) (Nat.le_of_ble_eq_true rfl)
  rw [lg_entry_eq]
  generalize (lg_sl ([.ref (ad 0), .int (nI r), .long (lN x)]) ++ List.replicate (6 - (lg_sl ([.ref (ad 0), .int (nI r), .long (lN x)])).length) Slot.unset).toArray = ls at hl ⊢
  have hl : lv_has ls 6 [(0, .ref (ad 0)), (1, .int (nI r)), (2, .long (lN x))] := hl
  have hir : bz_ir (nI r) = true := decide_eq_true ⟨nI_pos' (by omega), (nI_ltI (b := 4) (by omega) (by omega)).mpr hr4⟩
  have hhr := ht.2.2.2.2.2.2 r
  refine lv_iload_n hx hb d_B_carrier_0 rfl (lv_at hl 1 rfl) ?_
  refine bz_si (va_runS (As := [.int (nI r)]) (rest := []) ⟨hx, hb, hml, hown, htb⟩ (c_B_isRound l dC dI ad cI cL t R L v _) (va_cwS 1 htb (bz_gS wd_137 wd_135 wd_136 wd_19) rfl rfl rfl (by decide +kernel) ⟨Nat.le_of_ble_eq_true rfl, Nat.le_of_ble_eq_true rfl⟩) (bz_rs hN hK hP) rfl rfl hl.1 rfl (lv_room (Nat.le_of_ble_eq_true rfl)) d_B_carrier_1 ⟨Nat.zero_le _, Nat.zero_le _⟩) ?_
  refine lv_if_eq (tgt := 21) hx hb d_B_carrier_4 (by decide) (fun c_4 => ?_) (fun c_4 => ?_)
  · skip
    exact absurd (bz_i_eq c_4) (by rw [hir]; decide)
  · skip
    refine lv_lload_n hx hb d_B_carrier_7 rfl (lv_at hl 2 rfl) ?_
    refine lv_lconst (v := 0) hx hb d_B_carrier_8 (by decide) ?_
    refine W.lcmp hx hb d_B_carrier_9 ?_
    refine lv_if_lt (tgt := 21) hx hb d_B_carrier_10 (by decide) (fun c_10 => ?_) (fun c_10 => ?_)
    · skip
      exact absurd ((bz_lc_lt (b := 0) (by omega) (by omega)).mp c_10) (by omega)
    · skip
      refine lv_lload_n hx hb d_B_carrier_13 rfl (lv_at hl 2 rfl) ?_
      refine lv_ldc2 (v := 1000000000) hx hb hown (htb _ wd_162) d_B_carrier_14 ?_
      refine W.lcmp hx hb d_B_carrier_17 ?_
      refine lv_if_le (tgt := 24) hx hb d_B_carrier_18 (by decide) (fun c_18 => ?_) (fun c_18 => ?_)
      · skip
        refine lv_aload_n hx hb d_B_carrier_24 rfl (lv_at hl 0 rfl) ?_
        refine va_get (D := (dC, dI)) (ci := 3) (v := .ref (ad 1)) (C := R_B) (T := F_B) (N := 4) hx hb htb in_B hown hK hP 0 rfl rfl 0 (by decide) (htb _ wd_117) (fun _ h9 => h9) rfl d_B_carrier_25 ?_
        refine va_getN (D := (dC, dI)) (ci := 2) (v := .ref (ad 6)) (C := R_T) (T := F_T) (N := 6) hx hb htb in_T hown hK hP 1 rfl rfl 4 (by decide) (va_Nw.use rfl (hN _ nd_53)) (fun _ h9 => h9) rfl d_B_carrier_28 ?_
        refine lv_iload_n hx hb d_B_carrier_31 rfl (lv_at hl 1 rfl) ?_
        refine bz_lald (v := lN (bz_h t r)) hx hb hK hP 6 1 rfl rfl (a9 := r) (by omega) (by decide) (rfl) d_B_carrier_32 ?_
        refine lv_lstore (lv' := [(4, .long (lN (bz_h t r))), (0, .ref (ad 0)), (1, .int (nI r)), (2, .long (lN x))]) hx hb d_B_carrier_33 hl (by decide) rfl (fun ls hl => ?_)
        refine lv_lload hx hb d_B_carrier_35 (lv_at hl 0 rfl) ?_
        refine lv_lload_n hx hb d_B_carrier_37 rfl (lv_at hl 3 rfl) ?_
        refine W.lcmp hx hb d_B_carrier_38 ?_
        refine lv_if_eq (tgt := 57) hx hb d_B_carrier_39 (by decide) (fun c_39 => ?_) (fun c_39 => ?_)
        · skip
          exact absurd ((bz_lc_eq (by omega) (by omega)).mp c_39) hh
        · skip
          refine lv_aload_n hx hb d_B_carrier_42 rfl (lv_at hl 1 rfl) ?_
          refine va_get (D := (dC, dI)) (ci := 3) (v := .ref (ad 1)) (C := R_B) (T := F_B) (N := 4) hx hb htb in_B hown hK hP 0 rfl rfl 0 (by decide) (htb _ wd_117) (fun _ h9 => h9) rfl d_B_carrier_43 ?_
          refine va_getN (D := (dC, dI)) (ci := 2) (v := .ref (ad 6)) (C := R_T) (T := F_T) (N := 6) hx hb htb in_T hown hK hP 1 rfl rfl 4 (by decide) (va_Nw.use rfl (hN _ nd_53)) (fun _ h9 => h9) rfl d_B_carrier_46 ?_
          refine lv_iload_n hx hb d_B_carrier_49 rfl (lv_at hl 2 rfl) ?_
          refine lv_lload_n hx hb d_B_carrier_50 rfl (lv_at hl 3 rfl) ?_
          refine bz_last hx hb hK hP hD hS 6 1 rfl rfl (a9 := r) (by omega) (by decide) d_B_carrier_51 (fun H locs hP hD hS => ?_)
          have hP : va_P (dC, dI) vwCl (bz_wB ad cI cL ((bz_tR t).1, (bz_tR t).2.1, (bz_tR t).2.2.1, (bz_tR t).2.2.2.1, (vp_updL ((bz_tR t).2.2.2.2.1) r (lN x)), nI (bz_n t)) R L v) H := hP
          have hD : va_D A (bz_wB ad cI cL ((bz_tR t).1, (bz_tR t).2.1, (bz_tR t).2.2.1, (bz_tR t).2.2.2.1, (vp_updL ((bz_tR t).2.2.2.2.1) r (lN x)), nI (bz_n t)) R L v) := hD
          refine lv_aload_n hx hb d_B_carrier_52 rfl (lv_at hl 1 rfl) ?_
          refine lv_iconst (v := 0) hx hb d_B_carrier_53 (by decide) ?_
          refine va_put (D := (dC, dI)) (ci := 3) (v := .int 0) (ty := .boolean) (C := R_B) (T := F_B) (N := 4) hx hb htb in_B tf_B tok_B n_B hown hK hP hD hS 0 rfl rfl 3 (by decide) (htb _ wd_120) (fun _ h9 => h9) rfl (by decide +kernel) rfl rfl (Nat.le_of_ble_eq_true rfl) d_B_carrier_54 (fun H locs hP hD hS => ?_)
          have hP : va_P (dC, dI) vwCl (bz_wB ad cI cL ((bz_tR t).1, (bz_tR t).2.1, (bz_tR t).2.2.1, (bz_tR t).2.2.2.1, (vp_updL ((bz_tR t).2.2.2.2.1) r (lN x)), nI (bz_n t)) R L 0) H := hP
          have hD : va_D A (bz_wB ad cI cL ((bz_tR t).1, (bz_tR t).2.1, (bz_tR t).2.2.1, (bz_tR t).2.2.2.1, (vp_updL ((bz_tR t).2.2.2.2.1) r (lN x)), nI (bz_n t)) R L 0) := hD
          refine lv_lload hx hb d_B_carrier_57 (lv_at hl 0 rfl) ?_
          refine lv_l2i hx hb d_B_carrier_59 rfl ?_
          refine bz_ri (y := nI (bz_h t r)) (lN_i _) ?_
          have e9 : bz_tR (bz_sH t r x) = ((bz_tR t).1, (bz_tR t).2.1, (bz_tR t).2.2.1, (bz_tR t).2.2.2.1, (vp_updL ((bz_tR t).2.2.2.2.1) r (lN x)), nI (bz_n t)) := bz_sH_R t r x
          have hP : va_P (dC, dI) vwCl (bz_wB ad cI cL (bz_tR (bz_sH t r x)) R L 0) H := by rw [e9]; exact hP
          have hD : va_D A (bz_wB ad cI cL (bz_tR (bz_sH t r x)) R L 0) := by rw [e9]; exact hD
          exact W.iret (v := nI (bz_h t r)) hx hb hr (fun t9 ht9 hW => ⟨⟨nI (bz_h t r), (), rfl, rfl, by rw [ht9]; exact hP, va_K.moved hW.alike hK, hD⟩, hS.F ht9⟩) hS.2.2 d_B_carrier_60
      · skip
        exact absurd ((bz_lc_le (b := 1000000000) (by omega) (by omega)).mpr hx0) c_18

set_option maxHeartbeats 4000000 in
set_option maxRecDepth 100000 in
/-- know, no such area -/
theorem c_B_know_u (l : Launch) (dC : Nat → ClassId) (dI : Nat → Nat → Nat) (ad : Nat → Nat) (cI cL : ClassId) (t : bz_T) (R : bz_RS) (L : (Nat → Int32) × Int64) (v : Int32) (ht : bz_ok t) (q x : Int32) (hz : bz_ia (bz_n t) x = false) : Met l y_B_know w_B_know ({ frames := 1, cells := 0, slots := 0, locals := 22 }) (bz_Pr (dC, dI) [(cI, .int), (cL, .long)] (bz_wB ad cI cL (bz_tR t) R L v) [.ref (ad 0), .int q, .int x]) (vp_Si (fun r9 => r9 = (-11))) 0 0 (fun _ => False) := by
  refine Met.ofW (cc := b_B_know) (maxL := 3) (ret := (some .int)) (by decide) rfl ?_
  intro p e s m args below meth c s₁ B hml hv
  obtain ⟨rfl, hP, hK, hN⟩ := hv
  have hx := B.exec
  have hb := B.bytes
  have hr := B.returns
  have hts := atoms_spec (ws := w_B_know) B.pre
  have hown : s.vm.findClass R_B = some m.cls := findClass_of_methodNamed B.named
  have htb : ∀ w ∈ bz_tb, w.before _ s = true := fun w h => hts w (List.mem_cons_of_mem _ h)
  have hlocks := B.notSynchronized
  have hl := lv_entry ([.ref (ad 0), .int q, .int x]) (n := 3) (Nat.le_of_ble_eq_true rfl)
  rw [lg_entry_eq]
  generalize (lg_sl ([.ref (ad 0), .int q, .int x]) ++ List.replicate (3 - (lg_sl ([.ref (ad 0), .int q, .int x])).length) Slot.unset).toArray = ls at hl ⊢
  have hl : lv_has ls 3 [(0, .ref (ad 0)), (1, .int q), (2, .int x)] := hl
  refine lv_aload_n hx hb d_B_know_0 rfl (lv_at hl 0 rfl) ?_
  refine lv_iload_n hx hb d_B_know_1 rfl (lv_at hl 2 rfl) ?_
  refine bz_si (va_runV (As := [.int x]) (rest := []) ⟨hx, hb, hml, hown, htb⟩ (c_B_isArea l dC dI ad cI cL t R L v _) (cwV 1 htb (bz_gV wd_149 wd_146 wd_148 wd_0 wd_19) rfl rfl rfl (by decide +kernel) ⟨Nat.le_of_ble_eq_true rfl, Nat.le_of_ble_eq_true rfl⟩) (bz_rv hN hK hP (q0 := 0) rfl rfl) rfl rfl hl.1 rfl (lv_room (Nat.le_of_ble_eq_true rfl)) d_B_know_2 ⟨Nat.zero_le _, Nat.zero_le _⟩) ?_
  refine lv_if_ne (tgt := 11) hx hb d_B_know_5 (by decide) (fun c_5 => ?_) (fun c_5 => ?_)
  · skip
    exact absurd (bz_i_ne c_5) (by rw [hz]; decide)
  · skip
    refine lv_bipush (v := (-11)) hx hb d_B_know_8 (by decide) ?_
    exact W.iret (v := (-11)) hx hb hr (fun t9 ht9 hW => ⟨(-11), rfl, rfl, ht9⟩) (fun _ h => nomatch h) d_B_know_10

set_option maxHeartbeats 4000000 in
set_option maxRecDepth 100000 in
/-- know, outside -/
theorem c_B_know_o (l : Launch) (dC : Nat → ClassId) (dI : Nat → Nat → Nat) (ad : Nat → Nat) (cI cL : ClassId) (t : bz_T) (R : bz_RS) (L : (Nat → Int32) × Int64) (v : Int32) (ht : bz_ok t) (q x : Int32) (hz : bz_ia (bz_n t) x = true) (hq : bz_ir q = false) : Met l y_B_know w_B_know ({ frames := 1, cells := 0, slots := 0, locals := 22 }) (bz_Pr (dC, dI) [(cI, .int), (cL, .long)] (bz_wB ad cI cL (bz_tR t) R L v) [.ref (ad 0), .int q, .int x]) (vp_Si (fun r9 => r9 = (-12))) 0 0 (fun _ => False) := by
  refine Met.ofW (cc := b_B_know) (maxL := 3) (ret := (some .int)) (by decide) rfl ?_
  intro p e s m args below meth c s₁ B hml hv
  obtain ⟨rfl, hP, hK, hN⟩ := hv
  have hx := B.exec
  have hb := B.bytes
  have hr := B.returns
  have hts := atoms_spec (ws := w_B_know) B.pre
  have hown : s.vm.findClass R_B = some m.cls := findClass_of_methodNamed B.named
  have htb : ∀ w ∈ bz_tb, w.before _ s = true := fun w h => hts w (List.mem_cons_of_mem _ h)
  have hlocks := B.notSynchronized
  have hl := lv_entry ([.ref (ad 0), .int q, .int x]) (n := 3) (Nat.le_of_ble_eq_true rfl)
  rw [lg_entry_eq]
  generalize (lg_sl ([.ref (ad 0), .int q, .int x]) ++ List.replicate (3 - (lg_sl ([.ref (ad 0), .int q, .int x])).length) Slot.unset).toArray = ls at hl ⊢
  have hl : lv_has ls 3 [(0, .ref (ad 0)), (1, .int q), (2, .int x)] := hl
  refine lv_aload_n hx hb d_B_know_0 rfl (lv_at hl 0 rfl) ?_
  refine lv_iload_n hx hb d_B_know_1 rfl (lv_at hl 2 rfl) ?_
  refine bz_si (va_runV (As := [.int x]) (rest := []) ⟨hx, hb, hml, hown, htb⟩ (c_B_isArea l dC dI ad cI cL t R L v _) (cwV 1 htb (bz_gV wd_149 wd_146 wd_148 wd_0 wd_19) rfl rfl rfl (by decide +kernel) ⟨Nat.le_of_ble_eq_true rfl, Nat.le_of_ble_eq_true rfl⟩) (bz_rv hN hK hP (q0 := 0) rfl rfl) rfl rfl hl.1 rfl (lv_room (Nat.le_of_ble_eq_true rfl)) d_B_know_2 ⟨Nat.zero_le _, Nat.zero_le _⟩) ?_
  refine lv_if_ne (tgt := 11) hx hb d_B_know_5 (by decide) (fun c_5 => ?_) (fun c_5 => ?_)
  · skip
    refine lv_iload_n hx hb d_B_know_11 rfl (lv_at hl 1 rfl) ?_
    refine bz_si (va_runS (As := [.int q]) (rest := []) ⟨hx, hb, hml, hown, htb⟩ (c_B_isRound l dC dI ad cI cL t R L v _) (va_cwS 1 htb (bz_gS wd_137 wd_135 wd_136 wd_19) rfl rfl rfl (by decide +kernel) ⟨Nat.le_of_ble_eq_true rfl, Nat.le_of_ble_eq_true rfl⟩) (bz_rs hN hK hP) rfl rfl hl.1 rfl (lv_room (Nat.le_of_ble_eq_true rfl)) d_B_know_12 ⟨Nat.zero_le _, Nat.zero_le _⟩) ?_
    refine lv_if_ne (tgt := 21) hx hb d_B_know_15 (by decide) (fun c_15 => ?_) (fun c_15 => ?_)
    · skip
      exact absurd (bz_i_ne c_15) (by rw [hq]; decide)
    · skip
      refine lv_bipush (v := (-12)) hx hb d_B_know_18 (by decide) ?_
      exact W.iret (v := (-12)) hx hb hr (fun t9 ht9 hW => ⟨(-12), rfl, rfl, ht9⟩) (fun _ h => nomatch h) d_B_know_20
  · skip
    exact absurd (bz_i_eq c_5) (by rw [hz]; decide)

set_option maxHeartbeats 4000000 in
set_option maxRecDepth 100000 in
/-- know, as before -/
theorem c_B_know_s (l : Launch) (dC : Nat → ClassId) (dI : Nat → Nat → Nat) (ad : Nat → Nat) (cI cL : ClassId) (t : bz_T) (R : bz_RS) (L : (Nat → Int32) × Int64) (v : Int32) (ht : bz_ok t) (r a : Nat) (hr4 : r < 4) (ha : a < bz_n t) (hk : bz_k t r a = true) : Met l y_B_know w_B_know ({ frames := 1, cells := 0, slots := 0, locals := 22 }) (bz_Pr (dC, dI) [(cI, .int), (cL, .long)] (bz_wB ad cI cL (bz_tR t) R L v) [.ref (ad 0), .int (nI r), .int (nI (a + 1))]) (vp_Si (fun r9 => r9 = 0)) 0 0 (fun _ => False) := by
  refine Met.ofW (cc := b_B_know) (maxL := 3) (ret := (some .int)) (by decide) rfl ?_
  intro p e s m args below meth c s₁ B hml hv
  obtain ⟨rfl, hP, hK, hN⟩ := hv
  have hx := B.exec
  have hb := B.bytes
  have hr := B.returns
  have hts := atoms_spec (ws := w_B_know) B.pre
  have hown : s.vm.findClass R_B = some m.cls := findClass_of_methodNamed B.named
  have htb : ∀ w ∈ bz_tb, w.before _ s = true := fun w h => hts w (List.mem_cons_of_mem _ h)
  have hlocks := B.notSynchronized
  have hl := lv_entry ([.ref (ad 0), .int (nI r), .int (nI (a + 1))]) (n := 3) (Nat.le_of_ble_eq_true rfl)
  rw [lg_entry_eq]
  generalize (lg_sl ([.ref (ad 0), .int (nI r), .int (nI (a + 1))]) ++ List.replicate (3 - (lg_sl ([.ref (ad 0), .int (nI r), .int (nI (a + 1))])).length) Slot.unset).toArray = ls at hl ⊢
  have hl : lv_has ls 3 [(0, .ref (ad 0)), (1, .int (nI r)), (2, .int (nI (a + 1)))] := hl
  have hn30 := ht.1
  have hir : bz_ir (nI r) = true := decide_eq_true ⟨nI_pos' (by omega), (nI_ltI (b := 4) (by omega) (by omega)).mpr hr4⟩
  have hia : bz_ia (bz_n t) (nI (a + 1)) = true := decide_eq_true ⟨(nI_leI (a := 1) (by omega) (by omega)).mpr (by omega), (nI_leI (by omega) (by omega)).mpr (by omega)⟩
  refine lv_aload_n hx hb d_B_know_0 rfl (lv_at hl 0 rfl) ?_
  refine lv_iload_n hx hb d_B_know_1 rfl (lv_at hl 2 rfl) ?_
  refine bz_si (va_runV (As := [.int (nI (a + 1))]) (rest := []) ⟨hx, hb, hml, hown, htb⟩ (c_B_isArea l dC dI ad cI cL t R L v _) (cwV 1 htb (bz_gV wd_149 wd_146 wd_148 wd_0 wd_19) rfl rfl rfl (by decide +kernel) ⟨Nat.le_of_ble_eq_true rfl, Nat.le_of_ble_eq_true rfl⟩) (bz_rv hN hK hP (q0 := 0) rfl rfl) rfl rfl hl.1 rfl (lv_room (Nat.le_of_ble_eq_true rfl)) d_B_know_2 ⟨Nat.zero_le _, Nat.zero_le _⟩) ?_
  refine lv_if_ne (tgt := 11) hx hb d_B_know_5 (by decide) (fun c_5 => ?_) (fun c_5 => ?_)
  · skip
    refine lv_iload_n hx hb d_B_know_11 rfl (lv_at hl 1 rfl) ?_
    refine bz_si (va_runS (As := [.int (nI r)]) (rest := []) ⟨hx, hb, hml, hown, htb⟩ (c_B_isRound l dC dI ad cI cL t R L v _) (va_cwS 1 htb (bz_gS wd_137 wd_135 wd_136 wd_19) rfl rfl rfl (by decide +kernel) ⟨Nat.le_of_ble_eq_true rfl, Nat.le_of_ble_eq_true rfl⟩) (bz_rs hN hK hP) rfl rfl hl.1 rfl (lv_room (Nat.le_of_ble_eq_true rfl)) d_B_know_12 ⟨Nat.zero_le _, Nat.zero_le _⟩) ?_
    refine lv_if_ne (tgt := 21) hx hb d_B_know_15 (by decide) (fun c_15 => ?_) (fun c_15 => ?_)
    · skip
      refine lv_aload_n hx hb d_B_know_21 rfl (lv_at hl 0 rfl) ?_
      refine va_get (D := (dC, dI)) (ci := 3) (v := .ref (ad 1)) (C := R_B) (T := F_B) (N := 4) hx hb htb in_B hown hK hP 0 rfl rfl 0 (by decide) (htb _ wd_117) (fun _ h9 => h9) rfl d_B_know_22 ?_
      refine lv_iload_n hx hb d_B_know_25 rfl (lv_at hl 2 rfl) ?_
      refine lv_iconst (v := 1) hx hb d_B_know_26 (by decide) ?_
      refine lv_isub hx hb d_B_know_27 ?_
      refine bz_ri (y := nI a) (nI_pred a) ?_
      refine lv_iload_n hx hb d_B_know_28 rfl (lv_at hl 1 rfl) ?_
      refine bz_si (va_runV (As := [.int (nI a), .int (nI r)]) (rest := []) ⟨hx, hb, hml, hown, htb⟩ (c_T_isKnown l dC dI ad cI cL t R L v _ _ (by omega) (by omega)) (cwV 2 htb (bz_gV wd_170 wd_167 wd_168 wd_169 wd_20) rfl rfl rfl (by decide +kernel) ⟨Nat.le_of_ble_eq_true rfl, Nat.le_of_ble_eq_true rfl⟩) (bz_rv hN hK hP (q0 := 1) rfl rfl) rfl rfl hl.1 rfl (lv_room (Nat.le_of_ble_eq_true rfl)) d_B_know_29 ⟨Nat.zero_le _, Nat.zero_le _⟩) ?_
      refine lv_if_eq (tgt := 37) hx hb d_B_know_32 (by decide) (fun c_32 => ?_) (fun c_32 => ?_)
      · skip
        exact absurd (bz_i_eq c_32) (by rw [hk]; decide)
      · skip
        refine lv_iconst (v := 0) hx hb d_B_know_35 (by decide) ?_
        exact W.iret (v := 0) hx hb hr (fun t9 ht9 hW => ⟨0, rfl, rfl, ht9⟩) (fun _ h => nomatch h) d_B_know_36
    · skip
      exact absurd (bz_i_eq c_15) (by rw [hir]; decide)
  · skip
    exact absurd (bz_i_eq c_5) (by rw [hia]; decide)

set_option maxHeartbeats 4000000 in
set_option maxRecDepth 100000 in
/-- know -/
theorem c_B_know (l : Launch) (dC : Nat → ClassId) (dI : Nat → Nat → Nat) (sz : Nat) (ad : Nat → Nat) (cI cL : ClassId) (t : bz_T) (R : bz_RS) (L : (Nat → Int32) × Int64) (v : Int32) (ht : bz_ok t) (r a : Nat) (hr4 : r < 4) (ha : a < bz_n t) (hk : bz_k t r a = false) : Met l y_B_know w_B_know ({ frames := 1, cells := 0, slots := 0, locals := 22 }) (bz_Pw (dC, dI) [(cI, .int), (cL, .long)] (bz_wB ad cI cL (bz_tR t) R L v) sz [.ref (ad 0), .int (nI r), .int (nI (a + 1))]) (bz_Qi (dC, dI) [(cI, .int), (cL, .long)] (va_A (bz_wB ad cI cL (bz_tR t) R L v) sz) (1) (bz_wB ad cI cL (bz_tR (bz_sK t r a)) R L 0)) 0 0 (va_A (bz_wB ad cI cL (bz_tR t) R L v) sz) := by
  refine Met.ofW (cc := b_B_know) (maxL := 3) (ret := (some .int)) (by decide) rfl ?_
  intro p e s m args below meth c s₁ B hml hv
  obtain ⟨rfl, hsz, hP, hK, hD0, hN⟩ := hv
  have hx := B.exec
  have hb := B.bytes
  have hr := B.returns
  have hts := atoms_spec (ws := w_B_know) B.pre
  have hown : s.vm.findClass R_B = some m.cls := findClass_of_methodNamed B.named
  have htb : ∀ w ∈ bz_tb, w.before _ s = true := fun w h => hts w (List.mem_cons_of_mem _ h)
  have hlocks := B.notSynchronized
  subst hsz
  have hD := hD0.self (sz := s.heap.size)
  generalize hAe : va_A (bz_wB ad cI cL (bz_tR t) R L v) s.heap.size = A at hD ⊢
  have hA : ∀ q : Nat, s.heap.size ≤ q → A q := fun q h => by rw [← hAe]; exact Or.inr h
  have hS : va_S A s.heap s.heap [] := va_S.rf
  have hl := lv_entry ([.ref (ad 0), .int (nI r), .int (nI (a + 1))]) (n := 3) (Nat.le_of_ble_eq_true rfl)
  rw [lg_entry_eq]
  generalize (lg_sl ([.ref (ad 0), .int (nI r), .int (nI (a + 1))]) ++ List.replicate (3 - (lg_sl ([.ref (ad 0), .int (nI r), .int (nI (a + 1))])).length) Slot.unset).toArray = ls at hl ⊢
  have hl : lv_has ls 3 [(0, .ref (ad 0)), (1, .int (nI r)), (2, .int (nI (a + 1)))] := hl
  have hn30 := ht.1
  have hir : bz_ir (nI r) = true := decide_eq_true ⟨nI_pos' (by omega), (nI_ltI (b := 4) (by omega) (by omega)).mpr hr4⟩
  have hia : bz_ia (bz_n t) (nI (a + 1)) = true := decide_eq_true ⟨(nI_leI (a := 1) (by omega) (by omega)).mpr (by omega), (nI_leI (by omega) (by omega)).mpr (by omega)⟩
  refine lv_aload_n hx hb d_B_know_0 rfl (lv_at hl 0 rfl) ?_
  refine lv_iload_n hx hb d_B_know_1 rfl (lv_at hl 2 rfl) ?_
  refine bz_si (va_runV (As := [.int (nI (a + 1))]) (rest := []) ⟨hx, hb, hml, hown, htb⟩ (c_B_isArea l dC dI ad cI cL t R L v _) (cwV 1 htb (bz_gV wd_149 wd_146 wd_148 wd_0 wd_19) rfl rfl rfl (by decide +kernel) ⟨Nat.le_of_ble_eq_true rfl, Nat.le_of_ble_eq_true rfl⟩) (bz_rv hN hK hP (q0 := 0) rfl rfl) rfl rfl hl.1 rfl (lv_room (Nat.le_of_ble_eq_true rfl)) d_B_know_2 ⟨Nat.zero_le _, Nat.zero_le _⟩) ?_
  refine lv_if_ne (tgt := 11) hx hb d_B_know_5 (by decide) (fun c_5 => ?_) (fun c_5 => ?_)
  · skip
    refine lv_iload_n hx hb d_B_know_11 rfl (lv_at hl 1 rfl) ?_
    refine bz_si (va_runS (As := [.int (nI r)]) (rest := []) ⟨hx, hb, hml, hown, htb⟩ (c_B_isRound l dC dI ad cI cL t R L v _) (va_cwS 1 htb (bz_gS wd_137 wd_135 wd_136 wd_19) rfl rfl rfl (by decide +kernel) ⟨Nat.le_of_ble_eq_true rfl, Nat.le_of_ble_eq_true rfl⟩) (bz_rs hN hK hP) rfl rfl hl.1 rfl (lv_room (Nat.le_of_ble_eq_true rfl)) d_B_know_12 ⟨Nat.zero_le _, Nat.zero_le _⟩) ?_
    refine lv_if_ne (tgt := 21) hx hb d_B_know_15 (by decide) (fun c_15 => ?_) (fun c_15 => ?_)
    · skip
      refine lv_aload_n hx hb d_B_know_21 rfl (lv_at hl 0 rfl) ?_
      refine va_get (D := (dC, dI)) (ci := 3) (v := .ref (ad 1)) (C := R_B) (T := F_B) (N := 4) hx hb htb in_B hown hK hP 0 rfl rfl 0 (by decide) (htb _ wd_117) (fun _ h9 => h9) rfl d_B_know_22 ?_
      refine lv_iload_n hx hb d_B_know_25 rfl (lv_at hl 2 rfl) ?_
      refine lv_iconst (v := 1) hx hb d_B_know_26 (by decide) ?_
      refine lv_isub hx hb d_B_know_27 ?_
      refine bz_ri (y := nI a) (nI_pred a) ?_
      refine lv_iload_n hx hb d_B_know_28 rfl (lv_at hl 1 rfl) ?_
      refine bz_si (va_runV (As := [.int (nI a), .int (nI r)]) (rest := []) ⟨hx, hb, hml, hown, htb⟩ (c_T_isKnown l dC dI ad cI cL t R L v _ _ (by omega) (by omega)) (cwV 2 htb (bz_gV wd_170 wd_167 wd_168 wd_169 wd_20) rfl rfl rfl (by decide +kernel) ⟨Nat.le_of_ble_eq_true rfl, Nat.le_of_ble_eq_true rfl⟩) (bz_rv hN hK hP (q0 := 1) rfl rfl) rfl rfl hl.1 rfl (lv_room (Nat.le_of_ble_eq_true rfl)) d_B_know_29 ⟨Nat.zero_le _, Nat.zero_le _⟩) ?_
      refine lv_if_eq (tgt := 37) hx hb d_B_know_32 (by decide) (fun c_32 => ?_) (fun c_32 => ?_)
      · skip
        refine lv_aload_n hx hb d_B_know_37 rfl (lv_at hl 0 rfl) ?_
        refine va_get (D := (dC, dI)) (ci := 3) (v := .ref (ad 1)) (C := R_B) (T := F_B) (N := 4) hx hb htb in_B hown hK hP 0 rfl rfl 0 (by decide) (htb _ wd_117) (fun _ h9 => h9) rfl d_B_know_38 ?_
        refine lv_iload_n hx hb d_B_know_41 rfl (lv_at hl 2 rfl) ?_
        refine lv_iconst (v := 1) hx hb d_B_know_42 (by decide) ?_
        refine lv_isub hx hb d_B_know_43 ?_
        refine bz_ri (y := nI a) (nI_pred a) ?_
        refine lv_iload_n hx hb d_B_know_44 rfl (lv_at hl 1 rfl) ?_
        refine bz_cv (va_runV (As := [.int (nI a), .int (nI r)]) (rest := []) ⟨hx, hb, hml, hown, htb⟩ (c_T_learn l dC dI _ ad cI cL t R L v ht _ _ (by omega) (by omega)) (cwV 2 htb (bz_gV wd_174 wd_171 wd_172 wd_173 wd_20) rfl rfl rfl (by decide +kernel) ⟨Nat.le_of_ble_eq_true rfl, Nat.le_of_ble_eq_true rfl⟩) (bz_wv hN hK hP hD (q0 := 1) rfl rfl) rfl rfl hl.1 rfl (lv_room (Nat.le_of_ble_eq_true rfl)) d_B_know_45 ⟨Nat.zero_le _, Nat.zero_le _⟩) hD hS hA (fun H locs hP hD hS => ?_)
        have hP : va_P (dC, dI) vwCl (bz_wB ad cI cL (bz_tR (bz_sK t r a)) R L v) H := hP
        have hD : va_D A (bz_wB ad cI cL (bz_tR (bz_sK t r a)) R L v) := hD
        refine lv_aload_n hx hb d_B_know_48 rfl (lv_at hl 0 rfl) ?_
        refine lv_iconst (v := 0) hx hb d_B_know_49 (by decide) ?_
        refine va_put (D := (dC, dI)) (ci := 3) (v := .int 0) (ty := .boolean) (C := R_B) (T := F_B) (N := 4) hx hb htb in_B tf_B tok_B n_B hown hK hP hD hS 0 rfl rfl 3 (by decide) (htb _ wd_120) (fun _ h9 => h9) rfl (by decide +kernel) rfl rfl (Nat.le_of_ble_eq_true rfl) d_B_know_50 (fun H locs hP hD hS => ?_)
        have hP : va_P (dC, dI) vwCl (bz_wB ad cI cL (bz_tR (bz_sK t r a)) R L 0) H := hP
        have hD : va_D A (bz_wB ad cI cL (bz_tR (bz_sK t r a)) R L 0) := hD
        refine lv_iconst (v := 1) hx hb d_B_know_53 (by decide) ?_
        exact W.iret (v := 1) hx hb hr (fun t9 ht9 hW => ⟨⟨1, (), rfl, rfl, by rw [ht9]; exact hP, va_K.moved hW.alike hK, hD⟩, hS.F ht9⟩) hS.2.2 d_B_know_54
      · skip
        exact absurd (bz_i_ne c_32) (by rw [hk]; decide)
    · skip
      exact absurd (bz_i_eq c_15) (by rw [hir]; decide)
  · skip
    exact absurd (bz_i_eq c_5) (by rw [hia]; decide)
end
section
theorem d_B_round_0 : decode b_B_round 0 = .ok (.aload_n 0, 1) := by decide +kernel
theorem d_B_round_1 : decode b_B_round 1 = .ok (.iload_n 1, 1) := by decide +kernel
theorem d_B_round_2 : decode b_B_round 2 = .ok (.invokevirtual 50, 3) := by decide +kernel
theorem d_B_round_5 : decode b_B_round 5 = .ok (.ifCond .ne 6, 3) := by decide +kernel
theorem d_B_round_8 : decode b_B_round 8 = .ok (.bipush (-11), 2) := by decide +kernel
theorem d_B_round_10 : decode b_B_round 10 = .ok (.ireturn, 1) := by decide +kernel
theorem d_B_round_11 : decode b_B_round 11 = .ok (.aload_n 0, 1) := by decide +kernel
theorem d_B_round_12 : decode b_B_round 12 = .ok (.getfield 32, 3) := by decide +kernel
theorem d_B_round_15 : decode b_B_round 15 = .ok (.ifCond .eq 17, 3) := by decide +kernel
theorem d_B_round_18 : decode b_B_round 18 = .ok (.aload_n 0, 1) := by decide +kernel
theorem d_B_round_19 : decode b_B_round 19 = .ok (.getfield 21, 3) := by decide +kernel
theorem d_B_round_22 : decode b_B_round 22 = .ok (.getfield 92, 3) := by decide +kernel
theorem d_B_round_25 : decode b_B_round 25 = .ok (.iload_n 1, 1) := by decide +kernel
theorem d_B_round_26 : decode b_B_round 26 = .ok (.iconst 1, 1) := by decide +kernel
theorem d_B_round_27 : decode b_B_round 27 = .ok (.isub, 1) := by decide +kernel
theorem d_B_round_28 : decode b_B_round 28 = .ok (.iaload, 1) := by decide +kernel
theorem d_B_round_29 : decode b_B_round 29 = .ok (.goto 5, 3) := by decide +kernel
theorem d_B_round_32 : decode b_B_round 32 = .ok (.bipush (-13), 2) := by decide +kernel
theorem d_B_round_34 : decode b_B_round 34 = .ok (.ireturn, 1) := by decide +kernel
theorem d_B_changed_0 : decode b_B_changed 0 = .ok (.aload_n 0, 1) := by decide +kernel
theorem d_B_changed_1 : decode b_B_changed 1 = .ok (.getfield 32, 3) := by decide +kernel
theorem d_B_changed_4 : decode b_B_changed 4 = .ok (.ifCond .eq 13, 3) := by decide +kernel
theorem d_B_changed_7 : decode b_B_changed 7 = .ok (.aload_n 0, 1) := by decide +kernel
theorem d_B_changed_8 : decode b_B_changed 8 = .ok (.getfield 21, 3) := by decide +kernel
theorem d_B_changed_11 : decode b_B_changed 11 = .ok (.getfield 96, 3) := by decide +kernel
theorem d_B_changed_14 : decode b_B_changed 14 = .ok (.goto 5, 3) := by decide +kernel
theorem d_B_changed_17 : decode b_B_changed 17 = .ok (.bipush (-13), 2) := by decide +kernel
theorem d_B_changed_19 : decode b_B_changed 19 = .ok (.ireturn, 1) := by decide +kernel
theorem d_B_faults_0 : decode b_B_faults 0 = .ok (.aload_n 0, 1) := by decide +kernel
theorem d_B_faults_1 : decode b_B_faults 1 = .ok (.getfield 32, 3) := by decide +kernel
theorem d_B_faults_4 : decode b_B_faults 4 = .ok (.ifCond .eq 13, 3) := by decide +kernel
theorem d_B_faults_7 : decode b_B_faults 7 = .ok (.aload_n 0, 1) := by decide +kernel
theorem d_B_faults_8 : decode b_B_faults 8 = .ok (.getfield 21, 3) := by decide +kernel
theorem d_B_faults_11 : decode b_B_faults 11 = .ok (.invokevirtual 114, 3) := by decide +kernel
theorem d_B_faults_14 : decode b_B_faults 14 = .ok (.goto 5, 3) := by decide +kernel
theorem d_B_faults_17 : decode b_B_faults 17 = .ok (.bipush (-13), 2) := by decide +kernel
theorem d_B_faults_19 : decode b_B_faults 19 = .ok (.ireturn, 1) := by decide +kernel
theorem d_B_exact_0 : decode b_B_exact 0 = .ok (.aload_n 0, 1) := by decide +kernel
theorem d_B_exact_1 : decode b_B_exact 1 = .ok (.getfield 32, 3) := by decide +kernel
theorem d_B_exact_4 : decode b_B_exact 4 = .ok (.ifCond .eq 14, 3) := by decide +kernel
theorem d_B_exact_7 : decode b_B_exact 7 = .ok (.aload_n 0, 1) := by decide +kernel
theorem d_B_exact_8 : decode b_B_exact 8 = .ok (.invokevirtual 77, 3) := by decide +kernel
theorem d_B_exact_11 : decode b_B_exact 11 = .ok (.ifCond .eq 7, 3) := by decide +kernel
theorem d_B_exact_14 : decode b_B_exact 14 = .ok (.iconst 1, 1) := by decide +kernel
theorem d_B_exact_15 : decode b_B_exact 15 = .ok (.goto 4, 3) := by decide +kernel
theorem d_B_exact_18 : decode b_B_exact 18 = .ok (.iconst 0, 1) := by decide +kernel
theorem d_B_exact_19 : decode b_B_exact 19 = .ok (.ireturn, 1) := by decide +kernel
theorem d_B_bound_0 : decode b_B_bound 0 = .ok (.aload_n 0, 1) := by decide +kernel
theorem d_B_bound_1 : decode b_B_bound 1 = .ok (.getfield 12, 3) := by decide +kernel
theorem d_B_bound_4 : decode b_B_bound 4 = .ok (.invokevirtual 118, 3) := by decide +kernel
theorem d_B_bound_7 : decode b_B_bound 7 = .ok (.istore_n 1, 1) := by decide +kernel
theorem d_B_bound_8 : decode b_B_bound 8 = .ok (.iload_n 1, 1) := by decide +kernel
theorem d_B_bound_9 : decode b_B_bound 9 = .ok (.ifCond .gt 7, 3) := by decide +kernel
theorem d_B_bound_12 : decode b_B_bound 12 = .ok (.ldc2_w 121, 3) := by decide +kernel
theorem d_B_bound_15 : decode b_B_bound 15 = .ok (.lreturn, 1) := by decide +kernel
theorem d_B_bound_16 : decode b_B_bound 16 = .ok (.lconst 0, 1) := by decide +kernel
theorem d_B_bound_17 : decode b_B_bound 17 = .ok (.lstore_n 2, 1) := by decide +kernel
theorem d_B_bound_18 : decode b_B_bound 18 = .ok (.lconst 0, 1) := by decide +kernel
theorem d_B_bound_19 : decode b_B_bound 19 = .ok (.lstore 4, 2) := by decide +kernel
theorem d_B_bound_21 : decode b_B_bound 21 = .ok (.iconst 0, 1) := by decide +kernel
theorem d_B_bound_22 : decode b_B_bound 22 = .ok (.istore 6, 2) := by decide +kernel
theorem d_B_bound_24 : decode b_B_bound 24 = .ok (.iload 6, 2) := by decide +kernel
theorem d_B_bound_26 : decode b_B_bound 26 = .ok (.aload_n 0, 1) := by decide +kernel
theorem d_B_bound_27 : decode b_B_bound 27 = .ok (.getfield 12, 3) := by decide +kernel
theorem d_B_bound_30 : decode b_B_bound 30 = .ok (.getfield 42, 3) := by decide +kernel
theorem d_B_bound_33 : decode b_B_bound 33 = .ok (.if_icmp .ge 34, 3) := by decide +kernel
theorem d_B_bound_36 : decode b_B_bound 36 = .ok (.aload_n 0, 1) := by decide +kernel
theorem d_B_bound_37 : decode b_B_bound 37 = .ok (.getfield 12, 3) := by decide +kernel
theorem d_B_bound_40 : decode b_B_bound 40 = .ok (.iload 6, 2) := by decide +kernel
theorem d_B_bound_42 : decode b_B_bound 42 = .ok (.invokevirtual 123, 3) := by decide +kernel
theorem d_B_bound_45 : decode b_B_bound 45 = .ok (.lstore 7, 2) := by decide +kernel
theorem d_B_bound_47 : decode b_B_bound 47 = .ok (.lload_n 2, 1) := by decide +kernel
theorem d_B_bound_48 : decode b_B_bound 48 = .ok (.lload 7, 2) := by decide +kernel
theorem d_B_bound_50 : decode b_B_bound 50 = .ok (.ladd, 1) := by decide +kernel
theorem d_B_bound_51 : decode b_B_bound 51 = .ok (.lstore_n 2, 1) := by decide +kernel
theorem d_B_bound_52 : decode b_B_bound 52 = .ok (.lload 4, 2) := by decide +kernel
theorem d_B_bound_54 : decode b_B_bound 54 = .ok (.lload 7, 2) := by decide +kernel
theorem d_B_bound_56 : decode b_B_bound 56 = .ok (.invokestatic 127, 3) := by decide +kernel
theorem d_B_bound_59 : decode b_B_bound 59 = .ok (.lstore 4, 2) := by decide +kernel
theorem d_B_bound_61 : decode b_B_bound 61 = .ok (.iinc 6 1, 3) := by decide +kernel
theorem d_B_bound_64 : decode b_B_bound 64 = .ok (.goto (-40), 3) := by decide +kernel
theorem d_B_bound_67 : decode b_B_bound 67 = .ok (.lload 4, 2) := by decide +kernel
theorem d_B_bound_69 : decode b_B_bound 69 = .ok (.lload_n 2, 1) := by decide +kernel
theorem d_B_bound_70 : decode b_B_bound 70 = .ok (.iload_n 1, 1) := by decide +kernel
theorem d_B_bound_71 : decode b_B_bound 71 = .ok (.i2l, 1) := by decide +kernel
theorem d_B_bound_72 : decode b_B_bound 72 = .ok (.ladd, 1) := by decide +kernel
theorem d_B_bound_73 : decode b_B_bound 73 = .ok (.lconst 1, 1) := by decide +kernel
theorem d_B_bound_74 : decode b_B_bound 74 = .ok (.lsub, 1) := by decide +kernel
theorem d_B_bound_75 : decode b_B_bound 75 = .ok (.iload_n 1, 1) := by decide +kernel
theorem d_B_bound_76 : decode b_B_bound 76 = .ok (.i2l, 1) := by decide +kernel
theorem d_B_bound_77 : decode b_B_bound 77 = .ok (.ldiv, 1) := by decide +kernel
theorem d_B_bound_78 : decode b_B_bound 78 = .ok (.invokestatic 127, 3) := by decide +kernel
theorem d_B_bound_81 : decode b_B_bound 81 = .ok (.lreturn, 1) := by decide +kernel
theorem d_B_tooLarge_0 : decode b_B_tooLarge 0 = .ok (.iload_n 1, 1) := by decide +kernel
theorem d_B_tooLarge_1 : decode b_B_tooLarge 1 = .ok (.ifCond .lt 13, 3) := by decide +kernel
theorem d_B_tooLarge_4 : decode b_B_tooLarge 4 = .ok (.aload_n 0, 1) := by decide +kernel
theorem d_B_tooLarge_5 : decode b_B_tooLarge 5 = .ok (.getfield 12, 3) := by decide +kernel
theorem d_B_tooLarge_8 : decode b_B_tooLarge 8 = .ok (.invokevirtual 118, 3) := by decide +kernel
theorem d_B_tooLarge_11 : decode b_B_tooLarge 11 = .ok (.ifCond .ne 5, 3) := by decide +kernel
theorem d_B_tooLarge_14 : decode b_B_tooLarge 14 = .ok (.iconst 0, 1) := by decide +kernel
theorem d_B_tooLarge_15 : decode b_B_tooLarge 15 = .ok (.ireturn, 1) := by decide +kernel
theorem d_B_tooLarge_16 : decode b_B_tooLarge 16 = .ok (.iconst 0, 1) := by decide +kernel
theorem d_B_tooLarge_17 : decode b_B_tooLarge 17 = .ok (.istore_n 2, 1) := by decide +kernel
theorem d_B_tooLarge_18 : decode b_B_tooLarge 18 = .ok (.iconst 0, 1) := by decide +kernel
theorem d_B_tooLarge_19 : decode b_B_tooLarge 19 = .ok (.istore_n 3, 1) := by decide +kernel
theorem d_B_tooLarge_20 : decode b_B_tooLarge 20 = .ok (.iload_n 3, 1) := by decide +kernel
theorem d_B_tooLarge_21 : decode b_B_tooLarge 21 = .ok (.aload_n 0, 1) := by decide +kernel
theorem d_B_tooLarge_22 : decode b_B_tooLarge 22 = .ok (.getfield 12, 3) := by decide +kernel
theorem d_B_tooLarge_25 : decode b_B_tooLarge 25 = .ok (.getfield 42, 3) := by decide +kernel
theorem d_B_tooLarge_28 : decode b_B_tooLarge 28 = .ok (.if_icmp .ge 32, 3) := by decide +kernel
theorem d_B_tooLarge_31 : decode b_B_tooLarge 31 = .ok (.aload_n 0, 1) := by decide +kernel
theorem d_B_tooLarge_32 : decode b_B_tooLarge 32 = .ok (.getfield 12, 3) := by decide +kernel
theorem d_B_tooLarge_35 : decode b_B_tooLarge 35 = .ok (.iload_n 3, 1) := by decide +kernel
theorem d_B_tooLarge_36 : decode b_B_tooLarge 36 = .ok (.invokevirtual 133, 3) := by decide +kernel
theorem d_B_tooLarge_39 : decode b_B_tooLarge 39 = .ok (.ifCond .eq 15, 3) := by decide +kernel
theorem d_B_tooLarge_42 : decode b_B_tooLarge 42 = .ok (.iload_n 2, 1) := by decide +kernel
theorem d_B_tooLarge_43 : decode b_B_tooLarge 43 = .ok (.iload_n 1, 1) := by decide +kernel
theorem d_B_tooLarge_44 : decode b_B_tooLarge 44 = .ok (.if_icmp .ne 7, 3) := by decide +kernel
theorem d_B_tooLarge_47 : decode b_B_tooLarge 47 = .ok (.iload_n 3, 1) := by decide +kernel
theorem d_B_tooLarge_48 : decode b_B_tooLarge 48 = .ok (.iconst 1, 1) := by decide +kernel
theorem d_B_tooLarge_49 : decode b_B_tooLarge 49 = .ok (.iadd, 1) := by decide +kernel
theorem d_B_tooLarge_50 : decode b_B_tooLarge 50 = .ok (.ireturn, 1) := by decide +kernel
theorem d_B_tooLarge_51 : decode b_B_tooLarge 51 = .ok (.iinc 2 1, 3) := by decide +kernel
theorem d_B_tooLarge_54 : decode b_B_tooLarge 54 = .ok (.iinc 3 1, 3) := by decide +kernel
theorem d_B_tooLarge_57 : decode b_B_tooLarge 57 = .ok (.goto (-37), 3) := by decide +kernel
theorem d_B_tooLarge_60 : decode b_B_tooLarge 60 = .ok (.iconst 0, 1) := by decide +kernel
theorem d_B_tooLarge_61 : decode b_B_tooLarge 61 = .ok (.ireturn, 1) := by decide +kernel

def bz_mx (f : Nat → Nat) : Nat → Nat
  | 0 => 0
  | k + 1 => max (bz_mx f k) (f k)
theorem bz_mx_le {f : Nat → Nat} {b : Nat} (h : ∀ a, f a ≤ b) : ∀ k, bz_mx f k ≤ b
  | 0 => Nat.zero_le _
  | k + 1 => by
    have h1 := bz_mx_le h k
    have h2 := h k
    unfold bz_mx
    omega
/-- what each area has where it is lightest -/
def bz_lg (t : bz_T) (a : Nat) : Nat := bz_mn t a 4
theorem bz_lg_le {t : bz_T} (h : bz_ok t) (a : Nat) : bz_lg t a ≤ 1000000 := bz_mn_le h a 4
theorem bz_ls_le {t : bz_T} (h : bz_ok t) {k : Nat} (hk : k ≤ bz_n t) : bz_sm (bz_lg t) k ≤ 30000000 := by
  have h1 := bz_sm_bd (f := bz_lg t) (b := 1000000) (n := k) (fun i _ => bz_lg_le h i)
  have h2 := h.1
  omega
def bz_bd (t : bz_T) : Nat := max (bz_mx (bz_lg t) (bz_n t)) ((bz_sm (bz_lg t) (bz_n t) + bz_ct (bz_wh t) 4 - 1) / bz_ct (bz_wh t) 4)
/-- the i-th of those that are so, from k on with c of them before: its number, counted from 1 -/
def bz_it (f : Nat → Bool) (i : Nat) : Nat → Nat → Nat → Nat
  | 0, _, _ => 0
  | m + 1, k, c => if f k then (if c = i then k + 1 else bz_it f i m (k + 1) (c + 1)) else bz_it f i m (k + 1) c
theorem bz_it_y {f : Nat → Bool} {i m k : Nat} (h : f k = true) : bz_it f i (m + 1) k i = k + 1 := by
  show (if f k then (if i = i then k + 1 else _) else _) = _
  rw [if_pos h, if_pos rfl]
theorem bz_it_n {f : Nat → Bool} {i m k c : Nat} (h : f k = true) (hc : ¬ c = i) : bz_it f i (m + 1) k c = bz_it f i m (k + 1) (c + 1) := by
  show (if f k then (if c = i then k + 1 else _) else _) = _
  rw [if_pos h, if_neg hc]
theorem bz_it_f {f : Nat → Bool} {i m k c : Nat} (h : f k = false) : bz_it f i (m + 1) k c = bz_it f i m (k + 1) c := by
  show (if f k then (if c = i then k + 1 else _) else _) = _
  rw [if_neg (by simp [h])]

set_option maxHeartbeats 4000000 in
set_option maxRecDepth 100000 in
/-- solve, refused -/
theorem c_B_solve_o (l : Launch) (dC : Nat → ClassId) (dI : Nat → Nat → Nat) (ad : Nat → Nat) (cI cL : ClassId) (t : bz_T) (R : bz_RS) (L : (Nat → Int32) × Int64) (v : Int32) (ht : bz_ok t) (z : Int64) (hz : ¬ (0 ≤ z ∧ z ≤ 100000)) : Met l y_B_solve w_B_solve ({ frames := 14, cells := 0, slots := 0, locals := 334 }) (bz_Pr (dC, dI) [(cI, .int), (cL, .long)] (bz_wB ad cI cL (bz_tR t) R L v) [.ref (ad 0), .long z]) (vp_Sl (fun r9 => r9 = (-12))) 0 0 (fun _ => False) := by
  refine Met.ofW (cc := b_B_solve) (maxL := 3) (ret := (some .long)) (by decide) rfl ?_
  intro p e s m args below meth c s₁ B hml hv
  obtain ⟨rfl, hP, hK, hN⟩ := hv
  have hx := B.exec
  have hb := B.bytes
  have hr := B.returns
  have hts := atoms_spec (ws := w_B_solve) B.pre
  have hown : s.vm.findClass R_B = some m.cls := findClass_of_methodNamed B.named
  have htb : ∀ w ∈ bz_tb, w.before _ s = true := fun w h => hts w (List.mem_cons_of_mem _ h)
  have hlocks := B.notSynchronized
  have hl := lv_entry ([.ref (ad 0), .long z]) (n := 3) (Nat.le_of_ble_eq_true rfl)
  rw [lg_entry_eq]
  generalize (lg_sl ([.ref (ad 0), .long z]) ++ List.replicate (3 - (lg_sl ([.ref (ad 0), .long z])).length) Slot.unset).toArray = ls at hl ⊢
  have hl : lv_has ls 3 [(0, .ref (ad 0)), (1, .long z)] := hl
  refine lv_lload_n hx hb d_B_solve_0 rfl (lv_at hl 1 rfl) ?_
  refine lv_lconst (v := 0) hx hb d_B_solve_1 (by decide) ?_
  refine W.lcmp hx hb d_B_solve_2 ?_
  refine lv_if_lt (tgt := 14) hx hb d_B_solve_3 (by decide) (fun c_3 => ?_) (fun c_3 => ?_)
  · skip
    refine lv_ldc2 (v := (-12)) hx hb hown (htb _ wd_180) d_B_solve_14 ?_
    exact W.lret (v := (-12)) hx hb hr (fun t9 ht9 hW => ⟨(-12), rfl, rfl, ht9⟩) (fun _ h => nomatch h) d_B_solve_17
  · skip
    refine lv_lload_n hx hb d_B_solve_6 rfl (lv_at hl 1 rfl) ?_
    refine lv_ldc2 (v := 100000) hx hb hown (htb _ wd_179) d_B_solve_7 ?_
    refine W.lcmp hx hb d_B_solve_10 ?_
    refine lv_if_le (tgt := 18) hx hb d_B_solve_11 (by decide) (fun c_11 => ?_) (fun c_11 => ?_)
    · skip
      exact absurd ⟨Int64.not_lt.mp (fun y => c_3 ((lg_cmp_lt z 0).mpr y)), (lg_cmp_le z 100000).mp c_11⟩ hz
    · skip
      refine lv_ldc2 (v := (-12)) hx hb hown (htb _ wd_180) d_B_solve_14 ?_
      exact W.lret (v := (-12)) hx hb hr (fun t9 ht9 hW => ⟨(-12), rfl, rfl, ht9⟩) (fun _ h => nomatch h) d_B_solve_17

set_option maxHeartbeats 4000000 in
set_option maxRecDepth 100000 in
/-- solve -/
theorem c_B_solve (l : Launch) (dC : Nat → ClassId) (dI : Nat → Nat → Nat) (sz : Nat) (ad : Nat → Nat) (cI cL : ClassId) (t : bz_T) (x : Nat → Nat) (A1 : Nat → Int32) (A2 : Nat → Int64) (o1 c1 : Int32) (rw : Nat → Nat) (co : Int64) (v : Int32) (ht : bz_ok t) (K : Nat) (hK0 : K ≤ 100000) : Met l y_B_solve w_B_solve ({ frames := 14, cells := 0, slots := 0, locals := 334 }) (bz_Pw (dC, dI) [(cI, .int), (cL, .long)] (bz_wB ad cI cL (bz_tR t) (fun a => nI (x a), A1, A2, o1, c1) (fun j => nI (rw j), co) v) sz [.ref (ad 0), .long (lN K)]) (bz_Qxl (dC, dI) [(cI, .int), (cL, .long)] (va_A (bz_wB ad cI cL (bz_tR t) (fun a => nI (x a), A1, A2, o1, c1) (fun j => nI (rw j), co) v) sz) (fun r9 (u : (Nat → Nat) × (Nat → Nat) × Int64) => r9 = lN (bz_gl t (bz_fu u.1)) ∧ bz_so t K u.1) (fun u : (Nat → Nat) × (Nat → Nat) × Int64 => bz_wB ad cI cL (bz_tR t) (bz_sR t (bz_fu u.1)) (fun j => nI (u.2.1 j), u.2.2) 1)) 0 0 (va_A (bz_wB ad cI cL (bz_tR t) (fun a => nI (x a), A1, A2, o1, c1) (fun j => nI (rw j), co) v) sz) := by
  refine Met.ofW (cc := b_B_solve) (maxL := 3) (ret := (some .long)) (by decide) rfl ?_
  intro p e s m args below meth c s₁ B hml hv
  obtain ⟨rfl, hsz, hP, hK, hD0, hN⟩ := hv
  have hx := B.exec
  have hb := B.bytes
  have hr := B.returns
  have hts := atoms_spec (ws := w_B_solve) B.pre
  have hown : s.vm.findClass R_B = some m.cls := findClass_of_methodNamed B.named
  have htb : ∀ w ∈ bz_tb, w.before _ s = true := fun w h => hts w (List.mem_cons_of_mem _ h)
  have hlocks := B.notSynchronized
  subst hsz
  have hD := hD0.self (sz := s.heap.size)
  generalize hAe : va_A (bz_wB ad cI cL (bz_tR t) (fun a => nI (x a), A1, A2, o1, c1) (fun j => nI (rw j), co) v) s.heap.size = A at hD ⊢
  have hA : ∀ q : Nat, s.heap.size ≤ q → A q := fun q h => by rw [← hAe]; exact Or.inr h
  have hS : va_S A s.heap s.heap [] := va_S.rf
  have hl := lv_entry ([.ref (ad 0), .long (lN K)]) (n := 3) (Nat.le_of_ble_eq_true rfl)
  rw [lg_entry_eq]
  generalize (lg_sl ([.ref (ad 0), .long (lN K)]) ++ List.replicate (3 - (lg_sl ([.ref (ad 0), .long (lN K)])).length) Slot.unset).toArray = ls at hl ⊢
  have hl : lv_has ls 3 [(0, .ref (ad 0)), (1, .long (lN K))] := hl
  have hn30 := ht.1
  refine lv_lload_n hx hb d_B_solve_0 rfl (lv_at hl 1 rfl) ?_
  refine lv_lconst (v := 0) hx hb d_B_solve_1 (by decide) ?_
  refine W.lcmp hx hb d_B_solve_2 ?_
  refine lv_if_lt (tgt := 14) hx hb d_B_solve_3 (by decide) (fun c_3 => ?_) (fun c_3 => ?_)
  · skip
    exact absurd ((bz_lc_lt (b := 0) (by omega) (by omega)).mp c_3) (by omega)
  · skip
    refine lv_lload_n hx hb d_B_solve_6 rfl (lv_at hl 1 rfl) ?_
    refine lv_ldc2 (v := 100000) hx hb hown (htb _ wd_179) d_B_solve_7 ?_
    refine W.lcmp hx hb d_B_solve_10 ?_
    refine lv_if_le (tgt := 18) hx hb d_B_solve_11 (by decide) (fun c_11 => ?_) (fun c_11 => ?_)
    · skip
      refine lv_aload_n hx hb d_B_solve_18 rfl (lv_at hl 0 rfl) ?_
      refine bz_si (va_runV (As := []) (rest := []) ⟨hx, hb, hml, hown, htb⟩ (c_B_isForExact l dC dI ad cI cL t (fun a => nI (x a), A1, A2, o1, c1) (fun j => nI (rw j), co) v ht) (cwV 0 htb (bz_gV wd_184 wd_181 wd_183 wd_1 wd_19) rfl rfl rfl (by decide +kernel) ⟨Nat.le_of_ble_eq_true rfl, Nat.le_of_ble_eq_true rfl⟩) (bz_rv hN hK hP (q0 := 0) rfl rfl) rfl rfl hl.1 rfl (lv_room (Nat.le_of_ble_eq_true rfl)) d_B_solve_19 ⟨Nat.zero_le _, Nat.zero_le _⟩) ?_
      refine lv_if_eq (tgt := 32) hx hb d_B_solve_22 (by decide) (fun c_22 => ?_) (fun c_22 => ?_)
      · skip
        have hn8 : ¬ bz_n t ≤ 8 := of_decide_eq_false (bz_i_eq c_22)
        refine lv_aload_n hx hb d_B_solve_32 rfl (lv_at hl 0 rfl) ?_
        refine lv_lload_n hx hb d_B_solve_33 rfl (lv_at hl 1 rfl) ?_
        refine bz_cx (va_runV (As := [.long (lN K)]) (rest := []) ⟨hx, hb, hml, hown, htb⟩ (c_B_improveByMoves l dC dI _ ad cI cL t x A1 A2 o1 c1 rw co v ht K hK0) (cwV 1 htb (bz_gV wd_258 wd_255 wd_257 wd_3 wd_19) rfl rfl rfl (by decide +kernel) ⟨Nat.le_of_ble_eq_true rfl, Nat.le_of_ble_eq_true rfl⟩) (bz_wv hN hK hP hD (q0 := 0) rfl rfl) rfl rfl hl.1 rfl (lv_room (Nat.le_of_ble_eq_true rfl)) d_B_solve_34 ⟨Nat.zero_le _, Nat.zero_le _⟩) hD hS hA (fun u hu H locs hP hD hS => ?_)
        have hso : bz_so t K u.1 := ⟨hu.1, fun z => absurd z hn8, fun _ => hu.2⟩
        clear hu
        have hP : va_P (dC, dI) vwCl (bz_wB ad cI cL (bz_tR t) (bz_sR t (bz_fu u.1)) (fun j => nI (u.2.1 j), u.2.2) v) H := hP
        have hD : va_D A (bz_wB ad cI cL (bz_tR t) (bz_sR t (bz_fu u.1)) (fun j => nI (u.2.1 j), u.2.2) v) := hD
        refine lv_aload_n hx hb d_B_solve_37 rfl (lv_at hl 0 rfl) ?_
        refine lv_iconst (v := 1) hx hb d_B_solve_38 (by decide) ?_
        refine va_put (D := (dC, dI)) (ci := 3) (v := .int 1) (ty := .boolean) (C := R_B) (T := F_B) (N := 4) hx hb htb in_B tf_B tok_B n_B hown hK hP hD hS 0 rfl rfl 3 (by decide) (htb _ wd_120) (fun _ h9 => h9) rfl (by decide +kernel) rfl rfl (Nat.le_of_ble_eq_true rfl) d_B_solve_39 (fun H locs hP hD hS => ?_)
        have hP : va_P (dC, dI) vwCl (bz_wB ad cI cL (bz_tR t) (bz_sR t (bz_fu u.1)) (fun j => nI (u.2.1 j), u.2.2) 1) H := hP
        have hD : va_D A (bz_wB ad cI cL (bz_tR t) (bz_sR t (bz_fu u.1)) (fun j => nI (u.2.1 j), u.2.2) 1) := hD
        refine lv_aload_n hx hb d_B_solve_42 rfl (lv_at hl 0 rfl) ?_
        refine va_get (D := (dC, dI)) (ci := 3) (v := .ref (ad 7)) (C := R_B) (T := F_B) (N := 4) hx hb htb in_B hown hK hP 0 rfl rfl 1 (by decide) (htb _ wd_118) (fun _ h9 => h9) rfl d_B_solve_43 ?_
        refine bz_sl (va_runV (As := []) (rest := []) ⟨hx, hb, hml, hown, htb⟩ (c_S_greatestLoad l dC dI ad cI cL t (bz_fu u.1) (fun j => nI (u.2.1 j), u.2.2) 1 ht) (cwV 0 htb (bz_gV wd_235 wd_267 wd_233 wd_234 wd_21) rfl rfl rfl (by decide +kernel) ⟨Nat.le_of_ble_eq_true rfl, Nat.le_of_ble_eq_true rfl⟩) (bz_rv hN hK hP (q0 := 7) rfl rfl) rfl rfl hl.1 rfl (lv_room (Nat.le_of_ble_eq_true rfl)) d_B_solve_46 ⟨Nat.zero_le _, Nat.zero_le _⟩) ?_
        exact W.lret (v := lN (bz_gl t (bz_fu u.1))) hx hb hr (fun t9 ht9 hW => ⟨⟨_, u, rfl, ⟨rfl, hso⟩, by rw [ht9]; exact hP, va_K.moved hW.alike hK, hD⟩, hS.F ht9⟩) hS.2.2 d_B_solve_49
      · skip
        have hn8 : bz_n t ≤ 8 := of_decide_eq_true (bz_i_ne c_22)
        refine lv_aload_n hx hb d_B_solve_25 rfl (lv_at hl 0 rfl) ?_
        refine bz_cx (va_runV (As := []) (rest := []) ⟨hx, hb, hml, hown, htb⟩ (c_B_findLeastShare l dC dI _ ad cI cL t x A1 A2 o1 c1 rw co v ht hn8) (cwV 0 htb (bz_gV wd_188 wd_185 wd_187 wd_2 wd_19) rfl rfl rfl (by decide +kernel) ⟨Nat.le_of_ble_eq_true rfl, Nat.le_of_ble_eq_true rfl⟩) (bz_wv hN hK hP hD (q0 := 0) rfl rfl) rfl rfl hl.1 rfl (lv_room (Nat.le_of_ble_eq_true rfl)) d_B_solve_26 ⟨Nat.zero_le _, Nat.zero_le _⟩) hD hS hA (fun u hu H locs hP hD hS => ?_)
        have hso : bz_so t K u.1 := ⟨hu.1, fun _ => hu, fun z => absurd hn8 z⟩
        clear hu
        have hP : va_P (dC, dI) vwCl (bz_wB ad cI cL (bz_tR t) (bz_sR t (bz_fu u.1)) (fun j => nI (u.2.1 j), u.2.2) v) H := hP
        have hD : va_D A (bz_wB ad cI cL (bz_tR t) (bz_sR t (bz_fu u.1)) (fun j => nI (u.2.1 j), u.2.2) v) := hD
        refine lv_goto (tgt := 37) hx hb d_B_solve_29 (by decide) ?_
        refine lv_aload_n hx hb d_B_solve_37 rfl (lv_at hl 0 rfl) ?_
        refine lv_iconst (v := 1) hx hb d_B_solve_38 (by decide) ?_
        refine va_put (D := (dC, dI)) (ci := 3) (v := .int 1) (ty := .boolean) (C := R_B) (T := F_B) (N := 4) hx hb htb in_B tf_B tok_B n_B hown hK hP hD hS 0 rfl rfl 3 (by decide) (htb _ wd_120) (fun _ h9 => h9) rfl (by decide +kernel) rfl rfl (Nat.le_of_ble_eq_true rfl) d_B_solve_39 (fun H locs hP hD hS => ?_)
        have hP : va_P (dC, dI) vwCl (bz_wB ad cI cL (bz_tR t) (bz_sR t (bz_fu u.1)) (fun j => nI (u.2.1 j), u.2.2) 1) H := hP
        have hD : va_D A (bz_wB ad cI cL (bz_tR t) (bz_sR t (bz_fu u.1)) (fun j => nI (u.2.1 j), u.2.2) 1) := hD
        refine lv_aload_n hx hb d_B_solve_42 rfl (lv_at hl 0 rfl) ?_
        refine va_get (D := (dC, dI)) (ci := 3) (v := .ref (ad 7)) (C := R_B) (T := F_B) (N := 4) hx hb htb in_B hown hK hP 0 rfl rfl 1 (by decide) (htb _ wd_118) (fun _ h9 => h9) rfl d_B_solve_43 ?_
        refine bz_sl (va_runV (As := []) (rest := []) ⟨hx, hb, hml, hown, htb⟩ (c_S_greatestLoad l dC dI ad cI cL t (bz_fu u.1) (fun j => nI (u.2.1 j), u.2.2) 1 ht) (cwV 0 htb (bz_gV wd_235 wd_267 wd_233 wd_234 wd_21) rfl rfl rfl (by decide +kernel) ⟨Nat.le_of_ble_eq_true rfl, Nat.le_of_ble_eq_true rfl⟩) (bz_rv hN hK hP (q0 := 7) rfl rfl) rfl rfl hl.1 rfl (lv_room (Nat.le_of_ble_eq_true rfl)) d_B_solve_46 ⟨Nat.zero_le _, Nat.zero_le _⟩) ?_
        exact W.lret (v := lN (bz_gl t (bz_fu u.1))) hx hb hr (fun t9 ht9 hW => ⟨⟨_, u, rfl, ⟨rfl, hso⟩, by rw [ht9]; exact hP, va_K.moved hW.alike hK, hD⟩, hS.F ht9⟩) hS.2.2 d_B_solve_49
    · skip
      exact absurd ((bz_lc_le (b := 100000) (by omega) (by omega)).mpr hK0) c_11

set_option maxHeartbeats 4000000 in
set_option maxRecDepth 100000 in
/-- round, no such area -/
theorem c_B_round_u (l : Launch) (dC : Nat → ClassId) (dI : Nat → Nat → Nat) (ad : Nat → Nat) (cI cL : ClassId) (t : bz_T) (R : bz_RS) (L : (Nat → Int32) × Int64) (v : Int32) (ht : bz_ok t) (x : Int32) (hz : bz_ia (bz_n t) x = false) : Met l y_B_round w_B_round ({ frames := 1, cells := 0, slots := 0, locals := 21 }) (bz_Pr (dC, dI) [(cI, .int), (cL, .long)] (bz_wB ad cI cL (bz_tR t) R L v) [.ref (ad 0), .int x]) (vp_Si (fun r9 => r9 = (-11))) 0 0 (fun _ => False) := by
  refine Met.ofW (cc := b_B_round) (maxL := 2) (ret := (some .int)) (by decide) rfl ?_
  intro p e s m args below meth c s₁ B hml hv
  obtain ⟨rfl, hP, hK, hN⟩ := hv
  have hx := B.exec
  have hb := B.bytes
  have hr := B.returns
  have hts := atoms_spec (ws := w_B_round) B.pre
  have hown : s.vm.findClass R_B = some m.cls := findClass_of_methodNamed B.named
  have htb : ∀ w ∈ bz_tb, w.before _ s = true := fun w h => hts w (List.mem_cons_of_mem _ h)
  have hlocks := B.notSynchronized
  have hl := lv_entry ([.ref (ad 0), .int x]) (n := 2) (Nat.le_of_ble_eq_true rfl)
  rw [lg_entry_eq]
  generalize (lg_sl ([.ref (ad 0), .int x]) ++ List.replicate (2 - (lg_sl ([.ref (ad 0), .int x])).length) Slot.unset).toArray = ls at hl ⊢
  have hl : lv_has ls 2 [(0, .ref (ad 0)), (1, .int x)] := hl
  refine lv_aload_n hx hb d_B_round_0 rfl (lv_at hl 0 rfl) ?_
  refine lv_iload_n hx hb d_B_round_1 rfl (lv_at hl 1 rfl) ?_
  refine bz_si (va_runV (As := [.int x]) (rest := []) ⟨hx, hb, hml, hown, htb⟩ (c_B_isArea l dC dI ad cI cL t R L v _) (cwV 1 htb (bz_gV wd_149 wd_146 wd_148 wd_0 wd_19) rfl rfl rfl (by decide +kernel) ⟨Nat.le_of_ble_eq_true rfl, Nat.le_of_ble_eq_true rfl⟩) (bz_rv hN hK hP (q0 := 0) rfl rfl) rfl rfl hl.1 rfl (lv_room (Nat.le_of_ble_eq_true rfl)) d_B_round_2 ⟨Nat.zero_le _, Nat.zero_le _⟩) ?_
  refine lv_if_ne (tgt := 11) hx hb d_B_round_5 (by decide) (fun c_5 => ?_) (fun c_5 => ?_)
  · skip
    exact absurd (bz_i_ne c_5) (by rw [hz]; decide)
  · skip
    refine lv_bipush (v := (-11)) hx hb d_B_round_8 (by decide) ?_
    exact W.iret (v := (-11)) hx hb hr (fun t9 ht9 hW => ⟨(-11), rfl, rfl, ht9⟩) (fun _ h => nomatch h) d_B_round_10

set_option maxHeartbeats 4000000 in
set_option maxRecDepth 100000 in
/-- round, not solved -/
theorem c_B_round_s (l : Launch) (dC : Nat → ClassId) (dI : Nat → Nat → Nat) (ad : Nat → Nat) (cI cL : ClassId) (t : bz_T) (R : bz_RS) (L : (Nat → Int32) × Int64) (ht : bz_ok t) (x : Int32) (hz : bz_ia (bz_n t) x = true) : Met l y_B_round w_B_round ({ frames := 1, cells := 0, slots := 0, locals := 21 }) (bz_Pr (dC, dI) [(cI, .int), (cL, .long)] (bz_wB ad cI cL (bz_tR t) R L 0) [.ref (ad 0), .int x]) (vp_Si (fun r9 => r9 = (-13))) 0 0 (fun _ => False) := by
  refine Met.ofW (cc := b_B_round) (maxL := 2) (ret := (some .int)) (by decide) rfl ?_
  intro p e s m args below meth c s₁ B hml hv
  obtain ⟨rfl, hP, hK, hN⟩ := hv
  have hx := B.exec
  have hb := B.bytes
  have hr := B.returns
  have hts := atoms_spec (ws := w_B_round) B.pre
  have hown : s.vm.findClass R_B = some m.cls := findClass_of_methodNamed B.named
  have htb : ∀ w ∈ bz_tb, w.before _ s = true := fun w h => hts w (List.mem_cons_of_mem _ h)
  have hlocks := B.notSynchronized
  have hl := lv_entry ([.ref (ad 0), .int x]) (n := 2) (Nat.le_of_ble_eq_true rfl)
  rw [lg_entry_eq]
  generalize (lg_sl ([.ref (ad 0), .int x]) ++ List.replicate (2 - (lg_sl ([.ref (ad 0), .int x])).length) Slot.unset).toArray = ls at hl ⊢
  have hl : lv_has ls 2 [(0, .ref (ad 0)), (1, .int x)] := hl
  refine lv_aload_n hx hb d_B_round_0 rfl (lv_at hl 0 rfl) ?_
  refine lv_iload_n hx hb d_B_round_1 rfl (lv_at hl 1 rfl) ?_
  refine bz_si (va_runV (As := [.int x]) (rest := []) ⟨hx, hb, hml, hown, htb⟩ (c_B_isArea l dC dI ad cI cL t R L 0 _) (cwV 1 htb (bz_gV wd_149 wd_146 wd_148 wd_0 wd_19) rfl rfl rfl (by decide +kernel) ⟨Nat.le_of_ble_eq_true rfl, Nat.le_of_ble_eq_true rfl⟩) (bz_rv hN hK hP (q0 := 0) rfl rfl) rfl rfl hl.1 rfl (lv_room (Nat.le_of_ble_eq_true rfl)) d_B_round_2 ⟨Nat.zero_le _, Nat.zero_le _⟩) ?_
  refine lv_if_ne (tgt := 11) hx hb d_B_round_5 (by decide) (fun c_5 => ?_) (fun c_5 => ?_)
  · skip
    refine lv_aload_n hx hb d_B_round_11 rfl (lv_at hl 0 rfl) ?_
    refine va_get (D := (dC, dI)) (ci := 3) (v := .int 0) (C := R_B) (T := F_B) (N := 4) hx hb htb in_B hown hK hP 0 rfl rfl 3 (by decide) (htb _ wd_120) (fun _ h9 => h9) rfl d_B_round_12 ?_
    refine lv_if_eq (tgt := 32) hx hb d_B_round_15 (by decide) (fun c_15 => ?_) (fun c_15 => ?_)
    · skip
      refine lv_bipush (v := (-13)) hx hb d_B_round_32 (by decide) ?_
      exact W.iret (v := (-13)) hx hb hr (fun t9 ht9 hW => ⟨(-13), rfl, rfl, ht9⟩) (fun _ h => nomatch h) d_B_round_34
    · skip
      exact absurd rfl c_15
  · skip
    exact absurd (bz_i_eq c_5) (by rw [hz]; decide)

set_option maxHeartbeats 4000000 in
set_option maxRecDepth 100000 in
/-- round -/
theorem c_B_round (l : Launch) (dC : Nat → ClassId) (dI : Nat → Nat → Nat) (ad : Nat → Nat) (cI cL : ClassId) (t : bz_T) (f : Nat → Nat) (L : (Nat → Int32) × Int64) (ht : bz_ok t) (a : Nat) (ha : a < bz_n t) : Met l y_B_round w_B_round ({ frames := 1, cells := 0, slots := 0, locals := 21 }) (bz_Pr (dC, dI) [(cI, .int), (cL, .long)] (bz_wB ad cI cL (bz_tR t) (bz_sR t (bz_fu f)) L 1) [.ref (ad 0), .int (nI (a + 1))]) (vp_Si (fun r9 => r9 = nI (f a))) 0 0 (fun _ => False) := by
  refine Met.ofW (cc := b_B_round) (maxL := 2) (ret := (some .int)) (by decide) rfl ?_
  intro p e s m args below meth c s₁ B hml hv
  obtain ⟨rfl, hP, hK, hN⟩ := hv
  have hx := B.exec
  have hb := B.bytes
  have hr := B.returns
  have hts := atoms_spec (ws := w_B_round) B.pre
  have hown : s.vm.findClass R_B = some m.cls := findClass_of_methodNamed B.named
  have htb : ∀ w ∈ bz_tb, w.before _ s = true := fun w h => hts w (List.mem_cons_of_mem _ h)
  have hlocks := B.notSynchronized
  have hl := lv_entry ([.ref (ad 0), .int (nI (a + 1))]) (n := 2) (Nat.le_of_ble_eq_true rfl)
  rw [lg_entry_eq]
  generalize (lg_sl ([.ref (ad 0), .int (nI (a + 1))]) ++ List.replicate (2 - (lg_sl ([.ref (ad 0), .int (nI (a + 1))])).length) Slot.unset).toArray = ls at hl ⊢
  have hl : lv_has ls 2 [(0, .ref (ad 0)), (1, .int (nI (a + 1)))] := hl
  have hn30 := ht.1
  have hia : bz_ia (bz_n t) (nI (a + 1)) = true := decide_eq_true ⟨(nI_leI (a := 1) (by omega) (by omega)).mpr (by omega), (nI_leI (by omega) (by omega)).mpr (by omega)⟩
  refine lv_aload_n hx hb d_B_round_0 rfl (lv_at hl 0 rfl) ?_
  refine lv_iload_n hx hb d_B_round_1 rfl (lv_at hl 1 rfl) ?_
  refine bz_si (va_runV (As := [.int (nI (a + 1))]) (rest := []) ⟨hx, hb, hml, hown, htb⟩ (c_B_isArea l dC dI ad cI cL t (bz_sR t (bz_fu f)) L 1 _) (cwV 1 htb (bz_gV wd_149 wd_146 wd_148 wd_0 wd_19) rfl rfl rfl (by decide +kernel) ⟨Nat.le_of_ble_eq_true rfl, Nat.le_of_ble_eq_true rfl⟩) (bz_rv hN hK hP (q0 := 0) rfl rfl) rfl rfl hl.1 rfl (lv_room (Nat.le_of_ble_eq_true rfl)) d_B_round_2 ⟨Nat.zero_le _, Nat.zero_le _⟩) ?_
  refine lv_if_ne (tgt := 11) hx hb d_B_round_5 (by decide) (fun c_5 => ?_) (fun c_5 => ?_)
  · skip
    refine lv_aload_n hx hb d_B_round_11 rfl (lv_at hl 0 rfl) ?_
    refine va_get (D := (dC, dI)) (ci := 3) (v := .int 1) (C := R_B) (T := F_B) (N := 4) hx hb htb in_B hown hK hP 0 rfl rfl 3 (by decide) (htb _ wd_120) (fun _ h9 => h9) rfl d_B_round_12 ?_
    refine lv_if_eq (tgt := 32) hx hb d_B_round_15 (by decide) (fun c_15 => ?_) (fun c_15 => ?_)
    · skip
      exact absurd c_15 (by decide)
    · skip
      refine lv_aload_n hx hb d_B_round_18 rfl (lv_at hl 0 rfl) ?_
      refine va_get (D := (dC, dI)) (ci := 3) (v := .ref (ad 7)) (C := R_B) (T := F_B) (N := 4) hx hb htb in_B hown hK hP 0 rfl rfl 1 (by decide) (htb _ wd_118) (fun _ h9 => h9) rfl d_B_round_19 ?_
      refine va_getN (D := (dC, dI)) (ci := 1) (v := .ref (ad 8)) (C := R_S) (T := F_S) (N := 6) hx hb htb in_S hown hK hP 7 rfl rfl 1 (by decide) (va_Nw.use rfl (hN _ nd_83)) (fun _ h9 => h9) rfl d_B_round_22 ?_
      refine lv_iload_n hx hb d_B_round_25 rfl (lv_at hl 1 rfl) ?_
      refine lv_iconst (v := 1) hx hb d_B_round_26 (by decide) ?_
      refine lv_isub hx hb d_B_round_27 ?_
      refine bz_ri (y := nI a) (nI_pred a) ?_
      refine bz_iald (v := nI (f a)) hx hb hK hP 8 0 rfl rfl (a9 := a) (by omega) (by decide) (rfl) d_B_round_28 ?_
      refine lv_goto (tgt := 34) hx hb d_B_round_29 (by decide) ?_
      exact W.iret (v := nI (f a)) hx hb hr (fun t9 ht9 hW => ⟨nI (f a), rfl, rfl, ht9⟩) (fun _ h => nomatch h) d_B_round_34
  · skip
    exact absurd (bz_i_eq c_5) (by rw [hia]; decide)

set_option maxHeartbeats 4000000 in
set_option maxRecDepth 100000 in
/-- B_changed, not solved -/
theorem c_B_changed_s (l : Launch) (dC : Nat → ClassId) (dI : Nat → Nat → Nat) (ad : Nat → Nat) (cI cL : ClassId) (t : bz_T) (R : bz_RS) (L : (Nat → Int32) × Int64) (ht : bz_ok t) : Met l y_B_changed w_B_changed ({ frames := 0, cells := 0, slots := 0, locals := 0 }) (bz_Pr (dC, dI) [(cI, .int), (cL, .long)] (bz_wB ad cI cL (bz_tR t) R L 0) [.ref (ad 0)]) (vp_Si (fun r9 => r9 = (-13))) 0 0 (fun _ => False) := by
  refine Met.ofW (cc := b_B_changed) (maxL := 1) (ret := (some .int)) (by decide) rfl ?_
  intro p e s m args below meth c s₁ B hml hv
  obtain ⟨rfl, hP, hK, hN⟩ := hv
  have hx := B.exec
  have hb := B.bytes
  have hr := B.returns
  have hts := atoms_spec (ws := w_B_changed) B.pre
  have hown : s.vm.findClass R_B = some m.cls := findClass_of_methodNamed B.named
  have htb : ∀ w ∈ bz_tb, w.before _ s = true := fun w h => hts w (List.mem_cons_of_mem _ h)
  have hlocks := B.notSynchronized
  have hl := lv_entry ([.ref (ad 0)]) (n := 1) (Nat.le_of_ble_eq_true rfl)
  rw [lg_entry_eq]
  generalize (lg_sl ([.ref (ad 0)]) ++ List.replicate (1 - (lg_sl ([.ref (ad 0)])).length) Slot.unset).toArray = ls at hl ⊢
  have hl : lv_has ls 1 [(0, .ref (ad 0))] := hl
  refine lv_aload_n hx hb d_B_changed_0 rfl (lv_at hl 0 rfl) ?_
  refine va_get (D := (dC, dI)) (ci := 3) (v := .int 0) (C := R_B) (T := F_B) (N := 4) hx hb htb in_B hown hK hP 0 rfl rfl 3 (by decide) (htb _ wd_120) (fun _ h9 => h9) rfl d_B_changed_1 ?_
  refine lv_if_eq (tgt := 17) hx hb d_B_changed_4 (by decide) (fun c_4 => ?_) (fun c_4 => ?_)
  · skip
    refine lv_bipush (v := (-13)) hx hb d_B_changed_17 (by decide) ?_
    exact W.iret (v := (-13)) hx hb hr (fun t9 ht9 hW => ⟨(-13), rfl, rfl, ht9⟩) (fun _ h => nomatch h) d_B_changed_19
  · skip
    exact absurd rfl c_4

set_option maxHeartbeats 4000000 in
set_option maxRecDepth 100000 in
/-- B_changed -/
theorem c_B_changed (l : Launch) (dC : Nat → ClassId) (dI : Nat → Nat → Nat) (ad : Nat → Nat) (cI cL : ClassId) (t : bz_T) (f : Nat → Nat) (L : (Nat → Int32) × Int64) (ht : bz_ok t) : Met l y_B_changed w_B_changed ({ frames := 0, cells := 0, slots := 0, locals := 0 }) (bz_Pr (dC, dI) [(cI, .int), (cL, .long)] (bz_wB ad cI cL (bz_tR t) (bz_sR t (bz_fu f)) L 1) [.ref (ad 0)]) (vp_Si (fun r9 => r9 = nI (bz_ch t (bz_fu f)))) 0 0 (fun _ => False) := by
  refine Met.ofW (cc := b_B_changed) (maxL := 1) (ret := (some .int)) (by decide) rfl ?_
  intro p e s m args below meth c s₁ B hml hv
  obtain ⟨rfl, hP, hK, hN⟩ := hv
  have hx := B.exec
  have hb := B.bytes
  have hr := B.returns
  have hts := atoms_spec (ws := w_B_changed) B.pre
  have hown : s.vm.findClass R_B = some m.cls := findClass_of_methodNamed B.named
  have htb : ∀ w ∈ bz_tb, w.before _ s = true := fun w h => hts w (List.mem_cons_of_mem _ h)
  have hlocks := B.notSynchronized
  have hl := lv_entry ([.ref (ad 0)]) (n := 1) (Nat.le_of_ble_eq_true rfl)
  rw [lg_entry_eq]
  generalize (lg_sl ([.ref (ad 0)]) ++ List.replicate (1 - (lg_sl ([.ref (ad 0)])).length) Slot.unset).toArray = ls at hl ⊢
  have hl : lv_has ls 1 [(0, .ref (ad 0))] := hl
  refine lv_aload_n hx hb d_B_changed_0 rfl (lv_at hl 0 rfl) ?_
  refine va_get (D := (dC, dI)) (ci := 3) (v := .int 1) (C := R_B) (T := F_B) (N := 4) hx hb htb in_B hown hK hP 0 rfl rfl 3 (by decide) (htb _ wd_120) (fun _ h9 => h9) rfl d_B_changed_1 ?_
  refine lv_if_eq (tgt := 17) hx hb d_B_changed_4 (by decide) (fun c_4 => ?_) (fun c_4 => ?_)
  · skip
    exact absurd c_4 (by decide)
  · skip
    refine lv_aload_n hx hb d_B_changed_7 rfl (lv_at hl 0 rfl) ?_
    refine va_get (D := (dC, dI)) (ci := 3) (v := .ref (ad 7)) (C := R_B) (T := F_B) (N := 4) hx hb htb in_B hown hK hP 0 rfl rfl 1 (by decide) (htb _ wd_118) (fun _ h9 => h9) rfl d_B_changed_8 ?_
    refine va_getN (D := (dC, dI)) (ci := 1) (v := .int (nI (bz_ch t (bz_fu f)))) (C := R_S) (T := F_S) (N := 6) hx hb htb in_S hown hK hP 7 rfl rfl 5 (by decide) (va_Nw.use rfl (hN _ nd_88)) (fun _ h9 => h9) rfl d_B_changed_11 ?_
    refine lv_goto (tgt := 19) hx hb d_B_changed_14 (by decide) ?_
    exact W.iret (v := nI (bz_ch t (bz_fu f))) hx hb hr (fun t9 ht9 hW => ⟨nI (bz_ch t (bz_fu f)), rfl, rfl, ht9⟩) (fun _ h => nomatch h) d_B_changed_19


set_option maxHeartbeats 4000000 in
set_option maxRecDepth 100000 in
/-- B_faults -/
theorem c_B_faults (l : Launch) (dC : Nat → ClassId) (dI : Nat → Nat → Nat) (ad : Nat → Nat) (cI cL : ClassId) (t : bz_T) (f : Nat → Nat) (L : (Nat → Int32) × Int64) (ht : bz_ok t) : Met l y_B_faults w_B_faults ({ frames := 3, cells := 0, slots := 0, locals := 69 }) (bz_Pr (dC, dI) [(cI, .int), (cL, .long)] (bz_wB ad cI cL (bz_tR t) (bz_sR t (bz_fu f)) L 1) [.ref (ad 0)]) (vp_Si (fun r9 => r9 = nI (bz_ft t (bz_fu f)))) 0 0 (fun _ => False) := by
  refine Met.ofW (cc := b_B_faults) (maxL := 1) (ret := (some .int)) (by decide) rfl ?_
  intro p e s m args below meth c s₁ B hml hv
  obtain ⟨rfl, hP, hK, hN⟩ := hv
  have hx := B.exec
  have hb := B.bytes
  have hr := B.returns
  have hts := atoms_spec (ws := w_B_faults) B.pre
  have hown : s.vm.findClass R_B = some m.cls := findClass_of_methodNamed B.named
  have htb : ∀ w ∈ bz_tb, w.before _ s = true := fun w h => hts w (List.mem_cons_of_mem _ h)
  have hlocks := B.notSynchronized
  have hl := lv_entry ([.ref (ad 0)]) (n := 1) (Nat.le_of_ble_eq_true rfl)
  rw [lg_entry_eq]
  generalize (lg_sl ([.ref (ad 0)]) ++ List.replicate (1 - (lg_sl ([.ref (ad 0)])).length) Slot.unset).toArray = ls at hl ⊢
  have hl : lv_has ls 1 [(0, .ref (ad 0))] := hl
  refine lv_aload_n hx hb d_B_faults_0 rfl (lv_at hl 0 rfl) ?_
  refine va_get (D := (dC, dI)) (ci := 3) (v := .int 1) (C := R_B) (T := F_B) (N := 4) hx hb htb in_B hown hK hP 0 rfl rfl 3 (by decide) (htb _ wd_120) (fun _ h9 => h9) rfl d_B_faults_1 ?_
  refine lv_if_eq (tgt := 17) hx hb d_B_faults_4 (by decide) (fun c_4 => ?_) (fun c_4 => ?_)
  · skip
    exact absurd c_4 (by decide)
  · skip
    refine lv_aload_n hx hb d_B_faults_7 rfl (lv_at hl 0 rfl) ?_
    refine va_get (D := (dC, dI)) (ci := 3) (v := .ref (ad 7)) (C := R_B) (T := F_B) (N := 4) hx hb htb in_B hown hK hP 0 rfl rfl 1 (by decide) (htb _ wd_118) (fun _ h9 => h9) rfl d_B_faults_8 ?_
    refine bz_si (va_runV (As := []) (rest := []) ⟨hx, hb, hml, hown, htb⟩ (c_S_allFaults l dC dI ad cI cL t (bz_fu f) L 1 ht) (cwV 0 htb (bz_gV wd_216 wd_280 wd_214 wd_215 wd_21) rfl rfl rfl (by decide +kernel) ⟨Nat.le_of_ble_eq_true rfl, Nat.le_of_ble_eq_true rfl⟩) (bz_rv hN hK hP (q0 := 7) rfl rfl) rfl rfl hl.1 rfl (lv_room (Nat.le_of_ble_eq_true rfl)) d_B_faults_11 ⟨Nat.zero_le _, Nat.zero_le _⟩) ?_
    refine lv_goto (tgt := 19) hx hb d_B_faults_14 (by decide) ?_
    exact W.iret (v := nI (bz_ft t (bz_fu f))) hx hb hr (fun t9 ht9 hW => ⟨nI (bz_ft t (bz_fu f)), rfl, rfl, ht9⟩) (fun _ h => nomatch h) d_B_faults_19

set_option maxHeartbeats 4000000 in
set_option maxRecDepth 100000 in
/-- faults, not solved -/
theorem c_B_faults_s (l : Launch) (dC : Nat → ClassId) (dI : Nat → Nat → Nat) (ad : Nat → Nat) (cI cL : ClassId) (t : bz_T) (R : bz_RS) (L : (Nat → Int32) × Int64) (ht : bz_ok t) : Met l y_B_faults w_B_faults ({ frames := 3, cells := 0, slots := 0, locals := 69 }) (bz_Pr (dC, dI) [(cI, .int), (cL, .long)] (bz_wB ad cI cL (bz_tR t) R L 0) [.ref (ad 0)]) (vp_Si (fun r9 => r9 = (-13))) 0 0 (fun _ => False) := by
  refine Met.ofW (cc := b_B_faults) (maxL := 1) (ret := (some .int)) (by decide) rfl ?_
  intro p e s m args below meth c s₁ B hml hv
  obtain ⟨rfl, hP, hK, hN⟩ := hv
  have hx := B.exec
  have hb := B.bytes
  have hr := B.returns
  have hts := atoms_spec (ws := w_B_faults) B.pre
  have hown : s.vm.findClass R_B = some m.cls := findClass_of_methodNamed B.named
  have htb : ∀ w ∈ bz_tb, w.before _ s = true := fun w h => hts w (List.mem_cons_of_mem _ h)
  have hlocks := B.notSynchronized
  have hl := lv_entry ([.ref (ad 0)]) (n := 1) (Nat.le_of_ble_eq_true rfl)
  rw [lg_entry_eq]
  generalize (lg_sl ([.ref (ad 0)]) ++ List.replicate (1 - (lg_sl ([.ref (ad 0)])).length) Slot.unset).toArray = ls at hl ⊢
  have hl : lv_has ls 1 [(0, .ref (ad 0))] := hl
  refine lv_aload_n hx hb d_B_faults_0 rfl (lv_at hl 0 rfl) ?_
  refine va_get (D := (dC, dI)) (ci := 3) (v := .int 0) (C := R_B) (T := F_B) (N := 4) hx hb htb in_B hown hK hP 0 rfl rfl 3 (by decide) (htb _ wd_120) (fun _ h9 => h9) rfl d_B_faults_1 ?_
  refine lv_if_eq (tgt := 17) hx hb d_B_faults_4 (by decide) (fun c_4 => ?_) (fun c_4 => ?_)
  · skip
    refine lv_bipush (v := (-13)) hx hb d_B_faults_17 (by decide) ?_
    exact W.iret (v := (-13)) hx hb hr (fun t9 ht9 hW => ⟨(-13), rfl, rfl, ht9⟩) (fun _ h => nomatch h) d_B_faults_19
  · skip
    exact absurd rfl c_4

set_option maxHeartbeats 4000000 in
set_option maxRecDepth 100000 in
/-- exact, not solved -/
theorem c_B_exact_s (l : Launch) (dC : Nat → ClassId) (dI : Nat → Nat → Nat) (ad : Nat → Nat) (cI cL : ClassId) (t : bz_T) (R : bz_RS) (L : (Nat → Int32) × Int64) (ht : bz_ok t) : Met l y_B_exact w_B_exact ({ frames := 1, cells := 0, slots := 0, locals := 20 }) (bz_Pr (dC, dI) [(cI, .int), (cL, .long)] (bz_wB ad cI cL (bz_tR t) R L 0) [.ref (ad 0)]) (vp_Si (fun r9 => r9 = 0)) 0 0 (fun _ => False) := by
  refine Met.ofW (cc := b_B_exact) (maxL := 1) (ret := (some .boolean)) (by decide) rfl ?_
  intro p e s m args below meth c s₁ B hml hv
  obtain ⟨rfl, hP, hK, hN⟩ := hv
  have hx := B.exec
  have hb := B.bytes
  have hr := B.returns
  have hts := atoms_spec (ws := w_B_exact) B.pre
  have hown : s.vm.findClass R_B = some m.cls := findClass_of_methodNamed B.named
  have htb : ∀ w ∈ bz_tb, w.before _ s = true := fun w h => hts w (List.mem_cons_of_mem _ h)
  have hlocks := B.notSynchronized
  have hl := lv_entry ([.ref (ad 0)]) (n := 1) (Nat.le_of_ble_eq_true rfl)
  rw [lg_entry_eq]
  generalize (lg_sl ([.ref (ad 0)]) ++ List.replicate (1 - (lg_sl ([.ref (ad 0)])).length) Slot.unset).toArray = ls at hl ⊢
  have hl : lv_has ls 1 [(0, .ref (ad 0))] := hl
  refine lv_aload_n hx hb d_B_exact_0 rfl (lv_at hl 0 rfl) ?_
  refine va_get (D := (dC, dI)) (ci := 3) (v := .int 0) (C := R_B) (T := F_B) (N := 4) hx hb htb in_B hown hK hP 0 rfl rfl 3 (by decide) (htb _ wd_120) (fun _ h9 => h9) rfl d_B_exact_1 ?_
  refine lv_if_eq (tgt := 18) hx hb d_B_exact_4 (by decide) (fun c_4 => ?_) (fun c_4 => ?_)
  · skip
    refine lv_iconst (v := 0) hx hb d_B_exact_18 (by decide) ?_
    exact W.zret (v := 0) hx hb hr (rfl) (fun t9 ht9 hW => ⟨0, rfl, rfl, ht9⟩) (fun _ h => nomatch h) d_B_exact_19
  · skip
    exact absurd rfl c_4

set_option maxHeartbeats 4000000 in
set_option maxRecDepth 100000 in
/-- exact -/
theorem c_B_exact (l : Launch) (dC : Nat → ClassId) (dI : Nat → Nat → Nat) (ad : Nat → Nat) (cI cL : ClassId) (t : bz_T) (R : bz_RS) (L : (Nat → Int32) × Int64) (ht : bz_ok t) : Met l y_B_exact w_B_exact ({ frames := 1, cells := 0, slots := 0, locals := 20 }) (bz_Pr (dC, dI) [(cI, .int), (cL, .long)] (bz_wB ad cI cL (bz_tR t) R L 1) [.ref (ad 0)]) (vp_Si (fun r9 => r9 = bz_i (decide (bz_n t ≤ 8)))) 0 0 (fun _ => False) := by
  refine Met.ofW (cc := b_B_exact) (maxL := 1) (ret := (some .boolean)) (by decide) rfl ?_
  intro p e s m args below meth c s₁ B hml hv
  obtain ⟨rfl, hP, hK, hN⟩ := hv
  have hx := B.exec
  have hb := B.bytes
  have hr := B.returns
  have hts := atoms_spec (ws := w_B_exact) B.pre
  have hown : s.vm.findClass R_B = some m.cls := findClass_of_methodNamed B.named
  have htb : ∀ w ∈ bz_tb, w.before _ s = true := fun w h => hts w (List.mem_cons_of_mem _ h)
  have hlocks := B.notSynchronized
  have hl := lv_entry ([.ref (ad 0)]) (n := 1) (Nat.le_of_ble_eq_true rfl)
  rw [lg_entry_eq]
  generalize (lg_sl ([.ref (ad 0)]) ++ List.replicate (1 - (lg_sl ([.ref (ad 0)])).length) Slot.unset).toArray = ls at hl ⊢
  have hl : lv_has ls 1 [(0, .ref (ad 0))] := hl
  refine lv_aload_n hx hb d_B_exact_0 rfl (lv_at hl 0 rfl) ?_
  refine va_get (D := (dC, dI)) (ci := 3) (v := .int 1) (C := R_B) (T := F_B) (N := 4) hx hb htb in_B hown hK hP 0 rfl rfl 3 (by decide) (htb _ wd_120) (fun _ h9 => h9) rfl d_B_exact_1 ?_
  refine lv_if_eq (tgt := 18) hx hb d_B_exact_4 (by decide) (fun c_4 => ?_) (fun c_4 => ?_)
  · skip
    exact absurd c_4 (by decide)
  · skip
    refine lv_aload_n hx hb d_B_exact_7 rfl (lv_at hl 0 rfl) ?_
    refine bz_si (va_runV (As := []) (rest := []) ⟨hx, hb, hml, hown, htb⟩ (c_B_isForExact l dC dI ad cI cL t R L 1 ht) (cwV 0 htb (bz_gV wd_184 wd_181 wd_183 wd_1 wd_19) rfl rfl rfl (by decide +kernel) ⟨Nat.le_of_ble_eq_true rfl, Nat.le_of_ble_eq_true rfl⟩) (bz_rv hN hK hP (q0 := 0) rfl rfl) rfl rfl hl.1 rfl (lv_room (Nat.le_of_ble_eq_true rfl)) d_B_exact_8 ⟨Nat.zero_le _, Nat.zero_le _⟩) ?_
    refine lv_if_eq (tgt := 18) hx hb d_B_exact_11 (by decide) (fun c_11 => ?_) (fun c_11 => ?_)
    · skip
      have hq := bz_i_eq c_11
      refine lv_iconst (v := 0) hx hb d_B_exact_18 (by decide) ?_
      exact W.zret (v := 0) hx hb hr (rfl) (fun t9 ht9 hW => ⟨0, rfl, by rw [hq]; rfl, ht9⟩) (fun _ h => nomatch h) d_B_exact_19
    · skip
      have hq := bz_i_ne c_11
      refine lv_iconst (v := 1) hx hb d_B_exact_14 (by decide) ?_
      refine lv_goto (tgt := 19) hx hb d_B_exact_15 (by decide) ?_
      exact W.zret (v := 1) hx hb hr (rfl) (fun t9 ht9 hW => ⟨1, rfl, by rw [hq]; rfl, ht9⟩) (fun _ h => nomatch h) d_B_exact_19

set_option maxHeartbeats 4000000 in
set_option maxRecDepth 100000 in
/-- bound -/
theorem c_B_bound (l : Launch) (dC : Nat → ClassId) (dI : Nat → Nat → Nat) (ad : Nat → Nat) (cI cL : ClassId) (t : bz_T) (R : bz_RS) (L : (Nat → Int32) × Int64) (v : Int32) (ht : bz_ok t) : Met l y_B_bound w_B_bound ({ frames := 3, cells := 0, slots := 0, locals := 68 }) (bz_Pr (dC, dI) [(cI, .int), (cL, .long)] (bz_wB ad cI cL (bz_tR t) R L v) [.ref (ad 0)]) (vp_Sl (fun r9 => r9 = if bz_ct (bz_wh t) 4 = 0 then -1 else lN (bz_bd t))) 0 0 (fun _ => False) := by
  refine Met.ofW (cc := b_B_bound) (maxL := 9) (ret := (some .long)) (by decide) rfl ?_
  intro p e s m args below meth c s₁ B hml hv
  obtain ⟨rfl, hP, hK, hN⟩ := hv
  have hx := B.exec
  have hb := B.bytes
  have hr := B.returns
  have hts := atoms_spec (ws := w_B_bound) B.pre
  have hown : s.vm.findClass R_B = some m.cls := findClass_of_methodNamed B.named
  have htb : ∀ w ∈ bz_tb, w.before _ s = true := fun w h => hts w (List.mem_cons_of_mem _ h)
  have hlocks := B.notSynchronized
  have hl := lv_entry ([.ref (ad 0)]) (n := 9) (Nat.le_of_ble_eq_true rfl)
  rw [lg_entry_eq]
  generalize (lg_sl ([.ref (ad 0)]) ++ List.replicate (9 - (lg_sl ([.ref (ad 0)])).length) Slot.unset).toArray = ls at hl ⊢
  have hl : lv_has ls 9 [(0, .ref (ad 0))] := hl
  have hn30 := ht.1
  have hcc := bz_ct_le (bz_wh t) 4
  refine lv_aload_n hx hb d_B_bound_0 rfl (lv_at hl 0 rfl) ?_
  refine va_get (D := (dC, dI)) (ci := 3) (v := .ref (ad 1)) (C := R_B) (T := F_B) (N := 4) hx hb htb in_B hown hK hP 0 rfl rfl 0 (by decide) (htb _ wd_117) (fun _ h9 => h9) rfl d_B_bound_1 ?_
  refine bz_si (va_runV (As := []) (rest := []) ⟨hx, hb, hml, hown, htb⟩ (c_T_roundsWithHours l dC dI ad cI cL t R L v ht) (cwV 0 htb (bz_gV wd_288 wd_285 wd_286 wd_287 wd_20) rfl rfl rfl (by decide +kernel) ⟨Nat.le_of_ble_eq_true rfl, Nat.le_of_ble_eq_true rfl⟩) (bz_rv hN hK hP (q0 := 1) rfl rfl) rfl rfl hl.1 rfl (lv_room (Nat.le_of_ble_eq_true rfl)) d_B_bound_4 ⟨Nat.zero_le _, Nat.zero_le _⟩) ?_
  refine lv_istore_n (lv' := [(1, .int (nI (bz_ct (bz_wh t) 4))), (0, .ref (ad 0))]) hx hb d_B_bound_7 rfl hl (by decide) rfl (fun ls hl => ?_)
  refine lv_iload_n hx hb d_B_bound_8 rfl (lv_at hl 0 rfl) ?_
  refine lv_if_gt (tgt := 16) hx hb d_B_bound_9 (by decide) (fun c_9 => ?_) (fun c_9 => ?_)
  · skip
    have hc0 : ¬ bz_ct (bz_wh t) 4 = 0 := fun z => by rw [z] at c_9; exact absurd c_9 (by decide)
    refine lv_lconst (v := 0) hx hb d_B_bound_16 (by decide) ?_
    refine bz_rl (y := lN (bz_sm (bz_lg t) 0)) (rfl) ?_
    refine lv_lstore_n (lv' := [(2, .long (lN (bz_sm (bz_lg t) 0))), (1, .int (nI (bz_ct (bz_wh t) 4))), (0, .ref (ad 0))]) hx hb d_B_bound_17 rfl hl (by decide) rfl (fun ls hl => ?_)
    refine lv_lconst (v := 0) hx hb d_B_bound_18 (by decide) ?_
    refine bz_rl (y := lN (bz_mx (bz_lg t) 0)) (rfl) ?_
    refine lv_lstore (lv' := [(4, .long (lN (bz_mx (bz_lg t) 0))), (2, .long (lN (bz_sm (bz_lg t) 0))), (1, .int (nI (bz_ct (bz_wh t) 4))), (0, .ref (ad 0))]) hx hb d_B_bound_19 hl (by decide) rfl (fun ls hl => ?_)
    refine lv_iconst (v := nI 0) hx hb d_B_bound_21 (by decide) ?_
    refine lv_istore (lv' := [(6, .int (nI 0)), (4, .long (lN (bz_mx (bz_lg t) 0))), (2, .long (lN (bz_sm (bz_lg t) 0))), (1, .int (nI (bz_ct (bz_wh t) 4))), (0, .ref (ad 0))]) hx hb d_B_bound_22 hl (by decide) rfl (fun ls hl => ?_)
    have lp : ∀ (k9 : Nat) (i : Nat), bz_n t - i < k9 → (i ≤ bz_n t) → ∀ (ls : Array Slot), lv_has ls 9 [(0, .ref (ad 0)), (1, .int (nI (bz_ct (bz_wh t) 4))), (2, .long (lN (bz_sm (bz_lg t) i))), (4, .long (lN (bz_mx (bz_lg t) i))), (6, .int (nI i))] → W p l e (headSpec w_B_bound ({ frames := 3, cells := 0, slots := 0, locals := 68 })).room s m ([.ref (ad 0)]).toArray below meth c s.heap [] 0 0 (MQ below (vp_Sl (fun r9 => r9 = if bz_ct (bz_wh t) 4 = 0 then -1 else lN (bz_bd t))) ([.ref (ad 0)]).toArray s 0 0 (fun _ => False)) (F0 m 24 ls []) := by
      intro k9
      induction k9 with
      | zero =>
        intro i h9
        exact absurd h9 (Nat.not_lt_zero _)
      | succ k9 ihlp =>
        intro i h9_lp hi ls hl
        refine lv_iload hx hb d_B_bound_24 (lv_at hl 4 rfl) ?_
        refine lv_aload_n hx hb d_B_bound_26 rfl (lv_at hl 0 rfl) ?_
        refine va_get (D := (dC, dI)) (ci := 3) (v := .ref (ad 1)) (C := R_B) (T := F_B) (N := 4) hx hb htb in_B hown hK hP 0 rfl rfl 0 (by decide) (htb _ wd_117) (fun _ h9 => h9) rfl d_B_bound_27 ?_
        refine va_getN (D := (dC, dI)) (ci := 2) (v := .int (nI (bz_n t))) (C := R_T) (T := F_T) (N := 6) hx hb htb in_T hown hK hP 1 rfl rfl 5 (by decide) (va_Nw.use rfl (hN _ nd_57)) (fun _ h9 => h9) rfl d_B_bound_30 ?_
        refine lv_icmp_ge (tgt := 67) hx hb d_B_bound_33 (by decide) (fun c_33 => ?_) (fun c_33 => ?_)
        · skip
          have hls := bz_ls_le ht hi
          have hmx := bz_mx_le (bz_lg_le ht) i
          have hin : i = bz_n t := by have := (nI_leI (by omega) (by omega)).mp c_33; omega
          have hl : lv_has ls 9 [(0, .ref (ad 0)), (1, .int (nI (bz_ct (bz_wh t) 4))), (2, .long (lN (bz_sm (bz_lg t) (bz_n t)))), (4, .long (lN (bz_mx (bz_lg t) i))), (6, .int (nI i))] := by rw [show lN (bz_sm (bz_lg t) (bz_n t)) = lN (bz_sm (bz_lg t) i) from by rw [hin]]; exact hl
          have hl : lv_has ls 9 [(0, .ref (ad 0)), (1, .int (nI (bz_ct (bz_wh t) 4))), (2, .long (lN (bz_sm (bz_lg t) (bz_n t)))), (4, .long (lN (bz_mx (bz_lg t) (bz_n t)))), (6, .int (nI i))] := by rw [show lN (bz_mx (bz_lg t) (bz_n t)) = lN (bz_mx (bz_lg t) i) from by rw [hin]]; exact hl
          rw [hin] at hls hmx
          refine lv_lload hx hb d_B_bound_67 (lv_at hl 3 rfl) ?_
          refine lv_lload_n hx hb d_B_bound_69 rfl (lv_at hl 2 rfl) ?_
          refine lv_iload_n hx hb d_B_bound_70 rfl (lv_at hl 1 rfl) ?_
          refine lv_i2l hx hb d_B_bound_71 rfl ?_
          refine bz_rl (y := lN (bz_ct (bz_wh t) 4)) (nI_l (by omega)) ?_
          refine lv_ladd hx hb d_B_bound_72 ?_
          refine bz_rl (y := lN (bz_sm (bz_lg t) (bz_n t) + bz_ct (bz_wh t) 4)) (lN_add _ _) ?_
          refine lv_lconst (v := 1) hx hb d_B_bound_73 (by decide) ?_
          refine lv_lsub hx hb d_B_bound_74 ?_
          refine bz_rl (y := lN (bz_sm (bz_lg t) (bz_n t) + bz_ct (bz_wh t) 4 - 1)) (lN_sub (b := 1) (by omega)) ?_
          refine lv_iload_n hx hb d_B_bound_75 rfl (lv_at hl 1 rfl) ?_
          refine lv_i2l hx hb d_B_bound_76 rfl ?_
          refine bz_rl (y := lN (bz_ct (bz_wh t) 4)) (nI_l (by omega)) ?_
          refine lv_ldiv hx hb d_B_bound_77 (fun z => hc0 ((pk_lEQ (b := 0) (by omega) (by omega)).mp z)) ?_
          refine bz_rl (y := lN ((bz_sm (bz_lg t) (bz_n t) + bz_ct (bz_wh t) 4 - 1) / bz_ct (bz_wh t) 4)) (pk_lDiv (by omega) (by omega) (by omega)) ?_
          refine va_mmax_long hx hb (hml.trans hl.1.symm) hown (htb _ wd_298) (htb _ wd_237) (htb _ wd_25) (htb _ wd_238) (Nat.le_of_ble_eq_true rfl) (Nat.le_of_ble_eq_true rfl) (Nat.le_of_ble_eq_true rfl) (Nat.le_of_ble_eq_true rfl) d_B_bound_78 ?_
          refine bz_rl (y := lN (bz_bd t)) (bz_lmax (by omega) (by have := Nat.div_le_self (bz_sm (bz_lg t) (bz_n t) + bz_ct (bz_wh t) 4 - 1) (bz_ct (bz_wh t) 4); omega)) ?_
          exact W.lret (v := lN (bz_bd t)) hx hb hr (fun t9 ht9 hW => ⟨lN (bz_bd t), rfl, by rw [if_neg hc0], ht9⟩) (fun _ h => nomatch h) d_B_bound_81
        · skip
          have hin : i < bz_n t := Nat.lt_of_not_le fun z => c_33 ((nI_leI (by omega) (by omega)).mpr z)
          have hls := bz_ls_le ht hi
          have hmx := bz_mx_le (bz_lg_le ht) i
          have hlg := bz_lg_le ht i
          refine lv_aload_n hx hb d_B_bound_36 rfl (lv_at hl 0 rfl) ?_
          refine va_get (D := (dC, dI)) (ci := 3) (v := .ref (ad 1)) (C := R_B) (T := F_B) (N := 4) hx hb htb in_B hown hK hP 0 rfl rfl 0 (by decide) (htb _ wd_117) (fun _ h9 => h9) rfl d_B_bound_37 ?_
          refine lv_iload hx hb d_B_bound_40 (lv_at hl 4 rfl) ?_
          refine bz_sl (va_runV (As := [.int (nI i)]) (rest := []) ⟨hx, hb, hml, hown, htb⟩ (c_T_lightestLoad l dC dI ad cI cL t R L v ht _ (by omega)) (cwV 1 htb (bz_gV wd_293 wd_290 wd_291 wd_292 wd_20) rfl rfl rfl (by decide +kernel) ⟨Nat.le_of_ble_eq_true rfl, Nat.le_of_ble_eq_true rfl⟩) (bz_rv hN hK hP (q0 := 1) rfl rfl) rfl rfl hl.1 rfl (lv_room (Nat.le_of_ble_eq_true rfl)) d_B_bound_42 ⟨Nat.zero_le _, Nat.zero_le _⟩) ?_
          refine lv_lstore (lv' := [(7, .long (lN (bz_mn t i 4))), (0, .ref (ad 0)), (1, .int (nI (bz_ct (bz_wh t) 4))), (2, .long (lN (bz_sm (bz_lg t) i))), (4, .long (lN (bz_mx (bz_lg t) i))), (6, .int (nI i))]) hx hb d_B_bound_45 hl (by decide) rfl (fun ls hl => ?_)
          refine lv_lload_n hx hb d_B_bound_47 rfl (lv_at hl 3 rfl) ?_
          refine lv_lload hx hb d_B_bound_48 (lv_at hl 0 rfl) ?_
          refine lv_ladd hx hb d_B_bound_50 ?_
          refine bz_rl (y := lN (bz_sm (bz_lg t) (i + 1))) (lN_add _ _) ?_
          refine lv_lstore_n (lv' := [(2, .long (lN (bz_sm (bz_lg t) (i + 1)))), (7, .long (lN (bz_mn t i 4))), (0, .ref (ad 0)), (1, .int (nI (bz_ct (bz_wh t) 4))), (4, .long (lN (bz_mx (bz_lg t) i))), (6, .int (nI i))]) hx hb d_B_bound_51 rfl hl (by decide) rfl (fun ls hl => ?_)
          refine lv_lload hx hb d_B_bound_52 (lv_at hl 4 rfl) ?_
          refine lv_lload hx hb d_B_bound_54 (lv_at hl 1 rfl) ?_
          refine va_mmax_long hx hb (hml.trans hl.1.symm) hown (htb _ wd_298) (htb _ wd_237) (htb _ wd_25) (htb _ wd_238) (Nat.le_of_ble_eq_true rfl) (Nat.le_of_ble_eq_true rfl) (Nat.le_of_ble_eq_true rfl) (Nat.le_of_ble_eq_true rfl) d_B_bound_56 ?_
          refine bz_rl (y := lN (bz_mx (bz_lg t) (i + 1))) (bz_lmax (b := bz_lg t i) (by omega) (by omega)) ?_
          refine lv_lstore (lv' := [(4, .long (lN (bz_mx (bz_lg t) (i + 1)))), (2, .long (lN (bz_sm (bz_lg t) (i + 1)))), (7, .long (lN (bz_mn t i 4))), (0, .ref (ad 0)), (1, .int (nI (bz_ct (bz_wh t) 4))), (6, .int (nI i))]) hx hb d_B_bound_59 hl (by decide) rfl (fun ls hl => ?_)
          refine lv_iinc (v := nI (i + 1)) (lv' := [(6, .int (nI (i + 1))), (4, .long (lN (bz_mx (bz_lg t) (i + 1)))), (2, .long (lN (bz_sm (bz_lg t) (i + 1)))), (7, .long (lN (bz_mn t i 4))), (0, .ref (ad 0)), (1, .int (nI (bz_ct (bz_wh t) 4)))]) hx hb d_B_bound_61 hl (k := 5) rfl (nI_1 _) (by decide) rfl (fun ls hl => ?_)
          refine lv_goto (tgt := 24) hx hb d_B_bound_64 (by decide) ?_
          exact ihlp (i + 1) (by omega) (by omega) ls (lv_sub hl [4, 5, 2, 1, 0] rfl)
    exact lp _ 0 (Nat.lt_succ_self _) (by omega) ls (lv_sub hl [4, 3, 2, 1, 0] rfl)
  · skip
    have hc0 : bz_ct (bz_wh t) 4 = 0 := Classical.byContradiction fun z => c_9 ((nI_ltI (a := 0) (by omega) (by omega)).mpr (by omega))
    refine lv_ldc2 (v := (-1)) hx hb hown (htb _ wd_289) d_B_bound_12 ?_
    exact W.lret (v := (-1)) hx hb hr (fun t9 ht9 hW => ⟨(-1), rfl, by rw [if_pos hc0], ht9⟩) (fun _ h => nomatch h) d_B_bound_15

set_option maxHeartbeats 4000000 in
set_option maxRecDepth 100000 in
/-- tooLarge, none -/
theorem c_B_tooLarge_o (l : Launch) (dC : Nat → ClassId) (dI : Nat → Nat → Nat) (ad : Nat → Nat) (cI cL : ClassId) (t : bz_T) (R : bz_RS) (L : (Nat → Int32) × Int64) (v : Int32) (ht : bz_ok t) (z : Int32) (hz : z < 0 ∨ bz_ct (bz_wh t) 4 = 0) : Met l y_B_tooLarge w_B_tooLarge ({ frames := 3, cells := 0, slots := 0, locals := 66 }) (bz_Pr (dC, dI) [(cI, .int), (cL, .long)] (bz_wB ad cI cL (bz_tR t) R L v) [.ref (ad 0), .int z]) (vp_Si (fun r9 => r9 = 0)) 0 0 (fun _ => False) := by
  refine Met.ofW (cc := b_B_tooLarge) (maxL := 4) (ret := (some .int)) (by decide) rfl ?_
  intro p e s m args below meth c s₁ B hml hv
  obtain ⟨rfl, hP, hK, hN⟩ := hv
  have hx := B.exec
  have hb := B.bytes
  have hr := B.returns
  have hts := atoms_spec (ws := w_B_tooLarge) B.pre
  have hown : s.vm.findClass R_B = some m.cls := findClass_of_methodNamed B.named
  have htb : ∀ w ∈ bz_tb, w.before _ s = true := fun w h => hts w (List.mem_cons_of_mem _ h)
  have hlocks := B.notSynchronized
  have hl := lv_entry ([.ref (ad 0), .int z]) (n := 4) (Nat.le_of_ble_eq_true rfl)
  rw [lg_entry_eq]
  generalize (lg_sl ([.ref (ad 0), .int z]) ++ List.replicate (4 - (lg_sl ([.ref (ad 0), .int z])).length) Slot.unset).toArray = ls at hl ⊢
  have hl : lv_has ls 4 [(0, .ref (ad 0)), (1, .int z)] := hl
  have hcc := bz_ct_le (bz_wh t) 4
  refine lv_iload_n hx hb d_B_tooLarge_0 rfl (lv_at hl 1 rfl) ?_
  refine lv_if_lt (tgt := 14) hx hb d_B_tooLarge_1 (by decide) (fun c_1 => ?_) (fun c_1 => ?_)
  · skip
    refine lv_iconst (v := 0) hx hb d_B_tooLarge_14 (by decide) ?_
    exact W.iret (v := 0) hx hb hr (fun t9 ht9 hW => ⟨0, rfl, rfl, ht9⟩) (fun _ h => nomatch h) d_B_tooLarge_15
  · skip
    refine lv_aload_n hx hb d_B_tooLarge_4 rfl (lv_at hl 0 rfl) ?_
    refine va_get (D := (dC, dI)) (ci := 3) (v := .ref (ad 1)) (C := R_B) (T := F_B) (N := 4) hx hb htb in_B hown hK hP 0 rfl rfl 0 (by decide) (htb _ wd_117) (fun _ h9 => h9) rfl d_B_tooLarge_5 ?_
    refine bz_si (va_runV (As := []) (rest := []) ⟨hx, hb, hml, hown, htb⟩ (c_T_roundsWithHours l dC dI ad cI cL t R L v ht) (cwV 0 htb (bz_gV wd_288 wd_285 wd_286 wd_287 wd_20) rfl rfl rfl (by decide +kernel) ⟨Nat.le_of_ble_eq_true rfl, Nat.le_of_ble_eq_true rfl⟩) (bz_rv hN hK hP (q0 := 1) rfl rfl) rfl rfl hl.1 rfl (lv_room (Nat.le_of_ble_eq_true rfl)) d_B_tooLarge_8 ⟨Nat.zero_le _, Nat.zero_le _⟩) ?_
    refine lv_if_ne (tgt := 16) hx hb d_B_tooLarge_11 (by decide) (fun c_11 => ?_) (fun c_11 => ?_)
    · skip
      exact absurd (hz.elim (fun y => absurd y c_1) (fun y => by rw [y]; rfl)) c_11
    · skip
      refine lv_iconst (v := 0) hx hb d_B_tooLarge_14 (by decide) ?_
      exact W.iret (v := 0) hx hb hr (fun t9 ht9 hW => ⟨0, rfl, rfl, ht9⟩) (fun _ h => nomatch h) d_B_tooLarge_15

set_option maxHeartbeats 4000000 in
set_option maxRecDepth 100000 in
/-- tooLarge -/
theorem c_B_tooLarge (l : Launch) (dC : Nat → ClassId) (dI : Nat → Nat → Nat) (ad : Nat → Nat) (cI cL : ClassId) (t : bz_T) (R : bz_RS) (L : (Nat → Int32) × Int64) (v : Int32) (ht : bz_ok t) (i0 : Nat) (hi0 : i0 < 2 ^ 31) (hc0 : ¬ bz_ct (bz_wh t) 4 = 0) : Met l y_B_tooLarge w_B_tooLarge ({ frames := 3, cells := 0, slots := 0, locals := 66 }) (bz_Pr (dC, dI) [(cI, .int), (cL, .long)] (bz_wB ad cI cL (bz_tR t) R L v) [.ref (ad 0), .int (nI i0)]) (vp_Si (fun r9 => r9 = nI (bz_it (fun a => bz_tl t a 4) i0 (bz_n t) 0 0))) 0 0 (fun _ => False) := by
  refine Met.ofW (cc := b_B_tooLarge) (maxL := 4) (ret := (some .int)) (by decide) rfl ?_
  intro p e s m args below meth c s₁ B hml hv
  obtain ⟨rfl, hP, hK, hN⟩ := hv
  have hx := B.exec
  have hb := B.bytes
  have hr := B.returns
  have hts := atoms_spec (ws := w_B_tooLarge) B.pre
  have hown : s.vm.findClass R_B = some m.cls := findClass_of_methodNamed B.named
  have htb : ∀ w ∈ bz_tb, w.before _ s = true := fun w h => hts w (List.mem_cons_of_mem _ h)
  have hlocks := B.notSynchronized
  have hl := lv_entry ([.ref (ad 0), .int (nI i0)]) (n := 4) (Nat.le_of_ble_eq_true rfl)
  rw [lg_entry_eq]
  generalize (lg_sl ([.ref (ad 0), .int (nI i0)]) ++ List.replicate (4 - (lg_sl ([.ref (ad 0), .int (nI i0)])).length) Slot.unset).toArray = ls at hl ⊢
  have hl : lv_has ls 4 [(0, .ref (ad 0)), (1, .int (nI i0))] := hl
  have hn30 := ht.1
  have hcc := bz_ct_le (bz_wh t) 4
  refine lv_iload_n hx hb d_B_tooLarge_0 rfl (lv_at hl 1 rfl) ?_
  refine lv_if_lt (tgt := 14) hx hb d_B_tooLarge_1 (by decide) (fun c_1 => ?_) (fun c_1 => ?_)
  · skip
    exact absurd c_1 (nI_pos hi0)
  · skip
    refine lv_aload_n hx hb d_B_tooLarge_4 rfl (lv_at hl 0 rfl) ?_
    refine va_get (D := (dC, dI)) (ci := 3) (v := .ref (ad 1)) (C := R_B) (T := F_B) (N := 4) hx hb htb in_B hown hK hP 0 rfl rfl 0 (by decide) (htb _ wd_117) (fun _ h9 => h9) rfl d_B_tooLarge_5 ?_
    refine bz_si (va_runV (As := []) (rest := []) ⟨hx, hb, hml, hown, htb⟩ (c_T_roundsWithHours l dC dI ad cI cL t R L v ht) (cwV 0 htb (bz_gV wd_288 wd_285 wd_286 wd_287 wd_20) rfl rfl rfl (by decide +kernel) ⟨Nat.le_of_ble_eq_true rfl, Nat.le_of_ble_eq_true rfl⟩) (bz_rv hN hK hP (q0 := 1) rfl rfl) rfl rfl hl.1 rfl (lv_room (Nat.le_of_ble_eq_true rfl)) d_B_tooLarge_8 ⟨Nat.zero_le _, Nat.zero_le _⟩) ?_
    refine lv_if_ne (tgt := 16) hx hb d_B_tooLarge_11 (by decide) (fun c_11 => ?_) (fun c_11 => ?_)
    · skip
      refine lv_iconst (v := nI 0) hx hb d_B_tooLarge_16 (by decide) ?_
      refine lv_istore_n (lv' := [(2, .int (nI 0)), (0, .ref (ad 0)), (1, .int (nI i0))]) hx hb d_B_tooLarge_17 rfl hl (by decide) rfl (fun ls hl => ?_)
      refine lv_iconst (v := nI 0) hx hb d_B_tooLarge_18 (by decide) ?_
      refine lv_istore_n (lv' := [(3, .int (nI 0)), (2, .int (nI 0)), (0, .ref (ad 0)), (1, .int (nI i0))]) hx hb d_B_tooLarge_19 rfl hl (by decide) rfl (fun ls hl => ?_)
      have lp : ∀ (k9 : Nat) (i : Nat) (cn : Nat), bz_n t - i < k9 → (i ≤ bz_n t) → (cn ≤ i) → (bz_it (fun a => bz_tl t a 4) i0 (bz_n t) 0 0 = bz_it (fun a => bz_tl t a 4) i0 (bz_n t - i) i cn) → ∀ (ls : Array Slot), lv_has ls 4 [(0, .ref (ad 0)), (1, .int (nI i0)), (2, .int (nI cn)), (3, .int (nI i))] → W p l e (headSpec w_B_tooLarge ({ frames := 3, cells := 0, slots := 0, locals := 66 })).room s m ([.ref (ad 0), .int (nI i0)]).toArray below meth c s.heap [] 0 0 (MQ below (vp_Si (fun r9 => r9 = nI (bz_it (fun a => bz_tl t a 4) i0 (bz_n t) 0 0))) ([.ref (ad 0), .int (nI i0)]).toArray s 0 0 (fun _ => False)) (F0 m 20 ls []) := by
        intro k9
        induction k9 with
        | zero =>
          intro i cn h9
          exact absurd h9 (Nat.not_lt_zero _)
        | succ k9 ihlp =>
          intro i cn h9_lp hi hc hit ls hl
          refine lv_iload_n hx hb d_B_tooLarge_20 rfl (lv_at hl 3 rfl) ?_
          refine lv_aload_n hx hb d_B_tooLarge_21 rfl (lv_at hl 0 rfl) ?_
          refine va_get (D := (dC, dI)) (ci := 3) (v := .ref (ad 1)) (C := R_B) (T := F_B) (N := 4) hx hb htb in_B hown hK hP 0 rfl rfl 0 (by decide) (htb _ wd_117) (fun _ h9 => h9) rfl d_B_tooLarge_22 ?_
          refine va_getN (D := (dC, dI)) (ci := 2) (v := .int (nI (bz_n t))) (C := R_T) (T := F_T) (N := 6) hx hb htb in_T hown hK hP 1 rfl rfl 5 (by decide) (va_Nw.use rfl (hN _ nd_57)) (fun _ h9 => h9) rfl d_B_tooLarge_25 ?_
          refine lv_icmp_ge (tgt := 60) hx hb d_B_tooLarge_28 (by decide) (fun c_28 => ?_) (fun c_28 => ?_)
          · skip
            have hin : i = bz_n t := by have := (nI_leI (by omega) (by omega)).mp c_28; omega
            refine lv_iconst (v := 0) hx hb d_B_tooLarge_60 (by decide) ?_
            exact W.iret (v := 0) hx hb hr (fun t9 ht9 hW => ⟨0, rfl, by rw [hit, hin, Nat.sub_self]; rfl, ht9⟩) (fun _ h => nomatch h) d_B_tooLarge_61
          · skip
            have hin : i < bz_n t := Nat.lt_of_not_le fun z => c_28 ((nI_leI (by omega) (by omega)).mpr z)
            refine lv_aload_n hx hb d_B_tooLarge_31 rfl (lv_at hl 0 rfl) ?_
            refine va_get (D := (dC, dI)) (ci := 3) (v := .ref (ad 1)) (C := R_B) (T := F_B) (N := 4) hx hb htb in_B hown hK hP 0 rfl rfl 0 (by decide) (htb _ wd_117) (fun _ h9 => h9) rfl d_B_tooLarge_32 ?_
            refine lv_iload_n hx hb d_B_tooLarge_35 rfl (lv_at hl 3 rfl) ?_
            refine bz_si (va_runV (As := [.int (nI i)]) (rest := []) ⟨hx, hb, hml, hown, htb⟩ (c_T_fitsNowhere l dC dI ad cI cL t R L v ht _ (by omega)) (cwV 1 htb (bz_gV wd_306 wd_303 wd_304 wd_305 wd_20) rfl rfl rfl (by decide +kernel) ⟨Nat.le_of_ble_eq_true rfl, Nat.le_of_ble_eq_true rfl⟩) (bz_rv hN hK hP (q0 := 1) rfl rfl) rfl rfl hl.1 rfl (lv_room (Nat.le_of_ble_eq_true rfl)) d_B_tooLarge_36 ⟨Nat.zero_le _, Nat.zero_le _⟩) ?_
            refine lv_if_eq (tgt := 54) hx hb d_B_tooLarge_39 (by decide) (fun c_39 => ?_) (fun c_39 => ?_)
            · skip
              have hf1 : bz_tl t i 4 = false := bz_i_eq c_39
              refine lv_iinc (v := nI (i + 1)) (lv' := [(3, .int (nI (i + 1))), (0, .ref (ad 0)), (1, .int (nI i0)), (2, .int (nI cn))]) hx hb d_B_tooLarge_54 hl (k := 3) rfl (nI_1 _) (by decide) rfl (fun ls hl => ?_)
              refine lv_goto (tgt := 20) hx hb d_B_tooLarge_57 (by decide) ?_
              exact ihlp (i + 1) cn (by omega) (by omega) (by omega) (by rw [hit, show bz_n t - i = bz_n t - (i + 1) + 1 by omega, bz_it_f (f := (fun a => bz_tl t a 4)) hf1]) ls (lv_sub hl [1, 2, 3, 0] rfl)
            · skip
              have hf1 : bz_tl t i 4 = true := bz_i_ne c_39
              refine lv_iload_n hx hb d_B_tooLarge_42 rfl (lv_at hl 2 rfl) ?_
              refine lv_iload_n hx hb d_B_tooLarge_43 rfl (lv_at hl 1 rfl) ?_
              refine lv_icmp_ne (tgt := 51) hx hb d_B_tooLarge_44 (by decide) (fun c_44 => ?_) (fun c_44 => ?_)
              · skip
                have hci : ¬ cn = i0 := fun z => c_44 (by rw [z])
                refine lv_iinc (v := nI (cn + 1)) (lv' := [(2, .int (nI (cn + 1))), (0, .ref (ad 0)), (1, .int (nI i0)), (3, .int (nI i))]) hx hb d_B_tooLarge_51 hl (k := 2) rfl (nI_1 _) (by decide) rfl (fun ls hl => ?_)
                refine lv_iinc (v := nI (i + 1)) (lv' := [(3, .int (nI (i + 1))), (2, .int (nI (cn + 1))), (0, .ref (ad 0)), (1, .int (nI i0))]) hx hb d_B_tooLarge_54 hl (k := 3) rfl (nI_1 _) (by decide) rfl (fun ls hl => ?_)
                refine lv_goto (tgt := 20) hx hb d_B_tooLarge_57 (by decide) ?_
                exact ihlp (i + 1) (cn + 1) (by omega) (by omega) (by omega) (by rw [hit, show bz_n t - i = bz_n t - (i + 1) + 1 by omega, bz_it_n (f := (fun a => bz_tl t a 4)) hf1 hci]) ls (lv_sub hl [2, 3, 1, 0] rfl)
              · skip
                have hci : cn = i0 := (nI_eq (by omega) hi0).mp c_44
                refine lv_iload_n hx hb d_B_tooLarge_47 rfl (lv_at hl 3 rfl) ?_
                refine lv_iconst (v := 1) hx hb d_B_tooLarge_48 (by decide) ?_
                refine lv_iadd hx hb d_B_tooLarge_49 ?_
                refine bz_ri (y := nI (i + 1)) (nI_1 _) ?_
                exact W.iret (v := nI (i + 1)) hx hb hr (fun t9 ht9 hW => ⟨nI (i + 1), rfl, by rw [hit, show bz_n t - i = bz_n t - (i + 1) + 1 by omega, hci, bz_it_y (f := (fun a => bz_tl t a 4)) hf1], ht9⟩) (fun _ h => nomatch h) d_B_tooLarge_50
      exact lp _ 0 0 (Nat.lt_succ_self _) (by omega) (by omega) (rfl) ls (lv_sub hl [2, 3, 1, 0] rfl)
    · skip
      exact absurd ((nI_eq (b := 0) (by omega) (by omega)).mp c_11) hc0
end
section
/-! the reference's cells, and rows for arrays of booleans -/
section BZZ
variable {p : Program} {l : Launch} {e : Env} {R : Room} {s : State} {m : MethodId} {args : Array Value} {below : List Frame} {meth : Method} {c : Code} {H : Heap} {locs : List Loc} {cells slots : Nat} {Q : State → Prop}
variable {pc : Nat} {ls : Array Slot} {rest st0 : List Value} {a : Array Value} {D : va_G} {cl : List vw_C} {tys : List (ClassId × FieldType)} {ws ws0 : va_W} {ad : Nat} {cc : ByteArray} {A A0 : Nat → Prop} {H0 : Heap}
theorem bz_zald (hexec : p.tables.exec = Jvm.exec) (hb : c.code = cc) (hK : va_K D cl tys s) (hP : va_P D cl ws H) (q0 t0 : Nat) {cA : ClassId} {n : Nat} {f : Nat → Int32} (ha : ws[q0]? = some (ad, .inl (cA, n, .inl f))) (ht : tys[t0]? = some (cA, .boolean)) {a9 : Nat} (h9 : a9 < n) (hn : n < 2 ^ 31) {v : Int32} (hv : f a9 = v) (hdg : decode cc pc = .ok (.baload, 1))
    (kk : W p l e R s m args below meth c H locs cells slots Q (F0 m (pc + 1) ls (.int v :: rest))) : W p l e R s m args below meth c H locs cells slots Q (F0 m pc ls (.int (nI a9) :: .ref ad :: rest)) := by
  refine va_zald hexec hb hK hP q0 t0 ha ht (vp_in_nI h9 hn) hdg ?_
  rw [nI_clamp (Nat.lt_trans h9 hn), hv]
  exact kk
theorem bz_zast (hexec : p.tables.exec = Jvm.exec) (hb : c.code = cc) (hK : va_K D cl tys s) (hP : va_P D cl ws H) (hD : va_D A ws) (hS : va_S A H0 H locs) (q0 t0 : Nat) {cA : ClassId} {n : Nat} {f : Nat → Int32} (ha : ws[q0]? = some (ad, .inl (cA, n, .inl f))) (ht : tys[t0]? = some (cA, .boolean)) {a9 : Nat} {x : Int32} {b9 : Bool} (h9 : a9 < n) (hn : n < 2 ^ 31) (hv : x = bz_i b9) (hdg : decode cc pc = .ok (.bastore, 1))
    (kk : ∀ (H1 : Heap) (locs1 : List Loc), va_P D cl (ws.set q0 (ad, .inl (cA, n, .inl (upd f a9 (bz_i b9))))) H1 → va_D A (ws.set q0 (ad, .inl (cA, n, .inl (upd f a9 (bz_i b9))))) → va_S A H0 H1 locs1 → W p l e R s m args below meth c H1 locs1 cells slots Q (F0 m (pc + 1) ls rest)) : W p l e R s m args below meth c H locs cells slots Q (F0 m pc ls (.int x :: .int (nI a9) :: .ref ad :: rest)) := by
  have e9 : vp_nar .boolean x = bz_i b9 := by rw [hv]; cases b9 <;> rfl
  refine va_zast hexec hb hK hP hD hS q0 t0 ha ht (vp_in_nI h9 hn) hdg ?_
  rw [nI_clamp (Nat.lt_trans h9 hn), e9]
  exact kk
def bz_Qxi {S : Type} (D : va_G) (tys : List (ClassId × FieldType)) (A : Nat → Prop) (post : Int32 → S → Prop) (wf : S → va_W) : Array Value → State → Outcome → State → Prop := va_Qi post (fun u => bz_Bw D tys A (wf u)) A
theorem bz_cxi {S : Type} {post : Int32 → S → Prop} {wf : S → va_W} (hr : va_Run p l e R s m args below meth c H locs cells slots 0 0 (F0 m pc ls st0) rest (bz_Qxi D tys (va_A ws0 H.size) post wf a) (va_A ws0 H.size)) (hD : va_D A0 ws0) (hS : va_S A0 H0 H locs) (hA : ∀ q, H0.size ≤ q → A0 q)
    (kk : ∀ (r : Int32) (u : S), post r u → ∀ (H1 : Heap) (locs1 : List Loc), va_P D vwCl (wf u) H1 → va_D A0 (wf u) → va_S A0 H0 H1 locs1 → W p l e R s m args below meth c H1 locs1 cells slots Q (F0 m (pc + 3) ls (.int r :: rest))) : W p l e R s m args below meth c H locs cells slots Q (F0 m pc ls st0) :=
  va_calli hr hS (fun q _ h => bz_fA hD hS hA q h) (bz_fA hD hS hA) (fun r u t H1 locs1 ht _ hw hB _ _ hS1 => kk r u hw H1 locs1 (by rw [← ht]; exact hB.1) (hB.2.2.weaken (fun _ q _ h => bz_fA hD hS hA q.1 h)) hS1)
end BZZ
def bz_tM (t : bz_T) : bz_RT := (fun j => lN (bz_l t j), fun j => nI (bz_d t j), fun i => bz_i (bz_j t (i / 30) (i % 30)), fun i => bz_i (bz_k t (i / 30) (i % 30)), fun r => lN (bz_h t r), nI (bz_n t))
def bz_wM (am : Nat → Nat) (cI cL cZ : ClassId) (T : bz_RT) (V : Int32 × Int32 × Int32) (S : (Nat → Int32) × (Nat → Int32) × (Nat → Int32)) : va_W :=
  [(am 0, .inr (4, [.int V.1, .int T.2.2.2.2.2, .ref (am 1), .ref (am 2), .ref (am 3), .ref (am 4), .ref (am 5), .int V.2.1, .int V.2.2, .ref (am 6), .ref (am 7), .ref (am 8)])),
   (am 1, .inl (cL, 30, .inr (.inl T.1))),
   (am 2, .inl (cI, 30, .inl T.2.1)),
   (am 3, .inl (cZ, 900, .inl T.2.2.1)),
   (am 4, .inl (cZ, 120, .inl T.2.2.2.1)),
   (am 5, .inl (cL, 4, .inr (.inl T.2.2.2.2.1))),
   (am 6, .inl (cI, 30, .inl S.1)),
   (am 7, .inl (cI, 30, .inl S.2.1)),
   (am 8, .inl (cZ, 30, .inl S.2.2))]
end
section
theorem d_M_isIn_0 : decode b_M_isIn 0 = .ok (.lload_n 0, 1) := by decide +kernel
theorem d_M_isIn_1 : decode b_M_isIn 1 = .ok (.lload_n 2, 1) := by decide +kernel
theorem d_M_isIn_2 : decode b_M_isIn 2 = .ok (.lcmp, 1) := by decide +kernel
theorem d_M_isIn_3 : decode b_M_isIn 3 = .ok (.ifCond .lt 14, 3) := by decide +kernel
theorem d_M_isIn_6 : decode b_M_isIn 6 = .ok (.lload_n 0, 1) := by decide +kernel
theorem d_M_isIn_7 : decode b_M_isIn 7 = .ok (.lload 4, 2) := by decide +kernel
theorem d_M_isIn_9 : decode b_M_isIn 9 = .ok (.lcmp, 1) := by decide +kernel
theorem d_M_isIn_10 : decode b_M_isIn 10 = .ok (.ifCond .gt 7, 3) := by decide +kernel
theorem d_M_isIn_13 : decode b_M_isIn 13 = .ok (.iconst 1, 1) := by decide +kernel
theorem d_M_isIn_14 : decode b_M_isIn 14 = .ok (.goto 4, 3) := by decide +kernel
theorem d_M_isIn_17 : decode b_M_isIn 17 = .ok (.iconst 0, 1) := by decide +kernel
theorem d_M_isIn_18 : decode b_M_isIn 18 = .ok (.ireturn, 1) := by decide +kernel
theorem d_M_isArea_0 : decode b_M_isArea 0 = .ok (.iload_n 1, 1) := by decide +kernel
theorem d_M_isArea_1 : decode b_M_isArea 1 = .ok (.iconst 1, 1) := by decide +kernel
theorem d_M_isArea_2 : decode b_M_isArea 2 = .ok (.if_icmp .lt 15, 3) := by decide +kernel
theorem d_M_isArea_5 : decode b_M_isArea 5 = .ok (.iload_n 1, 1) := by decide +kernel
theorem d_M_isArea_6 : decode b_M_isArea 6 = .ok (.aload_n 0, 1) := by decide +kernel
theorem d_M_isArea_7 : decode b_M_isArea 7 = .ok (.getfield 36, 3) := by decide +kernel
theorem d_M_isArea_10 : decode b_M_isArea 10 = .ok (.if_icmp .gt 7, 3) := by decide +kernel
theorem d_M_isArea_13 : decode b_M_isArea 13 = .ok (.iconst 1, 1) := by decide +kernel
theorem d_M_isArea_14 : decode b_M_isArea 14 = .ok (.goto 4, 3) := by decide +kernel
theorem d_M_isArea_17 : decode b_M_isArea 17 = .ok (.iconst 0, 1) := by decide +kernel
theorem d_M_isArea_18 : decode b_M_isArea 18 = .ok (.ireturn, 1) := by decide +kernel
theorem d_M_thrown_0 : decode b_M_thrown 0 = .ok (.aload_n 0, 1) := by decide +kernel
theorem d_M_thrown_1 : decode b_M_thrown 1 = .ok (.getfield 40, 3) := by decide +kernel
theorem d_M_thrown_4 : decode b_M_thrown 4 = .ok (.ireturn, 1) := by decide +kernel
theorem d_M_loadOf_0 : decode b_M_loadOf 0 = .ok (.ldc2_w 67, 3) := by decide +kernel
theorem d_M_loadOf_3 : decode b_M_loadOf 3 = .ok (.aload_n 0, 1) := by decide +kernel
theorem d_M_loadOf_4 : decode b_M_loadOf 4 = .ok (.getfield 7, 3) := by decide +kernel
theorem d_M_loadOf_7 : decode b_M_loadOf 7 = .ok (.iload_n 1, 1) := by decide +kernel
theorem d_M_loadOf_8 : decode b_M_loadOf 8 = .ok (.laload, 1) := by decide +kernel
theorem d_M_loadOf_9 : decode b_M_loadOf 9 = .ok (.lmul, 1) := by decide +kernel
theorem d_M_loadOf_10 : decode b_M_loadOf 10 = .ok (.lstore_n 3, 1) := by decide +kernel
theorem d_M_loadOf_11 : decode b_M_loadOf 11 = .ok (.aload_n 0, 1) := by decide +kernel
theorem d_M_loadOf_12 : decode b_M_loadOf 12 = .ok (.getfield 21, 3) := by decide +kernel
theorem d_M_loadOf_15 : decode b_M_loadOf 15 = .ok (.bipush 30, 2) := by decide +kernel
theorem d_M_loadOf_17 : decode b_M_loadOf 17 = .ok (.iload_n 2, 1) := by decide +kernel
theorem d_M_loadOf_18 : decode b_M_loadOf 18 = .ok (.imul, 1) := by decide +kernel
theorem d_M_loadOf_19 : decode b_M_loadOf 19 = .ok (.iload_n 1, 1) := by decide +kernel
theorem d_M_loadOf_20 : decode b_M_loadOf 20 = .ok (.iadd, 1) := by decide +kernel
theorem d_M_loadOf_21 : decode b_M_loadOf 21 = .ok (.baload, 1) := by decide +kernel
theorem d_M_loadOf_22 : decode b_M_loadOf 22 = .ok (.ifCond .eq 27, 3) := by decide +kernel
theorem d_M_loadOf_25 : decode b_M_loadOf 25 = .ok (.lload_n 3, 1) := by decide +kernel
theorem d_M_loadOf_26 : decode b_M_loadOf 26 = .ok (.ldc2_w 69, 3) := by decide +kernel
theorem d_M_loadOf_29 : decode b_M_loadOf 29 = .ok (.ldiv, 1) := by decide +kernel
theorem d_M_loadOf_30 : decode b_M_loadOf 30 = .ok (.lload_n 3, 1) := by decide +kernel
theorem d_M_loadOf_31 : decode b_M_loadOf 31 = .ok (.ldc2_w 69, 3) := by decide +kernel
theorem d_M_loadOf_34 : decode b_M_loadOf 34 = .ok (.lrem, 1) := by decide +kernel
theorem d_M_loadOf_35 : decode b_M_loadOf 35 = .ok (.lconst 0, 1) := by decide +kernel
theorem d_M_loadOf_36 : decode b_M_loadOf 36 = .ok (.lcmp, 1) := by decide +kernel
theorem d_M_loadOf_37 : decode b_M_loadOf 37 = .ok (.ifCond .le 7, 3) := by decide +kernel
theorem d_M_loadOf_40 : decode b_M_loadOf 40 = .ok (.lconst 1, 1) := by decide +kernel
theorem d_M_loadOf_41 : decode b_M_loadOf 41 = .ok (.goto 4, 3) := by decide +kernel
theorem d_M_loadOf_44 : decode b_M_loadOf 44 = .ok (.lconst 0, 1) := by decide +kernel
theorem d_M_loadOf_45 : decode b_M_loadOf 45 = .ok (.ladd, 1) := by decide +kernel
theorem d_M_loadOf_46 : decode b_M_loadOf 46 = .ok (.goto 9, 3) := by decide +kernel
theorem d_M_loadOf_49 : decode b_M_loadOf 49 = .ok (.aload_n 0, 1) := by decide +kernel
theorem d_M_loadOf_50 : decode b_M_loadOf 50 = .ok (.getfield 7, 3) := by decide +kernel
theorem d_M_loadOf_53 : decode b_M_loadOf 53 = .ok (.iload_n 1, 1) := by decide +kernel
theorem d_M_loadOf_54 : decode b_M_loadOf 54 = .ok (.laload, 1) := by decide +kernel
theorem d_M_loadOf_55 : decode b_M_loadOf 55 = .ok (.lreturn, 1) := by decide +kernel
theorem d_M_roundLoad_0 : decode b_M_roundLoad 0 = .ok (.lconst 0, 1) := by decide +kernel
theorem d_M_roundLoad_1 : decode b_M_roundLoad 1 = .ok (.lstore_n 3, 1) := by decide +kernel
theorem d_M_roundLoad_2 : decode b_M_roundLoad 2 = .ok (.iconst 0, 1) := by decide +kernel
theorem d_M_roundLoad_3 : decode b_M_roundLoad 3 = .ok (.istore 5, 2) := by decide +kernel
theorem d_M_roundLoad_5 : decode b_M_roundLoad 5 = .ok (.iload 5, 2) := by decide +kernel
theorem d_M_roundLoad_7 : decode b_M_roundLoad 7 = .ok (.aload_n 0, 1) := by decide +kernel
theorem d_M_roundLoad_8 : decode b_M_roundLoad 8 = .ok (.getfield 36, 3) := by decide +kernel
theorem d_M_roundLoad_11 : decode b_M_roundLoad 11 = .ok (.if_icmp .ge 31, 3) := by decide +kernel
theorem d_M_roundLoad_14 : decode b_M_roundLoad 14 = .ok (.aload_n 1, 1) := by decide +kernel
theorem d_M_roundLoad_15 : decode b_M_roundLoad 15 = .ok (.iload 5, 2) := by decide +kernel
theorem d_M_roundLoad_17 : decode b_M_roundLoad 17 = .ok (.iaload, 1) := by decide +kernel
theorem d_M_roundLoad_18 : decode b_M_roundLoad 18 = .ok (.iload_n 2, 1) := by decide +kernel
theorem d_M_roundLoad_19 : decode b_M_roundLoad 19 = .ok (.if_icmp .ne 15, 3) := by decide +kernel
theorem d_M_roundLoad_22 : decode b_M_roundLoad 22 = .ok (.lload_n 3, 1) := by decide +kernel
theorem d_M_roundLoad_23 : decode b_M_roundLoad 23 = .ok (.aload_n 0, 1) := by decide +kernel
theorem d_M_roundLoad_24 : decode b_M_roundLoad 24 = .ok (.iload 5, 2) := by decide +kernel
theorem d_M_roundLoad_26 : decode b_M_roundLoad 26 = .ok (.iload_n 2, 1) := by decide +kernel
theorem d_M_roundLoad_27 : decode b_M_roundLoad 27 = .ok (.invokevirtual 71, 3) := by decide +kernel
theorem d_M_roundLoad_30 : decode b_M_roundLoad 30 = .ok (.ladd, 1) := by decide +kernel
theorem d_M_roundLoad_31 : decode b_M_roundLoad 31 = .ok (.goto 4, 3) := by decide +kernel
theorem d_M_roundLoad_34 : decode b_M_roundLoad 34 = .ok (.lload_n 3, 1) := by decide +kernel
theorem d_M_roundLoad_35 : decode b_M_roundLoad 35 = .ok (.lstore_n 3, 1) := by decide +kernel
theorem d_M_roundLoad_36 : decode b_M_roundLoad 36 = .ok (.iinc 5 1, 3) := by decide +kernel
theorem d_M_roundLoad_39 : decode b_M_roundLoad 39 = .ok (.goto (-34), 3) := by decide +kernel
theorem d_M_roundLoad_42 : decode b_M_roundLoad 42 = .ok (.lload_n 3, 1) := by decide +kernel
theorem d_M_roundLoad_43 : decode b_M_roundLoad 43 = .ok (.lreturn, 1) := by decide +kernel
theorem d_M_greatest_0 : decode b_M_greatest 0 = .ok (.lconst 0, 1) := by decide +kernel
theorem d_M_greatest_1 : decode b_M_greatest 1 = .ok (.lstore_n 2, 1) := by decide +kernel
theorem d_M_greatest_2 : decode b_M_greatest 2 = .ok (.iconst 0, 1) := by decide +kernel
theorem d_M_greatest_3 : decode b_M_greatest 3 = .ok (.istore 4, 2) := by decide +kernel
theorem d_M_greatest_5 : decode b_M_greatest 5 = .ok (.iload 4, 2) := by decide +kernel
theorem d_M_greatest_7 : decode b_M_greatest 7 = .ok (.iconst 4, 1) := by decide +kernel
theorem d_M_greatest_8 : decode b_M_greatest 8 = .ok (.if_icmp .ge 32, 3) := by decide +kernel
theorem d_M_greatest_11 : decode b_M_greatest 11 = .ok (.aload_n 0, 1) := by decide +kernel
theorem d_M_greatest_12 : decode b_M_greatest 12 = .ok (.aload_n 1, 1) := by decide +kernel
theorem d_M_greatest_13 : decode b_M_greatest 13 = .ok (.iload 4, 2) := by decide +kernel
theorem d_M_greatest_15 : decode b_M_greatest 15 = .ok (.invokevirtual 75, 3) := by decide +kernel
theorem d_M_greatest_18 : decode b_M_greatest 18 = .ok (.lstore 5, 2) := by decide +kernel
theorem d_M_greatest_20 : decode b_M_greatest 20 = .ok (.lload 5, 2) := by decide +kernel
theorem d_M_greatest_22 : decode b_M_greatest 22 = .ok (.lload_n 2, 1) := by decide +kernel
theorem d_M_greatest_23 : decode b_M_greatest 23 = .ok (.lcmp, 1) := by decide +kernel
theorem d_M_greatest_24 : decode b_M_greatest 24 = .ok (.ifCond .le 8, 3) := by decide +kernel
theorem d_M_greatest_27 : decode b_M_greatest 27 = .ok (.lload 5, 2) := by decide +kernel
theorem d_M_greatest_29 : decode b_M_greatest 29 = .ok (.goto 4, 3) := by decide +kernel
theorem d_M_greatest_32 : decode b_M_greatest 32 = .ok (.lload_n 2, 1) := by decide +kernel
theorem d_M_greatest_33 : decode b_M_greatest 33 = .ok (.lstore_n 2, 1) := by decide +kernel
theorem d_M_greatest_34 : decode b_M_greatest 34 = .ok (.iinc 4 1, 3) := by decide +kernel
theorem d_M_greatest_37 : decode b_M_greatest 37 = .ok (.goto (-32), 3) := by decide +kernel
theorem d_M_greatest_40 : decode b_M_greatest 40 = .ok (.lload_n 2, 1) := by decide +kernel
theorem d_M_greatest_41 : decode b_M_greatest 41 = .ok (.lreturn, 1) := by decide +kernel
theorem d_M_changedIn_0 : decode b_M_changedIn 0 = .ok (.iconst 0, 1) := by decide +kernel
theorem d_M_changedIn_1 : decode b_M_changedIn 1 = .ok (.istore_n 2, 1) := by decide +kernel
theorem d_M_changedIn_2 : decode b_M_changedIn 2 = .ok (.iconst 0, 1) := by decide +kernel
theorem d_M_changedIn_3 : decode b_M_changedIn 3 = .ok (.istore_n 3, 1) := by decide +kernel
theorem d_M_changedIn_4 : decode b_M_changedIn 4 = .ok (.iload_n 3, 1) := by decide +kernel
theorem d_M_changedIn_5 : decode b_M_changedIn 5 = .ok (.aload_n 0, 1) := by decide +kernel
theorem d_M_changedIn_6 : decode b_M_changedIn 6 = .ok (.getfield 36, 3) := by decide +kernel
theorem d_M_changedIn_9 : decode b_M_changedIn 9 = .ok (.if_icmp .ge 29, 3) := by decide +kernel
theorem d_M_changedIn_12 : decode b_M_changedIn 12 = .ok (.aload_n 1, 1) := by decide +kernel
theorem d_M_changedIn_13 : decode b_M_changedIn 13 = .ok (.iload_n 3, 1) := by decide +kernel
theorem d_M_changedIn_14 : decode b_M_changedIn 14 = .ok (.iaload, 1) := by decide +kernel
theorem d_M_changedIn_15 : decode b_M_changedIn 15 = .ok (.aload_n 0, 1) := by decide +kernel
theorem d_M_changedIn_16 : decode b_M_changedIn 16 = .ok (.getfield 13, 3) := by decide +kernel
theorem d_M_changedIn_19 : decode b_M_changedIn 19 = .ok (.iload_n 3, 1) := by decide +kernel
theorem d_M_changedIn_20 : decode b_M_changedIn 20 = .ok (.iaload, 1) := by decide +kernel
theorem d_M_changedIn_21 : decode b_M_changedIn 21 = .ok (.if_icmp .eq 9, 3) := by decide +kernel
theorem d_M_changedIn_24 : decode b_M_changedIn 24 = .ok (.iload_n 2, 1) := by decide +kernel
theorem d_M_changedIn_25 : decode b_M_changedIn 25 = .ok (.iconst 1, 1) := by decide +kernel
theorem d_M_changedIn_26 : decode b_M_changedIn 26 = .ok (.iadd, 1) := by decide +kernel
theorem d_M_changedIn_27 : decode b_M_changedIn 27 = .ok (.goto 4, 3) := by decide +kernel
theorem d_M_changedIn_30 : decode b_M_changedIn 30 = .ok (.iload_n 2, 1) := by decide +kernel
theorem d_M_changedIn_31 : decode b_M_changedIn 31 = .ok (.istore_n 2, 1) := by decide +kernel
theorem d_M_changedIn_32 : decode b_M_changedIn 32 = .ok (.iinc 3 1, 3) := by decide +kernel
theorem d_M_changedIn_35 : decode b_M_changedIn 35 = .ok (.goto (-31), 3) := by decide +kernel
theorem d_M_changedIn_38 : decode b_M_changedIn 38 = .ok (.iload_n 2, 1) := by decide +kernel
theorem d_M_changedIn_39 : decode b_M_changedIn 39 = .ok (.ireturn, 1) := by decide +kernel
theorem d_M_withHours_0 : decode b_M_withHours 0 = .ok (.iconst 0, 1) := by decide +kernel
theorem d_M_withHours_1 : decode b_M_withHours 1 = .ok (.istore_n 1, 1) := by decide +kernel
theorem d_M_withHours_2 : decode b_M_withHours 2 = .ok (.iconst 0, 1) := by decide +kernel
theorem d_M_withHours_3 : decode b_M_withHours 3 = .ok (.istore_n 2, 1) := by decide +kernel
theorem d_M_withHours_4 : decode b_M_withHours 4 = .ok (.iload_n 2, 1) := by decide +kernel
theorem d_M_withHours_5 : decode b_M_withHours 5 = .ok (.iconst 4, 1) := by decide +kernel
theorem d_M_withHours_6 : decode b_M_withHours 6 = .ok (.if_icmp .ge 28, 3) := by decide +kernel
theorem d_M_withHours_9 : decode b_M_withHours 9 = .ok (.aload_n 0, 1) := by decide +kernel
theorem d_M_withHours_10 : decode b_M_withHours 10 = .ok (.getfield 24, 3) := by decide +kernel
theorem d_M_withHours_13 : decode b_M_withHours 13 = .ok (.iload_n 2, 1) := by decide +kernel
theorem d_M_withHours_14 : decode b_M_withHours 14 = .ok (.laload, 1) := by decide +kernel
theorem d_M_withHours_15 : decode b_M_withHours 15 = .ok (.lconst 0, 1) := by decide +kernel
theorem d_M_withHours_16 : decode b_M_withHours 16 = .ok (.lcmp, 1) := by decide +kernel
theorem d_M_withHours_17 : decode b_M_withHours 17 = .ok (.ifCond .le 9, 3) := by decide +kernel
theorem d_M_withHours_20 : decode b_M_withHours 20 = .ok (.iload_n 1, 1) := by decide +kernel
theorem d_M_withHours_21 : decode b_M_withHours 21 = .ok (.iconst 1, 1) := by decide +kernel
theorem d_M_withHours_22 : decode b_M_withHours 22 = .ok (.iadd, 1) := by decide +kernel
theorem d_M_withHours_23 : decode b_M_withHours 23 = .ok (.goto 4, 3) := by decide +kernel
theorem d_M_withHours_26 : decode b_M_withHours 26 = .ok (.iload_n 1, 1) := by decide +kernel
theorem d_M_withHours_27 : decode b_M_withHours 27 = .ok (.istore_n 1, 1) := by decide +kernel
theorem d_M_withHours_28 : decode b_M_withHours 28 = .ok (.iinc 2 1, 3) := by decide +kernel
theorem d_M_withHours_31 : decode b_M_withHours 31 = .ok (.goto (-27), 3) := by decide +kernel
theorem d_M_withHours_34 : decode b_M_withHours 34 = .ok (.iload_n 1, 1) := by decide +kernel
theorem d_M_withHours_35 : decode b_M_withHours 35 = .ok (.ireturn, 1) := by decide +kernel
theorem d_M_lightest_0 : decode b_M_lightest 0 = .ok (.ldc2_w 98, 3) := by decide +kernel
theorem d_M_lightest_3 : decode b_M_lightest 3 = .ok (.lstore_n 2, 1) := by decide +kernel
theorem d_M_lightest_4 : decode b_M_lightest 4 = .ok (.iconst 0, 1) := by decide +kernel
theorem d_M_lightest_5 : decode b_M_lightest 5 = .ok (.istore 4, 2) := by decide +kernel
theorem d_M_lightest_7 : decode b_M_lightest 7 = .ok (.iload 4, 2) := by decide +kernel
theorem d_M_lightest_9 : decode b_M_lightest 9 = .ok (.iconst 4, 1) := by decide +kernel
theorem d_M_lightest_10 : decode b_M_lightest 10 = .ok (.if_icmp .ge 45, 3) := by decide +kernel
theorem d_M_lightest_13 : decode b_M_lightest 13 = .ok (.aload_n 0, 1) := by decide +kernel
theorem d_M_lightest_14 : decode b_M_lightest 14 = .ok (.getfield 24, 3) := by decide +kernel
theorem d_M_lightest_17 : decode b_M_lightest 17 = .ok (.iload 4, 2) := by decide +kernel
theorem d_M_lightest_19 : decode b_M_lightest 19 = .ok (.laload, 1) := by decide +kernel
theorem d_M_lightest_20 : decode b_M_lightest 20 = .ok (.lconst 0, 1) := by decide +kernel
theorem d_M_lightest_21 : decode b_M_lightest 21 = .ok (.lcmp, 1) := by decide +kernel
theorem d_M_lightest_22 : decode b_M_lightest 22 = .ok (.ifCond .le 25, 3) := by decide +kernel
theorem d_M_lightest_25 : decode b_M_lightest 25 = .ok (.aload_n 0, 1) := by decide +kernel
theorem d_M_lightest_26 : decode b_M_lightest 26 = .ok (.iload_n 1, 1) := by decide +kernel
theorem d_M_lightest_27 : decode b_M_lightest 27 = .ok (.iload 4, 2) := by decide +kernel
theorem d_M_lightest_29 : decode b_M_lightest 29 = .ok (.invokevirtual 71, 3) := by decide +kernel
theorem d_M_lightest_32 : decode b_M_lightest 32 = .ok (.lload_n 2, 1) := by decide +kernel
theorem d_M_lightest_33 : decode b_M_lightest 33 = .ok (.lcmp, 1) := by decide +kernel
theorem d_M_lightest_34 : decode b_M_lightest 34 = .ok (.ifCond .ge 13, 3) := by decide +kernel
theorem d_M_lightest_37 : decode b_M_lightest 37 = .ok (.aload_n 0, 1) := by decide +kernel
theorem d_M_lightest_38 : decode b_M_lightest 38 = .ok (.iload_n 1, 1) := by decide +kernel
theorem d_M_lightest_39 : decode b_M_lightest 39 = .ok (.iload 4, 2) := by decide +kernel
theorem d_M_lightest_41 : decode b_M_lightest 41 = .ok (.invokevirtual 71, 3) := by decide +kernel
theorem d_M_lightest_44 : decode b_M_lightest 44 = .ok (.goto 4, 3) := by decide +kernel
theorem d_M_lightest_47 : decode b_M_lightest 47 = .ok (.lload_n 2, 1) := by decide +kernel
theorem d_M_lightest_48 : decode b_M_lightest 48 = .ok (.lstore_n 2, 1) := by decide +kernel
theorem d_M_lightest_49 : decode b_M_lightest 49 = .ok (.iinc 4 1, 3) := by decide +kernel
theorem d_M_lightest_52 : decode b_M_lightest 52 = .ok (.goto (-45), 3) := by decide +kernel
theorem d_M_lightest_55 : decode b_M_lightest 55 = .ok (.lload_n 2, 1) := by decide +kernel
theorem d_M_lightest_56 : decode b_M_lightest 56 = .ok (.lreturn, 1) := by decide +kernel
theorem d_M_changes_0 : decode b_M_changes 0 = .ok (.aload_n 0, 1) := by decide +kernel
theorem d_M_changes_1 : decode b_M_changes 1 = .ok (.iconst 0, 1) := by decide +kernel
theorem d_M_changes_2 : decode b_M_changes 2 = .ok (.putfield 43, 3) := by decide +kernel
theorem d_M_changes_5 : decode b_M_changes 5 = .ok (.aload_n 0, 1) := by decide +kernel
theorem d_M_changes_6 : decode b_M_changes 6 = .ok (.iconst 0, 1) := by decide +kernel
theorem d_M_changes_7 : decode b_M_changes 7 = .ok (.putfield 47, 3) := by decide +kernel
theorem d_M_changes_10 : decode b_M_changes 10 = .ok (.return_, 1) := by decide +kernel

theorem bz_w_m {t : bz_T} {a r : Nat} (h : bz_k t r a = true) : bz_w t a r = 9 * bz_l t a / 10 + (if 0 < 9 * bz_l t a % 10 then 1 else 0) := by
  unfold bz_w
  rw [if_pos h]
  split <;> omega
def bz_lk (t : bz_T) (s : bz_S) (r i : Nat) : Nat := bz_sm (fun a => if bz_in t s r a then bz_w t a r else 0) i
theorem bz_lk_y {t : bz_T} {s : bz_S} {r i : Nat} (h : bz_in t s r i = true) : bz_lk t s r (i + 1) = bz_lk t s r i + bz_w t i r := by
  show bz_lk t s r i + (if bz_in t s r i then bz_w t i r else 0) = _
  rw [if_pos h]
theorem bz_lk_n {t : bz_T} {s : bz_S} {r i : Nat} (h : bz_in t s r i = false) : bz_lk t s r (i + 1) = bz_lk t s r i := by
  show bz_lk t s r i + (if bz_in t s r i then bz_w t i r else 0) = _
  rw [if_neg (by simp [h])]
  rfl
theorem bz_inf {t : bz_T} {f : Nat → Nat} {r i : Nat} (hi : i < bz_n t) : bz_in t (bz_fu f) r i = decide (f i = r) := by
  unfold bz_in bz_fu
  simp [hi]
theorem bz_lk_le {t : bz_T} (h : bz_ok t) (s : bz_S) (r : Nat) {i : Nat} (hi : i ≤ bz_n t) : bz_lk t s r i ≤ 30000000 := by
  have h1 := bz_sm_bd (f := fun a => if bz_in t s r a then bz_w t a r else 0) (b := 1000000) (n := i) (fun i _ => by
    have := bz_w_le h i r
    show (if bz_in t s r i then bz_w t i r else 0) ≤ 1000000
    split <;> omega)
  have h2 := h.1
  unfold bz_lk
  omega
def bz_ml (t : bz_T) (a : Nat) : Nat → Nat
  | 0 => 9223372036854775807
  | k + 1 => if bz_wh t k then min (bz_ml t a k) (bz_w t a k) else bz_ml t a k
theorem bz_ml_1 {t : bz_T} {a k : Nat} (h : 0 < bz_h t k) : bz_ml t a (k + 1) = min (bz_ml t a k) (bz_w t a k) := by
  show (if bz_wh t k then min (bz_ml t a k) (bz_w t a k) else bz_ml t a k) = _
  rw [if_pos (by unfold bz_wh; exact decide_eq_true h)]
theorem bz_ml_0 {t : bz_T} {a k : Nat} (h : bz_h t k ≤ 0) : bz_ml t a (k + 1) = bz_ml t a k := by
  show (if bz_wh t k then min (bz_ml t a k) (bz_w t a k) else bz_ml t a k) = _
  rw [if_neg (by unfold bz_wh; simp; omega)]
theorem bz_ml_le {t : bz_T} (a : Nat) : ∀ k, bz_ml t a k ≤ 9223372036854775807
  | 0 => Nat.le_refl _
  | k + 1 => by
    have := bz_ml_le (t := t) a k
    unfold bz_ml
    split <;> omega
theorem bz_w_l {t : bz_T} (a r : Nat) : bz_w t a r ≤ bz_l t a := by
  unfold bz_w
  split <;> omega
theorem bz_mn_ml {t : bz_T} (ht : bz_ok t) (a : Nat) : ∀ k, bz_mn t a k = min (bz_l t a) (bz_ml t a k)
  | 0 => by
    have := ht.2.1 a
    show bz_l t a = min (bz_l t a) 9223372036854775807
    omega
  | k + 1 => by
    have ih := bz_mn_ml ht a k
    by_cases h : 0 < bz_h t k
    · rw [bz_mn_1 h, bz_ml_1 h, ih]
      omega
    · rw [bz_mn_0 (by omega), bz_ml_0 (by omega), ih]
theorem bz_ml_w {t : bz_T} (a r : Nat) (h : 0 < bz_h t r) : ∀ k, r < k → bz_ml t a k ≤ bz_w t a r
  | 0, hk => absurd hk (by omega)
  | k + 1, hk => by
    by_cases e : r = k
    · subst e
      rw [bz_ml_1 h]
      omega
    · have ih := bz_ml_w a r h k (by omega)
      unfold bz_ml
      split <;> omega
theorem bz_ct_ex {f : Nat → Bool} : ∀ {n : Nat}, ¬ bz_ct f n = 0 → ∃ r, r < n ∧ f r = true
  | 0, h => absurd rfl h
  | n + 1, h => by
    by_cases e : f n = true
    · exact ⟨n, by omega, e⟩
    · rw [bz_ct_0 (by simpa using e)] at h
      obtain ⟨r, h1, h2⟩ := bz_ct_ex h
      exact ⟨r, by omega, h2⟩
theorem bz_ml_lg {t : bz_T} (ht : bz_ok t) (hc : ¬ bz_ct (bz_wh t) 4 = 0) (a : Nat) : bz_ml t a 4 = bz_lg t a := by
  obtain ⟨r, h1, h2⟩ := bz_ct_ex hc
  have h3 := bz_ml_w a r (of_decide_eq_true h2) 4 h1
  have h4 := bz_w_l (t := t) a r
  have h5 := bz_mn_ml ht a 4
  unfold bz_lg
  omega

set_option maxHeartbeats 4000000 in
set_option maxRecDepth 100000 in
/-- isIn -/
theorem c_M_isIn (l : Launch) (dC : Nat → ClassId) (dI : Nat → Nat → Nat) (am : Nat → Nat) (cI cL cZ : ClassId) (T : bz_RT) (th sv ex : Int32) (S1 S2 S3 : Nat → Int32) (x lo hi : Int64) : Met l y_M_isIn w_M_isIn ({ frames := 0, cells := 0, slots := 0, locals := 0 }) (bz_Pr (dC, dI) [(cI, .int), (cL, .long), (cZ, .boolean)] (bz_wM am cI cL cZ T (th, sv, ex) (S1, S2, S3)) [.long x, .long lo, .long hi]) (vp_Si (fun r9 => r9 = bz_i (decide (lo ≤ x ∧ x ≤ hi)))) 0 0 (fun _ => False) := by
  refine Met.ofW (cc := b_M_isIn) (maxL := 6) (ret := (some .boolean)) (by decide) rfl ?_
  intro p e s m args below meth c s₁ B hml hv
  obtain ⟨rfl, hP, hK, hN⟩ := hv
  have hx := B.exec
  have hb := B.bytes
  have hr := B.returns
  have hts := atoms_spec (ws := w_M_isIn) B.pre
  have hown : s.vm.findClass R_M = some m.cls := findClass_of_methodNamed B.named
  have htb : ∀ w ∈ bz_tb, w.before _ s = true := fun w h => hts w (List.mem_cons_of_mem _ h)
  have hlocks := B.notSynchronized
  have hl := lv_entry ([.long x, .long lo, .long hi]) (n := 6) (Nat.le_of_ble_eq_true rfl)
  rw [lg_entry_eq]
  generalize (lg_sl ([.long x, .long lo, .long hi]) ++ List.replicate (6 - (lg_sl ([.long x, .long lo, .long hi])).length) Slot.unset).toArray = ls at hl ⊢
  have hl : lv_has ls 6 [(0, .long x), (2, .long lo), (4, .long hi)] := hl
  refine lv_lload_n hx hb d_M_isIn_0 rfl (lv_at hl 0 rfl) ?_
  refine lv_lload_n hx hb d_M_isIn_1 rfl (lv_at hl 1 rfl) ?_
  refine W.lcmp hx hb d_M_isIn_2 ?_
  refine lv_if_lt (tgt := 17) hx hb d_M_isIn_3 (by decide) (fun c_3 => ?_) (fun c_3 => ?_)
  · skip
    have hq : decide (lo ≤ x ∧ x ≤ hi) = false := decide_eq_false fun z => Int64.not_lt.mpr z.1 ((lg_cmp_lt x lo).mp c_3)
    refine lv_iconst (v := 0) hx hb d_M_isIn_17 (by decide) ?_
    exact W.zret (v := 0) hx hb hr (rfl) (fun t9 ht9 hW => ⟨0, rfl, by rw [hq]; rfl, ht9⟩) (fun _ h => nomatch h) d_M_isIn_18
  · skip
    refine lv_lload_n hx hb d_M_isIn_6 rfl (lv_at hl 0 rfl) ?_
    refine lv_lload hx hb d_M_isIn_7 (lv_at hl 2 rfl) ?_
    refine W.lcmp hx hb d_M_isIn_9 ?_
    refine lv_if_gt (tgt := 17) hx hb d_M_isIn_10 (by decide) (fun c_10 => ?_) (fun c_10 => ?_)
    · skip
      have hq : decide (lo ≤ x ∧ x ≤ hi) = false := decide_eq_false fun z => Int64.not_lt.mpr z.2 ((lg_cmp_gt x hi).mp c_10)
      refine lv_iconst (v := 0) hx hb d_M_isIn_17 (by decide) ?_
      exact W.zret (v := 0) hx hb hr (rfl) (fun t9 ht9 hW => ⟨0, rfl, by rw [hq]; rfl, ht9⟩) (fun _ h => nomatch h) d_M_isIn_18
    · skip
      have hq : decide (lo ≤ x ∧ x ≤ hi) = true := decide_eq_true ⟨Int64.not_lt.mp fun z => c_3 ((lg_cmp_lt x lo).mpr z), Int64.not_lt.mp fun z => c_10 ((lg_cmp_gt x hi).mpr z)⟩
      refine lv_iconst (v := 1) hx hb d_M_isIn_13 (by decide) ?_
      refine lv_goto (tgt := 18) hx hb d_M_isIn_14 (by decide) ?_
      exact W.zret (v := 1) hx hb hr (rfl) (fun t9 ht9 hW => ⟨1, rfl, by rw [hq]; rfl, ht9⟩) (fun _ h => nomatch h) d_M_isIn_18

set_option maxHeartbeats 4000000 in
set_option maxRecDepth 100000 in
/-- isArea -/
theorem c_M_isArea (l : Launch) (dC : Nat → ClassId) (dI : Nat → Nat → Nat) (am : Nat → Nat) (cI cL cZ : ClassId) (t : bz_T) (th sv ex : Int32) (S1 S2 S3 : Nat → Int32) (ht : bz_ok t) (z : Int32) : Met l y_M_isArea w_M_isArea ({ frames := 0, cells := 0, slots := 0, locals := 0 }) (bz_Pr (dC, dI) [(cI, .int), (cL, .long), (cZ, .boolean)] (bz_wM am cI cL cZ (bz_tM t) (th, sv, ex) (S1, S2, S3)) [.ref (am 0), .int z]) (vp_Si (fun r9 => r9 = bz_i (bz_ia (bz_n t) z))) 0 0 (fun _ => False) := by
  refine Met.ofW (cc := b_M_isArea) (maxL := 2) (ret := (some .boolean)) (by decide) rfl ?_
  intro p e s m args below meth c s₁ B hml hv
  obtain ⟨rfl, hP, hK, hN⟩ := hv
  have hx := B.exec
  have hb := B.bytes
  have hr := B.returns
  have hts := atoms_spec (ws := w_M_isArea) B.pre
  have hown : s.vm.findClass R_M = some m.cls := findClass_of_methodNamed B.named
  have htb : ∀ w ∈ bz_tb, w.before _ s = true := fun w h => hts w (List.mem_cons_of_mem _ h)
  have hlocks := B.notSynchronized
  have hl := lv_entry ([.ref (am 0), .int z]) (n := 2) (Nat.le_of_ble_eq_true rfl)
  rw [lg_entry_eq]
  generalize (lg_sl ([.ref (am 0), .int z]) ++ List.replicate (2 - (lg_sl ([.ref (am 0), .int z])).length) Slot.unset).toArray = ls at hl ⊢
  have hl : lv_has ls 2 [(0, .ref (am 0)), (1, .int z)] := hl
  refine lv_iload_n hx hb d_M_isArea_0 rfl (lv_at hl 1 rfl) ?_
  refine lv_iconst (v := 1) hx hb d_M_isArea_1 (by decide) ?_
  refine lv_icmp_lt (tgt := 17) hx hb d_M_isArea_2 (by decide) (fun c_2 => ?_) (fun c_2 => ?_)
  · skip
    have hq : bz_ia (bz_n t) z = false := decide_eq_false fun q => Int32.not_lt.mpr q.1 c_2
    refine lv_iconst (v := 0) hx hb d_M_isArea_17 (by decide) ?_
    exact W.zret (v := 0) hx hb hr (rfl) (fun t9 ht9 hW => ⟨0, rfl, by rw [hq]; rfl, ht9⟩) (fun _ h => nomatch h) d_M_isArea_18
  · skip
    refine lv_iload_n hx hb d_M_isArea_5 rfl (lv_at hl 1 rfl) ?_
    refine lv_aload_n hx hb d_M_isArea_6 rfl (lv_at hl 0 rfl) ?_
    refine va_get (D := (dC, dI)) (ci := 4) (v := .int (nI (bz_n t))) (C := R_M) (T := F_M) (N := 12) hx hb htb in_M hown hK hP 0 rfl rfl 1 (by decide) (htb _ wd_411) (fun _ h9 => h9) rfl d_M_isArea_7 ?_
    refine lv_icmp_gt (tgt := 17) hx hb d_M_isArea_10 (by decide) (fun c_10 => ?_) (fun c_10 => ?_)
    · skip
      have hq : bz_ia (bz_n t) z = false := decide_eq_false fun q => Int32.not_lt.mpr q.2 c_10
      refine lv_iconst (v := 0) hx hb d_M_isArea_17 (by decide) ?_
      exact W.zret (v := 0) hx hb hr (rfl) (fun t9 ht9 hW => ⟨0, rfl, by rw [hq]; rfl, ht9⟩) (fun _ h => nomatch h) d_M_isArea_18
    · skip
      have hq : bz_ia (bz_n t) z = true := decide_eq_true ⟨Int32.not_lt.mp c_2, Int32.not_lt.mp c_10⟩
      refine lv_iconst (v := 1) hx hb d_M_isArea_13 (by decide) ?_
      refine lv_goto (tgt := 18) hx hb d_M_isArea_14 (by decide) ?_
      exact W.zret (v := 1) hx hb hr (rfl) (fun t9 ht9 hW => ⟨1, rfl, by rw [hq]; rfl, ht9⟩) (fun _ h => nomatch h) d_M_isArea_18

set_option maxHeartbeats 4000000 in
set_option maxRecDepth 100000 in
/-- thrown -/
theorem c_M_thrown (l : Launch) (dC : Nat → ClassId) (dI : Nat → Nat → Nat) (am : Nat → Nat) (cI cL cZ : ClassId) (t : bz_T) (th sv ex : Int32) (S1 S2 S3 : Nat → Int32) (ht : bz_ok t) : Met l y_M_thrown w_M_thrown ({ frames := 0, cells := 0, slots := 0, locals := 0 }) (bz_Pr (dC, dI) [(cI, .int), (cL, .long), (cZ, .boolean)] (bz_wM am cI cL cZ (bz_tM t) (th, sv, ex) (S1, S2, S3)) [.ref (am 0)]) (vp_Si (fun r9 => r9 = th)) 0 0 (fun _ => False) := by
  refine Met.ofW (cc := b_M_thrown) (maxL := 1) (ret := (some .int)) (by decide) rfl ?_
  intro p e s m args below meth c s₁ B hml hv
  obtain ⟨rfl, hP, hK, hN⟩ := hv
  have hx := B.exec
  have hb := B.bytes
  have hr := B.returns
  have hts := atoms_spec (ws := w_M_thrown) B.pre
  have hown : s.vm.findClass R_M = some m.cls := findClass_of_methodNamed B.named
  have htb : ∀ w ∈ bz_tb, w.before _ s = true := fun w h => hts w (List.mem_cons_of_mem _ h)
  have hlocks := B.notSynchronized
  have hl := lv_entry ([.ref (am 0)]) (n := 1) (Nat.le_of_ble_eq_true rfl)
  rw [lg_entry_eq]
  generalize (lg_sl ([.ref (am 0)]) ++ List.replicate (1 - (lg_sl ([.ref (am 0)])).length) Slot.unset).toArray = ls at hl ⊢
  have hl : lv_has ls 1 [(0, .ref (am 0))] := hl
  refine lv_aload_n hx hb d_M_thrown_0 rfl (lv_at hl 0 rfl) ?_
  refine va_get (D := (dC, dI)) (ci := 4) (v := .int th) (C := R_M) (T := F_M) (N := 12) hx hb htb in_M hown hK hP 0 rfl rfl 0 (by decide) (htb _ wd_410) (fun _ h9 => h9) rfl d_M_thrown_1 ?_
  exact W.iret (v := th) hx hb hr (fun t9 ht9 hW => ⟨th, rfl, rfl, ht9⟩) (fun _ h => nomatch h) d_M_thrown_4

set_option maxHeartbeats 4000000 in
set_option maxRecDepth 100000 in
/-- changes -/
theorem c_M_changes (l : Launch) (dC : Nat → ClassId) (dI : Nat → Nat → Nat) (sz : Nat) (am : Nat → Nat) (cI cL cZ : ClassId) (T : bz_RT) (th sv ex : Int32) (S1 S2 S3 : Nat → Int32) : Met l y_M_changes w_M_changes ({ frames := 0, cells := 0, slots := 0, locals := 0 }) (bz_Pw (dC, dI) [(cI, .int), (cL, .long), (cZ, .boolean)] (bz_wM am cI cL cZ T (th, sv, ex) (S1, S2, S3)) sz [.ref (am 0)]) (bz_Qv (dC, dI) [(cI, .int), (cL, .long), (cZ, .boolean)] (va_A (bz_wM am cI cL cZ T (th, sv, ex) (S1, S2, S3)) sz) (bz_wM am cI cL cZ T (th, 0, 0) (S1, S2, S3))) 0 0 (va_A (bz_wM am cI cL cZ T (th, sv, ex) (S1, S2, S3)) sz) := by
  refine Met.ofW (cc := b_M_changes) (maxL := 1) (ret := none) (by decide) rfl ?_
  intro p e s m args below meth c s₁ B hml hv
  obtain ⟨rfl, hsz, hP, hK, hD0, hN⟩ := hv
  have hx := B.exec
  have hb := B.bytes
  have hr := B.returns
  have hts := atoms_spec (ws := w_M_changes) B.pre
  have hown : s.vm.findClass R_M = some m.cls := findClass_of_methodNamed B.named
  have htb : ∀ w ∈ bz_tb, w.before _ s = true := fun w h => hts w (List.mem_cons_of_mem _ h)
  have hlocks := B.notSynchronized
  subst hsz
  have hD := hD0.self (sz := s.heap.size)
  generalize hAe : va_A (bz_wM am cI cL cZ T (th, sv, ex) (S1, S2, S3)) s.heap.size = A at hD ⊢
  have hA : ∀ q : Nat, s.heap.size ≤ q → A q := fun q h => by rw [← hAe]; exact Or.inr h
  have hS : va_S A s.heap s.heap [] := va_S.rf
  have hl := lv_entry ([.ref (am 0)]) (n := 1) (Nat.le_of_ble_eq_true rfl)
  rw [lg_entry_eq]
  generalize (lg_sl ([.ref (am 0)]) ++ List.replicate (1 - (lg_sl ([.ref (am 0)])).length) Slot.unset).toArray = ls at hl ⊢
  have hl : lv_has ls 1 [(0, .ref (am 0))] := hl
  refine lv_aload_n hx hb d_M_changes_0 rfl (lv_at hl 0 rfl) ?_
  refine lv_iconst (v := 0) hx hb d_M_changes_1 (by decide) ?_
  refine va_put (D := (dC, dI)) (ci := 4) (v := .int 0) (ty := .boolean) (C := R_M) (T := F_M) (N := 12) hx hb htb in_M tf_M tok_M n_M hown hK hP hD hS 0 rfl rfl 7 (by decide) (htb _ wd_417) (fun _ h9 => h9) rfl (by decide +kernel) rfl rfl (Nat.le_of_ble_eq_true rfl) d_M_changes_2 (fun H locs hP hD hS => ?_)
  have hP : va_P (dC, dI) vwCl (bz_wM am cI cL cZ T (th, 0, ex) (S1, S2, S3)) H := hP
  have hD : va_D A (bz_wM am cI cL cZ T (th, 0, ex) (S1, S2, S3)) := hD
  refine lv_aload_n hx hb d_M_changes_5 rfl (lv_at hl 0 rfl) ?_
  refine lv_iconst (v := 0) hx hb d_M_changes_6 (by decide) ?_
  refine va_put (D := (dC, dI)) (ci := 4) (v := .int 0) (ty := .boolean) (C := R_M) (T := F_M) (N := 12) hx hb htb in_M tf_M tok_M n_M hown hK hP hD hS 0 rfl rfl 8 (by decide) (htb _ wd_418) (fun _ h9 => h9) rfl (by decide +kernel) rfl rfl (Nat.le_of_ble_eq_true rfl) d_M_changes_7 (fun H locs hP hD hS => ?_)
  have hP : va_P (dC, dI) vwCl (bz_wM am cI cL cZ T (th, 0, 0) (S1, S2, S3)) H := hP
  have hD : va_D A (bz_wM am cI cL cZ T (th, 0, 0) (S1, S2, S3)) := hD
  exact W.vret hx hb hr (fun t9 ht9 hW => ⟨⟨(), rfl, trivial, by rw [ht9]; exact hP, va_K.moved hW.alike hK, hD⟩, hS.F ht9⟩) hS.2.2 d_M_changes_10

set_option maxHeartbeats 4000000 in
set_option maxRecDepth 100000 in
/-- loadOf -/
theorem c_M_loadOf (l : Launch) (dC : Nat → ClassId) (dI : Nat → Nat → Nat) (am : Nat → Nat) (cI cL cZ : ClassId) (t : bz_T) (th sv ex : Int32) (S1 S2 S3 : Nat → Int32) (ht : bz_ok t) (a r : Nat) (ha : a < 30) (hr4 : r < 4) : Met l y_M_loadOf w_M_loadOf ({ frames := 0, cells := 0, slots := 0, locals := 0 }) (bz_Pr (dC, dI) [(cI, .int), (cL, .long), (cZ, .boolean)] (bz_wM am cI cL cZ (bz_tM t) (th, sv, ex) (S1, S2, S3)) [.ref (am 0), .int (nI a), .int (nI r)]) (vp_Sl (fun r9 => r9 = lN (bz_w t a r))) 0 0 (fun _ => False) := by
  refine Met.ofW (cc := b_M_loadOf) (maxL := 5) (ret := (some .long)) (by decide) rfl ?_
  intro p e s m args below meth c s₁ B hml hv
  obtain ⟨rfl, hP, hK, hN⟩ := hv
  have hx := B.exec
  have hb := B.bytes
  have hr := B.returns
  have hts := atoms_spec (ws := w_M_loadOf) B.pre
  have hown : s.vm.findClass R_M = some m.cls := findClass_of_methodNamed B.named
  have htb : ∀ w ∈ bz_tb, w.before _ s = true := fun w h => hts w (List.mem_cons_of_mem _ h)
  have hlocks := B.notSynchronized
  have hl := lv_entry ([.ref (am 0), .int (nI a), .int (nI r)]) (n := 5) (Nat.le_of_ble_eq_true rfl)
  rw [lg_entry_eq]
  generalize (lg_sl ([.ref (am 0), .int (nI a), .int (nI r)]) ++ List.replicate (5 - (lg_sl ([.ref (am 0), .int (nI a), .int (nI r)])).length) Slot.unset).toArray = ls at hl ⊢
  have hl : lv_has ls 5 [(0, .ref (am 0)), (1, .int (nI a)), (2, .int (nI r))] := hl
  have hla := ht.2.1 a
  refine lv_ldc2 (v := 9) hx hb hown (htb _ wd_509) d_M_loadOf_0 ?_
  refine lv_aload_n hx hb d_M_loadOf_3 rfl (lv_at hl 0 rfl) ?_
  refine va_get (D := (dC, dI)) (ci := 4) (v := .ref (am 1)) (C := R_M) (T := F_M) (N := 12) hx hb htb in_M hown hK hP 0 rfl rfl 2 (by decide) (htb _ wd_412) (fun _ h9 => h9) rfl d_M_loadOf_4 ?_
  refine lv_iload_n hx hb d_M_loadOf_7 rfl (lv_at hl 1 rfl) ?_
  refine bz_lald (v := lN (bz_l t a)) hx hb hK hP 1 1 rfl rfl (a9 := a) (by omega) (by decide) (rfl) d_M_loadOf_8 ?_
  refine lv_lmul hx hb d_M_loadOf_9 ?_
  refine bz_rl (y := lN (9 * bz_l t a)) (lN_mul 9 _) ?_
  refine lv_lstore_n (lv' := [(3, .long (lN (9 * bz_l t a))), (0, .ref (am 0)), (1, .int (nI a)), (2, .int (nI r))]) hx hb d_M_loadOf_10 rfl hl (by decide) rfl (fun ls hl => ?_)
  refine lv_aload_n hx hb d_M_loadOf_11 rfl (lv_at hl 1 rfl) ?_
  refine va_get (D := (dC, dI)) (ci := 4) (v := .ref (am 4)) (C := R_M) (T := F_M) (N := 12) hx hb htb in_M hown hK hP 0 rfl rfl 5 (by decide) (htb _ wd_415) (fun _ h9 => h9) rfl d_M_loadOf_12 ?_
  refine lv_bipush (v := 30) hx hb d_M_loadOf_15 (by decide) ?_
  refine lv_iload_n hx hb d_M_loadOf_17 rfl (lv_at hl 3 rfl) ?_
  refine lv_imul hx hb d_M_loadOf_18 ?_
  refine bz_ri (y := nI (30 * r)) (pk_mul 30 _) ?_
  refine lv_iload_n hx hb d_M_loadOf_19 rfl (lv_at hl 2 rfl) ?_
  refine lv_iadd hx hb d_M_loadOf_20 ?_
  refine bz_ri (y := nI (30 * r + a)) (nI_add _ _) ?_
  refine bz_zald (v := bz_i (bz_k t r a)) hx hb hK hP 4 2 rfl rfl (a9 := (30 * r + a)) (by omega) (by decide) (by show bz_i (bz_k t ((30 * r + a) / 30) ((30 * r + a) % 30)) = _; rw [show (30 * r + a) / 30 = r by omega, show (30 * r + a) % 30 = a by omega]) d_M_loadOf_21 ?_
  refine lv_if_eq (tgt := 49) hx hb d_M_loadOf_22 (by decide) (fun c_22 => ?_) (fun c_22 => ?_)
  · skip
    have hq := bz_i_eq c_22
    refine lv_aload_n hx hb d_M_loadOf_49 rfl (lv_at hl 1 rfl) ?_
    refine va_get (D := (dC, dI)) (ci := 4) (v := .ref (am 1)) (C := R_M) (T := F_M) (N := 12) hx hb htb in_M hown hK hP 0 rfl rfl 2 (by decide) (htb _ wd_412) (fun _ h9 => h9) rfl d_M_loadOf_50 ?_
    refine lv_iload_n hx hb d_M_loadOf_53 rfl (lv_at hl 2 rfl) ?_
    refine bz_lald (v := lN (bz_l t a)) hx hb hK hP 1 1 rfl rfl (a9 := a) (by omega) (by decide) (rfl) d_M_loadOf_54 ?_
    refine bz_rl (y := lN (bz_w t a r)) (bz_w_n hq) ?_
    exact W.lret (v := lN (bz_w t a r)) hx hb hr (fun t9 ht9 hW => ⟨lN (bz_w t a r), rfl, rfl, ht9⟩) (fun _ h => nomatch h) d_M_loadOf_55
  · skip
    have hq := bz_i_ne c_22
    refine lv_lload_n hx hb d_M_loadOf_25 rfl (lv_at hl 0 rfl) ?_
    refine lv_ldc2 (v := 10) hx hb hown (htb _ wd_510) d_M_loadOf_26 ?_
    refine lv_ldiv hx hb d_M_loadOf_29 (by decide) ?_
    refine bz_rl (y := lN (9 * bz_l t a / 10)) (pk_lDiv (b := 10) (by omega) (by omega) (by omega)) ?_
    refine lv_lload_n hx hb d_M_loadOf_30 rfl (lv_at hl 0 rfl) ?_
    refine lv_ldc2 (v := 10) hx hb hown (htb _ wd_510) d_M_loadOf_31 ?_
    refine lv_lrem hx hb d_M_loadOf_34 (by decide) ?_
    refine bz_rl (y := lN (9 * bz_l t a % 10)) (pk_lRem (b := 10) (by omega) (by omega) (by omega)) ?_
    refine lv_lconst (v := 0) hx hb d_M_loadOf_35 (by decide) ?_
    refine W.lcmp hx hb d_M_loadOf_36 ?_
    refine lv_if_le (tgt := 44) hx hb d_M_loadOf_37 (by decide) (fun c_37 => ?_) (fun c_37 => ?_)
    · skip
      have hm : ¬ 0 < 9 * bz_l t a % 10 := Nat.not_lt.mpr ((bz_lc_le (b := 0) (by omega) (by omega)).mp c_37)
      refine lv_lconst (v := 0) hx hb d_M_loadOf_44 (by decide) ?_
      refine lv_ladd hx hb d_M_loadOf_45 ?_
      refine bz_rl (y := lN (bz_w t a r)) (by rw [show (0 : Int64) = lN 0 from rfl, lN_add, bz_w_m hq, if_neg hm]) ?_
      refine lv_goto (tgt := 55) hx hb d_M_loadOf_46 (by decide) ?_
      exact W.lret (v := lN (bz_w t a r)) hx hb hr (fun t9 ht9 hW => ⟨lN (bz_w t a r), rfl, rfl, ht9⟩) (fun _ h => nomatch h) d_M_loadOf_55
    · skip
      have hm : 0 < 9 * bz_l t a % 10 := Nat.lt_of_not_le fun z => c_37 ((bz_lc_le (b := 0) (by omega) (by omega)).mpr z)
      refine lv_lconst (v := 1) hx hb d_M_loadOf_40 (by decide) ?_
      refine lv_goto (tgt := 45) hx hb d_M_loadOf_41 (by decide) ?_
      refine lv_ladd hx hb d_M_loadOf_45 ?_
      refine bz_rl (y := lN (bz_w t a r)) (by rw [lN_1, bz_w_m hq, if_pos hm]) ?_
      refine lv_goto (tgt := 55) hx hb d_M_loadOf_46 (by decide) ?_
      exact W.lret (v := lN (bz_w t a r)) hx hb hr (fun t9 ht9 hW => ⟨lN (bz_w t a r), rfl, rfl, ht9⟩) (fun _ h => nomatch h) d_M_loadOf_55

set_option maxHeartbeats 4000000 in
set_option maxRecDepth 100000 in
/-- roundLoad of share -/
theorem c_M_roundLoad_share (l : Launch) (dC : Nat → ClassId) (dI : Nat → Nat → Nat) (am : Nat → Nat) (cI cL cZ : ClassId) (t : bz_T) (th sv ex : Int32) (f : Nat → Nat) (S2 S3 : Nat → Int32) (ht : bz_ok t) (r : Nat) (hr4 : r < 4) (hf : ∀ a, a < bz_n t → f a < 4) : Met l y_M_roundLoad w_M_roundLoad ({ frames := 1, cells := 0, slots := 0, locals := 24 }) (bz_Pr (dC, dI) [(cI, .int), (cL, .long), (cZ, .boolean)] (bz_wM am cI cL cZ (bz_tM t) (th, sv, ex) ((fun a => nI (f a)), S2, S3)) [.ref (am 0), .ref (am 6), .int (nI r)]) (vp_Sl (fun r9 => r9 = lN (bz_ld t (bz_fu f) r))) 0 0 (fun _ => False) := by
  refine Met.ofW (cc := b_M_roundLoad) (maxL := 6) (ret := (some .long)) (by decide) rfl ?_
  intro p e s m args below meth c s₁ B hml hv
  obtain ⟨rfl, hP, hK, hN⟩ := hv
  have hx := B.exec
  have hb := B.bytes
  have hr := B.returns
  have hts := atoms_spec (ws := w_M_roundLoad) B.pre
  have hown : s.vm.findClass R_M = some m.cls := findClass_of_methodNamed B.named
  have htb : ∀ w ∈ bz_tb, w.before _ s = true := fun w h => hts w (List.mem_cons_of_mem _ h)
  have hlocks := B.notSynchronized
  have hl := lv_entry ([.ref (am 0), .ref (am 6), .int (nI r)]) (n := 6) (Nat.le_of_ble_eq_true rfl)
  rw [lg_entry_eq]
  generalize (lg_sl ([.ref (am 0), .ref (am 6), .int (nI r)]) ++ List.replicate (6 - (lg_sl ([.ref (am 0), .ref (am 6), .int (nI r)])).length) Slot.unset).toArray = ls at hl ⊢
  have hl : lv_has ls 6 [(0, .ref (am 0)), (1, .ref (am 6)), (2, .int (nI r))] := hl
  have hn30 := ht.1
  refine lv_lconst (v := 0) hx hb d_M_roundLoad_0 (by decide) ?_
  refine bz_rl (y := lN (bz_lk t (bz_fu f) r 0)) (rfl) ?_
  refine lv_lstore_n (lv' := [(3, .long (lN (bz_lk t (bz_fu f) r 0))), (0, .ref (am 0)), (1, .ref (am 6)), (2, .int (nI r))]) hx hb d_M_roundLoad_1 rfl hl (by decide) rfl (fun ls hl => ?_)
  refine lv_iconst (v := nI 0) hx hb d_M_roundLoad_2 (by decide) ?_
  refine lv_istore (lv' := [(5, .int (nI 0)), (3, .long (lN (bz_lk t (bz_fu f) r 0))), (0, .ref (am 0)), (1, .ref (am 6)), (2, .int (nI r))]) hx hb d_M_roundLoad_3 hl (by decide) rfl (fun ls hl => ?_)
  have lp : ∀ (k9 : Nat) (i : Nat), bz_n t - i < k9 → (i ≤ bz_n t) → ∀ (ls : Array Slot), lv_has ls 6 [(0, .ref (am 0)), (1, .ref (am 6)), (2, .int (nI r)), (3, .long (lN (bz_lk t (bz_fu f) r i))), (5, .int (nI i))] → W p l e (headSpec w_M_roundLoad ({ frames := 1, cells := 0, slots := 0, locals := 24 })).room s m ([.ref (am 0), .ref (am 6), .int (nI r)]).toArray below meth c s.heap [] 0 0 (MQ below (vp_Sl (fun r9 => r9 = lN (bz_ld t (bz_fu f) r))) ([.ref (am 0), .ref (am 6), .int (nI r)]).toArray s 0 0 (fun _ => False)) (F0 m 5 ls []) := by
    intro k9
    induction k9 with
    | zero =>
      intro i h9
      exact absurd h9 (Nat.not_lt_zero _)
    | succ k9 ihlp =>
      intro i h9_lp hi ls hl
      refine lv_iload hx hb d_M_roundLoad_5 (lv_at hl 4 rfl) ?_
      refine lv_aload_n hx hb d_M_roundLoad_7 rfl (lv_at hl 0 rfl) ?_
      refine va_get (D := (dC, dI)) (ci := 4) (v := .int (nI (bz_n t))) (C := R_M) (T := F_M) (N := 12) hx hb htb in_M hown hK hP 0 rfl rfl 1 (by decide) (htb _ wd_411) (fun _ h9 => h9) rfl d_M_roundLoad_8 ?_
      refine lv_icmp_ge (tgt := 42) hx hb d_M_roundLoad_11 (by decide) (fun c_11 => ?_) (fun c_11 => ?_)
      · skip
        have hin : i = bz_n t := by have := (nI_leI (by omega) (by omega)).mp c_11; omega
        refine lv_lload_n hx hb d_M_roundLoad_42 rfl (lv_at hl 3 rfl) ?_
        exact W.lret (v := lN (bz_lk t (bz_fu f) r i)) hx hb hr (fun t9 ht9 hW => ⟨lN (bz_lk t (bz_fu f) r i), rfl, by rw [hin]; rfl, ht9⟩) (fun _ h => nomatch h) d_M_roundLoad_43
      · skip
        have hin : i < bz_n t := Nat.lt_of_not_le fun z => c_11 ((nI_leI (by omega) (by omega)).mpr z)
        have hfi := hf i hin
        refine lv_aload_n hx hb d_M_roundLoad_14 rfl (lv_at hl 1 rfl) ?_
        refine lv_iload hx hb d_M_roundLoad_15 (lv_at hl 4 rfl) ?_
        refine bz_iald (v := nI (f i)) hx hb hK hP 6 0 rfl rfl (a9 := i) (by omega) (by decide) (rfl) d_M_roundLoad_17 ?_
        refine lv_iload_n hx hb d_M_roundLoad_18 rfl (lv_at hl 2 rfl) ?_
        refine lv_icmp_ne (tgt := 34) hx hb d_M_roundLoad_19 (by decide) (fun c_19 => ?_) (fun c_19 => ?_)
        · skip
          have hq : bz_in t (bz_fu f) r i = false := by rw [bz_inf hin]; exact decide_eq_false fun z => c_19 (by rw [z])
          refine lv_lload_n hx hb d_M_roundLoad_34 rfl (lv_at hl 3 rfl) ?_
          refine bz_rl (y := lN (bz_lk t (bz_fu f) r (i + 1))) (by rw [bz_lk_n hq]) ?_
          refine lv_lstore_n (lv' := [(3, .long (lN (bz_lk t (bz_fu f) r (i + 1)))), (0, .ref (am 0)), (1, .ref (am 6)), (2, .int (nI r)), (5, .int (nI i))]) hx hb d_M_roundLoad_35 rfl hl (by decide) rfl (fun ls hl => ?_)
          refine lv_iinc (v := nI (i + 1)) (lv' := [(5, .int (nI (i + 1))), (3, .long (lN (bz_lk t (bz_fu f) r (i + 1)))), (0, .ref (am 0)), (1, .ref (am 6)), (2, .int (nI r))]) hx hb d_M_roundLoad_36 hl (k := 4) rfl (nI_1 _) (by decide) rfl (fun ls hl => ?_)
          refine lv_goto (tgt := 5) hx hb d_M_roundLoad_39 (by decide) ?_
          exact ihlp (i + 1) (by omega) (by omega) ls (lv_sub hl [2, 3, 4, 1, 0] rfl)
        · skip
          have hq : bz_in t (bz_fu f) r i = true := by rw [bz_inf hin]; exact decide_eq_true ((nI_eq (by omega) (by omega)).mp c_19)
          refine lv_lload_n hx hb d_M_roundLoad_22 rfl (lv_at hl 3 rfl) ?_
          refine lv_aload_n hx hb d_M_roundLoad_23 rfl (lv_at hl 0 rfl) ?_
          refine lv_iload hx hb d_M_roundLoad_24 (lv_at hl 4 rfl) ?_
          refine lv_iload_n hx hb d_M_roundLoad_26 rfl (lv_at hl 2 rfl) ?_
          refine bz_sl (va_runV (As := [.int (nI i), .int (nI r)]) (rest := [.long (lN (bz_lk t (bz_fu f) r i))]) ⟨hx, hb, hml, hown, htb⟩ (c_M_loadOf l dC dI am cI cL cZ t th sv ex (fun a => nI (f a)) S2 S3 ht _ _ (by omega) (by omega)) (cwV 2 htb (bz_gV wd_508 wd_505 wd_507 wd_11 wd_23) rfl rfl rfl (by decide +kernel) ⟨Nat.le_of_ble_eq_true rfl, Nat.le_of_ble_eq_true rfl⟩) (bz_rv hN hK hP (q0 := 0) rfl rfl) rfl rfl hl.1 rfl (lv_room (Nat.le_of_ble_eq_true rfl)) d_M_roundLoad_27 ⟨Nat.zero_le _, Nat.zero_le _⟩) ?_
          refine lv_ladd hx hb d_M_roundLoad_30 ?_
          refine bz_rl (y := lN (bz_lk t (bz_fu f) r (i + 1))) (by rw [lN_add, bz_lk_y hq]) ?_
          refine lv_goto (tgt := 35) hx hb d_M_roundLoad_31 (by decide) ?_
          refine lv_lstore_n (lv' := [(3, .long (lN (bz_lk t (bz_fu f) r (i + 1)))), (0, .ref (am 0)), (1, .ref (am 6)), (2, .int (nI r)), (5, .int (nI i))]) hx hb d_M_roundLoad_35 rfl hl (by decide) rfl (fun ls hl => ?_)
          refine lv_iinc (v := nI (i + 1)) (lv' := [(5, .int (nI (i + 1))), (3, .long (lN (bz_lk t (bz_fu f) r (i + 1)))), (0, .ref (am 0)), (1, .ref (am 6)), (2, .int (nI r))]) hx hb d_M_roundLoad_36 hl (k := 4) rfl (nI_1 _) (by decide) rfl (fun ls hl => ?_)
          refine lv_goto (tgt := 5) hx hb d_M_roundLoad_39 (by decide) ?_
          exact ihlp (i + 1) (by omega) (by omega) ls (lv_sub hl [2, 3, 4, 1, 0] rfl)
  exact lp _ 0 (Nat.lt_succ_self _) (by omega) ls (lv_sub hl [2, 3, 4, 1, 0] rfl)

set_option maxHeartbeats 4000000 in
set_option maxRecDepth 100000 in
/-- roundLoad of tried -/
theorem c_M_roundLoad_tried (l : Launch) (dC : Nat → ClassId) (dI : Nat → Nat → Nat) (am : Nat → Nat) (cI cL cZ : ClassId) (t : bz_T) (th sv ex : Int32) (f : Nat → Nat) (S2 S3 : Nat → Int32) (ht : bz_ok t) (r : Nat) (hr4 : r < 4) (hf : ∀ a, a < bz_n t → f a < 4) : Met l y_M_roundLoad w_M_roundLoad ({ frames := 1, cells := 0, slots := 0, locals := 24 }) (bz_Pr (dC, dI) [(cI, .int), (cL, .long), (cZ, .boolean)] (bz_wM am cI cL cZ (bz_tM t) (th, sv, ex) (S2, (fun a => nI (f a)), S3)) [.ref (am 0), .ref (am 7), .int (nI r)]) (vp_Sl (fun r9 => r9 = lN (bz_ld t (bz_fu f) r))) 0 0 (fun _ => False) := by
  refine Met.ofW (cc := b_M_roundLoad) (maxL := 6) (ret := (some .long)) (by decide) rfl ?_
  intro p e s m args below meth c s₁ B hml hv
  obtain ⟨rfl, hP, hK, hN⟩ := hv
  have hx := B.exec
  have hb := B.bytes
  have hr := B.returns
  have hts := atoms_spec (ws := w_M_roundLoad) B.pre
  have hown : s.vm.findClass R_M = some m.cls := findClass_of_methodNamed B.named
  have htb : ∀ w ∈ bz_tb, w.before _ s = true := fun w h => hts w (List.mem_cons_of_mem _ h)
  have hlocks := B.notSynchronized
  have hl := lv_entry ([.ref (am 0), .ref (am 7), .int (nI r)]) (n := 6) (Nat.le_of_ble_eq_true rfl)
  rw [lg_entry_eq]
  generalize (lg_sl ([.ref (am 0), .ref (am 7), .int (nI r)]) ++ List.replicate (6 - (lg_sl ([.ref (am 0), .ref (am 7), .int (nI r)])).length) Slot.unset).toArray = ls at hl ⊢
  have hl : lv_has ls 6 [(0, .ref (am 0)), (1, .ref (am 7)), (2, .int (nI r))] := hl
  have hn30 := ht.1
  refine lv_lconst (v := 0) hx hb d_M_roundLoad_0 (by decide) ?_
  refine bz_rl (y := lN (bz_lk t (bz_fu f) r 0)) (rfl) ?_
  refine lv_lstore_n (lv' := [(3, .long (lN (bz_lk t (bz_fu f) r 0))), (0, .ref (am 0)), (1, .ref (am 7)), (2, .int (nI r))]) hx hb d_M_roundLoad_1 rfl hl (by decide) rfl (fun ls hl => ?_)
  refine lv_iconst (v := nI 0) hx hb d_M_roundLoad_2 (by decide) ?_
  refine lv_istore (lv' := [(5, .int (nI 0)), (3, .long (lN (bz_lk t (bz_fu f) r 0))), (0, .ref (am 0)), (1, .ref (am 7)), (2, .int (nI r))]) hx hb d_M_roundLoad_3 hl (by decide) rfl (fun ls hl => ?_)
  have lp : ∀ (k9 : Nat) (i : Nat), bz_n t - i < k9 → (i ≤ bz_n t) → ∀ (ls : Array Slot), lv_has ls 6 [(0, .ref (am 0)), (1, .ref (am 7)), (2, .int (nI r)), (3, .long (lN (bz_lk t (bz_fu f) r i))), (5, .int (nI i))] → W p l e (headSpec w_M_roundLoad ({ frames := 1, cells := 0, slots := 0, locals := 24 })).room s m ([.ref (am 0), .ref (am 7), .int (nI r)]).toArray below meth c s.heap [] 0 0 (MQ below (vp_Sl (fun r9 => r9 = lN (bz_ld t (bz_fu f) r))) ([.ref (am 0), .ref (am 7), .int (nI r)]).toArray s 0 0 (fun _ => False)) (F0 m 5 ls []) := by
    intro k9
    induction k9 with
    | zero =>
      intro i h9
      exact absurd h9 (Nat.not_lt_zero _)
    | succ k9 ihlp =>
      intro i h9_lp hi ls hl
      refine lv_iload hx hb d_M_roundLoad_5 (lv_at hl 4 rfl) ?_
      refine lv_aload_n hx hb d_M_roundLoad_7 rfl (lv_at hl 0 rfl) ?_
      refine va_get (D := (dC, dI)) (ci := 4) (v := .int (nI (bz_n t))) (C := R_M) (T := F_M) (N := 12) hx hb htb in_M hown hK hP 0 rfl rfl 1 (by decide) (htb _ wd_411) (fun _ h9 => h9) rfl d_M_roundLoad_8 ?_
      refine lv_icmp_ge (tgt := 42) hx hb d_M_roundLoad_11 (by decide) (fun c_11 => ?_) (fun c_11 => ?_)
      · skip
        have hin : i = bz_n t := by have := (nI_leI (by omega) (by omega)).mp c_11; omega
        refine lv_lload_n hx hb d_M_roundLoad_42 rfl (lv_at hl 3 rfl) ?_
        exact W.lret (v := lN (bz_lk t (bz_fu f) r i)) hx hb hr (fun t9 ht9 hW => ⟨lN (bz_lk t (bz_fu f) r i), rfl, by rw [hin]; rfl, ht9⟩) (fun _ h => nomatch h) d_M_roundLoad_43
      · skip
        have hin : i < bz_n t := Nat.lt_of_not_le fun z => c_11 ((nI_leI (by omega) (by omega)).mpr z)
        have hfi := hf i hin
        refine lv_aload_n hx hb d_M_roundLoad_14 rfl (lv_at hl 1 rfl) ?_
        refine lv_iload hx hb d_M_roundLoad_15 (lv_at hl 4 rfl) ?_
        refine bz_iald (v := nI (f i)) hx hb hK hP 7 0 rfl rfl (a9 := i) (by omega) (by decide) (rfl) d_M_roundLoad_17 ?_
        refine lv_iload_n hx hb d_M_roundLoad_18 rfl (lv_at hl 2 rfl) ?_
        refine lv_icmp_ne (tgt := 34) hx hb d_M_roundLoad_19 (by decide) (fun c_19 => ?_) (fun c_19 => ?_)
        · skip
          have hq : bz_in t (bz_fu f) r i = false := by rw [bz_inf hin]; exact decide_eq_false fun z => c_19 (by rw [z])
          refine lv_lload_n hx hb d_M_roundLoad_34 rfl (lv_at hl 3 rfl) ?_
          refine bz_rl (y := lN (bz_lk t (bz_fu f) r (i + 1))) (by rw [bz_lk_n hq]) ?_
          refine lv_lstore_n (lv' := [(3, .long (lN (bz_lk t (bz_fu f) r (i + 1)))), (0, .ref (am 0)), (1, .ref (am 7)), (2, .int (nI r)), (5, .int (nI i))]) hx hb d_M_roundLoad_35 rfl hl (by decide) rfl (fun ls hl => ?_)
          refine lv_iinc (v := nI (i + 1)) (lv' := [(5, .int (nI (i + 1))), (3, .long (lN (bz_lk t (bz_fu f) r (i + 1)))), (0, .ref (am 0)), (1, .ref (am 7)), (2, .int (nI r))]) hx hb d_M_roundLoad_36 hl (k := 4) rfl (nI_1 _) (by decide) rfl (fun ls hl => ?_)
          refine lv_goto (tgt := 5) hx hb d_M_roundLoad_39 (by decide) ?_
          exact ihlp (i + 1) (by omega) (by omega) ls (lv_sub hl [2, 3, 4, 1, 0] rfl)
        · skip
          have hq : bz_in t (bz_fu f) r i = true := by rw [bz_inf hin]; exact decide_eq_true ((nI_eq (by omega) (by omega)).mp c_19)
          refine lv_lload_n hx hb d_M_roundLoad_22 rfl (lv_at hl 3 rfl) ?_
          refine lv_aload_n hx hb d_M_roundLoad_23 rfl (lv_at hl 0 rfl) ?_
          refine lv_iload hx hb d_M_roundLoad_24 (lv_at hl 4 rfl) ?_
          refine lv_iload_n hx hb d_M_roundLoad_26 rfl (lv_at hl 2 rfl) ?_
          refine bz_sl (va_runV (As := [.int (nI i), .int (nI r)]) (rest := [.long (lN (bz_lk t (bz_fu f) r i))]) ⟨hx, hb, hml, hown, htb⟩ (c_M_loadOf l dC dI am cI cL cZ t th sv ex S2 (fun a => nI (f a)) S3 ht _ _ (by omega) (by omega)) (cwV 2 htb (bz_gV wd_508 wd_505 wd_507 wd_11 wd_23) rfl rfl rfl (by decide +kernel) ⟨Nat.le_of_ble_eq_true rfl, Nat.le_of_ble_eq_true rfl⟩) (bz_rv hN hK hP (q0 := 0) rfl rfl) rfl rfl hl.1 rfl (lv_room (Nat.le_of_ble_eq_true rfl)) d_M_roundLoad_27 ⟨Nat.zero_le _, Nat.zero_le _⟩) ?_
          refine lv_ladd hx hb d_M_roundLoad_30 ?_
          refine bz_rl (y := lN (bz_lk t (bz_fu f) r (i + 1))) (by rw [lN_add, bz_lk_y hq]) ?_
          refine lv_goto (tgt := 35) hx hb d_M_roundLoad_31 (by decide) ?_
          refine lv_lstore_n (lv' := [(3, .long (lN (bz_lk t (bz_fu f) r (i + 1)))), (0, .ref (am 0)), (1, .ref (am 7)), (2, .int (nI r)), (5, .int (nI i))]) hx hb d_M_roundLoad_35 rfl hl (by decide) rfl (fun ls hl => ?_)
          refine lv_iinc (v := nI (i + 1)) (lv' := [(5, .int (nI (i + 1))), (3, .long (lN (bz_lk t (bz_fu f) r (i + 1)))), (0, .ref (am 0)), (1, .ref (am 7)), (2, .int (nI r))]) hx hb d_M_roundLoad_36 hl (k := 4) rfl (nI_1 _) (by decide) rfl (fun ls hl => ?_)
          refine lv_goto (tgt := 5) hx hb d_M_roundLoad_39 (by decide) ?_
          exact ihlp (i + 1) (by omega) (by omega) ls (lv_sub hl [2, 3, 4, 1, 0] rfl)
  exact lp _ 0 (Nat.lt_succ_self _) (by omega) ls (lv_sub hl [2, 3, 4, 1, 0] rfl)

set_option maxHeartbeats 4000000 in
set_option maxRecDepth 100000 in
/-- greatest of share -/
theorem c_M_greatest_share (l : Launch) (dC : Nat → ClassId) (dI : Nat → Nat → Nat) (am : Nat → Nat) (cI cL cZ : ClassId) (t : bz_T) (th sv ex : Int32) (f : Nat → Nat) (S2 S3 : Nat → Int32) (ht : bz_ok t) (hf : ∀ a, a < bz_n t → f a < 4) : Met l y_M_greatest w_M_greatest ({ frames := 2, cells := 0, slots := 0, locals := 49 }) (bz_Pr (dC, dI) [(cI, .int), (cL, .long), (cZ, .boolean)] (bz_wM am cI cL cZ (bz_tM t) (th, sv, ex) ((fun a => nI (f a)), S2, S3)) [.ref (am 0), .ref (am 6)]) (vp_Sl (fun r9 => r9 = lN (bz_gl t (bz_fu f)))) 0 0 (fun _ => False) := by
  refine Met.ofW (cc := b_M_greatest) (maxL := 7) (ret := (some .long)) (by decide) rfl ?_
  intro p e s m args below meth c s₁ B hml hv
  obtain ⟨rfl, hP, hK, hN⟩ := hv
  have hx := B.exec
  have hb := B.bytes
  have hr := B.returns
  have hts := atoms_spec (ws := w_M_greatest) B.pre
  have hown : s.vm.findClass R_M = some m.cls := findClass_of_methodNamed B.named
  have htb : ∀ w ∈ bz_tb, w.before _ s = true := fun w h => hts w (List.mem_cons_of_mem _ h)
  have hlocks := B.notSynchronized
  have hl := lv_entry ([.ref (am 0), .ref (am 6)]) (n := 7) (Nat.le_of_ble_eq_true rfl)
  rw [lg_entry_eq]
  generalize (lg_sl ([.ref (am 0), .ref (am 6)]) ++ List.replicate (7 - (lg_sl ([.ref (am 0), .ref (am 6)])).length) Slot.unset).toArray = ls at hl ⊢
  have hl : lv_has ls 7 [(0, .ref (am 0)), (1, .ref (am 6))] := hl
  refine lv_lconst (v := 0) hx hb d_M_greatest_0 (by decide) ?_
  refine bz_rl (y := lN (bz_gm t (bz_fu f) 0)) (rfl) ?_
  refine lv_lstore_n (lv' := [(2, .long (lN (bz_gm t (bz_fu f) 0))), (0, .ref (am 0)), (1, .ref (am 6))]) hx hb d_M_greatest_1 rfl hl (by decide) rfl (fun ls hl => ?_)
  refine lv_iconst (v := nI 0) hx hb d_M_greatest_2 (by decide) ?_
  refine lv_istore (lv' := [(4, .int (nI 0)), (2, .long (lN (bz_gm t (bz_fu f) 0))), (0, .ref (am 0)), (1, .ref (am 6))]) hx hb d_M_greatest_3 hl (by decide) rfl (fun ls hl => ?_)
  have lp : ∀ (k9 : Nat) (i : Nat), 4 - i < k9 → (i ≤ 4) → ∀ (ls : Array Slot), lv_has ls 7 [(0, .ref (am 0)), (1, .ref (am 6)), (2, .long (lN (bz_gm t (bz_fu f) i))), (4, .int (nI i))] → W p l e (headSpec w_M_greatest ({ frames := 2, cells := 0, slots := 0, locals := 49 })).room s m ([.ref (am 0), .ref (am 6)]).toArray below meth c s.heap [] 0 0 (MQ below (vp_Sl (fun r9 => r9 = lN (bz_gl t (bz_fu f)))) ([.ref (am 0), .ref (am 6)]).toArray s 0 0 (fun _ => False)) (F0 m 5 ls []) := by
    intro k9
    induction k9 with
    | zero =>
      intro i h9
      exact absurd h9 (Nat.not_lt_zero _)
    | succ k9 ihlp =>
      intro i h9_lp hi ls hl
      refine lv_iload hx hb d_M_greatest_5 (lv_at hl 3 rfl) ?_
      refine lv_iconst (v := 4) hx hb d_M_greatest_7 (by decide) ?_
      refine lv_icmp_ge (tgt := 40) hx hb d_M_greatest_8 (by decide) (fun c_8 => ?_) (fun c_8 => ?_)
      · skip
        have hi4 : i = 4 := by have := (nI_leI (a := 4) (by omega) (by omega)).mp c_8; omega
        refine lv_lload_n hx hb d_M_greatest_40 rfl (lv_at hl 2 rfl) ?_
        exact W.lret (v := lN (bz_gm t (bz_fu f) i)) hx hb hr (fun t9 ht9 hW => ⟨lN (bz_gm t (bz_fu f) i), rfl, by rw [hi4, bz_gm_4], ht9⟩) (fun _ h => nomatch h) d_M_greatest_41
      · skip
        have hi4 : i < 4 := Nat.lt_of_not_le fun z => c_8 ((nI_leI (a := 4) (b := i) (by omega) (by omega)).mpr z)
        have hg1 := bz_gm_le ht (bz_fu f) i
        have hg2 := bz_ld_le ht (bz_fu f) i
        refine lv_aload_n hx hb d_M_greatest_11 rfl (lv_at hl 0 rfl) ?_
        refine lv_aload_n hx hb d_M_greatest_12 rfl (lv_at hl 1 rfl) ?_
        refine lv_iload hx hb d_M_greatest_13 (lv_at hl 3 rfl) ?_
        refine bz_sl (va_runV (As := [.ref (am 6), .int (nI i)]) (rest := []) ⟨hx, hb, hml, hown, htb⟩ (c_M_roundLoad_share l dC dI am cI cL cZ t th sv ex f S2 S3 ht _ (by omega) hf) (cwV 2 htb (bz_gV wd_504 wd_501 wd_503 wd_10 wd_23) rfl rfl rfl (by decide +kernel) ⟨Nat.le_of_ble_eq_true rfl, Nat.le_of_ble_eq_true rfl⟩) (bz_rv hN hK hP (q0 := 0) rfl rfl) rfl rfl hl.1 rfl (lv_room (Nat.le_of_ble_eq_true rfl)) d_M_greatest_15 ⟨Nat.zero_le _, Nat.zero_le _⟩) ?_
        refine lv_lstore (lv' := [(5, .long (lN (bz_ld t (bz_fu f) i))), (0, .ref (am 0)), (1, .ref (am 6)), (2, .long (lN (bz_gm t (bz_fu f) i))), (4, .int (nI i))]) hx hb d_M_greatest_18 hl (by decide) rfl (fun ls hl => ?_)
        refine lv_lload hx hb d_M_greatest_20 (lv_at hl 0 rfl) ?_
        refine lv_lload_n hx hb d_M_greatest_22 rfl (lv_at hl 3 rfl) ?_
        refine W.lcmp hx hb d_M_greatest_23 ?_
        refine lv_if_le (tgt := 32) hx hb d_M_greatest_24 (by decide) (fun c_24 => ?_) (fun c_24 => ?_)
        · skip
          have hq := (bz_lc_le (by omega) (by omega)).mp c_24
          refine lv_lload_n hx hb d_M_greatest_32 rfl (lv_at hl 3 rfl) ?_
          refine bz_rl (y := lN (bz_gm t (bz_fu f) (i + 1))) (by show _ = lN (max _ _); rw [Nat.max_eq_left (by omega)]) ?_
          refine lv_lstore_n (lv' := [(2, .long (lN (bz_gm t (bz_fu f) (i + 1)))), (5, .long (lN (bz_ld t (bz_fu f) i))), (0, .ref (am 0)), (1, .ref (am 6)), (4, .int (nI i))]) hx hb d_M_greatest_33 rfl hl (by decide) rfl (fun ls hl => ?_)
          refine lv_iinc (v := nI (i + 1)) (lv' := [(4, .int (nI (i + 1))), (2, .long (lN (bz_gm t (bz_fu f) (i + 1)))), (5, .long (lN (bz_ld t (bz_fu f) i))), (0, .ref (am 0)), (1, .ref (am 6))]) hx hb d_M_greatest_34 hl (k := 4) rfl (nI_1 _) (by decide) rfl (fun ls hl => ?_)
          refine lv_goto (tgt := 5) hx hb d_M_greatest_37 (by decide) ?_
          exact ihlp (i + 1) (by omega) (by omega) ls (lv_sub hl [3, 4, 1, 0] rfl)
        · skip
          have hq : bz_gm t (bz_fu f) i < bz_ld t (bz_fu f) i := Nat.lt_of_not_le fun z => c_24 ((bz_lc_le (by omega) (by omega)).mpr z)
          refine lv_lload hx hb d_M_greatest_27 (lv_at hl 0 rfl) ?_
          refine bz_rl (y := lN (bz_gm t (bz_fu f) (i + 1))) (by show _ = lN (max _ _); rw [Nat.max_eq_right (by omega)]) ?_
          refine lv_goto (tgt := 33) hx hb d_M_greatest_29 (by decide) ?_
          refine lv_lstore_n (lv' := [(2, .long (lN (bz_gm t (bz_fu f) (i + 1)))), (5, .long (lN (bz_ld t (bz_fu f) i))), (0, .ref (am 0)), (1, .ref (am 6)), (4, .int (nI i))]) hx hb d_M_greatest_33 rfl hl (by decide) rfl (fun ls hl => ?_)
          refine lv_iinc (v := nI (i + 1)) (lv' := [(4, .int (nI (i + 1))), (2, .long (lN (bz_gm t (bz_fu f) (i + 1)))), (5, .long (lN (bz_ld t (bz_fu f) i))), (0, .ref (am 0)), (1, .ref (am 6))]) hx hb d_M_greatest_34 hl (k := 4) rfl (nI_1 _) (by decide) rfl (fun ls hl => ?_)
          refine lv_goto (tgt := 5) hx hb d_M_greatest_37 (by decide) ?_
          exact ihlp (i + 1) (by omega) (by omega) ls (lv_sub hl [3, 4, 1, 0] rfl)
  exact lp _ 0 (Nat.lt_succ_self _) (by omega) ls (lv_sub hl [2, 3, 1, 0] rfl)

set_option maxHeartbeats 4000000 in
set_option maxRecDepth 100000 in
/-- greatest of tried -/
theorem c_M_greatest_tried (l : Launch) (dC : Nat → ClassId) (dI : Nat → Nat → Nat) (am : Nat → Nat) (cI cL cZ : ClassId) (t : bz_T) (th sv ex : Int32) (f : Nat → Nat) (S2 S3 : Nat → Int32) (ht : bz_ok t) (hf : ∀ a, a < bz_n t → f a < 4) : Met l y_M_greatest w_M_greatest ({ frames := 2, cells := 0, slots := 0, locals := 49 }) (bz_Pr (dC, dI) [(cI, .int), (cL, .long), (cZ, .boolean)] (bz_wM am cI cL cZ (bz_tM t) (th, sv, ex) (S2, (fun a => nI (f a)), S3)) [.ref (am 0), .ref (am 7)]) (vp_Sl (fun r9 => r9 = lN (bz_gl t (bz_fu f)))) 0 0 (fun _ => False) := by
  refine Met.ofW (cc := b_M_greatest) (maxL := 7) (ret := (some .long)) (by decide) rfl ?_
  intro p e s m args below meth c s₁ B hml hv
  obtain ⟨rfl, hP, hK, hN⟩ := hv
  have hx := B.exec
  have hb := B.bytes
  have hr := B.returns
  have hts := atoms_spec (ws := w_M_greatest) B.pre
  have hown : s.vm.findClass R_M = some m.cls := findClass_of_methodNamed B.named
  have htb : ∀ w ∈ bz_tb, w.before _ s = true := fun w h => hts w (List.mem_cons_of_mem _ h)
  have hlocks := B.notSynchronized
  have hl := lv_entry ([.ref (am 0), .ref (am 7)]) (n := 7) (Nat.le_of_ble_eq_true rfl)
  rw [lg_entry_eq]
  generalize (lg_sl ([.ref (am 0), .ref (am 7)]) ++ List.replicate (7 - (lg_sl ([.ref (am 0), .ref (am 7)])).length) Slot.unset).toArray = ls at hl ⊢
  have hl : lv_has ls 7 [(0, .ref (am 0)), (1, .ref (am 7))] := hl
  refine lv_lconst (v := 0) hx hb d_M_greatest_0 (by decide) ?_
  refine bz_rl (y := lN (bz_gm t (bz_fu f) 0)) (rfl) ?_
  refine lv_lstore_n (lv' := [(2, .long (lN (bz_gm t (bz_fu f) 0))), (0, .ref (am 0)), (1, .ref (am 7))]) hx hb d_M_greatest_1 rfl hl (by decide) rfl (fun ls hl => ?_)
  refine lv_iconst (v := nI 0) hx hb d_M_greatest_2 (by decide) ?_
  refine lv_istore (lv' := [(4, .int (nI 0)), (2, .long (lN (bz_gm t (bz_fu f) 0))), (0, .ref (am 0)), (1, .ref (am 7))]) hx hb d_M_greatest_3 hl (by decide) rfl (fun ls hl => ?_)
  have lp : ∀ (k9 : Nat) (i : Nat), 4 - i < k9 → (i ≤ 4) → ∀ (ls : Array Slot), lv_has ls 7 [(0, .ref (am 0)), (1, .ref (am 7)), (2, .long (lN (bz_gm t (bz_fu f) i))), (4, .int (nI i))] → W p l e (headSpec w_M_greatest ({ frames := 2, cells := 0, slots := 0, locals := 49 })).room s m ([.ref (am 0), .ref (am 7)]).toArray below meth c s.heap [] 0 0 (MQ below (vp_Sl (fun r9 => r9 = lN (bz_gl t (bz_fu f)))) ([.ref (am 0), .ref (am 7)]).toArray s 0 0 (fun _ => False)) (F0 m 5 ls []) := by
    intro k9
    induction k9 with
    | zero =>
      intro i h9
      exact absurd h9 (Nat.not_lt_zero _)
    | succ k9 ihlp =>
      intro i h9_lp hi ls hl
      refine lv_iload hx hb d_M_greatest_5 (lv_at hl 3 rfl) ?_
      refine lv_iconst (v := 4) hx hb d_M_greatest_7 (by decide) ?_
      refine lv_icmp_ge (tgt := 40) hx hb d_M_greatest_8 (by decide) (fun c_8 => ?_) (fun c_8 => ?_)
      · skip
        have hi4 : i = 4 := by have := (nI_leI (a := 4) (by omega) (by omega)).mp c_8; omega
        refine lv_lload_n hx hb d_M_greatest_40 rfl (lv_at hl 2 rfl) ?_
        exact W.lret (v := lN (bz_gm t (bz_fu f) i)) hx hb hr (fun t9 ht9 hW => ⟨lN (bz_gm t (bz_fu f) i), rfl, by rw [hi4, bz_gm_4], ht9⟩) (fun _ h => nomatch h) d_M_greatest_41
      · skip
        have hi4 : i < 4 := Nat.lt_of_not_le fun z => c_8 ((nI_leI (a := 4) (b := i) (by omega) (by omega)).mpr z)
        have hg1 := bz_gm_le ht (bz_fu f) i
        have hg2 := bz_ld_le ht (bz_fu f) i
        refine lv_aload_n hx hb d_M_greatest_11 rfl (lv_at hl 0 rfl) ?_
        refine lv_aload_n hx hb d_M_greatest_12 rfl (lv_at hl 1 rfl) ?_
        refine lv_iload hx hb d_M_greatest_13 (lv_at hl 3 rfl) ?_
        refine bz_sl (va_runV (As := [.ref (am 7), .int (nI i)]) (rest := []) ⟨hx, hb, hml, hown, htb⟩ (c_M_roundLoad_tried l dC dI am cI cL cZ t th sv ex f S2 S3 ht _ (by omega) hf) (cwV 2 htb (bz_gV wd_504 wd_501 wd_503 wd_10 wd_23) rfl rfl rfl (by decide +kernel) ⟨Nat.le_of_ble_eq_true rfl, Nat.le_of_ble_eq_true rfl⟩) (bz_rv hN hK hP (q0 := 0) rfl rfl) rfl rfl hl.1 rfl (lv_room (Nat.le_of_ble_eq_true rfl)) d_M_greatest_15 ⟨Nat.zero_le _, Nat.zero_le _⟩) ?_
        refine lv_lstore (lv' := [(5, .long (lN (bz_ld t (bz_fu f) i))), (0, .ref (am 0)), (1, .ref (am 7)), (2, .long (lN (bz_gm t (bz_fu f) i))), (4, .int (nI i))]) hx hb d_M_greatest_18 hl (by decide) rfl (fun ls hl => ?_)
        refine lv_lload hx hb d_M_greatest_20 (lv_at hl 0 rfl) ?_
        refine lv_lload_n hx hb d_M_greatest_22 rfl (lv_at hl 3 rfl) ?_
        refine W.lcmp hx hb d_M_greatest_23 ?_
        refine lv_if_le (tgt := 32) hx hb d_M_greatest_24 (by decide) (fun c_24 => ?_) (fun c_24 => ?_)
        · skip
          have hq := (bz_lc_le (by omega) (by omega)).mp c_24
          refine lv_lload_n hx hb d_M_greatest_32 rfl (lv_at hl 3 rfl) ?_
          refine bz_rl (y := lN (bz_gm t (bz_fu f) (i + 1))) (by show _ = lN (max _ _); rw [Nat.max_eq_left (by omega)]) ?_
          refine lv_lstore_n (lv' := [(2, .long (lN (bz_gm t (bz_fu f) (i + 1)))), (5, .long (lN (bz_ld t (bz_fu f) i))), (0, .ref (am 0)), (1, .ref (am 7)), (4, .int (nI i))]) hx hb d_M_greatest_33 rfl hl (by decide) rfl (fun ls hl => ?_)
          refine lv_iinc (v := nI (i + 1)) (lv' := [(4, .int (nI (i + 1))), (2, .long (lN (bz_gm t (bz_fu f) (i + 1)))), (5, .long (lN (bz_ld t (bz_fu f) i))), (0, .ref (am 0)), (1, .ref (am 7))]) hx hb d_M_greatest_34 hl (k := 4) rfl (nI_1 _) (by decide) rfl (fun ls hl => ?_)
          refine lv_goto (tgt := 5) hx hb d_M_greatest_37 (by decide) ?_
          exact ihlp (i + 1) (by omega) (by omega) ls (lv_sub hl [3, 4, 1, 0] rfl)
        · skip
          have hq : bz_gm t (bz_fu f) i < bz_ld t (bz_fu f) i := Nat.lt_of_not_le fun z => c_24 ((bz_lc_le (by omega) (by omega)).mpr z)
          refine lv_lload hx hb d_M_greatest_27 (lv_at hl 0 rfl) ?_
          refine bz_rl (y := lN (bz_gm t (bz_fu f) (i + 1))) (by show _ = lN (max _ _); rw [Nat.max_eq_right (by omega)]) ?_
          refine lv_goto (tgt := 33) hx hb d_M_greatest_29 (by decide) ?_
          refine lv_lstore_n (lv' := [(2, .long (lN (bz_gm t (bz_fu f) (i + 1)))), (5, .long (lN (bz_ld t (bz_fu f) i))), (0, .ref (am 0)), (1, .ref (am 7)), (4, .int (nI i))]) hx hb d_M_greatest_33 rfl hl (by decide) rfl (fun ls hl => ?_)
          refine lv_iinc (v := nI (i + 1)) (lv' := [(4, .int (nI (i + 1))), (2, .long (lN (bz_gm t (bz_fu f) (i + 1)))), (5, .long (lN (bz_ld t (bz_fu f) i))), (0, .ref (am 0)), (1, .ref (am 7))]) hx hb d_M_greatest_34 hl (k := 4) rfl (nI_1 _) (by decide) rfl (fun ls hl => ?_)
          refine lv_goto (tgt := 5) hx hb d_M_greatest_37 (by decide) ?_
          exact ihlp (i + 1) (by omega) (by omega) ls (lv_sub hl [3, 4, 1, 0] rfl)
  exact lp _ 0 (Nat.lt_succ_self _) (by omega) ls (lv_sub hl [2, 3, 1, 0] rfl)

set_option maxHeartbeats 4000000 in
set_option maxRecDepth 100000 in
/-- changedIn of share -/
theorem c_M_changedIn_share (l : Launch) (dC : Nat → ClassId) (dI : Nat → Nat → Nat) (am : Nat → Nat) (cI cL cZ : ClassId) (t : bz_T) (th sv ex : Int32) (f : Nat → Nat) (S2 S3 : Nat → Int32) (ht : bz_ok t) (hf : ∀ a, a < bz_n t → f a < 4) : Met l y_M_changedIn w_M_changedIn ({ frames := 0, cells := 0, slots := 0, locals := 0 }) (bz_Pr (dC, dI) [(cI, .int), (cL, .long), (cZ, .boolean)] (bz_wM am cI cL cZ (bz_tM t) (th, sv, ex) ((fun a => nI (f a)), S2, S3)) [.ref (am 0), .ref (am 6)]) (vp_Si (fun r9 => r9 = nI (bz_ch t (bz_fu f)))) 0 0 (fun _ => False) := by
  refine Met.ofW (cc := b_M_changedIn) (maxL := 4) (ret := (some .int)) (by decide) rfl ?_
  intro p e s m args below meth c s₁ B hml hv
  obtain ⟨rfl, hP, hK, hN⟩ := hv
  have hx := B.exec
  have hb := B.bytes
  have hr := B.returns
  have hts := atoms_spec (ws := w_M_changedIn) B.pre
  have hown : s.vm.findClass R_M = some m.cls := findClass_of_methodNamed B.named
  have htb : ∀ w ∈ bz_tb, w.before _ s = true := fun w h => hts w (List.mem_cons_of_mem _ h)
  have hlocks := B.notSynchronized
  have hl := lv_entry ([.ref (am 0), .ref (am 6)]) (n := 4) (Nat.le_of_ble_eq_true rfl)
  rw [lg_entry_eq]
  generalize (lg_sl ([.ref (am 0), .ref (am 6)]) ++ List.replicate (4 - (lg_sl ([.ref (am 0), .ref (am 6)])).length) Slot.unset).toArray = ls at hl ⊢
  have hl : lv_has ls 4 [(0, .ref (am 0)), (1, .ref (am 6))] := hl
  have hn30 := ht.1
  refine lv_iconst (v := nI 0) hx hb d_M_changedIn_0 (by decide) ?_
  refine lv_istore_n (lv' := [(2, .int (nI 0)), (0, .ref (am 0)), (1, .ref (am 6))]) hx hb d_M_changedIn_1 rfl hl (by decide) rfl (fun ls hl => ?_)
  refine lv_iconst (v := nI 0) hx hb d_M_changedIn_2 (by decide) ?_
  refine lv_istore_n (lv' := [(3, .int (nI 0)), (2, .int (nI 0)), (0, .ref (am 0)), (1, .ref (am 6))]) hx hb d_M_changedIn_3 rfl hl (by decide) rfl (fun ls hl => ?_)
  have lp : ∀ (k9 : Nat) (i : Nat), bz_n t - i < k9 → (i ≤ bz_n t) → ∀ (ls : Array Slot), lv_has ls 4 [(0, .ref (am 0)), (1, .ref (am 6)), (2, .int (nI (bz_ct (fun a => !(bz_fu f).2 a && decide ((bz_fu f).1 a ≠ bz_d t a)) i))), (3, .int (nI i))] → W p l e (headSpec w_M_changedIn ({ frames := 0, cells := 0, slots := 0, locals := 0 })).room s m ([.ref (am 0), .ref (am 6)]).toArray below meth c s.heap [] 0 0 (MQ below (vp_Si (fun r9 => r9 = nI (bz_ch t (bz_fu f)))) ([.ref (am 0), .ref (am 6)]).toArray s 0 0 (fun _ => False)) (F0 m 4 ls []) := by
    intro k9
    induction k9 with
    | zero =>
      intro i h9
      exact absurd h9 (Nat.not_lt_zero _)
    | succ k9 ihlp =>
      intro i h9_lp hi ls hl
      refine lv_iload_n hx hb d_M_changedIn_4 rfl (lv_at hl 3 rfl) ?_
      refine lv_aload_n hx hb d_M_changedIn_5 rfl (lv_at hl 0 rfl) ?_
      refine va_get (D := (dC, dI)) (ci := 4) (v := .int (nI (bz_n t))) (C := R_M) (T := F_M) (N := 12) hx hb htb in_M hown hK hP 0 rfl rfl 1 (by decide) (htb _ wd_411) (fun _ h9 => h9) rfl d_M_changedIn_6 ?_
      refine lv_icmp_ge (tgt := 38) hx hb d_M_changedIn_9 (by decide) (fun c_9 => ?_) (fun c_9 => ?_)
      · skip
        have hin : i = bz_n t := by have := (nI_leI (by omega) (by omega)).mp c_9; omega
        refine lv_iload_n hx hb d_M_changedIn_38 rfl (lv_at hl 2 rfl) ?_
        exact W.iret (v := nI (bz_ct (fun a => !(bz_fu f).2 a && decide ((bz_fu f).1 a ≠ bz_d t a)) i)) hx hb hr (fun t9 ht9 hW => ⟨nI (bz_ct (fun a => !(bz_fu f).2 a && decide ((bz_fu f).1 a ≠ bz_d t a)) i), rfl, by rw [hin]; rfl, ht9⟩) (fun _ h => nomatch h) d_M_changedIn_39
      · skip
        have hin : i < bz_n t := Nat.lt_of_not_le fun z => c_9 ((nI_leI (by omega) (by omega)).mpr z)
        have hfi := hf i hin
        have hdi := ht.2.2.1 i
        refine lv_aload_n hx hb d_M_changedIn_12 rfl (lv_at hl 1 rfl) ?_
        refine lv_iload_n hx hb d_M_changedIn_13 rfl (lv_at hl 3 rfl) ?_
        refine bz_iald (v := nI (f i)) hx hb hK hP 6 0 rfl rfl (a9 := i) (by omega) (by decide) (rfl) d_M_changedIn_14 ?_
        refine lv_aload_n hx hb d_M_changedIn_15 rfl (lv_at hl 0 rfl) ?_
        refine va_get (D := (dC, dI)) (ci := 4) (v := .ref (am 2)) (C := R_M) (T := F_M) (N := 12) hx hb htb in_M hown hK hP 0 rfl rfl 3 (by decide) (htb _ wd_413) (fun _ h9 => h9) rfl d_M_changedIn_16 ?_
        refine lv_iload_n hx hb d_M_changedIn_19 rfl (lv_at hl 3 rfl) ?_
        refine bz_iald (v := nI (bz_d t i)) hx hb hK hP 2 0 rfl rfl (a9 := i) (by omega) (by decide) (rfl) d_M_changedIn_20 ?_
        refine lv_icmp_eq (tgt := 30) hx hb d_M_changedIn_21 (by decide) (fun c_21 => ?_) (fun c_21 => ?_)
        · skip
          have hq : (fun a => !(bz_fu f).2 a && decide ((bz_fu f).1 a ≠ bz_d t a)) i = false := by show (true && decide (f i ≠ bz_d t i)) = false; rw [decide_eq_false (fun z => z ((nI_eq (by omega) (by omega)).mp c_21))]; rfl
          refine lv_iload_n hx hb d_M_changedIn_30 rfl (lv_at hl 2 rfl) ?_
          refine bz_ri (y := nI (bz_ct (fun a => !(bz_fu f).2 a && decide ((bz_fu f).1 a ≠ bz_d t a)) (i + 1))) (by rw [bz_ct_0 hq]) ?_
          refine lv_istore_n (lv' := [(2, .int (nI (bz_ct (fun a => !(bz_fu f).2 a && decide ((bz_fu f).1 a ≠ bz_d t a)) (i + 1)))), (0, .ref (am 0)), (1, .ref (am 6)), (3, .int (nI i))]) hx hb d_M_changedIn_31 rfl hl (by decide) rfl (fun ls hl => ?_)
          refine lv_iinc (v := nI (i + 1)) (lv' := [(3, .int (nI (i + 1))), (2, .int (nI (bz_ct (fun a => !(bz_fu f).2 a && decide ((bz_fu f).1 a ≠ bz_d t a)) (i + 1)))), (0, .ref (am 0)), (1, .ref (am 6))]) hx hb d_M_changedIn_32 hl (k := 3) rfl (nI_1 _) (by decide) rfl (fun ls hl => ?_)
          refine lv_goto (tgt := 4) hx hb d_M_changedIn_35 (by decide) ?_
          exact ihlp (i + 1) (by omega) (by omega) ls (lv_sub hl [2, 3, 1, 0] rfl)
        · skip
          have hq : (fun a => !(bz_fu f).2 a && decide ((bz_fu f).1 a ≠ bz_d t a)) i = true := by show (true && decide (f i ≠ bz_d t i)) = true; rw [decide_eq_true (show f i ≠ bz_d t i from fun z => c_21 (by rw [z]))]; rfl
          refine lv_iload_n hx hb d_M_changedIn_24 rfl (lv_at hl 2 rfl) ?_
          refine lv_iconst (v := 1) hx hb d_M_changedIn_25 (by decide) ?_
          refine lv_iadd hx hb d_M_changedIn_26 ?_
          refine bz_ri (y := nI (bz_ct (fun a => !(bz_fu f).2 a && decide ((bz_fu f).1 a ≠ bz_d t a)) (i + 1))) (by rw [bz_ct_1 hq]; exact nI_1 _) ?_
          refine lv_goto (tgt := 31) hx hb d_M_changedIn_27 (by decide) ?_
          refine lv_istore_n (lv' := [(2, .int (nI (bz_ct (fun a => !(bz_fu f).2 a && decide ((bz_fu f).1 a ≠ bz_d t a)) (i + 1)))), (0, .ref (am 0)), (1, .ref (am 6)), (3, .int (nI i))]) hx hb d_M_changedIn_31 rfl hl (by decide) rfl (fun ls hl => ?_)
          refine lv_iinc (v := nI (i + 1)) (lv' := [(3, .int (nI (i + 1))), (2, .int (nI (bz_ct (fun a => !(bz_fu f).2 a && decide ((bz_fu f).1 a ≠ bz_d t a)) (i + 1)))), (0, .ref (am 0)), (1, .ref (am 6))]) hx hb d_M_changedIn_32 hl (k := 3) rfl (nI_1 _) (by decide) rfl (fun ls hl => ?_)
          refine lv_goto (tgt := 4) hx hb d_M_changedIn_35 (by decide) ?_
          exact ihlp (i + 1) (by omega) (by omega) ls (lv_sub hl [2, 3, 1, 0] rfl)
  exact lp _ 0 (Nat.lt_succ_self _) (by omega) ls (lv_sub hl [2, 3, 1, 0] rfl)

set_option maxHeartbeats 4000000 in
set_option maxRecDepth 100000 in
/-- changedIn of tried -/
theorem c_M_changedIn_tried (l : Launch) (dC : Nat → ClassId) (dI : Nat → Nat → Nat) (am : Nat → Nat) (cI cL cZ : ClassId) (t : bz_T) (th sv ex : Int32) (f : Nat → Nat) (S2 S3 : Nat → Int32) (ht : bz_ok t) (hf : ∀ a, a < bz_n t → f a < 4) : Met l y_M_changedIn w_M_changedIn ({ frames := 0, cells := 0, slots := 0, locals := 0 }) (bz_Pr (dC, dI) [(cI, .int), (cL, .long), (cZ, .boolean)] (bz_wM am cI cL cZ (bz_tM t) (th, sv, ex) (S2, (fun a => nI (f a)), S3)) [.ref (am 0), .ref (am 7)]) (vp_Si (fun r9 => r9 = nI (bz_ch t (bz_fu f)))) 0 0 (fun _ => False) := by
  refine Met.ofW (cc := b_M_changedIn) (maxL := 4) (ret := (some .int)) (by decide) rfl ?_
  intro p e s m args below meth c s₁ B hml hv
  obtain ⟨rfl, hP, hK, hN⟩ := hv
  have hx := B.exec
  have hb := B.bytes
  have hr := B.returns
  have hts := atoms_spec (ws := w_M_changedIn) B.pre
  have hown : s.vm.findClass R_M = some m.cls := findClass_of_methodNamed B.named
  have htb : ∀ w ∈ bz_tb, w.before _ s = true := fun w h => hts w (List.mem_cons_of_mem _ h)
  have hlocks := B.notSynchronized
  have hl := lv_entry ([.ref (am 0), .ref (am 7)]) (n := 4) (Nat.le_of_ble_eq_true rfl)
  rw [lg_entry_eq]
  generalize (lg_sl ([.ref (am 0), .ref (am 7)]) ++ List.replicate (4 - (lg_sl ([.ref (am 0), .ref (am 7)])).length) Slot.unset).toArray = ls at hl ⊢
  have hl : lv_has ls 4 [(0, .ref (am 0)), (1, .ref (am 7))] := hl
  have hn30 := ht.1
  refine lv_iconst (v := nI 0) hx hb d_M_changedIn_0 (by decide) ?_
  refine lv_istore_n (lv' := [(2, .int (nI 0)), (0, .ref (am 0)), (1, .ref (am 7))]) hx hb d_M_changedIn_1 rfl hl (by decide) rfl (fun ls hl => ?_)
  refine lv_iconst (v := nI 0) hx hb d_M_changedIn_2 (by decide) ?_
  refine lv_istore_n (lv' := [(3, .int (nI 0)), (2, .int (nI 0)), (0, .ref (am 0)), (1, .ref (am 7))]) hx hb d_M_changedIn_3 rfl hl (by decide) rfl (fun ls hl => ?_)
  have lp : ∀ (k9 : Nat) (i : Nat), bz_n t - i < k9 → (i ≤ bz_n t) → ∀ (ls : Array Slot), lv_has ls 4 [(0, .ref (am 0)), (1, .ref (am 7)), (2, .int (nI (bz_ct (fun a => !(bz_fu f).2 a && decide ((bz_fu f).1 a ≠ bz_d t a)) i))), (3, .int (nI i))] → W p l e (headSpec w_M_changedIn ({ frames := 0, cells := 0, slots := 0, locals := 0 })).room s m ([.ref (am 0), .ref (am 7)]).toArray below meth c s.heap [] 0 0 (MQ below (vp_Si (fun r9 => r9 = nI (bz_ch t (bz_fu f)))) ([.ref (am 0), .ref (am 7)]).toArray s 0 0 (fun _ => False)) (F0 m 4 ls []) := by
    intro k9
    induction k9 with
    | zero =>
      intro i h9
      exact absurd h9 (Nat.not_lt_zero _)
    | succ k9 ihlp =>
      intro i h9_lp hi ls hl
      refine lv_iload_n hx hb d_M_changedIn_4 rfl (lv_at hl 3 rfl) ?_
      refine lv_aload_n hx hb d_M_changedIn_5 rfl (lv_at hl 0 rfl) ?_
      refine va_get (D := (dC, dI)) (ci := 4) (v := .int (nI (bz_n t))) (C := R_M) (T := F_M) (N := 12) hx hb htb in_M hown hK hP 0 rfl rfl 1 (by decide) (htb _ wd_411) (fun _ h9 => h9) rfl d_M_changedIn_6 ?_
      refine lv_icmp_ge (tgt := 38) hx hb d_M_changedIn_9 (by decide) (fun c_9 => ?_) (fun c_9 => ?_)
      · skip
        have hin : i = bz_n t := by have := (nI_leI (by omega) (by omega)).mp c_9; omega
        refine lv_iload_n hx hb d_M_changedIn_38 rfl (lv_at hl 2 rfl) ?_
        exact W.iret (v := nI (bz_ct (fun a => !(bz_fu f).2 a && decide ((bz_fu f).1 a ≠ bz_d t a)) i)) hx hb hr (fun t9 ht9 hW => ⟨nI (bz_ct (fun a => !(bz_fu f).2 a && decide ((bz_fu f).1 a ≠ bz_d t a)) i), rfl, by rw [hin]; rfl, ht9⟩) (fun _ h => nomatch h) d_M_changedIn_39
      · skip
        have hin : i < bz_n t := Nat.lt_of_not_le fun z => c_9 ((nI_leI (by omega) (by omega)).mpr z)
        have hfi := hf i hin
        have hdi := ht.2.2.1 i
        refine lv_aload_n hx hb d_M_changedIn_12 rfl (lv_at hl 1 rfl) ?_
        refine lv_iload_n hx hb d_M_changedIn_13 rfl (lv_at hl 3 rfl) ?_
        refine bz_iald (v := nI (f i)) hx hb hK hP 7 0 rfl rfl (a9 := i) (by omega) (by decide) (rfl) d_M_changedIn_14 ?_
        refine lv_aload_n hx hb d_M_changedIn_15 rfl (lv_at hl 0 rfl) ?_
        refine va_get (D := (dC, dI)) (ci := 4) (v := .ref (am 2)) (C := R_M) (T := F_M) (N := 12) hx hb htb in_M hown hK hP 0 rfl rfl 3 (by decide) (htb _ wd_413) (fun _ h9 => h9) rfl d_M_changedIn_16 ?_
        refine lv_iload_n hx hb d_M_changedIn_19 rfl (lv_at hl 3 rfl) ?_
        refine bz_iald (v := nI (bz_d t i)) hx hb hK hP 2 0 rfl rfl (a9 := i) (by omega) (by decide) (rfl) d_M_changedIn_20 ?_
        refine lv_icmp_eq (tgt := 30) hx hb d_M_changedIn_21 (by decide) (fun c_21 => ?_) (fun c_21 => ?_)
        · skip
          have hq : (fun a => !(bz_fu f).2 a && decide ((bz_fu f).1 a ≠ bz_d t a)) i = false := by show (true && decide (f i ≠ bz_d t i)) = false; rw [decide_eq_false (fun z => z ((nI_eq (by omega) (by omega)).mp c_21))]; rfl
          refine lv_iload_n hx hb d_M_changedIn_30 rfl (lv_at hl 2 rfl) ?_
          refine bz_ri (y := nI (bz_ct (fun a => !(bz_fu f).2 a && decide ((bz_fu f).1 a ≠ bz_d t a)) (i + 1))) (by rw [bz_ct_0 hq]) ?_
          refine lv_istore_n (lv' := [(2, .int (nI (bz_ct (fun a => !(bz_fu f).2 a && decide ((bz_fu f).1 a ≠ bz_d t a)) (i + 1)))), (0, .ref (am 0)), (1, .ref (am 7)), (3, .int (nI i))]) hx hb d_M_changedIn_31 rfl hl (by decide) rfl (fun ls hl => ?_)
          refine lv_iinc (v := nI (i + 1)) (lv' := [(3, .int (nI (i + 1))), (2, .int (nI (bz_ct (fun a => !(bz_fu f).2 a && decide ((bz_fu f).1 a ≠ bz_d t a)) (i + 1)))), (0, .ref (am 0)), (1, .ref (am 7))]) hx hb d_M_changedIn_32 hl (k := 3) rfl (nI_1 _) (by decide) rfl (fun ls hl => ?_)
          refine lv_goto (tgt := 4) hx hb d_M_changedIn_35 (by decide) ?_
          exact ihlp (i + 1) (by omega) (by omega) ls (lv_sub hl [2, 3, 1, 0] rfl)
        · skip
          have hq : (fun a => !(bz_fu f).2 a && decide ((bz_fu f).1 a ≠ bz_d t a)) i = true := by show (true && decide (f i ≠ bz_d t i)) = true; rw [decide_eq_true (show f i ≠ bz_d t i from fun z => c_21 (by rw [z]))]; rfl
          refine lv_iload_n hx hb d_M_changedIn_24 rfl (lv_at hl 2 rfl) ?_
          refine lv_iconst (v := 1) hx hb d_M_changedIn_25 (by decide) ?_
          refine lv_iadd hx hb d_M_changedIn_26 ?_
          refine bz_ri (y := nI (bz_ct (fun a => !(bz_fu f).2 a && decide ((bz_fu f).1 a ≠ bz_d t a)) (i + 1))) (by rw [bz_ct_1 hq]; exact nI_1 _) ?_
          refine lv_goto (tgt := 31) hx hb d_M_changedIn_27 (by decide) ?_
          refine lv_istore_n (lv' := [(2, .int (nI (bz_ct (fun a => !(bz_fu f).2 a && decide ((bz_fu f).1 a ≠ bz_d t a)) (i + 1)))), (0, .ref (am 0)), (1, .ref (am 7)), (3, .int (nI i))]) hx hb d_M_changedIn_31 rfl hl (by decide) rfl (fun ls hl => ?_)
          refine lv_iinc (v := nI (i + 1)) (lv' := [(3, .int (nI (i + 1))), (2, .int (nI (bz_ct (fun a => !(bz_fu f).2 a && decide ((bz_fu f).1 a ≠ bz_d t a)) (i + 1)))), (0, .ref (am 0)), (1, .ref (am 7))]) hx hb d_M_changedIn_32 hl (k := 3) rfl (nI_1 _) (by decide) rfl (fun ls hl => ?_)
          refine lv_goto (tgt := 4) hx hb d_M_changedIn_35 (by decide) ?_
          exact ihlp (i + 1) (by omega) (by omega) ls (lv_sub hl [2, 3, 1, 0] rfl)
  exact lp _ 0 (Nat.lt_succ_self _) (by omega) ls (lv_sub hl [2, 3, 1, 0] rfl)

set_option maxHeartbeats 4000000 in
set_option maxRecDepth 100000 in
/-- withHours -/
theorem c_M_withHours (l : Launch) (dC : Nat → ClassId) (dI : Nat → Nat → Nat) (am : Nat → Nat) (cI cL cZ : ClassId) (t : bz_T) (th sv ex : Int32) (S1 S2 S3 : Nat → Int32) (ht : bz_ok t) : Met l y_M_withHours w_M_withHours ({ frames := 0, cells := 0, slots := 0, locals := 0 }) (bz_Pr (dC, dI) [(cI, .int), (cL, .long), (cZ, .boolean)] (bz_wM am cI cL cZ (bz_tM t) (th, sv, ex) (S1, S2, S3)) [.ref (am 0)]) (vp_Si (fun r9 => r9 = nI (bz_ct (bz_wh t) 4))) 0 0 (fun _ => False) := by
  refine Met.ofW (cc := b_M_withHours) (maxL := 3) (ret := (some .int)) (by decide) rfl ?_
  intro p e s m args below meth c s₁ B hml hv
  obtain ⟨rfl, hP, hK, hN⟩ := hv
  have hx := B.exec
  have hb := B.bytes
  have hr := B.returns
  have hts := atoms_spec (ws := w_M_withHours) B.pre
  have hown : s.vm.findClass R_M = some m.cls := findClass_of_methodNamed B.named
  have htb : ∀ w ∈ bz_tb, w.before _ s = true := fun w h => hts w (List.mem_cons_of_mem _ h)
  have hlocks := B.notSynchronized
  have hl := lv_entry ([.ref (am 0)]) (n := 3) (Nat.le_of_ble_eq_true rfl)
  rw [lg_entry_eq]
  generalize (lg_sl ([.ref (am 0)]) ++ List.replicate (3 - (lg_sl ([.ref (am 0)])).length) Slot.unset).toArray = ls at hl ⊢
  have hl : lv_has ls 3 [(0, .ref (am 0))] := hl
  refine lv_iconst (v := nI 0) hx hb d_M_withHours_0 (by decide) ?_
  refine lv_istore_n (lv' := [(1, .int (nI 0)), (0, .ref (am 0))]) hx hb d_M_withHours_1 rfl hl (by decide) rfl (fun ls hl => ?_)
  refine lv_iconst (v := nI 0) hx hb d_M_withHours_2 (by decide) ?_
  refine lv_istore_n (lv' := [(2, .int (nI 0)), (1, .int (nI 0)), (0, .ref (am 0))]) hx hb d_M_withHours_3 rfl hl (by decide) rfl (fun ls hl => ?_)
  have lp : ∀ (k9 : Nat) (i : Nat), 4 - i < k9 → (i ≤ 4) → ∀ (ls : Array Slot), lv_has ls 3 [(0, .ref (am 0)), (1, .int (nI (bz_ct (bz_wh t) i))), (2, .int (nI i))] → W p l e (headSpec w_M_withHours ({ frames := 0, cells := 0, slots := 0, locals := 0 })).room s m ([.ref (am 0)]).toArray below meth c s.heap [] 0 0 (MQ below (vp_Si (fun r9 => r9 = nI (bz_ct (bz_wh t) 4))) ([.ref (am 0)]).toArray s 0 0 (fun _ => False)) (F0 m 4 ls []) := by
    intro k9
    induction k9 with
    | zero =>
      intro i h9
      exact absurd h9 (Nat.not_lt_zero _)
    | succ k9 ihlp =>
      intro i h9_lp hi ls hl
      refine lv_iload_n hx hb d_M_withHours_4 rfl (lv_at hl 2 rfl) ?_
      refine lv_iconst (v := 4) hx hb d_M_withHours_5 (by decide) ?_
      refine lv_icmp_ge (tgt := 34) hx hb d_M_withHours_6 (by decide) (fun c_6 => ?_) (fun c_6 => ?_)
      · skip
        have hi4 : i = 4 := by have := (nI_leI (a := 4) (by omega) (by omega)).mp c_6; omega
        refine lv_iload_n hx hb d_M_withHours_34 rfl (lv_at hl 1 rfl) ?_
        exact W.iret (v := nI (bz_ct (bz_wh t) i)) hx hb hr (fun t9 ht9 hW => ⟨nI (bz_ct (bz_wh t) i), rfl, by rw [hi4], ht9⟩) (fun _ h => nomatch h) d_M_withHours_35
      · skip
        have hi4 : i < 4 := Nat.lt_of_not_le fun z => c_6 ((nI_leI (a := 4) (b := i) (by omega) (by omega)).mpr z)
        refine lv_aload_n hx hb d_M_withHours_9 rfl (lv_at hl 0 rfl) ?_
        refine va_get (D := (dC, dI)) (ci := 4) (v := .ref (am 5)) (C := R_M) (T := F_M) (N := 12) hx hb htb in_M hown hK hP 0 rfl rfl 6 (by decide) (htb _ wd_416) (fun _ h9 => h9) rfl d_M_withHours_10 ?_
        refine lv_iload_n hx hb d_M_withHours_13 rfl (lv_at hl 2 rfl) ?_
        refine bz_lald (v := lN (bz_h t i)) hx hb hK hP 5 1 rfl rfl (a9 := i) (by omega) (by decide) (rfl) d_M_withHours_14 ?_
        refine lv_lconst (v := 0) hx hb d_M_withHours_15 (by decide) ?_
        refine W.lcmp hx hb d_M_withHours_16 ?_
        refine lv_if_le (tgt := 26) hx hb d_M_withHours_17 (by decide) (fun c_17 => ?_) (fun c_17 => ?_)
        · skip
          have hq : bz_h t i ≤ 0 := (bz_lc_le (b := 0) (by have := ht.2.2.2.2.2.2 i; omega) (by omega)).mp c_17
          refine lv_iload_n hx hb d_M_withHours_26 rfl (lv_at hl 1 rfl) ?_
          refine bz_ri (y := nI (bz_ct (bz_wh t) (i + 1))) (by rw [bz_ct_0 (by unfold bz_wh; exact decide_eq_false (by omega))]) ?_
          refine lv_istore_n (lv' := [(1, .int (nI (bz_ct (bz_wh t) (i + 1)))), (0, .ref (am 0)), (2, .int (nI i))]) hx hb d_M_withHours_27 rfl hl (by decide) rfl (fun ls hl => ?_)
          refine lv_iinc (v := nI (i + 1)) (lv' := [(2, .int (nI (i + 1))), (1, .int (nI (bz_ct (bz_wh t) (i + 1)))), (0, .ref (am 0))]) hx hb d_M_withHours_28 hl (k := 2) rfl (nI_1 _) (by decide) rfl (fun ls hl => ?_)
          refine lv_goto (tgt := 4) hx hb d_M_withHours_31 (by decide) ?_
          exact ihlp (i + 1) (by omega) (by omega) ls (lv_sub hl [2, 1, 0] rfl)
        · skip
          have hq : 0 < bz_h t i := Nat.lt_of_not_le fun z => c_17 ((bz_lc_le (b := 0) (by have := ht.2.2.2.2.2.2 i; omega) (by omega)).mpr z)
          refine lv_iload_n hx hb d_M_withHours_20 rfl (lv_at hl 1 rfl) ?_
          refine lv_iconst (v := 1) hx hb d_M_withHours_21 (by decide) ?_
          refine lv_iadd hx hb d_M_withHours_22 ?_
          refine bz_ri (y := nI (bz_ct (bz_wh t) (i + 1))) (by rw [bz_ct_1 (by unfold bz_wh; exact decide_eq_true hq)]; exact nI_1 _) ?_
          refine lv_goto (tgt := 27) hx hb d_M_withHours_23 (by decide) ?_
          refine lv_istore_n (lv' := [(1, .int (nI (bz_ct (bz_wh t) (i + 1)))), (0, .ref (am 0)), (2, .int (nI i))]) hx hb d_M_withHours_27 rfl hl (by decide) rfl (fun ls hl => ?_)
          refine lv_iinc (v := nI (i + 1)) (lv' := [(2, .int (nI (i + 1))), (1, .int (nI (bz_ct (bz_wh t) (i + 1)))), (0, .ref (am 0))]) hx hb d_M_withHours_28 hl (k := 2) rfl (nI_1 _) (by decide) rfl (fun ls hl => ?_)
          refine lv_goto (tgt := 4) hx hb d_M_withHours_31 (by decide) ?_
          exact ihlp (i + 1) (by omega) (by omega) ls (lv_sub hl [2, 1, 0] rfl)
  exact lp _ 0 (Nat.lt_succ_self _) (by omega) ls (lv_sub hl [2, 1, 0] rfl)

set_option maxHeartbeats 4000000 in
set_option maxRecDepth 100000 in
/-- lightest -/
theorem c_M_lightest (l : Launch) (dC : Nat → ClassId) (dI : Nat → Nat → Nat) (am : Nat → Nat) (cI cL cZ : ClassId) (t : bz_T) (th sv ex : Int32) (S1 S2 S3 : Nat → Int32) (ht : bz_ok t) (a : Nat) (ha : a < 30) : Met l y_M_lightest w_M_lightest ({ frames := 1, cells := 0, slots := 0, locals := 24 }) (bz_Pr (dC, dI) [(cI, .int), (cL, .long), (cZ, .boolean)] (bz_wM am cI cL cZ (bz_tM t) (th, sv, ex) (S1, S2, S3)) [.ref (am 0), .int (nI a)]) (vp_Sl (fun r9 => r9 = lN (bz_ml t a 4))) 0 0 (fun _ => False) := by
  refine Met.ofW (cc := b_M_lightest) (maxL := 5) (ret := (some .long)) (by decide) rfl ?_
  intro p e s m args below meth c s₁ B hml hv
  obtain ⟨rfl, hP, hK, hN⟩ := hv
  have hx := B.exec
  have hb := B.bytes
  have hr := B.returns
  have hts := atoms_spec (ws := w_M_lightest) B.pre
  have hown : s.vm.findClass R_M = some m.cls := findClass_of_methodNamed B.named
  have htb : ∀ w ∈ bz_tb, w.before _ s = true := fun w h => hts w (List.mem_cons_of_mem _ h)
  have hlocks := B.notSynchronized
  have hl := lv_entry ([.ref (am 0), .int (nI a)]) (n := 5) (Nat.le_of_ble_eq_true rfl)
  rw [lg_entry_eq]
  generalize (lg_sl ([.ref (am 0), .int (nI a)]) ++ List.replicate (5 - (lg_sl ([.ref (am 0), .int (nI a)])).length) Slot.unset).toArray = ls at hl ⊢
  have hl : lv_has ls 5 [(0, .ref (am 0)), (1, .int (nI a))] := hl
  refine lv_ldc2 (v := 9223372036854775807) hx hb hown (htb _ wd_492) d_M_lightest_0 ?_
  refine bz_rl (y := lN (bz_ml t a 0)) (rfl) ?_
  refine lv_lstore_n (lv' := [(2, .long (lN (bz_ml t a 0))), (0, .ref (am 0)), (1, .int (nI a))]) hx hb d_M_lightest_3 rfl hl (by decide) rfl (fun ls hl => ?_)
  refine lv_iconst (v := nI 0) hx hb d_M_lightest_4 (by decide) ?_
  refine lv_istore (lv' := [(4, .int (nI 0)), (2, .long (lN (bz_ml t a 0))), (0, .ref (am 0)), (1, .int (nI a))]) hx hb d_M_lightest_5 hl (by decide) rfl (fun ls hl => ?_)
  have lp : ∀ (k9 : Nat) (i : Nat), 4 - i < k9 → (i ≤ 4) → ∀ (ls : Array Slot), lv_has ls 5 [(0, .ref (am 0)), (1, .int (nI a)), (2, .long (lN (bz_ml t a i))), (4, .int (nI i))] → W p l e (headSpec w_M_lightest ({ frames := 1, cells := 0, slots := 0, locals := 24 })).room s m ([.ref (am 0), .int (nI a)]).toArray below meth c s.heap [] 0 0 (MQ below (vp_Sl (fun r9 => r9 = lN (bz_ml t a 4))) ([.ref (am 0), .int (nI a)]).toArray s 0 0 (fun _ => False)) (F0 m 7 ls []) := by
    intro k9
    induction k9 with
    | zero =>
      intro i h9
      exact absurd h9 (Nat.not_lt_zero _)
    | succ k9 ihlp =>
      intro i h9_lp hi ls hl
      refine lv_iload hx hb d_M_lightest_7 (lv_at hl 3 rfl) ?_
      refine lv_iconst (v := 4) hx hb d_M_lightest_9 (by decide) ?_
      refine lv_icmp_ge (tgt := 55) hx hb d_M_lightest_10 (by decide) (fun c_10 => ?_) (fun c_10 => ?_)
      · skip
        have hi4 : i = 4 := by have := (nI_leI (a := 4) (by omega) (by omega)).mp c_10; omega
        refine lv_lload_n hx hb d_M_lightest_55 rfl (lv_at hl 2 rfl) ?_
        exact W.lret (v := lN (bz_ml t a i)) hx hb hr (fun t9 ht9 hW => ⟨lN (bz_ml t a i), rfl, by rw [hi4], ht9⟩) (fun _ h => nomatch h) d_M_lightest_56
      · skip
        have hi4 : i < 4 := Nat.lt_of_not_le fun z => c_10 ((nI_leI (a := 4) (b := i) (by omega) (by omega)).mpr z)
        have hw1 := bz_w_le ht a i
        have hm1 := bz_ml_le (t := t) a i
        refine lv_aload_n hx hb d_M_lightest_13 rfl (lv_at hl 0 rfl) ?_
        refine va_get (D := (dC, dI)) (ci := 4) (v := .ref (am 5)) (C := R_M) (T := F_M) (N := 12) hx hb htb in_M hown hK hP 0 rfl rfl 6 (by decide) (htb _ wd_416) (fun _ h9 => h9) rfl d_M_lightest_14 ?_
        refine lv_iload hx hb d_M_lightest_17 (lv_at hl 3 rfl) ?_
        refine bz_lald (v := lN (bz_h t i)) hx hb hK hP 5 1 rfl rfl (a9 := i) (by omega) (by decide) (rfl) d_M_lightest_19 ?_
        refine lv_lconst (v := 0) hx hb d_M_lightest_20 (by decide) ?_
        refine W.lcmp hx hb d_M_lightest_21 ?_
        refine lv_if_le (tgt := 47) hx hb d_M_lightest_22 (by decide) (fun c_22 => ?_) (fun c_22 => ?_)
        · skip
          have hq : bz_h t i ≤ 0 := (bz_lc_le (b := 0) (by have := ht.2.2.2.2.2.2 i; omega) (by omega)).mp c_22
          refine lv_lload_n hx hb d_M_lightest_47 rfl (lv_at hl 2 rfl) ?_
          refine bz_rl (y := lN (bz_ml t a (i + 1))) (by rw [bz_ml_0 hq]) ?_
          refine lv_lstore_n (lv' := [(2, .long (lN (bz_ml t a (i + 1)))), (0, .ref (am 0)), (1, .int (nI a)), (4, .int (nI i))]) hx hb d_M_lightest_48 rfl hl (by decide) rfl (fun ls hl => ?_)
          refine lv_iinc (v := nI (i + 1)) (lv' := [(4, .int (nI (i + 1))), (2, .long (lN (bz_ml t a (i + 1)))), (0, .ref (am 0)), (1, .int (nI a))]) hx hb d_M_lightest_49 hl (k := 3) rfl (nI_1 _) (by decide) rfl (fun ls hl => ?_)
          refine lv_goto (tgt := 7) hx hb d_M_lightest_52 (by decide) ?_
          exact ihlp (i + 1) (by omega) (by omega) ls (lv_sub hl [2, 3, 1, 0] rfl)
        · skip
          have hq : 0 < bz_h t i := Nat.lt_of_not_le fun z => c_22 ((bz_lc_le (b := 0) (by have := ht.2.2.2.2.2.2 i; omega) (by omega)).mpr z)
          refine lv_aload_n hx hb d_M_lightest_25 rfl (lv_at hl 0 rfl) ?_
          refine lv_iload_n hx hb d_M_lightest_26 rfl (lv_at hl 1 rfl) ?_
          refine lv_iload hx hb d_M_lightest_27 (lv_at hl 3 rfl) ?_
          refine bz_sl (va_runV (As := [.int (nI a), .int (nI i)]) (rest := []) ⟨hx, hb, hml, hown, htb⟩ (c_M_loadOf l dC dI am cI cL cZ t th sv ex S1 S2 S3 ht _ _ (by omega) (by omega)) (cwV 2 htb (bz_gV wd_508 wd_505 wd_507 wd_11 wd_23) rfl rfl rfl (by decide +kernel) ⟨Nat.le_of_ble_eq_true rfl, Nat.le_of_ble_eq_true rfl⟩) (bz_rv hN hK hP (q0 := 0) rfl rfl) rfl rfl hl.1 rfl (lv_room (Nat.le_of_ble_eq_true rfl)) d_M_lightest_29 ⟨Nat.zero_le _, Nat.zero_le _⟩) ?_
          refine lv_lload_n hx hb d_M_lightest_32 rfl (lv_at hl 2 rfl) ?_
          refine W.lcmp hx hb d_M_lightest_33 ?_
          refine lv_if_ge (tgt := 47) hx hb d_M_lightest_34 (by decide) (fun c_34 => ?_) (fun c_34 => ?_)
          · skip
            have hlo := (bz_lc_ge (by omega) (by omega)).mp c_34
            refine lv_lload_n hx hb d_M_lightest_47 rfl (lv_at hl 2 rfl) ?_
            refine bz_rl (y := lN (bz_ml t a (i + 1))) (by rw [bz_ml_1 hq, Nat.min_eq_left (by omega)]) ?_
            refine lv_lstore_n (lv' := [(2, .long (lN (bz_ml t a (i + 1)))), (0, .ref (am 0)), (1, .int (nI a)), (4, .int (nI i))]) hx hb d_M_lightest_48 rfl hl (by decide) rfl (fun ls hl => ?_)
            refine lv_iinc (v := nI (i + 1)) (lv' := [(4, .int (nI (i + 1))), (2, .long (lN (bz_ml t a (i + 1)))), (0, .ref (am 0)), (1, .int (nI a))]) hx hb d_M_lightest_49 hl (k := 3) rfl (nI_1 _) (by decide) rfl (fun ls hl => ?_)
            refine lv_goto (tgt := 7) hx hb d_M_lightest_52 (by decide) ?_
            exact ihlp (i + 1) (by omega) (by omega) ls (lv_sub hl [2, 3, 1, 0] rfl)
          · skip
            have hlo : bz_w t a i < bz_ml t a i := Nat.lt_of_not_le fun z => c_34 ((bz_lc_ge (by omega) (by omega)).mpr z)
            refine lv_aload_n hx hb d_M_lightest_37 rfl (lv_at hl 0 rfl) ?_
            refine lv_iload_n hx hb d_M_lightest_38 rfl (lv_at hl 1 rfl) ?_
            refine lv_iload hx hb d_M_lightest_39 (lv_at hl 3 rfl) ?_
            refine bz_sl (va_runV (As := [.int (nI a), .int (nI i)]) (rest := []) ⟨hx, hb, hml, hown, htb⟩ (c_M_loadOf l dC dI am cI cL cZ t th sv ex S1 S2 S3 ht _ _ (by omega) (by omega)) (cwV 2 htb (bz_gV wd_508 wd_505 wd_507 wd_11 wd_23) rfl rfl rfl (by decide +kernel) ⟨Nat.le_of_ble_eq_true rfl, Nat.le_of_ble_eq_true rfl⟩) (bz_rv hN hK hP (q0 := 0) rfl rfl) rfl rfl hl.1 rfl (lv_room (Nat.le_of_ble_eq_true rfl)) d_M_lightest_41 ⟨Nat.zero_le _, Nat.zero_le _⟩) ?_
            refine bz_rl (y := lN (bz_ml t a (i + 1))) (by rw [bz_ml_1 hq, Nat.min_eq_right (by omega)]) ?_
            refine lv_goto (tgt := 48) hx hb d_M_lightest_44 (by decide) ?_
            refine lv_lstore_n (lv' := [(2, .long (lN (bz_ml t a (i + 1)))), (0, .ref (am 0)), (1, .int (nI a)), (4, .int (nI i))]) hx hb d_M_lightest_48 rfl hl (by decide) rfl (fun ls hl => ?_)
            refine lv_iinc (v := nI (i + 1)) (lv' := [(4, .int (nI (i + 1))), (2, .long (lN (bz_ml t a (i + 1)))), (0, .ref (am 0)), (1, .int (nI a))]) hx hb d_M_lightest_49 hl (k := 3) rfl (nI_1 _) (by decide) rfl (fun ls hl => ?_)
            refine lv_goto (tgt := 7) hx hb d_M_lightest_52 (by decide) ?_
            exact ihlp (i + 1) (by omega) (by omega) ls (lv_sub hl [2, 3, 1, 0] rfl)
  exact lp _ 0 (Nat.lt_succ_self _) (by omega) ls (lv_sub hl [2, 3, 1, 0] rfl)
end
section
theorem d_M_hangs_0 : decode b_M_hangs 0 = .ok (.iconst 0, 1) := by decide +kernel
theorem d_M_hangs_1 : decode b_M_hangs 1 = .ok (.istore_n 3, 1) := by decide +kernel
theorem d_M_hangs_2 : decode b_M_hangs 2 = .ok (.iconst 0, 1) := by decide +kernel
theorem d_M_hangs_3 : decode b_M_hangs 3 = .ok (.istore 4, 2) := by decide +kernel
theorem d_M_hangs_5 : decode b_M_hangs 5 = .ok (.iload 4, 2) := by decide +kernel
theorem d_M_hangs_7 : decode b_M_hangs 7 = .ok (.aload_n 0, 1) := by decide +kernel
theorem d_M_hangs_8 : decode b_M_hangs 8 = .ok (.getfield 36, 3) := by decide +kernel
theorem d_M_hangs_11 : decode b_M_hangs 11 = .ok (.if_icmp .ge 51, 3) := by decide +kernel
theorem d_M_hangs_14 : decode b_M_hangs 14 = .ok (.aload_n 0, 1) := by decide +kernel
theorem d_M_hangs_15 : decode b_M_hangs 15 = .ok (.getfield 33, 3) := by decide +kernel
theorem d_M_hangs_18 : decode b_M_hangs 18 = .ok (.iload 4, 2) := by decide +kernel
theorem d_M_hangs_20 : decode b_M_hangs 20 = .ok (.aload_n 1, 1) := by decide +kernel
theorem d_M_hangs_21 : decode b_M_hangs 21 = .ok (.iload 4, 2) := by decide +kernel
theorem d_M_hangs_23 : decode b_M_hangs 23 = .ok (.iaload, 1) := by decide +kernel
theorem d_M_hangs_24 : decode b_M_hangs 24 = .ok (.iload_n 2, 1) := by decide +kernel
theorem d_M_hangs_25 : decode b_M_hangs 25 = .ok (.if_icmp .ne 11, 3) := by decide +kernel
theorem d_M_hangs_28 : decode b_M_hangs 28 = .ok (.iload_n 3, 1) := by decide +kernel
theorem d_M_hangs_29 : decode b_M_hangs 29 = .ok (.ifCond .ne 7, 3) := by decide +kernel
theorem d_M_hangs_32 : decode b_M_hangs 32 = .ok (.iconst 1, 1) := by decide +kernel
theorem d_M_hangs_33 : decode b_M_hangs 33 = .ok (.goto 4, 3) := by decide +kernel
theorem d_M_hangs_36 : decode b_M_hangs 36 = .ok (.iconst 0, 1) := by decide +kernel
theorem d_M_hangs_37 : decode b_M_hangs 37 = .ok (.bastore, 1) := by decide +kernel
theorem d_M_hangs_38 : decode b_M_hangs 38 = .ok (.iload_n 3, 1) := by decide +kernel
theorem d_M_hangs_39 : decode b_M_hangs 39 = .ok (.ifCond .ne 11, 3) := by decide +kernel
theorem d_M_hangs_42 : decode b_M_hangs 42 = .ok (.aload_n 1, 1) := by decide +kernel
theorem d_M_hangs_43 : decode b_M_hangs 43 = .ok (.iload 4, 2) := by decide +kernel
theorem d_M_hangs_45 : decode b_M_hangs 45 = .ok (.iaload, 1) := by decide +kernel
theorem d_M_hangs_46 : decode b_M_hangs 46 = .ok (.iload_n 2, 1) := by decide +kernel
theorem d_M_hangs_47 : decode b_M_hangs 47 = .ok (.if_icmp .ne 7, 3) := by decide +kernel
theorem d_M_hangs_50 : decode b_M_hangs 50 = .ok (.iconst 1, 1) := by decide +kernel
theorem d_M_hangs_51 : decode b_M_hangs 51 = .ok (.goto 4, 3) := by decide +kernel
theorem d_M_hangs_54 : decode b_M_hangs 54 = .ok (.iconst 0, 1) := by decide +kernel
theorem d_M_hangs_55 : decode b_M_hangs 55 = .ok (.istore_n 3, 1) := by decide +kernel
theorem d_M_hangs_56 : decode b_M_hangs 56 = .ok (.iinc 4 1, 3) := by decide +kernel
theorem d_M_hangs_59 : decode b_M_hangs 59 = .ok (.goto (-54), 3) := by decide +kernel
theorem d_M_hangs_62 : decode b_M_hangs 62 = .ok (.iconst 1, 1) := by decide +kernel
theorem d_M_hangs_63 : decode b_M_hangs 63 = .ok (.istore 4, 2) := by decide +kernel
theorem d_M_hangs_65 : decode b_M_hangs 65 = .ok (.iload 4, 2) := by decide +kernel
theorem d_M_hangs_67 : decode b_M_hangs 67 = .ok (.ifCond .eq 100, 3) := by decide +kernel
theorem d_M_hangs_70 : decode b_M_hangs 70 = .ok (.iconst 0, 1) := by decide +kernel
theorem d_M_hangs_71 : decode b_M_hangs 71 = .ok (.istore 4, 2) := by decide +kernel
theorem d_M_hangs_73 : decode b_M_hangs 73 = .ok (.iconst 0, 1) := by decide +kernel
theorem d_M_hangs_74 : decode b_M_hangs 74 = .ok (.istore 5, 2) := by decide +kernel
theorem d_M_hangs_76 : decode b_M_hangs 76 = .ok (.iload 5, 2) := by decide +kernel
theorem d_M_hangs_78 : decode b_M_hangs 78 = .ok (.aload_n 0, 1) := by decide +kernel
theorem d_M_hangs_79 : decode b_M_hangs 79 = .ok (.getfield 36, 3) := by decide +kernel
theorem d_M_hangs_82 : decode b_M_hangs 82 = .ok (.if_icmp .ge 82, 3) := by decide +kernel
theorem d_M_hangs_85 : decode b_M_hangs 85 = .ok (.iconst 0, 1) := by decide +kernel
theorem d_M_hangs_86 : decode b_M_hangs 86 = .ok (.istore 6, 2) := by decide +kernel
theorem d_M_hangs_88 : decode b_M_hangs 88 = .ok (.iload 6, 2) := by decide +kernel
theorem d_M_hangs_90 : decode b_M_hangs 90 = .ok (.aload_n 0, 1) := by decide +kernel
theorem d_M_hangs_91 : decode b_M_hangs 91 = .ok (.getfield 36, 3) := by decide +kernel
theorem d_M_hangs_94 : decode b_M_hangs 94 = .ok (.if_icmp .ge 64, 3) := by decide +kernel
theorem d_M_hangs_97 : decode b_M_hangs 97 = .ok (.aload_n 0, 1) := by decide +kernel
theorem d_M_hangs_98 : decode b_M_hangs 98 = .ok (.getfield 33, 3) := by decide +kernel
theorem d_M_hangs_101 : decode b_M_hangs 101 = .ok (.iload 5, 2) := by decide +kernel
theorem d_M_hangs_103 : decode b_M_hangs 103 = .ok (.baload, 1) := by decide +kernel
theorem d_M_hangs_104 : decode b_M_hangs 104 = .ok (.ifCond .eq 48, 3) := by decide +kernel
theorem d_M_hangs_107 : decode b_M_hangs 107 = .ok (.aload_n 1, 1) := by decide +kernel
theorem d_M_hangs_108 : decode b_M_hangs 108 = .ok (.iload 6, 2) := by decide +kernel
theorem d_M_hangs_110 : decode b_M_hangs 110 = .ok (.iaload, 1) := by decide +kernel
theorem d_M_hangs_111 : decode b_M_hangs 111 = .ok (.iload_n 2, 1) := by decide +kernel
theorem d_M_hangs_112 : decode b_M_hangs 112 = .ok (.if_icmp .ne 40, 3) := by decide +kernel
theorem d_M_hangs_115 : decode b_M_hangs 115 = .ok (.aload_n 0, 1) := by decide +kernel
theorem d_M_hangs_116 : decode b_M_hangs 116 = .ok (.getfield 33, 3) := by decide +kernel
theorem d_M_hangs_119 : decode b_M_hangs 119 = .ok (.iload 6, 2) := by decide +kernel
theorem d_M_hangs_121 : decode b_M_hangs 121 = .ok (.baload, 1) := by decide +kernel
theorem d_M_hangs_122 : decode b_M_hangs 122 = .ok (.ifCond .ne 30, 3) := by decide +kernel
theorem d_M_hangs_125 : decode b_M_hangs 125 = .ok (.aload_n 0, 1) := by decide +kernel
theorem d_M_hangs_126 : decode b_M_hangs 126 = .ok (.getfield 17, 3) := by decide +kernel
theorem d_M_hangs_129 : decode b_M_hangs 129 = .ok (.bipush 30, 2) := by decide +kernel
theorem d_M_hangs_131 : decode b_M_hangs 131 = .ok (.iload 5, 2) := by decide +kernel
theorem d_M_hangs_133 : decode b_M_hangs 133 = .ok (.imul, 1) := by decide +kernel
theorem d_M_hangs_134 : decode b_M_hangs 134 = .ok (.iload 6, 2) := by decide +kernel
theorem d_M_hangs_136 : decode b_M_hangs 136 = .ok (.iadd, 1) := by decide +kernel
theorem d_M_hangs_137 : decode b_M_hangs 137 = .ok (.baload, 1) := by decide +kernel
theorem d_M_hangs_138 : decode b_M_hangs 138 = .ok (.ifCond .eq 14, 3) := by decide +kernel
theorem d_M_hangs_141 : decode b_M_hangs 141 = .ok (.aload_n 0, 1) := by decide +kernel
theorem d_M_hangs_142 : decode b_M_hangs 142 = .ok (.getfield 33, 3) := by decide +kernel
theorem d_M_hangs_145 : decode b_M_hangs 145 = .ok (.iload 6, 2) := by decide +kernel
theorem d_M_hangs_147 : decode b_M_hangs 147 = .ok (.iconst 1, 1) := by decide +kernel
theorem d_M_hangs_148 : decode b_M_hangs 148 = .ok (.bastore, 1) := by decide +kernel
theorem d_M_hangs_149 : decode b_M_hangs 149 = .ok (.iconst 1, 1) := by decide +kernel
theorem d_M_hangs_150 : decode b_M_hangs 150 = .ok (.istore 4, 2) := by decide +kernel
theorem d_M_hangs_152 : decode b_M_hangs 152 = .ok (.iinc 6 1, 3) := by decide +kernel
theorem d_M_hangs_155 : decode b_M_hangs 155 = .ok (.goto (-67), 3) := by decide +kernel
theorem d_M_hangs_158 : decode b_M_hangs 158 = .ok (.iinc 5 1, 3) := by decide +kernel
theorem d_M_hangs_161 : decode b_M_hangs 161 = .ok (.goto (-85), 3) := by decide +kernel
theorem d_M_hangs_164 : decode b_M_hangs 164 = .ok (.goto (-99), 3) := by decide +kernel
theorem d_M_hangs_167 : decode b_M_hangs 167 = .ok (.iconst 1, 1) := by decide +kernel
theorem d_M_hangs_168 : decode b_M_hangs 168 = .ok (.istore 5, 2) := by decide +kernel
theorem d_M_hangs_170 : decode b_M_hangs 170 = .ok (.iconst 0, 1) := by decide +kernel
theorem d_M_hangs_171 : decode b_M_hangs 171 = .ok (.istore 6, 2) := by decide +kernel
theorem d_M_hangs_173 : decode b_M_hangs 173 = .ok (.iload 6, 2) := by decide +kernel
theorem d_M_hangs_175 : decode b_M_hangs 175 = .ok (.aload_n 0, 1) := by decide +kernel
theorem d_M_hangs_176 : decode b_M_hangs 176 = .ok (.getfield 36, 3) := by decide +kernel
theorem d_M_hangs_179 : decode b_M_hangs 179 = .ok (.if_icmp .ge 39, 3) := by decide +kernel
theorem d_M_hangs_182 : decode b_M_hangs 182 = .ok (.iload 5, 2) := by decide +kernel
theorem d_M_hangs_184 : decode b_M_hangs 184 = .ok (.ifCond .eq 25, 3) := by decide +kernel
theorem d_M_hangs_187 : decode b_M_hangs 187 = .ok (.aload_n 1, 1) := by decide +kernel
theorem d_M_hangs_188 : decode b_M_hangs 188 = .ok (.iload 6, 2) := by decide +kernel
theorem d_M_hangs_190 : decode b_M_hangs 190 = .ok (.iaload, 1) := by decide +kernel
theorem d_M_hangs_191 : decode b_M_hangs 191 = .ok (.iload_n 2, 1) := by decide +kernel
theorem d_M_hangs_192 : decode b_M_hangs 192 = .ok (.if_icmp .ne 13, 3) := by decide +kernel
theorem d_M_hangs_195 : decode b_M_hangs 195 = .ok (.aload_n 0, 1) := by decide +kernel
theorem d_M_hangs_196 : decode b_M_hangs 196 = .ok (.getfield 33, 3) := by decide +kernel
theorem d_M_hangs_199 : decode b_M_hangs 199 = .ok (.iload 6, 2) := by decide +kernel
theorem d_M_hangs_201 : decode b_M_hangs 201 = .ok (.baload, 1) := by decide +kernel
theorem d_M_hangs_202 : decode b_M_hangs 202 = .ok (.ifCond .eq 7, 3) := by decide +kernel
theorem d_M_hangs_205 : decode b_M_hangs 205 = .ok (.iconst 1, 1) := by decide +kernel
theorem d_M_hangs_206 : decode b_M_hangs 206 = .ok (.goto 4, 3) := by decide +kernel
theorem d_M_hangs_209 : decode b_M_hangs 209 = .ok (.iconst 0, 1) := by decide +kernel
theorem d_M_hangs_210 : decode b_M_hangs 210 = .ok (.istore 5, 2) := by decide +kernel
theorem d_M_hangs_212 : decode b_M_hangs 212 = .ok (.iinc 6 1, 3) := by decide +kernel
theorem d_M_hangs_215 : decode b_M_hangs 215 = .ok (.goto (-42), 3) := by decide +kernel
theorem d_M_hangs_218 : decode b_M_hangs 218 = .ok (.iload 5, 2) := by decide +kernel
theorem d_M_hangs_220 : decode b_M_hangs 220 = .ok (.ireturn, 1) := by decide +kernel

def bz_se (n : Nat) (x : Nat → Bool) (S : Nat → Int32) : Nat → Int32 := fun j => if j < n then bz_i (x j) else S j
theorem bz_se_0 (x : Nat → Bool) (S : Nat → Int32) : bz_se 0 x S = S := funext fun j => by
  unfold bz_se
  rw [if_neg (by omega)]
theorem bz_se_at {n b : Nat} (h : b < n) (x : Nat → Bool) (S : Nat → Int32) : bz_se n x S b = bz_i (x b) := by
  unfold bz_se
  rw [if_pos h]
theorem bz_se_add (i : Nat) (x : Nat → Bool) (S : Nat → Int32) : bz_se (i + 1) x S = upd (bz_se i x S) i (bz_i (x i)) := funext fun j => by
  show (if j < i + 1 then bz_i (x j) else S j) = if j = i then bz_i (x i) else (if j < i then bz_i (x j) else S j)
  by_cases e : j = i
  · subst e
    rw [if_pos rfl, if_pos (by omega)]
  · rw [if_neg e]
    by_cases h : j < i
    · rw [if_pos h, if_pos (by omega)]
    · rw [if_neg h, if_neg (by omega)]
theorem bz_se_put {n b : Nat} (h : b < n) (x : Nat → Bool) (v : Bool) (S : Nat → Int32) : bz_se n (va_up x b v) S = upd (bz_se n x S) b (bz_i v) := funext fun j => by
  show (if j < n then bz_i (va_up x b v j) else S j) = if j = b then bz_i v else (if j < n then bz_i (x j) else S j)
  by_cases e : j = b
  · subst e
    rw [if_pos rfl, if_pos h, bz_up_s]
  · rw [if_neg e, bz_up_n _ _ e]
def bz_bn (F : Nat → Bool) (i : Nat) : Bool := decide (∃ j, j < i ∧ F j = true)
def bz_x0 (F : Nat → Bool) (i : Nat) : Bool := F i && !(bz_bn F i)
theorem bz_bn_0 (F : Nat → Bool) : bz_bn F 0 = false := decide_eq_false fun ⟨j, h, _⟩ => absurd h (by omega)
theorem bz_bn_t {F : Nat → Bool} {i : Nat} (h : bz_bn F i = true) : bz_bn F (i + 1) = true := by
  obtain ⟨j, h1, h2⟩ := of_decide_eq_true h
  exact decide_eq_true ⟨j, by omega, h2⟩
theorem bz_bn_i {F : Nat → Bool} {i : Nat} (h : F i = true) : bz_bn F (i + 1) = true := decide_eq_true ⟨i, by omega, h⟩
theorem bz_bn_f {F : Nat → Bool} {i : Nat} (h : bz_bn F i = false) (hf : F i = false) : bz_bn F (i + 1) = false := decide_eq_false fun ⟨j, h1, h2⟩ => by
  by_cases e : j = i
  · subst e
    rw [hf] at h2
    exact absurd h2 (by simp)
  · exact absurd ⟨j, by omega, h2⟩ (of_decide_eq_false h)
/-- reached from the least one, and of the set -/
def bz_hr (j : Nat → Nat → Bool) (F o x : Nat → Bool) : Prop := (∀ a, F a = true → (∀ i, i < a → F i = false) → x a = true ∧ ∀ i, x i = true → bz_rc j o a i) ∧ ∀ i, x i = true → F i = true
theorem bz_hr_0 {t : bz_T} {F o : Nat → Bool} (hF : ∀ i, F i = true → i < bz_n t) : bz_hr (bz_j t) F o (bz_x0 F) := ⟨(bz_hw0 (t := t) (o := o) hF).1, fun i hi => ((Bool.and_eq_true _ _).mp hi).1⟩
theorem bz_hr_1 {j : Nat → Nat → Bool} {F o z : Nat → Bool} (h : bz_hr j F o z) {a b : Nat} (ha : z a = true) (hb : F b = true) (ho : o b = true) (hj : j a b = true) : bz_hr j F o (va_up z b true) := by
  refine ⟨fun q hq hl => ⟨?_, fun i hi => ?_⟩, fun i hi => ?_⟩
  · by_cases e : q = b
    · rw [e, bz_up_s]
    · rw [bz_up_n _ _ e]
      exact (h.1 q hq hl).1
  · by_cases e : i = b
    · subst e
      exact fun y h1 h2 => h2 a i ((h.1 q hq hl).2 a ha y h1 h2) hj ho
    · rw [bz_up_n _ _ e] at hi
      exact (h.1 q hq hl).2 i hi
  · by_cases e : i = b
    · rw [e]
      exact hb
    · rw [bz_up_n _ _ e] at hi
      exact h.2 i hi
theorem bz_ct_up {z : Nat → Bool} {b n : Nat} (hb : b < n) (h : z b = false) : bz_ct z n < bz_ct (va_up z b true) n := bz_ct_lt (fun i _ hi => by
  by_cases e : i = b
  · rw [e, bz_up_s]
  · rw [bz_up_n _ _ e]
    exact hi) hb h (bz_up_s _ _ _)
def bz_al (F x : Nat → Bool) : Nat → Bool
  | 0 => true
  | i + 1 => bz_al F x i && (!F i || x i)
theorem bz_al_t {F x : Nat → Bool} : ∀ {n : Nat}, bz_al F x n = true → ∀ j, j < n → F j = true → x j = true
  | 0, _, j, hj, _ => absurd hj (by omega)
  | n + 1, h, j, hj, hF => by
    have h := (Bool.and_eq_true _ _).mp h
    by_cases e : j = n
    · subst e
      have := h.2
      rw [hF] at this
      simpa using this
    · exact bz_al_t h.1 j (by omega) hF
theorem bz_al_f {F x : Nat → Bool} : ∀ {n : Nat}, bz_al F x n = false → ∃ j, j < n ∧ F j = true ∧ x j = false
  | 0, h => absurd h (by simp [bz_al])
  | n + 1, h => by
    cases e1 : bz_al F x n
    · obtain ⟨j, h1, h2⟩ := bz_al_f e1
      exact ⟨j, by omega, h2⟩
    · have h : (bz_al F x n && (!F n || x n)) = false := h
      rw [e1] at h
      cases e2 : F n
      · rw [e2] at h
        exact absurd h (by simp)
      · cases e3 : x n
        · exact ⟨n, by omega, e2, e3⟩
        · rw [e2, e3] at h
          exact absurd h (by simp)
theorem bz_al_1 {F x : Nat → Bool} {i : Nat} (h : bz_al F x i = true) (h2 : F i = false ∨ x i = true) : bz_al F x (i + 1) = true := by
  show (bz_al F x i && (!F i || x i)) = true
  rw [h]
  rcases h2 with h2 | h2 <;> simp [h2]
theorem bz_al_0 {F x : Nat → Bool} {i : Nat} (h : bz_al F x i = false) : bz_al F x (i + 1) = false := by
  show (bz_al F x i && (!F i || x i)) = false
  rw [h]
  rfl
theorem bz_al_n {F x : Nat → Bool} {i : Nat} (h1 : F i = true) (h2 : x i = false) : bz_al F x (i + 1) = false := by
  show (bz_al F x i && (!F i || x i)) = false
  rw [h1, h2]
  simp
theorem bz_hang {t : bz_T} {f : Nat → Nat} {r : Nat} {x : Nat → Bool} (hx : bz_hr (bz_j t) (bz_in t (bz_fu f) r) (fun a => bz_in t (bz_fu f) r a || bz_op t (bz_fu f) a) x) (hcl : ∀ a, a < bz_n t → ∀ b, b < bz_n t → x a = true → bz_in t (bz_fu f) r b = true → bz_j t a b = true → x b = true) : bz_i (bz_al (bz_in t (bz_fu f) r) x (bz_n t)) = nI (bz_b (bz_ht t (bz_fu f) r)) := by
  cases e : bz_al (bz_in t (bz_fu f) r) x (bz_n t)
  · obtain ⟨b, b1, b2, b3⟩ := bz_al_f e
    have hno : ¬ bz_ht t (bz_fu f) r := by
      intro htg
      obtain ⟨a, -, ha, hl⟩ := bz_least b2
      have := htg a ha hl b b2 x (hx.1 a ha hl).1 (fun i k q1 q2 q3 => by
        have hk : bz_in t (bz_fu f) r k = true := by
          rcases (Bool.or_eq_true _ _).mp q3 with z | z
          · exact z
          · unfold bz_op bz_fu at z
            simp at z
        exact hcl i (bz_in_n (hx.2 i q1)) k (bz_in_n hk) q1 hk q2)
      rw [b3] at this
      exact absurd this (by simp)
    rw [bz_b0 hno]
    rfl
  · have hyes : bz_ht t (bz_fu f) r := fun a ha hl b hb => (hx.1 a ha hl).2 b (bz_al_t e b (bz_in_n hb) hb)
    rw [bz_b1 hyes]
    rfl
theorem bz_nari (b : Bool) : narrow .boolean (.int (bz_i b)) = .int (bz_i b) := by cases b <;> rfl

set_option maxHeartbeats 4000000 in
set_option maxRecDepth 100000 in
/-- hangs of share -/
theorem c_M_hangs_share (l : Launch) (dC : Nat → ClassId) (dI : Nat → Nat → Nat) (sz : Nat) (am : Nat → Nat) (cI cL cZ : ClassId) (t : bz_T) (th sv ex : Int32) (f : Nat → Nat) (S2 S3 : Nat → Int32) (ht : bz_ok t) (r : Nat) (hr4 : r < 4) (hf : ∀ a, a < bz_n t → f a < 4) : Met l y_M_hangs w_M_hangs ({ frames := 0, cells := 0, slots := 0, locals := 0 }) (bz_Pw (dC, dI) [(cI, .int), (cL, .long), (cZ, .boolean)] (bz_wM am cI cL cZ (bz_tM t) (th, sv, ex) ((fun a => nI (f a)), S2, S3)) sz [.ref (am 0), .ref (am 6), .int (nI r)]) (bz_Qxi (dC, dI) [(cI, .int), (cL, .long), (cZ, .boolean)] (va_A (bz_wM am cI cL cZ (bz_tM t) (th, sv, ex) ((fun a => nI (f a)), S2, S3)) sz) (fun r9 (u : Nat → Int32) => r9 = nI (bz_b (bz_ht t (bz_fu f) r))) (fun u : Nat → Int32 => bz_wM am cI cL cZ (bz_tM t) (th, sv, ex) ((fun a => nI (f a)), S2, u))) 0 0 (va_A (bz_wM am cI cL cZ (bz_tM t) (th, sv, ex) ((fun a => nI (f a)), S2, S3)) sz) := by
  refine Met.ofW (cc := b_M_hangs) (maxL := 7) (ret := (some .boolean)) (by decide) rfl ?_
  intro p e s m args below meth c s₁ B hml hv
  obtain ⟨rfl, hsz, hP, hK, hD0, hN⟩ := hv
  have hx := B.exec
  have hb := B.bytes
  have hr := B.returns
  have hts := atoms_spec (ws := w_M_hangs) B.pre
  have hown : s.vm.findClass R_M = some m.cls := findClass_of_methodNamed B.named
  have htb : ∀ w ∈ bz_tb, w.before _ s = true := fun w h => hts w (List.mem_cons_of_mem _ h)
  have hlocks := B.notSynchronized
  subst hsz
  have hD := hD0.self (sz := s.heap.size)
  generalize hAe : va_A (bz_wM am cI cL cZ (bz_tM t) (th, sv, ex) ((fun a => nI (f a)), S2, S3)) s.heap.size = A at hD ⊢
  have hA : ∀ q : Nat, s.heap.size ≤ q → A q := fun q h => by rw [← hAe]; exact Or.inr h
  have hS : va_S A s.heap s.heap [] := va_S.rf
  have hl := lv_entry ([.ref (am 0), .ref (am 6), .int (nI r)]) (n := 7) (Nat.le_of_ble_eq_true rfl)
  rw [lg_entry_eq]
  generalize (lg_sl ([.ref (am 0), .ref (am 6), .int (nI r)]) ++ List.replicate (7 - (lg_sl ([.ref (am 0), .ref (am 6), .int (nI r)])).length) Slot.unset).toArray = ls at hl ⊢
  have hl : lv_has ls 7 [(0, .ref (am 0)), (1, .ref (am 6)), (2, .int (nI r))] := hl
  have hn30 := ht.1
  refine lv_iconst (v := nI 0) hx hb d_M_hangs_0 (by decide) ?_
  refine lv_istore_n (lv' := [(3, .int (nI 0)), (0, .ref (am 0)), (1, .ref (am 6)), (2, .int (nI r))]) hx hb d_M_hangs_1 rfl hl (by decide) rfl (fun ls hl => ?_)
  refine lv_iconst (v := nI 0) hx hb d_M_hangs_2 (by decide) ?_
  refine lv_istore (lv' := [(4, .int (nI 0)), (3, .int (nI 0)), (0, .ref (am 0)), (1, .ref (am 6)), (2, .int (nI r))]) hx hb d_M_hangs_3 hl (by decide) rfl (fun ls hl => ?_)
  have e9 : (bz_se 0 (bz_x0 (bz_in t (bz_fu f) r)) S3) = S3 := bz_se_0 _ _
  rw [← e9] at hP hD
  have hl : lv_has ls 7 [(4, .int (nI 0)), (3, .int (bz_i (bz_bn (bz_in t (bz_fu f) r) 0))), (0, .ref (am 0)), (1, .ref (am 6)), (2, .int (nI r))] := by rw [show bz_i (bz_bn (bz_in t (bz_fu f) r) 0) = nI 0 from by rw [bz_bn_0]; rfl]; exact hl
  have lpa : ∀ (k9 : Nat) (i : Nat), bz_n t - i < k9 → (i ≤ bz_n t) → ∀ (H : Heap) (locs : List Loc), va_P (dC, dI) vwCl (bz_wM am cI cL cZ (bz_tM t) (th, sv, ex) ((fun a => nI (f a)), S2, (bz_se i (bz_x0 (bz_in t (bz_fu f) r)) S3))) H → va_D A (bz_wM am cI cL cZ (bz_tM t) (th, sv, ex) ((fun a => nI (f a)), S2, (bz_se i (bz_x0 (bz_in t (bz_fu f) r)) S3))) → va_S A s.heap H locs → ∀ (ls : Array Slot), lv_has ls 7 [(0, .ref (am 0)), (1, .ref (am 6)), (2, .int (nI r)), (3, .int (bz_i (bz_bn (bz_in t (bz_fu f) r) i))), (4, .int (nI i))] → W p l e (headSpec w_M_hangs ({ frames := 0, cells := 0, slots := 0, locals := 0 })).room s m ([.ref (am 0), .ref (am 6), .int (nI r)]).toArray below meth c H locs 0 0 (MQ below (bz_Qxi (dC, dI) [(cI, .int), (cL, .long), (cZ, .boolean)] A (fun r9 (u : Nat → Int32) => r9 = nI (bz_b (bz_ht t (bz_fu f) r))) (fun u : Nat → Int32 => bz_wM am cI cL cZ (bz_tM t) (th, sv, ex) ((fun a => nI (f a)), S2, u))) ([.ref (am 0), .ref (am 6), .int (nI r)]).toArray s 0 0 (A)) (F0 m 5 ls []) := by
    intro k9
    induction k9 with
    | zero =>
      intro i h9
      exact absurd h9 (Nat.not_lt_zero _)
    | succ k9 ihlpa =>
      intro i h9_lpa hi H locs hP hD hS ls hl
      refine lv_iload hx hb d_M_hangs_5 (lv_at hl 4 rfl) ?_
      refine lv_aload_n hx hb d_M_hangs_7 rfl (lv_at hl 0 rfl) ?_
      refine va_get (D := (dC, dI)) (ci := 4) (v := .int (nI (bz_n t))) (C := R_M) (T := F_M) (N := 12) hx hb htb in_M hown hK hP 0 rfl rfl 1 (by decide) (htb _ wd_411) (fun _ h9 => h9) rfl d_M_hangs_8 ?_
      refine lv_icmp_ge (tgt := 62) hx hb d_M_hangs_11 (by decide) (fun c_11 => ?_) (fun c_11 => ?_)
      · skip
        have hin : i = bz_n t := by have := (nI_leI (by omega) (by omega)).mp c_11; omega
        have e9 : (bz_se (bz_n t) (bz_x0 (bz_in t (bz_fu f) r)) S3) = (bz_se i (bz_x0 (bz_in t (bz_fu f) r)) S3) := by rw [hin]
        rw [← e9] at hP hD
        refine lv_iconst (v := nI 1) hx hb d_M_hangs_62 (by decide) ?_
        refine lv_istore (lv' := [(4, .int (nI 1)), (0, .ref (am 0)), (1, .ref (am 6)), (2, .int (nI r)), (3, .int (bz_i (bz_bn (bz_in t (bz_fu f) r) i)))]) hx hb d_M_hangs_63 hl (by decide) rfl (fun ls hl => ?_)
        have lpw : ∀ (k9 : Nat) (x : Nat → Bool) (mo : Bool), 2 * (bz_n t - bz_ct x (bz_n t)) + (if mo then 1 else 0) < k9 → (bz_hr (bz_j t) (bz_in t (bz_fu f) r) (fun a => bz_in t (bz_fu f) r a || bz_op t (bz_fu f) a) x) → (mo = false → ∀ a, a < bz_n t → ∀ b, b < bz_n t → x a = true → bz_in t (bz_fu f) r b = true → bz_j t a b = true → x b = true) → ∀ (H : Heap) (locs : List Loc), va_P (dC, dI) vwCl (bz_wM am cI cL cZ (bz_tM t) (th, sv, ex) ((fun a => nI (f a)), S2, (bz_se (bz_n t) x S3))) H → va_D A (bz_wM am cI cL cZ (bz_tM t) (th, sv, ex) ((fun a => nI (f a)), S2, (bz_se (bz_n t) x S3))) → va_S A s.heap H locs → ∀ (ls : Array Slot), lv_has ls 7 [(0, .ref (am 0)), (1, .ref (am 6)), (2, .int (nI r)), (4, .int (bz_i mo))] → W p l e (headSpec w_M_hangs ({ frames := 0, cells := 0, slots := 0, locals := 0 })).room s m ([.ref (am 0), .ref (am 6), .int (nI r)]).toArray below meth c H locs 0 0 (MQ below (bz_Qxi (dC, dI) [(cI, .int), (cL, .long), (cZ, .boolean)] A (fun r9 (u : Nat → Int32) => r9 = nI (bz_b (bz_ht t (bz_fu f) r))) (fun u : Nat → Int32 => bz_wM am cI cL cZ (bz_tM t) (th, sv, ex) ((fun a => nI (f a)), S2, u))) ([.ref (am 0), .ref (am 6), .int (nI r)]).toArray s 0 0 (A)) (F0 m 65 ls []) := by
          intro k9
          induction k9 with
          | zero =>
            intro x mo h9
            exact absurd h9 (Nat.not_lt_zero _)
          | succ k9 ihlpw =>
            intro x mo h9_lpw hx2 hcl H locs hP hD hS ls hl
            refine lv_iload hx hb d_M_hangs_65 (lv_at hl 3 rfl) ?_
            refine lv_if_eq (tgt := 167) hx hb d_M_hangs_67 (by decide) (fun c_67 => ?_) (fun c_67 => ?_)
            · skip
              have hmo := bz_i_eq c_67
              refine lv_iconst (v := nI 1) hx hb d_M_hangs_167 (by decide) ?_
              refine lv_istore (lv' := [(5, .int (nI 1)), (0, .ref (am 0)), (1, .ref (am 6)), (2, .int (nI r)), (4, .int (bz_i mo))]) hx hb d_M_hangs_168 hl (by decide) rfl (fun ls hl => ?_)
              refine lv_iconst (v := nI 0) hx hb d_M_hangs_170 (by decide) ?_
              refine lv_istore (lv' := [(6, .int (nI 0)), (5, .int (nI 1)), (0, .ref (am 0)), (1, .ref (am 6)), (2, .int (nI r)), (4, .int (bz_i mo))]) hx hb d_M_hangs_171 hl (by decide) rfl (fun ls hl => ?_)
              have lpe : ∀ (k9 : Nat) (i : Nat), bz_n t - i < k9 → (i ≤ bz_n t) → ∀ (H : Heap) (locs : List Loc), va_P (dC, dI) vwCl (bz_wM am cI cL cZ (bz_tM t) (th, sv, ex) ((fun a => nI (f a)), S2, (bz_se (bz_n t) x S3))) H → va_D A (bz_wM am cI cL cZ (bz_tM t) (th, sv, ex) ((fun a => nI (f a)), S2, (bz_se (bz_n t) x S3))) → va_S A s.heap H locs → ∀ (ls : Array Slot), lv_has ls 7 [(0, .ref (am 0)), (1, .ref (am 6)), (2, .int (nI r)), (5, .int (bz_i (bz_al (bz_in t (bz_fu f) r) x i))), (6, .int (nI i))] → W p l e (headSpec w_M_hangs ({ frames := 0, cells := 0, slots := 0, locals := 0 })).room s m ([.ref (am 0), .ref (am 6), .int (nI r)]).toArray below meth c H locs 0 0 (MQ below (bz_Qxi (dC, dI) [(cI, .int), (cL, .long), (cZ, .boolean)] A (fun r9 (u : Nat → Int32) => r9 = nI (bz_b (bz_ht t (bz_fu f) r))) (fun u : Nat → Int32 => bz_wM am cI cL cZ (bz_tM t) (th, sv, ex) ((fun a => nI (f a)), S2, u))) ([.ref (am 0), .ref (am 6), .int (nI r)]).toArray s 0 0 (A)) (F0 m 173 ls []) := by
                intro k9
                induction k9 with
                | zero =>
                  intro i h9
                  exact absurd h9 (Nat.not_lt_zero _)
                | succ k9 ihlpe =>
                  intro i h9_lpe hi H locs hP hD hS ls hl
                  refine lv_iload hx hb d_M_hangs_173 (lv_at hl 4 rfl) ?_
                  refine lv_aload_n hx hb d_M_hangs_175 rfl (lv_at hl 0 rfl) ?_
                  refine va_get (D := (dC, dI)) (ci := 4) (v := .int (nI (bz_n t))) (C := R_M) (T := F_M) (N := 12) hx hb htb in_M hown hK hP 0 rfl rfl 1 (by decide) (htb _ wd_411) (fun _ h9 => h9) rfl d_M_hangs_176 ?_
                  refine lv_icmp_ge (tgt := 218) hx hb d_M_hangs_179 (by decide) (fun c_179 => ?_) (fun c_179 => ?_)
                  · skip
                    have hin : i = bz_n t := by have := (nI_leI (by omega) (by omega)).mp c_179; omega
                    refine lv_iload hx hb d_M_hangs_218 (lv_at hl 3 rfl) ?_
                    exact W.zret (v := bz_i (bz_al (bz_in t (bz_fu f) r) x i)) hx hb hr (bz_nari _) (fun t9 ht9 hW => ⟨⟨_, (bz_se (bz_n t) x S3), rfl, by rw [hin]; exact bz_hang hx2 (hcl hmo), by rw [ht9]; exact hP, va_K.moved hW.alike hK, hD⟩, hS.F ht9⟩) hS.2.2 d_M_hangs_220
                  · skip
                    have hin : i < bz_n t := Nat.lt_of_not_le fun z => c_179 ((nI_leI (by omega) (by omega)).mpr z)
                    have hfi := hf i hin
                    refine lv_iload hx hb d_M_hangs_182 (lv_at hl 3 rfl) ?_
                    refine lv_if_eq (tgt := 209) hx hb d_M_hangs_184 (by decide) (fun c_184 => ?_) (fun c_184 => ?_)
                    · skip
                      have hA5 := bz_al_0 (bz_i_eq c_184)
                      refine lv_iconst (v := nI 0) hx hb d_M_hangs_209 (by decide) ?_
                      refine bz_ri (y := bz_i (bz_al (bz_in t (bz_fu f) r) x (i + 1))) (by rw [hA5]; rfl) ?_
                      refine lv_istore (lv' := [(5, .int (bz_i (bz_al (bz_in t (bz_fu f) r) x (i + 1)))), (0, .ref (am 0)), (1, .ref (am 6)), (2, .int (nI r)), (6, .int (nI i))]) hx hb d_M_hangs_210 hl (by decide) rfl (fun ls hl => ?_)
                      refine lv_iinc (v := nI (i + 1)) (lv' := [(6, .int (nI (i + 1))), (5, .int (bz_i (bz_al (bz_in t (bz_fu f) r) x (i + 1)))), (0, .ref (am 0)), (1, .ref (am 6)), (2, .int (nI r))]) hx hb d_M_hangs_212 hl (k := 4) rfl (nI_1 _) (by decide) rfl (fun ls hl => ?_)
                      refine lv_goto (tgt := 173) hx hb d_M_hangs_215 (by decide) ?_
                      exact ihlpe (i + 1) (by omega) (by omega) _ _ hP hD hS ls (lv_sub hl [2, 3, 4, 1, 0] rfl)
                    · skip
                      have hA4 := bz_i_ne c_184
                      refine lv_aload_n hx hb d_M_hangs_187 rfl (lv_at hl 1 rfl) ?_
                      refine lv_iload hx hb d_M_hangs_188 (lv_at hl 4 rfl) ?_
                      refine bz_iald (v := nI (f i)) hx hb hK hP 6 0 rfl rfl (a9 := i) (by omega) (by decide) (rfl) d_M_hangs_190 ?_
                      refine lv_iload_n hx hb d_M_hangs_191 rfl (lv_at hl 2 rfl) ?_
                      refine lv_icmp_ne (tgt := 205) hx hb d_M_hangs_192 (by decide) (fun c_192 => ?_) (fun c_192 => ?_)
                      · skip
                        have hFi : bz_in t (bz_fu f) r i = false := by rw [bz_inf hin]; exact decide_eq_false fun z => c_192 (by rw [z])
                        have hA5 := bz_al_1 hA4 (Or.inl hFi)
                        refine lv_iconst (v := 1) hx hb d_M_hangs_205 (by decide) ?_
                        refine lv_goto (tgt := 210) hx hb d_M_hangs_206 (by decide) ?_
                        refine bz_ri (y := bz_i (bz_al (bz_in t (bz_fu f) r) x (i + 1))) (by rw [hA5]; rfl) ?_
                        refine lv_istore (lv' := [(5, .int (bz_i (bz_al (bz_in t (bz_fu f) r) x (i + 1)))), (0, .ref (am 0)), (1, .ref (am 6)), (2, .int (nI r)), (6, .int (nI i))]) hx hb d_M_hangs_210 hl (by decide) rfl (fun ls hl => ?_)
                        refine lv_iinc (v := nI (i + 1)) (lv' := [(6, .int (nI (i + 1))), (5, .int (bz_i (bz_al (bz_in t (bz_fu f) r) x (i + 1)))), (0, .ref (am 0)), (1, .ref (am 6)), (2, .int (nI r))]) hx hb d_M_hangs_212 hl (k := 4) rfl (nI_1 _) (by decide) rfl (fun ls hl => ?_)
                        refine lv_goto (tgt := 173) hx hb d_M_hangs_215 (by decide) ?_
                        exact ihlpe (i + 1) (by omega) (by omega) _ _ hP hD hS ls (lv_sub hl [2, 3, 4, 1, 0] rfl)
                      · skip
                        have hFi : bz_in t (bz_fu f) r i = true := by rw [bz_inf hin]; exact decide_eq_true ((nI_eq (by omega) (by omega)).mp c_192)
                        refine lv_aload_n hx hb d_M_hangs_195 rfl (lv_at hl 0 rfl) ?_
                        refine va_get (D := (dC, dI)) (ci := 4) (v := .ref (am 8)) (C := R_M) (T := F_M) (N := 12) hx hb htb in_M hown hK hP 0 rfl rfl 11 (by decide) (htb _ wd_421) (fun _ h9 => h9) rfl d_M_hangs_196 ?_
                        refine lv_iload hx hb d_M_hangs_199 (lv_at hl 4 rfl) ?_
                        refine bz_zald (v := bz_i (x i)) hx hb hK hP 8 2 rfl rfl (a9 := i) (by omega) (by decide) (bz_se_at (by omega) _ _) d_M_hangs_201 ?_
                        refine lv_if_eq (tgt := 209) hx hb d_M_hangs_202 (by decide) (fun c_202 => ?_) (fun c_202 => ?_)
                        · skip
                          have hA5 := bz_al_n hFi (bz_i_eq c_202)
                          refine lv_iconst (v := nI 0) hx hb d_M_hangs_209 (by decide) ?_
                          refine bz_ri (y := bz_i (bz_al (bz_in t (bz_fu f) r) x (i + 1))) (by rw [hA5]; rfl) ?_
                          refine lv_istore (lv' := [(5, .int (bz_i (bz_al (bz_in t (bz_fu f) r) x (i + 1)))), (0, .ref (am 0)), (1, .ref (am 6)), (2, .int (nI r)), (6, .int (nI i))]) hx hb d_M_hangs_210 hl (by decide) rfl (fun ls hl => ?_)
                          refine lv_iinc (v := nI (i + 1)) (lv' := [(6, .int (nI (i + 1))), (5, .int (bz_i (bz_al (bz_in t (bz_fu f) r) x (i + 1)))), (0, .ref (am 0)), (1, .ref (am 6)), (2, .int (nI r))]) hx hb d_M_hangs_212 hl (k := 4) rfl (nI_1 _) (by decide) rfl (fun ls hl => ?_)
                          refine lv_goto (tgt := 173) hx hb d_M_hangs_215 (by decide) ?_
                          exact ihlpe (i + 1) (by omega) (by omega) _ _ hP hD hS ls (lv_sub hl [2, 3, 4, 1, 0] rfl)
                        · skip
                          have hA5 := bz_al_1 hA4 (Or.inr (bz_i_ne c_202))
                          refine lv_iconst (v := 1) hx hb d_M_hangs_205 (by decide) ?_
                          refine lv_goto (tgt := 210) hx hb d_M_hangs_206 (by decide) ?_
                          refine bz_ri (y := bz_i (bz_al (bz_in t (bz_fu f) r) x (i + 1))) (by rw [hA5]; rfl) ?_
                          refine lv_istore (lv' := [(5, .int (bz_i (bz_al (bz_in t (bz_fu f) r) x (i + 1)))), (0, .ref (am 0)), (1, .ref (am 6)), (2, .int (nI r)), (6, .int (nI i))]) hx hb d_M_hangs_210 hl (by decide) rfl (fun ls hl => ?_)
                          refine lv_iinc (v := nI (i + 1)) (lv' := [(6, .int (nI (i + 1))), (5, .int (bz_i (bz_al (bz_in t (bz_fu f) r) x (i + 1)))), (0, .ref (am 0)), (1, .ref (am 6)), (2, .int (nI r))]) hx hb d_M_hangs_212 hl (k := 4) rfl (nI_1 _) (by decide) rfl (fun ls hl => ?_)
                          refine lv_goto (tgt := 173) hx hb d_M_hangs_215 (by decide) ?_
                          exact ihlpe (i + 1) (by omega) (by omega) _ _ hP hD hS ls (lv_sub hl [2, 3, 4, 1, 0] rfl)
              exact lpe _ 0 (Nat.lt_succ_self _) (by omega) _ _ hP hD hS ls (lv_sub hl [2, 3, 4, 1, 0] rfl)
            · skip
              have hmo := bz_i_ne c_67
              refine lv_iconst (v := nI 0) hx hb d_M_hangs_70 (by decide) ?_
              refine lv_istore (lv' := [(4, .int (nI 0)), (0, .ref (am 0)), (1, .ref (am 6)), (2, .int (nI r))]) hx hb d_M_hangs_71 hl (by decide) rfl (fun ls hl => ?_)
              refine lv_iconst (v := nI 0) hx hb d_M_hangs_73 (by decide) ?_
              refine lv_istore (lv' := [(5, .int (nI 0)), (4, .int (nI 0)), (0, .ref (am 0)), (1, .ref (am 6)), (2, .int (nI r))]) hx hb d_M_hangs_74 hl (by decide) rfl (fun ls hl => ?_)
              have lpo : ∀ (k9 : Nat) (a : Nat) (y : Nat → Bool) (m2 : Bool), bz_n t - a < k9 → (a ≤ bz_n t) → (bz_hr (bz_j t) (bz_in t (bz_fu f) r) (fun a => bz_in t (bz_fu f) r a || bz_op t (bz_fu f) a) y) → ((m2 = true ∧ bz_ct x (bz_n t) < bz_ct y (bz_n t)) ∨ (m2 = false ∧ y = x ∧ ∀ q, q < a → ∀ b, b < bz_n t → x q = true → bz_in t (bz_fu f) r b = true → bz_j t q b = true → x b = true)) → ∀ (H : Heap) (locs : List Loc), va_P (dC, dI) vwCl (bz_wM am cI cL cZ (bz_tM t) (th, sv, ex) ((fun a => nI (f a)), S2, (bz_se (bz_n t) y S3))) H → va_D A (bz_wM am cI cL cZ (bz_tM t) (th, sv, ex) ((fun a => nI (f a)), S2, (bz_se (bz_n t) y S3))) → va_S A s.heap H locs → ∀ (ls : Array Slot), lv_has ls 7 [(0, .ref (am 0)), (1, .ref (am 6)), (2, .int (nI r)), (4, .int (bz_i m2)), (5, .int (nI a))] → W p l e (headSpec w_M_hangs ({ frames := 0, cells := 0, slots := 0, locals := 0 })).room s m ([.ref (am 0), .ref (am 6), .int (nI r)]).toArray below meth c H locs 0 0 (MQ below (bz_Qxi (dC, dI) [(cI, .int), (cL, .long), (cZ, .boolean)] A (fun r9 (u : Nat → Int32) => r9 = nI (bz_b (bz_ht t (bz_fu f) r))) (fun u : Nat → Int32 => bz_wM am cI cL cZ (bz_tM t) (th, sv, ex) ((fun a => nI (f a)), S2, u))) ([.ref (am 0), .ref (am 6), .int (nI r)]).toArray s 0 0 (A)) (F0 m 76 ls []) := by
                intro k9
                induction k9 with
                | zero =>
                  intro a y m2 h9
                  exact absurd h9 (Nat.not_lt_zero _)
                | succ k9 ihlpo =>
                  intro a y m2 h9_lpo ha hy hrel H locs hP hD hS ls hl
                  refine lv_iload hx hb d_M_hangs_76 (lv_at hl 4 rfl) ?_
                  refine lv_aload_n hx hb d_M_hangs_78 rfl (lv_at hl 0 rfl) ?_
                  refine va_get (D := (dC, dI)) (ci := 4) (v := .int (nI (bz_n t))) (C := R_M) (T := F_M) (N := 12) hx hb htb in_M hown hK hP 0 rfl rfl 1 (by decide) (htb _ wd_411) (fun _ h9 => h9) rfl d_M_hangs_79 ?_
                  refine lv_icmp_ge (tgt := 164) hx hb d_M_hangs_82 (by decide) (fun c_82 => ?_) (fun c_82 => ?_)
                  · skip
                    have han : a = bz_n t := by have := (nI_leI (by omega) (by omega)).mp c_82; omega
                    refine lv_goto (tgt := 65) hx hb d_M_hangs_164 (by decide) ?_
                    exact ihlpw y m2 (by rcases hrel with ⟨h1, h2⟩ | ⟨h1, h2, -⟩; { subst h1; rw [hmo] at h9_lpw; simp at h9_lpw; have := bz_ct_le y (bz_n t); simp; omega }; { subst h1; rw [h2]; rw [hmo] at h9_lpw; simp at h9_lpw; simp; omega }) (hy) (fun h => by rcases hrel with ⟨h1, -⟩ | ⟨-, h2, h3⟩; { rw [h] at h1; exact absurd h1 (by simp) }; { rw [h2]; intro q hq; exact h3 q (by omega) }) _ _ hP hD hS ls (lv_sub hl [0, 1, 2, 3] rfl)
                  · skip
                    have han : a < bz_n t := Nat.lt_of_not_le fun z => c_82 ((nI_leI (by omega) (by omega)).mpr z)
                    refine lv_iconst (v := nI 0) hx hb d_M_hangs_85 (by decide) ?_
                    refine lv_istore (lv' := [(6, .int (nI 0)), (0, .ref (am 0)), (1, .ref (am 6)), (2, .int (nI r)), (4, .int (bz_i m2)), (5, .int (nI a))]) hx hb d_M_hangs_86 hl (by decide) rfl (fun ls hl => ?_)
                    have lpi : ∀ (k9 : Nat) (b : Nat) (z : Nat → Bool) (m3 : Bool), bz_n t - b < k9 → (b ≤ bz_n t) → (bz_hr (bz_j t) (bz_in t (bz_fu f) r) (fun a => bz_in t (bz_fu f) r a || bz_op t (bz_fu f) a) z) → ((m3 = true ∧ bz_ct x (bz_n t) < bz_ct z (bz_n t)) ∨ (m3 = false ∧ z = x ∧ (∀ q, q < a → ∀ b, b < bz_n t → x q = true → bz_in t (bz_fu f) r b = true → bz_j t q b = true → x b = true) ∧ ∀ q, q < b → x a = true → bz_in t (bz_fu f) r q = true → bz_j t a q = true → x q = true)) → ∀ (H : Heap) (locs : List Loc), va_P (dC, dI) vwCl (bz_wM am cI cL cZ (bz_tM t) (th, sv, ex) ((fun a => nI (f a)), S2, (bz_se (bz_n t) z S3))) H → va_D A (bz_wM am cI cL cZ (bz_tM t) (th, sv, ex) ((fun a => nI (f a)), S2, (bz_se (bz_n t) z S3))) → va_S A s.heap H locs → ∀ (ls : Array Slot), lv_has ls 7 [(0, .ref (am 0)), (1, .ref (am 6)), (2, .int (nI r)), (4, .int (bz_i m3)), (5, .int (nI a)), (6, .int (nI b))] → W p l e (headSpec w_M_hangs ({ frames := 0, cells := 0, slots := 0, locals := 0 })).room s m ([.ref (am 0), .ref (am 6), .int (nI r)]).toArray below meth c H locs 0 0 (MQ below (bz_Qxi (dC, dI) [(cI, .int), (cL, .long), (cZ, .boolean)] A (fun r9 (u : Nat → Int32) => r9 = nI (bz_b (bz_ht t (bz_fu f) r))) (fun u : Nat → Int32 => bz_wM am cI cL cZ (bz_tM t) (th, sv, ex) ((fun a => nI (f a)), S2, u))) ([.ref (am 0), .ref (am 6), .int (nI r)]).toArray s 0 0 (A)) (F0 m 88 ls []) := by
                      intro k9
                      induction k9 with
                      | zero =>
                        intro b z m3 h9
                        exact absurd h9 (Nat.not_lt_zero _)
                      | succ k9 ihlpi =>
                        intro b z m3 h9_lpi hbb hz hre3 H locs hP hD hS ls hl
                        refine lv_iload hx hb d_M_hangs_88 (lv_at hl 5 rfl) ?_
                        refine lv_aload_n hx hb d_M_hangs_90 rfl (lv_at hl 0 rfl) ?_
                        refine va_get (D := (dC, dI)) (ci := 4) (v := .int (nI (bz_n t))) (C := R_M) (T := F_M) (N := 12) hx hb htb in_M hown hK hP 0 rfl rfl 1 (by decide) (htb _ wd_411) (fun _ h9 => h9) rfl d_M_hangs_91 ?_
                        refine lv_icmp_ge (tgt := 158) hx hb d_M_hangs_94 (by decide) (fun c_94 => ?_) (fun c_94 => ?_)
                        · skip
                          have hbn : b = bz_n t := by have := (nI_leI (by omega) (by omega)).mp c_94; omega
                          refine lv_iinc (v := nI (a + 1)) (lv' := [(5, .int (nI (a + 1))), (0, .ref (am 0)), (1, .ref (am 6)), (2, .int (nI r)), (4, .int (bz_i m3)), (6, .int (nI b))]) hx hb d_M_hangs_158 hl (k := 4) rfl (nI_1 _) (by decide) rfl (fun ls hl => ?_)
                          refine lv_goto (tgt := 76) hx hb d_M_hangs_161 (by decide) ?_
                          exact ihlpo (a + 1) z m3 (by omega) (by omega) (hz) (by rcases hre3 with h | ⟨h1, h2, h3, h4⟩; { exact Or.inl h }; { refine Or.inr ⟨h1, h2, fun q hq => ?_⟩; by_cases e : q = a; { subst e; intro b2 hb2; exact h4 b2 (by omega) }; { exact h3 q (by omega) } }) _ _ hP hD hS ls (lv_sub hl [1, 2, 3, 4, 0] rfl)
                        · skip
                          have hbn : b < bz_n t := Nat.lt_of_not_le fun z => c_94 ((nI_leI (by omega) (by omega)).mpr z)
                          refine lv_aload_n hx hb d_M_hangs_97 rfl (lv_at hl 0 rfl) ?_
                          refine va_get (D := (dC, dI)) (ci := 4) (v := .ref (am 8)) (C := R_M) (T := F_M) (N := 12) hx hb htb in_M hown hK hP 0 rfl rfl 11 (by decide) (htb _ wd_421) (fun _ h9 => h9) rfl d_M_hangs_98 ?_
                          refine lv_iload hx hb d_M_hangs_101 (lv_at hl 4 rfl) ?_
                          refine bz_zald (v := bz_i (z a)) hx hb hK hP 8 2 rfl rfl (a9 := a) (by omega) (by decide) (bz_se_at (by omega) _ _) d_M_hangs_103 ?_
                          refine lv_if_eq (tgt := 152) hx hb d_M_hangs_104 (by decide) (fun c_104 => ?_) (fun c_104 => ?_)
                          · skip
                            have hP4 : z a = true → bz_in t (bz_fu f) r b = true → bz_j t a b = true → z b = true := fun q => by rw [bz_i_eq c_104] at q; exact absurd q (by simp)
                            refine lv_iinc (v := nI (b + 1)) (lv' := [(6, .int (nI (b + 1))), (0, .ref (am 0)), (1, .ref (am 6)), (2, .int (nI r)), (4, .int (bz_i m3)), (5, .int (nI a))]) hx hb d_M_hangs_152 hl (k := 5) rfl (nI_1 _) (by decide) rfl (fun ls hl => ?_)
                            refine lv_goto (tgt := 88) hx hb d_M_hangs_155 (by decide) ?_
                            exact ihlpi (b + 1) z m3 (by omega) (by omega) (hz) (by rcases hre3 with h | ⟨h1, h2, h3, h4⟩; { exact Or.inl h }; { refine Or.inr ⟨h1, h2, h3, fun q hq => ?_⟩; by_cases e : q = b; { subst e; rw [← h2]; intro p1 p2 p3; exact hP4 p1 p2 p3 }; { exact h4 q (by omega) } }) _ _ hP hD hS ls (lv_sub hl [1, 2, 3, 4, 5, 0] rfl)
                          · skip
                            have hza := bz_i_ne c_104
                            have hfb := hf b hbn
                            refine lv_aload_n hx hb d_M_hangs_107 rfl (lv_at hl 1 rfl) ?_
                            refine lv_iload hx hb d_M_hangs_108 (lv_at hl 5 rfl) ?_
                            refine bz_iald (v := nI (f b)) hx hb hK hP 6 0 rfl rfl (a9 := b) (by omega) (by decide) (rfl) d_M_hangs_110 ?_
                            refine lv_iload_n hx hb d_M_hangs_111 rfl (lv_at hl 2 rfl) ?_
                            refine lv_icmp_ne (tgt := 152) hx hb d_M_hangs_112 (by decide) (fun c_112 => ?_) (fun c_112 => ?_)
                            · skip
                              have hFb : bz_in t (bz_fu f) r b = false := by rw [bz_inf hbn]; exact decide_eq_false fun z => c_112 (by rw [z])
                              have hP4 : z a = true → bz_in t (bz_fu f) r b = true → bz_j t a b = true → z b = true := fun _ q => by rw [hFb] at q; exact absurd q (by simp)
                              refine lv_iinc (v := nI (b + 1)) (lv' := [(6, .int (nI (b + 1))), (0, .ref (am 0)), (1, .ref (am 6)), (2, .int (nI r)), (4, .int (bz_i m3)), (5, .int (nI a))]) hx hb d_M_hangs_152 hl (k := 5) rfl (nI_1 _) (by decide) rfl (fun ls hl => ?_)
                              refine lv_goto (tgt := 88) hx hb d_M_hangs_155 (by decide) ?_
                              exact ihlpi (b + 1) z m3 (by omega) (by omega) (hz) (by rcases hre3 with h | ⟨h1, h2, h3, h4⟩; { exact Or.inl h }; { refine Or.inr ⟨h1, h2, h3, fun q hq => ?_⟩; by_cases e : q = b; { subst e; rw [← h2]; intro p1 p2 p3; exact hP4 p1 p2 p3 }; { exact h4 q (by omega) } }) _ _ hP hD hS ls (lv_sub hl [1, 2, 3, 4, 5, 0] rfl)
                            · skip
                              have hFb : bz_in t (bz_fu f) r b = true := by rw [bz_inf hbn]; exact decide_eq_true ((nI_eq (by omega) (by omega)).mp c_112)
                              refine lv_aload_n hx hb d_M_hangs_115 rfl (lv_at hl 0 rfl) ?_
                              refine va_get (D := (dC, dI)) (ci := 4) (v := .ref (am 8)) (C := R_M) (T := F_M) (N := 12) hx hb htb in_M hown hK hP 0 rfl rfl 11 (by decide) (htb _ wd_421) (fun _ h9 => h9) rfl d_M_hangs_116 ?_
                              refine lv_iload hx hb d_M_hangs_119 (lv_at hl 5 rfl) ?_
                              refine bz_zald (v := bz_i (z b)) hx hb hK hP 8 2 rfl rfl (a9 := b) (by omega) (by decide) (bz_se_at (by omega) _ _) d_M_hangs_121 ?_
                              refine lv_if_ne (tgt := 152) hx hb d_M_hangs_122 (by decide) (fun c_122 => ?_) (fun c_122 => ?_)
                              · skip
                                have hP4 : z a = true → bz_in t (bz_fu f) r b = true → bz_j t a b = true → z b = true := fun _ _ _ => bz_i_ne c_122
                                refine lv_iinc (v := nI (b + 1)) (lv' := [(6, .int (nI (b + 1))), (0, .ref (am 0)), (1, .ref (am 6)), (2, .int (nI r)), (4, .int (bz_i m3)), (5, .int (nI a))]) hx hb d_M_hangs_152 hl (k := 5) rfl (nI_1 _) (by decide) rfl (fun ls hl => ?_)
                                refine lv_goto (tgt := 88) hx hb d_M_hangs_155 (by decide) ?_
                                exact ihlpi (b + 1) z m3 (by omega) (by omega) (hz) (by rcases hre3 with h | ⟨h1, h2, h3, h4⟩; { exact Or.inl h }; { refine Or.inr ⟨h1, h2, h3, fun q hq => ?_⟩; by_cases e : q = b; { subst e; rw [← h2]; intro p1 p2 p3; exact hP4 p1 p2 p3 }; { exact h4 q (by omega) } }) _ _ hP hD hS ls (lv_sub hl [1, 2, 3, 4, 5, 0] rfl)
                              · skip
                                have hzb := bz_i_eq c_122
                                refine lv_aload_n hx hb d_M_hangs_125 rfl (lv_at hl 0 rfl) ?_
                                refine va_get (D := (dC, dI)) (ci := 4) (v := .ref (am 3)) (C := R_M) (T := F_M) (N := 12) hx hb htb in_M hown hK hP 0 rfl rfl 4 (by decide) (htb _ wd_414) (fun _ h9 => h9) rfl d_M_hangs_126 ?_
                                refine lv_bipush (v := 30) hx hb d_M_hangs_129 (by decide) ?_
                                refine lv_iload hx hb d_M_hangs_131 (lv_at hl 4 rfl) ?_
                                refine lv_imul hx hb d_M_hangs_133 ?_
                                refine bz_ri (y := nI (30 * a)) (pk_mul 30 _) ?_
                                refine lv_iload hx hb d_M_hangs_134 (lv_at hl 5 rfl) ?_
                                refine lv_iadd hx hb d_M_hangs_136 ?_
                                refine bz_ri (y := nI (30 * a + b)) (nI_add _ _) ?_
                                refine bz_zald (v := bz_i (bz_j t a b)) hx hb hK hP 3 2 rfl rfl (a9 := (30 * a + b)) (by omega) (by decide) (by show bz_i (bz_j t ((30 * a + b) / 30) ((30 * a + b) % 30)) = _; rw [show (30 * a + b) / 30 = a by omega, show (30 * a + b) % 30 = b by omega]) d_M_hangs_137 ?_
                                refine lv_if_eq (tgt := 152) hx hb d_M_hangs_138 (by decide) (fun c_138 => ?_) (fun c_138 => ?_)
                                · skip
                                  have hP4 : z a = true → bz_in t (bz_fu f) r b = true → bz_j t a b = true → z b = true := fun _ _ q => by rw [bz_i_eq c_138] at q; exact absurd q (by simp)
                                  refine lv_iinc (v := nI (b + 1)) (lv' := [(6, .int (nI (b + 1))), (0, .ref (am 0)), (1, .ref (am 6)), (2, .int (nI r)), (4, .int (bz_i m3)), (5, .int (nI a))]) hx hb d_M_hangs_152 hl (k := 5) rfl (nI_1 _) (by decide) rfl (fun ls hl => ?_)
                                  refine lv_goto (tgt := 88) hx hb d_M_hangs_155 (by decide) ?_
                                  exact ihlpi (b + 1) z m3 (by omega) (by omega) (hz) (by rcases hre3 with h | ⟨h1, h2, h3, h4⟩; { exact Or.inl h }; { refine Or.inr ⟨h1, h2, h3, fun q hq => ?_⟩; by_cases e : q = b; { subst e; rw [← h2]; intro p1 p2 p3; exact hP4 p1 p2 p3 }; { exact h4 q (by omega) } }) _ _ hP hD hS ls (lv_sub hl [1, 2, 3, 4, 5, 0] rfl)
                                · skip
                                  have hJ := bz_i_ne c_138
                                  refine lv_aload_n hx hb d_M_hangs_141 rfl (lv_at hl 0 rfl) ?_
                                  refine va_get (D := (dC, dI)) (ci := 4) (v := .ref (am 8)) (C := R_M) (T := F_M) (N := 12) hx hb htb in_M hown hK hP 0 rfl rfl 11 (by decide) (htb _ wd_421) (fun _ h9 => h9) rfl d_M_hangs_142 ?_
                                  refine lv_iload hx hb d_M_hangs_145 (lv_at hl 5 rfl) ?_
                                  refine lv_iconst (v := 1) hx hb d_M_hangs_147 (by decide) ?_
                                  refine bz_zast (b9 := true) hx hb hK hP hD hS 8 2 rfl rfl (a9 := b) (by omega) (by decide) (rfl) d_M_hangs_148 (fun H locs hP hD hS => ?_)
                                  have hP : va_P (dC, dI) vwCl (bz_wM am cI cL cZ (bz_tM t) (th, sv, ex) ((fun a => nI (f a)), S2, (upd (bz_se (bz_n t) z S3) b (bz_i true)))) H := hP
                                  have hD : va_D A (bz_wM am cI cL cZ (bz_tM t) (th, sv, ex) ((fun a => nI (f a)), S2, (upd (bz_se (bz_n t) z S3) b (bz_i true)))) := hD
                                  have e9 : (bz_se (bz_n t) (va_up z b true) S3) = (upd (bz_se (bz_n t) z S3) b (bz_i true)) := bz_se_put hbn _ _ _
                                  rw [← e9] at hP hD
                                  refine lv_iconst (v := nI 1) hx hb d_M_hangs_149 (by decide) ?_
                                  refine lv_istore (lv' := [(4, .int (nI 1)), (0, .ref (am 0)), (1, .ref (am 6)), (2, .int (nI r)), (5, .int (nI a)), (6, .int (nI b))]) hx hb d_M_hangs_150 hl (by decide) rfl (fun ls hl => ?_)
                                  refine lv_iinc (v := nI (b + 1)) (lv' := [(6, .int (nI (b + 1))), (4, .int (nI 1)), (0, .ref (am 0)), (1, .ref (am 6)), (2, .int (nI r)), (5, .int (nI a))]) hx hb d_M_hangs_152 hl (k := 5) rfl (nI_1 _) (by decide) rfl (fun ls hl => ?_)
                                  refine lv_goto (tgt := 88) hx hb d_M_hangs_155 (by decide) ?_
                                  exact ihlpi (b + 1) (va_up z b true) true (by omega) (by omega) (bz_hr_1 hz hza hFb (by show (_ || _) = true; rw [hFb]; rfl) hJ) (Or.inl ⟨rfl, by have := bz_ct_up hbn hzb; rcases hre3 with ⟨-, h⟩ | ⟨-, h, -⟩; { omega }; { rw [h] at this; rw [h]; exact this }⟩) _ _ hP hD hS ls (lv_sub hl [2, 3, 4, 1, 5, 0] rfl)
                    exact lpi _ 0 y m2 (Nat.lt_succ_self _) (by omega) (hy) (by rcases hrel with h | ⟨h1, h2, h3⟩; { exact Or.inl h }; { exact Or.inr ⟨h1, h2, h3, fun q hq => absurd hq (by omega)⟩ }) _ _ hP hD hS ls (lv_sub hl [1, 2, 3, 4, 5, 0] rfl)
              exact lpo _ 0 x false (Nat.lt_succ_self _) (by omega) (hx2) (Or.inr ⟨rfl, rfl, fun q hq => absurd hq (by omega)⟩) _ _ hP hD hS ls (lv_sub hl [2, 3, 4, 1, 0] rfl)
        exact lpw _ (bz_x0 (bz_in t (bz_fu f) r)) true (Nat.lt_succ_self _) (bz_hr_0 fun i hi => bz_in_n hi) (fun h => absurd h (by simp)) _ _ hP hD hS ls (lv_sub hl [1, 2, 3, 0] rfl)
      · skip
        have hin : i < bz_n t := Nat.lt_of_not_le fun z => c_11 ((nI_leI (by omega) (by omega)).mpr z)
        have hfi := hf i hin
        refine lv_aload_n hx hb d_M_hangs_14 rfl (lv_at hl 0 rfl) ?_
        refine va_get (D := (dC, dI)) (ci := 4) (v := .ref (am 8)) (C := R_M) (T := F_M) (N := 12) hx hb htb in_M hown hK hP 0 rfl rfl 11 (by decide) (htb _ wd_421) (fun _ h9 => h9) rfl d_M_hangs_15 ?_
        refine lv_iload hx hb d_M_hangs_18 (lv_at hl 4 rfl) ?_
        refine lv_aload_n hx hb d_M_hangs_20 rfl (lv_at hl 1 rfl) ?_
        refine lv_iload hx hb d_M_hangs_21 (lv_at hl 4 rfl) ?_
        refine bz_iald (v := nI (f i)) hx hb hK hP 6 0 rfl rfl (a9 := i) (by omega) (by decide) (rfl) d_M_hangs_23 ?_
        refine lv_iload_n hx hb d_M_hangs_24 rfl (lv_at hl 2 rfl) ?_
        refine lv_icmp_ne (tgt := 36) hx hb d_M_hangs_25 (by decide) (fun c_25 => ?_) (fun c_25 => ?_)
        · skip
          have hFi : bz_in t (bz_fu f) r i = false := by rw [bz_inf hin]; exact decide_eq_false fun z => c_25 (by rw [z])
          have hX : bz_x0 (bz_in t (bz_fu f) r) i = false := by unfold bz_x0; rw [hFi]; rfl
          refine lv_iconst (v := 0) hx hb d_M_hangs_36 (by decide) ?_
          refine bz_zast (b9 := bz_x0 (bz_in t (bz_fu f) r) i) hx hb hK hP hD hS 8 2 rfl rfl (a9 := i) (by omega) (by decide) (by rw [hX]; rfl) d_M_hangs_37 (fun H locs hP hD hS => ?_)
          have hP : va_P (dC, dI) vwCl (bz_wM am cI cL cZ (bz_tM t) (th, sv, ex) ((fun a => nI (f a)), S2, (upd (bz_se i (bz_x0 (bz_in t (bz_fu f) r)) S3) i (bz_i (bz_x0 (bz_in t (bz_fu f) r) i))))) H := hP
          have hD : va_D A (bz_wM am cI cL cZ (bz_tM t) (th, sv, ex) ((fun a => nI (f a)), S2, (upd (bz_se i (bz_x0 (bz_in t (bz_fu f) r)) S3) i (bz_i (bz_x0 (bz_in t (bz_fu f) r) i))))) := hD
          have e9 : (bz_se (i + 1) (bz_x0 (bz_in t (bz_fu f) r)) S3) = (upd (bz_se i (bz_x0 (bz_in t (bz_fu f) r)) S3) i (bz_i (bz_x0 (bz_in t (bz_fu f) r) i))) := bz_se_add _ _ _
          rw [← e9] at hP hD
          refine lv_iload_n hx hb d_M_hangs_38 rfl (lv_at hl 3 rfl) ?_
          refine lv_if_ne (tgt := 50) hx hb d_M_hangs_39 (by decide) (fun c_39 => ?_) (fun c_39 => ?_)
          · skip
            have hB := bz_bn_t (bz_i_ne c_39)
            refine lv_iconst (v := 1) hx hb d_M_hangs_50 (by decide) ?_
            refine lv_goto (tgt := 55) hx hb d_M_hangs_51 (by decide) ?_
            refine bz_ri (y := bz_i (bz_bn (bz_in t (bz_fu f) r) (i + 1))) (by rw [hB]; rfl) ?_
            refine lv_istore_n (lv' := [(3, .int (bz_i (bz_bn (bz_in t (bz_fu f) r) (i + 1)))), (0, .ref (am 0)), (1, .ref (am 6)), (2, .int (nI r)), (4, .int (nI i))]) hx hb d_M_hangs_55 rfl hl (by decide) rfl (fun ls hl => ?_)
            refine lv_iinc (v := nI (i + 1)) (lv' := [(4, .int (nI (i + 1))), (3, .int (bz_i (bz_bn (bz_in t (bz_fu f) r) (i + 1)))), (0, .ref (am 0)), (1, .ref (am 6)), (2, .int (nI r))]) hx hb d_M_hangs_56 hl (k := 4) rfl (nI_1 _) (by decide) rfl (fun ls hl => ?_)
            refine lv_goto (tgt := 5) hx hb d_M_hangs_59 (by decide) ?_
            exact ihlpa (i + 1) (by omega) (by omega) _ _ hP hD hS ls (lv_sub hl [2, 3, 4, 1, 0] rfl)
          · skip
            refine lv_aload_n hx hb d_M_hangs_42 rfl (lv_at hl 1 rfl) ?_
            refine lv_iload hx hb d_M_hangs_43 (lv_at hl 4 rfl) ?_
            refine bz_iald (v := nI (f i)) hx hb hK hP 6 0 rfl rfl (a9 := i) (by omega) (by decide) (rfl) d_M_hangs_45 ?_
            refine lv_iload_n hx hb d_M_hangs_46 rfl (lv_at hl 2 rfl) ?_
            refine lv_icmp_ne (tgt := 54) hx hb d_M_hangs_47 (by decide) (fun c_47 => ?_) (fun c_47 => ?_)
            · skip
              have hFi : bz_in t (bz_fu f) r i = false := by rw [bz_inf hin]; exact decide_eq_false fun z => c_47 (by rw [z])
              have hB := bz_bn_f (bz_i_eq c_39) hFi
              refine lv_iconst (v := nI 0) hx hb d_M_hangs_54 (by decide) ?_
              refine bz_ri (y := bz_i (bz_bn (bz_in t (bz_fu f) r) (i + 1))) (by rw [hB]; rfl) ?_
              refine lv_istore_n (lv' := [(3, .int (bz_i (bz_bn (bz_in t (bz_fu f) r) (i + 1)))), (0, .ref (am 0)), (1, .ref (am 6)), (2, .int (nI r)), (4, .int (nI i))]) hx hb d_M_hangs_55 rfl hl (by decide) rfl (fun ls hl => ?_)
              refine lv_iinc (v := nI (i + 1)) (lv' := [(4, .int (nI (i + 1))), (3, .int (bz_i (bz_bn (bz_in t (bz_fu f) r) (i + 1)))), (0, .ref (am 0)), (1, .ref (am 6)), (2, .int (nI r))]) hx hb d_M_hangs_56 hl (k := 4) rfl (nI_1 _) (by decide) rfl (fun ls hl => ?_)
              refine lv_goto (tgt := 5) hx hb d_M_hangs_59 (by decide) ?_
              exact ihlpa (i + 1) (by omega) (by omega) _ _ hP hD hS ls (lv_sub hl [2, 3, 4, 1, 0] rfl)
            · skip
              have hFi : bz_in t (bz_fu f) r i = true := by rw [bz_inf hin]; exact decide_eq_true ((nI_eq (by omega) (by omega)).mp c_47)
              have hB := bz_bn_i hFi
              refine lv_iconst (v := 1) hx hb d_M_hangs_50 (by decide) ?_
              refine lv_goto (tgt := 55) hx hb d_M_hangs_51 (by decide) ?_
              refine bz_ri (y := bz_i (bz_bn (bz_in t (bz_fu f) r) (i + 1))) (by rw [hB]; rfl) ?_
              refine lv_istore_n (lv' := [(3, .int (bz_i (bz_bn (bz_in t (bz_fu f) r) (i + 1)))), (0, .ref (am 0)), (1, .ref (am 6)), (2, .int (nI r)), (4, .int (nI i))]) hx hb d_M_hangs_55 rfl hl (by decide) rfl (fun ls hl => ?_)
              refine lv_iinc (v := nI (i + 1)) (lv' := [(4, .int (nI (i + 1))), (3, .int (bz_i (bz_bn (bz_in t (bz_fu f) r) (i + 1)))), (0, .ref (am 0)), (1, .ref (am 6)), (2, .int (nI r))]) hx hb d_M_hangs_56 hl (k := 4) rfl (nI_1 _) (by decide) rfl (fun ls hl => ?_)
              refine lv_goto (tgt := 5) hx hb d_M_hangs_59 (by decide) ?_
              exact ihlpa (i + 1) (by omega) (by omega) _ _ hP hD hS ls (lv_sub hl [2, 3, 4, 1, 0] rfl)
        · skip
          have hFi : bz_in t (bz_fu f) r i = true := by rw [bz_inf hin]; exact decide_eq_true ((nI_eq (by omega) (by omega)).mp c_25)
          refine lv_iload_n hx hb d_M_hangs_28 rfl (lv_at hl 3 rfl) ?_
          refine lv_if_ne (tgt := 36) hx hb d_M_hangs_29 (by decide) (fun c_29 => ?_) (fun c_29 => ?_)
          · skip
            have hX : bz_x0 (bz_in t (bz_fu f) r) i = false := by unfold bz_x0; rw [bz_i_ne c_29]; simp
            refine lv_iconst (v := 0) hx hb d_M_hangs_36 (by decide) ?_
            refine bz_zast (b9 := bz_x0 (bz_in t (bz_fu f) r) i) hx hb hK hP hD hS 8 2 rfl rfl (a9 := i) (by omega) (by decide) (by rw [hX]; rfl) d_M_hangs_37 (fun H locs hP hD hS => ?_)
            have hP : va_P (dC, dI) vwCl (bz_wM am cI cL cZ (bz_tM t) (th, sv, ex) ((fun a => nI (f a)), S2, (upd (bz_se i (bz_x0 (bz_in t (bz_fu f) r)) S3) i (bz_i (bz_x0 (bz_in t (bz_fu f) r) i))))) H := hP
            have hD : va_D A (bz_wM am cI cL cZ (bz_tM t) (th, sv, ex) ((fun a => nI (f a)), S2, (upd (bz_se i (bz_x0 (bz_in t (bz_fu f) r)) S3) i (bz_i (bz_x0 (bz_in t (bz_fu f) r) i))))) := hD
            have e9 : (bz_se (i + 1) (bz_x0 (bz_in t (bz_fu f) r)) S3) = (upd (bz_se i (bz_x0 (bz_in t (bz_fu f) r)) S3) i (bz_i (bz_x0 (bz_in t (bz_fu f) r) i))) := bz_se_add _ _ _
            rw [← e9] at hP hD
            refine lv_iload_n hx hb d_M_hangs_38 rfl (lv_at hl 3 rfl) ?_
            refine lv_if_ne (tgt := 50) hx hb d_M_hangs_39 (by decide) (fun c_39 => ?_) (fun c_39 => ?_)
            · skip
              have hB := bz_bn_t (bz_i_ne c_39)
              refine lv_iconst (v := 1) hx hb d_M_hangs_50 (by decide) ?_
              refine lv_goto (tgt := 55) hx hb d_M_hangs_51 (by decide) ?_
              refine bz_ri (y := bz_i (bz_bn (bz_in t (bz_fu f) r) (i + 1))) (by rw [hB]; rfl) ?_
              refine lv_istore_n (lv' := [(3, .int (bz_i (bz_bn (bz_in t (bz_fu f) r) (i + 1)))), (0, .ref (am 0)), (1, .ref (am 6)), (2, .int (nI r)), (4, .int (nI i))]) hx hb d_M_hangs_55 rfl hl (by decide) rfl (fun ls hl => ?_)
              refine lv_iinc (v := nI (i + 1)) (lv' := [(4, .int (nI (i + 1))), (3, .int (bz_i (bz_bn (bz_in t (bz_fu f) r) (i + 1)))), (0, .ref (am 0)), (1, .ref (am 6)), (2, .int (nI r))]) hx hb d_M_hangs_56 hl (k := 4) rfl (nI_1 _) (by decide) rfl (fun ls hl => ?_)
              refine lv_goto (tgt := 5) hx hb d_M_hangs_59 (by decide) ?_
              exact ihlpa (i + 1) (by omega) (by omega) _ _ hP hD hS ls (lv_sub hl [2, 3, 4, 1, 0] rfl)
            · skip
              refine lv_aload_n hx hb d_M_hangs_42 rfl (lv_at hl 1 rfl) ?_
              refine lv_iload hx hb d_M_hangs_43 (lv_at hl 4 rfl) ?_
              refine bz_iald (v := nI (f i)) hx hb hK hP 6 0 rfl rfl (a9 := i) (by omega) (by decide) (rfl) d_M_hangs_45 ?_
              refine lv_iload_n hx hb d_M_hangs_46 rfl (lv_at hl 2 rfl) ?_
              refine lv_icmp_ne (tgt := 54) hx hb d_M_hangs_47 (by decide) (fun c_47 => ?_) (fun c_47 => ?_)
              · skip
                have hFi : bz_in t (bz_fu f) r i = false := by rw [bz_inf hin]; exact decide_eq_false fun z => c_47 (by rw [z])
                have hB := bz_bn_f (bz_i_eq c_39) hFi
                refine lv_iconst (v := nI 0) hx hb d_M_hangs_54 (by decide) ?_
                refine bz_ri (y := bz_i (bz_bn (bz_in t (bz_fu f) r) (i + 1))) (by rw [hB]; rfl) ?_
                refine lv_istore_n (lv' := [(3, .int (bz_i (bz_bn (bz_in t (bz_fu f) r) (i + 1)))), (0, .ref (am 0)), (1, .ref (am 6)), (2, .int (nI r)), (4, .int (nI i))]) hx hb d_M_hangs_55 rfl hl (by decide) rfl (fun ls hl => ?_)
                refine lv_iinc (v := nI (i + 1)) (lv' := [(4, .int (nI (i + 1))), (3, .int (bz_i (bz_bn (bz_in t (bz_fu f) r) (i + 1)))), (0, .ref (am 0)), (1, .ref (am 6)), (2, .int (nI r))]) hx hb d_M_hangs_56 hl (k := 4) rfl (nI_1 _) (by decide) rfl (fun ls hl => ?_)
                refine lv_goto (tgt := 5) hx hb d_M_hangs_59 (by decide) ?_
                exact ihlpa (i + 1) (by omega) (by omega) _ _ hP hD hS ls (lv_sub hl [2, 3, 4, 1, 0] rfl)
              · skip
                have hFi : bz_in t (bz_fu f) r i = true := by rw [bz_inf hin]; exact decide_eq_true ((nI_eq (by omega) (by omega)).mp c_47)
                have hB := bz_bn_i hFi
                refine lv_iconst (v := 1) hx hb d_M_hangs_50 (by decide) ?_
                refine lv_goto (tgt := 55) hx hb d_M_hangs_51 (by decide) ?_
                refine bz_ri (y := bz_i (bz_bn (bz_in t (bz_fu f) r) (i + 1))) (by rw [hB]; rfl) ?_
                refine lv_istore_n (lv' := [(3, .int (bz_i (bz_bn (bz_in t (bz_fu f) r) (i + 1)))), (0, .ref (am 0)), (1, .ref (am 6)), (2, .int (nI r)), (4, .int (nI i))]) hx hb d_M_hangs_55 rfl hl (by decide) rfl (fun ls hl => ?_)
                refine lv_iinc (v := nI (i + 1)) (lv' := [(4, .int (nI (i + 1))), (3, .int (bz_i (bz_bn (bz_in t (bz_fu f) r) (i + 1)))), (0, .ref (am 0)), (1, .ref (am 6)), (2, .int (nI r))]) hx hb d_M_hangs_56 hl (k := 4) rfl (nI_1 _) (by decide) rfl (fun ls hl => ?_)
                refine lv_goto (tgt := 5) hx hb d_M_hangs_59 (by decide) ?_
                exact ihlpa (i + 1) (by omega) (by omega) _ _ hP hD hS ls (lv_sub hl [2, 3, 4, 1, 0] rfl)
          · skip
            have hX : bz_x0 (bz_in t (bz_fu f) r) i = true := by unfold bz_x0; rw [bz_i_eq c_29, hFi]; rfl
            refine lv_iconst (v := 1) hx hb d_M_hangs_32 (by decide) ?_
            refine lv_goto (tgt := 37) hx hb d_M_hangs_33 (by decide) ?_
            refine bz_zast (b9 := bz_x0 (bz_in t (bz_fu f) r) i) hx hb hK hP hD hS 8 2 rfl rfl (a9 := i) (by omega) (by decide) (by rw [hX]; rfl) d_M_hangs_37 (fun H locs hP hD hS => ?_)
            have hP : va_P (dC, dI) vwCl (bz_wM am cI cL cZ (bz_tM t) (th, sv, ex) ((fun a => nI (f a)), S2, (upd (bz_se i (bz_x0 (bz_in t (bz_fu f) r)) S3) i (bz_i (bz_x0 (bz_in t (bz_fu f) r) i))))) H := hP
            have hD : va_D A (bz_wM am cI cL cZ (bz_tM t) (th, sv, ex) ((fun a => nI (f a)), S2, (upd (bz_se i (bz_x0 (bz_in t (bz_fu f) r)) S3) i (bz_i (bz_x0 (bz_in t (bz_fu f) r) i))))) := hD
            have e9 : (bz_se (i + 1) (bz_x0 (bz_in t (bz_fu f) r)) S3) = (upd (bz_se i (bz_x0 (bz_in t (bz_fu f) r)) S3) i (bz_i (bz_x0 (bz_in t (bz_fu f) r) i))) := bz_se_add _ _ _
            rw [← e9] at hP hD
            refine lv_iload_n hx hb d_M_hangs_38 rfl (lv_at hl 3 rfl) ?_
            refine lv_if_ne (tgt := 50) hx hb d_M_hangs_39 (by decide) (fun c_39 => ?_) (fun c_39 => ?_)
            · skip
              have hB := bz_bn_t (bz_i_ne c_39)
              refine lv_iconst (v := 1) hx hb d_M_hangs_50 (by decide) ?_
              refine lv_goto (tgt := 55) hx hb d_M_hangs_51 (by decide) ?_
              refine bz_ri (y := bz_i (bz_bn (bz_in t (bz_fu f) r) (i + 1))) (by rw [hB]; rfl) ?_
              refine lv_istore_n (lv' := [(3, .int (bz_i (bz_bn (bz_in t (bz_fu f) r) (i + 1)))), (0, .ref (am 0)), (1, .ref (am 6)), (2, .int (nI r)), (4, .int (nI i))]) hx hb d_M_hangs_55 rfl hl (by decide) rfl (fun ls hl => ?_)
              refine lv_iinc (v := nI (i + 1)) (lv' := [(4, .int (nI (i + 1))), (3, .int (bz_i (bz_bn (bz_in t (bz_fu f) r) (i + 1)))), (0, .ref (am 0)), (1, .ref (am 6)), (2, .int (nI r))]) hx hb d_M_hangs_56 hl (k := 4) rfl (nI_1 _) (by decide) rfl (fun ls hl => ?_)
              refine lv_goto (tgt := 5) hx hb d_M_hangs_59 (by decide) ?_
              exact ihlpa (i + 1) (by omega) (by omega) _ _ hP hD hS ls (lv_sub hl [2, 3, 4, 1, 0] rfl)
            · skip
              refine lv_aload_n hx hb d_M_hangs_42 rfl (lv_at hl 1 rfl) ?_
              refine lv_iload hx hb d_M_hangs_43 (lv_at hl 4 rfl) ?_
              refine bz_iald (v := nI (f i)) hx hb hK hP 6 0 rfl rfl (a9 := i) (by omega) (by decide) (rfl) d_M_hangs_45 ?_
              refine lv_iload_n hx hb d_M_hangs_46 rfl (lv_at hl 2 rfl) ?_
              refine lv_icmp_ne (tgt := 54) hx hb d_M_hangs_47 (by decide) (fun c_47 => ?_) (fun c_47 => ?_)
              · skip
                have hFi : bz_in t (bz_fu f) r i = false := by rw [bz_inf hin]; exact decide_eq_false fun z => c_47 (by rw [z])
                have hB := bz_bn_f (bz_i_eq c_39) hFi
                refine lv_iconst (v := nI 0) hx hb d_M_hangs_54 (by decide) ?_
                refine bz_ri (y := bz_i (bz_bn (bz_in t (bz_fu f) r) (i + 1))) (by rw [hB]; rfl) ?_
                refine lv_istore_n (lv' := [(3, .int (bz_i (bz_bn (bz_in t (bz_fu f) r) (i + 1)))), (0, .ref (am 0)), (1, .ref (am 6)), (2, .int (nI r)), (4, .int (nI i))]) hx hb d_M_hangs_55 rfl hl (by decide) rfl (fun ls hl => ?_)
                refine lv_iinc (v := nI (i + 1)) (lv' := [(4, .int (nI (i + 1))), (3, .int (bz_i (bz_bn (bz_in t (bz_fu f) r) (i + 1)))), (0, .ref (am 0)), (1, .ref (am 6)), (2, .int (nI r))]) hx hb d_M_hangs_56 hl (k := 4) rfl (nI_1 _) (by decide) rfl (fun ls hl => ?_)
                refine lv_goto (tgt := 5) hx hb d_M_hangs_59 (by decide) ?_
                exact ihlpa (i + 1) (by omega) (by omega) _ _ hP hD hS ls (lv_sub hl [2, 3, 4, 1, 0] rfl)
              · skip
                have hFi : bz_in t (bz_fu f) r i = true := by rw [bz_inf hin]; exact decide_eq_true ((nI_eq (by omega) (by omega)).mp c_47)
                have hB := bz_bn_i hFi
                refine lv_iconst (v := 1) hx hb d_M_hangs_50 (by decide) ?_
                refine lv_goto (tgt := 55) hx hb d_M_hangs_51 (by decide) ?_
                refine bz_ri (y := bz_i (bz_bn (bz_in t (bz_fu f) r) (i + 1))) (by rw [hB]; rfl) ?_
                refine lv_istore_n (lv' := [(3, .int (bz_i (bz_bn (bz_in t (bz_fu f) r) (i + 1)))), (0, .ref (am 0)), (1, .ref (am 6)), (2, .int (nI r)), (4, .int (nI i))]) hx hb d_M_hangs_55 rfl hl (by decide) rfl (fun ls hl => ?_)
                refine lv_iinc (v := nI (i + 1)) (lv' := [(4, .int (nI (i + 1))), (3, .int (bz_i (bz_bn (bz_in t (bz_fu f) r) (i + 1)))), (0, .ref (am 0)), (1, .ref (am 6)), (2, .int (nI r))]) hx hb d_M_hangs_56 hl (k := 4) rfl (nI_1 _) (by decide) rfl (fun ls hl => ?_)
                refine lv_goto (tgt := 5) hx hb d_M_hangs_59 (by decide) ?_
                exact ihlpa (i + 1) (by omega) (by omega) _ _ hP hD hS ls (lv_sub hl [2, 3, 4, 1, 0] rfl)
  exact lpa _ 0 (Nat.lt_succ_self _) (by omega) _ _ hP hD hS ls (lv_sub hl [2, 3, 4, 1, 0] rfl)

set_option maxHeartbeats 4000000 in
set_option maxRecDepth 100000 in
/-- hangs of tried -/
theorem c_M_hangs_tried (l : Launch) (dC : Nat → ClassId) (dI : Nat → Nat → Nat) (sz : Nat) (am : Nat → Nat) (cI cL cZ : ClassId) (t : bz_T) (th sv ex : Int32) (f : Nat → Nat) (S2 S3 : Nat → Int32) (ht : bz_ok t) (r : Nat) (hr4 : r < 4) (hf : ∀ a, a < bz_n t → f a < 4) : Met l y_M_hangs w_M_hangs ({ frames := 0, cells := 0, slots := 0, locals := 0 }) (bz_Pw (dC, dI) [(cI, .int), (cL, .long), (cZ, .boolean)] (bz_wM am cI cL cZ (bz_tM t) (th, sv, ex) (S2, (fun a => nI (f a)), S3)) sz [.ref (am 0), .ref (am 7), .int (nI r)]) (bz_Qxi (dC, dI) [(cI, .int), (cL, .long), (cZ, .boolean)] (va_A (bz_wM am cI cL cZ (bz_tM t) (th, sv, ex) (S2, (fun a => nI (f a)), S3)) sz) (fun r9 (u : Nat → Int32) => r9 = nI (bz_b (bz_ht t (bz_fu f) r))) (fun u : Nat → Int32 => bz_wM am cI cL cZ (bz_tM t) (th, sv, ex) (S2, (fun a => nI (f a)), u))) 0 0 (va_A (bz_wM am cI cL cZ (bz_tM t) (th, sv, ex) (S2, (fun a => nI (f a)), S3)) sz) := by
  refine Met.ofW (cc := b_M_hangs) (maxL := 7) (ret := (some .boolean)) (by decide) rfl ?_
  intro p e s m args below meth c s₁ B hml hv
  obtain ⟨rfl, hsz, hP, hK, hD0, hN⟩ := hv
  have hx := B.exec
  have hb := B.bytes
  have hr := B.returns
  have hts := atoms_spec (ws := w_M_hangs) B.pre
  have hown : s.vm.findClass R_M = some m.cls := findClass_of_methodNamed B.named
  have htb : ∀ w ∈ bz_tb, w.before _ s = true := fun w h => hts w (List.mem_cons_of_mem _ h)
  have hlocks := B.notSynchronized
  subst hsz
  have hD := hD0.self (sz := s.heap.size)
  generalize hAe : va_A (bz_wM am cI cL cZ (bz_tM t) (th, sv, ex) (S2, (fun a => nI (f a)), S3)) s.heap.size = A at hD ⊢
  have hA : ∀ q : Nat, s.heap.size ≤ q → A q := fun q h => by rw [← hAe]; exact Or.inr h
  have hS : va_S A s.heap s.heap [] := va_S.rf
  have hl := lv_entry ([.ref (am 0), .ref (am 7), .int (nI r)]) (n := 7) (Nat.le_of_ble_eq_true rfl)
  rw [lg_entry_eq]
  generalize (lg_sl ([.ref (am 0), .ref (am 7), .int (nI r)]) ++ List.replicate (7 - (lg_sl ([.ref (am 0), .ref (am 7), .int (nI r)])).length) Slot.unset).toArray = ls at hl ⊢
  have hl : lv_has ls 7 [(0, .ref (am 0)), (1, .ref (am 7)), (2, .int (nI r))] := hl
  have hn30 := ht.1
  refine lv_iconst (v := nI 0) hx hb d_M_hangs_0 (by decide) ?_
  refine lv_istore_n (lv' := [(3, .int (nI 0)), (0, .ref (am 0)), (1, .ref (am 7)), (2, .int (nI r))]) hx hb d_M_hangs_1 rfl hl (by decide) rfl (fun ls hl => ?_)
  refine lv_iconst (v := nI 0) hx hb d_M_hangs_2 (by decide) ?_
  refine lv_istore (lv' := [(4, .int (nI 0)), (3, .int (nI 0)), (0, .ref (am 0)), (1, .ref (am 7)), (2, .int (nI r))]) hx hb d_M_hangs_3 hl (by decide) rfl (fun ls hl => ?_)
  have e9 : (bz_se 0 (bz_x0 (bz_in t (bz_fu f) r)) S3) = S3 := bz_se_0 _ _
  rw [← e9] at hP hD
  have hl : lv_has ls 7 [(4, .int (nI 0)), (3, .int (bz_i (bz_bn (bz_in t (bz_fu f) r) 0))), (0, .ref (am 0)), (1, .ref (am 7)), (2, .int (nI r))] := by rw [show bz_i (bz_bn (bz_in t (bz_fu f) r) 0) = nI 0 from by rw [bz_bn_0]; rfl]; exact hl
  have lpa : ∀ (k9 : Nat) (i : Nat), bz_n t - i < k9 → (i ≤ bz_n t) → ∀ (H : Heap) (locs : List Loc), va_P (dC, dI) vwCl (bz_wM am cI cL cZ (bz_tM t) (th, sv, ex) (S2, (fun a => nI (f a)), (bz_se i (bz_x0 (bz_in t (bz_fu f) r)) S3))) H → va_D A (bz_wM am cI cL cZ (bz_tM t) (th, sv, ex) (S2, (fun a => nI (f a)), (bz_se i (bz_x0 (bz_in t (bz_fu f) r)) S3))) → va_S A s.heap H locs → ∀ (ls : Array Slot), lv_has ls 7 [(0, .ref (am 0)), (1, .ref (am 7)), (2, .int (nI r)), (3, .int (bz_i (bz_bn (bz_in t (bz_fu f) r) i))), (4, .int (nI i))] → W p l e (headSpec w_M_hangs ({ frames := 0, cells := 0, slots := 0, locals := 0 })).room s m ([.ref (am 0), .ref (am 7), .int (nI r)]).toArray below meth c H locs 0 0 (MQ below (bz_Qxi (dC, dI) [(cI, .int), (cL, .long), (cZ, .boolean)] A (fun r9 (u : Nat → Int32) => r9 = nI (bz_b (bz_ht t (bz_fu f) r))) (fun u : Nat → Int32 => bz_wM am cI cL cZ (bz_tM t) (th, sv, ex) (S2, (fun a => nI (f a)), u))) ([.ref (am 0), .ref (am 7), .int (nI r)]).toArray s 0 0 (A)) (F0 m 5 ls []) := by
    intro k9
    induction k9 with
    | zero =>
      intro i h9
      exact absurd h9 (Nat.not_lt_zero _)
    | succ k9 ihlpa =>
      intro i h9_lpa hi H locs hP hD hS ls hl
      refine lv_iload hx hb d_M_hangs_5 (lv_at hl 4 rfl) ?_
      refine lv_aload_n hx hb d_M_hangs_7 rfl (lv_at hl 0 rfl) ?_
      refine va_get (D := (dC, dI)) (ci := 4) (v := .int (nI (bz_n t))) (C := R_M) (T := F_M) (N := 12) hx hb htb in_M hown hK hP 0 rfl rfl 1 (by decide) (htb _ wd_411) (fun _ h9 => h9) rfl d_M_hangs_8 ?_
      refine lv_icmp_ge (tgt := 62) hx hb d_M_hangs_11 (by decide) (fun c_11 => ?_) (fun c_11 => ?_)
      · skip
        have hin : i = bz_n t := by have := (nI_leI (by omega) (by omega)).mp c_11; omega
        have e9 : (bz_se (bz_n t) (bz_x0 (bz_in t (bz_fu f) r)) S3) = (bz_se i (bz_x0 (bz_in t (bz_fu f) r)) S3) := by rw [hin]
        rw [← e9] at hP hD
        refine lv_iconst (v := nI 1) hx hb d_M_hangs_62 (by decide) ?_
        refine lv_istore (lv' := [(4, .int (nI 1)), (0, .ref (am 0)), (1, .ref (am 7)), (2, .int (nI r)), (3, .int (bz_i (bz_bn (bz_in t (bz_fu f) r) i)))]) hx hb d_M_hangs_63 hl (by decide) rfl (fun ls hl => ?_)
        have lpw : ∀ (k9 : Nat) (x : Nat → Bool) (mo : Bool), 2 * (bz_n t - bz_ct x (bz_n t)) + (if mo then 1 else 0) < k9 → (bz_hr (bz_j t) (bz_in t (bz_fu f) r) (fun a => bz_in t (bz_fu f) r a || bz_op t (bz_fu f) a) x) → (mo = false → ∀ a, a < bz_n t → ∀ b, b < bz_n t → x a = true → bz_in t (bz_fu f) r b = true → bz_j t a b = true → x b = true) → ∀ (H : Heap) (locs : List Loc), va_P (dC, dI) vwCl (bz_wM am cI cL cZ (bz_tM t) (th, sv, ex) (S2, (fun a => nI (f a)), (bz_se (bz_n t) x S3))) H → va_D A (bz_wM am cI cL cZ (bz_tM t) (th, sv, ex) (S2, (fun a => nI (f a)), (bz_se (bz_n t) x S3))) → va_S A s.heap H locs → ∀ (ls : Array Slot), lv_has ls 7 [(0, .ref (am 0)), (1, .ref (am 7)), (2, .int (nI r)), (4, .int (bz_i mo))] → W p l e (headSpec w_M_hangs ({ frames := 0, cells := 0, slots := 0, locals := 0 })).room s m ([.ref (am 0), .ref (am 7), .int (nI r)]).toArray below meth c H locs 0 0 (MQ below (bz_Qxi (dC, dI) [(cI, .int), (cL, .long), (cZ, .boolean)] A (fun r9 (u : Nat → Int32) => r9 = nI (bz_b (bz_ht t (bz_fu f) r))) (fun u : Nat → Int32 => bz_wM am cI cL cZ (bz_tM t) (th, sv, ex) (S2, (fun a => nI (f a)), u))) ([.ref (am 0), .ref (am 7), .int (nI r)]).toArray s 0 0 (A)) (F0 m 65 ls []) := by
          intro k9
          induction k9 with
          | zero =>
            intro x mo h9
            exact absurd h9 (Nat.not_lt_zero _)
          | succ k9 ihlpw =>
            intro x mo h9_lpw hx2 hcl H locs hP hD hS ls hl
            refine lv_iload hx hb d_M_hangs_65 (lv_at hl 3 rfl) ?_
            refine lv_if_eq (tgt := 167) hx hb d_M_hangs_67 (by decide) (fun c_67 => ?_) (fun c_67 => ?_)
            · skip
              have hmo := bz_i_eq c_67
              refine lv_iconst (v := nI 1) hx hb d_M_hangs_167 (by decide) ?_
              refine lv_istore (lv' := [(5, .int (nI 1)), (0, .ref (am 0)), (1, .ref (am 7)), (2, .int (nI r)), (4, .int (bz_i mo))]) hx hb d_M_hangs_168 hl (by decide) rfl (fun ls hl => ?_)
              refine lv_iconst (v := nI 0) hx hb d_M_hangs_170 (by decide) ?_
              refine lv_istore (lv' := [(6, .int (nI 0)), (5, .int (nI 1)), (0, .ref (am 0)), (1, .ref (am 7)), (2, .int (nI r)), (4, .int (bz_i mo))]) hx hb d_M_hangs_171 hl (by decide) rfl (fun ls hl => ?_)
              have lpe : ∀ (k9 : Nat) (i : Nat), bz_n t - i < k9 → (i ≤ bz_n t) → ∀ (H : Heap) (locs : List Loc), va_P (dC, dI) vwCl (bz_wM am cI cL cZ (bz_tM t) (th, sv, ex) (S2, (fun a => nI (f a)), (bz_se (bz_n t) x S3))) H → va_D A (bz_wM am cI cL cZ (bz_tM t) (th, sv, ex) (S2, (fun a => nI (f a)), (bz_se (bz_n t) x S3))) → va_S A s.heap H locs → ∀ (ls : Array Slot), lv_has ls 7 [(0, .ref (am 0)), (1, .ref (am 7)), (2, .int (nI r)), (5, .int (bz_i (bz_al (bz_in t (bz_fu f) r) x i))), (6, .int (nI i))] → W p l e (headSpec w_M_hangs ({ frames := 0, cells := 0, slots := 0, locals := 0 })).room s m ([.ref (am 0), .ref (am 7), .int (nI r)]).toArray below meth c H locs 0 0 (MQ below (bz_Qxi (dC, dI) [(cI, .int), (cL, .long), (cZ, .boolean)] A (fun r9 (u : Nat → Int32) => r9 = nI (bz_b (bz_ht t (bz_fu f) r))) (fun u : Nat → Int32 => bz_wM am cI cL cZ (bz_tM t) (th, sv, ex) (S2, (fun a => nI (f a)), u))) ([.ref (am 0), .ref (am 7), .int (nI r)]).toArray s 0 0 (A)) (F0 m 173 ls []) := by
                intro k9
                induction k9 with
                | zero =>
                  intro i h9
                  exact absurd h9 (Nat.not_lt_zero _)
                | succ k9 ihlpe =>
                  intro i h9_lpe hi H locs hP hD hS ls hl
                  refine lv_iload hx hb d_M_hangs_173 (lv_at hl 4 rfl) ?_
                  refine lv_aload_n hx hb d_M_hangs_175 rfl (lv_at hl 0 rfl) ?_
                  refine va_get (D := (dC, dI)) (ci := 4) (v := .int (nI (bz_n t))) (C := R_M) (T := F_M) (N := 12) hx hb htb in_M hown hK hP 0 rfl rfl 1 (by decide) (htb _ wd_411) (fun _ h9 => h9) rfl d_M_hangs_176 ?_
                  refine lv_icmp_ge (tgt := 218) hx hb d_M_hangs_179 (by decide) (fun c_179 => ?_) (fun c_179 => ?_)
                  · skip
                    have hin : i = bz_n t := by have := (nI_leI (by omega) (by omega)).mp c_179; omega
                    refine lv_iload hx hb d_M_hangs_218 (lv_at hl 3 rfl) ?_
                    exact W.zret (v := bz_i (bz_al (bz_in t (bz_fu f) r) x i)) hx hb hr (bz_nari _) (fun t9 ht9 hW => ⟨⟨_, (bz_se (bz_n t) x S3), rfl, by rw [hin]; exact bz_hang hx2 (hcl hmo), by rw [ht9]; exact hP, va_K.moved hW.alike hK, hD⟩, hS.F ht9⟩) hS.2.2 d_M_hangs_220
                  · skip
                    have hin : i < bz_n t := Nat.lt_of_not_le fun z => c_179 ((nI_leI (by omega) (by omega)).mpr z)
                    have hfi := hf i hin
                    refine lv_iload hx hb d_M_hangs_182 (lv_at hl 3 rfl) ?_
                    refine lv_if_eq (tgt := 209) hx hb d_M_hangs_184 (by decide) (fun c_184 => ?_) (fun c_184 => ?_)
                    · skip
                      have hA5 := bz_al_0 (bz_i_eq c_184)
                      refine lv_iconst (v := nI 0) hx hb d_M_hangs_209 (by decide) ?_
                      refine bz_ri (y := bz_i (bz_al (bz_in t (bz_fu f) r) x (i + 1))) (by rw [hA5]; rfl) ?_
                      refine lv_istore (lv' := [(5, .int (bz_i (bz_al (bz_in t (bz_fu f) r) x (i + 1)))), (0, .ref (am 0)), (1, .ref (am 7)), (2, .int (nI r)), (6, .int (nI i))]) hx hb d_M_hangs_210 hl (by decide) rfl (fun ls hl => ?_)
                      refine lv_iinc (v := nI (i + 1)) (lv' := [(6, .int (nI (i + 1))), (5, .int (bz_i (bz_al (bz_in t (bz_fu f) r) x (i + 1)))), (0, .ref (am 0)), (1, .ref (am 7)), (2, .int (nI r))]) hx hb d_M_hangs_212 hl (k := 4) rfl (nI_1 _) (by decide) rfl (fun ls hl => ?_)
                      refine lv_goto (tgt := 173) hx hb d_M_hangs_215 (by decide) ?_
                      exact ihlpe (i + 1) (by omega) (by omega) _ _ hP hD hS ls (lv_sub hl [2, 3, 4, 1, 0] rfl)
                    · skip
                      have hA4 := bz_i_ne c_184
                      refine lv_aload_n hx hb d_M_hangs_187 rfl (lv_at hl 1 rfl) ?_
                      refine lv_iload hx hb d_M_hangs_188 (lv_at hl 4 rfl) ?_
                      refine bz_iald (v := nI (f i)) hx hb hK hP 7 0 rfl rfl (a9 := i) (by omega) (by decide) (rfl) d_M_hangs_190 ?_
                      refine lv_iload_n hx hb d_M_hangs_191 rfl (lv_at hl 2 rfl) ?_
                      refine lv_icmp_ne (tgt := 205) hx hb d_M_hangs_192 (by decide) (fun c_192 => ?_) (fun c_192 => ?_)
                      · skip
                        have hFi : bz_in t (bz_fu f) r i = false := by rw [bz_inf hin]; exact decide_eq_false fun z => c_192 (by rw [z])
                        have hA5 := bz_al_1 hA4 (Or.inl hFi)
                        refine lv_iconst (v := 1) hx hb d_M_hangs_205 (by decide) ?_
                        refine lv_goto (tgt := 210) hx hb d_M_hangs_206 (by decide) ?_
                        refine bz_ri (y := bz_i (bz_al (bz_in t (bz_fu f) r) x (i + 1))) (by rw [hA5]; rfl) ?_
                        refine lv_istore (lv' := [(5, .int (bz_i (bz_al (bz_in t (bz_fu f) r) x (i + 1)))), (0, .ref (am 0)), (1, .ref (am 7)), (2, .int (nI r)), (6, .int (nI i))]) hx hb d_M_hangs_210 hl (by decide) rfl (fun ls hl => ?_)
                        refine lv_iinc (v := nI (i + 1)) (lv' := [(6, .int (nI (i + 1))), (5, .int (bz_i (bz_al (bz_in t (bz_fu f) r) x (i + 1)))), (0, .ref (am 0)), (1, .ref (am 7)), (2, .int (nI r))]) hx hb d_M_hangs_212 hl (k := 4) rfl (nI_1 _) (by decide) rfl (fun ls hl => ?_)
                        refine lv_goto (tgt := 173) hx hb d_M_hangs_215 (by decide) ?_
                        exact ihlpe (i + 1) (by omega) (by omega) _ _ hP hD hS ls (lv_sub hl [2, 3, 4, 1, 0] rfl)
                      · skip
                        have hFi : bz_in t (bz_fu f) r i = true := by rw [bz_inf hin]; exact decide_eq_true ((nI_eq (by omega) (by omega)).mp c_192)
                        refine lv_aload_n hx hb d_M_hangs_195 rfl (lv_at hl 0 rfl) ?_
                        refine va_get (D := (dC, dI)) (ci := 4) (v := .ref (am 8)) (C := R_M) (T := F_M) (N := 12) hx hb htb in_M hown hK hP 0 rfl rfl 11 (by decide) (htb _ wd_421) (fun _ h9 => h9) rfl d_M_hangs_196 ?_
                        refine lv_iload hx hb d_M_hangs_199 (lv_at hl 4 rfl) ?_
                        refine bz_zald (v := bz_i (x i)) hx hb hK hP 8 2 rfl rfl (a9 := i) (by omega) (by decide) (bz_se_at (by omega) _ _) d_M_hangs_201 ?_
                        refine lv_if_eq (tgt := 209) hx hb d_M_hangs_202 (by decide) (fun c_202 => ?_) (fun c_202 => ?_)
                        · skip
                          have hA5 := bz_al_n hFi (bz_i_eq c_202)
                          refine lv_iconst (v := nI 0) hx hb d_M_hangs_209 (by decide) ?_
                          refine bz_ri (y := bz_i (bz_al (bz_in t (bz_fu f) r) x (i + 1))) (by rw [hA5]; rfl) ?_
                          refine lv_istore (lv' := [(5, .int (bz_i (bz_al (bz_in t (bz_fu f) r) x (i + 1)))), (0, .ref (am 0)), (1, .ref (am 7)), (2, .int (nI r)), (6, .int (nI i))]) hx hb d_M_hangs_210 hl (by decide) rfl (fun ls hl => ?_)
                          refine lv_iinc (v := nI (i + 1)) (lv' := [(6, .int (nI (i + 1))), (5, .int (bz_i (bz_al (bz_in t (bz_fu f) r) x (i + 1)))), (0, .ref (am 0)), (1, .ref (am 7)), (2, .int (nI r))]) hx hb d_M_hangs_212 hl (k := 4) rfl (nI_1 _) (by decide) rfl (fun ls hl => ?_)
                          refine lv_goto (tgt := 173) hx hb d_M_hangs_215 (by decide) ?_
                          exact ihlpe (i + 1) (by omega) (by omega) _ _ hP hD hS ls (lv_sub hl [2, 3, 4, 1, 0] rfl)
                        · skip
                          have hA5 := bz_al_1 hA4 (Or.inr (bz_i_ne c_202))
                          refine lv_iconst (v := 1) hx hb d_M_hangs_205 (by decide) ?_
                          refine lv_goto (tgt := 210) hx hb d_M_hangs_206 (by decide) ?_
                          refine bz_ri (y := bz_i (bz_al (bz_in t (bz_fu f) r) x (i + 1))) (by rw [hA5]; rfl) ?_
                          refine lv_istore (lv' := [(5, .int (bz_i (bz_al (bz_in t (bz_fu f) r) x (i + 1)))), (0, .ref (am 0)), (1, .ref (am 7)), (2, .int (nI r)), (6, .int (nI i))]) hx hb d_M_hangs_210 hl (by decide) rfl (fun ls hl => ?_)
                          refine lv_iinc (v := nI (i + 1)) (lv' := [(6, .int (nI (i + 1))), (5, .int (bz_i (bz_al (bz_in t (bz_fu f) r) x (i + 1)))), (0, .ref (am 0)), (1, .ref (am 7)), (2, .int (nI r))]) hx hb d_M_hangs_212 hl (k := 4) rfl (nI_1 _) (by decide) rfl (fun ls hl => ?_)
                          refine lv_goto (tgt := 173) hx hb d_M_hangs_215 (by decide) ?_
                          exact ihlpe (i + 1) (by omega) (by omega) _ _ hP hD hS ls (lv_sub hl [2, 3, 4, 1, 0] rfl)
              exact lpe _ 0 (Nat.lt_succ_self _) (by omega) _ _ hP hD hS ls (lv_sub hl [2, 3, 4, 1, 0] rfl)
            · skip
              have hmo := bz_i_ne c_67
              refine lv_iconst (v := nI 0) hx hb d_M_hangs_70 (by decide) ?_
              refine lv_istore (lv' := [(4, .int (nI 0)), (0, .ref (am 0)), (1, .ref (am 7)), (2, .int (nI r))]) hx hb d_M_hangs_71 hl (by decide) rfl (fun ls hl => ?_)
              refine lv_iconst (v := nI 0) hx hb d_M_hangs_73 (by decide) ?_
              refine lv_istore (lv' := [(5, .int (nI 0)), (4, .int (nI 0)), (0, .ref (am 0)), (1, .ref (am 7)), (2, .int (nI r))]) hx hb d_M_hangs_74 hl (by decide) rfl (fun ls hl => ?_)
              have lpo : ∀ (k9 : Nat) (a : Nat) (y : Nat → Bool) (m2 : Bool), bz_n t - a < k9 → (a ≤ bz_n t) → (bz_hr (bz_j t) (bz_in t (bz_fu f) r) (fun a => bz_in t (bz_fu f) r a || bz_op t (bz_fu f) a) y) → ((m2 = true ∧ bz_ct x (bz_n t) < bz_ct y (bz_n t)) ∨ (m2 = false ∧ y = x ∧ ∀ q, q < a → ∀ b, b < bz_n t → x q = true → bz_in t (bz_fu f) r b = true → bz_j t q b = true → x b = true)) → ∀ (H : Heap) (locs : List Loc), va_P (dC, dI) vwCl (bz_wM am cI cL cZ (bz_tM t) (th, sv, ex) (S2, (fun a => nI (f a)), (bz_se (bz_n t) y S3))) H → va_D A (bz_wM am cI cL cZ (bz_tM t) (th, sv, ex) (S2, (fun a => nI (f a)), (bz_se (bz_n t) y S3))) → va_S A s.heap H locs → ∀ (ls : Array Slot), lv_has ls 7 [(0, .ref (am 0)), (1, .ref (am 7)), (2, .int (nI r)), (4, .int (bz_i m2)), (5, .int (nI a))] → W p l e (headSpec w_M_hangs ({ frames := 0, cells := 0, slots := 0, locals := 0 })).room s m ([.ref (am 0), .ref (am 7), .int (nI r)]).toArray below meth c H locs 0 0 (MQ below (bz_Qxi (dC, dI) [(cI, .int), (cL, .long), (cZ, .boolean)] A (fun r9 (u : Nat → Int32) => r9 = nI (bz_b (bz_ht t (bz_fu f) r))) (fun u : Nat → Int32 => bz_wM am cI cL cZ (bz_tM t) (th, sv, ex) (S2, (fun a => nI (f a)), u))) ([.ref (am 0), .ref (am 7), .int (nI r)]).toArray s 0 0 (A)) (F0 m 76 ls []) := by
                intro k9
                induction k9 with
                | zero =>
                  intro a y m2 h9
                  exact absurd h9 (Nat.not_lt_zero _)
                | succ k9 ihlpo =>
                  intro a y m2 h9_lpo ha hy hrel H locs hP hD hS ls hl
                  refine lv_iload hx hb d_M_hangs_76 (lv_at hl 4 rfl) ?_
                  refine lv_aload_n hx hb d_M_hangs_78 rfl (lv_at hl 0 rfl) ?_
                  refine va_get (D := (dC, dI)) (ci := 4) (v := .int (nI (bz_n t))) (C := R_M) (T := F_M) (N := 12) hx hb htb in_M hown hK hP 0 rfl rfl 1 (by decide) (htb _ wd_411) (fun _ h9 => h9) rfl d_M_hangs_79 ?_
                  refine lv_icmp_ge (tgt := 164) hx hb d_M_hangs_82 (by decide) (fun c_82 => ?_) (fun c_82 => ?_)
                  · skip
                    have han : a = bz_n t := by have := (nI_leI (by omega) (by omega)).mp c_82; omega
                    refine lv_goto (tgt := 65) hx hb d_M_hangs_164 (by decide) ?_
                    exact ihlpw y m2 (by rcases hrel with ⟨h1, h2⟩ | ⟨h1, h2, -⟩; { subst h1; rw [hmo] at h9_lpw; simp at h9_lpw; have := bz_ct_le y (bz_n t); simp; omega }; { subst h1; rw [h2]; rw [hmo] at h9_lpw; simp at h9_lpw; simp; omega }) (hy) (fun h => by rcases hrel with ⟨h1, -⟩ | ⟨-, h2, h3⟩; { rw [h] at h1; exact absurd h1 (by simp) }; { rw [h2]; intro q hq; exact h3 q (by omega) }) _ _ hP hD hS ls (lv_sub hl [0, 1, 2, 3] rfl)
                  · skip
                    have han : a < bz_n t := Nat.lt_of_not_le fun z => c_82 ((nI_leI (by omega) (by omega)).mpr z)
                    refine lv_iconst (v := nI 0) hx hb d_M_hangs_85 (by decide) ?_
                    refine lv_istore (lv' := [(6, .int (nI 0)), (0, .ref (am 0)), (1, .ref (am 7)), (2, .int (nI r)), (4, .int (bz_i m2)), (5, .int (nI a))]) hx hb d_M_hangs_86 hl (by decide) rfl (fun ls hl => ?_)
                    have lpi : ∀ (k9 : Nat) (b : Nat) (z : Nat → Bool) (m3 : Bool), bz_n t - b < k9 → (b ≤ bz_n t) → (bz_hr (bz_j t) (bz_in t (bz_fu f) r) (fun a => bz_in t (bz_fu f) r a || bz_op t (bz_fu f) a) z) → ((m3 = true ∧ bz_ct x (bz_n t) < bz_ct z (bz_n t)) ∨ (m3 = false ∧ z = x ∧ (∀ q, q < a → ∀ b, b < bz_n t → x q = true → bz_in t (bz_fu f) r b = true → bz_j t q b = true → x b = true) ∧ ∀ q, q < b → x a = true → bz_in t (bz_fu f) r q = true → bz_j t a q = true → x q = true)) → ∀ (H : Heap) (locs : List Loc), va_P (dC, dI) vwCl (bz_wM am cI cL cZ (bz_tM t) (th, sv, ex) (S2, (fun a => nI (f a)), (bz_se (bz_n t) z S3))) H → va_D A (bz_wM am cI cL cZ (bz_tM t) (th, sv, ex) (S2, (fun a => nI (f a)), (bz_se (bz_n t) z S3))) → va_S A s.heap H locs → ∀ (ls : Array Slot), lv_has ls 7 [(0, .ref (am 0)), (1, .ref (am 7)), (2, .int (nI r)), (4, .int (bz_i m3)), (5, .int (nI a)), (6, .int (nI b))] → W p l e (headSpec w_M_hangs ({ frames := 0, cells := 0, slots := 0, locals := 0 })).room s m ([.ref (am 0), .ref (am 7), .int (nI r)]).toArray below meth c H locs 0 0 (MQ below (bz_Qxi (dC, dI) [(cI, .int), (cL, .long), (cZ, .boolean)] A (fun r9 (u : Nat → Int32) => r9 = nI (bz_b (bz_ht t (bz_fu f) r))) (fun u : Nat → Int32 => bz_wM am cI cL cZ (bz_tM t) (th, sv, ex) (S2, (fun a => nI (f a)), u))) ([.ref (am 0), .ref (am 7), .int (nI r)]).toArray s 0 0 (A)) (F0 m 88 ls []) := by
                      intro k9
                      induction k9 with
                      | zero =>
                        intro b z m3 h9
                        exact absurd h9 (Nat.not_lt_zero _)
                      | succ k9 ihlpi =>
                        intro b z m3 h9_lpi hbb hz hre3 H locs hP hD hS ls hl
                        refine lv_iload hx hb d_M_hangs_88 (lv_at hl 5 rfl) ?_
                        refine lv_aload_n hx hb d_M_hangs_90 rfl (lv_at hl 0 rfl) ?_
                        refine va_get (D := (dC, dI)) (ci := 4) (v := .int (nI (bz_n t))) (C := R_M) (T := F_M) (N := 12) hx hb htb in_M hown hK hP 0 rfl rfl 1 (by decide) (htb _ wd_411) (fun _ h9 => h9) rfl d_M_hangs_91 ?_
                        refine lv_icmp_ge (tgt := 158) hx hb d_M_hangs_94 (by decide) (fun c_94 => ?_) (fun c_94 => ?_)
                        · skip
                          have hbn : b = bz_n t := by have := (nI_leI (by omega) (by omega)).mp c_94; omega
                          refine lv_iinc (v := nI (a + 1)) (lv' := [(5, .int (nI (a + 1))), (0, .ref (am 0)), (1, .ref (am 7)), (2, .int (nI r)), (4, .int (bz_i m3)), (6, .int (nI b))]) hx hb d_M_hangs_158 hl (k := 4) rfl (nI_1 _) (by decide) rfl (fun ls hl => ?_)
                          refine lv_goto (tgt := 76) hx hb d_M_hangs_161 (by decide) ?_
                          exact ihlpo (a + 1) z m3 (by omega) (by omega) (hz) (by rcases hre3 with h | ⟨h1, h2, h3, h4⟩; { exact Or.inl h }; { refine Or.inr ⟨h1, h2, fun q hq => ?_⟩; by_cases e : q = a; { subst e; intro b2 hb2; exact h4 b2 (by omega) }; { exact h3 q (by omega) } }) _ _ hP hD hS ls (lv_sub hl [1, 2, 3, 4, 0] rfl)
                        · skip
                          have hbn : b < bz_n t := Nat.lt_of_not_le fun z => c_94 ((nI_leI (by omega) (by omega)).mpr z)
                          refine lv_aload_n hx hb d_M_hangs_97 rfl (lv_at hl 0 rfl) ?_
                          refine va_get (D := (dC, dI)) (ci := 4) (v := .ref (am 8)) (C := R_M) (T := F_M) (N := 12) hx hb htb in_M hown hK hP 0 rfl rfl 11 (by decide) (htb _ wd_421) (fun _ h9 => h9) rfl d_M_hangs_98 ?_
                          refine lv_iload hx hb d_M_hangs_101 (lv_at hl 4 rfl) ?_
                          refine bz_zald (v := bz_i (z a)) hx hb hK hP 8 2 rfl rfl (a9 := a) (by omega) (by decide) (bz_se_at (by omega) _ _) d_M_hangs_103 ?_
                          refine lv_if_eq (tgt := 152) hx hb d_M_hangs_104 (by decide) (fun c_104 => ?_) (fun c_104 => ?_)
                          · skip
                            have hP4 : z a = true → bz_in t (bz_fu f) r b = true → bz_j t a b = true → z b = true := fun q => by rw [bz_i_eq c_104] at q; exact absurd q (by simp)
                            refine lv_iinc (v := nI (b + 1)) (lv' := [(6, .int (nI (b + 1))), (0, .ref (am 0)), (1, .ref (am 7)), (2, .int (nI r)), (4, .int (bz_i m3)), (5, .int (nI a))]) hx hb d_M_hangs_152 hl (k := 5) rfl (nI_1 _) (by decide) rfl (fun ls hl => ?_)
                            refine lv_goto (tgt := 88) hx hb d_M_hangs_155 (by decide) ?_
                            exact ihlpi (b + 1) z m3 (by omega) (by omega) (hz) (by rcases hre3 with h | ⟨h1, h2, h3, h4⟩; { exact Or.inl h }; { refine Or.inr ⟨h1, h2, h3, fun q hq => ?_⟩; by_cases e : q = b; { subst e; rw [← h2]; intro p1 p2 p3; exact hP4 p1 p2 p3 }; { exact h4 q (by omega) } }) _ _ hP hD hS ls (lv_sub hl [1, 2, 3, 4, 5, 0] rfl)
                          · skip
                            have hza := bz_i_ne c_104
                            have hfb := hf b hbn
                            refine lv_aload_n hx hb d_M_hangs_107 rfl (lv_at hl 1 rfl) ?_
                            refine lv_iload hx hb d_M_hangs_108 (lv_at hl 5 rfl) ?_
                            refine bz_iald (v := nI (f b)) hx hb hK hP 7 0 rfl rfl (a9 := b) (by omega) (by decide) (rfl) d_M_hangs_110 ?_
                            refine lv_iload_n hx hb d_M_hangs_111 rfl (lv_at hl 2 rfl) ?_
                            refine lv_icmp_ne (tgt := 152) hx hb d_M_hangs_112 (by decide) (fun c_112 => ?_) (fun c_112 => ?_)
                            · skip
                              have hFb : bz_in t (bz_fu f) r b = false := by rw [bz_inf hbn]; exact decide_eq_false fun z => c_112 (by rw [z])
                              have hP4 : z a = true → bz_in t (bz_fu f) r b = true → bz_j t a b = true → z b = true := fun _ q => by rw [hFb] at q; exact absurd q (by simp)
                              refine lv_iinc (v := nI (b + 1)) (lv' := [(6, .int (nI (b + 1))), (0, .ref (am 0)), (1, .ref (am 7)), (2, .int (nI r)), (4, .int (bz_i m3)), (5, .int (nI a))]) hx hb d_M_hangs_152 hl (k := 5) rfl (nI_1 _) (by decide) rfl (fun ls hl => ?_)
                              refine lv_goto (tgt := 88) hx hb d_M_hangs_155 (by decide) ?_
                              exact ihlpi (b + 1) z m3 (by omega) (by omega) (hz) (by rcases hre3 with h | ⟨h1, h2, h3, h4⟩; { exact Or.inl h }; { refine Or.inr ⟨h1, h2, h3, fun q hq => ?_⟩; by_cases e : q = b; { subst e; rw [← h2]; intro p1 p2 p3; exact hP4 p1 p2 p3 }; { exact h4 q (by omega) } }) _ _ hP hD hS ls (lv_sub hl [1, 2, 3, 4, 5, 0] rfl)
                            · skip
                              have hFb : bz_in t (bz_fu f) r b = true := by rw [bz_inf hbn]; exact decide_eq_true ((nI_eq (by omega) (by omega)).mp c_112)
                              refine lv_aload_n hx hb d_M_hangs_115 rfl (lv_at hl 0 rfl) ?_
                              refine va_get (D := (dC, dI)) (ci := 4) (v := .ref (am 8)) (C := R_M) (T := F_M) (N := 12) hx hb htb in_M hown hK hP 0 rfl rfl 11 (by decide) (htb _ wd_421) (fun _ h9 => h9) rfl d_M_hangs_116 ?_
                              refine lv_iload hx hb d_M_hangs_119 (lv_at hl 5 rfl) ?_
                              refine bz_zald (v := bz_i (z b)) hx hb hK hP 8 2 rfl rfl (a9 := b) (by omega) (by decide) (bz_se_at (by omega) _ _) d_M_hangs_121 ?_
                              refine lv_if_ne (tgt := 152) hx hb d_M_hangs_122 (by decide) (fun c_122 => ?_) (fun c_122 => ?_)
                              · skip
                                have hP4 : z a = true → bz_in t (bz_fu f) r b = true → bz_j t a b = true → z b = true := fun _ _ _ => bz_i_ne c_122
                                refine lv_iinc (v := nI (b + 1)) (lv' := [(6, .int (nI (b + 1))), (0, .ref (am 0)), (1, .ref (am 7)), (2, .int (nI r)), (4, .int (bz_i m3)), (5, .int (nI a))]) hx hb d_M_hangs_152 hl (k := 5) rfl (nI_1 _) (by decide) rfl (fun ls hl => ?_)
                                refine lv_goto (tgt := 88) hx hb d_M_hangs_155 (by decide) ?_
                                exact ihlpi (b + 1) z m3 (by omega) (by omega) (hz) (by rcases hre3 with h | ⟨h1, h2, h3, h4⟩; { exact Or.inl h }; { refine Or.inr ⟨h1, h2, h3, fun q hq => ?_⟩; by_cases e : q = b; { subst e; rw [← h2]; intro p1 p2 p3; exact hP4 p1 p2 p3 }; { exact h4 q (by omega) } }) _ _ hP hD hS ls (lv_sub hl [1, 2, 3, 4, 5, 0] rfl)
                              · skip
                                have hzb := bz_i_eq c_122
                                refine lv_aload_n hx hb d_M_hangs_125 rfl (lv_at hl 0 rfl) ?_
                                refine va_get (D := (dC, dI)) (ci := 4) (v := .ref (am 3)) (C := R_M) (T := F_M) (N := 12) hx hb htb in_M hown hK hP 0 rfl rfl 4 (by decide) (htb _ wd_414) (fun _ h9 => h9) rfl d_M_hangs_126 ?_
                                refine lv_bipush (v := 30) hx hb d_M_hangs_129 (by decide) ?_
                                refine lv_iload hx hb d_M_hangs_131 (lv_at hl 4 rfl) ?_
                                refine lv_imul hx hb d_M_hangs_133 ?_
                                refine bz_ri (y := nI (30 * a)) (pk_mul 30 _) ?_
                                refine lv_iload hx hb d_M_hangs_134 (lv_at hl 5 rfl) ?_
                                refine lv_iadd hx hb d_M_hangs_136 ?_
                                refine bz_ri (y := nI (30 * a + b)) (nI_add _ _) ?_
                                refine bz_zald (v := bz_i (bz_j t a b)) hx hb hK hP 3 2 rfl rfl (a9 := (30 * a + b)) (by omega) (by decide) (by show bz_i (bz_j t ((30 * a + b) / 30) ((30 * a + b) % 30)) = _; rw [show (30 * a + b) / 30 = a by omega, show (30 * a + b) % 30 = b by omega]) d_M_hangs_137 ?_
                                refine lv_if_eq (tgt := 152) hx hb d_M_hangs_138 (by decide) (fun c_138 => ?_) (fun c_138 => ?_)
                                · skip
                                  have hP4 : z a = true → bz_in t (bz_fu f) r b = true → bz_j t a b = true → z b = true := fun _ _ q => by rw [bz_i_eq c_138] at q; exact absurd q (by simp)
                                  refine lv_iinc (v := nI (b + 1)) (lv' := [(6, .int (nI (b + 1))), (0, .ref (am 0)), (1, .ref (am 7)), (2, .int (nI r)), (4, .int (bz_i m3)), (5, .int (nI a))]) hx hb d_M_hangs_152 hl (k := 5) rfl (nI_1 _) (by decide) rfl (fun ls hl => ?_)
                                  refine lv_goto (tgt := 88) hx hb d_M_hangs_155 (by decide) ?_
                                  exact ihlpi (b + 1) z m3 (by omega) (by omega) (hz) (by rcases hre3 with h | ⟨h1, h2, h3, h4⟩; { exact Or.inl h }; { refine Or.inr ⟨h1, h2, h3, fun q hq => ?_⟩; by_cases e : q = b; { subst e; rw [← h2]; intro p1 p2 p3; exact hP4 p1 p2 p3 }; { exact h4 q (by omega) } }) _ _ hP hD hS ls (lv_sub hl [1, 2, 3, 4, 5, 0] rfl)
                                · skip
                                  have hJ := bz_i_ne c_138
                                  refine lv_aload_n hx hb d_M_hangs_141 rfl (lv_at hl 0 rfl) ?_
                                  refine va_get (D := (dC, dI)) (ci := 4) (v := .ref (am 8)) (C := R_M) (T := F_M) (N := 12) hx hb htb in_M hown hK hP 0 rfl rfl 11 (by decide) (htb _ wd_421) (fun _ h9 => h9) rfl d_M_hangs_142 ?_
                                  refine lv_iload hx hb d_M_hangs_145 (lv_at hl 5 rfl) ?_
                                  refine lv_iconst (v := 1) hx hb d_M_hangs_147 (by decide) ?_
                                  refine bz_zast (b9 := true) hx hb hK hP hD hS 8 2 rfl rfl (a9 := b) (by omega) (by decide) (rfl) d_M_hangs_148 (fun H locs hP hD hS => ?_)
                                  have hP : va_P (dC, dI) vwCl (bz_wM am cI cL cZ (bz_tM t) (th, sv, ex) (S2, (fun a => nI (f a)), (upd (bz_se (bz_n t) z S3) b (bz_i true)))) H := hP
                                  have hD : va_D A (bz_wM am cI cL cZ (bz_tM t) (th, sv, ex) (S2, (fun a => nI (f a)), (upd (bz_se (bz_n t) z S3) b (bz_i true)))) := hD
                                  have e9 : (bz_se (bz_n t) (va_up z b true) S3) = (upd (bz_se (bz_n t) z S3) b (bz_i true)) := bz_se_put hbn _ _ _
                                  rw [← e9] at hP hD
                                  refine lv_iconst (v := nI 1) hx hb d_M_hangs_149 (by decide) ?_
                                  refine lv_istore (lv' := [(4, .int (nI 1)), (0, .ref (am 0)), (1, .ref (am 7)), (2, .int (nI r)), (5, .int (nI a)), (6, .int (nI b))]) hx hb d_M_hangs_150 hl (by decide) rfl (fun ls hl => ?_)
                                  refine lv_iinc (v := nI (b + 1)) (lv' := [(6, .int (nI (b + 1))), (4, .int (nI 1)), (0, .ref (am 0)), (1, .ref (am 7)), (2, .int (nI r)), (5, .int (nI a))]) hx hb d_M_hangs_152 hl (k := 5) rfl (nI_1 _) (by decide) rfl (fun ls hl => ?_)
                                  refine lv_goto (tgt := 88) hx hb d_M_hangs_155 (by decide) ?_
                                  exact ihlpi (b + 1) (va_up z b true) true (by omega) (by omega) (bz_hr_1 hz hza hFb (by show (_ || _) = true; rw [hFb]; rfl) hJ) (Or.inl ⟨rfl, by have := bz_ct_up hbn hzb; rcases hre3 with ⟨-, h⟩ | ⟨-, h, -⟩; { omega }; { rw [h] at this; rw [h]; exact this }⟩) _ _ hP hD hS ls (lv_sub hl [2, 3, 4, 1, 5, 0] rfl)
                    exact lpi _ 0 y m2 (Nat.lt_succ_self _) (by omega) (hy) (by rcases hrel with h | ⟨h1, h2, h3⟩; { exact Or.inl h }; { exact Or.inr ⟨h1, h2, h3, fun q hq => absurd hq (by omega)⟩ }) _ _ hP hD hS ls (lv_sub hl [1, 2, 3, 4, 5, 0] rfl)
              exact lpo _ 0 x false (Nat.lt_succ_self _) (by omega) (hx2) (Or.inr ⟨rfl, rfl, fun q hq => absurd hq (by omega)⟩) _ _ hP hD hS ls (lv_sub hl [2, 3, 4, 1, 0] rfl)
        exact lpw _ (bz_x0 (bz_in t (bz_fu f) r)) true (Nat.lt_succ_self _) (bz_hr_0 fun i hi => bz_in_n hi) (fun h => absurd h (by simp)) _ _ hP hD hS ls (lv_sub hl [1, 2, 3, 0] rfl)
      · skip
        have hin : i < bz_n t := Nat.lt_of_not_le fun z => c_11 ((nI_leI (by omega) (by omega)).mpr z)
        have hfi := hf i hin
        refine lv_aload_n hx hb d_M_hangs_14 rfl (lv_at hl 0 rfl) ?_
        refine va_get (D := (dC, dI)) (ci := 4) (v := .ref (am 8)) (C := R_M) (T := F_M) (N := 12) hx hb htb in_M hown hK hP 0 rfl rfl 11 (by decide) (htb _ wd_421) (fun _ h9 => h9) rfl d_M_hangs_15 ?_
        refine lv_iload hx hb d_M_hangs_18 (lv_at hl 4 rfl) ?_
        refine lv_aload_n hx hb d_M_hangs_20 rfl (lv_at hl 1 rfl) ?_
        refine lv_iload hx hb d_M_hangs_21 (lv_at hl 4 rfl) ?_
        refine bz_iald (v := nI (f i)) hx hb hK hP 7 0 rfl rfl (a9 := i) (by omega) (by decide) (rfl) d_M_hangs_23 ?_
        refine lv_iload_n hx hb d_M_hangs_24 rfl (lv_at hl 2 rfl) ?_
        refine lv_icmp_ne (tgt := 36) hx hb d_M_hangs_25 (by decide) (fun c_25 => ?_) (fun c_25 => ?_)
        · skip
          have hFi : bz_in t (bz_fu f) r i = false := by rw [bz_inf hin]; exact decide_eq_false fun z => c_25 (by rw [z])
          have hX : bz_x0 (bz_in t (bz_fu f) r) i = false := by unfold bz_x0; rw [hFi]; rfl
          refine lv_iconst (v := 0) hx hb d_M_hangs_36 (by decide) ?_
          refine bz_zast (b9 := bz_x0 (bz_in t (bz_fu f) r) i) hx hb hK hP hD hS 8 2 rfl rfl (a9 := i) (by omega) (by decide) (by rw [hX]; rfl) d_M_hangs_37 (fun H locs hP hD hS => ?_)
          have hP : va_P (dC, dI) vwCl (bz_wM am cI cL cZ (bz_tM t) (th, sv, ex) (S2, (fun a => nI (f a)), (upd (bz_se i (bz_x0 (bz_in t (bz_fu f) r)) S3) i (bz_i (bz_x0 (bz_in t (bz_fu f) r) i))))) H := hP
          have hD : va_D A (bz_wM am cI cL cZ (bz_tM t) (th, sv, ex) (S2, (fun a => nI (f a)), (upd (bz_se i (bz_x0 (bz_in t (bz_fu f) r)) S3) i (bz_i (bz_x0 (bz_in t (bz_fu f) r) i))))) := hD
          have e9 : (bz_se (i + 1) (bz_x0 (bz_in t (bz_fu f) r)) S3) = (upd (bz_se i (bz_x0 (bz_in t (bz_fu f) r)) S3) i (bz_i (bz_x0 (bz_in t (bz_fu f) r) i))) := bz_se_add _ _ _
          rw [← e9] at hP hD
          refine lv_iload_n hx hb d_M_hangs_38 rfl (lv_at hl 3 rfl) ?_
          refine lv_if_ne (tgt := 50) hx hb d_M_hangs_39 (by decide) (fun c_39 => ?_) (fun c_39 => ?_)
          · skip
            have hB := bz_bn_t (bz_i_ne c_39)
            refine lv_iconst (v := 1) hx hb d_M_hangs_50 (by decide) ?_
            refine lv_goto (tgt := 55) hx hb d_M_hangs_51 (by decide) ?_
            refine bz_ri (y := bz_i (bz_bn (bz_in t (bz_fu f) r) (i + 1))) (by rw [hB]; rfl) ?_
            refine lv_istore_n (lv' := [(3, .int (bz_i (bz_bn (bz_in t (bz_fu f) r) (i + 1)))), (0, .ref (am 0)), (1, .ref (am 7)), (2, .int (nI r)), (4, .int (nI i))]) hx hb d_M_hangs_55 rfl hl (by decide) rfl (fun ls hl => ?_)
            refine lv_iinc (v := nI (i + 1)) (lv' := [(4, .int (nI (i + 1))), (3, .int (bz_i (bz_bn (bz_in t (bz_fu f) r) (i + 1)))), (0, .ref (am 0)), (1, .ref (am 7)), (2, .int (nI r))]) hx hb d_M_hangs_56 hl (k := 4) rfl (nI_1 _) (by decide) rfl (fun ls hl => ?_)
            refine lv_goto (tgt := 5) hx hb d_M_hangs_59 (by decide) ?_
            exact ihlpa (i + 1) (by omega) (by omega) _ _ hP hD hS ls (lv_sub hl [2, 3, 4, 1, 0] rfl)
          · skip
            refine lv_aload_n hx hb d_M_hangs_42 rfl (lv_at hl 1 rfl) ?_
            refine lv_iload hx hb d_M_hangs_43 (lv_at hl 4 rfl) ?_
            refine bz_iald (v := nI (f i)) hx hb hK hP 7 0 rfl rfl (a9 := i) (by omega) (by decide) (rfl) d_M_hangs_45 ?_
            refine lv_iload_n hx hb d_M_hangs_46 rfl (lv_at hl 2 rfl) ?_
            refine lv_icmp_ne (tgt := 54) hx hb d_M_hangs_47 (by decide) (fun c_47 => ?_) (fun c_47 => ?_)
            · skip
              have hFi : bz_in t (bz_fu f) r i = false := by rw [bz_inf hin]; exact decide_eq_false fun z => c_47 (by rw [z])
              have hB := bz_bn_f (bz_i_eq c_39) hFi
              refine lv_iconst (v := nI 0) hx hb d_M_hangs_54 (by decide) ?_
              refine bz_ri (y := bz_i (bz_bn (bz_in t (bz_fu f) r) (i + 1))) (by rw [hB]; rfl) ?_
              refine lv_istore_n (lv' := [(3, .int (bz_i (bz_bn (bz_in t (bz_fu f) r) (i + 1)))), (0, .ref (am 0)), (1, .ref (am 7)), (2, .int (nI r)), (4, .int (nI i))]) hx hb d_M_hangs_55 rfl hl (by decide) rfl (fun ls hl => ?_)
              refine lv_iinc (v := nI (i + 1)) (lv' := [(4, .int (nI (i + 1))), (3, .int (bz_i (bz_bn (bz_in t (bz_fu f) r) (i + 1)))), (0, .ref (am 0)), (1, .ref (am 7)), (2, .int (nI r))]) hx hb d_M_hangs_56 hl (k := 4) rfl (nI_1 _) (by decide) rfl (fun ls hl => ?_)
              refine lv_goto (tgt := 5) hx hb d_M_hangs_59 (by decide) ?_
              exact ihlpa (i + 1) (by omega) (by omega) _ _ hP hD hS ls (lv_sub hl [2, 3, 4, 1, 0] rfl)
            · skip
              have hFi : bz_in t (bz_fu f) r i = true := by rw [bz_inf hin]; exact decide_eq_true ((nI_eq (by omega) (by omega)).mp c_47)
              have hB := bz_bn_i hFi
              refine lv_iconst (v := 1) hx hb d_M_hangs_50 (by decide) ?_
              refine lv_goto (tgt := 55) hx hb d_M_hangs_51 (by decide) ?_
              refine bz_ri (y := bz_i (bz_bn (bz_in t (bz_fu f) r) (i + 1))) (by rw [hB]; rfl) ?_
              refine lv_istore_n (lv' := [(3, .int (bz_i (bz_bn (bz_in t (bz_fu f) r) (i + 1)))), (0, .ref (am 0)), (1, .ref (am 7)), (2, .int (nI r)), (4, .int (nI i))]) hx hb d_M_hangs_55 rfl hl (by decide) rfl (fun ls hl => ?_)
              refine lv_iinc (v := nI (i + 1)) (lv' := [(4, .int (nI (i + 1))), (3, .int (bz_i (bz_bn (bz_in t (bz_fu f) r) (i + 1)))), (0, .ref (am 0)), (1, .ref (am 7)), (2, .int (nI r))]) hx hb d_M_hangs_56 hl (k := 4) rfl (nI_1 _) (by decide) rfl (fun ls hl => ?_)
              refine lv_goto (tgt := 5) hx hb d_M_hangs_59 (by decide) ?_
              exact ihlpa (i + 1) (by omega) (by omega) _ _ hP hD hS ls (lv_sub hl [2, 3, 4, 1, 0] rfl)
        · skip
          have hFi : bz_in t (bz_fu f) r i = true := by rw [bz_inf hin]; exact decide_eq_true ((nI_eq (by omega) (by omega)).mp c_25)
          refine lv_iload_n hx hb d_M_hangs_28 rfl (lv_at hl 3 rfl) ?_
          refine lv_if_ne (tgt := 36) hx hb d_M_hangs_29 (by decide) (fun c_29 => ?_) (fun c_29 => ?_)
          · skip
            have hX : bz_x0 (bz_in t (bz_fu f) r) i = false := by unfold bz_x0; rw [bz_i_ne c_29]; simp
            refine lv_iconst (v := 0) hx hb d_M_hangs_36 (by decide) ?_
            refine bz_zast (b9 := bz_x0 (bz_in t (bz_fu f) r) i) hx hb hK hP hD hS 8 2 rfl rfl (a9 := i) (by omega) (by decide) (by rw [hX]; rfl) d_M_hangs_37 (fun H locs hP hD hS => ?_)
            have hP : va_P (dC, dI) vwCl (bz_wM am cI cL cZ (bz_tM t) (th, sv, ex) (S2, (fun a => nI (f a)), (upd (bz_se i (bz_x0 (bz_in t (bz_fu f) r)) S3) i (bz_i (bz_x0 (bz_in t (bz_fu f) r) i))))) H := hP
            have hD : va_D A (bz_wM am cI cL cZ (bz_tM t) (th, sv, ex) (S2, (fun a => nI (f a)), (upd (bz_se i (bz_x0 (bz_in t (bz_fu f) r)) S3) i (bz_i (bz_x0 (bz_in t (bz_fu f) r) i))))) := hD
            have e9 : (bz_se (i + 1) (bz_x0 (bz_in t (bz_fu f) r)) S3) = (upd (bz_se i (bz_x0 (bz_in t (bz_fu f) r)) S3) i (bz_i (bz_x0 (bz_in t (bz_fu f) r) i))) := bz_se_add _ _ _
            rw [← e9] at hP hD
            refine lv_iload_n hx hb d_M_hangs_38 rfl (lv_at hl 3 rfl) ?_
            refine lv_if_ne (tgt := 50) hx hb d_M_hangs_39 (by decide) (fun c_39 => ?_) (fun c_39 => ?_)
            · skip
              have hB := bz_bn_t (bz_i_ne c_39)
              refine lv_iconst (v := 1) hx hb d_M_hangs_50 (by decide) ?_
              refine lv_goto (tgt := 55) hx hb d_M_hangs_51 (by decide) ?_
              refine bz_ri (y := bz_i (bz_bn (bz_in t (bz_fu f) r) (i + 1))) (by rw [hB]; rfl) ?_
              refine lv_istore_n (lv' := [(3, .int (bz_i (bz_bn (bz_in t (bz_fu f) r) (i + 1)))), (0, .ref (am 0)), (1, .ref (am 7)), (2, .int (nI r)), (4, .int (nI i))]) hx hb d_M_hangs_55 rfl hl (by decide) rfl (fun ls hl => ?_)
              refine lv_iinc (v := nI (i + 1)) (lv' := [(4, .int (nI (i + 1))), (3, .int (bz_i (bz_bn (bz_in t (bz_fu f) r) (i + 1)))), (0, .ref (am 0)), (1, .ref (am 7)), (2, .int (nI r))]) hx hb d_M_hangs_56 hl (k := 4) rfl (nI_1 _) (by decide) rfl (fun ls hl => ?_)
              refine lv_goto (tgt := 5) hx hb d_M_hangs_59 (by decide) ?_
              exact ihlpa (i + 1) (by omega) (by omega) _ _ hP hD hS ls (lv_sub hl [2, 3, 4, 1, 0] rfl)
            · skip
              refine lv_aload_n hx hb d_M_hangs_42 rfl (lv_at hl 1 rfl) ?_
              refine lv_iload hx hb d_M_hangs_43 (lv_at hl 4 rfl) ?_
              refine bz_iald (v := nI (f i)) hx hb hK hP 7 0 rfl rfl (a9 := i) (by omega) (by decide) (rfl) d_M_hangs_45 ?_
              refine lv_iload_n hx hb d_M_hangs_46 rfl (lv_at hl 2 rfl) ?_
              refine lv_icmp_ne (tgt := 54) hx hb d_M_hangs_47 (by decide) (fun c_47 => ?_) (fun c_47 => ?_)
              · skip
                have hFi : bz_in t (bz_fu f) r i = false := by rw [bz_inf hin]; exact decide_eq_false fun z => c_47 (by rw [z])
                have hB := bz_bn_f (bz_i_eq c_39) hFi
                refine lv_iconst (v := nI 0) hx hb d_M_hangs_54 (by decide) ?_
                refine bz_ri (y := bz_i (bz_bn (bz_in t (bz_fu f) r) (i + 1))) (by rw [hB]; rfl) ?_
                refine lv_istore_n (lv' := [(3, .int (bz_i (bz_bn (bz_in t (bz_fu f) r) (i + 1)))), (0, .ref (am 0)), (1, .ref (am 7)), (2, .int (nI r)), (4, .int (nI i))]) hx hb d_M_hangs_55 rfl hl (by decide) rfl (fun ls hl => ?_)
                refine lv_iinc (v := nI (i + 1)) (lv' := [(4, .int (nI (i + 1))), (3, .int (bz_i (bz_bn (bz_in t (bz_fu f) r) (i + 1)))), (0, .ref (am 0)), (1, .ref (am 7)), (2, .int (nI r))]) hx hb d_M_hangs_56 hl (k := 4) rfl (nI_1 _) (by decide) rfl (fun ls hl => ?_)
                refine lv_goto (tgt := 5) hx hb d_M_hangs_59 (by decide) ?_
                exact ihlpa (i + 1) (by omega) (by omega) _ _ hP hD hS ls (lv_sub hl [2, 3, 4, 1, 0] rfl)
              · skip
                have hFi : bz_in t (bz_fu f) r i = true := by rw [bz_inf hin]; exact decide_eq_true ((nI_eq (by omega) (by omega)).mp c_47)
                have hB := bz_bn_i hFi
                refine lv_iconst (v := 1) hx hb d_M_hangs_50 (by decide) ?_
                refine lv_goto (tgt := 55) hx hb d_M_hangs_51 (by decide) ?_
                refine bz_ri (y := bz_i (bz_bn (bz_in t (bz_fu f) r) (i + 1))) (by rw [hB]; rfl) ?_
                refine lv_istore_n (lv' := [(3, .int (bz_i (bz_bn (bz_in t (bz_fu f) r) (i + 1)))), (0, .ref (am 0)), (1, .ref (am 7)), (2, .int (nI r)), (4, .int (nI i))]) hx hb d_M_hangs_55 rfl hl (by decide) rfl (fun ls hl => ?_)
                refine lv_iinc (v := nI (i + 1)) (lv' := [(4, .int (nI (i + 1))), (3, .int (bz_i (bz_bn (bz_in t (bz_fu f) r) (i + 1)))), (0, .ref (am 0)), (1, .ref (am 7)), (2, .int (nI r))]) hx hb d_M_hangs_56 hl (k := 4) rfl (nI_1 _) (by decide) rfl (fun ls hl => ?_)
                refine lv_goto (tgt := 5) hx hb d_M_hangs_59 (by decide) ?_
                exact ihlpa (i + 1) (by omega) (by omega) _ _ hP hD hS ls (lv_sub hl [2, 3, 4, 1, 0] rfl)
          · skip
            have hX : bz_x0 (bz_in t (bz_fu f) r) i = true := by unfold bz_x0; rw [bz_i_eq c_29, hFi]; rfl
            refine lv_iconst (v := 1) hx hb d_M_hangs_32 (by decide) ?_
            refine lv_goto (tgt := 37) hx hb d_M_hangs_33 (by decide) ?_
            refine bz_zast (b9 := bz_x0 (bz_in t (bz_fu f) r) i) hx hb hK hP hD hS 8 2 rfl rfl (a9 := i) (by omega) (by decide) (by rw [hX]; rfl) d_M_hangs_37 (fun H locs hP hD hS => ?_)
            have hP : va_P (dC, dI) vwCl (bz_wM am cI cL cZ (bz_tM t) (th, sv, ex) (S2, (fun a => nI (f a)), (upd (bz_se i (bz_x0 (bz_in t (bz_fu f) r)) S3) i (bz_i (bz_x0 (bz_in t (bz_fu f) r) i))))) H := hP
            have hD : va_D A (bz_wM am cI cL cZ (bz_tM t) (th, sv, ex) (S2, (fun a => nI (f a)), (upd (bz_se i (bz_x0 (bz_in t (bz_fu f) r)) S3) i (bz_i (bz_x0 (bz_in t (bz_fu f) r) i))))) := hD
            have e9 : (bz_se (i + 1) (bz_x0 (bz_in t (bz_fu f) r)) S3) = (upd (bz_se i (bz_x0 (bz_in t (bz_fu f) r)) S3) i (bz_i (bz_x0 (bz_in t (bz_fu f) r) i))) := bz_se_add _ _ _
            rw [← e9] at hP hD
            refine lv_iload_n hx hb d_M_hangs_38 rfl (lv_at hl 3 rfl) ?_
            refine lv_if_ne (tgt := 50) hx hb d_M_hangs_39 (by decide) (fun c_39 => ?_) (fun c_39 => ?_)
            · skip
              have hB := bz_bn_t (bz_i_ne c_39)
              refine lv_iconst (v := 1) hx hb d_M_hangs_50 (by decide) ?_
              refine lv_goto (tgt := 55) hx hb d_M_hangs_51 (by decide) ?_
              refine bz_ri (y := bz_i (bz_bn (bz_in t (bz_fu f) r) (i + 1))) (by rw [hB]; rfl) ?_
              refine lv_istore_n (lv' := [(3, .int (bz_i (bz_bn (bz_in t (bz_fu f) r) (i + 1)))), (0, .ref (am 0)), (1, .ref (am 7)), (2, .int (nI r)), (4, .int (nI i))]) hx hb d_M_hangs_55 rfl hl (by decide) rfl (fun ls hl => ?_)
              refine lv_iinc (v := nI (i + 1)) (lv' := [(4, .int (nI (i + 1))), (3, .int (bz_i (bz_bn (bz_in t (bz_fu f) r) (i + 1)))), (0, .ref (am 0)), (1, .ref (am 7)), (2, .int (nI r))]) hx hb d_M_hangs_56 hl (k := 4) rfl (nI_1 _) (by decide) rfl (fun ls hl => ?_)
              refine lv_goto (tgt := 5) hx hb d_M_hangs_59 (by decide) ?_
              exact ihlpa (i + 1) (by omega) (by omega) _ _ hP hD hS ls (lv_sub hl [2, 3, 4, 1, 0] rfl)
            · skip
              refine lv_aload_n hx hb d_M_hangs_42 rfl (lv_at hl 1 rfl) ?_
              refine lv_iload hx hb d_M_hangs_43 (lv_at hl 4 rfl) ?_
              refine bz_iald (v := nI (f i)) hx hb hK hP 7 0 rfl rfl (a9 := i) (by omega) (by decide) (rfl) d_M_hangs_45 ?_
              refine lv_iload_n hx hb d_M_hangs_46 rfl (lv_at hl 2 rfl) ?_
              refine lv_icmp_ne (tgt := 54) hx hb d_M_hangs_47 (by decide) (fun c_47 => ?_) (fun c_47 => ?_)
              · skip
                have hFi : bz_in t (bz_fu f) r i = false := by rw [bz_inf hin]; exact decide_eq_false fun z => c_47 (by rw [z])
                have hB := bz_bn_f (bz_i_eq c_39) hFi
                refine lv_iconst (v := nI 0) hx hb d_M_hangs_54 (by decide) ?_
                refine bz_ri (y := bz_i (bz_bn (bz_in t (bz_fu f) r) (i + 1))) (by rw [hB]; rfl) ?_
                refine lv_istore_n (lv' := [(3, .int (bz_i (bz_bn (bz_in t (bz_fu f) r) (i + 1)))), (0, .ref (am 0)), (1, .ref (am 7)), (2, .int (nI r)), (4, .int (nI i))]) hx hb d_M_hangs_55 rfl hl (by decide) rfl (fun ls hl => ?_)
                refine lv_iinc (v := nI (i + 1)) (lv' := [(4, .int (nI (i + 1))), (3, .int (bz_i (bz_bn (bz_in t (bz_fu f) r) (i + 1)))), (0, .ref (am 0)), (1, .ref (am 7)), (2, .int (nI r))]) hx hb d_M_hangs_56 hl (k := 4) rfl (nI_1 _) (by decide) rfl (fun ls hl => ?_)
                refine lv_goto (tgt := 5) hx hb d_M_hangs_59 (by decide) ?_
                exact ihlpa (i + 1) (by omega) (by omega) _ _ hP hD hS ls (lv_sub hl [2, 3, 4, 1, 0] rfl)
              · skip
                have hFi : bz_in t (bz_fu f) r i = true := by rw [bz_inf hin]; exact decide_eq_true ((nI_eq (by omega) (by omega)).mp c_47)
                have hB := bz_bn_i hFi
                refine lv_iconst (v := 1) hx hb d_M_hangs_50 (by decide) ?_
                refine lv_goto (tgt := 55) hx hb d_M_hangs_51 (by decide) ?_
                refine bz_ri (y := bz_i (bz_bn (bz_in t (bz_fu f) r) (i + 1))) (by rw [hB]; rfl) ?_
                refine lv_istore_n (lv' := [(3, .int (bz_i (bz_bn (bz_in t (bz_fu f) r) (i + 1)))), (0, .ref (am 0)), (1, .ref (am 7)), (2, .int (nI r)), (4, .int (nI i))]) hx hb d_M_hangs_55 rfl hl (by decide) rfl (fun ls hl => ?_)
                refine lv_iinc (v := nI (i + 1)) (lv' := [(4, .int (nI (i + 1))), (3, .int (bz_i (bz_bn (bz_in t (bz_fu f) r) (i + 1)))), (0, .ref (am 0)), (1, .ref (am 7)), (2, .int (nI r))]) hx hb d_M_hangs_56 hl (k := 4) rfl (nI_1 _) (by decide) rfl (fun ls hl => ?_)
                refine lv_goto (tgt := 5) hx hb d_M_hangs_59 (by decide) ?_
                exact ihlpa (i + 1) (by omega) (by omega) _ _ hP hD hS ls (lv_sub hl [2, 3, 4, 1, 0] rfl)
  exact lpa _ 0 (Nat.lt_succ_self _) (by omega) _ _ hP hD hS ls (lv_sub hl [2, 3, 4, 1, 0] rfl)
end
section
theorem d_M_faultsOf_0 : decode b_M_faultsOf 0 = .ok (.iconst 0, 1) := by decide +kernel
theorem d_M_faultsOf_1 : decode b_M_faultsOf 1 = .ok (.istore_n 2, 1) := by decide +kernel
theorem d_M_faultsOf_2 : decode b_M_faultsOf 2 = .ok (.iconst 0, 1) := by decide +kernel
theorem d_M_faultsOf_3 : decode b_M_faultsOf 3 = .ok (.istore_n 3, 1) := by decide +kernel
theorem d_M_faultsOf_4 : decode b_M_faultsOf 4 = .ok (.iload_n 3, 1) := by decide +kernel
theorem d_M_faultsOf_5 : decode b_M_faultsOf 5 = .ok (.aload_n 0, 1) := by decide +kernel
theorem d_M_faultsOf_6 : decode b_M_faultsOf 6 = .ok (.getfield 36, 3) := by decide +kernel
theorem d_M_faultsOf_9 : decode b_M_faultsOf 9 = .ok (.if_icmp .ge 30, 3) := by decide +kernel
theorem d_M_faultsOf_12 : decode b_M_faultsOf 12 = .ok (.aload_n 0, 1) := by decide +kernel
theorem d_M_faultsOf_13 : decode b_M_faultsOf 13 = .ok (.getfield 24, 3) := by decide +kernel
theorem d_M_faultsOf_16 : decode b_M_faultsOf 16 = .ok (.aload_n 1, 1) := by decide +kernel
theorem d_M_faultsOf_17 : decode b_M_faultsOf 17 = .ok (.iload_n 3, 1) := by decide +kernel
theorem d_M_faultsOf_18 : decode b_M_faultsOf 18 = .ok (.iaload, 1) := by decide +kernel
theorem d_M_faultsOf_19 : decode b_M_faultsOf 19 = .ok (.laload, 1) := by decide +kernel
theorem d_M_faultsOf_20 : decode b_M_faultsOf 20 = .ok (.lconst 0, 1) := by decide +kernel
theorem d_M_faultsOf_21 : decode b_M_faultsOf 21 = .ok (.lcmp, 1) := by decide +kernel
theorem d_M_faultsOf_22 : decode b_M_faultsOf 22 = .ok (.ifCond .ne 9, 3) := by decide +kernel
theorem d_M_faultsOf_25 : decode b_M_faultsOf 25 = .ok (.iload_n 2, 1) := by decide +kernel
theorem d_M_faultsOf_26 : decode b_M_faultsOf 26 = .ok (.iconst 1, 1) := by decide +kernel
theorem d_M_faultsOf_27 : decode b_M_faultsOf 27 = .ok (.iadd, 1) := by decide +kernel
theorem d_M_faultsOf_28 : decode b_M_faultsOf 28 = .ok (.goto 4, 3) := by decide +kernel
theorem d_M_faultsOf_31 : decode b_M_faultsOf 31 = .ok (.iload_n 2, 1) := by decide +kernel
theorem d_M_faultsOf_32 : decode b_M_faultsOf 32 = .ok (.istore_n 2, 1) := by decide +kernel
theorem d_M_faultsOf_33 : decode b_M_faultsOf 33 = .ok (.iinc 3 1, 3) := by decide +kernel
theorem d_M_faultsOf_36 : decode b_M_faultsOf 36 = .ok (.goto (-32), 3) := by decide +kernel
theorem d_M_faultsOf_39 : decode b_M_faultsOf 39 = .ok (.iconst 0, 1) := by decide +kernel
theorem d_M_faultsOf_40 : decode b_M_faultsOf 40 = .ok (.istore_n 3, 1) := by decide +kernel
theorem d_M_faultsOf_41 : decode b_M_faultsOf 41 = .ok (.iload_n 3, 1) := by decide +kernel
theorem d_M_faultsOf_42 : decode b_M_faultsOf 42 = .ok (.iconst 4, 1) := by decide +kernel
theorem d_M_faultsOf_43 : decode b_M_faultsOf 43 = .ok (.if_icmp .ge 61, 3) := by decide +kernel
theorem d_M_faultsOf_46 : decode b_M_faultsOf 46 = .ok (.aload_n 0, 1) := by decide +kernel
theorem d_M_faultsOf_47 : decode b_M_faultsOf 47 = .ok (.getfield 24, 3) := by decide +kernel
theorem d_M_faultsOf_50 : decode b_M_faultsOf 50 = .ok (.iload_n 3, 1) := by decide +kernel
theorem d_M_faultsOf_51 : decode b_M_faultsOf 51 = .ok (.laload, 1) := by decide +kernel
theorem d_M_faultsOf_52 : decode b_M_faultsOf 52 = .ok (.lconst 0, 1) := by decide +kernel
theorem d_M_faultsOf_53 : decode b_M_faultsOf 53 = .ok (.lcmp, 1) := by decide +kernel
theorem d_M_faultsOf_54 : decode b_M_faultsOf 54 = .ok (.ifCond .le 25, 3) := by decide +kernel
theorem d_M_faultsOf_57 : decode b_M_faultsOf 57 = .ok (.aload_n 0, 1) := by decide +kernel
theorem d_M_faultsOf_58 : decode b_M_faultsOf 58 = .ok (.aload_n 1, 1) := by decide +kernel
theorem d_M_faultsOf_59 : decode b_M_faultsOf 59 = .ok (.iload_n 3, 1) := by decide +kernel
theorem d_M_faultsOf_60 : decode b_M_faultsOf 60 = .ok (.invokevirtual 75, 3) := by decide +kernel
theorem d_M_faultsOf_63 : decode b_M_faultsOf 63 = .ok (.aload_n 0, 1) := by decide +kernel
theorem d_M_faultsOf_64 : decode b_M_faultsOf 64 = .ok (.getfield 24, 3) := by decide +kernel
theorem d_M_faultsOf_67 : decode b_M_faultsOf 67 = .ok (.iload_n 3, 1) := by decide +kernel
theorem d_M_faultsOf_68 : decode b_M_faultsOf 68 = .ok (.laload, 1) := by decide +kernel
theorem d_M_faultsOf_69 : decode b_M_faultsOf 69 = .ok (.lcmp, 1) := by decide +kernel
theorem d_M_faultsOf_70 : decode b_M_faultsOf 70 = .ok (.ifCond .le 9, 3) := by decide +kernel
theorem d_M_faultsOf_73 : decode b_M_faultsOf 73 = .ok (.iload_n 2, 1) := by decide +kernel
theorem d_M_faultsOf_74 : decode b_M_faultsOf 74 = .ok (.iconst 1, 1) := by decide +kernel
theorem d_M_faultsOf_75 : decode b_M_faultsOf 75 = .ok (.iadd, 1) := by decide +kernel
theorem d_M_faultsOf_76 : decode b_M_faultsOf 76 = .ok (.goto 4, 3) := by decide +kernel
theorem d_M_faultsOf_79 : decode b_M_faultsOf 79 = .ok (.iload_n 2, 1) := by decide +kernel
theorem d_M_faultsOf_80 : decode b_M_faultsOf 80 = .ok (.istore_n 2, 1) := by decide +kernel
theorem d_M_faultsOf_81 : decode b_M_faultsOf 81 = .ok (.aload_n 0, 1) := by decide +kernel
theorem d_M_faultsOf_82 : decode b_M_faultsOf 82 = .ok (.aload_n 1, 1) := by decide +kernel
theorem d_M_faultsOf_83 : decode b_M_faultsOf 83 = .ok (.iload_n 3, 1) := by decide +kernel
theorem d_M_faultsOf_84 : decode b_M_faultsOf 84 = .ok (.invokevirtual 79, 3) := by decide +kernel
theorem d_M_faultsOf_87 : decode b_M_faultsOf 87 = .ok (.ifCond .eq 7, 3) := by decide +kernel
theorem d_M_faultsOf_90 : decode b_M_faultsOf 90 = .ok (.iload_n 2, 1) := by decide +kernel
theorem d_M_faultsOf_91 : decode b_M_faultsOf 91 = .ok (.goto 6, 3) := by decide +kernel
theorem d_M_faultsOf_94 : decode b_M_faultsOf 94 = .ok (.iload_n 2, 1) := by decide +kernel
theorem d_M_faultsOf_95 : decode b_M_faultsOf 95 = .ok (.iconst 1, 1) := by decide +kernel
theorem d_M_faultsOf_96 : decode b_M_faultsOf 96 = .ok (.iadd, 1) := by decide +kernel
theorem d_M_faultsOf_97 : decode b_M_faultsOf 97 = .ok (.istore_n 2, 1) := by decide +kernel
theorem d_M_faultsOf_98 : decode b_M_faultsOf 98 = .ok (.iinc 3 1, 3) := by decide +kernel
theorem d_M_faultsOf_101 : decode b_M_faultsOf 101 = .ok (.goto (-60), 3) := by decide +kernel
theorem d_M_faultsOf_104 : decode b_M_faultsOf 104 = .ok (.iload_n 2, 1) := by decide +kernel
theorem d_M_faultsOf_105 : decode b_M_faultsOf 105 = .ok (.ireturn, 1) := by decide +kernel
theorem d_M_cost_0 : decode b_M_cost 0 = .ok (.aload_n 0, 1) := by decide +kernel
theorem d_M_cost_1 : decode b_M_cost 1 = .ok (.aload_n 1, 1) := by decide +kernel
theorem d_M_cost_2 : decode b_M_cost 2 = .ok (.invokevirtual 83, 3) := by decide +kernel
theorem d_M_cost_5 : decode b_M_cost 5 = .ok (.i2l, 1) := by decide +kernel
theorem d_M_cost_6 : decode b_M_cost 6 = .ok (.ldc2_w 87, 3) := by decide +kernel
theorem d_M_cost_9 : decode b_M_cost 9 = .ok (.lmul, 1) := by decide +kernel
theorem d_M_cost_10 : decode b_M_cost 10 = .ok (.ldc2_w 89, 3) := by decide +kernel
theorem d_M_cost_13 : decode b_M_cost 13 = .ok (.aload_n 0, 1) := by decide +kernel
theorem d_M_cost_14 : decode b_M_cost 14 = .ok (.aload_n 1, 1) := by decide +kernel
theorem d_M_cost_15 : decode b_M_cost 15 = .ok (.invokevirtual 91, 3) := by decide +kernel
theorem d_M_cost_18 : decode b_M_cost 18 = .ok (.lmul, 1) := by decide +kernel
theorem d_M_cost_19 : decode b_M_cost 19 = .ok (.ladd, 1) := by decide +kernel
theorem d_M_cost_20 : decode b_M_cost 20 = .ok (.aload_n 0, 1) := by decide +kernel
theorem d_M_cost_21 : decode b_M_cost 21 = .ok (.aload_n 1, 1) := by decide +kernel
theorem d_M_cost_22 : decode b_M_cost 22 = .ok (.invokevirtual 95, 3) := by decide +kernel
theorem d_M_cost_25 : decode b_M_cost 25 = .ok (.i2l, 1) := by decide +kernel
theorem d_M_cost_26 : decode b_M_cost 26 = .ok (.ladd, 1) := by decide +kernel
theorem d_M_cost_27 : decode b_M_cost 27 = .ok (.lreturn, 1) := by decide +kernel
theorem d_M_tryMoves_0 : decode b_M_tryMoves 0 = .ok (.iconst 0, 1) := by decide +kernel
theorem d_M_tryMoves_1 : decode b_M_tryMoves 1 = .ok (.istore_n 3, 1) := by decide +kernel
theorem d_M_tryMoves_2 : decode b_M_tryMoves 2 = .ok (.iload_n 3, 1) := by decide +kernel
theorem d_M_tryMoves_3 : decode b_M_tryMoves 3 = .ok (.aload_n 0, 1) := by decide +kernel
theorem d_M_tryMoves_4 : decode b_M_tryMoves 4 = .ok (.getfield 36, 3) := by decide +kernel
theorem d_M_tryMoves_7 : decode b_M_tryMoves 7 = .ok (.if_icmp .ge 21, 3) := by decide +kernel
theorem d_M_tryMoves_10 : decode b_M_tryMoves 10 = .ok (.aload_n 0, 1) := by decide +kernel
theorem d_M_tryMoves_11 : decode b_M_tryMoves 11 = .ok (.getfield 27, 3) := by decide +kernel
theorem d_M_tryMoves_14 : decode b_M_tryMoves 14 = .ok (.iload_n 3, 1) := by decide +kernel
theorem d_M_tryMoves_15 : decode b_M_tryMoves 15 = .ok (.aload_n 0, 1) := by decide +kernel
theorem d_M_tryMoves_16 : decode b_M_tryMoves 16 = .ok (.getfield 13, 3) := by decide +kernel
theorem d_M_tryMoves_19 : decode b_M_tryMoves 19 = .ok (.iload_n 3, 1) := by decide +kernel
theorem d_M_tryMoves_20 : decode b_M_tryMoves 20 = .ok (.iaload, 1) := by decide +kernel
theorem d_M_tryMoves_21 : decode b_M_tryMoves 21 = .ok (.iastore, 1) := by decide +kernel
theorem d_M_tryMoves_22 : decode b_M_tryMoves 22 = .ok (.iinc 3 1, 3) := by decide +kernel
theorem d_M_tryMoves_25 : decode b_M_tryMoves 25 = .ok (.goto (-23), 3) := by decide +kernel
theorem d_M_tryMoves_28 : decode b_M_tryMoves 28 = .ok (.aload_n 0, 1) := by decide +kernel
theorem d_M_tryMoves_29 : decode b_M_tryMoves 29 = .ok (.aload_n 0, 1) := by decide +kernel
theorem d_M_tryMoves_30 : decode b_M_tryMoves 30 = .ok (.getfield 27, 3) := by decide +kernel
theorem d_M_tryMoves_33 : decode b_M_tryMoves 33 = .ok (.invokevirtual 100, 3) := by decide +kernel
theorem d_M_tryMoves_36 : decode b_M_tryMoves 36 = .ok (.lstore_n 3, 1) := by decide +kernel
theorem d_M_tryMoves_37 : decode b_M_tryMoves 37 = .ok (.lload_n 1, 1) := by decide +kernel
theorem d_M_tryMoves_38 : decode b_M_tryMoves 38 = .ok (.lstore 5, 2) := by decide +kernel
theorem d_M_tryMoves_40 : decode b_M_tryMoves 40 = .ok (.iconst 0, 1) := by decide +kernel
theorem d_M_tryMoves_41 : decode b_M_tryMoves 41 = .ok (.istore 7, 2) := by decide +kernel
theorem d_M_tryMoves_43 : decode b_M_tryMoves 43 = .ok (.iconst 0, 1) := by decide +kernel
theorem d_M_tryMoves_44 : decode b_M_tryMoves 44 = .ok (.istore 8, 2) := by decide +kernel
theorem d_M_tryMoves_46 : decode b_M_tryMoves 46 = .ok (.iload 7, 2) := by decide +kernel
theorem d_M_tryMoves_48 : decode b_M_tryMoves 48 = .ok (.aload_n 0, 1) := by decide +kernel
theorem d_M_tryMoves_49 : decode b_M_tryMoves 49 = .ok (.getfield 36, 3) := by decide +kernel
theorem d_M_tryMoves_52 : decode b_M_tryMoves 52 = .ok (.if_icmp .ge 150, 3) := by decide +kernel
theorem d_M_tryMoves_55 : decode b_M_tryMoves 55 = .ok (.lload 5, 2) := by decide +kernel
theorem d_M_tryMoves_57 : decode b_M_tryMoves 57 = .ok (.lconst 0, 1) := by decide +kernel
theorem d_M_tryMoves_58 : decode b_M_tryMoves 58 = .ok (.lcmp, 1) := by decide +kernel
theorem d_M_tryMoves_59 : decode b_M_tryMoves 59 = .ok (.ifCond .le 143, 3) := by decide +kernel
theorem d_M_tryMoves_62 : decode b_M_tryMoves 62 = .ok (.aload_n 0, 1) := by decide +kernel
theorem d_M_tryMoves_63 : decode b_M_tryMoves 63 = .ok (.getfield 27, 3) := by decide +kernel
theorem d_M_tryMoves_66 : decode b_M_tryMoves 66 = .ok (.iload 7, 2) := by decide +kernel
theorem d_M_tryMoves_68 : decode b_M_tryMoves 68 = .ok (.iaload, 1) := by decide +kernel
theorem d_M_tryMoves_69 : decode b_M_tryMoves 69 = .ok (.istore 9, 2) := by decide +kernel
theorem d_M_tryMoves_71 : decode b_M_tryMoves 71 = .ok (.iconst 0, 1) := by decide +kernel
theorem d_M_tryMoves_72 : decode b_M_tryMoves 72 = .ok (.istore 10, 2) := by decide +kernel
theorem d_M_tryMoves_74 : decode b_M_tryMoves 74 = .ok (.iload 8, 2) := by decide +kernel
theorem d_M_tryMoves_76 : decode b_M_tryMoves 76 = .ok (.iload 9, 2) := by decide +kernel
theorem d_M_tryMoves_78 : decode b_M_tryMoves 78 = .ok (.if_icmp .eq 73, 3) := by decide +kernel
theorem d_M_tryMoves_81 : decode b_M_tryMoves 81 = .ok (.lload 5, 2) := by decide +kernel
theorem d_M_tryMoves_83 : decode b_M_tryMoves 83 = .ok (.lconst 1, 1) := by decide +kernel
theorem d_M_tryMoves_84 : decode b_M_tryMoves 84 = .ok (.lsub, 1) := by decide +kernel
theorem d_M_tryMoves_85 : decode b_M_tryMoves 85 = .ok (.lstore 5, 2) := by decide +kernel
theorem d_M_tryMoves_87 : decode b_M_tryMoves 87 = .ok (.aload_n 0, 1) := by decide +kernel
theorem d_M_tryMoves_88 : decode b_M_tryMoves 88 = .ok (.getfield 27, 3) := by decide +kernel
theorem d_M_tryMoves_91 : decode b_M_tryMoves 91 = .ok (.iload 7, 2) := by decide +kernel
theorem d_M_tryMoves_93 : decode b_M_tryMoves 93 = .ok (.iload 8, 2) := by decide +kernel
theorem d_M_tryMoves_95 : decode b_M_tryMoves 95 = .ok (.iastore, 1) := by decide +kernel
theorem d_M_tryMoves_96 : decode b_M_tryMoves 96 = .ok (.aload_n 0, 1) := by decide +kernel
theorem d_M_tryMoves_97 : decode b_M_tryMoves 97 = .ok (.aload_n 0, 1) := by decide +kernel
theorem d_M_tryMoves_98 : decode b_M_tryMoves 98 = .ok (.getfield 27, 3) := by decide +kernel
theorem d_M_tryMoves_101 : decode b_M_tryMoves 101 = .ok (.invokevirtual 100, 3) := by decide +kernel
theorem d_M_tryMoves_104 : decode b_M_tryMoves 104 = .ok (.lstore 11, 2) := by decide +kernel
theorem d_M_tryMoves_106 : decode b_M_tryMoves 106 = .ok (.lload 11, 2) := by decide +kernel
theorem d_M_tryMoves_108 : decode b_M_tryMoves 108 = .ok (.lload_n 3, 1) := by decide +kernel
theorem d_M_tryMoves_109 : decode b_M_tryMoves 109 = .ok (.lcmp, 1) := by decide +kernel
theorem d_M_tryMoves_110 : decode b_M_tryMoves 110 = .ok (.ifCond .ge 7, 3) := by decide +kernel
theorem d_M_tryMoves_113 : decode b_M_tryMoves 113 = .ok (.iconst 1, 1) := by decide +kernel
theorem d_M_tryMoves_114 : decode b_M_tryMoves 114 = .ok (.goto 4, 3) := by decide +kernel
theorem d_M_tryMoves_117 : decode b_M_tryMoves 117 = .ok (.iconst 0, 1) := by decide +kernel
theorem d_M_tryMoves_118 : decode b_M_tryMoves 118 = .ok (.istore 10, 2) := by decide +kernel
theorem d_M_tryMoves_120 : decode b_M_tryMoves 120 = .ok (.iload 10, 2) := by decide +kernel
theorem d_M_tryMoves_122 : decode b_M_tryMoves 122 = .ok (.ifCond .eq 8, 3) := by decide +kernel
theorem d_M_tryMoves_125 : decode b_M_tryMoves 125 = .ok (.lload 11, 2) := by decide +kernel
theorem d_M_tryMoves_127 : decode b_M_tryMoves 127 = .ok (.goto 4, 3) := by decide +kernel
theorem d_M_tryMoves_130 : decode b_M_tryMoves 130 = .ok (.lload_n 3, 1) := by decide +kernel
theorem d_M_tryMoves_131 : decode b_M_tryMoves 131 = .ok (.lstore_n 3, 1) := by decide +kernel
theorem d_M_tryMoves_132 : decode b_M_tryMoves 132 = .ok (.aload_n 0, 1) := by decide +kernel
theorem d_M_tryMoves_133 : decode b_M_tryMoves 133 = .ok (.getfield 27, 3) := by decide +kernel
theorem d_M_tryMoves_136 : decode b_M_tryMoves 136 = .ok (.iload 7, 2) := by decide +kernel
theorem d_M_tryMoves_138 : decode b_M_tryMoves 138 = .ok (.iload 10, 2) := by decide +kernel
theorem d_M_tryMoves_140 : decode b_M_tryMoves 140 = .ok (.ifCond .eq 8, 3) := by decide +kernel
theorem d_M_tryMoves_143 : decode b_M_tryMoves 143 = .ok (.iload 8, 2) := by decide +kernel
theorem d_M_tryMoves_145 : decode b_M_tryMoves 145 = .ok (.goto 5, 3) := by decide +kernel
theorem d_M_tryMoves_148 : decode b_M_tryMoves 148 = .ok (.iload 9, 2) := by decide +kernel
theorem d_M_tryMoves_150 : decode b_M_tryMoves 150 = .ok (.iastore, 1) := by decide +kernel
theorem d_M_tryMoves_151 : decode b_M_tryMoves 151 = .ok (.iinc 8 1, 3) := by decide +kernel
theorem d_M_tryMoves_154 : decode b_M_tryMoves 154 = .ok (.iload 10, 2) := by decide +kernel
theorem d_M_tryMoves_156 : decode b_M_tryMoves 156 = .ok (.ifCond .eq 7, 3) := by decide +kernel
theorem d_M_tryMoves_159 : decode b_M_tryMoves 159 = .ok (.iconst 0, 1) := by decide +kernel
theorem d_M_tryMoves_160 : decode b_M_tryMoves 160 = .ok (.goto 18, 3) := by decide +kernel
theorem d_M_tryMoves_163 : decode b_M_tryMoves 163 = .ok (.iload 8, 2) := by decide +kernel
theorem d_M_tryMoves_165 : decode b_M_tryMoves 165 = .ok (.iconst 4, 1) := by decide +kernel
theorem d_M_tryMoves_166 : decode b_M_tryMoves 166 = .ok (.if_icmp .ne 10, 3) := by decide +kernel
theorem d_M_tryMoves_169 : decode b_M_tryMoves 169 = .ok (.iload 7, 2) := by decide +kernel
theorem d_M_tryMoves_171 : decode b_M_tryMoves 171 = .ok (.iconst 1, 1) := by decide +kernel
theorem d_M_tryMoves_172 : decode b_M_tryMoves 172 = .ok (.iadd, 1) := by decide +kernel
theorem d_M_tryMoves_173 : decode b_M_tryMoves 173 = .ok (.goto 5, 3) := by decide +kernel
theorem d_M_tryMoves_176 : decode b_M_tryMoves 176 = .ok (.iload 7, 2) := by decide +kernel
theorem d_M_tryMoves_178 : decode b_M_tryMoves 178 = .ok (.istore 7, 2) := by decide +kernel
theorem d_M_tryMoves_180 : decode b_M_tryMoves 180 = .ok (.iload 10, 2) := by decide +kernel
theorem d_M_tryMoves_182 : decode b_M_tryMoves 182 = .ok (.ifCond .ne 9, 3) := by decide +kernel
theorem d_M_tryMoves_185 : decode b_M_tryMoves 185 = .ok (.iload 8, 2) := by decide +kernel
theorem d_M_tryMoves_187 : decode b_M_tryMoves 187 = .ok (.iconst 4, 1) := by decide +kernel
theorem d_M_tryMoves_188 : decode b_M_tryMoves 188 = .ok (.if_icmp .ne 7, 3) := by decide +kernel
theorem d_M_tryMoves_191 : decode b_M_tryMoves 191 = .ok (.iconst 0, 1) := by decide +kernel
theorem d_M_tryMoves_192 : decode b_M_tryMoves 192 = .ok (.goto 5, 3) := by decide +kernel
theorem d_M_tryMoves_195 : decode b_M_tryMoves 195 = .ok (.iload 8, 2) := by decide +kernel
theorem d_M_tryMoves_197 : decode b_M_tryMoves 197 = .ok (.istore 8, 2) := by decide +kernel
theorem d_M_tryMoves_199 : decode b_M_tryMoves 199 = .ok (.goto (-153), 3) := by decide +kernel
theorem d_M_tryMoves_202 : decode b_M_tryMoves 202 = .ok (.return_, 1) := by decide +kernel

noncomputable def bz_g1 (t : bz_T) (f : Nat → Nat) (r : Nat) : Nat := if bz_h t r = 0 then 0 else bz_b (bz_h t r < bz_ld t (bz_fu f) r)
noncomputable def bz_gr (t : bz_T) (f : Nat → Nat) (r : Nat) : Nat := bz_g1 t f r + bz_b (¬ bz_ht t (bz_fu f) r)
def bz_zc (t : bz_T) (f : Nat → Nat) (a : Nat) : Bool := decide (bz_h t (f a) = 0)
theorem bz_sm_add (f g : Nat → Nat) : ∀ n, bz_sm (fun i => f i + g i) n = bz_sm f n + bz_sm g n
  | 0 => rfl
  | n + 1 => by
    show bz_sm (fun i => f i + g i) n + (f n + g n) = bz_sm f n + f n + (bz_sm g n + g n)
    rw [bz_sm_add f g n]
    omega
theorem bz_zc_eq {t : bz_T} {f : Nat → Nat} : ∀ {k : Nat}, k ≤ bz_n t → (∀ a, a < bz_n t → f a < 4) → bz_ct (bz_zc t f) k = bz_sm (fun r => if bz_h t r = 0 then bz_ct (bz_in t (bz_fu f) r) k else 0) 4
  | 0, _, _ => by
    have e : ∀ r, (if bz_h t r = 0 then bz_ct (bz_in t (bz_fu f) r) 0 else 0) = 0 := fun r => by split <;> rfl
    rw [bz_sm_ext (n := 4) (g := fun _ => 0) (fun r _ => e r)]
    rfl
  | k + 1, hk, hf => by
    have ih := bz_zc_eq (t := t) (f := f) (k := k) (by omega) hf
    have hs : ∀ r, (if bz_h t r = 0 then bz_ct (bz_in t (bz_fu f) r) (k + 1) else 0) = (if bz_h t r = 0 then bz_ct (bz_in t (bz_fu f) r) k else 0) + (if bz_h t r = 0 ∧ f k = r then 1 else 0) := by
      intro r
      by_cases h0 : bz_h t r = 0
      · rw [if_pos h0, if_pos h0]
        by_cases h1 : f k = r
        · rw [if_pos ⟨h0, h1⟩, bz_ct_1 (by rw [bz_inf (by omega)]; exact decide_eq_true h1)]
        · rw [if_neg (fun z => h1 z.2), bz_ct_0 (by rw [bz_inf (by omega)]; exact decide_eq_false h1)]
          rfl
      · rw [if_neg h0, if_neg h0, if_neg (fun z => h0 z.1)]
    have hsum : bz_sm (fun r => if bz_h t r = 0 then bz_ct (bz_in t (bz_fu f) r) (k + 1) else 0) 4 = bz_sm (fun r => if bz_h t r = 0 then bz_ct (bz_in t (bz_fu f) r) k else 0) 4 + bz_sm (fun r => if bz_h t r = 0 ∧ f k = r then 1 else 0) 4 := by
      rw [← bz_sm_add]
      exact bz_sm_ext fun r _ => hs r
    have hone : bz_sm (fun r => if bz_h t r = 0 ∧ f k = r then 1 else 0) 4 = if bz_h t (f k) = 0 then 1 else 0 := by
      have h4 := hf k (by omega)
      show 0 + (if bz_h t 0 = 0 ∧ f k = 0 then 1 else 0) + (if bz_h t 1 = 0 ∧ f k = 1 then 1 else 0) + (if bz_h t 2 = 0 ∧ f k = 2 then 1 else 0) + (if bz_h t 3 = 0 ∧ f k = 3 then 1 else 0) = _
      rcases (show f k = 0 ∨ f k = 1 ∨ f k = 2 ∨ f k = 3 by omega) with e | e | e | e
      all_goals (rw [e]; simp)
    rw [hsum, hone, ← ih]
    by_cases h0 : bz_h t (f k) = 0
    · rw [if_pos h0, bz_ct_1 (by unfold bz_zc; exact decide_eq_true h0)]
    · rw [if_neg h0, bz_ct_0 (by unfold bz_zc; exact decide_eq_false h0)]
      rfl
theorem bz_ft_eq {t : bz_T} {f : Nat → Nat} (hf : ∀ a, a < bz_n t → f a < 4) : bz_ct (bz_zc t f) (bz_n t) + bz_sm (bz_gr t f) 4 = bz_ft t (bz_fu f) := by
  rw [bz_zc_eq (Nat.le_refl _) hf, ← bz_sm_add]
  refine bz_sm_ext fun r _ => ?_
  show (if bz_h t r = 0 then bz_ct (bz_in t (bz_fu f) r) (bz_n t) else 0) + (bz_g1 t f r + bz_b (¬ bz_ht t (bz_fu f) r)) = bz_fr t (bz_fu f) r
  by_cases h0 : bz_h t r = 0
  · rw [if_pos h0, bz_fr_h0 h0, show bz_g1 t f r = 0 by unfold bz_g1; rw [if_pos h0]]
    omega
  · rw [if_neg h0, bz_fr_h1 h0, show bz_g1 t f r = bz_b (bz_h t r < bz_ld t (bz_fu f) r) by unfold bz_g1; rw [if_neg h0]]
    omega
theorem bz_g1_0 {t : bz_T} {f : Nat → Nat} {r : Nat} (h : bz_h t r ≤ 0 ∨ bz_ld t (bz_fu f) r ≤ bz_h t r) : bz_g1 t f r = 0 := by
  unfold bz_g1
  by_cases h0 : bz_h t r = 0
  · rw [if_pos h0]
  · rw [if_neg h0, bz_b0 (by omega)]
theorem bz_g1_1 {t : bz_T} {f : Nat → Nat} {r : Nat} (h : 0 < bz_h t r) (h2 : bz_h t r < bz_ld t (bz_fu f) r) : bz_g1 t f r = 1 := by
  unfold bz_g1
  rw [if_neg (by omega), bz_b1 h2]
theorem bz_cost_m {t : bz_T} (s : bz_S) : lN (bz_ft t s) * (1000000000000 : Int64) + 100 * lN (bz_gl t s) + lN (bz_ch t s) = lN (bz_co t s) := by
  rw [show (1000000000000 : Int64) = lN 1000000000000 from rfl, show (100 : Int64) = lN 100 from rfl, lN_mul, lN_mul, lN_add, lN_add, Nat.mul_comm (bz_ft t s)]
  rfl
def bz_cp (f x : Nat → Nat) (i a : Nat) : Nat := if a < i then f a else x a
theorem bz_cp_0 (f x : Nat → Nat) : bz_cp f x 0 = x := funext fun a => if_neg (by omega)
theorem bz_cp_1 (f x : Nat → Nat) (i : Nat) : (fun a => nI (bz_cp f x (i + 1) a)) = upd (fun a => nI (bz_cp f x i a)) i (nI (f i)) := funext fun a => by
  show nI (if a < i + 1 then f a else x a) = if a = i then nI (f i) else nI (if a < i then f a else x a)
  by_cases e : a = i
  · subst e
    rw [if_pos rfl, if_pos (by omega)]
  · rw [if_neg e]
    by_cases h : a < i
    · rw [if_pos h, if_pos (by omega)]
    · rw [if_neg h, if_neg (by omega)]
theorem bz_cp_lo {f x : Nat → Nat} {i a : Nat} (h : a < i) : bz_cp f x i a = f a := if_pos h
def bz_mr (r x : Nat) : Nat := if r ≤ x then r else r - 1
theorem bz_mr_lt {r x : Nat} (hr : r < 4) (hx : x < 4) (h : r ≠ x) : bz_mr r x < 3 := by
  unfold bz_mr
  split <;> omega
theorem bz_mr_ot {r x : Nat} (h : r ≠ x) : bz_ot x (bz_mr r x) = r := by
  unfold bz_ot bz_mr
  split <;> split <;> omega
theorem bz_mr_s {r x : Nat} (h : r ≠ x) : bz_mr (r + 1) x = bz_mr r x + 1 := by
  unfold bz_mr
  split <;> split <;> omega
theorem bz_mr_e (x : Nat) : bz_mr (x + 1) x = bz_mr x x := by
  unfold bz_mr
  split <;> split <;> omega
theorem bz_mr_0 (x : Nat) : bz_mr 0 x = 0 := by
  unfold bz_mr
  split <;> omega
theorem bz_mr_4 {x : Nat} (h : x < 4) : bz_mr 4 x = 3 := by
  unfold bz_mr
  split <;> omega
theorem bz_mr_do {t : bz_T} {lf a r : Nat} {g : Nat → Nat} (hlf : 0 < lf) (ha : a < bz_n t) (hr : r < 4) (hx : g a < 4) (h : r ≠ g a) (hc : bz_co t (bz_fu (va_up g a r)) < bz_co t (bz_fu g)) : bz_mv t lf (3 * a + bz_mr r (g a)) g = bz_mv t (lf - 1) 0 (va_up g a r) := by
  have h3 := bz_mr_lt hr hx h
  have e1 : (3 * a + bz_mr r (g a)) / 3 = a := by omega
  have e2 : (3 * a + bz_mr r (g a)) % 3 = bz_mr r (g a) := by omega
  obtain ⟨k, rfl⟩ : ∃ k, lf = k + 1 := ⟨lf - 1, by omega⟩
  rw [bz_mv_do (by omega) (by rw [e1, e2, bz_mr_ot h]; exact hc), e1, e2, bz_mr_ot h]
  rfl
theorem bz_mr_no {t : bz_T} {lf a r : Nat} {g : Nat → Nat} (hlf : 0 < lf) (ha : a < bz_n t) (hr : r < 4) (hx : g a < 4) (h : r ≠ g a) (hc : ¬ bz_co t (bz_fu (va_up g a r)) < bz_co t (bz_fu g)) : bz_mv t lf (3 * a + bz_mr r (g a)) g = bz_mv t (lf - 1) (3 * a + bz_mr (r + 1) (g a)) g := by
  have h3 := bz_mr_lt hr hx h
  have e1 : (3 * a + bz_mr r (g a)) / 3 = a := by omega
  have e2 : (3 * a + bz_mr r (g a)) % 3 = bz_mr r (g a) := by omega
  obtain ⟨k, rfl⟩ : ∃ k, lf = k + 1 := ⟨lf - 1, by omega⟩
  rw [bz_mv_no (by omega) (by rw [e1, e2, bz_mr_ot h]; exact hc), bz_mr_s h]
  rfl
theorem bz_up_same (g : Nat → Nat) (a r : Nat) : va_up (va_up g a r) a r = va_up g a r := bx_uu _ _ _ _

set_option maxHeartbeats 4000000 in
set_option maxRecDepth 100000 in
/-- faultsOf share -/
theorem c_M_faultsOf_share (l : Launch) (dC : Nat → ClassId) (dI : Nat → Nat → Nat) (sz : Nat) (am : Nat → Nat) (cI cL cZ : ClassId) (t : bz_T) (th sv ex : Int32) (f : Nat → Nat) (S2 S3 : Nat → Int32) (ht : bz_ok t) (hf : ∀ a, a < bz_n t → f a < 4) : Met l y_M_faultsOf w_M_faultsOf ({ frames := 2, cells := 0, slots := 0, locals := 49 }) (bz_Pw (dC, dI) [(cI, .int), (cL, .long), (cZ, .boolean)] (bz_wM am cI cL cZ (bz_tM t) (th, sv, ex) ((fun a => nI (f a)), S2, S3)) sz [.ref (am 0), .ref (am 6)]) (bz_Qxi (dC, dI) [(cI, .int), (cL, .long), (cZ, .boolean)] (va_A (bz_wM am cI cL cZ (bz_tM t) (th, sv, ex) ((fun a => nI (f a)), S2, S3)) sz) (fun r9 (u : Nat → Int32) => r9 = nI (bz_ft t (bz_fu f))) (fun u : Nat → Int32 => bz_wM am cI cL cZ (bz_tM t) (th, sv, ex) ((fun a => nI (f a)), S2, u))) 0 0 (va_A (bz_wM am cI cL cZ (bz_tM t) (th, sv, ex) ((fun a => nI (f a)), S2, S3)) sz) := by
  refine Met.ofW (cc := b_M_faultsOf) (maxL := 4) (ret := (some .int)) (by decide) rfl ?_
  intro p e s m args below meth c s₁ B hml hv
  obtain ⟨rfl, hsz, hP, hK, hD0, hN⟩ := hv
  have hx := B.exec
  have hb := B.bytes
  have hr := B.returns
  have hts := atoms_spec (ws := w_M_faultsOf) B.pre
  have hown : s.vm.findClass R_M = some m.cls := findClass_of_methodNamed B.named
  have htb : ∀ w ∈ bz_tb, w.before _ s = true := fun w h => hts w (List.mem_cons_of_mem _ h)
  have hlocks := B.notSynchronized
  subst hsz
  have hD := hD0.self (sz := s.heap.size)
  generalize hAe : va_A (bz_wM am cI cL cZ (bz_tM t) (th, sv, ex) ((fun a => nI (f a)), S2, S3)) s.heap.size = A at hD ⊢
  have hA : ∀ q : Nat, s.heap.size ≤ q → A q := fun q h => by rw [← hAe]; exact Or.inr h
  have hS : va_S A s.heap s.heap [] := va_S.rf
  have hl := lv_entry ([.ref (am 0), .ref (am 6)]) (n := 4) (Nat.le_of_ble_eq_true rfl)
  rw [lg_entry_eq]
  generalize (lg_sl ([.ref (am 0), .ref (am 6)]) ++ List.replicate (4 - (lg_sl ([.ref (am 0), .ref (am 6)])).length) Slot.unset).toArray = ls at hl ⊢
  have hl : lv_has ls 4 [(0, .ref (am 0)), (1, .ref (am 6))] := hl
  have hn30 := ht.1
  refine lv_iconst (v := nI 0) hx hb d_M_faultsOf_0 (by decide) ?_
  refine lv_istore_n (lv' := [(2, .int (nI 0)), (0, .ref (am 0)), (1, .ref (am 6))]) hx hb d_M_faultsOf_1 rfl hl (by decide) rfl (fun ls hl => ?_)
  refine lv_iconst (v := nI 0) hx hb d_M_faultsOf_2 (by decide) ?_
  refine lv_istore_n (lv' := [(3, .int (nI 0)), (2, .int (nI 0)), (0, .ref (am 0)), (1, .ref (am 6))]) hx hb d_M_faultsOf_3 rfl hl (by decide) rfl (fun ls hl => ?_)
  have lpa : ∀ (k9 : Nat) (i : Nat), bz_n t - i < k9 → (i ≤ bz_n t) → ∀ (H : Heap) (locs : List Loc), va_P (dC, dI) vwCl (bz_wM am cI cL cZ (bz_tM t) (th, sv, ex) ((fun a => nI (f a)), S2, S3)) H → va_D A (bz_wM am cI cL cZ (bz_tM t) (th, sv, ex) ((fun a => nI (f a)), S2, S3)) → va_S A s.heap H locs → ∀ (ls : Array Slot), lv_has ls 4 [(0, .ref (am 0)), (1, .ref (am 6)), (2, .int (nI (bz_ct (bz_zc t f) i))), (3, .int (nI i))] → W p l e (headSpec w_M_faultsOf ({ frames := 2, cells := 0, slots := 0, locals := 49 })).room s m ([.ref (am 0), .ref (am 6)]).toArray below meth c H locs 0 0 (MQ below (bz_Qxi (dC, dI) [(cI, .int), (cL, .long), (cZ, .boolean)] A (fun r9 (u : Nat → Int32) => r9 = nI (bz_ft t (bz_fu f))) (fun u : Nat → Int32 => bz_wM am cI cL cZ (bz_tM t) (th, sv, ex) ((fun a => nI (f a)), S2, u))) ([.ref (am 0), .ref (am 6)]).toArray s 0 0 (A)) (F0 m 4 ls []) := by
    intro k9
    induction k9 with
    | zero =>
      intro i h9
      exact absurd h9 (Nat.not_lt_zero _)
    | succ k9 ihlpa =>
      intro i h9_lpa hi H locs hP hD hS ls hl
      refine lv_iload_n hx hb d_M_faultsOf_4 rfl (lv_at hl 3 rfl) ?_
      refine lv_aload_n hx hb d_M_faultsOf_5 rfl (lv_at hl 0 rfl) ?_
      refine va_get (D := (dC, dI)) (ci := 4) (v := .int (nI (bz_n t))) (C := R_M) (T := F_M) (N := 12) hx hb htb in_M hown hK hP 0 rfl rfl 1 (by decide) (htb _ wd_411) (fun _ h9 => h9) rfl d_M_faultsOf_6 ?_
      refine lv_icmp_ge (tgt := 39) hx hb d_M_faultsOf_9 (by decide) (fun c_9 => ?_) (fun c_9 => ?_)
      · skip
        have hin : i = bz_n t := by have := (nI_leI (by omega) (by omega)).mp c_9; omega
        have hl : lv_has ls 4 [(0, .ref (am 0)), (1, .ref (am 6)), (2, .int (nI (bz_ct (bz_zc t f) (bz_n t) + bz_sm (bz_gr t f) 0))), (3, .int (nI i))] := by rw [show nI (bz_ct (bz_zc t f) (bz_n t) + bz_sm (bz_gr t f) 0) = nI (bz_ct (bz_zc t f) i) from by rw [hin]; rfl]; exact hl
        refine lv_iconst (v := nI 0) hx hb d_M_faultsOf_39 (by decide) ?_
        refine lv_istore_n (lv' := [(3, .int (nI 0)), (0, .ref (am 0)), (1, .ref (am 6)), (2, .int (nI (bz_ct (bz_zc t f) (bz_n t) + bz_sm (bz_gr t f) 0)))]) hx hb d_M_faultsOf_40 rfl hl (by decide) rfl (fun ls hl => ?_)
        have lpb : ∀ (k9 : Nat) (i : Nat) (u : Nat → Int32), 4 - i < k9 → (i ≤ 4) → ∀ (H : Heap) (locs : List Loc), va_P (dC, dI) vwCl (bz_wM am cI cL cZ (bz_tM t) (th, sv, ex) ((fun a => nI (f a)), S2, u)) H → va_D A (bz_wM am cI cL cZ (bz_tM t) (th, sv, ex) ((fun a => nI (f a)), S2, u)) → va_S A s.heap H locs → ∀ (ls : Array Slot), lv_has ls 4 [(0, .ref (am 0)), (1, .ref (am 6)), (2, .int (nI (bz_ct (bz_zc t f) (bz_n t) + bz_sm (bz_gr t f) i))), (3, .int (nI i))] → W p l e (headSpec w_M_faultsOf ({ frames := 2, cells := 0, slots := 0, locals := 49 })).room s m ([.ref (am 0), .ref (am 6)]).toArray below meth c H locs 0 0 (MQ below (bz_Qxi (dC, dI) [(cI, .int), (cL, .long), (cZ, .boolean)] A (fun r9 (u : Nat → Int32) => r9 = nI (bz_ft t (bz_fu f))) (fun u : Nat → Int32 => bz_wM am cI cL cZ (bz_tM t) (th, sv, ex) ((fun a => nI (f a)), S2, u))) ([.ref (am 0), .ref (am 6)]).toArray s 0 0 (A)) (F0 m 41 ls []) := by
          intro k9
          induction k9 with
          | zero =>
            intro i u h9
            exact absurd h9 (Nat.not_lt_zero _)
          | succ k9 ihlpb =>
            intro i u h9_lpb hi H locs hP hD hS ls hl
            refine lv_iload_n hx hb d_M_faultsOf_41 rfl (lv_at hl 3 rfl) ?_
            refine lv_iconst (v := 4) hx hb d_M_faultsOf_42 (by decide) ?_
            refine lv_icmp_ge (tgt := 104) hx hb d_M_faultsOf_43 (by decide) (fun c_43 => ?_) (fun c_43 => ?_)
            · skip
              have hi4 : i = 4 := by have := (nI_leI (a := 4) (by omega) (by omega)).mp c_43; omega
              refine lv_iload_n hx hb d_M_faultsOf_104 rfl (lv_at hl 2 rfl) ?_
              exact W.iret (v := nI (bz_ct (bz_zc t f) (bz_n t) + bz_sm (bz_gr t f) i)) hx hb hr (fun t9 ht9 hW => ⟨⟨_, u, rfl, by rw [hi4, bz_ft_eq hf], by rw [ht9]; exact hP, va_K.moved hW.alike hK, hD⟩, hS.F ht9⟩) hS.2.2 d_M_faultsOf_105
            · skip
              have hi4 : i < 4 := Nat.lt_of_not_le fun z => c_43 ((nI_leI (a := 4) (b := i) (by omega) (by omega)).mpr z)
              have hhi := ht.2.2.2.2.2.2 i
              have hld := bz_ld_le ht (bz_fu f) i
              refine lv_aload_n hx hb d_M_faultsOf_46 rfl (lv_at hl 0 rfl) ?_
              refine va_get (D := (dC, dI)) (ci := 4) (v := .ref (am 5)) (C := R_M) (T := F_M) (N := 12) hx hb htb in_M hown hK hP 0 rfl rfl 6 (by decide) (htb _ wd_416) (fun _ h9 => h9) rfl d_M_faultsOf_47 ?_
              refine lv_iload_n hx hb d_M_faultsOf_50 rfl (lv_at hl 3 rfl) ?_
              refine bz_lald (v := lN (bz_h t i)) hx hb hK hP 5 1 rfl rfl (a9 := i) (by omega) (by decide) (rfl) d_M_faultsOf_51 ?_
              refine lv_lconst (v := 0) hx hb d_M_faultsOf_52 (by decide) ?_
              refine W.lcmp hx hb d_M_faultsOf_53 ?_
              refine lv_if_le (tgt := 79) hx hb d_M_faultsOf_54 (by decide) (fun c_54 => ?_) (fun c_54 => ?_)
              · skip
                have hg1 := bz_g1_0 (f := f) (Or.inl ((bz_lc_le (b := 0) (by omega) (by omega)).mp c_54))
                refine lv_iload_n hx hb d_M_faultsOf_79 rfl (lv_at hl 2 rfl) ?_
                refine bz_ri (y := nI (bz_ct (bz_zc t f) (bz_n t) + bz_sm (bz_gr t f) i + bz_g1 t f i)) (by rw [hg1]; rfl) ?_
                refine lv_istore_n (lv' := [(2, .int (nI (bz_ct (bz_zc t f) (bz_n t) + bz_sm (bz_gr t f) i + bz_g1 t f i))), (0, .ref (am 0)), (1, .ref (am 6)), (3, .int (nI i))]) hx hb d_M_faultsOf_80 rfl hl (by decide) rfl (fun ls hl => ?_)
                refine lv_aload_n hx hb d_M_faultsOf_81 rfl (lv_at hl 1 rfl) ?_
                refine lv_aload_n hx hb d_M_faultsOf_82 rfl (lv_at hl 2 rfl) ?_
                refine lv_iload_n hx hb d_M_faultsOf_83 rfl (lv_at hl 3 rfl) ?_
                refine bz_cxi (va_runV (As := [.ref (am 6), .int (nI i)]) (rest := []) ⟨hx, hb, hml, hown, htb⟩ (c_M_hangs_share l dC dI _ am cI cL cZ t th sv ex f S2 u ht _ (by omega) hf) (cwV 2 htb (bz_gV wd_514 wd_511 wd_513 wd_12 wd_23) rfl rfl rfl (by decide +kernel) ⟨Nat.le_of_ble_eq_true rfl, Nat.le_of_ble_eq_true rfl⟩) (bz_wv hN hK hP hD (q0 := 0) rfl rfl) rfl rfl hl.1 rfl (lv_room (Nat.le_of_ble_eq_true rfl)) d_M_faultsOf_84 ⟨Nat.zero_le _, Nat.zero_le _⟩) hD hS hA (fun r9 u hu H locs hP hD hS => ?_)
                obtain rfl : r9 = nI (bz_b (bz_ht t (bz_fu f) i)) := hu
                have hP : va_P (dC, dI) vwCl (bz_wM am cI cL cZ (bz_tM t) (th, sv, ex) ((fun a => nI (f a)), S2, u)) H := hP
                have hD : va_D A (bz_wM am cI cL cZ (bz_tM t) (th, sv, ex) ((fun a => nI (f a)), S2, u)) := hD
                refine lv_if_eq (tgt := 94) hx hb d_M_faultsOf_87 (by decide) (fun c_87 => ?_) (fun c_87 => ?_)
                · skip
                  have hh5 := bz_bI0 c_87
                  refine lv_iload_n hx hb d_M_faultsOf_94 rfl (lv_at hl 0 rfl) ?_
                  refine lv_iconst (v := 1) hx hb d_M_faultsOf_95 (by decide) ?_
                  refine lv_iadd hx hb d_M_faultsOf_96 ?_
                  refine bz_ri (y := nI (bz_ct (bz_zc t f) (bz_n t) + bz_sm (bz_gr t f) (i + 1))) (by show _ = nI (_ + (bz_sm (bz_gr t f) i + (bz_g1 t f i + bz_b (¬ bz_ht t (bz_fu f) i)))); rw [bz_b1 hh5, show (1 : Int32) = nI 1 from rfl, nI_add]; congr 1; omega) ?_
                  refine lv_istore_n (lv' := [(2, .int (nI (bz_ct (bz_zc t f) (bz_n t) + bz_sm (bz_gr t f) (i + 1)))), (0, .ref (am 0)), (1, .ref (am 6)), (3, .int (nI i))]) hx hb d_M_faultsOf_97 rfl hl (by decide) rfl (fun ls hl => ?_)
                  refine lv_iinc (v := nI (i + 1)) (lv' := [(3, .int (nI (i + 1))), (2, .int (nI (bz_ct (bz_zc t f) (bz_n t) + bz_sm (bz_gr t f) (i + 1)))), (0, .ref (am 0)), (1, .ref (am 6))]) hx hb d_M_faultsOf_98 hl (k := 3) rfl (nI_1 _) (by decide) rfl (fun ls hl => ?_)
                  refine lv_goto (tgt := 41) hx hb d_M_faultsOf_101 (by decide) ?_
                  exact ihlpb (i + 1) u (by omega) (by omega) _ _ hP hD hS ls (lv_sub hl [2, 3, 1, 0] rfl)
                · skip
                  have hh5 := bz_bI1 c_87
                  refine lv_iload_n hx hb d_M_faultsOf_90 rfl (lv_at hl 0 rfl) ?_
                  refine bz_ri (y := nI (bz_ct (bz_zc t f) (bz_n t) + bz_sm (bz_gr t f) (i + 1))) (by show _ = nI (_ + (bz_sm (bz_gr t f) i + (bz_g1 t f i + bz_b (¬ bz_ht t (bz_fu f) i)))); rw [bz_b0 (fun z => z hh5)]; congr 1; omega) ?_
                  refine lv_goto (tgt := 97) hx hb d_M_faultsOf_91 (by decide) ?_
                  refine lv_istore_n (lv' := [(2, .int (nI (bz_ct (bz_zc t f) (bz_n t) + bz_sm (bz_gr t f) (i + 1)))), (0, .ref (am 0)), (1, .ref (am 6)), (3, .int (nI i))]) hx hb d_M_faultsOf_97 rfl hl (by decide) rfl (fun ls hl => ?_)
                  refine lv_iinc (v := nI (i + 1)) (lv' := [(3, .int (nI (i + 1))), (2, .int (nI (bz_ct (bz_zc t f) (bz_n t) + bz_sm (bz_gr t f) (i + 1)))), (0, .ref (am 0)), (1, .ref (am 6))]) hx hb d_M_faultsOf_98 hl (k := 3) rfl (nI_1 _) (by decide) rfl (fun ls hl => ?_)
                  refine lv_goto (tgt := 41) hx hb d_M_faultsOf_101 (by decide) ?_
                  exact ihlpb (i + 1) u (by omega) (by omega) _ _ hP hD hS ls (lv_sub hl [2, 3, 1, 0] rfl)
              · skip
                have hh0 : 0 < bz_h t i := Nat.lt_of_not_le fun z => c_54 ((bz_lc_le (b := 0) (by omega) (by omega)).mpr z)
                refine lv_aload_n hx hb d_M_faultsOf_57 rfl (lv_at hl 0 rfl) ?_
                refine lv_aload_n hx hb d_M_faultsOf_58 rfl (lv_at hl 1 rfl) ?_
                refine lv_iload_n hx hb d_M_faultsOf_59 rfl (lv_at hl 3 rfl) ?_
                refine bz_sl (va_runV (As := [.ref (am 6), .int (nI i)]) (rest := []) ⟨hx, hb, hml, hown, htb⟩ (c_M_roundLoad_share l dC dI am cI cL cZ t th sv ex f S2 u ht _ (by omega) hf) (cwV 2 htb (bz_gV wd_504 wd_501 wd_503 wd_10 wd_23) rfl rfl rfl (by decide +kernel) ⟨Nat.le_of_ble_eq_true rfl, Nat.le_of_ble_eq_true rfl⟩) (bz_rv hN hK hP (q0 := 0) rfl rfl) rfl rfl hl.1 rfl (lv_room (Nat.le_of_ble_eq_true rfl)) d_M_faultsOf_60 ⟨Nat.zero_le _, Nat.zero_le _⟩) ?_
                refine lv_aload_n hx hb d_M_faultsOf_63 rfl (lv_at hl 0 rfl) ?_
                refine va_get (D := (dC, dI)) (ci := 4) (v := .ref (am 5)) (C := R_M) (T := F_M) (N := 12) hx hb htb in_M hown hK hP 0 rfl rfl 6 (by decide) (htb _ wd_416) (fun _ h9 => h9) rfl d_M_faultsOf_64 ?_
                refine lv_iload_n hx hb d_M_faultsOf_67 rfl (lv_at hl 3 rfl) ?_
                refine bz_lald (v := lN (bz_h t i)) hx hb hK hP 5 1 rfl rfl (a9 := i) (by omega) (by decide) (rfl) d_M_faultsOf_68 ?_
                refine W.lcmp hx hb d_M_faultsOf_69 ?_
                refine lv_if_le (tgt := 79) hx hb d_M_faultsOf_70 (by decide) (fun c_70 => ?_) (fun c_70 => ?_)
                · skip
                  have hg1 := bz_g1_0 (f := f) (Or.inr ((bz_lc_le (by omega) (by omega)).mp c_70))
                  refine lv_iload_n hx hb d_M_faultsOf_79 rfl (lv_at hl 2 rfl) ?_
                  refine bz_ri (y := nI (bz_ct (bz_zc t f) (bz_n t) + bz_sm (bz_gr t f) i + bz_g1 t f i)) (by rw [hg1]; rfl) ?_
                  refine lv_istore_n (lv' := [(2, .int (nI (bz_ct (bz_zc t f) (bz_n t) + bz_sm (bz_gr t f) i + bz_g1 t f i))), (0, .ref (am 0)), (1, .ref (am 6)), (3, .int (nI i))]) hx hb d_M_faultsOf_80 rfl hl (by decide) rfl (fun ls hl => ?_)
                  refine lv_aload_n hx hb d_M_faultsOf_81 rfl (lv_at hl 1 rfl) ?_
                  refine lv_aload_n hx hb d_M_faultsOf_82 rfl (lv_at hl 2 rfl) ?_
                  refine lv_iload_n hx hb d_M_faultsOf_83 rfl (lv_at hl 3 rfl) ?_
                  refine bz_cxi (va_runV (As := [.ref (am 6), .int (nI i)]) (rest := []) ⟨hx, hb, hml, hown, htb⟩ (c_M_hangs_share l dC dI _ am cI cL cZ t th sv ex f S2 u ht _ (by omega) hf) (cwV 2 htb (bz_gV wd_514 wd_511 wd_513 wd_12 wd_23) rfl rfl rfl (by decide +kernel) ⟨Nat.le_of_ble_eq_true rfl, Nat.le_of_ble_eq_true rfl⟩) (bz_wv hN hK hP hD (q0 := 0) rfl rfl) rfl rfl hl.1 rfl (lv_room (Nat.le_of_ble_eq_true rfl)) d_M_faultsOf_84 ⟨Nat.zero_le _, Nat.zero_le _⟩) hD hS hA (fun r9 u hu H locs hP hD hS => ?_)
                  obtain rfl : r9 = nI (bz_b (bz_ht t (bz_fu f) i)) := hu
                  have hP : va_P (dC, dI) vwCl (bz_wM am cI cL cZ (bz_tM t) (th, sv, ex) ((fun a => nI (f a)), S2, u)) H := hP
                  have hD : va_D A (bz_wM am cI cL cZ (bz_tM t) (th, sv, ex) ((fun a => nI (f a)), S2, u)) := hD
                  refine lv_if_eq (tgt := 94) hx hb d_M_faultsOf_87 (by decide) (fun c_87 => ?_) (fun c_87 => ?_)
                  · skip
                    have hh5 := bz_bI0 c_87
                    refine lv_iload_n hx hb d_M_faultsOf_94 rfl (lv_at hl 0 rfl) ?_
                    refine lv_iconst (v := 1) hx hb d_M_faultsOf_95 (by decide) ?_
                    refine lv_iadd hx hb d_M_faultsOf_96 ?_
                    refine bz_ri (y := nI (bz_ct (bz_zc t f) (bz_n t) + bz_sm (bz_gr t f) (i + 1))) (by show _ = nI (_ + (bz_sm (bz_gr t f) i + (bz_g1 t f i + bz_b (¬ bz_ht t (bz_fu f) i)))); rw [bz_b1 hh5, show (1 : Int32) = nI 1 from rfl, nI_add]; congr 1; omega) ?_
                    refine lv_istore_n (lv' := [(2, .int (nI (bz_ct (bz_zc t f) (bz_n t) + bz_sm (bz_gr t f) (i + 1)))), (0, .ref (am 0)), (1, .ref (am 6)), (3, .int (nI i))]) hx hb d_M_faultsOf_97 rfl hl (by decide) rfl (fun ls hl => ?_)
                    refine lv_iinc (v := nI (i + 1)) (lv' := [(3, .int (nI (i + 1))), (2, .int (nI (bz_ct (bz_zc t f) (bz_n t) + bz_sm (bz_gr t f) (i + 1)))), (0, .ref (am 0)), (1, .ref (am 6))]) hx hb d_M_faultsOf_98 hl (k := 3) rfl (nI_1 _) (by decide) rfl (fun ls hl => ?_)
                    refine lv_goto (tgt := 41) hx hb d_M_faultsOf_101 (by decide) ?_
                    exact ihlpb (i + 1) u (by omega) (by omega) _ _ hP hD hS ls (lv_sub hl [2, 3, 1, 0] rfl)
                  · skip
                    have hh5 := bz_bI1 c_87
                    refine lv_iload_n hx hb d_M_faultsOf_90 rfl (lv_at hl 0 rfl) ?_
                    refine bz_ri (y := nI (bz_ct (bz_zc t f) (bz_n t) + bz_sm (bz_gr t f) (i + 1))) (by show _ = nI (_ + (bz_sm (bz_gr t f) i + (bz_g1 t f i + bz_b (¬ bz_ht t (bz_fu f) i)))); rw [bz_b0 (fun z => z hh5)]; congr 1; omega) ?_
                    refine lv_goto (tgt := 97) hx hb d_M_faultsOf_91 (by decide) ?_
                    refine lv_istore_n (lv' := [(2, .int (nI (bz_ct (bz_zc t f) (bz_n t) + bz_sm (bz_gr t f) (i + 1)))), (0, .ref (am 0)), (1, .ref (am 6)), (3, .int (nI i))]) hx hb d_M_faultsOf_97 rfl hl (by decide) rfl (fun ls hl => ?_)
                    refine lv_iinc (v := nI (i + 1)) (lv' := [(3, .int (nI (i + 1))), (2, .int (nI (bz_ct (bz_zc t f) (bz_n t) + bz_sm (bz_gr t f) (i + 1)))), (0, .ref (am 0)), (1, .ref (am 6))]) hx hb d_M_faultsOf_98 hl (k := 3) rfl (nI_1 _) (by decide) rfl (fun ls hl => ?_)
                    refine lv_goto (tgt := 41) hx hb d_M_faultsOf_101 (by decide) ?_
                    exact ihlpb (i + 1) u (by omega) (by omega) _ _ hP hD hS ls (lv_sub hl [2, 3, 1, 0] rfl)
                · skip
                  have hg1 := bz_g1_1 (f := f) hh0 (Nat.lt_of_not_le fun z => c_70 ((bz_lc_le (by omega) (by omega)).mpr z))
                  refine lv_iload_n hx hb d_M_faultsOf_73 rfl (lv_at hl 2 rfl) ?_
                  refine lv_iconst (v := 1) hx hb d_M_faultsOf_74 (by decide) ?_
                  refine lv_iadd hx hb d_M_faultsOf_75 ?_
                  refine bz_ri (y := nI (bz_ct (bz_zc t f) (bz_n t) + bz_sm (bz_gr t f) i + bz_g1 t f i)) (by rw [hg1]; exact nI_1 _) ?_
                  refine lv_goto (tgt := 80) hx hb d_M_faultsOf_76 (by decide) ?_
                  refine lv_istore_n (lv' := [(2, .int (nI (bz_ct (bz_zc t f) (bz_n t) + bz_sm (bz_gr t f) i + bz_g1 t f i))), (0, .ref (am 0)), (1, .ref (am 6)), (3, .int (nI i))]) hx hb d_M_faultsOf_80 rfl hl (by decide) rfl (fun ls hl => ?_)
                  refine lv_aload_n hx hb d_M_faultsOf_81 rfl (lv_at hl 1 rfl) ?_
                  refine lv_aload_n hx hb d_M_faultsOf_82 rfl (lv_at hl 2 rfl) ?_
                  refine lv_iload_n hx hb d_M_faultsOf_83 rfl (lv_at hl 3 rfl) ?_
                  refine bz_cxi (va_runV (As := [.ref (am 6), .int (nI i)]) (rest := []) ⟨hx, hb, hml, hown, htb⟩ (c_M_hangs_share l dC dI _ am cI cL cZ t th sv ex f S2 u ht _ (by omega) hf) (cwV 2 htb (bz_gV wd_514 wd_511 wd_513 wd_12 wd_23) rfl rfl rfl (by decide +kernel) ⟨Nat.le_of_ble_eq_true rfl, Nat.le_of_ble_eq_true rfl⟩) (bz_wv hN hK hP hD (q0 := 0) rfl rfl) rfl rfl hl.1 rfl (lv_room (Nat.le_of_ble_eq_true rfl)) d_M_faultsOf_84 ⟨Nat.zero_le _, Nat.zero_le _⟩) hD hS hA (fun r9 u hu H locs hP hD hS => ?_)
                  obtain rfl : r9 = nI (bz_b (bz_ht t (bz_fu f) i)) := hu
                  have hP : va_P (dC, dI) vwCl (bz_wM am cI cL cZ (bz_tM t) (th, sv, ex) ((fun a => nI (f a)), S2, u)) H := hP
                  have hD : va_D A (bz_wM am cI cL cZ (bz_tM t) (th, sv, ex) ((fun a => nI (f a)), S2, u)) := hD
                  refine lv_if_eq (tgt := 94) hx hb d_M_faultsOf_87 (by decide) (fun c_87 => ?_) (fun c_87 => ?_)
                  · skip
                    have hh5 := bz_bI0 c_87
                    refine lv_iload_n hx hb d_M_faultsOf_94 rfl (lv_at hl 0 rfl) ?_
                    refine lv_iconst (v := 1) hx hb d_M_faultsOf_95 (by decide) ?_
                    refine lv_iadd hx hb d_M_faultsOf_96 ?_
                    refine bz_ri (y := nI (bz_ct (bz_zc t f) (bz_n t) + bz_sm (bz_gr t f) (i + 1))) (by show _ = nI (_ + (bz_sm (bz_gr t f) i + (bz_g1 t f i + bz_b (¬ bz_ht t (bz_fu f) i)))); rw [bz_b1 hh5, show (1 : Int32) = nI 1 from rfl, nI_add]; congr 1; omega) ?_
                    refine lv_istore_n (lv' := [(2, .int (nI (bz_ct (bz_zc t f) (bz_n t) + bz_sm (bz_gr t f) (i + 1)))), (0, .ref (am 0)), (1, .ref (am 6)), (3, .int (nI i))]) hx hb d_M_faultsOf_97 rfl hl (by decide) rfl (fun ls hl => ?_)
                    refine lv_iinc (v := nI (i + 1)) (lv' := [(3, .int (nI (i + 1))), (2, .int (nI (bz_ct (bz_zc t f) (bz_n t) + bz_sm (bz_gr t f) (i + 1)))), (0, .ref (am 0)), (1, .ref (am 6))]) hx hb d_M_faultsOf_98 hl (k := 3) rfl (nI_1 _) (by decide) rfl (fun ls hl => ?_)
                    refine lv_goto (tgt := 41) hx hb d_M_faultsOf_101 (by decide) ?_
                    exact ihlpb (i + 1) u (by omega) (by omega) _ _ hP hD hS ls (lv_sub hl [2, 3, 1, 0] rfl)
                  · skip
                    have hh5 := bz_bI1 c_87
                    refine lv_iload_n hx hb d_M_faultsOf_90 rfl (lv_at hl 0 rfl) ?_
                    refine bz_ri (y := nI (bz_ct (bz_zc t f) (bz_n t) + bz_sm (bz_gr t f) (i + 1))) (by show _ = nI (_ + (bz_sm (bz_gr t f) i + (bz_g1 t f i + bz_b (¬ bz_ht t (bz_fu f) i)))); rw [bz_b0 (fun z => z hh5)]; congr 1; omega) ?_
                    refine lv_goto (tgt := 97) hx hb d_M_faultsOf_91 (by decide) ?_
                    refine lv_istore_n (lv' := [(2, .int (nI (bz_ct (bz_zc t f) (bz_n t) + bz_sm (bz_gr t f) (i + 1)))), (0, .ref (am 0)), (1, .ref (am 6)), (3, .int (nI i))]) hx hb d_M_faultsOf_97 rfl hl (by decide) rfl (fun ls hl => ?_)
                    refine lv_iinc (v := nI (i + 1)) (lv' := [(3, .int (nI (i + 1))), (2, .int (nI (bz_ct (bz_zc t f) (bz_n t) + bz_sm (bz_gr t f) (i + 1)))), (0, .ref (am 0)), (1, .ref (am 6))]) hx hb d_M_faultsOf_98 hl (k := 3) rfl (nI_1 _) (by decide) rfl (fun ls hl => ?_)
                    refine lv_goto (tgt := 41) hx hb d_M_faultsOf_101 (by decide) ?_
                    exact ihlpb (i + 1) u (by omega) (by omega) _ _ hP hD hS ls (lv_sub hl [2, 3, 1, 0] rfl)
        exact lpb _ 0 S3 (Nat.lt_succ_self _) (by omega) _ _ hP hD hS ls (lv_sub hl [1, 2, 3, 0] rfl)
      · skip
        have hin : i < bz_n t := Nat.lt_of_not_le fun z => c_9 ((nI_leI (by omega) (by omega)).mpr z)
        have hfi := hf i hin
        have hhf := ht.2.2.2.2.2.2 (f i)
        refine lv_aload_n hx hb d_M_faultsOf_12 rfl (lv_at hl 0 rfl) ?_
        refine va_get (D := (dC, dI)) (ci := 4) (v := .ref (am 5)) (C := R_M) (T := F_M) (N := 12) hx hb htb in_M hown hK hP 0 rfl rfl 6 (by decide) (htb _ wd_416) (fun _ h9 => h9) rfl d_M_faultsOf_13 ?_
        refine lv_aload_n hx hb d_M_faultsOf_16 rfl (lv_at hl 1 rfl) ?_
        refine lv_iload_n hx hb d_M_faultsOf_17 rfl (lv_at hl 3 rfl) ?_
        refine bz_iald (v := nI (f i)) hx hb hK hP 6 0 rfl rfl (a9 := i) (by omega) (by decide) (rfl) d_M_faultsOf_18 ?_
        refine bz_lald (v := lN (bz_h t (f i))) hx hb hK hP 5 1 rfl rfl (a9 := (f i)) (hf i hin) (by decide) (rfl) d_M_faultsOf_19 ?_
        refine lv_lconst (v := 0) hx hb d_M_faultsOf_20 (by decide) ?_
        refine W.lcmp hx hb d_M_faultsOf_21 ?_
        refine lv_if_ne (tgt := 31) hx hb d_M_faultsOf_22 (by decide) (fun c_22 => ?_) (fun c_22 => ?_)
        · skip
          have hq : bz_zc t f i = false := decide_eq_false fun z => c_22 ((bz_lc_eq (b := 0) (by omega) (by omega)).mpr z)
          refine lv_iload_n hx hb d_M_faultsOf_31 rfl (lv_at hl 2 rfl) ?_
          refine bz_ri (y := nI (bz_ct (bz_zc t f) (i + 1))) (by rw [bz_ct_0 hq]) ?_
          refine lv_istore_n (lv' := [(2, .int (nI (bz_ct (bz_zc t f) (i + 1)))), (0, .ref (am 0)), (1, .ref (am 6)), (3, .int (nI i))]) hx hb d_M_faultsOf_32 rfl hl (by decide) rfl (fun ls hl => ?_)
          refine lv_iinc (v := nI (i + 1)) (lv' := [(3, .int (nI (i + 1))), (2, .int (nI (bz_ct (bz_zc t f) (i + 1)))), (0, .ref (am 0)), (1, .ref (am 6))]) hx hb d_M_faultsOf_33 hl (k := 3) rfl (nI_1 _) (by decide) rfl (fun ls hl => ?_)
          refine lv_goto (tgt := 4) hx hb d_M_faultsOf_36 (by decide) ?_
          exact ihlpa (i + 1) (by omega) (by omega) _ _ hP hD hS ls (lv_sub hl [2, 3, 1, 0] rfl)
        · skip
          have hq : bz_zc t f i = true := decide_eq_true ((bz_lc_eq (b := 0) (by omega) (by omega)).mp c_22)
          refine lv_iload_n hx hb d_M_faultsOf_25 rfl (lv_at hl 2 rfl) ?_
          refine lv_iconst (v := 1) hx hb d_M_faultsOf_26 (by decide) ?_
          refine lv_iadd hx hb d_M_faultsOf_27 ?_
          refine bz_ri (y := nI (bz_ct (bz_zc t f) (i + 1))) (by rw [bz_ct_1 hq]; exact nI_1 _) ?_
          refine lv_goto (tgt := 32) hx hb d_M_faultsOf_28 (by decide) ?_
          refine lv_istore_n (lv' := [(2, .int (nI (bz_ct (bz_zc t f) (i + 1)))), (0, .ref (am 0)), (1, .ref (am 6)), (3, .int (nI i))]) hx hb d_M_faultsOf_32 rfl hl (by decide) rfl (fun ls hl => ?_)
          refine lv_iinc (v := nI (i + 1)) (lv' := [(3, .int (nI (i + 1))), (2, .int (nI (bz_ct (bz_zc t f) (i + 1)))), (0, .ref (am 0)), (1, .ref (am 6))]) hx hb d_M_faultsOf_33 hl (k := 3) rfl (nI_1 _) (by decide) rfl (fun ls hl => ?_)
          refine lv_goto (tgt := 4) hx hb d_M_faultsOf_36 (by decide) ?_
          exact ihlpa (i + 1) (by omega) (by omega) _ _ hP hD hS ls (lv_sub hl [2, 3, 1, 0] rfl)
  exact lpa _ 0 (Nat.lt_succ_self _) (by omega) _ _ hP hD hS ls (lv_sub hl [2, 3, 1, 0] rfl)

set_option maxHeartbeats 4000000 in
set_option maxRecDepth 100000 in
/-- faultsOf tried -/
theorem c_M_faultsOf_tried (l : Launch) (dC : Nat → ClassId) (dI : Nat → Nat → Nat) (sz : Nat) (am : Nat → Nat) (cI cL cZ : ClassId) (t : bz_T) (th sv ex : Int32) (f : Nat → Nat) (S2 S3 : Nat → Int32) (ht : bz_ok t) (hf : ∀ a, a < bz_n t → f a < 4) : Met l y_M_faultsOf w_M_faultsOf ({ frames := 2, cells := 0, slots := 0, locals := 49 }) (bz_Pw (dC, dI) [(cI, .int), (cL, .long), (cZ, .boolean)] (bz_wM am cI cL cZ (bz_tM t) (th, sv, ex) (S2, (fun a => nI (f a)), S3)) sz [.ref (am 0), .ref (am 7)]) (bz_Qxi (dC, dI) [(cI, .int), (cL, .long), (cZ, .boolean)] (va_A (bz_wM am cI cL cZ (bz_tM t) (th, sv, ex) (S2, (fun a => nI (f a)), S3)) sz) (fun r9 (u : Nat → Int32) => r9 = nI (bz_ft t (bz_fu f))) (fun u : Nat → Int32 => bz_wM am cI cL cZ (bz_tM t) (th, sv, ex) (S2, (fun a => nI (f a)), u))) 0 0 (va_A (bz_wM am cI cL cZ (bz_tM t) (th, sv, ex) (S2, (fun a => nI (f a)), S3)) sz) := by
  refine Met.ofW (cc := b_M_faultsOf) (maxL := 4) (ret := (some .int)) (by decide) rfl ?_
  intro p e s m args below meth c s₁ B hml hv
  obtain ⟨rfl, hsz, hP, hK, hD0, hN⟩ := hv
  have hx := B.exec
  have hb := B.bytes
  have hr := B.returns
  have hts := atoms_spec (ws := w_M_faultsOf) B.pre
  have hown : s.vm.findClass R_M = some m.cls := findClass_of_methodNamed B.named
  have htb : ∀ w ∈ bz_tb, w.before _ s = true := fun w h => hts w (List.mem_cons_of_mem _ h)
  have hlocks := B.notSynchronized
  subst hsz
  have hD := hD0.self (sz := s.heap.size)
  generalize hAe : va_A (bz_wM am cI cL cZ (bz_tM t) (th, sv, ex) (S2, (fun a => nI (f a)), S3)) s.heap.size = A at hD ⊢
  have hA : ∀ q : Nat, s.heap.size ≤ q → A q := fun q h => by rw [← hAe]; exact Or.inr h
  have hS : va_S A s.heap s.heap [] := va_S.rf
  have hl := lv_entry ([.ref (am 0), .ref (am 7)]) (n := 4) (Nat.le_of_ble_eq_true rfl)
  rw [lg_entry_eq]
  generalize (lg_sl ([.ref (am 0), .ref (am 7)]) ++ List.replicate (4 - (lg_sl ([.ref (am 0), .ref (am 7)])).length) Slot.unset).toArray = ls at hl ⊢
  have hl : lv_has ls 4 [(0, .ref (am 0)), (1, .ref (am 7))] := hl
  have hn30 := ht.1
  refine lv_iconst (v := nI 0) hx hb d_M_faultsOf_0 (by decide) ?_
  refine lv_istore_n (lv' := [(2, .int (nI 0)), (0, .ref (am 0)), (1, .ref (am 7))]) hx hb d_M_faultsOf_1 rfl hl (by decide) rfl (fun ls hl => ?_)
  refine lv_iconst (v := nI 0) hx hb d_M_faultsOf_2 (by decide) ?_
  refine lv_istore_n (lv' := [(3, .int (nI 0)), (2, .int (nI 0)), (0, .ref (am 0)), (1, .ref (am 7))]) hx hb d_M_faultsOf_3 rfl hl (by decide) rfl (fun ls hl => ?_)
  have lpa : ∀ (k9 : Nat) (i : Nat), bz_n t - i < k9 → (i ≤ bz_n t) → ∀ (H : Heap) (locs : List Loc), va_P (dC, dI) vwCl (bz_wM am cI cL cZ (bz_tM t) (th, sv, ex) (S2, (fun a => nI (f a)), S3)) H → va_D A (bz_wM am cI cL cZ (bz_tM t) (th, sv, ex) (S2, (fun a => nI (f a)), S3)) → va_S A s.heap H locs → ∀ (ls : Array Slot), lv_has ls 4 [(0, .ref (am 0)), (1, .ref (am 7)), (2, .int (nI (bz_ct (bz_zc t f) i))), (3, .int (nI i))] → W p l e (headSpec w_M_faultsOf ({ frames := 2, cells := 0, slots := 0, locals := 49 })).room s m ([.ref (am 0), .ref (am 7)]).toArray below meth c H locs 0 0 (MQ below (bz_Qxi (dC, dI) [(cI, .int), (cL, .long), (cZ, .boolean)] A (fun r9 (u : Nat → Int32) => r9 = nI (bz_ft t (bz_fu f))) (fun u : Nat → Int32 => bz_wM am cI cL cZ (bz_tM t) (th, sv, ex) (S2, (fun a => nI (f a)), u))) ([.ref (am 0), .ref (am 7)]).toArray s 0 0 (A)) (F0 m 4 ls []) := by
    intro k9
    induction k9 with
    | zero =>
      intro i h9
      exact absurd h9 (Nat.not_lt_zero _)
    | succ k9 ihlpa =>
      intro i h9_lpa hi H locs hP hD hS ls hl
      refine lv_iload_n hx hb d_M_faultsOf_4 rfl (lv_at hl 3 rfl) ?_
      refine lv_aload_n hx hb d_M_faultsOf_5 rfl (lv_at hl 0 rfl) ?_
      refine va_get (D := (dC, dI)) (ci := 4) (v := .int (nI (bz_n t))) (C := R_M) (T := F_M) (N := 12) hx hb htb in_M hown hK hP 0 rfl rfl 1 (by decide) (htb _ wd_411) (fun _ h9 => h9) rfl d_M_faultsOf_6 ?_
      refine lv_icmp_ge (tgt := 39) hx hb d_M_faultsOf_9 (by decide) (fun c_9 => ?_) (fun c_9 => ?_)
      · skip
        have hin : i = bz_n t := by have := (nI_leI (by omega) (by omega)).mp c_9; omega
        have hl : lv_has ls 4 [(0, .ref (am 0)), (1, .ref (am 7)), (2, .int (nI (bz_ct (bz_zc t f) (bz_n t) + bz_sm (bz_gr t f) 0))), (3, .int (nI i))] := by rw [show nI (bz_ct (bz_zc t f) (bz_n t) + bz_sm (bz_gr t f) 0) = nI (bz_ct (bz_zc t f) i) from by rw [hin]; rfl]; exact hl
        refine lv_iconst (v := nI 0) hx hb d_M_faultsOf_39 (by decide) ?_
        refine lv_istore_n (lv' := [(3, .int (nI 0)), (0, .ref (am 0)), (1, .ref (am 7)), (2, .int (nI (bz_ct (bz_zc t f) (bz_n t) + bz_sm (bz_gr t f) 0)))]) hx hb d_M_faultsOf_40 rfl hl (by decide) rfl (fun ls hl => ?_)
        have lpb : ∀ (k9 : Nat) (i : Nat) (u : Nat → Int32), 4 - i < k9 → (i ≤ 4) → ∀ (H : Heap) (locs : List Loc), va_P (dC, dI) vwCl (bz_wM am cI cL cZ (bz_tM t) (th, sv, ex) (S2, (fun a => nI (f a)), u)) H → va_D A (bz_wM am cI cL cZ (bz_tM t) (th, sv, ex) (S2, (fun a => nI (f a)), u)) → va_S A s.heap H locs → ∀ (ls : Array Slot), lv_has ls 4 [(0, .ref (am 0)), (1, .ref (am 7)), (2, .int (nI (bz_ct (bz_zc t f) (bz_n t) + bz_sm (bz_gr t f) i))), (3, .int (nI i))] → W p l e (headSpec w_M_faultsOf ({ frames := 2, cells := 0, slots := 0, locals := 49 })).room s m ([.ref (am 0), .ref (am 7)]).toArray below meth c H locs 0 0 (MQ below (bz_Qxi (dC, dI) [(cI, .int), (cL, .long), (cZ, .boolean)] A (fun r9 (u : Nat → Int32) => r9 = nI (bz_ft t (bz_fu f))) (fun u : Nat → Int32 => bz_wM am cI cL cZ (bz_tM t) (th, sv, ex) (S2, (fun a => nI (f a)), u))) ([.ref (am 0), .ref (am 7)]).toArray s 0 0 (A)) (F0 m 41 ls []) := by
          intro k9
          induction k9 with
          | zero =>
            intro i u h9
            exact absurd h9 (Nat.not_lt_zero _)
          | succ k9 ihlpb =>
            intro i u h9_lpb hi H locs hP hD hS ls hl
            refine lv_iload_n hx hb d_M_faultsOf_41 rfl (lv_at hl 3 rfl) ?_
            refine lv_iconst (v := 4) hx hb d_M_faultsOf_42 (by decide) ?_
            refine lv_icmp_ge (tgt := 104) hx hb d_M_faultsOf_43 (by decide) (fun c_43 => ?_) (fun c_43 => ?_)
            · skip
              have hi4 : i = 4 := by have := (nI_leI (a := 4) (by omega) (by omega)).mp c_43; omega
              refine lv_iload_n hx hb d_M_faultsOf_104 rfl (lv_at hl 2 rfl) ?_
              exact W.iret (v := nI (bz_ct (bz_zc t f) (bz_n t) + bz_sm (bz_gr t f) i)) hx hb hr (fun t9 ht9 hW => ⟨⟨_, u, rfl, by rw [hi4, bz_ft_eq hf], by rw [ht9]; exact hP, va_K.moved hW.alike hK, hD⟩, hS.F ht9⟩) hS.2.2 d_M_faultsOf_105
            · skip
              have hi4 : i < 4 := Nat.lt_of_not_le fun z => c_43 ((nI_leI (a := 4) (b := i) (by omega) (by omega)).mpr z)
              have hhi := ht.2.2.2.2.2.2 i
              have hld := bz_ld_le ht (bz_fu f) i
              refine lv_aload_n hx hb d_M_faultsOf_46 rfl (lv_at hl 0 rfl) ?_
              refine va_get (D := (dC, dI)) (ci := 4) (v := .ref (am 5)) (C := R_M) (T := F_M) (N := 12) hx hb htb in_M hown hK hP 0 rfl rfl 6 (by decide) (htb _ wd_416) (fun _ h9 => h9) rfl d_M_faultsOf_47 ?_
              refine lv_iload_n hx hb d_M_faultsOf_50 rfl (lv_at hl 3 rfl) ?_
              refine bz_lald (v := lN (bz_h t i)) hx hb hK hP 5 1 rfl rfl (a9 := i) (by omega) (by decide) (rfl) d_M_faultsOf_51 ?_
              refine lv_lconst (v := 0) hx hb d_M_faultsOf_52 (by decide) ?_
              refine W.lcmp hx hb d_M_faultsOf_53 ?_
              refine lv_if_le (tgt := 79) hx hb d_M_faultsOf_54 (by decide) (fun c_54 => ?_) (fun c_54 => ?_)
              · skip
                have hg1 := bz_g1_0 (f := f) (Or.inl ((bz_lc_le (b := 0) (by omega) (by omega)).mp c_54))
                refine lv_iload_n hx hb d_M_faultsOf_79 rfl (lv_at hl 2 rfl) ?_
                refine bz_ri (y := nI (bz_ct (bz_zc t f) (bz_n t) + bz_sm (bz_gr t f) i + bz_g1 t f i)) (by rw [hg1]; rfl) ?_
                refine lv_istore_n (lv' := [(2, .int (nI (bz_ct (bz_zc t f) (bz_n t) + bz_sm (bz_gr t f) i + bz_g1 t f i))), (0, .ref (am 0)), (1, .ref (am 7)), (3, .int (nI i))]) hx hb d_M_faultsOf_80 rfl hl (by decide) rfl (fun ls hl => ?_)
                refine lv_aload_n hx hb d_M_faultsOf_81 rfl (lv_at hl 1 rfl) ?_
                refine lv_aload_n hx hb d_M_faultsOf_82 rfl (lv_at hl 2 rfl) ?_
                refine lv_iload_n hx hb d_M_faultsOf_83 rfl (lv_at hl 3 rfl) ?_
                refine bz_cxi (va_runV (As := [.ref (am 7), .int (nI i)]) (rest := []) ⟨hx, hb, hml, hown, htb⟩ (c_M_hangs_tried l dC dI _ am cI cL cZ t th sv ex f S2 u ht _ (by omega) hf) (cwV 2 htb (bz_gV wd_514 wd_511 wd_513 wd_12 wd_23) rfl rfl rfl (by decide +kernel) ⟨Nat.le_of_ble_eq_true rfl, Nat.le_of_ble_eq_true rfl⟩) (bz_wv hN hK hP hD (q0 := 0) rfl rfl) rfl rfl hl.1 rfl (lv_room (Nat.le_of_ble_eq_true rfl)) d_M_faultsOf_84 ⟨Nat.zero_le _, Nat.zero_le _⟩) hD hS hA (fun r9 u hu H locs hP hD hS => ?_)
                obtain rfl : r9 = nI (bz_b (bz_ht t (bz_fu f) i)) := hu
                have hP : va_P (dC, dI) vwCl (bz_wM am cI cL cZ (bz_tM t) (th, sv, ex) (S2, (fun a => nI (f a)), u)) H := hP
                have hD : va_D A (bz_wM am cI cL cZ (bz_tM t) (th, sv, ex) (S2, (fun a => nI (f a)), u)) := hD
                refine lv_if_eq (tgt := 94) hx hb d_M_faultsOf_87 (by decide) (fun c_87 => ?_) (fun c_87 => ?_)
                · skip
                  have hh5 := bz_bI0 c_87
                  refine lv_iload_n hx hb d_M_faultsOf_94 rfl (lv_at hl 0 rfl) ?_
                  refine lv_iconst (v := 1) hx hb d_M_faultsOf_95 (by decide) ?_
                  refine lv_iadd hx hb d_M_faultsOf_96 ?_
                  refine bz_ri (y := nI (bz_ct (bz_zc t f) (bz_n t) + bz_sm (bz_gr t f) (i + 1))) (by show _ = nI (_ + (bz_sm (bz_gr t f) i + (bz_g1 t f i + bz_b (¬ bz_ht t (bz_fu f) i)))); rw [bz_b1 hh5, show (1 : Int32) = nI 1 from rfl, nI_add]; congr 1; omega) ?_
                  refine lv_istore_n (lv' := [(2, .int (nI (bz_ct (bz_zc t f) (bz_n t) + bz_sm (bz_gr t f) (i + 1)))), (0, .ref (am 0)), (1, .ref (am 7)), (3, .int (nI i))]) hx hb d_M_faultsOf_97 rfl hl (by decide) rfl (fun ls hl => ?_)
                  refine lv_iinc (v := nI (i + 1)) (lv' := [(3, .int (nI (i + 1))), (2, .int (nI (bz_ct (bz_zc t f) (bz_n t) + bz_sm (bz_gr t f) (i + 1)))), (0, .ref (am 0)), (1, .ref (am 7))]) hx hb d_M_faultsOf_98 hl (k := 3) rfl (nI_1 _) (by decide) rfl (fun ls hl => ?_)
                  refine lv_goto (tgt := 41) hx hb d_M_faultsOf_101 (by decide) ?_
                  exact ihlpb (i + 1) u (by omega) (by omega) _ _ hP hD hS ls (lv_sub hl [2, 3, 1, 0] rfl)
                · skip
                  have hh5 := bz_bI1 c_87
                  refine lv_iload_n hx hb d_M_faultsOf_90 rfl (lv_at hl 0 rfl) ?_
                  refine bz_ri (y := nI (bz_ct (bz_zc t f) (bz_n t) + bz_sm (bz_gr t f) (i + 1))) (by show _ = nI (_ + (bz_sm (bz_gr t f) i + (bz_g1 t f i + bz_b (¬ bz_ht t (bz_fu f) i)))); rw [bz_b0 (fun z => z hh5)]; congr 1; omega) ?_
                  refine lv_goto (tgt := 97) hx hb d_M_faultsOf_91 (by decide) ?_
                  refine lv_istore_n (lv' := [(2, .int (nI (bz_ct (bz_zc t f) (bz_n t) + bz_sm (bz_gr t f) (i + 1)))), (0, .ref (am 0)), (1, .ref (am 7)), (3, .int (nI i))]) hx hb d_M_faultsOf_97 rfl hl (by decide) rfl (fun ls hl => ?_)
                  refine lv_iinc (v := nI (i + 1)) (lv' := [(3, .int (nI (i + 1))), (2, .int (nI (bz_ct (bz_zc t f) (bz_n t) + bz_sm (bz_gr t f) (i + 1)))), (0, .ref (am 0)), (1, .ref (am 7))]) hx hb d_M_faultsOf_98 hl (k := 3) rfl (nI_1 _) (by decide) rfl (fun ls hl => ?_)
                  refine lv_goto (tgt := 41) hx hb d_M_faultsOf_101 (by decide) ?_
                  exact ihlpb (i + 1) u (by omega) (by omega) _ _ hP hD hS ls (lv_sub hl [2, 3, 1, 0] rfl)
              · skip
                have hh0 : 0 < bz_h t i := Nat.lt_of_not_le fun z => c_54 ((bz_lc_le (b := 0) (by omega) (by omega)).mpr z)
                refine lv_aload_n hx hb d_M_faultsOf_57 rfl (lv_at hl 0 rfl) ?_
                refine lv_aload_n hx hb d_M_faultsOf_58 rfl (lv_at hl 1 rfl) ?_
                refine lv_iload_n hx hb d_M_faultsOf_59 rfl (lv_at hl 3 rfl) ?_
                refine bz_sl (va_runV (As := [.ref (am 7), .int (nI i)]) (rest := []) ⟨hx, hb, hml, hown, htb⟩ (c_M_roundLoad_tried l dC dI am cI cL cZ t th sv ex f S2 u ht _ (by omega) hf) (cwV 2 htb (bz_gV wd_504 wd_501 wd_503 wd_10 wd_23) rfl rfl rfl (by decide +kernel) ⟨Nat.le_of_ble_eq_true rfl, Nat.le_of_ble_eq_true rfl⟩) (bz_rv hN hK hP (q0 := 0) rfl rfl) rfl rfl hl.1 rfl (lv_room (Nat.le_of_ble_eq_true rfl)) d_M_faultsOf_60 ⟨Nat.zero_le _, Nat.zero_le _⟩) ?_
                refine lv_aload_n hx hb d_M_faultsOf_63 rfl (lv_at hl 0 rfl) ?_
                refine va_get (D := (dC, dI)) (ci := 4) (v := .ref (am 5)) (C := R_M) (T := F_M) (N := 12) hx hb htb in_M hown hK hP 0 rfl rfl 6 (by decide) (htb _ wd_416) (fun _ h9 => h9) rfl d_M_faultsOf_64 ?_
                refine lv_iload_n hx hb d_M_faultsOf_67 rfl (lv_at hl 3 rfl) ?_
                refine bz_lald (v := lN (bz_h t i)) hx hb hK hP 5 1 rfl rfl (a9 := i) (by omega) (by decide) (rfl) d_M_faultsOf_68 ?_
                refine W.lcmp hx hb d_M_faultsOf_69 ?_
                refine lv_if_le (tgt := 79) hx hb d_M_faultsOf_70 (by decide) (fun c_70 => ?_) (fun c_70 => ?_)
                · skip
                  have hg1 := bz_g1_0 (f := f) (Or.inr ((bz_lc_le (by omega) (by omega)).mp c_70))
                  refine lv_iload_n hx hb d_M_faultsOf_79 rfl (lv_at hl 2 rfl) ?_
                  refine bz_ri (y := nI (bz_ct (bz_zc t f) (bz_n t) + bz_sm (bz_gr t f) i + bz_g1 t f i)) (by rw [hg1]; rfl) ?_
                  refine lv_istore_n (lv' := [(2, .int (nI (bz_ct (bz_zc t f) (bz_n t) + bz_sm (bz_gr t f) i + bz_g1 t f i))), (0, .ref (am 0)), (1, .ref (am 7)), (3, .int (nI i))]) hx hb d_M_faultsOf_80 rfl hl (by decide) rfl (fun ls hl => ?_)
                  refine lv_aload_n hx hb d_M_faultsOf_81 rfl (lv_at hl 1 rfl) ?_
                  refine lv_aload_n hx hb d_M_faultsOf_82 rfl (lv_at hl 2 rfl) ?_
                  refine lv_iload_n hx hb d_M_faultsOf_83 rfl (lv_at hl 3 rfl) ?_
                  refine bz_cxi (va_runV (As := [.ref (am 7), .int (nI i)]) (rest := []) ⟨hx, hb, hml, hown, htb⟩ (c_M_hangs_tried l dC dI _ am cI cL cZ t th sv ex f S2 u ht _ (by omega) hf) (cwV 2 htb (bz_gV wd_514 wd_511 wd_513 wd_12 wd_23) rfl rfl rfl (by decide +kernel) ⟨Nat.le_of_ble_eq_true rfl, Nat.le_of_ble_eq_true rfl⟩) (bz_wv hN hK hP hD (q0 := 0) rfl rfl) rfl rfl hl.1 rfl (lv_room (Nat.le_of_ble_eq_true rfl)) d_M_faultsOf_84 ⟨Nat.zero_le _, Nat.zero_le _⟩) hD hS hA (fun r9 u hu H locs hP hD hS => ?_)
                  obtain rfl : r9 = nI (bz_b (bz_ht t (bz_fu f) i)) := hu
                  have hP : va_P (dC, dI) vwCl (bz_wM am cI cL cZ (bz_tM t) (th, sv, ex) (S2, (fun a => nI (f a)), u)) H := hP
                  have hD : va_D A (bz_wM am cI cL cZ (bz_tM t) (th, sv, ex) (S2, (fun a => nI (f a)), u)) := hD
                  refine lv_if_eq (tgt := 94) hx hb d_M_faultsOf_87 (by decide) (fun c_87 => ?_) (fun c_87 => ?_)
                  · skip
                    have hh5 := bz_bI0 c_87
                    refine lv_iload_n hx hb d_M_faultsOf_94 rfl (lv_at hl 0 rfl) ?_
                    refine lv_iconst (v := 1) hx hb d_M_faultsOf_95 (by decide) ?_
                    refine lv_iadd hx hb d_M_faultsOf_96 ?_
                    refine bz_ri (y := nI (bz_ct (bz_zc t f) (bz_n t) + bz_sm (bz_gr t f) (i + 1))) (by show _ = nI (_ + (bz_sm (bz_gr t f) i + (bz_g1 t f i + bz_b (¬ bz_ht t (bz_fu f) i)))); rw [bz_b1 hh5, show (1 : Int32) = nI 1 from rfl, nI_add]; congr 1; omega) ?_
                    refine lv_istore_n (lv' := [(2, .int (nI (bz_ct (bz_zc t f) (bz_n t) + bz_sm (bz_gr t f) (i + 1)))), (0, .ref (am 0)), (1, .ref (am 7)), (3, .int (nI i))]) hx hb d_M_faultsOf_97 rfl hl (by decide) rfl (fun ls hl => ?_)
                    refine lv_iinc (v := nI (i + 1)) (lv' := [(3, .int (nI (i + 1))), (2, .int (nI (bz_ct (bz_zc t f) (bz_n t) + bz_sm (bz_gr t f) (i + 1)))), (0, .ref (am 0)), (1, .ref (am 7))]) hx hb d_M_faultsOf_98 hl (k := 3) rfl (nI_1 _) (by decide) rfl (fun ls hl => ?_)
                    refine lv_goto (tgt := 41) hx hb d_M_faultsOf_101 (by decide) ?_
                    exact ihlpb (i + 1) u (by omega) (by omega) _ _ hP hD hS ls (lv_sub hl [2, 3, 1, 0] rfl)
                  · skip
                    have hh5 := bz_bI1 c_87
                    refine lv_iload_n hx hb d_M_faultsOf_90 rfl (lv_at hl 0 rfl) ?_
                    refine bz_ri (y := nI (bz_ct (bz_zc t f) (bz_n t) + bz_sm (bz_gr t f) (i + 1))) (by show _ = nI (_ + (bz_sm (bz_gr t f) i + (bz_g1 t f i + bz_b (¬ bz_ht t (bz_fu f) i)))); rw [bz_b0 (fun z => z hh5)]; congr 1; omega) ?_
                    refine lv_goto (tgt := 97) hx hb d_M_faultsOf_91 (by decide) ?_
                    refine lv_istore_n (lv' := [(2, .int (nI (bz_ct (bz_zc t f) (bz_n t) + bz_sm (bz_gr t f) (i + 1)))), (0, .ref (am 0)), (1, .ref (am 7)), (3, .int (nI i))]) hx hb d_M_faultsOf_97 rfl hl (by decide) rfl (fun ls hl => ?_)
                    refine lv_iinc (v := nI (i + 1)) (lv' := [(3, .int (nI (i + 1))), (2, .int (nI (bz_ct (bz_zc t f) (bz_n t) + bz_sm (bz_gr t f) (i + 1)))), (0, .ref (am 0)), (1, .ref (am 7))]) hx hb d_M_faultsOf_98 hl (k := 3) rfl (nI_1 _) (by decide) rfl (fun ls hl => ?_)
                    refine lv_goto (tgt := 41) hx hb d_M_faultsOf_101 (by decide) ?_
                    exact ihlpb (i + 1) u (by omega) (by omega) _ _ hP hD hS ls (lv_sub hl [2, 3, 1, 0] rfl)
                · skip
                  have hg1 := bz_g1_1 (f := f) hh0 (Nat.lt_of_not_le fun z => c_70 ((bz_lc_le (by omega) (by omega)).mpr z))
                  refine lv_iload_n hx hb d_M_faultsOf_73 rfl (lv_at hl 2 rfl) ?_
                  refine lv_iconst (v := 1) hx hb d_M_faultsOf_74 (by decide) ?_
                  refine lv_iadd hx hb d_M_faultsOf_75 ?_
                  refine bz_ri (y := nI (bz_ct (bz_zc t f) (bz_n t) + bz_sm (bz_gr t f) i + bz_g1 t f i)) (by rw [hg1]; exact nI_1 _) ?_
                  refine lv_goto (tgt := 80) hx hb d_M_faultsOf_76 (by decide) ?_
                  refine lv_istore_n (lv' := [(2, .int (nI (bz_ct (bz_zc t f) (bz_n t) + bz_sm (bz_gr t f) i + bz_g1 t f i))), (0, .ref (am 0)), (1, .ref (am 7)), (3, .int (nI i))]) hx hb d_M_faultsOf_80 rfl hl (by decide) rfl (fun ls hl => ?_)
                  refine lv_aload_n hx hb d_M_faultsOf_81 rfl (lv_at hl 1 rfl) ?_
                  refine lv_aload_n hx hb d_M_faultsOf_82 rfl (lv_at hl 2 rfl) ?_
                  refine lv_iload_n hx hb d_M_faultsOf_83 rfl (lv_at hl 3 rfl) ?_
                  refine bz_cxi (va_runV (As := [.ref (am 7), .int (nI i)]) (rest := []) ⟨hx, hb, hml, hown, htb⟩ (c_M_hangs_tried l dC dI _ am cI cL cZ t th sv ex f S2 u ht _ (by omega) hf) (cwV 2 htb (bz_gV wd_514 wd_511 wd_513 wd_12 wd_23) rfl rfl rfl (by decide +kernel) ⟨Nat.le_of_ble_eq_true rfl, Nat.le_of_ble_eq_true rfl⟩) (bz_wv hN hK hP hD (q0 := 0) rfl rfl) rfl rfl hl.1 rfl (lv_room (Nat.le_of_ble_eq_true rfl)) d_M_faultsOf_84 ⟨Nat.zero_le _, Nat.zero_le _⟩) hD hS hA (fun r9 u hu H locs hP hD hS => ?_)
                  obtain rfl : r9 = nI (bz_b (bz_ht t (bz_fu f) i)) := hu
                  have hP : va_P (dC, dI) vwCl (bz_wM am cI cL cZ (bz_tM t) (th, sv, ex) (S2, (fun a => nI (f a)), u)) H := hP
                  have hD : va_D A (bz_wM am cI cL cZ (bz_tM t) (th, sv, ex) (S2, (fun a => nI (f a)), u)) := hD
                  refine lv_if_eq (tgt := 94) hx hb d_M_faultsOf_87 (by decide) (fun c_87 => ?_) (fun c_87 => ?_)
                  · skip
                    have hh5 := bz_bI0 c_87
                    refine lv_iload_n hx hb d_M_faultsOf_94 rfl (lv_at hl 0 rfl) ?_
                    refine lv_iconst (v := 1) hx hb d_M_faultsOf_95 (by decide) ?_
                    refine lv_iadd hx hb d_M_faultsOf_96 ?_
                    refine bz_ri (y := nI (bz_ct (bz_zc t f) (bz_n t) + bz_sm (bz_gr t f) (i + 1))) (by show _ = nI (_ + (bz_sm (bz_gr t f) i + (bz_g1 t f i + bz_b (¬ bz_ht t (bz_fu f) i)))); rw [bz_b1 hh5, show (1 : Int32) = nI 1 from rfl, nI_add]; congr 1; omega) ?_
                    refine lv_istore_n (lv' := [(2, .int (nI (bz_ct (bz_zc t f) (bz_n t) + bz_sm (bz_gr t f) (i + 1)))), (0, .ref (am 0)), (1, .ref (am 7)), (3, .int (nI i))]) hx hb d_M_faultsOf_97 rfl hl (by decide) rfl (fun ls hl => ?_)
                    refine lv_iinc (v := nI (i + 1)) (lv' := [(3, .int (nI (i + 1))), (2, .int (nI (bz_ct (bz_zc t f) (bz_n t) + bz_sm (bz_gr t f) (i + 1)))), (0, .ref (am 0)), (1, .ref (am 7))]) hx hb d_M_faultsOf_98 hl (k := 3) rfl (nI_1 _) (by decide) rfl (fun ls hl => ?_)
                    refine lv_goto (tgt := 41) hx hb d_M_faultsOf_101 (by decide) ?_
                    exact ihlpb (i + 1) u (by omega) (by omega) _ _ hP hD hS ls (lv_sub hl [2, 3, 1, 0] rfl)
                  · skip
                    have hh5 := bz_bI1 c_87
                    refine lv_iload_n hx hb d_M_faultsOf_90 rfl (lv_at hl 0 rfl) ?_
                    refine bz_ri (y := nI (bz_ct (bz_zc t f) (bz_n t) + bz_sm (bz_gr t f) (i + 1))) (by show _ = nI (_ + (bz_sm (bz_gr t f) i + (bz_g1 t f i + bz_b (¬ bz_ht t (bz_fu f) i)))); rw [bz_b0 (fun z => z hh5)]; congr 1; omega) ?_
                    refine lv_goto (tgt := 97) hx hb d_M_faultsOf_91 (by decide) ?_
                    refine lv_istore_n (lv' := [(2, .int (nI (bz_ct (bz_zc t f) (bz_n t) + bz_sm (bz_gr t f) (i + 1)))), (0, .ref (am 0)), (1, .ref (am 7)), (3, .int (nI i))]) hx hb d_M_faultsOf_97 rfl hl (by decide) rfl (fun ls hl => ?_)
                    refine lv_iinc (v := nI (i + 1)) (lv' := [(3, .int (nI (i + 1))), (2, .int (nI (bz_ct (bz_zc t f) (bz_n t) + bz_sm (bz_gr t f) (i + 1)))), (0, .ref (am 0)), (1, .ref (am 7))]) hx hb d_M_faultsOf_98 hl (k := 3) rfl (nI_1 _) (by decide) rfl (fun ls hl => ?_)
                    refine lv_goto (tgt := 41) hx hb d_M_faultsOf_101 (by decide) ?_
                    exact ihlpb (i + 1) u (by omega) (by omega) _ _ hP hD hS ls (lv_sub hl [2, 3, 1, 0] rfl)
        exact lpb _ 0 S3 (Nat.lt_succ_self _) (by omega) _ _ hP hD hS ls (lv_sub hl [1, 2, 3, 0] rfl)
      · skip
        have hin : i < bz_n t := Nat.lt_of_not_le fun z => c_9 ((nI_leI (by omega) (by omega)).mpr z)
        have hfi := hf i hin
        have hhf := ht.2.2.2.2.2.2 (f i)
        refine lv_aload_n hx hb d_M_faultsOf_12 rfl (lv_at hl 0 rfl) ?_
        refine va_get (D := (dC, dI)) (ci := 4) (v := .ref (am 5)) (C := R_M) (T := F_M) (N := 12) hx hb htb in_M hown hK hP 0 rfl rfl 6 (by decide) (htb _ wd_416) (fun _ h9 => h9) rfl d_M_faultsOf_13 ?_
        refine lv_aload_n hx hb d_M_faultsOf_16 rfl (lv_at hl 1 rfl) ?_
        refine lv_iload_n hx hb d_M_faultsOf_17 rfl (lv_at hl 3 rfl) ?_
        refine bz_iald (v := nI (f i)) hx hb hK hP 7 0 rfl rfl (a9 := i) (by omega) (by decide) (rfl) d_M_faultsOf_18 ?_
        refine bz_lald (v := lN (bz_h t (f i))) hx hb hK hP 5 1 rfl rfl (a9 := (f i)) (hf i hin) (by decide) (rfl) d_M_faultsOf_19 ?_
        refine lv_lconst (v := 0) hx hb d_M_faultsOf_20 (by decide) ?_
        refine W.lcmp hx hb d_M_faultsOf_21 ?_
        refine lv_if_ne (tgt := 31) hx hb d_M_faultsOf_22 (by decide) (fun c_22 => ?_) (fun c_22 => ?_)
        · skip
          have hq : bz_zc t f i = false := decide_eq_false fun z => c_22 ((bz_lc_eq (b := 0) (by omega) (by omega)).mpr z)
          refine lv_iload_n hx hb d_M_faultsOf_31 rfl (lv_at hl 2 rfl) ?_
          refine bz_ri (y := nI (bz_ct (bz_zc t f) (i + 1))) (by rw [bz_ct_0 hq]) ?_
          refine lv_istore_n (lv' := [(2, .int (nI (bz_ct (bz_zc t f) (i + 1)))), (0, .ref (am 0)), (1, .ref (am 7)), (3, .int (nI i))]) hx hb d_M_faultsOf_32 rfl hl (by decide) rfl (fun ls hl => ?_)
          refine lv_iinc (v := nI (i + 1)) (lv' := [(3, .int (nI (i + 1))), (2, .int (nI (bz_ct (bz_zc t f) (i + 1)))), (0, .ref (am 0)), (1, .ref (am 7))]) hx hb d_M_faultsOf_33 hl (k := 3) rfl (nI_1 _) (by decide) rfl (fun ls hl => ?_)
          refine lv_goto (tgt := 4) hx hb d_M_faultsOf_36 (by decide) ?_
          exact ihlpa (i + 1) (by omega) (by omega) _ _ hP hD hS ls (lv_sub hl [2, 3, 1, 0] rfl)
        · skip
          have hq : bz_zc t f i = true := decide_eq_true ((bz_lc_eq (b := 0) (by omega) (by omega)).mp c_22)
          refine lv_iload_n hx hb d_M_faultsOf_25 rfl (lv_at hl 2 rfl) ?_
          refine lv_iconst (v := 1) hx hb d_M_faultsOf_26 (by decide) ?_
          refine lv_iadd hx hb d_M_faultsOf_27 ?_
          refine bz_ri (y := nI (bz_ct (bz_zc t f) (i + 1))) (by rw [bz_ct_1 hq]; exact nI_1 _) ?_
          refine lv_goto (tgt := 32) hx hb d_M_faultsOf_28 (by decide) ?_
          refine lv_istore_n (lv' := [(2, .int (nI (bz_ct (bz_zc t f) (i + 1)))), (0, .ref (am 0)), (1, .ref (am 7)), (3, .int (nI i))]) hx hb d_M_faultsOf_32 rfl hl (by decide) rfl (fun ls hl => ?_)
          refine lv_iinc (v := nI (i + 1)) (lv' := [(3, .int (nI (i + 1))), (2, .int (nI (bz_ct (bz_zc t f) (i + 1)))), (0, .ref (am 0)), (1, .ref (am 7))]) hx hb d_M_faultsOf_33 hl (k := 3) rfl (nI_1 _) (by decide) rfl (fun ls hl => ?_)
          refine lv_goto (tgt := 4) hx hb d_M_faultsOf_36 (by decide) ?_
          exact ihlpa (i + 1) (by omega) (by omega) _ _ hP hD hS ls (lv_sub hl [2, 3, 1, 0] rfl)
  exact lpa _ 0 (Nat.lt_succ_self _) (by omega) _ _ hP hD hS ls (lv_sub hl [2, 3, 1, 0] rfl)

set_option maxHeartbeats 4000000 in
set_option maxRecDepth 100000 in
/-- cost of share -/
theorem c_M_cost_share (l : Launch) (dC : Nat → ClassId) (dI : Nat → Nat → Nat) (sz : Nat) (am : Nat → Nat) (cI cL cZ : ClassId) (t : bz_T) (th sv ex : Int32) (f : Nat → Nat) (S2 S3 : Nat → Int32) (ht : bz_ok t) (hf : ∀ a, a < bz_n t → f a < 4) : Met l y_M_cost w_M_cost ({ frames := 3, cells := 0, slots := 0, locals := 75 }) (bz_Pw (dC, dI) [(cI, .int), (cL, .long), (cZ, .boolean)] (bz_wM am cI cL cZ (bz_tM t) (th, sv, ex) ((fun a => nI (f a)), S2, S3)) sz [.ref (am 0), .ref (am 6)]) (bz_Qxl (dC, dI) [(cI, .int), (cL, .long), (cZ, .boolean)] (va_A (bz_wM am cI cL cZ (bz_tM t) (th, sv, ex) ((fun a => nI (f a)), S2, S3)) sz) (fun r9 (u : Nat → Int32) => r9 = lN (bz_co t (bz_fu f))) (fun u : Nat → Int32 => bz_wM am cI cL cZ (bz_tM t) (th, sv, ex) ((fun a => nI (f a)), S2, u))) 0 0 (va_A (bz_wM am cI cL cZ (bz_tM t) (th, sv, ex) ((fun a => nI (f a)), S2, S3)) sz) := by
  refine Met.ofW (cc := b_M_cost) (maxL := 2) (ret := (some .long)) (by decide) rfl ?_
  intro p e s m args below meth c s₁ B hml hv
  obtain ⟨rfl, hsz, hP, hK, hD0, hN⟩ := hv
  have hx := B.exec
  have hb := B.bytes
  have hr := B.returns
  have hts := atoms_spec (ws := w_M_cost) B.pre
  have hown : s.vm.findClass R_M = some m.cls := findClass_of_methodNamed B.named
  have htb : ∀ w ∈ bz_tb, w.before _ s = true := fun w h => hts w (List.mem_cons_of_mem _ h)
  have hlocks := B.notSynchronized
  subst hsz
  have hD := hD0.self (sz := s.heap.size)
  generalize hAe : va_A (bz_wM am cI cL cZ (bz_tM t) (th, sv, ex) ((fun a => nI (f a)), S2, S3)) s.heap.size = A at hD ⊢
  have hA : ∀ q : Nat, s.heap.size ≤ q → A q := fun q h => by rw [← hAe]; exact Or.inr h
  have hS : va_S A s.heap s.heap [] := va_S.rf
  have hl := lv_entry ([.ref (am 0), .ref (am 6)]) (n := 2) (Nat.le_of_ble_eq_true rfl)
  rw [lg_entry_eq]
  generalize (lg_sl ([.ref (am 0), .ref (am 6)]) ++ List.replicate (2 - (lg_sl ([.ref (am 0), .ref (am 6)])).length) Slot.unset).toArray = ls at hl ⊢
  have hl : lv_has ls 2 [(0, .ref (am 0)), (1, .ref (am 6))] := hl
  refine lv_aload_n hx hb d_M_cost_0 rfl (lv_at hl 0 rfl) ?_
  refine lv_aload_n hx hb d_M_cost_1 rfl (lv_at hl 1 rfl) ?_
  refine bz_cxi (va_runV (As := [.ref (am 6)]) (rest := []) ⟨hx, hb, hml, hown, htb⟩ (c_M_faultsOf_share l dC dI _ am cI cL cZ t th sv ex f S2 S3 ht hf) (cwV 1 htb (bz_gV wd_500 wd_497 wd_499 wd_9 wd_23) rfl rfl rfl (by decide +kernel) ⟨Nat.le_of_ble_eq_true rfl, Nat.le_of_ble_eq_true rfl⟩) (bz_wv hN hK hP hD (q0 := 0) rfl rfl) rfl rfl hl.1 rfl (lv_room (Nat.le_of_ble_eq_true rfl)) d_M_cost_2 ⟨Nat.zero_le _, Nat.zero_le _⟩) hD hS hA (fun r9 u hu H locs hP hD hS => ?_)
  obtain rfl : r9 = nI (bz_ft t (bz_fu f)) := hu
  have hP : va_P (dC, dI) vwCl (bz_wM am cI cL cZ (bz_tM t) (th, sv, ex) ((fun a => nI (f a)), S2, u)) H := hP
  have hD : va_D A (bz_wM am cI cL cZ (bz_tM t) (th, sv, ex) ((fun a => nI (f a)), S2, u)) := hD
  refine lv_i2l hx hb d_M_cost_5 rfl ?_
  refine bz_rl (y := lN (bz_ft t (bz_fu f))) (nI_l (by have := bz_ft_le ht (bz_fu f); omega)) ?_
  refine lv_ldc2 (v := 1000000000000) hx hb hown (htb _ wd_515) d_M_cost_6 ?_
  refine lv_lmul hx hb d_M_cost_9 ?_
  refine lv_ldc2 (v := 100) hx hb hown (htb _ wd_516) d_M_cost_10 ?_
  refine lv_aload_n hx hb d_M_cost_13 rfl (lv_at hl 0 rfl) ?_
  refine lv_aload_n hx hb d_M_cost_14 rfl (lv_at hl 1 rfl) ?_
  refine bz_sl (va_runV (As := [.ref (am 6)]) (rest := [.long 100, .long ((lN (bz_ft t (bz_fu f))) * 1000000000000)]) ⟨hx, hb, hml, hown, htb⟩ (c_M_greatest_share l dC dI am cI cL cZ t th sv ex f S2 u ht hf) (cwV 1 htb (bz_gV wd_520 wd_517 wd_519 wd_13 wd_23) rfl rfl rfl (by decide +kernel) ⟨Nat.le_of_ble_eq_true rfl, Nat.le_of_ble_eq_true rfl⟩) (bz_rv hN hK hP (q0 := 0) rfl rfl) rfl rfl hl.1 rfl (lv_room (Nat.le_of_ble_eq_true rfl)) d_M_cost_15 ⟨Nat.zero_le _, Nat.zero_le _⟩) ?_
  refine lv_lmul hx hb d_M_cost_18 ?_
  refine lv_ladd hx hb d_M_cost_19 ?_
  refine lv_aload_n hx hb d_M_cost_20 rfl (lv_at hl 0 rfl) ?_
  refine lv_aload_n hx hb d_M_cost_21 rfl (lv_at hl 1 rfl) ?_
  refine bz_si (va_runV (As := [.ref (am 6)]) (rest := [.long (((lN (bz_ft t (bz_fu f))) * 1000000000000) + (100 * (lN (bz_gl t (bz_fu f)))))]) ⟨hx, hb, hml, hown, htb⟩ (c_M_changedIn_share l dC dI am cI cL cZ t th sv ex f S2 u ht hf) (cwV 1 htb (bz_gV wd_524 wd_521 wd_523 wd_14 wd_23) rfl rfl rfl (by decide +kernel) ⟨Nat.le_of_ble_eq_true rfl, Nat.le_of_ble_eq_true rfl⟩) (bz_rv hN hK hP (q0 := 0) rfl rfl) rfl rfl hl.1 rfl (lv_room (Nat.le_of_ble_eq_true rfl)) d_M_cost_22 ⟨Nat.zero_le _, Nat.zero_le _⟩) ?_
  refine lv_i2l hx hb d_M_cost_25 rfl ?_
  refine bz_rl (y := lN (bz_ch t (bz_fu f))) (nI_l (by have := bz_ch_le ht (bz_fu f); omega)) ?_
  refine lv_ladd hx hb d_M_cost_26 ?_
  refine bz_rl (y := lN (bz_co t (bz_fu f))) (bz_cost_m _) ?_
  exact W.lret (v := lN (bz_co t (bz_fu f))) hx hb hr (fun t9 ht9 hW => ⟨⟨_, u, rfl, rfl, by rw [ht9]; exact hP, va_K.moved hW.alike hK, hD⟩, hS.F ht9⟩) hS.2.2 d_M_cost_27

set_option maxHeartbeats 4000000 in
set_option maxRecDepth 100000 in
/-- cost of tried -/
theorem c_M_cost_tried (l : Launch) (dC : Nat → ClassId) (dI : Nat → Nat → Nat) (sz : Nat) (am : Nat → Nat) (cI cL cZ : ClassId) (t : bz_T) (th sv ex : Int32) (f : Nat → Nat) (S2 S3 : Nat → Int32) (ht : bz_ok t) (hf : ∀ a, a < bz_n t → f a < 4) : Met l y_M_cost w_M_cost ({ frames := 3, cells := 0, slots := 0, locals := 75 }) (bz_Pw (dC, dI) [(cI, .int), (cL, .long), (cZ, .boolean)] (bz_wM am cI cL cZ (bz_tM t) (th, sv, ex) (S2, (fun a => nI (f a)), S3)) sz [.ref (am 0), .ref (am 7)]) (bz_Qxl (dC, dI) [(cI, .int), (cL, .long), (cZ, .boolean)] (va_A (bz_wM am cI cL cZ (bz_tM t) (th, sv, ex) (S2, (fun a => nI (f a)), S3)) sz) (fun r9 (u : Nat → Int32) => r9 = lN (bz_co t (bz_fu f))) (fun u : Nat → Int32 => bz_wM am cI cL cZ (bz_tM t) (th, sv, ex) (S2, (fun a => nI (f a)), u))) 0 0 (va_A (bz_wM am cI cL cZ (bz_tM t) (th, sv, ex) (S2, (fun a => nI (f a)), S3)) sz) := by
  refine Met.ofW (cc := b_M_cost) (maxL := 2) (ret := (some .long)) (by decide) rfl ?_
  intro p e s m args below meth c s₁ B hml hv
  obtain ⟨rfl, hsz, hP, hK, hD0, hN⟩ := hv
  have hx := B.exec
  have hb := B.bytes
  have hr := B.returns
  have hts := atoms_spec (ws := w_M_cost) B.pre
  have hown : s.vm.findClass R_M = some m.cls := findClass_of_methodNamed B.named
  have htb : ∀ w ∈ bz_tb, w.before _ s = true := fun w h => hts w (List.mem_cons_of_mem _ h)
  have hlocks := B.notSynchronized
  subst hsz
  have hD := hD0.self (sz := s.heap.size)
  generalize hAe : va_A (bz_wM am cI cL cZ (bz_tM t) (th, sv, ex) (S2, (fun a => nI (f a)), S3)) s.heap.size = A at hD ⊢
  have hA : ∀ q : Nat, s.heap.size ≤ q → A q := fun q h => by rw [← hAe]; exact Or.inr h
  have hS : va_S A s.heap s.heap [] := va_S.rf
  have hl := lv_entry ([.ref (am 0), .ref (am 7)]) (n := 2) (Nat.le_of_ble_eq_true rfl)
  rw [lg_entry_eq]
  generalize (lg_sl ([.ref (am 0), .ref (am 7)]) ++ List.replicate (2 - (lg_sl ([.ref (am 0), .ref (am 7)])).length) Slot.unset).toArray = ls at hl ⊢
  have hl : lv_has ls 2 [(0, .ref (am 0)), (1, .ref (am 7))] := hl
  refine lv_aload_n hx hb d_M_cost_0 rfl (lv_at hl 0 rfl) ?_
  refine lv_aload_n hx hb d_M_cost_1 rfl (lv_at hl 1 rfl) ?_
  refine bz_cxi (va_runV (As := [.ref (am 7)]) (rest := []) ⟨hx, hb, hml, hown, htb⟩ (c_M_faultsOf_tried l dC dI _ am cI cL cZ t th sv ex f S2 S3 ht hf) (cwV 1 htb (bz_gV wd_500 wd_497 wd_499 wd_9 wd_23) rfl rfl rfl (by decide +kernel) ⟨Nat.le_of_ble_eq_true rfl, Nat.le_of_ble_eq_true rfl⟩) (bz_wv hN hK hP hD (q0 := 0) rfl rfl) rfl rfl hl.1 rfl (lv_room (Nat.le_of_ble_eq_true rfl)) d_M_cost_2 ⟨Nat.zero_le _, Nat.zero_le _⟩) hD hS hA (fun r9 u hu H locs hP hD hS => ?_)
  obtain rfl : r9 = nI (bz_ft t (bz_fu f)) := hu
  have hP : va_P (dC, dI) vwCl (bz_wM am cI cL cZ (bz_tM t) (th, sv, ex) (S2, (fun a => nI (f a)), u)) H := hP
  have hD : va_D A (bz_wM am cI cL cZ (bz_tM t) (th, sv, ex) (S2, (fun a => nI (f a)), u)) := hD
  refine lv_i2l hx hb d_M_cost_5 rfl ?_
  refine bz_rl (y := lN (bz_ft t (bz_fu f))) (nI_l (by have := bz_ft_le ht (bz_fu f); omega)) ?_
  refine lv_ldc2 (v := 1000000000000) hx hb hown (htb _ wd_515) d_M_cost_6 ?_
  refine lv_lmul hx hb d_M_cost_9 ?_
  refine lv_ldc2 (v := 100) hx hb hown (htb _ wd_516) d_M_cost_10 ?_
  refine lv_aload_n hx hb d_M_cost_13 rfl (lv_at hl 0 rfl) ?_
  refine lv_aload_n hx hb d_M_cost_14 rfl (lv_at hl 1 rfl) ?_
  refine bz_sl (va_runV (As := [.ref (am 7)]) (rest := [.long 100, .long ((lN (bz_ft t (bz_fu f))) * 1000000000000)]) ⟨hx, hb, hml, hown, htb⟩ (c_M_greatest_tried l dC dI am cI cL cZ t th sv ex f S2 u ht hf) (cwV 1 htb (bz_gV wd_520 wd_517 wd_519 wd_13 wd_23) rfl rfl rfl (by decide +kernel) ⟨Nat.le_of_ble_eq_true rfl, Nat.le_of_ble_eq_true rfl⟩) (bz_rv hN hK hP (q0 := 0) rfl rfl) rfl rfl hl.1 rfl (lv_room (Nat.le_of_ble_eq_true rfl)) d_M_cost_15 ⟨Nat.zero_le _, Nat.zero_le _⟩) ?_
  refine lv_lmul hx hb d_M_cost_18 ?_
  refine lv_ladd hx hb d_M_cost_19 ?_
  refine lv_aload_n hx hb d_M_cost_20 rfl (lv_at hl 0 rfl) ?_
  refine lv_aload_n hx hb d_M_cost_21 rfl (lv_at hl 1 rfl) ?_
  refine bz_si (va_runV (As := [.ref (am 7)]) (rest := [.long (((lN (bz_ft t (bz_fu f))) * 1000000000000) + (100 * (lN (bz_gl t (bz_fu f)))))]) ⟨hx, hb, hml, hown, htb⟩ (c_M_changedIn_tried l dC dI am cI cL cZ t th sv ex f S2 u ht hf) (cwV 1 htb (bz_gV wd_524 wd_521 wd_523 wd_14 wd_23) rfl rfl rfl (by decide +kernel) ⟨Nat.le_of_ble_eq_true rfl, Nat.le_of_ble_eq_true rfl⟩) (bz_rv hN hK hP (q0 := 0) rfl rfl) rfl rfl hl.1 rfl (lv_room (Nat.le_of_ble_eq_true rfl)) d_M_cost_22 ⟨Nat.zero_le _, Nat.zero_le _⟩) ?_
  refine lv_i2l hx hb d_M_cost_25 rfl ?_
  refine bz_rl (y := lN (bz_ch t (bz_fu f))) (nI_l (by have := bz_ch_le ht (bz_fu f); omega)) ?_
  refine lv_ladd hx hb d_M_cost_26 ?_
  refine bz_rl (y := lN (bz_co t (bz_fu f))) (bz_cost_m _) ?_
  exact W.lret (v := lN (bz_co t (bz_fu f))) hx hb hr (fun t9 ht9 hW => ⟨⟨_, u, rfl, rfl, by rw [ht9]; exact hP, va_K.moved hW.alike hK, hD⟩, hS.F ht9⟩) hS.2.2 d_M_cost_27
end
section
theorem d_M_tryAll_0 : decode b_M_tryAll 0 = .ok (.iconst 1, 1) := by decide +kernel
theorem d_M_tryAll_1 : decode b_M_tryAll 1 = .ok (.istore_n 1, 1) := by decide +kernel
theorem d_M_tryAll_2 : decode b_M_tryAll 2 = .ok (.iconst 0, 1) := by decide +kernel
theorem d_M_tryAll_3 : decode b_M_tryAll 3 = .ok (.istore_n 2, 1) := by decide +kernel
theorem d_M_tryAll_4 : decode b_M_tryAll 4 = .ok (.iload_n 2, 1) := by decide +kernel
theorem d_M_tryAll_5 : decode b_M_tryAll 5 = .ok (.aload_n 0, 1) := by decide +kernel
theorem d_M_tryAll_6 : decode b_M_tryAll 6 = .ok (.getfield 36, 3) := by decide +kernel
theorem d_M_tryAll_9 : decode b_M_tryAll 9 = .ok (.if_icmp .ge 13, 3) := by decide +kernel
theorem d_M_tryAll_12 : decode b_M_tryAll 12 = .ok (.iconst 4, 1) := by decide +kernel
theorem d_M_tryAll_13 : decode b_M_tryAll 13 = .ok (.iload_n 1, 1) := by decide +kernel
theorem d_M_tryAll_14 : decode b_M_tryAll 14 = .ok (.imul, 1) := by decide +kernel
theorem d_M_tryAll_15 : decode b_M_tryAll 15 = .ok (.istore_n 1, 1) := by decide +kernel
theorem d_M_tryAll_16 : decode b_M_tryAll 16 = .ok (.iinc 2 1, 3) := by decide +kernel
theorem d_M_tryAll_19 : decode b_M_tryAll 19 = .ok (.goto (-15), 3) := by decide +kernel
theorem d_M_tryAll_22 : decode b_M_tryAll 22 = .ok (.ldc2_w 98, 3) := by decide +kernel
theorem d_M_tryAll_25 : decode b_M_tryAll 25 = .ok (.lstore_n 2, 1) := by decide +kernel
theorem d_M_tryAll_26 : decode b_M_tryAll 26 = .ok (.iconst 0, 1) := by decide +kernel
theorem d_M_tryAll_27 : decode b_M_tryAll 27 = .ok (.istore 4, 2) := by decide +kernel
theorem d_M_tryAll_29 : decode b_M_tryAll 29 = .ok (.iload 4, 2) := by decide +kernel
theorem d_M_tryAll_31 : decode b_M_tryAll 31 = .ok (.iload_n 1, 1) := by decide +kernel
theorem d_M_tryAll_32 : decode b_M_tryAll 32 = .ok (.if_icmp .ge 101, 3) := by decide +kernel
theorem d_M_tryAll_35 : decode b_M_tryAll 35 = .ok (.iload 4, 2) := by decide +kernel
theorem d_M_tryAll_37 : decode b_M_tryAll 37 = .ok (.istore 5, 2) := by decide +kernel
theorem d_M_tryAll_39 : decode b_M_tryAll 39 = .ok (.aload_n 0, 1) := by decide +kernel
theorem d_M_tryAll_40 : decode b_M_tryAll 40 = .ok (.getfield 36, 3) := by decide +kernel
theorem d_M_tryAll_43 : decode b_M_tryAll 43 = .ok (.iconst 1, 1) := by decide +kernel
theorem d_M_tryAll_44 : decode b_M_tryAll 44 = .ok (.isub, 1) := by decide +kernel
theorem d_M_tryAll_45 : decode b_M_tryAll 45 = .ok (.istore 6, 2) := by decide +kernel
theorem d_M_tryAll_47 : decode b_M_tryAll 47 = .ok (.iload 6, 2) := by decide +kernel
theorem d_M_tryAll_49 : decode b_M_tryAll 49 = .ok (.ifCond .lt 26, 3) := by decide +kernel
theorem d_M_tryAll_52 : decode b_M_tryAll 52 = .ok (.aload_n 0, 1) := by decide +kernel
theorem d_M_tryAll_53 : decode b_M_tryAll 53 = .ok (.getfield 30, 3) := by decide +kernel
theorem d_M_tryAll_56 : decode b_M_tryAll 56 = .ok (.iload 6, 2) := by decide +kernel
theorem d_M_tryAll_58 : decode b_M_tryAll 58 = .ok (.iload 5, 2) := by decide +kernel
theorem d_M_tryAll_60 : decode b_M_tryAll 60 = .ok (.iconst 4, 1) := by decide +kernel
theorem d_M_tryAll_61 : decode b_M_tryAll 61 = .ok (.irem, 1) := by decide +kernel
theorem d_M_tryAll_62 : decode b_M_tryAll 62 = .ok (.iastore, 1) := by decide +kernel
theorem d_M_tryAll_63 : decode b_M_tryAll 63 = .ok (.iload 5, 2) := by decide +kernel
theorem d_M_tryAll_65 : decode b_M_tryAll 65 = .ok (.iconst 4, 1) := by decide +kernel
theorem d_M_tryAll_66 : decode b_M_tryAll 66 = .ok (.idiv, 1) := by decide +kernel
theorem d_M_tryAll_67 : decode b_M_tryAll 67 = .ok (.istore 5, 2) := by decide +kernel
theorem d_M_tryAll_69 : decode b_M_tryAll 69 = .ok (.iinc 6 (-1), 3) := by decide +kernel
theorem d_M_tryAll_72 : decode b_M_tryAll 72 = .ok (.goto (-25), 3) := by decide +kernel
theorem d_M_tryAll_75 : decode b_M_tryAll 75 = .ok (.aload_n 0, 1) := by decide +kernel
theorem d_M_tryAll_76 : decode b_M_tryAll 76 = .ok (.aload_n 0, 1) := by decide +kernel
theorem d_M_tryAll_77 : decode b_M_tryAll 77 = .ok (.getfield 30, 3) := by decide +kernel
theorem d_M_tryAll_80 : decode b_M_tryAll 80 = .ok (.invokevirtual 100, 3) := by decide +kernel
theorem d_M_tryAll_83 : decode b_M_tryAll 83 = .ok (.lstore 6, 2) := by decide +kernel
theorem d_M_tryAll_85 : decode b_M_tryAll 85 = .ok (.lload 6, 2) := by decide +kernel
theorem d_M_tryAll_87 : decode b_M_tryAll 87 = .ok (.lload_n 2, 1) := by decide +kernel
theorem d_M_tryAll_88 : decode b_M_tryAll 88 = .ok (.lcmp, 1) := by decide +kernel
theorem d_M_tryAll_89 : decode b_M_tryAll 89 = .ok (.ifCond .ge 38, 3) := by decide +kernel
theorem d_M_tryAll_92 : decode b_M_tryAll 92 = .ok (.lload 6, 2) := by decide +kernel
theorem d_M_tryAll_94 : decode b_M_tryAll 94 = .ok (.lstore_n 2, 1) := by decide +kernel
theorem d_M_tryAll_95 : decode b_M_tryAll 95 = .ok (.iconst 0, 1) := by decide +kernel
theorem d_M_tryAll_96 : decode b_M_tryAll 96 = .ok (.istore 8, 2) := by decide +kernel
theorem d_M_tryAll_98 : decode b_M_tryAll 98 = .ok (.iload 8, 2) := by decide +kernel
theorem d_M_tryAll_100 : decode b_M_tryAll 100 = .ok (.aload_n 0, 1) := by decide +kernel
theorem d_M_tryAll_101 : decode b_M_tryAll 101 = .ok (.getfield 36, 3) := by decide +kernel
theorem d_M_tryAll_104 : decode b_M_tryAll 104 = .ok (.if_icmp .ge 23, 3) := by decide +kernel
theorem d_M_tryAll_107 : decode b_M_tryAll 107 = .ok (.aload_n 0, 1) := by decide +kernel
theorem d_M_tryAll_108 : decode b_M_tryAll 108 = .ok (.getfield 27, 3) := by decide +kernel
theorem d_M_tryAll_111 : decode b_M_tryAll 111 = .ok (.iload 8, 2) := by decide +kernel
theorem d_M_tryAll_113 : decode b_M_tryAll 113 = .ok (.aload_n 0, 1) := by decide +kernel
theorem d_M_tryAll_114 : decode b_M_tryAll 114 = .ok (.getfield 30, 3) := by decide +kernel
theorem d_M_tryAll_117 : decode b_M_tryAll 117 = .ok (.iload 8, 2) := by decide +kernel
theorem d_M_tryAll_119 : decode b_M_tryAll 119 = .ok (.iaload, 1) := by decide +kernel
theorem d_M_tryAll_120 : decode b_M_tryAll 120 = .ok (.iastore, 1) := by decide +kernel
theorem d_M_tryAll_121 : decode b_M_tryAll 121 = .ok (.iinc 8 1, 3) := by decide +kernel
theorem d_M_tryAll_124 : decode b_M_tryAll 124 = .ok (.goto (-26), 3) := by decide +kernel
theorem d_M_tryAll_127 : decode b_M_tryAll 127 = .ok (.iinc 4 1, 3) := by decide +kernel
theorem d_M_tryAll_130 : decode b_M_tryAll 130 = .ok (.goto (-101), 3) := by decide +kernel
theorem d_M_tryAll_133 : decode b_M_tryAll 133 = .ok (.return_, 1) := by decide +kernel

theorem bz_mr_x (x : Nat) : bz_mr x x = x := if_pos (Nat.le_refl x)
def bz_ms (lf n a r : Nat) : Nat := lf * (4 * n + 5) + (4 * (n - a) - r)
theorem bz_ms_1 {lf n a r a2 r2 : Nat} (h : 0 < lf) : bz_ms (lf - 1) n a2 r2 < bz_ms lf n a r := by
  unfold bz_ms
  obtain ⟨k, rfl⟩ : ∃ k, lf = k + 1 := ⟨lf - 1, by omega⟩
  have e : (k + 1) * (4 * n + 5) = k * (4 * n + 5) + (4 * n + 5) := Nat.succ_mul _ _
  rw [Nat.add_sub_cancel, e]
  omega
theorem bz_ms_2 {lf n a r : Nat} (ha : a < n) (hr : r < 4) : bz_ms lf n a (r + 1) < bz_ms lf n a r := by
  unfold bz_ms
  omega
theorem bz_ms_3 {lf n a r : Nat} (ha : a < n) (hr : r + 1 = 4) : bz_ms lf n (a + 1) 0 < bz_ms lf n a r := by
  unfold bz_ms
  omega
/-- a row as a number to the base of four -/
def bz_cd (s : Nat → Nat) : Nat → Nat
  | 0 => 0
  | i + 1 => 4 * bz_cd s i + s i
theorem bz_cd_lt {s : Nat → Nat} : ∀ {n : Nat}, (∀ a, a < n → s a < 4) → bz_cd s n < 4 ^ n
  | 0, _ => by
    show (0 : Nat) < 1
    omega
  | n + 1, h => by
    have h1 := bz_cd_lt (s := s) (n := n) (fun a ha => h a (by omega))
    have h2 := h n (by omega)
    show 4 * bz_cd s n + s n < 4 ^ (n + 1)
    rw [Nat.pow_succ]
    omega
theorem bz_cd_ext {s s2 : Nat → Nat} : ∀ {n : Nat}, (∀ a, a < n → s a = s2 a) → bz_cd s n = bz_cd s2 n
  | 0, _ => rfl
  | n + 1, h => by
    show 4 * bz_cd s n + s n = 4 * bz_cd s2 n + s2 n
    rw [bz_cd_ext (fun a ha => h a (by omega)), h n (by omega)]
theorem bz_cd_inj {s s2 : Nat → Nat} : ∀ {n : Nat}, (∀ a, a < n → s a < 4) → (∀ a, a < n → s2 a < 4) → bz_cd s n = bz_cd s2 n → ∀ a, a < n → s a = s2 a
  | 0, _, _, _, a, ha => absurd ha (by omega)
  | n + 1, h1, h2, he, a, ha => by
    have he : 4 * bz_cd s n + s n = 4 * bz_cd s2 n + s2 n := he
    have q1 := h1 n (by omega)
    have q2 := h2 n (by omega)
    by_cases e : a = n
    · subst e
      omega
    · exact bz_cd_inj (n := n) (fun a ha => h1 a (by omega)) (fun a ha => h2 a (by omega)) (by omega) a (by omega)
theorem bz_cd_lx {s s2 : Nat → Nat} : ∀ {n : Nat}, (∀ a, a < n → s a < 4) → (∀ a, a < n → s2 a < 4) → bz_cd s n < bz_cd s2 n → ∃ a, a < n ∧ (∀ i, i < a → s i = s2 i) ∧ s a < s2 a
  | 0, _, _, h => absurd h (by simp [bz_cd])
  | n + 1, h1, h2, h => by
    have h : 4 * bz_cd s n + s n < 4 * bz_cd s2 n + s2 n := h
    have q1 := h1 n (by omega)
    have q2 := h2 n (by omega)
    by_cases e : bz_cd s n = bz_cd s2 n
    · exact ⟨n, by omega, bz_cd_inj (fun a ha => h1 a (by omega)) (fun a ha => h2 a (by omega)) e, by omega⟩
    · obtain ⟨a, a1, a2, a3⟩ := bz_cd_lx (s := s) (s2 := s2) (n := n) (fun a ha => h1 a (by omega)) (fun a ha => h2 a (by omega)) (by omega)
      exact ⟨a, by omega, a2, a3⟩
theorem bz_cd_dg {y : Nat → Nat} {n k : Nat} (hk : k < 4 ^ n) (hy : ∀ a, a < n → y a = k / 4 ^ (n - 1 - a) % 4) : ∀ i, i ≤ n → bz_cd y i = k / 4 ^ (n - i)
  | 0, _ => by
    show 0 = _
    rw [Nat.sub_zero, Nat.div_eq_of_lt hk]
  | i + 1, hi => by
    have ih := bz_cd_dg hk hy i (by omega)
    show 4 * bz_cd y i + y i = _
    rw [ih, hy i (by omega), show n - 1 - i = n - (i + 1) by omega, show n - i = n - (i + 1) + 1 by omega, Nat.pow_succ, ← Nat.div_div_eq_div_mul]
    omega
def bz_Ec (t : bz_T) (k : Nat) (s : Nat → Nat) : Prop := (∀ a, a < bz_n t → s a < 4) ∧ bz_cd s (bz_n t) < k
theorem bz_Ec_0 {t : bz_T} {b : Nat × (Nat → Nat)} : bz_up t (bz_Ec t 0) b b := Or.inl ⟨rfl, fun _ _ => rfl, fun _ hs => absurd hs.2 (by omega)⟩
theorem bz_Ec_1 {t : bz_T} {k : Nat} {y : Nat → Nat} {b c d : Nat × (Nat → Nat)} (hk : k < 4 ^ bz_n t) (hy : ∀ a, a < bz_n t → y a = k / 4 ^ (bz_n t - 1 - a) % 4) (h1 : bz_up t (bz_Ec t k) b c) (h2 : bz_up t (bz_E t (bz_n t) y) c d) : bz_up t (bz_Ec t (k + 1)) b d := by
  have hy4 : ∀ a, a < bz_n t → y a < 4 := fun a ha => by rw [hy a ha]; exact Nat.mod_lt _ (by omega)
  have hcy : bz_cd y (bz_n t) = k := by
    rw [bz_cd_dg hk hy (bz_n t) (Nat.le_refl _), Nat.sub_self, Nat.pow_zero, Nat.div_one]
  have hE2 : ∀ s, bz_E t (bz_n t) y s → bz_cd s (bz_n t) = k := fun s hs => by
    rw [bz_cd_ext fun a ha => hs.2 a ha ha]
    exact hcy
  refine bz_seq (E1 := bz_Ec t k) (E2 := bz_E t (bz_n t) y) (fun s => ⟨?_, ?_⟩) (fun s1 s2 q1 q2 => ?_) (fun s s2 q h => ?_) h1 h2
  · rintro ⟨q1, q2⟩
    by_cases e : bz_cd s (bz_n t) < k
    · exact Or.inl ⟨q1, e⟩
    · exact Or.inr ⟨q1, fun a _ ha => bz_cd_inj q1 hy4 (by omega) a ha⟩
  · rintro (⟨q1, q2⟩ | q)
    · exact ⟨q1, by omega⟩
    · exact ⟨q.1, by have := hE2 s q; omega⟩
  · exact Or.inr (bz_cd_lx q1.1 q2.1 (by rw [hE2 s2 q2]; exact q1.2))
  · exact ⟨fun a ha => by rw [h a ha]; exact q.1 a ha, by rw [bz_cd_ext h]; exact q.2⟩
theorem bz_Ec_n {t : bz_T} (ht : bz_ok t) {k : Nat} (hk : 4 ^ bz_n t ≤ k) {g : Nat → Nat} {c : Nat × (Nat → Nat)} (h : bz_up t (bz_Ec t k) (9223372036854775807, g) c) : bz_bs t c.2 :=
  bz_bs_of ht.2.2.1 (by show bz_co t (bz_fu (bz_d t)) < 9223372036854775807; have := bz_co_le ht (bz_fu (bz_d t)); omega) (bz_up_iff (E2 := bz_E t 0 g) (fun s => ⟨fun q => ⟨q.1, fun a ha => absurd ha (by omega)⟩, fun q => ⟨q.1, by have := bz_cd_lt q.1; omega⟩⟩) h)
theorem bz_im1 (x : Int32) : x + Int32.ofInt (-1) = x - 1 := by rw [Int32.sub_eq_add_neg]; rfl

set_option maxHeartbeats 4000000 in
set_option maxRecDepth 100000 in
/-- tryMoves -/
theorem c_M_tryMoves (l : Launch) (dC : Nat → ClassId) (dI : Nat → Nat → Nat) (sz : Nat) (am : Nat → Nat) (cI cL cZ : ClassId) (t : bz_T) (th sv ex : Int32) (g0 : Nat → Nat) (S2 S3 : Nat → Int32) (ht : bz_ok t) (K : Nat) (hK0 : K ≤ 100000) : Met l y_M_tryMoves w_M_tryMoves ({ frames := 4, cells := 0, slots := 0, locals := 96 }) (bz_Pw (dC, dI) [(cI, .int), (cL, .long), (cZ, .boolean)] (bz_wM am cI cL cZ (bz_tM t) (th, sv, ex) ((fun a => nI (g0 a)), S2, S3)) sz [.ref (am 0), .long (lN K)]) (bz_Qx (dC, dI) [(cI, .int), (cL, .long), (cZ, .boolean)] (va_A (bz_wM am cI cL cZ (bz_tM t) (th, sv, ex) ((fun a => nI (g0 a)), S2, S3)) sz) (fun u : (Nat → Nat) × (Nat → Int32) => (∀ a, a < bz_n t → u.1 a < 4) ∧ ∀ a, a < bz_n t → u.1 a = bz_mv t K 0 (bz_d t) a) (fun u : (Nat → Nat) × (Nat → Int32) => bz_wM am cI cL cZ (bz_tM t) (th, sv, ex) ((fun a => nI (u.1 a)), S2, u.2))) 0 0 (va_A (bz_wM am cI cL cZ (bz_tM t) (th, sv, ex) ((fun a => nI (g0 a)), S2, S3)) sz) := by
  refine Met.ofW (cc := b_M_tryMoves) (maxL := 13) (ret := none) (by decide) rfl ?_
  intro p e s m args below meth c s₁ B hml hv
  obtain ⟨rfl, hsz, hP, hK, hD0, hN⟩ := hv
  have hx := B.exec
  have hb := B.bytes
  have hr := B.returns
  have hts := atoms_spec (ws := w_M_tryMoves) B.pre
  have hown : s.vm.findClass R_M = some m.cls := findClass_of_methodNamed B.named
  have htb : ∀ w ∈ bz_tb, w.before _ s = true := fun w h => hts w (List.mem_cons_of_mem _ h)
  have hlocks := B.notSynchronized
  subst hsz
  have hD := hD0.self (sz := s.heap.size)
  generalize hAe : va_A (bz_wM am cI cL cZ (bz_tM t) (th, sv, ex) ((fun a => nI (g0 a)), S2, S3)) s.heap.size = A at hD ⊢
  have hA : ∀ q : Nat, s.heap.size ≤ q → A q := fun q h => by rw [← hAe]; exact Or.inr h
  have hS : va_S A s.heap s.heap [] := va_S.rf
  have hl := lv_entry ([.ref (am 0), .long (lN K)]) (n := 13) (Nat.le_of_ble_eq_true rfl)
  rw [lg_entry_eq]
  generalize (lg_sl ([.ref (am 0), .long (lN K)]) ++ List.replicate (13 - (lg_sl ([.ref (am 0), .long (lN K)])).length) Slot.unset).toArray = ls at hl ⊢
  have hl : lv_has ls 13 [(0, .ref (am 0)), (1, .long (lN K))] := hl
  have hn30 := ht.1
  refine lv_iconst (v := nI 0) hx hb d_M_tryMoves_0 (by decide) ?_
  refine lv_istore_n (lv' := [(3, .int (nI 0)), (0, .ref (am 0)), (1, .long (lN K))]) hx hb d_M_tryMoves_1 rfl hl (by decide) rfl (fun ls hl => ?_)
  have e9 : (fun a => nI (bz_cp (bz_d t) g0 0 a)) = (fun a => nI (g0 a)) := by rw [bz_cp_0]
  rw [← e9] at hP hD
  have lpc : ∀ (k9 : Nat) (i : Nat), bz_n t - i < k9 → (i ≤ bz_n t) → ∀ (H : Heap) (locs : List Loc), va_P (dC, dI) vwCl (bz_wM am cI cL cZ (bz_tM t) (th, sv, ex) ((fun a => nI (bz_cp (bz_d t) g0 i a)), S2, S3)) H → va_D A (bz_wM am cI cL cZ (bz_tM t) (th, sv, ex) ((fun a => nI (bz_cp (bz_d t) g0 i a)), S2, S3)) → va_S A s.heap H locs → ∀ (ls : Array Slot), lv_has ls 13 [(0, .ref (am 0)), (1, .long (lN K)), (3, .int (nI i))] → W p l e (headSpec w_M_tryMoves ({ frames := 4, cells := 0, slots := 0, locals := 96 })).room s m ([.ref (am 0), .long (lN K)]).toArray below meth c H locs 0 0 (MQ below (bz_Qx (dC, dI) [(cI, .int), (cL, .long), (cZ, .boolean)] A (fun u : (Nat → Nat) × (Nat → Int32) => (∀ a, a < bz_n t → u.1 a < 4) ∧ ∀ a, a < bz_n t → u.1 a = bz_mv t K 0 (bz_d t) a) (fun u : (Nat → Nat) × (Nat → Int32) => bz_wM am cI cL cZ (bz_tM t) (th, sv, ex) ((fun a => nI (u.1 a)), S2, u.2))) ([.ref (am 0), .long (lN K)]).toArray s 0 0 (A)) (F0 m 2 ls []) := by
    intro k9
    induction k9 with
    | zero =>
      intro i h9
      exact absurd h9 (Nat.not_lt_zero _)
    | succ k9 ihlpc =>
      intro i h9_lpc hi H locs hP hD hS ls hl
      refine lv_iload_n hx hb d_M_tryMoves_2 rfl (lv_at hl 2 rfl) ?_
      refine lv_aload_n hx hb d_M_tryMoves_3 rfl (lv_at hl 0 rfl) ?_
      refine va_get (D := (dC, dI)) (ci := 4) (v := .int (nI (bz_n t))) (C := R_M) (T := F_M) (N := 12) hx hb htb in_M hown hK hP 0 rfl rfl 1 (by decide) (htb _ wd_411) (fun _ h9 => h9) rfl d_M_tryMoves_4 ?_
      refine lv_icmp_ge (tgt := 28) hx hb d_M_tryMoves_7 (by decide) (fun c_7 => ?_) (fun c_7 => ?_)
      · skip
        have hin : i = bz_n t := by have := (nI_leI (by omega) (by omega)).mp c_7; omega
        have e9 : (fun a => nI (bz_cp (bz_d t) g0 (bz_n t) a)) = (fun a => nI (bz_cp (bz_d t) g0 i a)) := by rw [hin]
        rw [← e9] at hP hD
        refine lv_aload_n hx hb d_M_tryMoves_28 rfl (lv_at hl 0 rfl) ?_
        refine lv_aload_n hx hb d_M_tryMoves_29 rfl (lv_at hl 0 rfl) ?_
        refine va_get (D := (dC, dI)) (ci := 4) (v := .ref (am 6)) (C := R_M) (T := F_M) (N := 12) hx hb htb in_M hown hK hP 0 rfl rfl 9 (by decide) (htb _ wd_419) (fun _ h9 => h9) rfl d_M_tryMoves_30 ?_
        have hf : ∀ a, a < bz_n t → bz_cp (bz_d t) g0 (bz_n t) a < 4 := fun a ha => by rw [bz_cp_lo ha]; exact ht.2.2.1 a
        refine bz_cxl (va_runV (As := [.ref (am 6)]) (rest := []) ⟨hx, hb, hml, hown, htb⟩ (c_M_cost_share l dC dI _ am cI cL cZ t th sv ex (bz_cp (bz_d t) g0 (bz_n t)) S2 S3 ht hf) (cwV 1 htb (bz_gV wd_496 wd_493 wd_495 wd_8 wd_23) rfl rfl rfl (by decide +kernel) ⟨Nat.le_of_ble_eq_true rfl, Nat.le_of_ble_eq_true rfl⟩) (bz_wv hN hK hP hD (q0 := 0) rfl rfl) rfl rfl hl.1 rfl (lv_room (Nat.le_of_ble_eq_true rfl)) d_M_tryMoves_33 ⟨Nat.zero_le _, Nat.zero_le _⟩) hD hS hA (fun r9 u hu H locs hP hD hS => ?_)
        obtain rfl : r9 = lN (bz_co t (bz_fu (bz_cp (bz_d t) g0 (bz_n t)))) := hu
        have hP : va_P (dC, dI) vwCl (bz_wM am cI cL cZ (bz_tM t) (th, sv, ex) ((fun a => nI (bz_cp (bz_d t) g0 (bz_n t) a)), S2, u)) H := hP
        have hD : va_D A (bz_wM am cI cL cZ (bz_tM t) (th, sv, ex) ((fun a => nI (bz_cp (bz_d t) g0 (bz_n t) a)), S2, u)) := hD
        refine lv_lstore_n (lv' := [(3, .long (lN (bz_co t (bz_fu (bz_cp (bz_d t) g0 (bz_n t)))))), (0, .ref (am 0)), (1, .long (lN K))]) hx hb d_M_tryMoves_36 rfl hl (by decide) rfl (fun ls hl => ?_)
        refine lv_lload_n hx hb d_M_tryMoves_37 rfl (lv_at hl 2 rfl) ?_
        refine lv_lstore (lv' := [(5, .long (lN K)), (3, .long (lN (bz_co t (bz_fu (bz_cp (bz_d t) g0 (bz_n t)))))), (0, .ref (am 0)), (1, .long (lN K))]) hx hb d_M_tryMoves_38 hl (by decide) rfl (fun ls hl => ?_)
        refine lv_iconst (v := nI 0) hx hb d_M_tryMoves_40 (by decide) ?_
        refine lv_istore (lv' := [(7, .int (nI 0)), (5, .long (lN K)), (3, .long (lN (bz_co t (bz_fu (bz_cp (bz_d t) g0 (bz_n t)))))), (0, .ref (am 0)), (1, .long (lN K))]) hx hb d_M_tryMoves_41 hl (by decide) rfl (fun ls hl => ?_)
        refine lv_iconst (v := nI 0) hx hb d_M_tryMoves_43 (by decide) ?_
        refine lv_istore (lv' := [(8, .int (nI 0)), (7, .int (nI 0)), (5, .long (lN K)), (3, .long (lN (bz_co t (bz_fu (bz_cp (bz_d t) g0 (bz_n t)))))), (0, .ref (am 0)), (1, .long (lN K))]) hx hb d_M_tryMoves_44 hl (by decide) rfl (fun ls hl => ?_)
        have lpm : ∀ (k9 : Nat) (ai : Nat) (r : Nat) (lf : Nat) (g : Nat → Nat) (u : Nat → Int32), bz_ms lf (bz_n t) ai r < k9 → (ai ≤ bz_n t) → (r < 4) → (lf ≤ K) → (∀ a, a < bz_n t → g a < 4) → (bz_mv t K 0 (bz_cp (bz_d t) g0 (bz_n t)) = bz_mv t lf (3 * ai + bz_mr r (g ai)) g) → ∀ (H : Heap) (locs : List Loc), va_P (dC, dI) vwCl (bz_wM am cI cL cZ (bz_tM t) (th, sv, ex) ((fun a => nI (g a)), S2, u)) H → va_D A (bz_wM am cI cL cZ (bz_tM t) (th, sv, ex) ((fun a => nI (g a)), S2, u)) → va_S A s.heap H locs → ∀ (ls : Array Slot), lv_has ls 13 [(0, .ref (am 0)), (1, .long (lN K)), (3, .long (lN (bz_co t (bz_fu g)))), (5, .long (lN lf)), (7, .int (nI ai)), (8, .int (nI r))] → W p l e (headSpec w_M_tryMoves ({ frames := 4, cells := 0, slots := 0, locals := 96 })).room s m ([.ref (am 0), .long (lN K)]).toArray below meth c H locs 0 0 (MQ below (bz_Qx (dC, dI) [(cI, .int), (cL, .long), (cZ, .boolean)] A (fun u : (Nat → Nat) × (Nat → Int32) => (∀ a, a < bz_n t → u.1 a < 4) ∧ ∀ a, a < bz_n t → u.1 a = bz_mv t K 0 (bz_d t) a) (fun u : (Nat → Nat) × (Nat → Int32) => bz_wM am cI cL cZ (bz_tM t) (th, sv, ex) ((fun a => nI (u.1 a)), S2, u.2))) ([.ref (am 0), .long (lN K)]).toArray s 0 0 (A)) (F0 m 46 ls []) := by
          intro k9
          induction k9 with
          | zero =>
            intro ai r lf g u h9
            exact absurd h9 (Nat.not_lt_zero _)
          | succ k9 ihlpm =>
            intro ai r lf g u h9_lpm hai hr4 hlf hg hmv H locs hP hD hS ls hl
            refine lv_iload hx hb d_M_tryMoves_46 (lv_at hl 4 rfl) ?_
            refine lv_aload_n hx hb d_M_tryMoves_48 rfl (lv_at hl 0 rfl) ?_
            refine va_get (D := (dC, dI)) (ci := 4) (v := .int (nI (bz_n t))) (C := R_M) (T := F_M) (N := 12) hx hb htb in_M hown hK hP 0 rfl rfl 1 (by decide) (htb _ wd_411) (fun _ h9 => h9) rfl d_M_tryMoves_49 ?_
            refine lv_icmp_ge (tgt := 202) hx hb d_M_tryMoves_52 (by decide) (fun c_52 => ?_) (fun c_52 => ?_)
            · skip
              have hend : bz_mv t lf (3 * ai + bz_mr r (g ai)) g = g := bz_mv_end (by have := (nI_leI (by omega) (by omega)).mp c_52; omega) _ _
              exact W.vret hx hb hr (fun t9 ht9 hW => ⟨⟨(g, u), rfl, ⟨hg, fun a ha => by rw [← bz_mv_ext K 0 _ _ (fun a ha => bz_cp_lo (x := g0) ha) a ha, hmv, hend]⟩, by rw [ht9]; exact hP, va_K.moved hW.alike hK, hD⟩, hS.F ht9⟩) hS.2.2 d_M_tryMoves_202
            · skip
              have hain : ai < bz_n t := Nat.lt_of_not_le fun z => c_52 ((nI_leI (by omega) (by omega)).mpr z)
              have hga := hg ai hain
              refine lv_lload hx hb d_M_tryMoves_55 (lv_at hl 3 rfl) ?_
              refine lv_lconst (v := 0) hx hb d_M_tryMoves_57 (by decide) ?_
              refine W.lcmp hx hb d_M_tryMoves_58 ?_
              refine lv_if_le (tgt := 202) hx hb d_M_tryMoves_59 (by decide) (fun c_59 => ?_) (fun c_59 => ?_)
              · skip
                have hend : bz_mv t lf (3 * ai + bz_mr r (g ai)) g = g := by rw [show lf = 0 by have := (bz_lc_le (b := 0) (by omega) (by omega)).mp c_59; omega]; rfl
                exact W.vret hx hb hr (fun t9 ht9 hW => ⟨⟨(g, u), rfl, ⟨hg, fun a ha => by rw [← bz_mv_ext K 0 _ _ (fun a ha => bz_cp_lo (x := g0) ha) a ha, hmv, hend]⟩, by rw [ht9]; exact hP, va_K.moved hW.alike hK, hD⟩, hS.F ht9⟩) hS.2.2 d_M_tryMoves_202
              · skip
                have hlf0 : 0 < lf := Nat.lt_of_not_le fun z => c_59 ((bz_lc_le (b := 0) (by omega) (by omega)).mpr z)
                have hcb1 := bz_co_le ht (bz_fu g)
                have hcb2 := bz_co_le ht (bz_fu (va_up g ai r))
                refine lv_aload_n hx hb d_M_tryMoves_62 rfl (lv_at hl 0 rfl) ?_
                refine va_get (D := (dC, dI)) (ci := 4) (v := .ref (am 6)) (C := R_M) (T := F_M) (N := 12) hx hb htb in_M hown hK hP 0 rfl rfl 9 (by decide) (htb _ wd_419) (fun _ h9 => h9) rfl d_M_tryMoves_63 ?_
                refine lv_iload hx hb d_M_tryMoves_66 (lv_at hl 4 rfl) ?_
                refine bz_iald (v := nI (g ai)) hx hb hK hP 6 0 rfl rfl (a9 := ai) (by omega) (by decide) (rfl) d_M_tryMoves_68 ?_
                refine lv_istore (lv' := [(9, .int (nI (g ai))), (0, .ref (am 0)), (1, .long (lN K)), (3, .long (lN (bz_co t (bz_fu g)))), (5, .long (lN lf)), (7, .int (nI ai)), (8, .int (nI r))]) hx hb d_M_tryMoves_69 hl (by decide) rfl (fun ls hl => ?_)
                refine lv_iconst (v := nI 0) hx hb d_M_tryMoves_71 (by decide) ?_
                refine lv_istore (lv' := [(10, .int (nI 0)), (9, .int (nI (g ai))), (0, .ref (am 0)), (1, .long (lN K)), (3, .long (lN (bz_co t (bz_fu g)))), (5, .long (lN lf)), (7, .int (nI ai)), (8, .int (nI r))]) hx hb d_M_tryMoves_72 hl (by decide) rfl (fun ls hl => ?_)
                refine lv_iload hx hb d_M_tryMoves_74 (lv_at hl 7 rfl) ?_
                refine lv_iload hx hb d_M_tryMoves_76 (lv_at hl 1 rfl) ?_
                refine lv_icmp_eq (tgt := 151) hx hb d_M_tryMoves_78 (by decide) (fun c_78 => ?_) (fun c_78 => ?_)
                · skip
                  have hne : r = g ai := (nI_eq (by omega) (by omega)).mp c_78
                  refine lv_iinc (v := nI (r + 1)) (lv' := [(8, .int (nI (r + 1))), (10, .int (nI 0)), (9, .int (nI (g ai))), (0, .ref (am 0)), (1, .long (lN K)), (3, .long (lN (bz_co t (bz_fu g)))), (5, .long (lN lf)), (7, .int (nI ai))]) hx hb d_M_tryMoves_151 hl (k := 7) rfl (nI_1 _) (by decide) rfl (fun ls hl => ?_)
                  refine lv_iload hx hb d_M_tryMoves_154 (lv_at hl 1 rfl) ?_
                  refine lv_if_eq (tgt := 163) hx hb d_M_tryMoves_156 (by decide) (fun c_156 => ?_) (fun c_156 => ?_)
                  · skip
                    refine lv_iload hx hb d_M_tryMoves_163 (lv_at hl 0 rfl) ?_
                    refine lv_iconst (v := 4) hx hb d_M_tryMoves_165 (by decide) ?_
                    refine lv_icmp_ne (tgt := 176) hx hb d_M_tryMoves_166 (by decide) (fun c_166 => ?_) (fun c_166 => ?_)
                    · skip
                      have hr3 : ¬ r + 1 = 4 := fun z => c_166 (by rw [z]; rfl)
                      refine lv_iload hx hb d_M_tryMoves_176 (lv_at hl 7 rfl) ?_
                      refine lv_istore (lv' := [(7, .int (nI ai)), (8, .int (nI (r + 1))), (10, .int (nI 0)), (9, .int (nI (g ai))), (0, .ref (am 0)), (1, .long (lN K)), (3, .long (lN (bz_co t (bz_fu g)))), (5, .long (lN lf))]) hx hb d_M_tryMoves_178 hl (by decide) rfl (fun ls hl => ?_)
                      refine lv_iload hx hb d_M_tryMoves_180 (lv_at hl 2 rfl) ?_
                      refine lv_if_ne (tgt := 191) hx hb d_M_tryMoves_182 (by decide) (fun c_182 => ?_) (fun c_182 => ?_)
                      · skip
                        exact absurd (by decide) c_182
                      · skip
                        refine lv_iload hx hb d_M_tryMoves_185 (lv_at hl 1 rfl) ?_
                        refine lv_iconst (v := 4) hx hb d_M_tryMoves_187 (by decide) ?_
                        refine lv_icmp_ne (tgt := 195) hx hb d_M_tryMoves_188 (by decide) (fun c_188 => ?_) (fun c_188 => ?_)
                        · skip
                          have hr3b : ¬ r + 1 = 4 := fun z => c_188 (by rw [z]; rfl)
                          refine lv_iload hx hb d_M_tryMoves_195 (lv_at hl 1 rfl) ?_
                          refine lv_istore (lv' := [(8, .int (nI (r + 1))), (7, .int (nI ai)), (10, .int (nI 0)), (9, .int (nI (g ai))), (0, .ref (am 0)), (1, .long (lN K)), (3, .long (lN (bz_co t (bz_fu g)))), (5, .long (lN lf))]) hx hb d_M_tryMoves_197 hl (by decide) rfl (fun ls hl => ?_)
                          refine lv_goto (tgt := 46) hx hb d_M_tryMoves_199 (by decide) ?_
                          exact ihlpm ai (r + 1) lf g u (Nat.lt_of_lt_of_le (bz_ms_2 hain hr4) (Nat.le_of_lt_succ h9_lpm)) (by omega) (by omega) (by omega) (hg) (by rw [hmv, hne, bz_mr_e]) _ _ hP hD hS ls (lv_sub hl [4, 5, 6, 7, 1, 0] rfl)
                        · skip
                          have hr3b : r + 1 = 4 := (nI_eq (b := 4) (by omega) (by omega)).mp c_188
                          exact absurd hr3b hr3
                    · skip
                      have hr3 : r + 1 = 4 := (nI_eq (b := 4) (by omega) (by omega)).mp c_166
                      refine lv_iload hx hb d_M_tryMoves_169 (lv_at hl 7 rfl) ?_
                      refine lv_iconst (v := 1) hx hb d_M_tryMoves_171 (by decide) ?_
                      refine lv_iadd hx hb d_M_tryMoves_172 ?_
                      refine bz_ri (y := nI (ai + 1)) (nI_1 _) ?_
                      refine lv_goto (tgt := 178) hx hb d_M_tryMoves_173 (by decide) ?_
                      refine lv_istore (lv' := [(7, .int (nI (ai + 1))), (8, .int (nI (r + 1))), (10, .int (nI 0)), (9, .int (nI (g ai))), (0, .ref (am 0)), (1, .long (lN K)), (3, .long (lN (bz_co t (bz_fu g)))), (5, .long (lN lf))]) hx hb d_M_tryMoves_178 hl (by decide) rfl (fun ls hl => ?_)
                      refine lv_iload hx hb d_M_tryMoves_180 (lv_at hl 2 rfl) ?_
                      refine lv_if_ne (tgt := 191) hx hb d_M_tryMoves_182 (by decide) (fun c_182 => ?_) (fun c_182 => ?_)
                      · skip
                        exact absurd (by decide) c_182
                      · skip
                        refine lv_iload hx hb d_M_tryMoves_185 (lv_at hl 1 rfl) ?_
                        refine lv_iconst (v := 4) hx hb d_M_tryMoves_187 (by decide) ?_
                        refine lv_icmp_ne (tgt := 195) hx hb d_M_tryMoves_188 (by decide) (fun c_188 => ?_) (fun c_188 => ?_)
                        · skip
                          have hr3b : ¬ r + 1 = 4 := fun z => c_188 (by rw [z]; rfl)
                          exact absurd hr3 hr3b
                        · skip
                          have hr3b : r + 1 = 4 := (nI_eq (b := 4) (by omega) (by omega)).mp c_188
                          refine lv_iconst (v := 0) hx hb d_M_tryMoves_191 (by decide) ?_
                          refine lv_goto (tgt := 197) hx hb d_M_tryMoves_192 (by decide) ?_
                          refine lv_istore (lv' := [(8, .int 0), (7, .int (nI (ai + 1))), (10, .int (nI 0)), (9, .int (nI (g ai))), (0, .ref (am 0)), (1, .long (lN K)), (3, .long (lN (bz_co t (bz_fu g)))), (5, .long (lN lf))]) hx hb d_M_tryMoves_197 hl (by decide) rfl (fun ls hl => ?_)
                          refine lv_goto (tgt := 46) hx hb d_M_tryMoves_199 (by decide) ?_
                          exact ihlpm (ai + 1) 0 lf g u (Nat.lt_of_lt_of_le (bz_ms_3 hain hr3) (Nat.le_of_lt_succ h9_lpm)) (by omega) (by omega) (by omega) (hg) (by rw [hmv, bz_mr_0, show 3 * ai + bz_mr r (g ai) = 3 * (ai + 1) + 0 by rw [← hne, bz_mr_x]; omega]) _ _ hP hD hS ls (lv_sub hl [4, 5, 6, 7, 1, 0] rfl)
                  · skip
                    exact absurd (by decide) c_156
                · skip
                  have hne : r ≠ g ai := fun z => c_78 (by rw [z])
                  refine lv_lload hx hb d_M_tryMoves_81 (lv_at hl 5 rfl) ?_
                  refine lv_lconst (v := 1) hx hb d_M_tryMoves_83 (by decide) ?_
                  refine lv_lsub hx hb d_M_tryMoves_84 ?_
                  refine bz_rl (y := lN (lf - 1)) (lN_sub (b := 1) (by omega)) ?_
                  refine lv_lstore (lv' := [(5, .long (lN (lf - 1))), (10, .int (nI 0)), (9, .int (nI (g ai))), (0, .ref (am 0)), (1, .long (lN K)), (3, .long (lN (bz_co t (bz_fu g)))), (7, .int (nI ai)), (8, .int (nI r))]) hx hb d_M_tryMoves_85 hl (by decide) rfl (fun ls hl => ?_)
                  refine lv_aload_n hx hb d_M_tryMoves_87 rfl (lv_at hl 3 rfl) ?_
                  refine va_get (D := (dC, dI)) (ci := 4) (v := .ref (am 6)) (C := R_M) (T := F_M) (N := 12) hx hb htb in_M hown hK hP 0 rfl rfl 9 (by decide) (htb _ wd_419) (fun _ h9 => h9) rfl d_M_tryMoves_88 ?_
                  refine lv_iload hx hb d_M_tryMoves_91 (lv_at hl 6 rfl) ?_
                  refine lv_iload hx hb d_M_tryMoves_93 (lv_at hl 7 rfl) ?_
                  refine bz_iast hx hb hK hP hD hS 6 0 rfl rfl (a9 := ai) (by omega) (by decide) d_M_tryMoves_95 (fun H locs hP hD hS => ?_)
                  have hP : va_P (dC, dI) vwCl (bz_wM am cI cL cZ (bz_tM t) (th, sv, ex) ((upd (fun a => nI (g a)) ai (nI r)), S2, u)) H := hP
                  have hD : va_D A (bz_wM am cI cL cZ (bz_tM t) (th, sv, ex) ((upd (fun a => nI (g a)) ai (nI r)), S2, u)) := hD
                  have e9 : (fun a => nI (va_up g ai r a)) = (upd (fun a => nI (g a)) ai (nI r)) := (bz_updI g ai r).symm
                  rw [← e9] at hP hD
                  refine lv_aload_n hx hb d_M_tryMoves_96 rfl (lv_at hl 3 rfl) ?_
                  refine lv_aload_n hx hb d_M_tryMoves_97 rfl (lv_at hl 3 rfl) ?_
                  refine va_get (D := (dC, dI)) (ci := 4) (v := .ref (am 6)) (C := R_M) (T := F_M) (N := 12) hx hb htb in_M hown hK hP 0 rfl rfl 9 (by decide) (htb _ wd_419) (fun _ h9 => h9) rfl d_M_tryMoves_98 ?_
                  have hf : ∀ a, a < bz_n t → va_up g ai r a < 4 := fun a ha => by by_cases e : a = ai; { rw [e, bz_up_s]; exact hr4 }; { rw [bz_up_n _ _ e]; exact hg a ha }
                  refine bz_cxl (va_runV (As := [.ref (am 6)]) (rest := []) ⟨hx, hb, hml, hown, htb⟩ (c_M_cost_share l dC dI _ am cI cL cZ t th sv ex (va_up g ai r) S2 u ht hf) (cwV 1 htb (bz_gV wd_496 wd_493 wd_495 wd_8 wd_23) rfl rfl rfl (by decide +kernel) ⟨Nat.le_of_ble_eq_true rfl, Nat.le_of_ble_eq_true rfl⟩) (bz_wv hN hK hP hD (q0 := 0) rfl rfl) rfl rfl hl.1 rfl (lv_room (Nat.le_of_ble_eq_true rfl)) d_M_tryMoves_101 ⟨Nat.zero_le _, Nat.zero_le _⟩) hD hS hA (fun r9 u hu H locs hP hD hS => ?_)
                  obtain rfl : r9 = lN (bz_co t (bz_fu (va_up g ai r))) := hu
                  have hP : va_P (dC, dI) vwCl (bz_wM am cI cL cZ (bz_tM t) (th, sv, ex) ((fun a => nI (va_up g ai r a)), S2, u)) H := hP
                  have hD : va_D A (bz_wM am cI cL cZ (bz_tM t) (th, sv, ex) ((fun a => nI (va_up g ai r a)), S2, u)) := hD
                  refine lv_lstore (lv' := [(11, .long (lN (bz_co t (bz_fu (va_up g ai r))))), (5, .long (lN (lf - 1))), (10, .int (nI 0)), (9, .int (nI (g ai))), (0, .ref (am 0)), (1, .long (lN K)), (3, .long (lN (bz_co t (bz_fu g)))), (7, .int (nI ai)), (8, .int (nI r))]) hx hb d_M_tryMoves_104 hl (by decide) rfl (fun ls hl => ?_)
                  refine lv_lload hx hb d_M_tryMoves_106 (lv_at hl 0 rfl) ?_
                  refine lv_lload_n hx hb d_M_tryMoves_108 rfl (lv_at hl 6 rfl) ?_
                  refine W.lcmp hx hb d_M_tryMoves_109 ?_
                  refine lv_if_ge (tgt := 117) hx hb d_M_tryMoves_110 (by decide) (fun c_110 => ?_) (fun c_110 => ?_)
                  · skip
                    have hless : ¬ bz_co t (bz_fu (va_up g ai r)) < bz_co t (bz_fu g) := Nat.not_lt.mpr ((bz_lc_ge (by omega) (by omega)).mp c_110)
                    refine lv_iconst (v := nI 0) hx hb d_M_tryMoves_117 (by decide) ?_
                    refine lv_istore (lv' := [(10, .int (nI 0)), (11, .long (lN (bz_co t (bz_fu (va_up g ai r))))), (5, .long (lN (lf - 1))), (9, .int (nI (g ai))), (0, .ref (am 0)), (1, .long (lN K)), (3, .long (lN (bz_co t (bz_fu g)))), (7, .int (nI ai)), (8, .int (nI r))]) hx hb d_M_tryMoves_118 hl (by decide) rfl (fun ls hl => ?_)
                    refine lv_iload hx hb d_M_tryMoves_120 (lv_at hl 0 rfl) ?_
                    refine lv_if_eq (tgt := 130) hx hb d_M_tryMoves_122 (by decide) (fun c_122 => ?_) (fun c_122 => ?_)
                    · skip
                      refine lv_lload_n hx hb d_M_tryMoves_130 rfl (lv_at hl 6 rfl) ?_
                      refine lv_lstore_n (lv' := [(3, .long (lN (bz_co t (bz_fu g)))), (10, .int (nI 0)), (11, .long (lN (bz_co t (bz_fu (va_up g ai r))))), (5, .long (lN (lf - 1))), (9, .int (nI (g ai))), (0, .ref (am 0)), (1, .long (lN K)), (7, .int (nI ai)), (8, .int (nI r))]) hx hb d_M_tryMoves_131 rfl hl (by decide) rfl (fun ls hl => ?_)
                      refine lv_aload_n hx hb d_M_tryMoves_132 rfl (lv_at hl 5 rfl) ?_
                      refine va_get (D := (dC, dI)) (ci := 4) (v := .ref (am 6)) (C := R_M) (T := F_M) (N := 12) hx hb htb in_M hown hK hP 0 rfl rfl 9 (by decide) (htb _ wd_419) (fun _ h9 => h9) rfl d_M_tryMoves_133 ?_
                      refine lv_iload hx hb d_M_tryMoves_136 (lv_at hl 7 rfl) ?_
                      refine lv_iload hx hb d_M_tryMoves_138 (lv_at hl 1 rfl) ?_
                      refine lv_if_eq (tgt := 148) hx hb d_M_tryMoves_140 (by decide) (fun c_140 => ?_) (fun c_140 => ?_)
                      · skip
                        refine lv_iload hx hb d_M_tryMoves_148 (lv_at hl 4 rfl) ?_
                        refine bz_iast hx hb hK hP hD hS 6 0 rfl rfl (a9 := ai) (by omega) (by decide) d_M_tryMoves_150 (fun H locs hP hD hS => ?_)
                        have hP : va_P (dC, dI) vwCl (bz_wM am cI cL cZ (bz_tM t) (th, sv, ex) ((upd (fun a => nI (va_up g ai r a)) ai (nI (g ai))), S2, u)) H := hP
                        have hD : va_D A (bz_wM am cI cL cZ (bz_tM t) (th, sv, ex) ((upd (fun a => nI (va_up g ai r a)) ai (nI (g ai))), S2, u)) := hD
                        have e9 : (fun a => nI (g a)) = (upd (fun a => nI (va_up g ai r a)) ai (nI (g ai))) := by rw [bz_updI, bz_up_back]
                        rw [← e9] at hP hD
                        refine lv_iinc (v := nI (r + 1)) (lv' := [(8, .int (nI (r + 1))), (3, .long (lN (bz_co t (bz_fu g)))), (10, .int (nI 0)), (11, .long (lN (bz_co t (bz_fu (va_up g ai r))))), (5, .long (lN (lf - 1))), (9, .int (nI (g ai))), (0, .ref (am 0)), (1, .long (lN K)), (7, .int (nI ai))]) hx hb d_M_tryMoves_151 hl (k := 8) rfl (nI_1 _) (by decide) rfl (fun ls hl => ?_)
                        refine lv_iload hx hb d_M_tryMoves_154 (lv_at hl 2 rfl) ?_
                        refine lv_if_eq (tgt := 163) hx hb d_M_tryMoves_156 (by decide) (fun c_156 => ?_) (fun c_156 => ?_)
                        · skip
                          refine lv_iload hx hb d_M_tryMoves_163 (lv_at hl 0 rfl) ?_
                          refine lv_iconst (v := 4) hx hb d_M_tryMoves_165 (by decide) ?_
                          refine lv_icmp_ne (tgt := 176) hx hb d_M_tryMoves_166 (by decide) (fun c_166 => ?_) (fun c_166 => ?_)
                          · skip
                            have hr3 : ¬ r + 1 = 4 := fun z => c_166 (by rw [z]; rfl)
                            refine lv_iload hx hb d_M_tryMoves_176 (lv_at hl 8 rfl) ?_
                            refine lv_istore (lv' := [(7, .int (nI ai)), (8, .int (nI (r + 1))), (3, .long (lN (bz_co t (bz_fu g)))), (10, .int (nI 0)), (11, .long (lN (bz_co t (bz_fu (va_up g ai r))))), (5, .long (lN (lf - 1))), (9, .int (nI (g ai))), (0, .ref (am 0)), (1, .long (lN K))]) hx hb d_M_tryMoves_178 hl (by decide) rfl (fun ls hl => ?_)
                            refine lv_iload hx hb d_M_tryMoves_180 (lv_at hl 3 rfl) ?_
                            refine lv_if_ne (tgt := 191) hx hb d_M_tryMoves_182 (by decide) (fun c_182 => ?_) (fun c_182 => ?_)
                            · skip
                              exact absurd (by decide) c_182
                            · skip
                              refine lv_iload hx hb d_M_tryMoves_185 (lv_at hl 1 rfl) ?_
                              refine lv_iconst (v := 4) hx hb d_M_tryMoves_187 (by decide) ?_
                              refine lv_icmp_ne (tgt := 195) hx hb d_M_tryMoves_188 (by decide) (fun c_188 => ?_) (fun c_188 => ?_)
                              · skip
                                have hr3b : ¬ r + 1 = 4 := fun z => c_188 (by rw [z]; rfl)
                                refine lv_iload hx hb d_M_tryMoves_195 (lv_at hl 1 rfl) ?_
                                refine lv_istore (lv' := [(8, .int (nI (r + 1))), (7, .int (nI ai)), (3, .long (lN (bz_co t (bz_fu g)))), (10, .int (nI 0)), (11, .long (lN (bz_co t (bz_fu (va_up g ai r))))), (5, .long (lN (lf - 1))), (9, .int (nI (g ai))), (0, .ref (am 0)), (1, .long (lN K))]) hx hb d_M_tryMoves_197 hl (by decide) rfl (fun ls hl => ?_)
                                refine lv_goto (tgt := 46) hx hb d_M_tryMoves_199 (by decide) ?_
                                exact ihlpm ai (r + 1) (lf - 1) g u (Nat.lt_of_lt_of_le (bz_ms_1 hlf0) (Nat.le_of_lt_succ h9_lpm)) (by omega) (by omega) (by omega) (hg) (by rw [hmv, bz_mr_no hlf0 hain hr4 hga hne hless]) _ _ hP hD hS ls (lv_sub hl [7, 8, 2, 5, 1, 0] rfl)
                              · skip
                                have hr3b : r + 1 = 4 := (nI_eq (b := 4) (by omega) (by omega)).mp c_188
                                exact absurd hr3b hr3
                          · skip
                            have hr3 : r + 1 = 4 := (nI_eq (b := 4) (by omega) (by omega)).mp c_166
                            refine lv_iload hx hb d_M_tryMoves_169 (lv_at hl 8 rfl) ?_
                            refine lv_iconst (v := 1) hx hb d_M_tryMoves_171 (by decide) ?_
                            refine lv_iadd hx hb d_M_tryMoves_172 ?_
                            refine bz_ri (y := nI (ai + 1)) (nI_1 _) ?_
                            refine lv_goto (tgt := 178) hx hb d_M_tryMoves_173 (by decide) ?_
                            refine lv_istore (lv' := [(7, .int (nI (ai + 1))), (8, .int (nI (r + 1))), (3, .long (lN (bz_co t (bz_fu g)))), (10, .int (nI 0)), (11, .long (lN (bz_co t (bz_fu (va_up g ai r))))), (5, .long (lN (lf - 1))), (9, .int (nI (g ai))), (0, .ref (am 0)), (1, .long (lN K))]) hx hb d_M_tryMoves_178 hl (by decide) rfl (fun ls hl => ?_)
                            refine lv_iload hx hb d_M_tryMoves_180 (lv_at hl 3 rfl) ?_
                            refine lv_if_ne (tgt := 191) hx hb d_M_tryMoves_182 (by decide) (fun c_182 => ?_) (fun c_182 => ?_)
                            · skip
                              exact absurd (by decide) c_182
                            · skip
                              refine lv_iload hx hb d_M_tryMoves_185 (lv_at hl 1 rfl) ?_
                              refine lv_iconst (v := 4) hx hb d_M_tryMoves_187 (by decide) ?_
                              refine lv_icmp_ne (tgt := 195) hx hb d_M_tryMoves_188 (by decide) (fun c_188 => ?_) (fun c_188 => ?_)
                              · skip
                                have hr3b : ¬ r + 1 = 4 := fun z => c_188 (by rw [z]; rfl)
                                exact absurd hr3 hr3b
                              · skip
                                have hr3b : r + 1 = 4 := (nI_eq (b := 4) (by omega) (by omega)).mp c_188
                                refine lv_iconst (v := 0) hx hb d_M_tryMoves_191 (by decide) ?_
                                refine lv_goto (tgt := 197) hx hb d_M_tryMoves_192 (by decide) ?_
                                refine lv_istore (lv' := [(8, .int 0), (7, .int (nI (ai + 1))), (3, .long (lN (bz_co t (bz_fu g)))), (10, .int (nI 0)), (11, .long (lN (bz_co t (bz_fu (va_up g ai r))))), (5, .long (lN (lf - 1))), (9, .int (nI (g ai))), (0, .ref (am 0)), (1, .long (lN K))]) hx hb d_M_tryMoves_197 hl (by decide) rfl (fun ls hl => ?_)
                                refine lv_goto (tgt := 46) hx hb d_M_tryMoves_199 (by decide) ?_
                                exact ihlpm (ai + 1) 0 (lf - 1) g u (Nat.lt_of_lt_of_le (bz_ms_1 hlf0) (Nat.le_of_lt_succ h9_lpm)) (by omega) (by omega) (by omega) (hg) (by rw [hmv, bz_mr_no hlf0 hain hr4 hga hne hless, hr3, bz_mr_4 hga, bz_mr_0, show 3 * (ai + 1) + 0 = 3 * ai + 3 by omega]) _ _ hP hD hS ls (lv_sub hl [7, 8, 2, 5, 1, 0] rfl)
                        · skip
                          exact absurd (by decide) c_156
                      · skip
                        exact absurd (by decide) c_140
                    · skip
                      exact absurd (by decide) c_122
                  · skip
                    have hless : bz_co t (bz_fu (va_up g ai r)) < bz_co t (bz_fu g) := Nat.lt_of_not_le fun z => c_110 ((bz_lc_ge (by omega) (by omega)).mpr z)
                    refine lv_iconst (v := 1) hx hb d_M_tryMoves_113 (by decide) ?_
                    refine lv_goto (tgt := 118) hx hb d_M_tryMoves_114 (by decide) ?_
                    refine lv_istore (lv' := [(10, .int 1), (11, .long (lN (bz_co t (bz_fu (va_up g ai r))))), (5, .long (lN (lf - 1))), (9, .int (nI (g ai))), (0, .ref (am 0)), (1, .long (lN K)), (3, .long (lN (bz_co t (bz_fu g)))), (7, .int (nI ai)), (8, .int (nI r))]) hx hb d_M_tryMoves_118 hl (by decide) rfl (fun ls hl => ?_)
                    refine lv_iload hx hb d_M_tryMoves_120 (lv_at hl 0 rfl) ?_
                    refine lv_if_eq (tgt := 130) hx hb d_M_tryMoves_122 (by decide) (fun c_122 => ?_) (fun c_122 => ?_)
                    · skip
                      exact absurd c_122 (by decide)
                    · skip
                      refine lv_lload hx hb d_M_tryMoves_125 (lv_at hl 1 rfl) ?_
                      refine lv_goto (tgt := 131) hx hb d_M_tryMoves_127 (by decide) ?_
                      refine lv_lstore_n (lv' := [(3, .long (lN (bz_co t (bz_fu (va_up g ai r))))), (10, .int 1), (11, .long (lN (bz_co t (bz_fu (va_up g ai r))))), (5, .long (lN (lf - 1))), (9, .int (nI (g ai))), (0, .ref (am 0)), (1, .long (lN K)), (7, .int (nI ai)), (8, .int (nI r))]) hx hb d_M_tryMoves_131 rfl hl (by decide) rfl (fun ls hl => ?_)
                      refine lv_aload_n hx hb d_M_tryMoves_132 rfl (lv_at hl 5 rfl) ?_
                      refine va_get (D := (dC, dI)) (ci := 4) (v := .ref (am 6)) (C := R_M) (T := F_M) (N := 12) hx hb htb in_M hown hK hP 0 rfl rfl 9 (by decide) (htb _ wd_419) (fun _ h9 => h9) rfl d_M_tryMoves_133 ?_
                      refine lv_iload hx hb d_M_tryMoves_136 (lv_at hl 7 rfl) ?_
                      refine lv_iload hx hb d_M_tryMoves_138 (lv_at hl 1 rfl) ?_
                      refine lv_if_eq (tgt := 148) hx hb d_M_tryMoves_140 (by decide) (fun c_140 => ?_) (fun c_140 => ?_)
                      · skip
                        exact absurd c_140 (by decide)
                      · skip
                        refine lv_iload hx hb d_M_tryMoves_143 (lv_at hl 8 rfl) ?_
                        refine lv_goto (tgt := 150) hx hb d_M_tryMoves_145 (by decide) ?_
                        refine bz_iast hx hb hK hP hD hS 6 0 rfl rfl (a9 := ai) (by omega) (by decide) d_M_tryMoves_150 (fun H locs hP hD hS => ?_)
                        have hP : va_P (dC, dI) vwCl (bz_wM am cI cL cZ (bz_tM t) (th, sv, ex) ((upd (fun a => nI (va_up g ai r a)) ai (nI r)), S2, u)) H := hP
                        have hD : va_D A (bz_wM am cI cL cZ (bz_tM t) (th, sv, ex) ((upd (fun a => nI (va_up g ai r a)) ai (nI r)), S2, u)) := hD
                        have e9 : (fun a => nI (va_up g ai r a)) = (upd (fun a => nI (va_up g ai r a)) ai (nI r)) := by rw [bz_updI, bz_up_same]
                        rw [← e9] at hP hD
                        refine lv_iinc (v := nI (r + 1)) (lv' := [(8, .int (nI (r + 1))), (3, .long (lN (bz_co t (bz_fu (va_up g ai r))))), (10, .int 1), (11, .long (lN (bz_co t (bz_fu (va_up g ai r))))), (5, .long (lN (lf - 1))), (9, .int (nI (g ai))), (0, .ref (am 0)), (1, .long (lN K)), (7, .int (nI ai))]) hx hb d_M_tryMoves_151 hl (k := 8) rfl (nI_1 _) (by decide) rfl (fun ls hl => ?_)
                        refine lv_iload hx hb d_M_tryMoves_154 (lv_at hl 2 rfl) ?_
                        refine lv_if_eq (tgt := 163) hx hb d_M_tryMoves_156 (by decide) (fun c_156 => ?_) (fun c_156 => ?_)
                        · skip
                          exact absurd c_156 (by decide)
                        · skip
                          refine lv_iconst (v := 0) hx hb d_M_tryMoves_159 (by decide) ?_
                          refine lv_goto (tgt := 178) hx hb d_M_tryMoves_160 (by decide) ?_
                          refine lv_istore (lv' := [(7, .int 0), (8, .int (nI (r + 1))), (3, .long (lN (bz_co t (bz_fu (va_up g ai r))))), (10, .int 1), (11, .long (lN (bz_co t (bz_fu (va_up g ai r))))), (5, .long (lN (lf - 1))), (9, .int (nI (g ai))), (0, .ref (am 0)), (1, .long (lN K))]) hx hb d_M_tryMoves_178 hl (by decide) rfl (fun ls hl => ?_)
                          refine lv_iload hx hb d_M_tryMoves_180 (lv_at hl 3 rfl) ?_
                          refine lv_if_ne (tgt := 191) hx hb d_M_tryMoves_182 (by decide) (fun c_182 => ?_) (fun c_182 => ?_)
                          · skip
                            refine lv_iconst (v := 0) hx hb d_M_tryMoves_191 (by decide) ?_
                            refine lv_goto (tgt := 197) hx hb d_M_tryMoves_192 (by decide) ?_
                            refine lv_istore (lv' := [(8, .int 0), (7, .int 0), (3, .long (lN (bz_co t (bz_fu (va_up g ai r))))), (10, .int 1), (11, .long (lN (bz_co t (bz_fu (va_up g ai r))))), (5, .long (lN (lf - 1))), (9, .int (nI (g ai))), (0, .ref (am 0)), (1, .long (lN K))]) hx hb d_M_tryMoves_197 hl (by decide) rfl (fun ls hl => ?_)
                            refine lv_goto (tgt := 46) hx hb d_M_tryMoves_199 (by decide) ?_
                            exact ihlpm 0 0 (lf - 1) (va_up g ai r) u (Nat.lt_of_lt_of_le (bz_ms_1 hlf0) (Nat.le_of_lt_succ h9_lpm)) (by omega) (by omega) (by omega) (hf) (by rw [hmv, bz_mr_do hlf0 hain hr4 hga hne hless, bz_mr_0]) _ _ hP hD hS ls (lv_sub hl [7, 8, 2, 5, 1, 0] rfl)
                          · skip
                            exact absurd c_182 (by decide)
        exact lpm _ 0 0 K (bz_cp (bz_d t) g0 (bz_n t)) u (Nat.lt_succ_self _) (by omega) (by omega) (Nat.le_refl _) (hf) (by rw [bz_mr_0]) _ _ hP hD hS ls (lv_sub hl [4, 5, 3, 2, 1, 0] rfl)
      · skip
        have hin : i < bz_n t := Nat.lt_of_not_le fun z => c_7 ((nI_leI (by omega) (by omega)).mpr z)
        refine lv_aload_n hx hb d_M_tryMoves_10 rfl (lv_at hl 0 rfl) ?_
        refine va_get (D := (dC, dI)) (ci := 4) (v := .ref (am 6)) (C := R_M) (T := F_M) (N := 12) hx hb htb in_M hown hK hP 0 rfl rfl 9 (by decide) (htb _ wd_419) (fun _ h9 => h9) rfl d_M_tryMoves_11 ?_
        refine lv_iload_n hx hb d_M_tryMoves_14 rfl (lv_at hl 2 rfl) ?_
        refine lv_aload_n hx hb d_M_tryMoves_15 rfl (lv_at hl 0 rfl) ?_
        refine va_get (D := (dC, dI)) (ci := 4) (v := .ref (am 2)) (C := R_M) (T := F_M) (N := 12) hx hb htb in_M hown hK hP 0 rfl rfl 3 (by decide) (htb _ wd_413) (fun _ h9 => h9) rfl d_M_tryMoves_16 ?_
        refine lv_iload_n hx hb d_M_tryMoves_19 rfl (lv_at hl 2 rfl) ?_
        refine bz_iald (v := nI (bz_d t i)) hx hb hK hP 2 0 rfl rfl (a9 := i) (by omega) (by decide) (rfl) d_M_tryMoves_20 ?_
        refine bz_iast hx hb hK hP hD hS 6 0 rfl rfl (a9 := i) (by omega) (by decide) d_M_tryMoves_21 (fun H locs hP hD hS => ?_)
        have hP : va_P (dC, dI) vwCl (bz_wM am cI cL cZ (bz_tM t) (th, sv, ex) ((upd (fun a => nI (bz_cp (bz_d t) g0 i a)) i (nI (bz_d t i))), S2, S3)) H := hP
        have hD : va_D A (bz_wM am cI cL cZ (bz_tM t) (th, sv, ex) ((upd (fun a => nI (bz_cp (bz_d t) g0 i a)) i (nI (bz_d t i))), S2, S3)) := hD
        have e9 : (fun a => nI (bz_cp (bz_d t) g0 (i + 1) a)) = (upd (fun a => nI (bz_cp (bz_d t) g0 i a)) i (nI (bz_d t i))) := bz_cp_1 _ _ _
        rw [← e9] at hP hD
        refine lv_iinc (v := nI (i + 1)) (lv' := [(3, .int (nI (i + 1))), (0, .ref (am 0)), (1, .long (lN K))]) hx hb d_M_tryMoves_22 hl (k := 2) rfl (nI_1 _) (by decide) rfl (fun ls hl => ?_)
        refine lv_goto (tgt := 2) hx hb d_M_tryMoves_25 (by decide) ?_
        exact ihlpc (i + 1) (by omega) (by omega) _ _ hP hD hS ls (lv_sub hl [1, 2, 0] rfl)
  exact lpc _ 0 (Nat.lt_succ_self _) (by omega) _ _ hP hD hS ls (lv_sub hl [1, 2, 0] rfl)

set_option maxHeartbeats 4000000 in
set_option maxRecDepth 100000 in
/-- tryAll -/
theorem c_M_tryAll (l : Launch) (dC : Nat → ClassId) (dI : Nat → Nat → Nat) (sz : Nat) (am : Nat → Nat) (cI cL cZ : ClassId) (t : bz_T) (th sv ex : Int32) (g0 tr0 : Nat → Nat) (S3 : Nat → Int32) (ht : bz_ok t) (hn8 : bz_n t ≤ 8) : Met l y_M_tryAll w_M_tryAll ({ frames := 4, cells := 0, slots := 0, locals := 96 }) (bz_Pw (dC, dI) [(cI, .int), (cL, .long), (cZ, .boolean)] (bz_wM am cI cL cZ (bz_tM t) (th, sv, ex) ((fun a => nI (g0 a)), (fun a => nI (tr0 a)), S3)) sz [.ref (am 0)]) (bz_Qx (dC, dI) [(cI, .int), (cL, .long), (cZ, .boolean)] (va_A (bz_wM am cI cL cZ (bz_tM t) (th, sv, ex) ((fun a => nI (g0 a)), (fun a => nI (tr0 a)), S3)) sz) (fun u : (Nat → Nat) × (Nat → Nat) × (Nat → Int32) => bz_bs t u.1) (fun u : (Nat → Nat) × (Nat → Nat) × (Nat → Int32) => bz_wM am cI cL cZ (bz_tM t) (th, sv, ex) ((fun a => nI (u.1 a)), (fun a => nI (u.2.1 a)), u.2.2))) 0 0 (va_A (bz_wM am cI cL cZ (bz_tM t) (th, sv, ex) ((fun a => nI (g0 a)), (fun a => nI (tr0 a)), S3)) sz) := by
  refine Met.ofW (cc := b_M_tryAll) (maxL := 9) (ret := none) (by decide) rfl ?_
  intro p e s m args below meth c s₁ B hml hv
  obtain ⟨rfl, hsz, hP, hK, hD0, hN⟩ := hv
  have hx := B.exec
  have hb := B.bytes
  have hr := B.returns
  have hts := atoms_spec (ws := w_M_tryAll) B.pre
  have hown : s.vm.findClass R_M = some m.cls := findClass_of_methodNamed B.named
  have htb : ∀ w ∈ bz_tb, w.before _ s = true := fun w h => hts w (List.mem_cons_of_mem _ h)
  have hlocks := B.notSynchronized
  subst hsz
  have hD := hD0.self (sz := s.heap.size)
  generalize hAe : va_A (bz_wM am cI cL cZ (bz_tM t) (th, sv, ex) ((fun a => nI (g0 a)), (fun a => nI (tr0 a)), S3)) s.heap.size = A at hD ⊢
  have hA : ∀ q : Nat, s.heap.size ≤ q → A q := fun q h => by rw [← hAe]; exact Or.inr h
  have hS : va_S A s.heap s.heap [] := va_S.rf
  have hl := lv_entry ([.ref (am 0)]) (n := 9) (Nat.le_of_ble_eq_true rfl)
  rw [lg_entry_eq]
  generalize (lg_sl ([.ref (am 0)]) ++ List.replicate (9 - (lg_sl ([.ref (am 0)])).length) Slot.unset).toArray = ls at hl ⊢
  have hl : lv_has ls 9 [(0, .ref (am 0))] := hl
  have hn30 := ht.1
  have hp4 : 4 ^ bz_n t ≤ 65536 := Nat.pow_le_pow_right (n := 4) (by omega) hn8
  refine lv_iconst (v := nI 1) hx hb d_M_tryAll_0 (by decide) ?_
  refine lv_istore_n (lv' := [(1, .int (nI 1)), (0, .ref (am 0))]) hx hb d_M_tryAll_1 rfl hl (by decide) rfl (fun ls hl => ?_)
  refine lv_iconst (v := nI 0) hx hb d_M_tryAll_2 (by decide) ?_
  refine lv_istore_n (lv' := [(2, .int (nI 0)), (1, .int (nI 1)), (0, .ref (am 0))]) hx hb d_M_tryAll_3 rfl hl (by decide) rfl (fun ls hl => ?_)
  have lpa : ∀ (k9 : Nat) (i : Nat), bz_n t - i < k9 → (i ≤ bz_n t) → ∀ (H : Heap) (locs : List Loc), va_P (dC, dI) vwCl (bz_wM am cI cL cZ (bz_tM t) (th, sv, ex) ((fun a => nI (g0 a)), (fun a => nI (tr0 a)), S3)) H → va_D A (bz_wM am cI cL cZ (bz_tM t) (th, sv, ex) ((fun a => nI (g0 a)), (fun a => nI (tr0 a)), S3)) → va_S A s.heap H locs → ∀ (ls : Array Slot), lv_has ls 9 [(0, .ref (am 0)), (1, .int (nI (4 ^ i))), (2, .int (nI i))] → W p l e (headSpec w_M_tryAll ({ frames := 4, cells := 0, slots := 0, locals := 96 })).room s m ([.ref (am 0)]).toArray below meth c H locs 0 0 (MQ below (bz_Qx (dC, dI) [(cI, .int), (cL, .long), (cZ, .boolean)] A (fun u : (Nat → Nat) × (Nat → Nat) × (Nat → Int32) => bz_bs t u.1) (fun u : (Nat → Nat) × (Nat → Nat) × (Nat → Int32) => bz_wM am cI cL cZ (bz_tM t) (th, sv, ex) ((fun a => nI (u.1 a)), (fun a => nI (u.2.1 a)), u.2.2))) ([.ref (am 0)]).toArray s 0 0 (A)) (F0 m 4 ls []) := by
    intro k9
    induction k9 with
    | zero =>
      intro i h9
      exact absurd h9 (Nat.not_lt_zero _)
    | succ k9 ihlpa =>
      intro i h9_lpa hi H locs hP hD hS ls hl
      refine lv_iload_n hx hb d_M_tryAll_4 rfl (lv_at hl 2 rfl) ?_
      refine lv_aload_n hx hb d_M_tryAll_5 rfl (lv_at hl 0 rfl) ?_
      refine va_get (D := (dC, dI)) (ci := 4) (v := .int (nI (bz_n t))) (C := R_M) (T := F_M) (N := 12) hx hb htb in_M hown hK hP 0 rfl rfl 1 (by decide) (htb _ wd_411) (fun _ h9 => h9) rfl d_M_tryAll_6 ?_
      refine lv_icmp_ge (tgt := 22) hx hb d_M_tryAll_9 (by decide) (fun c_9 => ?_) (fun c_9 => ?_)
      · skip
        have hin : i = bz_n t := by have := (nI_leI (by omega) (by omega)).mp c_9; omega
        have hl : lv_has ls 9 [(0, .ref (am 0)), (1, .int (nI (4 ^ bz_n t))), (2, .int (nI i))] := by rw [show nI (4 ^ bz_n t) = nI (4 ^ i) from by rw [hin]]; exact hl
        refine lv_ldc2 (v := 9223372036854775807) hx hb hown (htb _ wd_492) d_M_tryAll_22 ?_
        refine bz_rl (y := lN 9223372036854775807) (rfl) ?_
        refine lv_lstore_n (lv' := [(2, .long (lN 9223372036854775807)), (0, .ref (am 0)), (1, .int (nI (4 ^ bz_n t)))]) hx hb d_M_tryAll_25 rfl hl (by decide) rfl (fun ls hl => ?_)
        refine lv_iconst (v := nI 0) hx hb d_M_tryAll_26 (by decide) ?_
        refine lv_istore (lv' := [(4, .int (nI 0)), (2, .long (lN 9223372036854775807)), (0, .ref (am 0)), (1, .int (nI (4 ^ bz_n t)))]) hx hb d_M_tryAll_27 hl (by decide) rfl (fun ls hl => ?_)
        have lpk : ∀ (k9 : Nat) (kk : Nat) (c2 : Nat × (Nat → Nat)) (tr : Nat → Nat) (u : Nat → Int32), 4 ^ bz_n t - kk < k9 → (kk ≤ 4 ^ bz_n t) → (bz_up t (bz_Ec t kk) (9223372036854775807, g0) c2) → (c2.1 ≤ 9223372036854775807) → ∀ (H : Heap) (locs : List Loc), va_P (dC, dI) vwCl (bz_wM am cI cL cZ (bz_tM t) (th, sv, ex) ((fun a => nI (c2.2 a)), (fun a => nI (tr a)), u)) H → va_D A (bz_wM am cI cL cZ (bz_tM t) (th, sv, ex) ((fun a => nI (c2.2 a)), (fun a => nI (tr a)), u)) → va_S A s.heap H locs → ∀ (ls : Array Slot), lv_has ls 9 [(0, .ref (am 0)), (1, .int (nI (4 ^ bz_n t))), (2, .long (lN c2.1)), (4, .int (nI kk))] → W p l e (headSpec w_M_tryAll ({ frames := 4, cells := 0, slots := 0, locals := 96 })).room s m ([.ref (am 0)]).toArray below meth c H locs 0 0 (MQ below (bz_Qx (dC, dI) [(cI, .int), (cL, .long), (cZ, .boolean)] A (fun u : (Nat → Nat) × (Nat → Nat) × (Nat → Int32) => bz_bs t u.1) (fun u : (Nat → Nat) × (Nat → Nat) × (Nat → Int32) => bz_wM am cI cL cZ (bz_tM t) (th, sv, ex) ((fun a => nI (u.1 a)), (fun a => nI (u.2.1 a)), u.2.2))) ([.ref (am 0)]).toArray s 0 0 (A)) (F0 m 29 ls []) := by
          intro k9
          induction k9 with
          | zero =>
            intro kk c2 tr u h9
            exact absurd h9 (Nat.not_lt_zero _)
          | succ k9 ihlpk =>
            intro kk c2 tr u h9_lpk hkk4 hup hc2 H locs hP hD hS ls hl
            refine lv_iload hx hb d_M_tryAll_29 (lv_at hl 3 rfl) ?_
            refine lv_iload_n hx hb d_M_tryAll_31 rfl (lv_at hl 1 rfl) ?_
            refine lv_icmp_ge (tgt := 133) hx hb d_M_tryAll_32 (by decide) (fun c_32 => ?_) (fun c_32 => ?_)
            · skip
              have hend : 4 ^ bz_n t ≤ kk := (nI_leI (by omega) (by omega)).mp c_32
              exact W.vret hx hb hr (fun t9 ht9 hW => ⟨⟨(c2.2, tr, u), rfl, bz_Ec_n ht hend hup, by rw [ht9]; exact hP, va_K.moved hW.alike hK, hD⟩, hS.F ht9⟩) hS.2.2 d_M_tryAll_133
            · skip
              have hkk : kk < 4 ^ bz_n t := Nat.lt_of_not_le fun z => c_32 ((nI_leI (by omega) (by omega)).mpr z)
              refine lv_iload hx hb d_M_tryAll_35 (lv_at hl 3 rfl) ?_
              refine lv_istore (lv' := [(5, .int (nI kk)), (0, .ref (am 0)), (1, .int (nI (4 ^ bz_n t))), (2, .long (lN c2.1)), (4, .int (nI kk))]) hx hb d_M_tryAll_37 hl (by decide) rfl (fun ls hl => ?_)
              refine lv_aload_n hx hb d_M_tryAll_39 rfl (lv_at hl 1 rfl) ?_
              refine va_get (D := (dC, dI)) (ci := 4) (v := .int (nI (bz_n t))) (C := R_M) (T := F_M) (N := 12) hx hb htb in_M hown hK hP 0 rfl rfl 1 (by decide) (htb _ wd_411) (fun _ h9 => h9) rfl d_M_tryAll_40 ?_
              refine lv_iconst (v := 1) hx hb d_M_tryAll_43 (by decide) ?_
              refine lv_isub hx hb d_M_tryAll_44 ?_
              refine lv_istore (lv' := [(6, .int ((nI (bz_n t)) - 1)), (5, .int (nI kk)), (0, .ref (am 0)), (1, .int (nI (4 ^ bz_n t))), (2, .long (lN c2.1)), (4, .int (nI kk))]) hx hb d_M_tryAll_45 hl (by decide) rfl (fun ls hl => ?_)
              have hl : lv_has ls 9 [(6, .int ((nI (bz_n t)) - 1)), (5, .int (nI (kk / 4 ^ (bz_n t - (bz_n t))))), (0, .ref (am 0)), (1, .int (nI (4 ^ bz_n t))), (2, .long (lN c2.1)), (4, .int (nI kk))] := by rw [show nI (kk / 4 ^ (bz_n t - (bz_n t))) = nI kk from by rw [Nat.sub_self, Nat.pow_zero, Nat.div_one]]; exact hl
              have lpd : ∀ (k9 : Nat) (j : Nat) (y : Nat → Nat), j < k9 → (j ≤ bz_n t) → (∀ a, j ≤ a → a < bz_n t → y a = kk / 4 ^ (bz_n t - 1 - a) % 4) → ∀ (H : Heap) (locs : List Loc), va_P (dC, dI) vwCl (bz_wM am cI cL cZ (bz_tM t) (th, sv, ex) ((fun a => nI (c2.2 a)), (fun a => nI (y a)), u)) H → va_D A (bz_wM am cI cL cZ (bz_tM t) (th, sv, ex) ((fun a => nI (c2.2 a)), (fun a => nI (y a)), u)) → va_S A s.heap H locs → ∀ (ls : Array Slot), lv_has ls 9 [(0, .ref (am 0)), (1, .int (nI (4 ^ bz_n t))), (2, .long (lN c2.1)), (4, .int (nI kk)), (5, .int (nI (kk / 4 ^ (bz_n t - j)))), (6, .int (nI j - 1))] → W p l e (headSpec w_M_tryAll ({ frames := 4, cells := 0, slots := 0, locals := 96 })).room s m ([.ref (am 0)]).toArray below meth c H locs 0 0 (MQ below (bz_Qx (dC, dI) [(cI, .int), (cL, .long), (cZ, .boolean)] A (fun u : (Nat → Nat) × (Nat → Nat) × (Nat → Int32) => bz_bs t u.1) (fun u : (Nat → Nat) × (Nat → Nat) × (Nat → Int32) => bz_wM am cI cL cZ (bz_tM t) (th, sv, ex) ((fun a => nI (u.1 a)), (fun a => nI (u.2.1 a)), u.2.2))) ([.ref (am 0)]).toArray s 0 0 (A)) (F0 m 47 ls []) := by
                intro k9
                induction k9 with
                | zero =>
                  intro j y h9
                  exact absurd h9 (Nat.not_lt_zero _)
                | succ k9 ihlpd =>
                  intro j y h9_lpd hj hyd H locs hP hD hS ls hl
                  refine lv_iload hx hb d_M_tryAll_47 (lv_at hl 5 rfl) ?_
                  refine lv_if_lt (tgt := 75) hx hb d_M_tryAll_49 (by decide) (fun c_49 => ?_) (fun c_49 => ?_)
                  · skip
                    have hj0 : j = 0 := by rcases Nat.eq_zero_or_pos j with z | z; { exact z }; { rw [show j = j - 1 + 1 by omega, nI_pred] at c_49; exact absurd c_49 (nI_pos (by omega)) }
                    have hyd : ∀ a, a < bz_n t → y a = kk / 4 ^ (bz_n t - 1 - a) % 4 := fun a ha => hyd a (by omega) ha
                    have hf : ∀ a, a < bz_n t → y a < 4 := fun a ha => by rw [hyd a ha]; exact Nat.mod_lt _ (by omega)
                    have hcb := bz_co_le ht (bz_fu y)
                    refine lv_aload_n hx hb d_M_tryAll_75 rfl (lv_at hl 0 rfl) ?_
                    refine lv_aload_n hx hb d_M_tryAll_76 rfl (lv_at hl 0 rfl) ?_
                    refine va_get (D := (dC, dI)) (ci := 4) (v := .ref (am 7)) (C := R_M) (T := F_M) (N := 12) hx hb htb in_M hown hK hP 0 rfl rfl 10 (by decide) (htb _ wd_420) (fun _ h9 => h9) rfl d_M_tryAll_77 ?_
                    refine bz_cxl (va_runV (As := [.ref (am 7)]) (rest := []) ⟨hx, hb, hml, hown, htb⟩ (c_M_cost_tried l dC dI _ am cI cL cZ t th sv ex y (fun a => nI (c2.2 a)) u ht hf) (cwV 1 htb (bz_gV wd_496 wd_493 wd_495 wd_8 wd_23) rfl rfl rfl (by decide +kernel) ⟨Nat.le_of_ble_eq_true rfl, Nat.le_of_ble_eq_true rfl⟩) (bz_wv hN hK hP hD (q0 := 0) rfl rfl) rfl rfl hl.1 rfl (lv_room (Nat.le_of_ble_eq_true rfl)) d_M_tryAll_80 ⟨Nat.zero_le _, Nat.zero_le _⟩) hD hS hA (fun r9 u hu H locs hP hD hS => ?_)
                    obtain rfl : r9 = lN (bz_co t (bz_fu y)) := hu
                    have hP : va_P (dC, dI) vwCl (bz_wM am cI cL cZ (bz_tM t) (th, sv, ex) ((fun a => nI (c2.2 a)), (fun a => nI (y a)), u)) H := hP
                    have hD : va_D A (bz_wM am cI cL cZ (bz_tM t) (th, sv, ex) ((fun a => nI (c2.2 a)), (fun a => nI (y a)), u)) := hD
                    refine lv_lstore (lv' := [(6, .long (lN (bz_co t (bz_fu y)))), (0, .ref (am 0)), (1, .int (nI (4 ^ bz_n t))), (2, .long (lN c2.1)), (4, .int (nI kk)), (5, .int (nI (kk / 4 ^ (bz_n t - j))))]) hx hb d_M_tryAll_83 hl (by decide) rfl (fun ls hl => ?_)
                    refine lv_lload hx hb d_M_tryAll_85 (lv_at hl 0 rfl) ?_
                    refine lv_lload_n hx hb d_M_tryAll_87 rfl (lv_at hl 3 rfl) ?_
                    refine W.lcmp hx hb d_M_tryAll_88 ?_
                    refine lv_if_ge (tgt := 127) hx hb d_M_tryAll_89 (by decide) (fun c_89 => ?_) (fun c_89 => ?_)
                    · skip
                      have hless : c2.1 ≤ bz_co t (bz_fu y) := (bz_lc_ge (by omega) (by omega)).mp c_89
                      refine lv_iinc (v := nI (kk + 1)) (lv' := [(4, .int (nI (kk + 1))), (6, .long (lN (bz_co t (bz_fu y)))), (0, .ref (am 0)), (1, .int (nI (4 ^ bz_n t))), (2, .long (lN c2.1)), (5, .int (nI (kk / 4 ^ (bz_n t - j))))]) hx hb d_M_tryAll_127 hl (k := 4) rfl (nI_1 _) (by decide) rfl (fun ls hl => ?_)
                      refine lv_goto (tgt := 29) hx hb d_M_tryAll_130 (by decide) ?_
                      exact ihlpk (kk + 1) c2 y u (by omega) (by omega) (bz_Ec_1 hkk hyd hup (bz_cut (Nat.le_refl _) (by rw [bz_be_fu (Nat.le_refl _) (fun _ _ => rfl)]; exact hless))) (hc2) _ _ hP hD hS ls (lv_sub hl [2, 3, 4, 0] rfl)
                    · skip
                      have hless : bz_co t (bz_fu y) < c2.1 := Nat.lt_of_not_le fun z => c_89 ((bz_lc_ge (by omega) (by omega)).mpr z)
                      refine lv_lload hx hb d_M_tryAll_92 (lv_at hl 0 rfl) ?_
                      refine lv_lstore_n (lv' := [(2, .long (lN (bz_co t (bz_fu y)))), (6, .long (lN (bz_co t (bz_fu y)))), (0, .ref (am 0)), (1, .int (nI (4 ^ bz_n t))), (4, .int (nI kk)), (5, .int (nI (kk / 4 ^ (bz_n t - j))))]) hx hb d_M_tryAll_94 rfl hl (by decide) rfl (fun ls hl => ?_)
                      refine lv_iconst (v := nI 0) hx hb d_M_tryAll_95 (by decide) ?_
                      refine lv_istore (lv' := [(8, .int (nI 0)), (2, .long (lN (bz_co t (bz_fu y)))), (6, .long (lN (bz_co t (bz_fu y)))), (0, .ref (am 0)), (1, .int (nI (4 ^ bz_n t))), (4, .int (nI kk)), (5, .int (nI (kk / 4 ^ (bz_n t - j))))]) hx hb d_M_tryAll_96 hl (by decide) rfl (fun ls hl => ?_)
                      have e9 : (fun a => nI (bz_cp y c2.2 0 a)) = (fun a => nI (c2.2 a)) := by rw [bz_cp_0]
                      rw [← e9] at hP hD
                      have lpy : ∀ (k9 : Nat) (i : Nat), bz_n t - i < k9 → (i ≤ bz_n t) → ∀ (H : Heap) (locs : List Loc), va_P (dC, dI) vwCl (bz_wM am cI cL cZ (bz_tM t) (th, sv, ex) ((fun a => nI (bz_cp y c2.2 i a)), (fun a => nI (y a)), u)) H → va_D A (bz_wM am cI cL cZ (bz_tM t) (th, sv, ex) ((fun a => nI (bz_cp y c2.2 i a)), (fun a => nI (y a)), u)) → va_S A s.heap H locs → ∀ (ls : Array Slot), lv_has ls 9 [(0, .ref (am 0)), (1, .int (nI (4 ^ bz_n t))), (2, .long (lN (bz_co t (bz_fu y)))), (4, .int (nI kk)), (8, .int (nI i))] → W p l e (headSpec w_M_tryAll ({ frames := 4, cells := 0, slots := 0, locals := 96 })).room s m ([.ref (am 0)]).toArray below meth c H locs 0 0 (MQ below (bz_Qx (dC, dI) [(cI, .int), (cL, .long), (cZ, .boolean)] A (fun u : (Nat → Nat) × (Nat → Nat) × (Nat → Int32) => bz_bs t u.1) (fun u : (Nat → Nat) × (Nat → Nat) × (Nat → Int32) => bz_wM am cI cL cZ (bz_tM t) (th, sv, ex) ((fun a => nI (u.1 a)), (fun a => nI (u.2.1 a)), u.2.2))) ([.ref (am 0)]).toArray s 0 0 (A)) (F0 m 98 ls []) := by
                        intro k9
                        induction k9 with
                        | zero =>
                          intro i h9
                          exact absurd h9 (Nat.not_lt_zero _)
                        | succ k9 ihlpy =>
                          intro i h9_lpy hi H locs hP hD hS ls hl
                          refine lv_iload hx hb d_M_tryAll_98 (lv_at hl 4 rfl) ?_
                          refine lv_aload_n hx hb d_M_tryAll_100 rfl (lv_at hl 0 rfl) ?_
                          refine va_get (D := (dC, dI)) (ci := 4) (v := .int (nI (bz_n t))) (C := R_M) (T := F_M) (N := 12) hx hb htb in_M hown hK hP 0 rfl rfl 1 (by decide) (htb _ wd_411) (fun _ h9 => h9) rfl d_M_tryAll_101 ?_
                          refine lv_icmp_ge (tgt := 127) hx hb d_M_tryAll_104 (by decide) (fun c_104 => ?_) (fun c_104 => ?_)
                          · skip
                            have hin : i = bz_n t := by have := (nI_leI (by omega) (by omega)).mp c_104; omega
                            have e9 : (fun a => nI (bz_cp y c2.2 (bz_n t) a)) = (fun a => nI (bz_cp y c2.2 i a)) := by rw [hin]
                            rw [← e9] at hP hD
                            refine lv_iinc (v := nI (kk + 1)) (lv' := [(4, .int (nI (kk + 1))), (0, .ref (am 0)), (1, .int (nI (4 ^ bz_n t))), (2, .long (lN (bz_co t (bz_fu y)))), (8, .int (nI i))]) hx hb d_M_tryAll_127 hl (k := 3) rfl (nI_1 _) (by decide) rfl (fun ls hl => ?_)
                            refine lv_goto (tgt := 29) hx hb d_M_tryAll_130 (by decide) ?_
                            exact ihlpk (kk + 1) (bz_co t (bz_fu y), bz_cp y c2.2 (bz_n t)) y u (by omega) (by omega) (bz_Ec_1 hkk hyd hup (by have h5 := bz_leaf (t := t) (k := bz_n t) (f := y) (g := bz_cp y c2.2 (bz_n t)) (b := c2) (Nat.le_refl _) hf (fun a ha => bz_cp_lo ha) (by rw [bz_be_fu (Nat.le_refl _) (fun _ _ => rfl)]; exact hless); rw [bz_be_fu (Nat.le_refl _) (fun _ _ => rfl)] at h5; exact h5)) (by show bz_co t (bz_fu y) ≤ _; omega) _ _ hP hD hS ls (lv_sub hl [1, 2, 3, 0] rfl)
                          · skip
                            have hin : i < bz_n t := Nat.lt_of_not_le fun z => c_104 ((nI_leI (by omega) (by omega)).mpr z)
                            refine lv_aload_n hx hb d_M_tryAll_107 rfl (lv_at hl 0 rfl) ?_
                            refine va_get (D := (dC, dI)) (ci := 4) (v := .ref (am 6)) (C := R_M) (T := F_M) (N := 12) hx hb htb in_M hown hK hP 0 rfl rfl 9 (by decide) (htb _ wd_419) (fun _ h9 => h9) rfl d_M_tryAll_108 ?_
                            refine lv_iload hx hb d_M_tryAll_111 (lv_at hl 4 rfl) ?_
                            refine lv_aload_n hx hb d_M_tryAll_113 rfl (lv_at hl 0 rfl) ?_
                            refine va_get (D := (dC, dI)) (ci := 4) (v := .ref (am 7)) (C := R_M) (T := F_M) (N := 12) hx hb htb in_M hown hK hP 0 rfl rfl 10 (by decide) (htb _ wd_420) (fun _ h9 => h9) rfl d_M_tryAll_114 ?_
                            refine lv_iload hx hb d_M_tryAll_117 (lv_at hl 4 rfl) ?_
                            refine bz_iald (v := nI (y i)) hx hb hK hP 7 0 rfl rfl (a9 := i) (by omega) (by decide) (rfl) d_M_tryAll_119 ?_
                            refine bz_iast hx hb hK hP hD hS 6 0 rfl rfl (a9 := i) (by omega) (by decide) d_M_tryAll_120 (fun H locs hP hD hS => ?_)
                            have hP : va_P (dC, dI) vwCl (bz_wM am cI cL cZ (bz_tM t) (th, sv, ex) ((upd (fun a => nI (bz_cp y c2.2 i a)) i (nI (y i))), (fun a => nI (y a)), u)) H := hP
                            have hD : va_D A (bz_wM am cI cL cZ (bz_tM t) (th, sv, ex) ((upd (fun a => nI (bz_cp y c2.2 i a)) i (nI (y i))), (fun a => nI (y a)), u)) := hD
                            have e9 : (fun a => nI (bz_cp y c2.2 (i + 1) a)) = (upd (fun a => nI (bz_cp y c2.2 i a)) i (nI (y i))) := bz_cp_1 _ _ _
                            rw [← e9] at hP hD
                            refine lv_iinc (v := nI (i + 1)) (lv' := [(8, .int (nI (i + 1))), (0, .ref (am 0)), (1, .int (nI (4 ^ bz_n t))), (2, .long (lN (bz_co t (bz_fu y)))), (4, .int (nI kk))]) hx hb d_M_tryAll_121 hl (k := 4) rfl (nI_1 _) (by decide) rfl (fun ls hl => ?_)
                            refine lv_goto (tgt := 98) hx hb d_M_tryAll_124 (by decide) ?_
                            exact ihlpy (i + 1) (by omega) (by omega) _ _ hP hD hS ls (lv_sub hl [1, 2, 3, 4, 0] rfl)
                      exact lpy _ 0 (Nat.lt_succ_self _) (by omega) _ _ hP hD hS ls (lv_sub hl [3, 4, 1, 5, 0] rfl)
                  · skip
                    have hj0 : 0 < j := by rcases Nat.eq_zero_or_pos j with z | z; { rw [z] at c_49; exact absurd (by decide) c_49 }; { exact z }
                    have hl : lv_has ls 9 [(0, .ref (am 0)), (1, .int (nI (4 ^ bz_n t))), (2, .long (lN c2.1)), (4, .int (nI kk)), (5, .int (nI (kk / 4 ^ (bz_n t - j)))), (6, .int (nI (j - 1)))] := by rw [show nI (j - 1) = nI j - 1 from by rw [← nI_pred (j - 1), show j - 1 + 1 = j by omega]]; exact hl
                    have hkb : kk / 4 ^ (bz_n t - j) ≤ kk := Nat.div_le_self _ _
                    refine lv_aload_n hx hb d_M_tryAll_52 rfl (lv_at hl 0 rfl) ?_
                    refine va_get (D := (dC, dI)) (ci := 4) (v := .ref (am 7)) (C := R_M) (T := F_M) (N := 12) hx hb htb in_M hown hK hP 0 rfl rfl 10 (by decide) (htb _ wd_420) (fun _ h9 => h9) rfl d_M_tryAll_53 ?_
                    refine lv_iload hx hb d_M_tryAll_56 (lv_at hl 5 rfl) ?_
                    refine lv_iload hx hb d_M_tryAll_58 (lv_at hl 4 rfl) ?_
                    refine lv_iconst (v := 4) hx hb d_M_tryAll_60 (by decide) ?_
                    refine lv_irem hx hb d_M_tryAll_61 (by decide) ?_
                    refine bz_ri (y := nI (kk / 4 ^ (bz_n t - j) % 4)) (pk_rem (d := 4) (by omega) (by omega) (by omega)) ?_
                    refine bz_iast hx hb hK hP hD hS 7 0 rfl rfl (a9 := (j - 1)) (by omega) (by decide) d_M_tryAll_62 (fun H locs hP hD hS => ?_)
                    have hP : va_P (dC, dI) vwCl (bz_wM am cI cL cZ (bz_tM t) (th, sv, ex) ((fun a => nI (c2.2 a)), (upd (fun a => nI (y a)) (j - 1) (nI (kk / 4 ^ (bz_n t - j) % 4))), u)) H := hP
                    have hD : va_D A (bz_wM am cI cL cZ (bz_tM t) (th, sv, ex) ((fun a => nI (c2.2 a)), (upd (fun a => nI (y a)) (j - 1) (nI (kk / 4 ^ (bz_n t - j) % 4))), u)) := hD
                    have e9 : (fun a => nI (va_up y (j - 1) (kk / 4 ^ (bz_n t - j) % 4) a)) = (upd (fun a => nI (y a)) (j - 1) (nI (kk / 4 ^ (bz_n t - j) % 4))) := (bz_updI _ _ _).symm
                    rw [← e9] at hP hD
                    refine lv_iload hx hb d_M_tryAll_63 (lv_at hl 4 rfl) ?_
                    refine lv_iconst (v := 4) hx hb d_M_tryAll_65 (by decide) ?_
                    refine lv_idiv hx hb d_M_tryAll_66 (by decide) ?_
                    refine bz_ri (y := nI (kk / 4 ^ (bz_n t - (j - 1)))) (by rw [show (4 : Int32) = nI 4 from rfl, pk_div (by omega) (by omega) (by omega), Nat.div_div_eq_div_mul, ← Nat.pow_succ, show (bz_n t - j).succ = bz_n t - (j - 1) by omega]) ?_
                    refine lv_istore (lv' := [(5, .int (nI (kk / 4 ^ (bz_n t - (j - 1))))), (0, .ref (am 0)), (1, .int (nI (4 ^ bz_n t))), (2, .long (lN c2.1)), (4, .int (nI kk)), (6, .int (nI (j - 1)))]) hx hb d_M_tryAll_67 hl (by decide) rfl (fun ls hl => ?_)
                    refine lv_iinc (v := nI (j - 1) - 1) (lv' := [(6, .int (nI (j - 1) - 1)), (5, .int (nI (kk / 4 ^ (bz_n t - (j - 1))))), (0, .ref (am 0)), (1, .int (nI (4 ^ bz_n t))), (2, .long (lN c2.1)), (4, .int (nI kk))]) hx hb d_M_tryAll_69 hl (k := 5) rfl (bz_im1 _) (by decide) rfl (fun ls hl => ?_)
                    refine lv_goto (tgt := 47) hx hb d_M_tryAll_72 (by decide) ?_
                    exact ihlpd (j - 1) (va_up y (j - 1) (kk / 4 ^ (bz_n t - j) % 4)) (by omega) (by omega) (fun a h1 h2 => by by_cases e : a = j - 1; { rw [e, bz_up_s, show bz_n t - 1 - (j - 1) = bz_n t - j by omega] }; { rw [bz_up_n _ _ e]; exact hyd a (by omega) h2 }) _ _ hP hD hS ls (lv_sub hl [2, 3, 4, 5, 1, 0] rfl)
              exact lpd _ (bz_n t) tr (Nat.lt_succ_self _) (Nat.le_refl _) (fun a h1 h2 => absurd h2 (by omega)) _ _ hP hD hS ls (lv_sub hl [2, 3, 4, 5, 1, 0] rfl)
        exact lpk _ 0 (9223372036854775807, g0) tr0 S3 (Nat.lt_succ_self _) (Nat.zero_le _) (bz_Ec_0) (Nat.le_refl _) _ _ hP hD hS ls (lv_sub hl [2, 3, 1, 0] rfl)
      · skip
        have hin : i < bz_n t := Nat.lt_of_not_le fun z => c_9 ((nI_leI (by omega) (by omega)).mpr z)
        refine lv_iconst (v := 4) hx hb d_M_tryAll_12 (by decide) ?_
        refine lv_iload_n hx hb d_M_tryAll_13 rfl (lv_at hl 1 rfl) ?_
        refine lv_imul hx hb d_M_tryAll_14 ?_
        refine bz_ri (y := nI (4 ^ (i + 1))) (by rw [show (4 : Int32) = nI 4 from rfl, pk_mul, Nat.pow_succ, Nat.mul_comm]) ?_
        refine lv_istore_n (lv' := [(1, .int (nI (4 ^ (i + 1)))), (0, .ref (am 0)), (2, .int (nI i))]) hx hb d_M_tryAll_15 rfl hl (by decide) rfl (fun ls hl => ?_)
        refine lv_iinc (v := nI (i + 1)) (lv' := [(2, .int (nI (i + 1))), (1, .int (nI (4 ^ (i + 1)))), (0, .ref (am 0))]) hx hb d_M_tryAll_16 hl (k := 2) rfl (nI_1 _) (by decide) rfl (fun ls hl => ?_)
        refine lv_goto (tgt := 4) hx hb d_M_tryAll_19 (by decide) ?_
        exact ihlpa (i + 1) (by omega) (by omega) _ _ hP hD hS ls (lv_sub hl [2, 1, 0] rfl)
  exact lpa _ 0 (Nat.lt_succ_self _) (by omega) _ _ hP hD hS ls (lv_sub hl [2, 1, 0] rfl)
end
