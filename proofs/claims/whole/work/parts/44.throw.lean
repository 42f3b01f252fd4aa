/-! rows of my own for a method that throws and a caller that catches: the words that a throw asks, the search through a table of handlers, the call -/
def bz_IA : String := "java/lang/IllegalArgumentException"
def bz_IS : String := "java/lang/IllegalStateException"
def bz_nm : List String := ["java/lang/RuntimeException", "java/lang/Exception"]
/-- the law's start, seen from a later state: the tables are warmer, no old cell has changed -/
def bz_th (U : State) : Prop := ∃ (s0 : State) (A0 : Array Value), (∀ w ∈ lw_tbl, w.before A0 s0 = true) ∧ (Jvm.Cond.and given_1 narrow_1).before A0 s0 = true ∧ s0.WarmedH U.vm ∧ Keeps s0 U
theorem bz_th_go {s U : State} (h : bz_th s) (hW : s.WarmedH U.vm) (hH : U.heap = s.heap) : bz_th U := by
  obtain ⟨s0, A0, h1, h2, h3, h4⟩ := h
  exact ⟨s0, A0, h1, h2, State.WarmedH.trans h3 hW, fun a z hz => by rw [hH]; exact h4 a z hz⟩
theorem bz_th_bl {U : State} (g : JFrame) (mk : MethodId) (a : Array Value) (h : bz_th U) : bz_th (U.calling g mk a) := by
  obtain ⟨s0, A0, h1, h2, h3, h4⟩ := h
  exact ⟨s0, A0, h1, h2, h3, h4⟩
/-- a word that the tables alone decide, and that stays where they grow warmer -/
def bz_wk (w : Cond) : Bool := w.onTables && w.warmB []
theorem bz_wk_at {A A' : Array Value} {s U : State} {w : Cond} (hW : s.WarmedH U.vm) (hw : bz_wk w = true) (h : w.before A s = true) : w.before A' U = true := by
  simp only [bz_wk, Bool.and_eq_true] at hw
  exact va_tabs hw.1 (rfl : (s.setVm U.vm).vm = U.vm) (Cond.before_warmed hW w (Cond.warmOk_of_B (names := []) (fun _ h => nomatch h) w hw.2) h)
theorem bz_th_w {U : State} (h : bz_th U) {w : Cond} (hm : w ∈ lw_tbl) (hw : bz_wk w = true) (A : Array Value) : w.before A U = true := by
  obtain ⟨s0, A0, h1, -, h3, -⟩ := h
  exact bz_wk_at h3 hw (h1 w hm)
theorem bz_th_ls {U : State} (h : bz_th U) {C n d : String} (hm : Cond.laysStatic C n d ∈ lw_tbl) (A : Array Value) : (Cond.laysStatic C n d).before A U = true := by
  obtain ⟨s0, A0, h1, -, h3, h4⟩ := h
  obtain ⟨k1, k2, k3, k4, k5, k6, c1, c2, c3, c4, c5, c6, c7, c8, c9⟩ := Cond.laysStatic_spec (Cond.laysStatic_setVm h3.alike (h1 _ hm))
  exact Cond.laysStatic_of (s := U) c1 c2 c3 c4 (h4 _ _ c5) c6 c7 c8 c9
theorem bz_th_rf {U : State} (h : bz_th U) {C n d : String} (hm : Cond.laysStatic C n d ∈ lw_tbl) (hr : Cond.isRef (.static C n d) ∈ flatC (Jvm.Cond.and given_1 narrow_1)) (A : Array Value) : (Cond.isRef (.static C n d)).before A U = true := by
  obtain ⟨s0, A0, h1, h2, h3, h4⟩ := h
  have h5 := flat_of_before _ h2 _ hr
  have h6 : (Cond.isRef (.static C n d)).before A0 (s0.setVm U.vm) = true := Cond.before_warmed h3 _ (show (Cond.isRef (.static C n d)).keeps = true from rfl) h5
  obtain ⟨k1, k2, k3, k4, k5, k6, c1, c2, c3, c4, c5, c6, c7, c8, c9⟩ := Cond.laysStatic_spec (Cond.laysStatic_setVm h3.alike (h1 _ hm))
  have f1 : (s0.setVm U.vm).fieldFound? C n d = some (k1, k2, k3, k4) := c2
  have f2 : U.fieldFound? C n d = some (k1, k2, k3, k4) := c2
  have g1 : s0.heap[k5]? = some k6 := c5
  have g2 : U.heap[k5]? = some k6 := h4 _ _ c5
  have e1 : (Term.static C n d).eval A0 (s0.setVm U.vm) none [] (s0.setVm U.vm) = (Term.static C n d).eval A U none [] U := by
    simp [Term.eval, State.fieldNamed?, f1, f2, c3, c4, g1, g2, c6]
  simp only [Cond.before, Cond.holds, Cond.value] at h6 ⊢
  rw [← e1]
  exact h6
theorem bz_th_nc {U : State} (h : bz_th U) {C E : String} (hr : Cond.not (.castable C E) ∈ flatC (Jvm.Cond.and given_1 narrow_1)) : va_Nc C E U := by
  obtain ⟨s0, A0, h1, h2, h3, h4⟩ := h
  exact va_Nc.moved h3.alike (va_Nc.of (flat_of_before _ h2 _ hr))
theorem bz_th_st {U : State} (h : bz_th U) {k : Nat} {tx : String} (hm : Cond.stringRef R_B k tx ∈ lw_tbl) (hr : Cond.exactly (.string R_B k) "java/lang/String" ∈ flatC (Jvm.Cond.and given_1 narrow_1)) : ∃ a : Nat, vk_R R_B k tx a U := by
  obtain ⟨s0, A0, h1, h2, h3, h4⟩ := h
  obtain ⟨a, -, -, -, q1, -⟩ := Cond.exactly_spec (args := A0) (first := s0) (o := none) (s := s0) (idx := []) (t := .string R_B k) (cls := "java/lang/String") (flat_of_before _ h2 _ hr)
  exact ⟨a, vk_R.warm h3 (vk_R.of (h1 _ hm) q1)⟩
/-- all words of a throw of E out of B's method whose constructor's entry is ic -/
def bz_oa (E : String) (ic : Nat) : List Cond := Bundle.ownAtoms R_B ic E bz_nm
def bz_os : List Cond := [.isRef (.static Bundle.tN "UNASSIGNED_STACK" Bundle.steD), .isRef (.static Bundle.tN "SUPPRESSED_SENTINEL" Bundle.listD), .laysStatic Bundle.tN "UNASSIGNED_STACK" Bundle.steD, .laysStatic Bundle.tN "SUPPRESSED_SENTINEL" Bundle.listD]
theorem bz_oa_IA : ((bz_oa bz_IA 103).all fun w => decide (w ∈ bz_os) || (decide (w ∈ lw_tbl) && bz_wk w)) = true := by decide +kernel
theorem bz_oa_IS : ((bz_oa bz_IS 110).all fun w => decide (w ∈ bz_os) || (decide (w ∈ lw_tbl) && bz_wk w)) = true := by decide +kernel
theorem bz_os_l : Cond.laysStatic Bundle.tN "UNASSIGNED_STACK" Bundle.steD ∈ lw_tbl ∧ Cond.laysStatic Bundle.tN "SUPPRESSED_SENTINEL" Bundle.listD ∈ lw_tbl := by
  refine ⟨of_decide_eq_true ?_, of_decide_eq_true ?_⟩ <;> decide +kernel
theorem bz_os_r : Cond.isRef (.static Bundle.tN "UNASSIGNED_STACK" Bundle.steD) ∈ flatC (Jvm.Cond.and given_1 narrow_1) ∧ Cond.isRef (.static Bundle.tN "SUPPRESSED_SENTINEL" Bundle.listD) ∈ flatC (Jvm.Cond.and given_1 narrow_1) := by
  refine ⟨of_decide_eq_true ?_, of_decide_eq_true ?_⟩ <;> decide +kernel
theorem bz_th_oa {U : State} (h : bz_th U) {E : String} {ic : Nat} (ho : ((bz_oa E ic).all fun w => decide (w ∈ bz_os) || (decide (w ∈ lw_tbl) && bz_wk w)) = true) (A : Array Value) : ∀ w ∈ Bundle.ownAtoms R_B ic E bz_nm, w.before A U = true := by
  intro w hw
  have h1 := List.all_eq_true.mp ho w hw
  simp only [Bool.or_eq_true, Bool.and_eq_true, decide_eq_true_eq] at h1
  rcases h1 with h1 | ⟨h1, h2⟩
  · simp only [bz_os, List.mem_cons, List.not_mem_nil, or_false] at h1
    rcases h1 with rfl | rfl | rfl | rfl
    · exact bz_th_rf h bz_os_l.1 bz_os_r.1 A
    · exact bz_th_rf h bz_os_l.2 bz_os_r.2 A
    · exact bz_th_ls h bz_os_l.1 A
    · exact bz_th_ls h bz_os_l.2 A
  · exact bz_th_w h h1 h2 A
