/-! the cells of one BalanceRounds object, of raw contents -/
theorem bz_arrI {cA : ClassId} {n : Nat} {f g : Nat → Int32} (h : ∀ j, j < n → f j = g j) : vp_cell cA (n, .inl f) = vp_cell cA (n, .inl g) := by
  show arrV cA n (fun j => .int (f j)) = arrV cA n (fun j => .int (g j))
  unfold arrV
  congr 1
  congr 1
  funext j
  show Value.int (f j.val) = Value.int (g j.val)
  rw [h j.val j.isLt]
theorem bz_arrL {cA : ClassId} {n : Nat} {f g : Nat → Int64} (h : ∀ j, j < n → f j = g j) : vp_cell cA (n, .inr (.inl f)) = vp_cell cA (n, .inr (.inl g)) := by
  show arrV cA n (fun j => .long (f j)) = arrV cA n (fun j => .long (g j))
  unfold arrV
  congr 1
  congr 1
  funext j
  show Value.long (f j.val) = Value.long (g j.val)
  rw [h j.val j.isLt]
theorem bz_P_set {D : va_G} {cl : List vw_C} {ws : va_W} {H : Heap} {q0 ad : Nat} {cA : ClassId} {x y : vp_A} (hP : va_P D cl ws H) (ha : ws[q0]? = some (ad, .inl (cA, x))) (h : vp_cell cA x = vp_cell cA y) : va_P D cl (ws.set q0 (ad, .inl (cA, y))) H := by
  have hl := (List.getElem?_eq_some_iff.mp ha).1
  intro k q hk
  by_cases hkp : k = q0
  · subst hkp
    rw [List.getElem?_set_self hl] at hk
    cases hk
    show H[ad]? = some (vp_cell cA y)
    rw [← h]
    exact hP k _ ha
  · rw [List.getElem?_set_ne (Ne.symm hkp)] at hk
    exact hP k q hk
def bz_wB (ad : Nat → Nat) (cI cL : ClassId) (T : bz_RT) (R : bz_RS) (L : (Nat → Int32) × Int64) (v : Int32) : va_W :=
  [(ad 0, .inr (3, [.ref (ad 1), .ref (ad 7), .ref (ad 11), .int v])),
   (ad 1, .inr (2, [.ref (ad 2), .ref (ad 3), .ref (ad 4), .ref (ad 5), .ref (ad 6), .int T.2.2.2.2.2])),
   (ad 2, .inl (cL, 30, .inr (.inl T.1))),
   (ad 3, .inl (cI, 30, .inl T.2.1)),
   (ad 4, .inl (cI, 30, .inl T.2.2.1)),
   (ad 5, .inl (cI, 4, .inl T.2.2.2.1)),
   (ad 6, .inl (cL, 4, .inr (.inl T.2.2.2.2.1))),
   (ad 7, .inr (1, [.ref (ad 1), .ref (ad 8), .ref (ad 9), .ref (ad 10), .int R.2.2.2.1, .int R.2.2.2.2])),
   (ad 8, .inl (cI, 30, .inl R.1)),
   (ad 9, .inl (cI, 4, .inl R.2.1)),
   (ad 10, .inl (cL, 4, .inr (.inl R.2.2.1))),
   (ad 11, .inr (0, [.ref (ad 12), .long L.2])),
   (ad 12, .inl (cI, 8, .inl L.1))]
