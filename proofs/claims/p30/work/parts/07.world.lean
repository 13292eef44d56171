/-! the two worlds: the class's, the reference's; fuel -/
def FU : Nat := 1000000000000000000
theorem zlcmp_R (x y : Int64) : inR (zlcmp x y) := zi_inR _
def objC (ad : Nat → Nat) (M : Mem) (k : Nat) : Nat × List Value := match k - 23 with
  | 0 => (2, [.ref (ad 0), .ref (ad 1), .ref (ad 2), .ref (ad 3), .ref (ad 4), iV (M 100 0), iV (M 101 0)])
  | 1 => (4, [.ref (ad 5), .ref (ad 6)])
  | 2 => (3, [.ref (ad 7), iV (M 102 0), .ref (ad 8), iV (M 103 0), .ref (ad 9), .ref (ad 10), .ref (ad 11)])
  | 3 => (0, [.ref (ad 12), .ref (ad 13), .ref (ad 14), .ref (ad 15)])
  | 4 => (1, [.ref (ad 16), .ref (ad 17), .ref (ad 18), .ref (ad 19), .ref (ad 20), iV (M 104 0), iV (M 105 0)])
  | _ => (5, [.ref (ad 23), .ref (ad 24), .ref (ad 25), .ref (ad 26), .ref (ad 27)])
def lenC (k : Nat) : Nat := ([60, 60, 144, 60, 60, 36, 60, 6, 2304, 216, 36, 6, 36, 60, 36, 36, 36, 36, 8, 36, 36, 1, 37] : List Nat).getD k 0
def kzC (k : Nat) : Bool := ([false, false, false, false, false, false, false, false, false, false, false, false, false, false, false, false, false, false, true, true, false, false, false] : List Bool).getD k false
def wC : WD := (29, 23, lenC, kzC, objC)
theorem wC_ok : wOK wC := by
  refine ⟨by decide, by decide, fun k => ?_, fun ad M M' k h => ?_⟩
  · show lenC k < 2147483648
    rcases Nat.lt_or_ge k 23 with q | q
    · revert k; decide
    · rw [lenC, List.getD_eq_getElem?_getD, List.getElem?_eq_none (by exact q)]; decide
  · show objC ad M k = objC ad M' k
    have e := fun a ha => h a 0 ha
    unfold objC
    simp only [e 100 (by decide), e 101 (by decide), e 102 (by decide), e 103 (by decide), e 104 (by decide), e 105 (by decide)]
theorem putC_100 (ad : Nat → Nat) (M : Mem) (z : Int) : ∀ j, 23 ≤ j → j < 29 → j ≠ 23 → objC ad (wr M 100 0 z) j = objC ad M j := by
  intro j hj0 hj1 hj
  have e : ∀ a, a ≠ 100 → wr M 100 0 z a = M a := fun a ha => wr_row M z ha
  unfold objC
  split
  · first | rfl | (exfalso; omega)
  · first | rfl | (exfalso; omega)
  · first | (simp only [e 102 (by decide), e 103 (by decide)]; done) | rfl | (exfalso; omega)
  · first | rfl | (exfalso; omega)
  · first | (simp only [e 104 (by decide), e 105 (by decide)]; done) | rfl | (exfalso; omega)
  · first | rfl | (exfalso; omega)
theorem putC_101 (ad : Nat → Nat) (M : Mem) (z : Int) : ∀ j, 23 ≤ j → j < 29 → j ≠ 23 → objC ad (wr M 101 0 z) j = objC ad M j := by
  intro j hj0 hj1 hj
  have e : ∀ a, a ≠ 101 → wr M 101 0 z a = M a := fun a ha => wr_row M z ha
  unfold objC
  split
  · first | rfl | (exfalso; omega)
  · first | rfl | (exfalso; omega)
  · first | (simp only [e 102 (by decide), e 103 (by decide)]; done) | rfl | (exfalso; omega)
  · first | rfl | (exfalso; omega)
  · first | (simp only [e 104 (by decide), e 105 (by decide)]; done) | rfl | (exfalso; omega)
  · first | rfl | (exfalso; omega)
theorem putC_102 (ad : Nat → Nat) (M : Mem) (z : Int) : ∀ j, 23 ≤ j → j < 29 → j ≠ 25 → objC ad (wr M 102 0 z) j = objC ad M j := by
  intro j hj0 hj1 hj
  have e : ∀ a, a ≠ 102 → wr M 102 0 z a = M a := fun a ha => wr_row M z ha
  unfold objC
  split
  · first | (simp only [e 100 (by decide), e 101 (by decide)]; done) | rfl | (exfalso; omega)
  · first | rfl | (exfalso; omega)
  · first | rfl | (exfalso; omega)
  · first | rfl | (exfalso; omega)
  · first | (simp only [e 104 (by decide), e 105 (by decide)]; done) | rfl | (exfalso; omega)
  · first | rfl | (exfalso; omega)
theorem putC_103 (ad : Nat → Nat) (M : Mem) (z : Int) : ∀ j, 23 ≤ j → j < 29 → j ≠ 25 → objC ad (wr M 103 0 z) j = objC ad M j := by
  intro j hj0 hj1 hj
  have e : ∀ a, a ≠ 103 → wr M 103 0 z a = M a := fun a ha => wr_row M z ha
  unfold objC
  split
  · first | (simp only [e 100 (by decide), e 101 (by decide)]; done) | rfl | (exfalso; omega)
  · first | rfl | (exfalso; omega)
  · first | rfl | (exfalso; omega)
  · first | rfl | (exfalso; omega)
  · first | (simp only [e 104 (by decide), e 105 (by decide)]; done) | rfl | (exfalso; omega)
  · first | rfl | (exfalso; omega)
theorem putC_104 (ad : Nat → Nat) (M : Mem) (z : Int) : ∀ j, 23 ≤ j → j < 29 → j ≠ 27 → objC ad (wr M 104 0 z) j = objC ad M j := by
  intro j hj0 hj1 hj
  have e : ∀ a, a ≠ 104 → wr M 104 0 z a = M a := fun a ha => wr_row M z ha
  unfold objC
  split
  · first | (simp only [e 100 (by decide), e 101 (by decide)]; done) | rfl | (exfalso; omega)
  · first | rfl | (exfalso; omega)
  · first | (simp only [e 102 (by decide), e 103 (by decide)]; done) | rfl | (exfalso; omega)
  · first | rfl | (exfalso; omega)
  · first | rfl | (exfalso; omega)
  · first | rfl | (exfalso; omega)
theorem putC_105 (ad : Nat → Nat) (M : Mem) (z : Int) : ∀ j, 23 ≤ j → j < 29 → j ≠ 27 → objC ad (wr M 105 0 z) j = objC ad M j := by
  intro j hj0 hj1 hj
  have e : ∀ a, a ≠ 105 → wr M 105 0 z a = M a := fun a ha => wr_row M z ha
  unfold objC
  split
  · first | (simp only [e 100 (by decide), e 101 (by decide)]; done) | rfl | (exfalso; omega)
  · first | rfl | (exfalso; omega)
  · first | (simp only [e 102 (by decide), e 103 (by decide)]; done) | rfl | (exfalso; omega)
  · first | rfl | (exfalso; omega)
  · first | rfl | (exfalso; omega)
  · first | rfl | (exfalso; omega)
