def fX2_low (M : Mem) (x1 : Int) : Option (Int) :=
    gd (inB (x1) 60) (
    some (M 0 x1.toNat))
abbrev rmX2_low : Room := { frames := 0, cells := 0, slots := 0, locals := 0 }
theorem hl_X2_low_9 : Cond.fieldLink RX2 9 "PlateauBench$Grid" "low" "[I" ∈ wsX2_low := by decide +kernel
theorem hi_X2_low_X2 : ∀ x ∈ u_ws RX2 TX2 7, x ∈ wsX2_low := by decide +kernel
set_option maxRecDepth 100000 in
set_option maxHeartbeats 4000000 in
theorem kX2_low (l : Launch) (ad : Nat → Nat) (M : Mem) (x1 : Int) (T : Int) (h : fX2_low M x1 = some T) : MX l yX2_low wsX2_low rmX2_low wC ad [.ref (ad 23), iV (x1)] M (some (iV (T))) M := by
  refine MX.of (cc := cX2_low) (nL := 2) (rt := (some .int)) (own := RX2) (by decide +kernel) rfl rfl (Nat.le_of_ble_eq_true rfl) wC_ok (fun G cx => ?_)
  show G M 0 [(0, .ref (ad 23)), (1, iV (x1))] []
  unfold fX2_low at h
  refine ax_aload_n cx 0 dX2_low_0 rfl rfl ?_
  refine ax_getf (q := 23) (ci := 2) (k := 0) (v := .ref (ad 0)) cx ⟨by decide, by decide⟩ rfl rfl hi_X2_low_X2 (by decide) hl_X2_low_9 rfl rfl dX2_low_1 ?_
  refine ax_iload_n cx 1 dX2_low_4 rfl rfl ?_
  obtain ⟨g1, h⟩ := gd_some h
  refine ax_iald (n := 60) cx (by decide) rfl rfl g1 dX2_low_5 ?_
  cases h
  exact ax_iret cx dX2_low_6 rfl ⟨rfl, rfl⟩
def fX2_high (M : Mem) (x1 : Int) : Option (Int) :=
    gd (inB (x1) 60) (
    some (M 1 x1.toNat))
abbrev rmX2_high : Room := { frames := 0, cells := 0, slots := 0, locals := 0 }
theorem hl_X2_high_15 : Cond.fieldLink RX2 15 "PlateauBench$Grid" "high" "[I" ∈ wsX2_high := by decide +kernel
theorem hi_X2_high_X2 : ∀ x ∈ u_ws RX2 TX2 7, x ∈ wsX2_high := by decide +kernel
set_option maxRecDepth 100000 in
set_option maxHeartbeats 4000000 in
theorem kX2_high (l : Launch) (ad : Nat → Nat) (M : Mem) (x1 : Int) (T : Int) (h : fX2_high M x1 = some T) : MX l yX2_high wsX2_high rmX2_high wC ad [.ref (ad 23), iV (x1)] M (some (iV (T))) M := by
  refine MX.of (cc := cX2_high) (nL := 2) (rt := (some .int)) (own := RX2) (by decide +kernel) rfl rfl (Nat.le_of_ble_eq_true rfl) wC_ok (fun G cx => ?_)
  show G M 0 [(0, .ref (ad 23)), (1, iV (x1))] []
  unfold fX2_high at h
  refine ax_aload_n cx 0 dX2_high_0 rfl rfl ?_
  refine ax_getf (q := 23) (ci := 2) (k := 1) (v := .ref (ad 1)) cx ⟨by decide, by decide⟩ rfl rfl hi_X2_high_X2 (by decide) hl_X2_high_15 rfl rfl dX2_high_1 ?_
  refine ax_iload_n cx 1 dX2_high_4 rfl rfl ?_
  obtain ⟨g1, h⟩ := gd_some h
  refine ax_iald (n := 60) cx (by decide) rfl rfl g1 dX2_high_5 ?_
  cases h
  exact ax_iret cx dX2_high_6 rfl ⟨rfl, rfl⟩
def fX2_price (M : Mem) (x1 : Int) : Option (Int) :=
    gd (inB (x1) 60) (
    some (M 4 x1.toNat))
abbrev rmX2_price : Room := { frames := 0, cells := 0, slots := 0, locals := 0 }
theorem hl_X2_price_24 : Cond.fieldLink RX2 24 "PlateauBench$Grid" "prices" "[I" ∈ wsX2_price := by decide +kernel
theorem hi_X2_price_X2 : ∀ x ∈ u_ws RX2 TX2 7, x ∈ wsX2_price := by decide +kernel
set_option maxRecDepth 100000 in
set_option maxHeartbeats 4000000 in
theorem kX2_price (l : Launch) (ad : Nat → Nat) (M : Mem) (x1 : Int) (T : Int) (h : fX2_price M x1 = some T) : MX l yX2_price wsX2_price rmX2_price wC ad [.ref (ad 23), iV (x1)] M (some (iV (T))) M := by
  refine MX.of (cc := cX2_price) (nL := 2) (rt := (some .int)) (own := RX2) (by decide +kernel) rfl rfl (Nat.le_of_ble_eq_true rfl) wC_ok (fun G cx => ?_)
  show G M 0 [(0, .ref (ad 23)), (1, iV (x1))] []
  unfold fX2_price at h
  refine ax_aload_n cx 0 dX2_price_0 rfl rfl ?_
  refine ax_getf (q := 23) (ci := 2) (k := 4) (v := .ref (ad 4)) cx ⟨by decide, by decide⟩ rfl rfl hi_X2_price_X2 (by decide) hl_X2_price_24 rfl rfl dX2_price_1 ?_
  refine ax_iload_n cx 1 dX2_price_4 rfl rfl ?_
  obtain ⟨g1, h⟩ := gd_some h
  refine ax_iald (n := 60) cx (by decide) rfl rfl g1 dX2_price_5 ?_
  cases h
  exact ax_iret cx dX2_price_6 rfl ⟨rfl, rfl⟩
def fX2_beside (M : Mem) (x1 : Int) (x2 : Int) : Option (Int) :=
    gd (inB ((x1 * 4) + x2) 144) (
    some (M 2 ((x1 * 4) + x2).toNat))
abbrev rmX2_beside : Room := { frames := 0, cells := 0, slots := 0, locals := 0 }
theorem hl_X2_beside_18 : Cond.fieldLink RX2 18 "PlateauBench$Grid" "beside" "[I" ∈ wsX2_beside := by decide +kernel
theorem hi_X2_beside_X2 : ∀ x ∈ u_ws RX2 TX2 7, x ∈ wsX2_beside := by decide +kernel
set_option maxRecDepth 100000 in
set_option maxHeartbeats 4000000 in
theorem kX2_beside (l : Launch) (ad : Nat → Nat) (M : Mem) (x1 : Int) (x2 : Int) (T : Int) (h : fX2_beside M x1 x2 = some T) : MX l yX2_beside wsX2_beside rmX2_beside wC ad [.ref (ad 23), iV (x1), iV (x2)] M (some (iV (T))) M := by
  refine MX.of (cc := cX2_beside) (nL := 3) (rt := (some .int)) (own := RX2) (by decide +kernel) rfl rfl (Nat.le_of_ble_eq_true rfl) wC_ok (fun G cx => ?_)
  show G M 0 [(0, .ref (ad 23)), (1, iV (x1)), (2, iV (x2))] []
  unfold fX2_beside at h
  refine ax_aload_n cx 0 dX2_beside_0 rfl rfl ?_
  refine ax_getf (q := 23) (ci := 2) (k := 2) (v := .ref (ad 2)) cx ⟨by decide, by decide⟩ rfl rfl hi_X2_beside_X2 (by decide) hl_X2_beside_18 rfl rfl dX2_beside_1 ?_
  refine ax_iload_n cx 1 dX2_beside_4 rfl rfl ?_
  refine ax_iconst cx dX2_beside_5 ?_
  refine ax_imul cx dX2_beside_6 ?_
  refine ax_iload_n cx 2 dX2_beside_7 rfl rfl ?_
  refine ax_iadd cx dX2_beside_8 ?_
  obtain ⟨g1, h⟩ := gd_some h
  refine ax_iald (n := 144) cx (by decide) rfl rfl g1 dX2_beside_9 ?_
  cases h
  exact ax_iret cx dX2_beside_10 rfl ⟨rfl, rfl⟩
def fX2_otherEnd (M : Mem) (x1 : Int) (x2 : Int) : Option (Int) :=
    gd (inB (x1) 60) (
    gd (inR (x2)) (
    gd (inR (M 0 x1.toNat)) (
    Option.bind (if x2 = M 0 x1.toNat then (
      gd (inB (x1) 60) (
      some (M 1 x1.toNat)))
    else (
      gd (inB (x1) 60) (
      some (M 0 x1.toNat)))) (fun t7 =>
    some (t7)))))
abbrev rmX2_otherEnd : Room := { frames := 0, cells := 0, slots := 0, locals := 0 }
theorem hl_X2_otherEnd_9 : Cond.fieldLink RX2 9 "PlateauBench$Grid" "low" "[I" ∈ wsX2_otherEnd := by decide +kernel
theorem hl_X2_otherEnd_15 : Cond.fieldLink RX2 15 "PlateauBench$Grid" "high" "[I" ∈ wsX2_otherEnd := by decide +kernel
theorem hi_X2_otherEnd_X2 : ∀ x ∈ u_ws RX2 TX2 7, x ∈ wsX2_otherEnd := by decide +kernel
set_option maxRecDepth 100000 in
set_option maxHeartbeats 4000000 in
theorem kX2_otherEnd (l : Launch) (ad : Nat → Nat) (M : Mem) (x1 : Int) (x2 : Int) (T : Int) (h : fX2_otherEnd M x1 x2 = some T) : MX l yX2_otherEnd wsX2_otherEnd rmX2_otherEnd wC ad [.ref (ad 23), iV (x1), iV (x2)] M (some (iV (T))) M := by
  refine MX.of (cc := cX2_otherEnd) (nL := 3) (rt := (some .int)) (own := RX2) (by decide +kernel) rfl rfl (Nat.le_of_ble_eq_true rfl) wC_ok (fun G cx => ?_)
  show G M 0 [(0, .ref (ad 23)), (1, iV (x1)), (2, iV (x2))] []
  unfold fX2_otherEnd at h
  refine ax_iload_n cx 2 dX2_otherEnd_0 rfl rfl ?_
  refine ax_aload_n cx 0 dX2_otherEnd_1 rfl rfl ?_
  refine ax_getf (q := 23) (ci := 2) (k := 0) (v := .ref (ad 0)) cx ⟨by decide, by decide⟩ rfl rfl hi_X2_otherEnd_X2 (by decide) hl_X2_otherEnd_9 rfl rfl dX2_otherEnd_2 ?_
  refine ax_iload_n cx 1 dX2_otherEnd_5 rfl rfl ?_
  obtain ⟨g1, h⟩ := gd_some h
  refine ax_iald (n := 60) cx (by decide) rfl rfl g1 dX2_otherEnd_6 ?_
  obtain ⟨g2, h⟩ := gd_some h
  obtain ⟨g3, h⟩ := gd_some h
  obtain ⟨t7, e9, h⟩ := ob h
  have J8 : G M 25 [] [iV (t7)] := by
    cases h
    exact ax_iret cx dX2_otherEnd_25 rfl ⟨rfl, rfl⟩
  clear h
  have h := e9
  clear e9
  refine ax_icmp_ne cx 19 dX2_otherEnd_7 (by decide) g2 g3 (fun c4 => ?_) (fun c4 => ?_)
  · rw [if_pos c4] at h
    refine ax_aload_n cx 0 dX2_otherEnd_10 rfl rfl ?_
    refine ax_getf (q := 23) (ci := 2) (k := 1) (v := .ref (ad 1)) cx ⟨by decide, by decide⟩ rfl rfl hi_X2_otherEnd_X2 (by decide) hl_X2_otherEnd_15 rfl rfl dX2_otherEnd_11 ?_
    refine ax_iload_n cx 1 dX2_otherEnd_14 rfl rfl ?_
    obtain ⟨g5, h⟩ := gd_some h
    refine ax_iald (n := 60) cx (by decide) rfl rfl g5 dX2_otherEnd_15 ?_
    refine ax_goto cx 25 dX2_otherEnd_16 (by decide) ?_
    refine ax_lv cx [] rfl ?_
    cases h
    exact J8
  · rw [if_neg c4] at h
    refine ax_aload_n cx 0 dX2_otherEnd_19 rfl rfl ?_
    refine ax_getf (q := 23) (ci := 2) (k := 0) (v := .ref (ad 0)) cx ⟨by decide, by decide⟩ rfl rfl hi_X2_otherEnd_X2 (by decide) hl_X2_otherEnd_9 rfl rfl dX2_otherEnd_20 ?_
    refine ax_iload_n cx 1 dX2_otherEnd_23 rfl rfl ?_
    obtain ⟨g6, h⟩ := gd_some h
    refine ax_iald (n := 60) cx (by decide) rfl rfl g6 dX2_otherEnd_24 ?_
    refine ax_lv cx [] rfl ?_
    cases h
    exact J8
def fX2_changeDirection_L36 : Nat → Mem → Int → Int → Option (Mem)
  | 0, _, _, _ => none
  | n + 1, M, x3, x4 =>
    gd (inR (x4)) (
    if 60 ≤ x4 then (
      some (M))
    else (
      gd (inB (x4) 60) (
      Option.bind (if 30 ≤ x4 then (
        some (M 101 0))
      else (
        some (M 100 0))) (fun t14 =>
      gd (inB (x4) 60) (
      fX2_changeDirection_L36 n (wr M 4 x4.toNat ((M 3 x4.toNat) + t14)) x3 (x4 + 1))))))
def fX2_changeDirection (M : Mem) (x1 : Int) (x2 : Int) : Option (Int × Mem) :=
    gd (inR (x1)) (
    Option.bind (if x1 = 0 then (
      some (M 100 0))
    else (
      some (M 101 0))) (fun t3 =>
    Option.bind (if x1 = 0 then (
      some ((wr M 100 0 x2)))
    else (
      some ((wr M 101 0 x2)))) (fun t7 =>
    Option.bind (fX2_changeDirection_L36 FU t7 t3 0) (fun t19 =>
    some (t3, t19)))))
abbrev rmX2_changeDirection : Room := { frames := 0, cells := 0, slots := 0, locals := 0 }
theorem hl_X2_changeDirection_27 : Cond.fieldLink RX2 27 "PlateauBench$Grid" "across" "I" ∈ wsX2_changeDirection := by decide +kernel
theorem hl_X2_changeDirection_31 : Cond.fieldLink RX2 31 "PlateauBench$Grid" "down" "I" ∈ wsX2_changeDirection := by decide +kernel
theorem hl_X2_changeDirection_24 : Cond.fieldLink RX2 24 "PlateauBench$Grid" "prices" "[I" ∈ wsX2_changeDirection := by decide +kernel
theorem hl_X2_changeDirection_21 : Cond.fieldLink RX2 21 "PlateauBench$Grid" "laid" "[I" ∈ wsX2_changeDirection := by decide +kernel
theorem hi_X2_changeDirection_X2 : ∀ x ∈ u_ws RX2 TX2 7, x ∈ wsX2_changeDirection := by decide +kernel
set_option maxRecDepth 100000 in
set_option maxHeartbeats 4000000 in
theorem kX2_changeDirection (l : Launch) (ad : Nat → Nat) (M : Mem) (x1 : Int) (x2 : Int) (T : Int × Mem) (h : fX2_changeDirection M x1 x2 = some T) : MX l yX2_changeDirection wsX2_changeDirection rmX2_changeDirection wC ad [.ref (ad 23), iV (x1), iV (x2)] M (some (iV (T.1))) T.2 := by
  refine MX.of (cc := cX2_changeDirection) (nL := 5) (rt := (some .int)) (own := RX2) (by decide +kernel) rfl rfl (Nat.le_of_ble_eq_true rfl) wC_ok (fun G cx => ?_)
  show G M 0 [(0, .ref (ad 23)), (1, iV (x1)), (2, iV (x2))] []
  have L36 : ∀ (n : Nat) (M : Mem) (x3 : Int) (x4 : Int) (T18 : Mem), fX2_changeDirection_L36 n M x3 x4 = some T18 → (G T18 82 [(3, iV (x3))] []) → G M 36 [(0, .ref (ad 23)), (3, iV (x3)), (4, iV (x4))] [] := by
    intro n
    induction n with
    | zero =>
      intro M x3 x4 T18 h
      exact absurd h (by simp [fX2_changeDirection_L36])
    | succ n ih =>
      intro M x3 x4 T18 h hJ
      rw [fX2_changeDirection_L36] at h
      refine ax_iload cx 2 dX2_changeDirection_36 rfl ?_
      refine ax_bipush (z := 60) cx dX2_changeDirection_38 (by decide) ?_
      obtain ⟨g10, h⟩ := gd_some h
      refine ax_icmp_ge cx 82 dX2_changeDirection_40 (by decide) g10 ⟨by decide, by decide⟩ (fun c11 => ?_) (fun c11 => ?_)
      · rw [if_pos c11] at h
        refine ax_lv cx [1] rfl ?_
        cases h
        exact hJ
      · rw [if_neg c11] at h
        refine ax_aload_n cx 0 dX2_changeDirection_43 rfl rfl ?_
        refine ax_getf (q := 23) (ci := 2) (k := 4) (v := .ref (ad 4)) cx ⟨by decide, by decide⟩ rfl rfl hi_X2_changeDirection_X2 (by decide) hl_X2_changeDirection_24 rfl rfl dX2_changeDirection_44 ?_
        refine ax_iload cx 2 dX2_changeDirection_47 rfl ?_
        refine ax_aload_n cx 0 dX2_changeDirection_49 rfl rfl ?_
        refine ax_getf (q := 23) (ci := 2) (k := 3) (v := .ref (ad 3)) cx ⟨by decide, by decide⟩ rfl rfl hi_X2_changeDirection_X2 (by decide) hl_X2_changeDirection_21 rfl rfl dX2_changeDirection_50 ?_
        refine ax_iload cx 2 dX2_changeDirection_53 rfl ?_
        obtain ⟨g12, h⟩ := gd_some h
        refine ax_iald (n := 60) cx (by decide) rfl rfl g12 dX2_changeDirection_55 ?_
        refine ax_iload cx 2 dX2_changeDirection_56 rfl ?_
        refine ax_bipush (z := 30) cx dX2_changeDirection_58 (by decide) ?_
        obtain ⟨t14, e16, h⟩ := ob h
        have J15 : G M 74 [(0, .ref (ad 23)), (3, iV (x3)), (4, iV (x4))] [iV (t14), iV (M 3 x4.toNat), iV (x4), .ref (ad 4)] := by
          refine ax_iadd cx dX2_changeDirection_74 ?_
          obtain ⟨g17, h⟩ := gd_some h
          refine ax_iast (n := 60) cx (by decide) rfl rfl g17 dX2_changeDirection_75 ?_
          refine ax_iinc (lv' := [(4, iV (x4 + 1)), (0, .ref (ad 23)), (3, iV (x3))]) cx 2 dX2_changeDirection_76 rfl (by decide) rfl ?_
          refine ax_goto cx 36 dX2_changeDirection_79 (by decide) ?_
          refine ax_lv cx [1, 2, 0] rfl ?_
          exact ih _ _ _ _ h hJ
        clear h
        have h := e16
        clear e16
        refine ax_icmp_ge cx 70 dX2_changeDirection_60 (by decide) ⟨by have := g12.1; omega, by have := g12.2; omega⟩ ⟨by decide, by decide⟩ (fun c13 => ?_) (fun c13 => ?_)
        · rw [if_pos c13] at h
          refine ax_aload_n cx 0 dX2_changeDirection_70 rfl rfl ?_
          refine ax_getf (q := 23) (ci := 2) (k := 6) (v := iV (M 101 0)) cx ⟨by decide, by decide⟩ rfl rfl hi_X2_changeDirection_X2 (by decide) hl_X2_changeDirection_31 rfl rfl dX2_changeDirection_71 ?_
          cases h
          exact J15
        · rw [if_neg c13] at h
          refine ax_aload_n cx 0 dX2_changeDirection_63 rfl rfl ?_
          refine ax_getf (q := 23) (ci := 2) (k := 5) (v := iV (M 100 0)) cx ⟨by decide, by decide⟩ rfl rfl hi_X2_changeDirection_X2 (by decide) hl_X2_changeDirection_27 rfl rfl dX2_changeDirection_64 ?_
          refine ax_goto cx 74 dX2_changeDirection_67 (by decide) ?_
          cases h
          exact J15
  unfold fX2_changeDirection at h
  refine ax_iload_n cx 1 dX2_changeDirection_0 rfl rfl ?_
  obtain ⟨g1, h⟩ := gd_some h
  obtain ⟨t3, e5, h⟩ := ob h
  have J4 : G M 15 [(0, .ref (ad 23)), (1, iV (x1)), (2, iV (x2))] [iV (t3)] := by
    refine ax_istore_n (lv' := [(3, iV (t3)), (0, .ref (ad 23)), (1, iV (x1)), (2, iV (x2))]) cx dX2_changeDirection_15 rfl (by decide) rfl ?_
    refine ax_iload_n cx 2 dX2_changeDirection_16 rfl rfl ?_
    obtain ⟨t7, e9, h⟩ := ob h
    have J8 : G t7 33 [(0, .ref (ad 23)), (3, iV (t3))] [] := by
      refine ax_iconst cx dX2_changeDirection_33 ?_
      refine ax_istore (lv' := [(4, iV (0)), (0, .ref (ad 23)), (3, iV (t3))]) cx dX2_changeDirection_34 (by decide) rfl ?_
      obtain ⟨t19, e20, h⟩ := ob h
      refine ax_lv cx [1, 2, 0] rfl ?_
      have J21 : G t19 82 [(3, iV (t3))] [] := by
        refine ax_iload_n cx 0 dX2_changeDirection_82 rfl rfl ?_
        cases h
        exact ax_iret cx dX2_changeDirection_83 rfl ⟨rfl, rfl⟩
      exact L36 FU t7 t3 0 _ e20 J21
    clear h
    have h := e9
    clear e9
    refine ax_if_ne cx 28 dX2_changeDirection_17 (by decide) g1 (fun c6 => ?_) (fun c6 => ?_)
    · rw [if_pos c6] at h
      refine ax_aload_n cx 1 dX2_changeDirection_20 rfl rfl ?_
      refine ax_iload_n cx 3 dX2_changeDirection_21 rfl rfl ?_
      refine ax_putf (q := 23) (ci := 2) (k := 5) (f := 100) (ty := .int) cx ⟨by decide, by decide⟩ rfl rfl hi_X2_changeDirection_X2 tyX2 tyX2_ok nmX2 (by decide) hl_X2_changeDirection_27 rfl (by decide +kernel) (by decide +kernel) rfl rfl (Nat.le_of_ble_eq_true rfl) (by decide) rfl (putC_100 ad _ _) dX2_changeDirection_22 ?_
      refine ax_goto cx 33 dX2_changeDirection_25 (by decide) ?_
      refine ax_lv cx [1, 0] rfl ?_
      cases h
      exact J8
    · rw [if_neg c6] at h
      refine ax_aload_n cx 1 dX2_changeDirection_28 rfl rfl ?_
      refine ax_iload_n cx 3 dX2_changeDirection_29 rfl rfl ?_
      refine ax_putf (q := 23) (ci := 2) (k := 6) (f := 101) (ty := .int) cx ⟨by decide, by decide⟩ rfl rfl hi_X2_changeDirection_X2 tyX2 tyX2_ok nmX2 (by decide) hl_X2_changeDirection_31 rfl (by decide +kernel) (by decide +kernel) rfl rfl (Nat.le_of_ble_eq_true rfl) (by decide) rfl (putC_101 ad _ _) dX2_changeDirection_30 ?_
      refine ax_lv cx [1, 0] rfl ?_
      cases h
      exact J8
  clear h
  have h := e5
  clear e5
  refine ax_if_ne cx 11 dX2_changeDirection_1 (by decide) g1 (fun c2 => ?_) (fun c2 => ?_)
  · rw [if_pos c2] at h
    refine ax_aload_n cx 0 dX2_changeDirection_4 rfl rfl ?_
    refine ax_getf (q := 23) (ci := 2) (k := 5) (v := iV (M 100 0)) cx ⟨by decide, by decide⟩ rfl rfl hi_X2_changeDirection_X2 (by decide) hl_X2_changeDirection_27 rfl rfl dX2_changeDirection_5 ?_
    refine ax_goto cx 15 dX2_changeDirection_8 (by decide) ?_
    cases h
    exact J4
  · rw [if_neg c2] at h
    refine ax_aload_n cx 0 dX2_changeDirection_11 rfl rfl ?_
    refine ax_getf (q := 23) (ci := 2) (k := 6) (v := iV (M 101 0)) cx ⟨by decide, by decide⟩ rfl rfl hi_X2_changeDirection_X2 (by decide) hl_X2_changeDirection_31 rfl rfl dX2_changeDirection_12 ?_
    cases h
    exact J4
def fX2_changeLaid (M : Mem) (x1 : Int) (x2 : Int) : Option (Int × Mem) :=
    gd (inB (x1) 60) (
    gd (inB (x1) 60) (
    Option.bind (if 30 ≤ x1 then (
      some ((wr M 3 x1.toNat x2) 101 0))
    else (
      some ((wr M 3 x1.toNat x2) 100 0))) (fun t4 =>
    gd (inB (x1) 60) (
    some (M 3 x1.toNat, (wr (wr M 3 x1.toNat x2) 4 x1.toNat (x2 + t4)))))))
abbrev rmX2_changeLaid : Room := { frames := 0, cells := 0, slots := 0, locals := 0 }
theorem hl_X2_changeLaid_21 : Cond.fieldLink RX2 21 "PlateauBench$Grid" "laid" "[I" ∈ wsX2_changeLaid := by decide +kernel
theorem hl_X2_changeLaid_24 : Cond.fieldLink RX2 24 "PlateauBench$Grid" "prices" "[I" ∈ wsX2_changeLaid := by decide +kernel
theorem hl_X2_changeLaid_31 : Cond.fieldLink RX2 31 "PlateauBench$Grid" "down" "I" ∈ wsX2_changeLaid := by decide +kernel
theorem hl_X2_changeLaid_27 : Cond.fieldLink RX2 27 "PlateauBench$Grid" "across" "I" ∈ wsX2_changeLaid := by decide +kernel
theorem hi_X2_changeLaid_X2 : ∀ x ∈ u_ws RX2 TX2 7, x ∈ wsX2_changeLaid := by decide +kernel
set_option maxRecDepth 100000 in
set_option maxHeartbeats 4000000 in
theorem kX2_changeLaid (l : Launch) (ad : Nat → Nat) (M : Mem) (x1 : Int) (x2 : Int) (T : Int × Mem) (h : fX2_changeLaid M x1 x2 = some T) : MX l yX2_changeLaid wsX2_changeLaid rmX2_changeLaid wC ad [.ref (ad 23), iV (x1), iV (x2)] M (some (iV (T.1))) T.2 := by
  refine MX.of (cc := cX2_changeLaid) (nL := 4) (rt := (some .int)) (own := RX2) (by decide +kernel) rfl rfl (Nat.le_of_ble_eq_true rfl) wC_ok (fun G cx => ?_)
  show G M 0 [(0, .ref (ad 23)), (1, iV (x1)), (2, iV (x2))] []
  unfold fX2_changeLaid at h
  refine ax_aload_n cx 0 dX2_changeLaid_0 rfl rfl ?_
  refine ax_getf (q := 23) (ci := 2) (k := 3) (v := .ref (ad 3)) cx ⟨by decide, by decide⟩ rfl rfl hi_X2_changeLaid_X2 (by decide) hl_X2_changeLaid_21 rfl rfl dX2_changeLaid_1 ?_
  refine ax_iload_n cx 1 dX2_changeLaid_4 rfl rfl ?_
  obtain ⟨g1, h⟩ := gd_some h
  refine ax_iald (n := 60) cx (by decide) rfl rfl g1 dX2_changeLaid_5 ?_
  refine ax_istore_n (lv' := [(3, iV (M 3 x1.toNat)), (0, .ref (ad 23)), (1, iV (x1)), (2, iV (x2))]) cx dX2_changeLaid_6 rfl (by decide) rfl ?_
  refine ax_aload_n cx 1 dX2_changeLaid_7 rfl rfl ?_
  refine ax_getf (q := 23) (ci := 2) (k := 3) (v := .ref (ad 3)) cx ⟨by decide, by decide⟩ rfl rfl hi_X2_changeLaid_X2 (by decide) hl_X2_changeLaid_21 rfl rfl dX2_changeLaid_8 ?_
  refine ax_iload_n cx 2 dX2_changeLaid_11 rfl rfl ?_
  refine ax_iload_n cx 3 dX2_changeLaid_12 rfl rfl ?_
  obtain ⟨g2, h⟩ := gd_some h
  refine ax_iast (n := 60) cx (by decide) rfl rfl g2 dX2_changeLaid_13 ?_
  refine ax_aload_n cx 1 dX2_changeLaid_14 rfl rfl ?_
  refine ax_getf (q := 23) (ci := 2) (k := 4) (v := .ref (ad 4)) cx ⟨by decide, by decide⟩ rfl rfl hi_X2_changeLaid_X2 (by decide) hl_X2_changeLaid_24 rfl rfl dX2_changeLaid_15 ?_
  refine ax_iload_n cx 2 dX2_changeLaid_18 rfl rfl ?_
  refine ax_iload_n cx 3 dX2_changeLaid_19 rfl rfl ?_
  refine ax_iload_n cx 2 dX2_changeLaid_20 rfl rfl ?_
  refine ax_bipush (z := 30) cx dX2_changeLaid_21 (by decide) ?_
  obtain ⟨t4, e6, h⟩ := ob h
  have J5 : G (wr M 3 x1.toNat x2) 37 [(3, iV (M 3 x1.toNat))] [iV (t4), iV (x2), iV (x1), .ref (ad 4)] := by
    refine ax_iadd cx dX2_changeLaid_37 ?_
    obtain ⟨g7, h⟩ := gd_some h
    refine ax_iast (n := 60) cx (by decide) rfl rfl g7 dX2_changeLaid_38 ?_
    refine ax_iload_n cx 0 dX2_changeLaid_39 rfl rfl ?_
    cases h
    exact ax_iret cx dX2_changeLaid_40 rfl ⟨rfl, rfl⟩
  clear h
  have h := e6
  clear e6
  refine ax_icmp_ge cx 33 dX2_changeLaid_23 (by decide) ⟨by have := g2.1; omega, by have := g2.2; omega⟩ ⟨by decide, by decide⟩ (fun c3 => ?_) (fun c3 => ?_)
  · rw [if_pos c3] at h
    refine ax_aload_n cx 1 dX2_changeLaid_33 rfl rfl ?_
    refine ax_getf (q := 23) (ci := 2) (k := 6) (v := iV ((wr M 3 x1.toNat x2) 101 0)) cx ⟨by decide, by decide⟩ rfl rfl hi_X2_changeLaid_X2 (by decide) hl_X2_changeLaid_31 rfl rfl dX2_changeLaid_34 ?_
    refine ax_lv cx [0] rfl ?_
    cases h
    exact J5
  · rw [if_neg c3] at h
    refine ax_aload_n cx 1 dX2_changeLaid_26 rfl rfl ?_
    refine ax_getf (q := 23) (ci := 2) (k := 5) (v := iV ((wr M 3 x1.toNat x2) 100 0)) cx ⟨by decide, by decide⟩ rfl rfl hi_X2_changeLaid_X2 (by decide) hl_X2_changeLaid_27 rfl rfl dX2_changeLaid_27 ?_
    refine ax_goto cx 37 dX2_changeLaid_30 (by decide) ?_
    refine ax_lv cx [0] rfl ?_
    cases h
    exact J5
def fX2_lower (M : Mem) (tb : Nat) (x2 : Int) (x3 : Int) : Option (Int × Mem) :=
    gd (inB (x3) 60) (
    gd (inB (x3) 60) (
    gd (inB (x3) 60) (
    gd (tb < 21 ∧ kzC tb = false) (
    gd (inB (x2 + (M 0 x3.toNat)) (lenC tb)) (
    gd (inB (x2 + (M 1 x3.toNat)) (lenC tb)) (
    gd (inR ((M tb (x2 + (M 0 x3.toNat)).toNat) + (M 4 x3.toNat))) (
    gd (inR (M tb (x2 + (M 1 x3.toNat)).toNat)) (
    if M tb (x2 + (M 1 x3.toNat)).toNat ≤ (M tb (x2 + (M 0 x3.toNat)).toNat) + (M 4 x3.toNat) then (
      gd (inB (x2 + (M 1 x3.toNat)) (lenC tb)) (
      gd (inB (x2 + (M 0 x3.toNat)) (lenC tb)) (
      gd (inR ((M tb (x2 + (M 1 x3.toNat)).toNat) + (M 4 x3.toNat))) (
      gd (inR (M tb (x2 + (M 0 x3.toNat)).toNat)) (
      if M tb (x2 + (M 0 x3.toNat)).toNat ≤ (M tb (x2 + (M 1 x3.toNat)).toNat) + (M 4 x3.toNat) then (
        some (0, M))
      else (
        gd (inB (x2 + (M 1 x3.toNat)) (lenC tb)) (
        gd (inB (x2 + (M 0 x3.toNat)) (lenC tb)) (
        some (1, (wr M tb (x2 + (M 0 x3.toNat)).toNat ((M tb (x2 + (M 1 x3.toNat)).toNat) + (M 4 x3.toNat))))))))))))
    else (
      gd (inB (x2 + (M 0 x3.toNat)) (lenC tb)) (
      gd (inB (x2 + (M 1 x3.toNat)) (lenC tb)) (
      some (1, (wr M tb (x2 + (M 1 x3.toNat)).toNat ((M tb (x2 + (M 0 x3.toNat)).toNat) + (M 4 x3.toNat)))))))))))))))
abbrev rmX2_lower : Room := { frames := 0, cells := 0, slots := 0, locals := 0 }
theorem hl_X2_lower_9 : Cond.fieldLink RX2 9 "PlateauBench$Grid" "low" "[I" ∈ wsX2_lower := by decide +kernel
theorem hl_X2_lower_15 : Cond.fieldLink RX2 15 "PlateauBench$Grid" "high" "[I" ∈ wsX2_lower := by decide +kernel
theorem hl_X2_lower_24 : Cond.fieldLink RX2 24 "PlateauBench$Grid" "prices" "[I" ∈ wsX2_lower := by decide +kernel
theorem hi_X2_lower_X2 : ∀ x ∈ u_ws RX2 TX2 7, x ∈ wsX2_lower := by decide +kernel
set_option maxRecDepth 100000 in
set_option maxHeartbeats 4000000 in
theorem kX2_lower (l : Launch) (ad : Nat → Nat) (M : Mem) (tb : Nat) (x2 : Int) (x3 : Int) (T : Int × Mem) (h : fX2_lower M tb x2 x3 = some T) : MX l yX2_lower wsX2_lower rmX2_lower wC ad [.ref (ad 23), .ref (ad tb), iV (x2), iV (x3)] M (some (iV (T.1))) T.2 := by
  refine MX.of (cc := cX2_lower) (nL := 7) (rt := (some .boolean)) (own := RX2) (by decide +kernel) rfl rfl (Nat.le_of_ble_eq_true rfl) wC_ok (fun G cx => ?_)
  show G M 0 [(0, .ref (ad 23)), (1, .ref (ad tb)), (2, iV (x2)), (3, iV (x3))] []
  unfold fX2_lower at h
  refine ax_iload_n cx 2 dX2_lower_0 rfl rfl ?_
  refine ax_aload_n cx 0 dX2_lower_1 rfl rfl ?_
  refine ax_getf (q := 23) (ci := 2) (k := 0) (v := .ref (ad 0)) cx ⟨by decide, by decide⟩ rfl rfl hi_X2_lower_X2 (by decide) hl_X2_lower_9 rfl rfl dX2_lower_2 ?_
  refine ax_iload_n cx 3 dX2_lower_5 rfl rfl ?_
  obtain ⟨g1, h⟩ := gd_some h
  refine ax_iald (n := 60) cx (by decide) rfl rfl g1 dX2_lower_6 ?_
  refine ax_iadd cx dX2_lower_7 ?_
  refine ax_istore (lv' := [(4, iV (x2 + (M 0 x3.toNat))), (0, .ref (ad 23)), (1, .ref (ad tb)), (2, iV (x2)), (3, iV (x3))]) cx dX2_lower_8 (by decide) rfl ?_
  refine ax_iload_n cx 3 dX2_lower_10 rfl rfl ?_
  refine ax_aload_n cx 1 dX2_lower_11 rfl rfl ?_
  refine ax_getf (q := 23) (ci := 2) (k := 1) (v := .ref (ad 1)) cx ⟨by decide, by decide⟩ rfl rfl hi_X2_lower_X2 (by decide) hl_X2_lower_15 rfl rfl dX2_lower_12 ?_
  refine ax_iload_n cx 4 dX2_lower_15 rfl rfl ?_
  obtain ⟨g2, h⟩ := gd_some h
  refine ax_iald (n := 60) cx (by decide) rfl rfl g2 dX2_lower_16 ?_
  refine ax_iadd cx dX2_lower_17 ?_
  refine ax_istore (lv' := [(5, iV (x2 + (M 1 x3.toNat))), (4, iV (x2 + (M 0 x3.toNat))), (0, .ref (ad 23)), (1, .ref (ad tb)), (2, iV (x2)), (3, iV (x3))]) cx dX2_lower_18 (by decide) rfl ?_
  refine ax_aload_n cx 2 dX2_lower_20 rfl rfl ?_
  refine ax_getf (q := 23) (ci := 2) (k := 4) (v := .ref (ad 4)) cx ⟨by decide, by decide⟩ rfl rfl hi_X2_lower_X2 (by decide) hl_X2_lower_24 rfl rfl dX2_lower_21 ?_
  refine ax_iload_n cx 5 dX2_lower_24 rfl rfl ?_
  obtain ⟨g3, h⟩ := gd_some h
  refine ax_iald (n := 60) cx (by decide) rfl rfl g3 dX2_lower_25 ?_
  refine ax_istore (lv' := [(6, iV (M 4 x3.toNat)), (5, iV (x2 + (M 1 x3.toNat))), (4, iV (x2 + (M 0 x3.toNat))), (0, .ref (ad 23)), (1, .ref (ad tb)), (2, iV (x2)), (3, iV (x3))]) cx dX2_lower_26 (by decide) rfl ?_
  refine ax_aload_n cx 4 dX2_lower_28 rfl rfl ?_
  refine ax_iload cx 2 dX2_lower_29 rfl ?_
  obtain ⟨g4, h⟩ := gd_some h
  obtain ⟨g5, h⟩ := gd_some h
  refine ax_iald (n := lenC tb) cx (Nat.lt_trans g4.1 (by decide)) g4.2 rfl g5 dX2_lower_31 ?_
  refine ax_iload cx 0 dX2_lower_32 rfl ?_
  refine ax_iadd cx dX2_lower_34 ?_
  refine ax_aload_n cx 4 dX2_lower_35 rfl rfl ?_
  refine ax_iload cx 1 dX2_lower_36 rfl ?_
  obtain ⟨g6, h⟩ := gd_some h
  refine ax_iald (n := lenC tb) cx (Nat.lt_trans g4.1 (by decide)) g4.2 rfl g6 dX2_lower_38 ?_
  obtain ⟨g7, h⟩ := gd_some h
  obtain ⟨g8, h⟩ := gd_some h
  refine ax_icmp_ge cx 55 dX2_lower_39 (by decide) g7 g8 (fun c9 => ?_) (fun c9 => ?_)
  · rw [if_pos c9] at h
    refine ax_aload_n cx 4 dX2_lower_55 rfl rfl ?_
    refine ax_iload cx 1 dX2_lower_56 rfl ?_
    obtain ⟨g10, h⟩ := gd_some h
    refine ax_iald (n := lenC tb) cx (Nat.lt_trans g4.1 (by decide)) g4.2 rfl g10 dX2_lower_58 ?_
    refine ax_iload cx 0 dX2_lower_59 rfl ?_
    refine ax_iadd cx dX2_lower_61 ?_
    refine ax_aload_n cx 4 dX2_lower_62 rfl rfl ?_
    refine ax_iload cx 2 dX2_lower_63 rfl ?_
    obtain ⟨g11, h⟩ := gd_some h
    refine ax_iald (n := lenC tb) cx (Nat.lt_trans g4.1 (by decide)) g4.2 rfl g11 dX2_lower_65 ?_
    obtain ⟨g12, h⟩ := gd_some h
    obtain ⟨g13, h⟩ := gd_some h
    refine ax_icmp_ge cx 82 dX2_lower_66 (by decide) g12 g13 (fun c14 => ?_) (fun c14 => ?_)
    · rw [if_pos c14] at h
      refine ax_iconst cx dX2_lower_82 ?_
      cases h
      exact ax_zret cx dX2_lower_83 rfl (Or.inl rfl) ⟨rfl, rfl⟩
    · rw [if_neg c14] at h
      refine ax_aload_n cx 4 dX2_lower_69 rfl rfl ?_
      refine ax_iload cx 2 dX2_lower_70 rfl ?_
      refine ax_aload_n cx 4 dX2_lower_72 rfl rfl ?_
      refine ax_iload cx 1 dX2_lower_73 rfl ?_
      obtain ⟨g15, h⟩ := gd_some h
      refine ax_iald (n := lenC tb) cx (Nat.lt_trans g4.1 (by decide)) g4.2 rfl g15 dX2_lower_75 ?_
      refine ax_iload cx 0 dX2_lower_76 rfl ?_
      refine ax_iadd cx dX2_lower_78 ?_
      obtain ⟨g16, h⟩ := gd_some h
      refine ax_iast (n := lenC tb) cx (Nat.lt_trans g4.1 (by decide)) g4.2 rfl g16 dX2_lower_79 ?_
      refine ax_iconst cx dX2_lower_80 ?_
      cases h
      exact ax_zret cx dX2_lower_81 rfl (Or.inr rfl) ⟨rfl, rfl⟩
  · rw [if_neg c9] at h
    refine ax_aload_n cx 4 dX2_lower_42 rfl rfl ?_
    refine ax_iload cx 1 dX2_lower_43 rfl ?_
    refine ax_aload_n cx 4 dX2_lower_45 rfl rfl ?_
    refine ax_iload cx 2 dX2_lower_46 rfl ?_
    obtain ⟨g17, h⟩ := gd_some h
    refine ax_iald (n := lenC tb) cx (Nat.lt_trans g4.1 (by decide)) g4.2 rfl g17 dX2_lower_48 ?_
    refine ax_iload cx 0 dX2_lower_49 rfl ?_
    refine ax_iadd cx dX2_lower_51 ?_
    obtain ⟨g18, h⟩ := gd_some h
    refine ax_iast (n := lenC tb) cx (Nat.lt_trans g4.1 (by decide)) g4.2 rfl g18 dX2_lower_52 ?_
    refine ax_iconst cx dX2_lower_53 ?_
    cases h
    exact ax_zret cx dX2_lower_54 rfl (Or.inr rfl) ⟨rfl, rfl⟩
def fX2_settle_L21 : Nat → Mem → Nat → Int → Int → Int → Int → Option (Int × Mem)
  | 0, _, _, _, _, _, _ => none
  | n + 1, M, tb, x2, x3, x4, x5 =>
    gd (inR (x5)) (
    if 60 ≤ x5 then (
      some (x3, M))
    else (
      Option.bind (fX2_lower M tb x2 x5) (fun t7 =>
      fX2_settle_L21 n t7.2 tb x2 (zor x3 t7.1) x4 (x5 + 1))))
def fX2_settle_L49 : Nat → Mem → Nat → Int → Int → Int → Int → Option (Int × Mem)
  | 0, _, _, _, _, _, _ => none
  | n + 1, M, tb, x2, x3, x4, x5 =>
    gd (inR (x5)) (
    if x5 < 0 then (
      some (x3, M))
    else (
      Option.bind (fX2_lower M tb x2 x5) (fun t15 =>
      fX2_settle_L49 n t15.2 tb x2 (zor x3 t15.1) x4 (x5 + (-1)))))
def fX2_settle_L5 : Nat → Mem → Nat → Int → Int → Int → Option (Mem)
  | 0, _, _, _, _, _ => none
  | n + 1, M, tb, x2, x3, x4 =>
    gd (inR (x4)) (
    if 36 ≤ x4 then (
      some (M))
    else (
      gd (inR (x3)) (
      if x3 = 0 then (
        some (M))
      else (
        Option.bind (fX2_settle_L21 FU M tb x2 0 x4 0) (fun t10 =>
        Option.bind (fX2_settle_L49 FU t10.2 tb x2 t10.1 x4 59) (fun t18 =>
        fX2_settle_L5 n t18.2 tb x2 t18.1 (x4 + 1)))))))
def fX2_settle (M : Mem) (tb : Nat) (x2 : Int) : Option (Mem) :=
    Option.bind (fX2_settle_L5 FU M tb x2 1 0) (fun t22 =>
    some (t22))
abbrev rmX2_settle : Room := { frames := 1, cells := 0, slots := 0, locals := 26 }
set_option maxRecDepth 100000 in
set_option maxHeartbeats 4000000 in
theorem kX2_settle (l : Launch) (ad : Nat → Nat) (M : Mem) (tb : Nat) (x2 : Int) (T : Mem) (h : fX2_settle M tb x2 = some T) : MX l yX2_settle wsX2_settle rmX2_settle wC ad [.ref (ad 23), .ref (ad tb), iV (x2)] M none T := by
  refine MX.of (cc := cX2_settle) (nL := 6) (rt := none) (own := RX2) (by decide +kernel) rfl rfl (Nat.le_of_ble_eq_true rfl) wC_ok (fun G cx => ?_)
  show G M 0 [(0, .ref (ad 23)), (1, .ref (ad tb)), (2, iV (x2))] []
  have L21 : ∀ (n : Nat) (M : Mem) (tb : Nat) (x2 : Int) (x3 : Int) (x4 : Int) (x5 : Int) (T9 : Int × Mem), fX2_settle_L21 n M tb x2 x3 x4 x5 = some T9 → (G T9.2 45 [(0, .ref (ad 23)), (1, .ref (ad tb)), (2, iV (x2)), (3, iV (T9.1)), (4, iV (x4))] []) → G M 21 [(0, .ref (ad 23)), (1, .ref (ad tb)), (2, iV (x2)), (3, iV (x3)), (4, iV (x4)), (5, iV (x5))] [] := by
    intro n
    induction n with
    | zero =>
      intro M tb x2 x3 x4 x5 T9 h
      exact absurd h (by simp [fX2_settle_L21])
    | succ n ih =>
      intro M tb x2 x3 x4 x5 T9 h hJ
      rw [fX2_settle_L21] at h
      refine ax_iload cx 5 dX2_settle_21 rfl ?_
      refine ax_bipush (z := 60) cx dX2_settle_23 (by decide) ?_
      obtain ⟨g5, h⟩ := gd_some h
      refine ax_icmp_ge cx 45 dX2_settle_25 (by decide) g5 ⟨by decide, by decide⟩ (fun c6 => ?_) (fun c6 => ?_)
      · rw [if_pos c6] at h
        refine ax_lv cx [0, 1, 2, 3, 4] rfl ?_
        cases h
        exact hJ
      · rw [if_neg c6] at h
        refine ax_iload_n cx 3 dX2_settle_28 rfl rfl ?_
        refine ax_aload_n cx 0 dX2_settle_29 rfl rfl ?_
        refine ax_aload_n cx 1 dX2_settle_30 rfl rfl ?_
        refine ax_iload_n cx 2 dX2_settle_31 rfl rfl ?_
        refine ax_iload cx 5 dX2_settle_32 rfl ?_
        obtain ⟨t7, e8, h⟩ := ob h
        refine ax_callV (As := [.ref (ad tb), iV (x2), iV (x5)]) (q := 23) (ci := 2) (n := 3) cx (kX2_lower l ad M tb x2 x5 _ e8) gX2_settle_X2_lower rfl ⟨by decide, by decide⟩ rfl rfl ⟨rfl, rfl⟩ (by decide +kernel) rfl ⟨by decide, by decide⟩ rfl (Nat.le_of_ble_eq_true rfl) dX2_settle_34 ?_
        refine ax_ior cx dX2_settle_37 ?_
        refine ax_istore_n (lv' := [(3, iV (zor x3 t7.1)), (0, .ref (ad 23)), (1, .ref (ad tb)), (2, iV (x2)), (4, iV (x4)), (5, iV (x5))]) cx dX2_settle_38 rfl (by decide) rfl ?_
        refine ax_iinc (lv' := [(5, iV (x5 + 1)), (3, iV (zor x3 t7.1)), (0, .ref (ad 23)), (1, .ref (ad tb)), (2, iV (x2)), (4, iV (x4))]) cx 5 dX2_settle_39 rfl (by decide) rfl ?_
        refine ax_goto cx 21 dX2_settle_42 (by decide) ?_
        refine ax_lv cx [2, 3, 4, 1, 5, 0] rfl ?_
        exact ih _ _ _ _ _ _ _ h hJ
  have L49 : ∀ (n : Nat) (M : Mem) (tb : Nat) (x2 : Int) (x3 : Int) (x4 : Int) (x5 : Int) (T17 : Int × Mem), fX2_settle_L49 n M tb x2 x3 x4 x5 = some T17 → (G T17.2 71 [(0, .ref (ad 23)), (1, .ref (ad tb)), (2, iV (x2)), (3, iV (T17.1)), (4, iV (x4))] []) → G M 49 [(0, .ref (ad 23)), (1, .ref (ad tb)), (2, iV (x2)), (3, iV (x3)), (4, iV (x4)), (5, iV (x5))] [] := by
    intro n
    induction n with
    | zero =>
      intro M tb x2 x3 x4 x5 T17 h
      exact absurd h (by simp [fX2_settle_L49])
    | succ n ih =>
      intro M tb x2 x3 x4 x5 T17 h hJ
      rw [fX2_settle_L49] at h
      refine ax_iload cx 5 dX2_settle_49 rfl ?_
      obtain ⟨g13, h⟩ := gd_some h
      refine ax_if_lt cx 71 dX2_settle_51 (by decide) g13 (fun c14 => ?_) (fun c14 => ?_)
      · rw [if_pos c14] at h
        refine ax_lv cx [0, 1, 2, 3, 4] rfl ?_
        cases h
        exact hJ
      · rw [if_neg c14] at h
        refine ax_iload_n cx 3 dX2_settle_54 rfl rfl ?_
        refine ax_aload_n cx 0 dX2_settle_55 rfl rfl ?_
        refine ax_aload_n cx 1 dX2_settle_56 rfl rfl ?_
        refine ax_iload_n cx 2 dX2_settle_57 rfl rfl ?_
        refine ax_iload cx 5 dX2_settle_58 rfl ?_
        obtain ⟨t15, e16, h⟩ := ob h
        refine ax_callV (As := [.ref (ad tb), iV (x2), iV (x5)]) (q := 23) (ci := 2) (n := 3) cx (kX2_lower l ad M tb x2 x5 _ e16) gX2_settle_X2_lower rfl ⟨by decide, by decide⟩ rfl rfl ⟨rfl, rfl⟩ (by decide +kernel) rfl ⟨by decide, by decide⟩ rfl (Nat.le_of_ble_eq_true rfl) dX2_settle_60 ?_
        refine ax_ior cx dX2_settle_63 ?_
        refine ax_istore_n (lv' := [(3, iV (zor x3 t15.1)), (0, .ref (ad 23)), (1, .ref (ad tb)), (2, iV (x2)), (4, iV (x4)), (5, iV (x5))]) cx dX2_settle_64 rfl (by decide) rfl ?_
        refine ax_iinc (lv' := [(5, iV (x5 + (-1))), (3, iV (zor x3 t15.1)), (0, .ref (ad 23)), (1, .ref (ad tb)), (2, iV (x2)), (4, iV (x4))]) cx 5 dX2_settle_65 rfl (by decide) rfl ?_
        refine ax_goto cx 49 dX2_settle_68 (by decide) ?_
        refine ax_lv cx [2, 3, 4, 1, 5, 0] rfl ?_
        exact ih _ _ _ _ _ _ _ h hJ
  have L5 : ∀ (n : Nat) (M : Mem) (tb : Nat) (x2 : Int) (x3 : Int) (x4 : Int) (T21 : Mem), fX2_settle_L5 n M tb x2 x3 x4 = some T21 → (G T21 77 [] []) → G M 5 [(0, .ref (ad 23)), (1, .ref (ad tb)), (2, iV (x2)), (3, iV (x3)), (4, iV (x4))] [] := by
    intro n
    induction n with
    | zero =>
      intro M tb x2 x3 x4 T21 h
      exact absurd h (by simp [fX2_settle_L5])
    | succ n ih =>
      intro M tb x2 x3 x4 T21 h hJ
      rw [fX2_settle_L5] at h
      refine ax_iload cx 4 dX2_settle_5 rfl ?_
      refine ax_bipush (z := 36) cx dX2_settle_7 (by decide) ?_
      obtain ⟨g1, h⟩ := gd_some h
      refine ax_icmp_ge cx 77 dX2_settle_9 (by decide) g1 ⟨by decide, by decide⟩ (fun c2 => ?_) (fun c2 => ?_)
      · rw [if_pos c2] at h
        refine ax_lv cx [] rfl ?_
        cases h
        exact hJ
      · rw [if_neg c2] at h
        refine ax_iload_n cx 3 dX2_settle_12 rfl rfl ?_
        obtain ⟨g3, h⟩ := gd_some h
        refine ax_if_eq cx 77 dX2_settle_13 (by decide) g3 (fun c4 => ?_) (fun c4 => ?_)
        · rw [if_pos c4] at h
          refine ax_lv cx [] rfl ?_
          cases h
          exact hJ
        · rw [if_neg c4] at h
          refine ax_iconst cx dX2_settle_16 ?_
          refine ax_istore_n (lv' := [(3, iV (0)), (0, .ref (ad 23)), (1, .ref (ad tb)), (2, iV (x2)), (4, iV (x4))]) cx dX2_settle_17 rfl (by decide) rfl ?_
          refine ax_iconst cx dX2_settle_18 ?_
          refine ax_istore (lv' := [(5, iV (0)), (3, iV (0)), (0, .ref (ad 23)), (1, .ref (ad tb)), (2, iV (x2)), (4, iV (x4))]) cx dX2_settle_19 (by decide) rfl ?_
          obtain ⟨t10, e11, h⟩ := ob h
          refine ax_lv cx [2, 3, 4, 1, 5, 0] rfl ?_
          have J12 : G t10.2 45 [(0, .ref (ad 23)), (1, .ref (ad tb)), (2, iV (x2)), (3, iV (t10.1)), (4, iV (x4))] [] := by
            refine ax_bipush (z := 59) cx dX2_settle_45 (by decide) ?_
            refine ax_istore (lv' := [(5, iV (59)), (0, .ref (ad 23)), (1, .ref (ad tb)), (2, iV (x2)), (3, iV (t10.1)), (4, iV (x4))]) cx dX2_settle_47 (by decide) rfl ?_
            obtain ⟨t18, e19, h⟩ := ob h
            refine ax_lv cx [1, 2, 3, 4, 5, 0] rfl ?_
            have J20 : G t18.2 71 [(0, .ref (ad 23)), (1, .ref (ad tb)), (2, iV (x2)), (3, iV (t18.1)), (4, iV (x4))] [] := by
              refine ax_iinc (lv' := [(4, iV (x4 + 1)), (0, .ref (ad 23)), (1, .ref (ad tb)), (2, iV (x2)), (3, iV (t18.1))]) cx 4 dX2_settle_71 rfl (by decide) rfl ?_
              refine ax_goto cx 5 dX2_settle_74 (by decide) ?_
              refine ax_lv cx [1, 2, 3, 4, 0] rfl ?_
              exact ih _ _ _ _ _ _ h hJ
            exact L49 FU t10.2 tb x2 t10.1 x4 59 _ e19 J20
          exact L21 FU M tb x2 0 x4 0 _ e11 J12
  unfold fX2_settle at h
  refine ax_iconst cx dX2_settle_0 ?_
  refine ax_istore_n (lv' := [(3, iV (1)), (0, .ref (ad 23)), (1, .ref (ad tb)), (2, iV (x2))]) cx dX2_settle_1 rfl (by decide) rfl ?_
  refine ax_iconst cx dX2_settle_2 ?_
  refine ax_istore (lv' := [(4, iV (0)), (3, iV (1)), (0, .ref (ad 23)), (1, .ref (ad tb)), (2, iV (x2))]) cx dX2_settle_3 (by decide) rfl ?_
  obtain ⟨t22, e23, h⟩ := ob h
  refine ax_lv cx [2, 3, 4, 1, 0] rfl ?_
  have J24 : G t22 77 [] [] := by
    cases h
    exact ax_vret cx dX2_settle_77 rfl ⟨rfl, rfl⟩
  exact L5 FU M tb x2 1 0 _ e23 J24
def fX2_measure_L3 : Nat → Mem → Nat → Int → Int → Int → Option (Mem)
  | 0, _, _, _, _, _ => none
  | n + 1, M, tb, x2, x3, x4 =>
    gd (inR (x4)) (
    if 36 ≤ x4 then (
      some (M))
    else (
      gd (inR (x3)) (
      Option.bind (if x4 = x3 then (
        some (0))
      else (
        some (1000000))) (fun t5 =>
      gd (tb < 21 ∧ kzC tb = false) (
      gd (inB (x2 + x4) (lenC tb)) (
      fX2_measure_L3 n (wr M tb (x2 + x4).toNat t5) tb x2 x3 (x4 + 1)))))))
def fX2_measure (M : Mem) (tb : Nat) (x2 : Int) (x3 : Int) : Option (Mem) :=
    Option.bind (fX2_measure_L3 FU M tb x2 x3 0) (fun t11 =>
    Option.bind (fX2_settle t11 tb x2) (fun t14 =>
    some (t14)))
abbrev rmX2_measure : Room := { frames := 2, cells := 0, slots := 0, locals := 51 }
theorem hw_X2_measure_c34 : Cond.constant RX2 34 (1000000) ∈ wsX2_measure := by decide +kernel
set_option maxRecDepth 100000 in
set_option maxHeartbeats 4000000 in
theorem kX2_measure (l : Launch) (ad : Nat → Nat) (M : Mem) (tb : Nat) (x2 : Int) (x3 : Int) (T : Mem) (h : fX2_measure M tb x2 x3 = some T) : MX l yX2_measure wsX2_measure rmX2_measure wC ad [.ref (ad 23), .ref (ad tb), iV (x2), iV (x3)] M none T := by
  refine MX.of (cc := cX2_measure) (nL := 5) (rt := none) (own := RX2) (by decide +kernel) rfl rfl (Nat.le_of_ble_eq_true rfl) wC_ok (fun G cx => ?_)
  show G M 0 [(0, .ref (ad 23)), (1, .ref (ad tb)), (2, iV (x2)), (3, iV (x3))] []
  have L3 : ∀ (n : Nat) (M : Mem) (tb : Nat) (x2 : Int) (x3 : Int) (x4 : Int) (T10 : Mem), fX2_measure_L3 n M tb x2 x3 x4 = some T10 → (G T10 34 [(0, .ref (ad 23)), (1, .ref (ad tb)), (2, iV (x2))] []) → G M 3 [(0, .ref (ad 23)), (1, .ref (ad tb)), (2, iV (x2)), (3, iV (x3)), (4, iV (x4))] [] := by
    intro n
    induction n with
    | zero =>
      intro M tb x2 x3 x4 T10 h
      exact absurd h (by simp [fX2_measure_L3])
    | succ n ih =>
      intro M tb x2 x3 x4 T10 h hJ
      rw [fX2_measure_L3] at h
      refine ax_iload cx 4 dX2_measure_3 rfl ?_
      refine ax_bipush (z := 36) cx dX2_measure_5 (by decide) ?_
      obtain ⟨g1, h⟩ := gd_some h
      refine ax_icmp_ge cx 34 dX2_measure_7 (by decide) g1 ⟨by decide, by decide⟩ (fun c2 => ?_) (fun c2 => ?_)
      · rw [if_pos c2] at h
        refine ax_lv cx [0, 1, 2] rfl ?_
        cases h
        exact hJ
      · rw [if_neg c2] at h
        refine ax_aload_n cx 1 dX2_measure_10 rfl rfl ?_
        refine ax_iload_n cx 2 dX2_measure_11 rfl rfl ?_
        refine ax_iload cx 4 dX2_measure_12 rfl ?_
        refine ax_iadd cx dX2_measure_14 ?_
        refine ax_iload cx 4 dX2_measure_15 rfl ?_
        refine ax_iload_n cx 3 dX2_measure_17 rfl rfl ?_
        obtain ⟨g3, h⟩ := gd_some h
        obtain ⟨t5, e7, h⟩ := ob h
        have J6 : G M 27 [(0, .ref (ad 23)), (1, .ref (ad tb)), (2, iV (x2)), (3, iV (x3)), (4, iV (x4))] [iV (t5), iV (x2 + x4), .ref (ad tb)] := by
          obtain ⟨g8, h⟩ := gd_some h
          obtain ⟨g9, h⟩ := gd_some h
          refine ax_iast (n := lenC tb) cx (Nat.lt_trans g8.1 (by decide)) g8.2 rfl g9 dX2_measure_27 ?_
          refine ax_iinc (lv' := [(4, iV (x4 + 1)), (0, .ref (ad 23)), (1, .ref (ad tb)), (2, iV (x2)), (3, iV (x3))]) cx 4 dX2_measure_28 rfl (by decide) rfl ?_
          refine ax_goto cx 3 dX2_measure_31 (by decide) ?_
          refine ax_lv cx [1, 2, 3, 4, 0] rfl ?_
          exact ih _ _ _ _ _ _ h hJ
        clear h
        have h := e7
        clear e7
        refine ax_icmp_ne cx 25 dX2_measure_18 (by decide) g1 g3 (fun c4 => ?_) (fun c4 => ?_)
        · rw [if_pos c4] at h
          refine ax_iconst cx dX2_measure_21 ?_
          refine ax_goto cx 27 dX2_measure_22 (by decide) ?_
          cases h
          exact J6
        · rw [if_neg c4] at h
          refine ax_ldc (z := 1000000) cx dX2_measure_25 hw_X2_measure_c34 (by decide) ?_
          cases h
          exact J6
  unfold fX2_measure at h
  refine ax_iconst cx dX2_measure_0 ?_
  refine ax_istore (lv' := [(4, iV (0)), (0, .ref (ad 23)), (1, .ref (ad tb)), (2, iV (x2)), (3, iV (x3))]) cx dX2_measure_1 (by decide) rfl ?_
  obtain ⟨t11, e12, h⟩ := ob h
  refine ax_lv cx [1, 2, 3, 4, 0] rfl ?_
  have J13 : G t11 34 [(0, .ref (ad 23)), (1, .ref (ad tb)), (2, iV (x2))] [] := by
    refine ax_aload_n cx 0 dX2_measure_34 rfl rfl ?_
    refine ax_aload_n cx 1 dX2_measure_35 rfl rfl ?_
    refine ax_iload_n cx 2 dX2_measure_36 rfl rfl ?_
    obtain ⟨t14, e15, h⟩ := ob h
    refine ax_callV (As := [.ref (ad tb), iV (x2)]) (q := 23) (ci := 2) (n := 2) cx (kX2_settle l ad t11 tb x2 _ e15) gX2_measure_X2_settle rfl ⟨by decide, by decide⟩ rfl rfl ⟨rfl, rfl⟩ (by decide +kernel) rfl ⟨by decide, by decide⟩ rfl (Nat.le_of_ble_eq_true rfl) dX2_measure_37 ?_
    cases h
    exact ax_vret cx dX2_measure_40 rfl ⟨rfl, rfl⟩
  exact L3 FU M tb x2 x3 0 _ e12 J13
