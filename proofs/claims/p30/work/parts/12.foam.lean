def fX1_ownerOf (M : Mem) (x1 : Int) : Option (Int) :=
    gd (inB (x1) 36) (
    some (M 16 x1.toNat))
abbrev rmX1_ownerOf : Room := { frames := 0, cells := 0, slots := 0, locals := 0 }
theorem hl_X1_ownerOf_9 : Cond.fieldLink RX1 9 "PlateauBench$Foam" "owners" "[I" ∈ wsX1_ownerOf := by decide +kernel
theorem hi_X1_ownerOf_X1 : ∀ x ∈ u_ws RX1 TX1 7, x ∈ wsX1_ownerOf := by decide +kernel
set_option maxRecDepth 100000 in
set_option maxHeartbeats 4000000 in
theorem kX1_ownerOf (l : Launch) (ad : Nat → Nat) (M : Mem) (x1 : Int) (T : Int) (h : fX1_ownerOf M x1 = some T) : MX l yX1_ownerOf wsX1_ownerOf rmX1_ownerOf wC ad [.ref (ad 27), iV (x1)] M (some (iV (T))) M := by
  refine MX.of (cc := cX1_ownerOf) (nL := 2) (rt := (some .int)) (own := RX1) (by decide +kernel) rfl rfl (Nat.le_of_ble_eq_true rfl) wC_ok (fun G cx => ?_)
  show G M 0 [(0, .ref (ad 27)), (1, iV (x1))] []
  unfold fX1_ownerOf at h
  refine ax_aload_n cx 0 dX1_ownerOf_0 rfl rfl ?_
  refine ax_getf (q := 27) (ci := 1) (k := 0) (v := .ref (ad 16)) cx ⟨by decide, by decide⟩ rfl rfl hi_X1_ownerOf_X1 (by decide) hl_X1_ownerOf_9 rfl rfl dX1_ownerOf_1 ?_
  refine ax_iload_n cx 1 dX1_ownerOf_4 rfl rfl ?_
  obtain ⟨g1, h⟩ := gd_some h
  refine ax_iald (n := 36) cx (by decide) rfl rfl g1 dX1_ownerOf_5 ?_
  cases h
  exact ax_iret cx dX1_ownerOf_6 rfl ⟨rfl, rfl⟩
def fX1_isHeld (M : Mem) (x1 : Int) : Option (Int) :=
    gd (inB (x1) 8) (
    gd (M 18 x1.toNat = 0 ∨ M 18 x1.toNat = 1) (
    some (M 18 x1.toNat)))
abbrev rmX1_isHeld : Room := { frames := 0, cells := 0, slots := 0, locals := 0 }
theorem hl_X1_isHeld_18 : Cond.fieldLink RX1 18 "PlateauBench$Foam" "held" "[Z" ∈ wsX1_isHeld := by decide +kernel
theorem hi_X1_isHeld_X1 : ∀ x ∈ u_ws RX1 TX1 7, x ∈ wsX1_isHeld := by decide +kernel
set_option maxRecDepth 100000 in
set_option maxHeartbeats 4000000 in
theorem kX1_isHeld (l : Launch) (ad : Nat → Nat) (M : Mem) (x1 : Int) (T : Int) (h : fX1_isHeld M x1 = some T) : MX l yX1_isHeld wsX1_isHeld rmX1_isHeld wC ad [.ref (ad 27), iV (x1)] M (some (iV (T))) M := by
  refine MX.of (cc := cX1_isHeld) (nL := 2) (rt := (some .boolean)) (own := RX1) (by decide +kernel) rfl rfl (Nat.le_of_ble_eq_true rfl) wC_ok (fun G cx => ?_)
  show G M 0 [(0, .ref (ad 27)), (1, iV (x1))] []
  unfold fX1_isHeld at h
  refine ax_aload_n cx 0 dX1_isHeld_0 rfl rfl ?_
  refine ax_getf (q := 27) (ci := 1) (k := 2) (v := .ref (ad 18)) cx ⟨by decide, by decide⟩ rfl rfl hi_X1_isHeld_X1 (by decide) hl_X1_isHeld_18 rfl rfl dX1_isHeld_1 ?_
  refine ax_iload_n cx 1 dX1_isHeld_4 rfl rfl ?_
  obtain ⟨g1, h⟩ := gd_some h
  refine ax_zald (n := 8) cx (by decide) rfl rfl g1 dX1_isHeld_5 ?_
  obtain ⟨g2, h⟩ := gd_some h
  cases h
  exact ax_zret cx dX1_isHeld_6 rfl g2 ⟨rfl, rfl⟩
def fX1_workDone (M : Mem)  : Option (Int) :=
    some (M 104 0)
abbrev rmX1_workDone : Room := { frames := 0, cells := 0, slots := 0, locals := 0 }
theorem hl_X1_workDone_28 : Cond.fieldLink RX1 28 "PlateauBench$Foam" "work" "I" ∈ wsX1_workDone := by decide +kernel
theorem hi_X1_workDone_X1 : ∀ x ∈ u_ws RX1 TX1 7, x ∈ wsX1_workDone := by decide +kernel
set_option maxRecDepth 100000 in
set_option maxHeartbeats 4000000 in
theorem kX1_workDone (l : Launch) (ad : Nat → Nat) (M : Mem)  (T : Int) (h : fX1_workDone M  = some T) : MX l yX1_workDone wsX1_workDone rmX1_workDone wC ad [.ref (ad 27)] M (some (iV (T))) M := by
  refine MX.of (cc := cX1_workDone) (nL := 1) (rt := (some .int)) (own := RX1) (by decide +kernel) rfl rfl (Nat.le_of_ble_eq_true rfl) wC_ok (fun G cx => ?_)
  show G M 0 [(0, .ref (ad 27))] []
  unfold fX1_workDone at h
  refine ax_aload_n cx 0 dX1_workDone_0 rfl rfl ?_
  refine ax_getf (q := 27) (ci := 1) (k := 5) (v := iV (M 104 0)) cx ⟨by decide, by decide⟩ rfl rfl hi_X1_workDone_X1 (by decide) hl_X1_workDone_28 rfl rfl dX1_workDone_1 ?_
  cases h
  exact ax_iret cx dX1_workDone_4 rfl ⟨rfl, rfl⟩
def fX1_energyLost (M : Mem)  : Option (Int) :=
    some (M 105 0)
abbrev rmX1_energyLost : Room := { frames := 0, cells := 0, slots := 0, locals := 0 }
theorem hl_X1_energyLost_32 : Cond.fieldLink RX1 32 "PlateauBench$Foam" "lost" "I" ∈ wsX1_energyLost := by decide +kernel
theorem hi_X1_energyLost_X1 : ∀ x ∈ u_ws RX1 TX1 7, x ∈ wsX1_energyLost := by decide +kernel
set_option maxRecDepth 100000 in
set_option maxHeartbeats 4000000 in
theorem kX1_energyLost (l : Launch) (ad : Nat → Nat) (M : Mem)  (T : Int) (h : fX1_energyLost M  = some T) : MX l yX1_energyLost wsX1_energyLost rmX1_energyLost wC ad [.ref (ad 27)] M (some (iV (T))) M := by
  refine MX.of (cc := cX1_energyLost) (nL := 1) (rt := (some .int)) (own := RX1) (by decide +kernel) rfl rfl (Nat.le_of_ble_eq_true rfl) wC_ok (fun G cx => ?_)
  show G M 0 [(0, .ref (ad 27))] []
  unfold fX1_energyLost at h
  refine ax_aload_n cx 0 dX1_energyLost_0 rfl rfl ?_
  refine ax_getf (q := 27) (ci := 1) (k := 6) (v := iV (M 105 0)) cx ⟨by decide, by decide⟩ rfl rfl hi_X1_energyLost_X1 (by decide) hl_X1_energyLost_32 rfl rfl dX1_energyLost_1 ?_
  cases h
  exact ax_iret cx dX1_energyLost_4 rfl ⟨rfl, rfl⟩
def fX1_addWork (M : Mem) (x1 : Int) : Option (Mem) :=
    some ((wr M 104 0 ((M 104 0) + x1)))
abbrev rmX1_addWork : Room := { frames := 0, cells := 0, slots := 0, locals := 0 }
theorem hl_X1_addWork_28 : Cond.fieldLink RX1 28 "PlateauBench$Foam" "work" "I" ∈ wsX1_addWork := by decide +kernel
theorem hi_X1_addWork_X1 : ∀ x ∈ u_ws RX1 TX1 7, x ∈ wsX1_addWork := by decide +kernel
set_option maxRecDepth 100000 in
set_option maxHeartbeats 4000000 in
theorem kX1_addWork (l : Launch) (ad : Nat → Nat) (M : Mem) (x1 : Int) (T : Mem) (h : fX1_addWork M x1 = some T) : MX l yX1_addWork wsX1_addWork rmX1_addWork wC ad [.ref (ad 27), iV (x1)] M none T := by
  refine MX.of (cc := cX1_addWork) (nL := 2) (rt := none) (own := RX1) (by decide +kernel) rfl rfl (Nat.le_of_ble_eq_true rfl) wC_ok (fun G cx => ?_)
  show G M 0 [(0, .ref (ad 27)), (1, iV (x1))] []
  unfold fX1_addWork at h
  refine ax_aload_n cx 0 dX1_addWork_0 rfl rfl ?_
  refine ax_dup cx dX1_addWork_1 rfl ?_
  refine ax_getf (q := 27) (ci := 1) (k := 5) (v := iV (M 104 0)) cx ⟨by decide, by decide⟩ rfl rfl hi_X1_addWork_X1 (by decide) hl_X1_addWork_28 rfl rfl dX1_addWork_2 ?_
  refine ax_iload_n cx 1 dX1_addWork_5 rfl rfl ?_
  refine ax_iadd cx dX1_addWork_6 ?_
  refine ax_putf (q := 27) (ci := 1) (k := 5) (f := 104) (ty := .int) cx ⟨by decide, by decide⟩ rfl rfl hi_X1_addWork_X1 tyX1 tyX1_ok nmX1 (by decide) hl_X1_addWork_28 rfl (by decide +kernel) (by decide +kernel) rfl rfl (Nat.le_of_ble_eq_true rfl) (by decide) rfl (putC_104 ad _ _) dX1_addWork_7 ?_
  cases h
  exact ax_vret cx dX1_addWork_10 rfl ⟨rfl, rfl⟩
def fX1_energyOf_L4 : Nat → Mem → Nat → Int → Int → Option (Int)
  | 0, _, _, _, _ => none
  | n + 1, M, tb, x2, x3 =>
    gd (inR (x3)) (
    if 60 ≤ x3 then (
      some (x2))
    else (
      Option.bind (fX2_low M x3) (fun t3 =>
      gd (tb < 21 ∧ kzC tb = false) (
      gd (inB (t3) (lenC tb)) (
      Option.bind (fX2_high M x3) (fun t7 =>
      gd (inB (t7) (lenC tb)) (
      gd (inR (M tb t3.toNat)) (
      gd (inR (M tb t7.toNat)) (
      Option.bind (if M tb t3.toNat = M tb t7.toNat then (
        some (x2))
      else (
        Option.bind (fX2_price M x3) (fun t13 =>
        some (x2 + t13)))) (fun t15 =>
      fX1_energyOf_L4 n M tb t15 (x3 + 1)))))))))))
def fX1_energyOf (M : Mem) (tb : Nat) : Option (Int) :=
    Option.bind (fX1_energyOf_L4 FU M tb 0 0) (fun t19 =>
    some (t19))
abbrev rmX1_energyOf : Room := { frames := 1, cells := 0, slots := 0, locals := 21 }
set_option maxRecDepth 100000 in
set_option maxHeartbeats 4000000 in
theorem kX1_energyOf (l : Launch) (ad : Nat → Nat) (M : Mem) (tb : Nat) (T : Int) (h : fX1_energyOf M tb = some T) : MX l yX1_energyOf wsX1_energyOf rmX1_energyOf wC ad [.ref (ad 23), .ref (ad tb)] M (some (iV (T))) M := by
  refine MX.of (cc := cX1_energyOf) (nL := 4) (rt := (some .int)) (own := RX1) (by decide +kernel) rfl rfl (Nat.le_of_ble_eq_true rfl) wC_ok (fun G cx => ?_)
  show G M 0 [(0, .ref (ad 23)), (1, .ref (ad tb))] []
  have L4 : ∀ (n : Nat) (tb : Nat) (x2 : Int) (x3 : Int) (T18 : Int), fX1_energyOf_L4 n M tb x2 x3 = some T18 → (G M 41 [(2, iV (T18))] []) → G M 4 [(0, .ref (ad 23)), (1, .ref (ad tb)), (2, iV (x2)), (3, iV (x3))] [] := by
    intro n
    induction n with
    | zero =>
      intro tb x2 x3 T18 h
      exact absurd h (by simp [fX1_energyOf_L4])
    | succ n ih =>
      intro tb x2 x3 T18 h hJ
      rw [fX1_energyOf_L4] at h
      refine ax_iload_n cx 3 dX1_energyOf_4 rfl rfl ?_
      refine ax_bipush (z := 60) cx dX1_energyOf_5 (by decide) ?_
      obtain ⟨g1, h⟩ := gd_some h
      refine ax_icmp_ge cx 41 dX1_energyOf_7 (by decide) g1 ⟨by decide, by decide⟩ (fun c2 => ?_) (fun c2 => ?_)
      · rw [if_pos c2] at h
        refine ax_lv cx [2] rfl ?_
        cases h
        exact hJ
      · rw [if_neg c2] at h
        refine ax_aload_n cx 1 dX1_energyOf_10 rfl rfl ?_
        refine ax_aload_n cx 0 dX1_energyOf_11 rfl rfl ?_
        refine ax_iload_n cx 3 dX1_energyOf_12 rfl rfl ?_
        obtain ⟨t3, e4, h⟩ := ob h
        refine ax_callV (As := [iV (x3)]) (q := 23) (ci := 2) (n := 1) cx (kX2_low l ad M x3 _ e4) gX1_energyOf_X2_low rfl ⟨by decide, by decide⟩ rfl rfl ⟨rfl, rfl⟩ (by decide +kernel) rfl ⟨by decide, by decide⟩ rfl (Nat.le_of_ble_eq_true rfl) dX1_energyOf_13 ?_
        obtain ⟨g5, h⟩ := gd_some h
        obtain ⟨g6, h⟩ := gd_some h
        refine ax_iald (n := lenC tb) cx (Nat.lt_trans g5.1 (by decide)) g5.2 rfl g6 dX1_energyOf_16 ?_
        refine ax_aload_n cx 1 dX1_energyOf_17 rfl rfl ?_
        refine ax_aload_n cx 0 dX1_energyOf_18 rfl rfl ?_
        refine ax_iload_n cx 3 dX1_energyOf_19 rfl rfl ?_
        obtain ⟨t7, e8, h⟩ := ob h
        refine ax_callV (As := [iV (x3)]) (q := 23) (ci := 2) (n := 1) cx (kX2_high l ad M x3 _ e8) gX1_energyOf_X2_high rfl ⟨by decide, by decide⟩ rfl rfl ⟨rfl, rfl⟩ (by decide +kernel) rfl ⟨by decide, by decide⟩ rfl (Nat.le_of_ble_eq_true rfl) dX1_energyOf_20 ?_
        obtain ⟨g9, h⟩ := gd_some h
        refine ax_iald (n := lenC tb) cx (Nat.lt_trans g5.1 (by decide)) g5.2 rfl g9 dX1_energyOf_23 ?_
        obtain ⟨g10, h⟩ := gd_some h
        obtain ⟨g11, h⟩ := gd_some h
        obtain ⟨t15, e17, h⟩ := ob h
        have J16 : G M 35 [(0, .ref (ad 23)), (1, .ref (ad tb)), (2, iV (t15)), (3, iV (x3))] [] := by
          refine ax_iinc (lv' := [(3, iV (x3 + 1)), (0, .ref (ad 23)), (1, .ref (ad tb)), (2, iV (t15))]) cx 3 dX1_energyOf_35 rfl (by decide) rfl ?_
          refine ax_goto cx 4 dX1_energyOf_38 (by decide) ?_
          refine ax_lv cx [1, 2, 3, 0] rfl ?_
          exact ih _ _ _ _ h hJ
        clear h
        have h := e17
        clear e17
        refine ax_icmp_eq cx 35 dX1_energyOf_24 (by decide) g10 g11 (fun c12 => ?_) (fun c12 => ?_)
        · rw [if_pos c12] at h
          cases h
          exact J16
        · rw [if_neg c12] at h
          refine ax_iload_n cx 2 dX1_energyOf_27 rfl rfl ?_
          refine ax_aload_n cx 0 dX1_energyOf_28 rfl rfl ?_
          refine ax_iload_n cx 3 dX1_energyOf_29 rfl rfl ?_
          obtain ⟨t13, e14, h⟩ := ob h
          refine ax_callV (As := [iV (x3)]) (q := 23) (ci := 2) (n := 1) cx (kX2_price l ad M x3 _ e14) gX1_energyOf_X2_price rfl ⟨by decide, by decide⟩ rfl rfl ⟨rfl, rfl⟩ (by decide +kernel) rfl ⟨by decide, by decide⟩ rfl (Nat.le_of_ble_eq_true rfl) dX1_energyOf_30 ?_
          refine ax_iadd cx dX1_energyOf_33 ?_
          refine ax_istore_n (lv' := [(2, iV (x2 + t13)), (0, .ref (ad 23)), (1, .ref (ad tb)), (3, iV (x3))]) cx dX1_energyOf_34 rfl (by decide) rfl ?_
          refine ax_lv cx [1, 2, 0, 3] rfl ?_
          cases h
          exact J16
  unfold fX1_energyOf at h
  refine ax_iconst cx dX1_energyOf_0 ?_
  refine ax_istore_n (lv' := [(2, iV (0)), (0, .ref (ad 23)), (1, .ref (ad tb))]) cx dX1_energyOf_1 rfl (by decide) rfl ?_
  refine ax_iconst cx dX1_energyOf_2 ?_
  refine ax_istore_n (lv' := [(3, iV (0)), (2, iV (0)), (0, .ref (ad 23)), (1, .ref (ad tb))]) cx dX1_energyOf_3 rfl (by decide) rfl ?_
  obtain ⟨t19, e20, h⟩ := ob h
  refine ax_lv cx [2, 3, 1, 0] rfl ?_
  have J21 : G M 41 [(2, iV (t19))] [] := by
    refine ax_iload_n cx 0 dX1_energyOf_41 rfl rfl ?_
    cases h
    exact ax_iret cx dX1_energyOf_42 rfl ⟨rfl, rfl⟩
  exact L4 FU tb 0 0 _ e20 J21
def fX1_energyNow (M : Mem)  : Option (Int) :=
    Option.bind (fX1_energyOf M 16) (fun t1 =>
    some (t1))
abbrev rmX1_energyNow : Room := { frames := 2, cells := 0, slots := 0, locals := 44 }
theorem hl_X1_energyNow_9 : Cond.fieldLink RX1 9 "PlateauBench$Foam" "owners" "[I" ∈ wsX1_energyNow := by decide +kernel
theorem hi_X1_energyNow_X1 : ∀ x ∈ u_ws RX1 TX1 7, x ∈ wsX1_energyNow := by decide +kernel
set_option maxRecDepth 100000 in
set_option maxHeartbeats 4000000 in
theorem kX1_energyNow (l : Launch) (ad : Nat → Nat) (M : Mem)  (T : Int) (h : fX1_energyNow M  = some T) : MX l yX1_energyNow wsX1_energyNow rmX1_energyNow wC ad [.ref (ad 27), .ref (ad 23)] M (some (iV (T))) M := by
  refine MX.of (cc := cX1_energyNow) (nL := 2) (rt := (some .int)) (own := RX1) (by decide +kernel) rfl rfl (Nat.le_of_ble_eq_true rfl) wC_ok (fun G cx => ?_)
  show G M 0 [(0, .ref (ad 27)), (1, .ref (ad 23))] []
  unfold fX1_energyNow at h
  refine ax_aload_n cx 1 dX1_energyNow_0 rfl rfl ?_
  refine ax_aload_n cx 0 dX1_energyNow_1 rfl rfl ?_
  refine ax_getf (q := 27) (ci := 1) (k := 0) (v := .ref (ad 16)) cx ⟨by decide, by decide⟩ rfl rfl hi_X1_energyNow_X1 (by decide) hl_X1_energyNow_9 rfl rfl dX1_energyNow_2 ?_
  obtain ⟨t1, e2, h⟩ := ob h
  refine ax_callS (As := [.ref (ad 23), .ref (ad 16)]) (n := 2) cx (kX1_energyOf l ad M 16 _ e2) gX1_energyNow_X1_energyOf rfl ⟨rfl, rfl⟩ (by decide +kernel) rfl ⟨by decide, by decide⟩ rfl (Nat.le_of_ble_eq_true rfl) dX1_energyNow_5 ?_
  cases h
  exact ax_iret cx dX1_energyNow_8 rfl ⟨rfl, rfl⟩
def fX1_change (M : Mem) (x2 : Int) (x3 : Int) : Option (Int × Mem) :=
    Option.bind (fX1_energyNow M) (fun t1 =>
    gd (inB (x2) 36) (
    gd (inB (x2) 36) (
    Option.bind (fX1_energyNow (wr M 16 x2.toNat x3)) (fun t5 =>
    Option.bind (fX1_addWork (wr M 16 x2.toNat x3) (t5 - t1)) (fun t7 =>
    some (M 16 x2.toNat, t7))))))
abbrev rmX1_change : Room := { frames := 3, cells := 0, slots := 0, locals := 65 }
theorem hl_X1_change_9 : Cond.fieldLink RX1 9 "PlateauBench$Foam" "owners" "[I" ∈ wsX1_change := by decide +kernel
theorem hi_X1_change_X1 : ∀ x ∈ u_ws RX1 TX1 7, x ∈ wsX1_change := by decide +kernel
set_option maxRecDepth 100000 in
set_option maxHeartbeats 4000000 in
theorem kX1_change (l : Launch) (ad : Nat → Nat) (M : Mem) (x2 : Int) (x3 : Int) (T : Int × Mem) (h : fX1_change M x2 x3 = some T) : MX l yX1_change wsX1_change rmX1_change wC ad [.ref (ad 27), .ref (ad 23), iV (x2), iV (x3)] M (some (iV (T.1))) T.2 := by
  refine MX.of (cc := cX1_change) (nL := 6) (rt := (some .int)) (own := RX1) (by decide +kernel) rfl rfl (Nat.le_of_ble_eq_true rfl) wC_ok (fun G cx => ?_)
  show G M 0 [(0, .ref (ad 27)), (1, .ref (ad 23)), (2, iV (x2)), (3, iV (x3))] []
  unfold fX1_change at h
  refine ax_aload_n cx 0 dX1_change_0 rfl rfl ?_
  refine ax_aload_n cx 1 dX1_change_1 rfl rfl ?_
  obtain ⟨t1, e2, h⟩ := ob h
  refine ax_callV (As := [.ref (ad 23)]) (q := 27) (ci := 1) (n := 1) cx (kX1_energyNow l ad M  _ e2) gX1_change_X1_energyNow rfl ⟨by decide, by decide⟩ rfl rfl ⟨rfl, rfl⟩ (by decide +kernel) rfl ⟨by decide, by decide⟩ rfl (Nat.le_of_ble_eq_true rfl) dX1_change_2 ?_
  refine ax_istore (lv' := [(4, iV (t1)), (0, .ref (ad 27)), (1, .ref (ad 23)), (2, iV (x2)), (3, iV (x3))]) cx dX1_change_5 (by decide) rfl ?_
  refine ax_aload_n cx 1 dX1_change_7 rfl rfl ?_
  refine ax_getf (q := 27) (ci := 1) (k := 0) (v := .ref (ad 16)) cx ⟨by decide, by decide⟩ rfl rfl hi_X1_change_X1 (by decide) hl_X1_change_9 rfl rfl dX1_change_8 ?_
  refine ax_iload_n cx 3 dX1_change_11 rfl rfl ?_
  obtain ⟨g3, h⟩ := gd_some h
  refine ax_iald (n := 36) cx (by decide) rfl rfl g3 dX1_change_12 ?_
  refine ax_istore (lv' := [(5, iV (M 16 x2.toNat)), (4, iV (t1)), (0, .ref (ad 27)), (1, .ref (ad 23)), (2, iV (x2)), (3, iV (x3))]) cx dX1_change_13 (by decide) rfl ?_
  refine ax_aload_n cx 2 dX1_change_15 rfl rfl ?_
  refine ax_getf (q := 27) (ci := 1) (k := 0) (v := .ref (ad 16)) cx ⟨by decide, by decide⟩ rfl rfl hi_X1_change_X1 (by decide) hl_X1_change_9 rfl rfl dX1_change_16 ?_
  refine ax_iload_n cx 4 dX1_change_19 rfl rfl ?_
  refine ax_iload_n cx 5 dX1_change_20 rfl rfl ?_
  obtain ⟨g4, h⟩ := gd_some h
  refine ax_iast (n := 36) cx (by decide) rfl rfl g4 dX1_change_21 ?_
  refine ax_aload_n cx 2 dX1_change_22 rfl rfl ?_
  refine ax_aload_n cx 2 dX1_change_23 rfl rfl ?_
  refine ax_aload_n cx 3 dX1_change_24 rfl rfl ?_
  obtain ⟨t5, e6, h⟩ := ob h
  refine ax_callV (As := [.ref (ad 23)]) (q := 27) (ci := 1) (n := 1) cx (kX1_energyNow l ad (wr M 16 x2.toNat x3)  _ e6) gX1_change_X1_energyNow rfl ⟨by decide, by decide⟩ rfl rfl ⟨rfl, rfl⟩ (by decide +kernel) rfl ⟨by decide, by decide⟩ rfl (Nat.le_of_ble_eq_true rfl) dX1_change_25 ?_
  refine ax_iload cx 1 dX1_change_28 rfl ?_
  refine ax_isub cx dX1_change_30 ?_
  obtain ⟨t7, e8, h⟩ := ob h
  refine ax_callV (As := [iV (t5 - t1)]) (q := 27) (ci := 1) (n := 1) cx (kX1_addWork l ad (wr M 16 x2.toNat x3) (t5 - t1) _ e8) gX1_change_X1_addWork rfl ⟨by decide, by decide⟩ rfl rfl ⟨rfl, rfl⟩ (by decide +kernel) rfl ⟨by decide, by decide⟩ rfl (Nat.le_of_ble_eq_true rfl) dX1_change_31 ?_
  refine ax_iload cx 0 dX1_change_34 rfl ?_
  cases h
  exact ax_iret cx dX1_change_36 rfl ⟨rfl, rfl⟩
def fX1_changeHeld (M : Mem) (x1 : Int) (x2 : Int) : Option (Int × Mem) :=
    gd (inB (x1) 8) (
    gd (inB (x1) 8) (
    gd (x2 = 0 ∨ x2 = 1) (
    gd (M 18 x1.toNat = 0 ∨ M 18 x1.toNat = 1) (
    some (M 18 x1.toNat, (wr M 18 x1.toNat x2))))))
abbrev rmX1_changeHeld : Room := { frames := 0, cells := 0, slots := 0, locals := 0 }
theorem hl_X1_changeHeld_18 : Cond.fieldLink RX1 18 "PlateauBench$Foam" "held" "[Z" ∈ wsX1_changeHeld := by decide +kernel
theorem hi_X1_changeHeld_X1 : ∀ x ∈ u_ws RX1 TX1 7, x ∈ wsX1_changeHeld := by decide +kernel
set_option maxRecDepth 100000 in
set_option maxHeartbeats 4000000 in
theorem kX1_changeHeld (l : Launch) (ad : Nat → Nat) (M : Mem) (x1 : Int) (x2 : Int) (T : Int × Mem) (h : fX1_changeHeld M x1 x2 = some T) : MX l yX1_changeHeld wsX1_changeHeld rmX1_changeHeld wC ad [.ref (ad 27), iV (x1), iV (x2)] M (some (iV (T.1))) T.2 := by
  refine MX.of (cc := cX1_changeHeld) (nL := 4) (rt := (some .boolean)) (own := RX1) (by decide +kernel) rfl rfl (Nat.le_of_ble_eq_true rfl) wC_ok (fun G cx => ?_)
  show G M 0 [(0, .ref (ad 27)), (1, iV (x1)), (2, iV (x2))] []
  unfold fX1_changeHeld at h
  refine ax_aload_n cx 0 dX1_changeHeld_0 rfl rfl ?_
  refine ax_getf (q := 27) (ci := 1) (k := 2) (v := .ref (ad 18)) cx ⟨by decide, by decide⟩ rfl rfl hi_X1_changeHeld_X1 (by decide) hl_X1_changeHeld_18 rfl rfl dX1_changeHeld_1 ?_
  refine ax_iload_n cx 1 dX1_changeHeld_4 rfl rfl ?_
  obtain ⟨g1, h⟩ := gd_some h
  refine ax_zald (n := 8) cx (by decide) rfl rfl g1 dX1_changeHeld_5 ?_
  refine ax_istore_n (lv' := [(3, iV (M 18 x1.toNat)), (0, .ref (ad 27)), (1, iV (x1)), (2, iV (x2))]) cx dX1_changeHeld_6 rfl (by decide) rfl ?_
  refine ax_aload_n cx 1 dX1_changeHeld_7 rfl rfl ?_
  refine ax_getf (q := 27) (ci := 1) (k := 2) (v := .ref (ad 18)) cx ⟨by decide, by decide⟩ rfl rfl hi_X1_changeHeld_X1 (by decide) hl_X1_changeHeld_18 rfl rfl dX1_changeHeld_8 ?_
  refine ax_iload_n cx 2 dX1_changeHeld_11 rfl rfl ?_
  refine ax_iload_n cx 3 dX1_changeHeld_12 rfl rfl ?_
  obtain ⟨g2, h⟩ := gd_some h
  obtain ⟨g3, h⟩ := gd_some h
  refine ax_zast (n := 8) cx (by decide) rfl rfl g2 g3 dX1_changeHeld_13 ?_
  refine ax_iload_n cx 0 dX1_changeHeld_14 rfl rfl ?_
  obtain ⟨g4, h⟩ := gd_some h
  cases h
  exact ax_zret cx dX1_changeHeld_15 rfl g4 ⟨rfl, rfl⟩
def fX1_wallsWith_L6 : Nat → Mem → Nat → Int → Int → Int → Int → Option (Int)
  | 0, _, _, _, _, _, _ => none
  | n + 1, M, tb, x2, x3, x4, x5 =>
    gd (inR (x5)) (
    if 4 ≤ x5 then (
      some (x4))
    else (
      Option.bind (fX2_beside M x2 x5) (fun t3 =>
      gd (inR (t3)) (
      Option.bind (if t3 = (-1) then (
        some (x4))
      else (
        Option.bind (fX2_otherEnd M t3 x2) (fun t7 =>
        gd (tb < 21 ∧ kzC tb = false) (
        gd (inB (t7) (lenC tb)) (
        gd (inR (M tb t7.toNat)) (
        gd (inR (x3)) (
        if M tb t7.toNat = x3 then (
          some (x4))
        else (
          Option.bind (fX2_price M t3) (fun t14 =>
          some (x4 + t14)))))))))) (fun t16 =>
      fX1_wallsWith_L6 n M tb x2 x3 t16 (x5 + 1))))))
def fX1_wallsWith (M : Mem) (tb : Nat) (x2 : Int) (x3 : Int) : Option (Int) :=
    Option.bind (fX1_wallsWith_L6 FU M tb x2 x3 0 0) (fun t20 =>
    some (t20))
abbrev rmX1_wallsWith : Room := { frames := 1, cells := 0, slots := 0, locals := 22 }
set_option maxRecDepth 100000 in
set_option maxHeartbeats 4000000 in
theorem kX1_wallsWith (l : Launch) (ad : Nat → Nat) (M : Mem) (tb : Nat) (x2 : Int) (x3 : Int) (T : Int) (h : fX1_wallsWith M tb x2 x3 = some T) : MX l yX1_wallsWith wsX1_wallsWith rmX1_wallsWith wC ad [.ref (ad 23), .ref (ad tb), iV (x2), iV (x3)] M (some (iV (T))) M := by
  refine MX.of (cc := cX1_wallsWith) (nL := 7) (rt := (some .int)) (own := RX1) (by decide +kernel) rfl rfl (Nat.le_of_ble_eq_true rfl) wC_ok (fun G cx => ?_)
  show G M 0 [(0, .ref (ad 23)), (1, .ref (ad tb)), (2, iV (x2)), (3, iV (x3))] []
  have L6 : ∀ (n : Nat) (tb : Nat) (x2 : Int) (x3 : Int) (x4 : Int) (x5 : Int) (T19 : Int), fX1_wallsWith_L6 n M tb x2 x3 x4 x5 = some T19 → (G M 57 [(4, iV (T19))] []) → G M 6 [(0, .ref (ad 23)), (1, .ref (ad tb)), (2, iV (x2)), (3, iV (x3)), (4, iV (x4)), (5, iV (x5))] [] := by
    intro n
    induction n with
    | zero =>
      intro tb x2 x3 x4 x5 T19 h
      exact absurd h (by simp [fX1_wallsWith_L6])
    | succ n ih =>
      intro tb x2 x3 x4 x5 T19 h hJ
      rw [fX1_wallsWith_L6] at h
      refine ax_iload cx 5 dX1_wallsWith_6 rfl ?_
      refine ax_iconst cx dX1_wallsWith_8 ?_
      obtain ⟨g1, h⟩ := gd_some h
      refine ax_icmp_ge cx 57 dX1_wallsWith_9 (by decide) g1 ⟨by decide, by decide⟩ (fun c2 => ?_) (fun c2 => ?_)
      · rw [if_pos c2] at h
        refine ax_lv cx [4] rfl ?_
        cases h
        exact hJ
      · rw [if_neg c2] at h
        refine ax_aload_n cx 0 dX1_wallsWith_12 rfl rfl ?_
        refine ax_iload_n cx 2 dX1_wallsWith_13 rfl rfl ?_
        refine ax_iload cx 5 dX1_wallsWith_14 rfl ?_
        obtain ⟨t3, e4, h⟩ := ob h
        refine ax_callV (As := [iV (x2), iV (x5)]) (q := 23) (ci := 2) (n := 2) cx (kX2_beside l ad M x2 x5 _ e4) gX1_wallsWith_X2_beside rfl ⟨by decide, by decide⟩ rfl rfl ⟨rfl, rfl⟩ (by decide +kernel) rfl ⟨by decide, by decide⟩ rfl (Nat.le_of_ble_eq_true rfl) dX1_wallsWith_16 ?_
        refine ax_istore (lv' := [(6, iV (t3)), (0, .ref (ad 23)), (1, .ref (ad tb)), (2, iV (x2)), (3, iV (x3)), (4, iV (x4)), (5, iV (x5))]) cx dX1_wallsWith_19 (by decide) rfl ?_
        refine ax_iload cx 0 dX1_wallsWith_21 rfl ?_
        refine ax_iconst cx dX1_wallsWith_23 ?_
        obtain ⟨g5, h⟩ := gd_some h
        obtain ⟨t16, e18, h⟩ := ob h
        have J17 : G M 51 [(0, .ref (ad 23)), (1, .ref (ad tb)), (2, iV (x2)), (3, iV (x3)), (4, iV (t16)), (5, iV (x5))] [] := by
          refine ax_iinc (lv' := [(5, iV (x5 + 1)), (0, .ref (ad 23)), (1, .ref (ad tb)), (2, iV (x2)), (3, iV (x3)), (4, iV (t16))]) cx 5 dX1_wallsWith_51 rfl (by decide) rfl ?_
          refine ax_goto cx 6 dX1_wallsWith_54 (by decide) ?_
          refine ax_lv cx [1, 2, 3, 4, 5, 0] rfl ?_
          exact ih _ _ _ _ _ _ h hJ
        clear h
        have h := e18
        clear e18
        refine ax_icmp_eq cx 51 dX1_wallsWith_24 (by decide) g5 ⟨by decide, by decide⟩ (fun c6 => ?_) (fun c6 => ?_)
        · rw [if_pos c6] at h
          refine ax_lv cx [1, 2, 3, 4, 5, 6] rfl ?_
          cases h
          exact J17
        · rw [if_neg c6] at h
          refine ax_aload_n cx 2 dX1_wallsWith_27 rfl rfl ?_
          refine ax_aload_n cx 1 dX1_wallsWith_28 rfl rfl ?_
          refine ax_iload cx 0 dX1_wallsWith_29 rfl ?_
          refine ax_iload_n cx 3 dX1_wallsWith_31 rfl rfl ?_
          obtain ⟨t7, e8, h⟩ := ob h
          refine ax_callV (As := [iV (t3), iV (x2)]) (q := 23) (ci := 2) (n := 2) cx (kX2_otherEnd l ad M t3 x2 _ e8) gX1_wallsWith_X2_otherEnd rfl ⟨by decide, by decide⟩ rfl rfl ⟨rfl, rfl⟩ (by decide +kernel) rfl ⟨by decide, by decide⟩ rfl (Nat.le_of_ble_eq_true rfl) dX1_wallsWith_32 ?_
          obtain ⟨g9, h⟩ := gd_some h
          obtain ⟨g10, h⟩ := gd_some h
          refine ax_iald (n := lenC tb) cx (Nat.lt_trans g9.1 (by decide)) g9.2 rfl g10 dX1_wallsWith_35 ?_
          refine ax_iload_n cx 4 dX1_wallsWith_36 rfl rfl ?_
          obtain ⟨g11, h⟩ := gd_some h
          obtain ⟨g12, h⟩ := gd_some h
          refine ax_icmp_eq cx 51 dX1_wallsWith_37 (by decide) g11 g12 (fun c13 => ?_) (fun c13 => ?_)
          · rw [if_pos c13] at h
            refine ax_lv cx [1, 2, 3, 4, 5, 6] rfl ?_
            cases h
            exact J17
          · rw [if_neg c13] at h
            refine ax_iload cx 5 dX1_wallsWith_40 rfl ?_
            refine ax_aload_n cx 1 dX1_wallsWith_42 rfl rfl ?_
            refine ax_iload cx 0 dX1_wallsWith_43 rfl ?_
            obtain ⟨t14, e15, h⟩ := ob h
            refine ax_callV (As := [iV (t3)]) (q := 23) (ci := 2) (n := 1) cx (kX2_price l ad M t3 _ e15) gX1_wallsWith_X2_price rfl ⟨by decide, by decide⟩ rfl rfl ⟨rfl, rfl⟩ (by decide +kernel) rfl ⟨by decide, by decide⟩ rfl (Nat.le_of_ble_eq_true rfl) dX1_wallsWith_45 ?_
            refine ax_iadd cx dX1_wallsWith_48 ?_
            refine ax_istore (lv' := [(4, iV (x4 + t14)), (6, iV (t3)), (0, .ref (ad 23)), (1, .ref (ad tb)), (2, iV (x2)), (3, iV (x3)), (5, iV (x5))]) cx dX1_wallsWith_49 (by decide) rfl ?_
            refine ax_lv cx [2, 3, 4, 5, 0, 6] rfl ?_
            cases h
            exact J17
  unfold fX1_wallsWith at h
  refine ax_iconst cx dX1_wallsWith_0 ?_
  refine ax_istore (lv' := [(4, iV (0)), (0, .ref (ad 23)), (1, .ref (ad tb)), (2, iV (x2)), (3, iV (x3))]) cx dX1_wallsWith_1 (by decide) rfl ?_
  refine ax_iconst cx dX1_wallsWith_3 ?_
  refine ax_istore (lv' := [(5, iV (0)), (4, iV (0)), (0, .ref (ad 23)), (1, .ref (ad tb)), (2, iV (x2)), (3, iV (x3))]) cx dX1_wallsWith_4 (by decide) rfl ?_
  obtain ⟨t20, e21, h⟩ := ob h
  refine ax_lv cx [2, 3, 4, 5, 1, 0] rfl ?_
  have J22 : G M 57 [(4, iV (t20))] [] := by
    refine ax_iload cx 0 dX1_wallsWith_57 rfl ?_
    cases h
    exact ax_iret cx dX1_wallsWith_59 rfl ⟨rfl, rfl⟩
  exact L6 FU tb x2 x3 0 0 _ e21 J22
def fX1_bestOwner_L22 : Nat → Mem → Nat → Int → Int → Int → Int → Int → Option (Int)
  | 0, _, _, _, _, _, _, _ => none
  | n + 1, M, tb, x3, x4, x5, x6, x7 =>
    gd (inR (x7)) (
    if 4 ≤ x7 then (
      some (x5))
    else (
      Option.bind (fX2_beside M x3 x7) (fun t7 =>
      gd (inR (t7)) (
      Option.bind (if t7 = (-1) then (
        some (x5, x6))
      else (
        Option.bind (fX2_otherEnd M t7 x3) (fun t11 =>
        gd (tb < 21 ∧ kzC tb = false) (
        gd (inB (t11) (lenC tb)) (
        Option.bind (fX1_wallsWith M tb x3 (M tb t11.toNat)) (fun t15 =>
        gd (inR (t15)) (
        gd (inR (x6)) (
        Option.bind (if t15 < x6 then (
          some (1))
        else (
          if t15 = x6 then (
            gd (inR (x5)) (
            gd (inR (x4)) (
            if x5 = x4 then (
              some (0))
            else (
              gd (inR (M tb t11.toNat)) (
              if x5 ≤ M tb t11.toNat then (
                some (0))
              else (
                some (1)))))))
          else (
            some (0)))) (fun t26 =>
        gd (inR (t26)) (
        if t26 = 0 then (
          some (x5, x6))
        else (
          gd (inB (M tb t11.toNat) 8) (
          gd (inR (M 18 (M tb t11.toNat).toNat)) (
          if M 18 (M tb t11.toNat).toNat = 0 then (
            some (M tb t11.toNat, t15))
          else (
            some (x5, x6))))))))))))))) (fun t34 =>
      fX1_bestOwner_L22 n M tb x3 x4 t34.1 t34.2 (x7 + 1))))))
def fX1_bestOwner (M : Mem) (tb : Nat) (x3 : Int) : Option (Int) :=
    gd (tb < 21 ∧ kzC tb = false) (
    gd (inB (x3) (lenC tb)) (
    Option.bind (fX1_wallsWith M tb x3 (M tb x3.toNat)) (fun t3 =>
    Option.bind (fX1_bestOwner_L22 FU M tb x3 (M tb x3.toNat) (M tb x3.toNat) t3 0) (fun t38 =>
    some (t38)))))
abbrev rmX1_bestOwner : Room := { frames := 2, cells := 0, slots := 0, locals := 48 }
theorem hl_X1_bestOwner_18 : Cond.fieldLink RX1 18 "PlateauBench$Foam" "held" "[Z" ∈ wsX1_bestOwner := by decide +kernel
theorem hi_X1_bestOwner_X1 : ∀ x ∈ u_ws RX1 TX1 7, x ∈ wsX1_bestOwner := by decide +kernel
set_option maxRecDepth 100000 in
set_option maxHeartbeats 4000000 in
theorem kX1_bestOwner (l : Launch) (ad : Nat → Nat) (M : Mem) (tb : Nat) (x3 : Int) (T : Int) (h : fX1_bestOwner M tb x3 = some T) : MX l yX1_bestOwner wsX1_bestOwner rmX1_bestOwner wC ad [.ref (ad 27), .ref (ad 23), .ref (ad tb), iV (x3)] M (some (iV (T))) M := by
  refine MX.of (cc := cX1_bestOwner) (nL := 12) (rt := (some .int)) (own := RX1) (by decide +kernel) rfl rfl (Nat.le_of_ble_eq_true rfl) wC_ok (fun G cx => ?_)
  show G M 0 [(0, .ref (ad 27)), (1, .ref (ad 23)), (2, .ref (ad tb)), (3, iV (x3))] []
  have L22 : ∀ (n : Nat) (tb : Nat) (x3 : Int) (x4 : Int) (x5 : Int) (x6 : Int) (x7 : Int) (T37 : Int), fX1_bestOwner_L22 n M tb x3 x4 x5 x6 x7 = some T37 → (G M 128 [(5, iV (T37))] []) → G M 22 [(0, .ref (ad 27)), (1, .ref (ad 23)), (2, .ref (ad tb)), (3, iV (x3)), (4, iV (x4)), (5, iV (x5)), (6, iV (x6)), (7, iV (x7))] [] := by
    intro n
    induction n with
    | zero =>
      intro tb x3 x4 x5 x6 x7 T37 h
      exact absurd h (by simp [fX1_bestOwner_L22])
    | succ n ih =>
      intro tb x3 x4 x5 x6 x7 T37 h hJ
      rw [fX1_bestOwner_L22] at h
      refine ax_iload cx 7 dX1_bestOwner_22 rfl ?_
      refine ax_iconst cx dX1_bestOwner_24 ?_
      obtain ⟨g5, h⟩ := gd_some h
      refine ax_icmp_ge cx 128 dX1_bestOwner_25 (by decide) g5 ⟨by decide, by decide⟩ (fun c6 => ?_) (fun c6 => ?_)
      · rw [if_pos c6] at h
        refine ax_lv cx [5] rfl ?_
        cases h
        exact hJ
      · rw [if_neg c6] at h
        refine ax_aload_n cx 1 dX1_bestOwner_28 rfl rfl ?_
        refine ax_iload_n cx 3 dX1_bestOwner_29 rfl rfl ?_
        refine ax_iload cx 7 dX1_bestOwner_30 rfl ?_
        obtain ⟨t7, e8, h⟩ := ob h
        refine ax_callV (As := [iV (x3), iV (x7)]) (q := 23) (ci := 2) (n := 2) cx (kX2_beside l ad M x3 x7 _ e8) gX1_bestOwner_X2_beside rfl ⟨by decide, by decide⟩ rfl rfl ⟨rfl, rfl⟩ (by decide +kernel) rfl ⟨by decide, by decide⟩ rfl (Nat.le_of_ble_eq_true rfl) dX1_bestOwner_32 ?_
        refine ax_istore (lv' := [(8, iV (t7)), (0, .ref (ad 27)), (1, .ref (ad 23)), (2, .ref (ad tb)), (3, iV (x3)), (4, iV (x4)), (5, iV (x5)), (6, iV (x6)), (7, iV (x7))]) cx dX1_bestOwner_35 (by decide) rfl ?_
        refine ax_iload cx 0 dX1_bestOwner_37 rfl ?_
        refine ax_iconst cx dX1_bestOwner_39 ?_
        obtain ⟨g9, h⟩ := gd_some h
        obtain ⟨t34, e36, h⟩ := ob h
        have J35 : G M 122 [(0, .ref (ad 27)), (1, .ref (ad 23)), (2, .ref (ad tb)), (3, iV (x3)), (4, iV (x4)), (5, iV (t34.1)), (6, iV (t34.2)), (7, iV (x7))] [] := by
          refine ax_iinc (lv' := [(7, iV (x7 + 1)), (0, .ref (ad 27)), (1, .ref (ad 23)), (2, .ref (ad tb)), (3, iV (x3)), (4, iV (x4)), (5, iV (t34.1)), (6, iV (t34.2))]) cx 7 dX1_bestOwner_122 rfl (by decide) rfl ?_
          refine ax_goto cx 22 dX1_bestOwner_125 (by decide) ?_
          refine ax_lv cx [1, 2, 3, 4, 5, 6, 7, 0] rfl ?_
          exact ih _ _ _ _ _ _ _ h hJ
        clear h
        have h := e36
        clear e36
        refine ax_icmp_eq cx 122 dX1_bestOwner_40 (by decide) g9 ⟨by decide, by decide⟩ (fun c10 => ?_) (fun c10 => ?_)
        · rw [if_pos c10] at h
          refine ax_lv cx [1, 2, 3, 4, 5, 6, 7, 8] rfl ?_
          cases h
          exact J35
        · rw [if_neg c10] at h
          refine ax_aload_n cx 3 dX1_bestOwner_43 rfl rfl ?_
          refine ax_aload_n cx 2 dX1_bestOwner_44 rfl rfl ?_
          refine ax_iload cx 0 dX1_bestOwner_45 rfl ?_
          refine ax_iload_n cx 4 dX1_bestOwner_47 rfl rfl ?_
          obtain ⟨t11, e12, h⟩ := ob h
          refine ax_callV (As := [iV (t7), iV (x3)]) (q := 23) (ci := 2) (n := 2) cx (kX2_otherEnd l ad M t7 x3 _ e12) gX1_bestOwner_X2_otherEnd rfl ⟨by decide, by decide⟩ rfl rfl ⟨rfl, rfl⟩ (by decide +kernel) rfl ⟨by decide, by decide⟩ rfl (Nat.le_of_ble_eq_true rfl) dX1_bestOwner_48 ?_
          obtain ⟨g13, h⟩ := gd_some h
          obtain ⟨g14, h⟩ := gd_some h
          refine ax_iald (n := lenC tb) cx (Nat.lt_trans g13.1 (by decide)) g13.2 rfl g14 dX1_bestOwner_51 ?_
          refine ax_istore (lv' := [(9, iV (M tb t11.toNat)), (8, iV (t7)), (0, .ref (ad 27)), (1, .ref (ad 23)), (2, .ref (ad tb)), (3, iV (x3)), (4, iV (x4)), (5, iV (x5)), (6, iV (x6)), (7, iV (x7))]) cx dX1_bestOwner_52 (by decide) rfl ?_
          refine ax_aload_n cx 3 dX1_bestOwner_54 rfl rfl ?_
          refine ax_aload_n cx 4 dX1_bestOwner_55 rfl rfl ?_
          refine ax_iload_n cx 5 dX1_bestOwner_56 rfl rfl ?_
          refine ax_iload cx 0 dX1_bestOwner_57 rfl ?_
          obtain ⟨t15, e16, h⟩ := ob h
          refine ax_callS (As := [.ref (ad 23), .ref (ad tb), iV (x3), iV (M tb t11.toNat)]) (n := 4) cx (kX1_wallsWith l ad M tb x3 (M tb t11.toNat) _ e16) gX1_bestOwner_X1_wallsWith rfl ⟨rfl, rfl⟩ (by decide +kernel) rfl ⟨by decide, by decide⟩ rfl (Nat.le_of_ble_eq_true rfl) dX1_bestOwner_59 ?_
          refine ax_istore (lv' := [(10, iV (t15)), (9, iV (M tb t11.toNat)), (8, iV (t7)), (0, .ref (ad 27)), (1, .ref (ad 23)), (2, .ref (ad tb)), (3, iV (x3)), (4, iV (x4)), (5, iV (x5)), (6, iV (x6)), (7, iV (x7))]) cx dX1_bestOwner_62 (by decide) rfl ?_
          refine ax_iload cx 0 dX1_bestOwner_64 rfl ?_
          refine ax_iload cx 9 dX1_bestOwner_66 rfl ?_
          obtain ⟨g17, h⟩ := gd_some h
          obtain ⟨g18, h⟩ := gd_some h
          obtain ⟨t26, e28, h⟩ := ob h
          have J27 : G M 97 [(0, .ref (ad 27)), (1, .ref (ad 23)), (2, .ref (ad tb)), (3, iV (x3)), (4, iV (x4)), (5, iV (x5)), (6, iV (x6)), (7, iV (x7)), (9, iV (M tb t11.toNat)), (10, iV (t15))] [iV (t26)] := by
            refine ax_istore (lv' := [(11, iV (t26)), (0, .ref (ad 27)), (1, .ref (ad 23)), (2, .ref (ad tb)), (3, iV (x3)), (4, iV (x4)), (5, iV (x5)), (6, iV (x6)), (7, iV (x7)), (9, iV (M tb t11.toNat)), (10, iV (t15))]) cx dX1_bestOwner_97 (by decide) rfl ?_
            refine ax_iload cx 0 dX1_bestOwner_99 rfl ?_
            obtain ⟨g29, h⟩ := gd_some h
            refine ax_if_eq cx 122 dX1_bestOwner_101 (by decide) g29 (fun c30 => ?_) (fun c30 => ?_)
            · rw [if_pos c30] at h
              refine ax_lv cx [1, 2, 3, 4, 5, 6, 7, 8] rfl ?_
              cases h
              exact J35
            · rw [if_neg c30] at h
              refine ax_aload_n cx 1 dX1_bestOwner_104 rfl rfl ?_
              refine ax_getf (q := 27) (ci := 1) (k := 2) (v := .ref (ad 18)) cx ⟨by decide, by decide⟩ rfl rfl hi_X1_bestOwner_X1 (by decide) hl_X1_bestOwner_18 rfl rfl dX1_bestOwner_105 ?_
              refine ax_iload cx 9 dX1_bestOwner_108 rfl ?_
              obtain ⟨g31, h⟩ := gd_some h
              refine ax_zald (n := 8) cx (by decide) rfl rfl g31 dX1_bestOwner_110 ?_
              obtain ⟨g32, h⟩ := gd_some h
              refine ax_if_ne cx 122 dX1_bestOwner_111 (by decide) g32 (fun c33 => ?_) (fun c33 => ?_)
              · rw [if_pos c33] at h
                refine ax_iload cx 9 dX1_bestOwner_114 rfl ?_
                refine ax_istore (lv' := [(5, iV (M tb t11.toNat)), (11, iV (t26)), (0, .ref (ad 27)), (1, .ref (ad 23)), (2, .ref (ad tb)), (3, iV (x3)), (4, iV (x4)), (6, iV (x6)), (7, iV (x7)), (9, iV (M tb t11.toNat)), (10, iV (t15))]) cx dX1_bestOwner_116 (by decide) rfl ?_
                refine ax_iload cx 10 dX1_bestOwner_118 rfl ?_
                refine ax_istore (lv' := [(6, iV (t15)), (5, iV (M tb t11.toNat)), (11, iV (t26)), (0, .ref (ad 27)), (1, .ref (ad 23)), (2, .ref (ad tb)), (3, iV (x3)), (4, iV (x4)), (7, iV (x7)), (9, iV (M tb t11.toNat)), (10, iV (t15))]) cx dX1_bestOwner_120 (by decide) rfl ?_
                refine ax_lv cx [3, 4, 5, 6, 7, 1, 0, 8] rfl ?_
                cases h
                exact J35
              · rw [if_neg c33] at h
                refine ax_lv cx [1, 2, 3, 4, 5, 6, 7, 8] rfl ?_
                cases h
                exact J35
          clear h
          have h := e28
          clear e28
          refine ax_icmp_lt cx 92 dX1_bestOwner_68 (by decide) g17 g18 (fun c19 => ?_) (fun c19 => ?_)
          · rw [if_pos c19] at h
            refine ax_iconst cx dX1_bestOwner_92 ?_
            refine ax_goto cx 97 dX1_bestOwner_93 (by decide) ?_
            refine ax_lv cx [3, 4, 5, 6, 7, 8, 9, 10, 1, 0] rfl ?_
            cases h
            exact J27
          · rw [if_neg c19] at h
            refine ax_iload cx 0 dX1_bestOwner_71 rfl ?_
            refine ax_iload cx 9 dX1_bestOwner_73 rfl ?_
            refine ax_icmp_ne cx 96 dX1_bestOwner_75 (by decide) g17 g18 (fun c20 => ?_) (fun c20 => ?_)
            · rw [if_pos c20] at h
              refine ax_iload cx 8 dX1_bestOwner_78 rfl ?_
              refine ax_iload cx 7 dX1_bestOwner_80 rfl ?_
              obtain ⟨g21, h⟩ := gd_some h
              obtain ⟨g22, h⟩ := gd_some h
              refine ax_icmp_eq cx 96 dX1_bestOwner_82 (by decide) g21 g22 (fun c23 => ?_) (fun c23 => ?_)
              · rw [if_pos c23] at h
                refine ax_iconst cx dX1_bestOwner_96 ?_
                refine ax_lv cx [3, 4, 5, 6, 7, 8, 9, 10, 1, 0] rfl ?_
                cases h
                exact J27
              · rw [if_neg c23] at h
                refine ax_iload cx 1 dX1_bestOwner_85 rfl ?_
                refine ax_iload cx 8 dX1_bestOwner_87 rfl ?_
                obtain ⟨g24, h⟩ := gd_some h
                refine ax_icmp_ge cx 96 dX1_bestOwner_89 (by decide) g24 g21 (fun c25 => ?_) (fun c25 => ?_)
                · rw [if_pos c25] at h
                  refine ax_iconst cx dX1_bestOwner_96 ?_
                  refine ax_lv cx [3, 4, 5, 6, 7, 8, 9, 10, 1, 0] rfl ?_
                  cases h
                  exact J27
                · rw [if_neg c25] at h
                  refine ax_iconst cx dX1_bestOwner_92 ?_
                  refine ax_goto cx 97 dX1_bestOwner_93 (by decide) ?_
                  refine ax_lv cx [3, 4, 5, 6, 7, 8, 9, 10, 1, 0] rfl ?_
                  cases h
                  exact J27
            · rw [if_neg c20] at h
              refine ax_iconst cx dX1_bestOwner_96 ?_
              refine ax_lv cx [3, 4, 5, 6, 7, 8, 9, 10, 1, 0] rfl ?_
              cases h
              exact J27
  unfold fX1_bestOwner at h
  refine ax_aload_n cx 2 dX1_bestOwner_0 rfl rfl ?_
  refine ax_iload_n cx 3 dX1_bestOwner_1 rfl rfl ?_
  obtain ⟨g1, h⟩ := gd_some h
  obtain ⟨g2, h⟩ := gd_some h
  refine ax_iald (n := lenC tb) cx (Nat.lt_trans g1.1 (by decide)) g1.2 rfl g2 dX1_bestOwner_2 ?_
  refine ax_istore (lv' := [(4, iV (M tb x3.toNat)), (0, .ref (ad 27)), (1, .ref (ad 23)), (2, .ref (ad tb)), (3, iV (x3))]) cx dX1_bestOwner_3 (by decide) rfl ?_
  refine ax_iload cx 0 dX1_bestOwner_5 rfl ?_
  refine ax_istore (lv' := [(5, iV (M tb x3.toNat)), (4, iV (M tb x3.toNat)), (0, .ref (ad 27)), (1, .ref (ad 23)), (2, .ref (ad tb)), (3, iV (x3))]) cx dX1_bestOwner_7 (by decide) rfl ?_
  refine ax_aload_n cx 3 dX1_bestOwner_9 rfl rfl ?_
  refine ax_aload_n cx 4 dX1_bestOwner_10 rfl rfl ?_
  refine ax_iload_n cx 5 dX1_bestOwner_11 rfl rfl ?_
  refine ax_iload cx 1 dX1_bestOwner_12 rfl ?_
  obtain ⟨t3, e4, h⟩ := ob h
  refine ax_callS (As := [.ref (ad 23), .ref (ad tb), iV (x3), iV (M tb x3.toNat)]) (n := 4) cx (kX1_wallsWith l ad M tb x3 (M tb x3.toNat) _ e4) gX1_bestOwner_X1_wallsWith rfl ⟨rfl, rfl⟩ (by decide +kernel) rfl ⟨by decide, by decide⟩ rfl (Nat.le_of_ble_eq_true rfl) dX1_bestOwner_14 ?_
  refine ax_istore (lv' := [(6, iV (t3)), (5, iV (M tb x3.toNat)), (4, iV (M tb x3.toNat)), (0, .ref (ad 27)), (1, .ref (ad 23)), (2, .ref (ad tb)), (3, iV (x3))]) cx dX1_bestOwner_17 (by decide) rfl ?_
  refine ax_iconst cx dX1_bestOwner_19 ?_
  refine ax_istore (lv' := [(7, iV (0)), (6, iV (t3)), (5, iV (M tb x3.toNat)), (4, iV (M tb x3.toNat)), (0, .ref (ad 27)), (1, .ref (ad 23)), (2, .ref (ad tb)), (3, iV (x3))]) cx dX1_bestOwner_20 (by decide) rfl ?_
  obtain ⟨t38, e39, h⟩ := ob h
  refine ax_lv cx [4, 5, 6, 7, 3, 2, 1, 0] rfl ?_
  have J40 : G M 128 [(5, iV (t38))] [] := by
    refine ax_iload cx 0 dX1_bestOwner_128 rfl ?_
    cases h
    exact ax_iret cx dX1_bestOwner_130 rfl ⟨rfl, rfl⟩
  exact L22 FU tb x3 (M tb x3.toNat) (M tb x3.toNat) t3 0 _ e39 J40
def fX1_breath_L5 : Nat → Mem → Nat → Int → Int → Option (Int × Mem)
  | 0, _, _, _, _ => none
  | n + 1, M, tb, x3, x4 =>
    gd (inR (x4)) (
    if 36 ≤ x4 then (
      some (x3, M))
    else (
      gd (tb < 21 ∧ kzC tb = false) (
      gd (inB (x4) (lenC tb)) (
      gd (inB (M tb x4.toNat) 8) (
      gd (inR (M 18 (M tb x4.toNat).toNat)) (
      Option.bind (if M 18 (M tb x4.toNat).toNat = 0 then (
        Option.bind (fX1_bestOwner M tb x4) (fun t8 =>
        gd (inB (x4) (lenC tb)) (
        gd (inR (t8)) (
        if t8 = M tb x4.toNat then (
          some (x3, M))
        else (
          gd (inB (x4) (lenC tb)) (
          some (x3 + 1, (wr M tb x4.toNat t8))))))))
      else (
        some (x3, M))) (fun t14 =>
      fX1_breath_L5 n t14.2 tb t14.1 (x4 + 1))))))))
def fX1_breath (M : Mem) (tb : Nat) : Option (Int × Mem) :=
    Option.bind (fX1_breath_L5 FU M tb 0 0) (fun t18 =>
    some (t18.1, t18.2))
abbrev rmX1_breath : Room := { frames := 3, cells := 0, slots := 0, locals := 79 }
theorem hl_X1_breath_18 : Cond.fieldLink RX1 18 "PlateauBench$Foam" "held" "[Z" ∈ wsX1_breath := by decide +kernel
theorem hi_X1_breath_X1 : ∀ x ∈ u_ws RX1 TX1 7, x ∈ wsX1_breath := by decide +kernel
set_option maxRecDepth 100000 in
set_option maxHeartbeats 4000000 in
theorem kX1_breath (l : Launch) (ad : Nat → Nat) (M : Mem) (tb : Nat) (T : Int × Mem) (h : fX1_breath M tb = some T) : MX l yX1_breath wsX1_breath rmX1_breath wC ad [.ref (ad 27), .ref (ad 23), .ref (ad tb)] M (some (iV (T.1))) T.2 := by
  refine MX.of (cc := cX1_breath) (nL := 6) (rt := (some .int)) (own := RX1) (by decide +kernel) rfl rfl (Nat.le_of_ble_eq_true rfl) wC_ok (fun G cx => ?_)
  show G M 0 [(0, .ref (ad 27)), (1, .ref (ad 23)), (2, .ref (ad tb))] []
  have L5 : ∀ (n : Nat) (M : Mem) (tb : Nat) (x3 : Int) (x4 : Int) (T17 : Int × Mem), fX1_breath_L5 n M tb x3 x4 = some T17 → (G T17.2 58 [(3, iV (T17.1))] []) → G M 5 [(0, .ref (ad 27)), (1, .ref (ad 23)), (2, .ref (ad tb)), (3, iV (x3)), (4, iV (x4))] [] := by
    intro n
    induction n with
    | zero =>
      intro M tb x3 x4 T17 h
      exact absurd h (by simp [fX1_breath_L5])
    | succ n ih =>
      intro M tb x3 x4 T17 h hJ
      rw [fX1_breath_L5] at h
      refine ax_iload cx 4 dX1_breath_5 rfl ?_
      refine ax_bipush (z := 36) cx dX1_breath_7 (by decide) ?_
      obtain ⟨g1, h⟩ := gd_some h
      refine ax_icmp_ge cx 58 dX1_breath_9 (by decide) g1 ⟨by decide, by decide⟩ (fun c2 => ?_) (fun c2 => ?_)
      · rw [if_pos c2] at h
        refine ax_lv cx [3] rfl ?_
        cases h
        exact hJ
      · rw [if_neg c2] at h
        refine ax_aload_n cx 0 dX1_breath_12 rfl rfl ?_
        refine ax_getf (q := 27) (ci := 1) (k := 2) (v := .ref (ad 18)) cx ⟨by decide, by decide⟩ rfl rfl hi_X1_breath_X1 (by decide) hl_X1_breath_18 rfl rfl dX1_breath_13 ?_
        refine ax_aload_n cx 2 dX1_breath_16 rfl rfl ?_
        refine ax_iload cx 4 dX1_breath_17 rfl ?_
        obtain ⟨g3, h⟩ := gd_some h
        obtain ⟨g4, h⟩ := gd_some h
        refine ax_iald (n := lenC tb) cx (Nat.lt_trans g3.1 (by decide)) g3.2 rfl g4 dX1_breath_19 ?_
        obtain ⟨g5, h⟩ := gd_some h
        refine ax_zald (n := 8) cx (by decide) rfl rfl g5 dX1_breath_20 ?_
        obtain ⟨g6, h⟩ := gd_some h
        obtain ⟨t14, e16, h⟩ := ob h
        have J15 : G t14.2 52 [(0, .ref (ad 27)), (1, .ref (ad 23)), (2, .ref (ad tb)), (3, iV (t14.1)), (4, iV (x4))] [] := by
          refine ax_iinc (lv' := [(4, iV (x4 + 1)), (0, .ref (ad 27)), (1, .ref (ad 23)), (2, .ref (ad tb)), (3, iV (t14.1))]) cx 4 dX1_breath_52 rfl (by decide) rfl ?_
          refine ax_goto cx 5 dX1_breath_55 (by decide) ?_
          refine ax_lv cx [1, 2, 3, 4, 0] rfl ?_
          exact ih _ _ _ _ _ h hJ
        clear h
        have h := e16
        clear e16
        refine ax_if_ne cx 52 dX1_breath_21 (by decide) g6 (fun c7 => ?_) (fun c7 => ?_)
        · rw [if_pos c7] at h
          refine ax_aload_n cx 0 dX1_breath_24 rfl rfl ?_
          refine ax_aload_n cx 1 dX1_breath_25 rfl rfl ?_
          refine ax_aload_n cx 2 dX1_breath_26 rfl rfl ?_
          refine ax_iload cx 4 dX1_breath_27 rfl ?_
          obtain ⟨t8, e9, h⟩ := ob h
          refine ax_callV (As := [.ref (ad 23), .ref (ad tb), iV (x4)]) (q := 27) (ci := 1) (n := 3) cx (kX1_bestOwner l ad M tb x4 _ e9) gX1_breath_X1_bestOwner rfl ⟨by decide, by decide⟩ rfl rfl ⟨rfl, rfl⟩ (by decide +kernel) rfl ⟨by decide, by decide⟩ rfl (Nat.le_of_ble_eq_true rfl) dX1_breath_29 ?_
          refine ax_istore (lv' := [(5, iV (t8)), (0, .ref (ad 27)), (1, .ref (ad 23)), (2, .ref (ad tb)), (3, iV (x3)), (4, iV (x4))]) cx dX1_breath_32 (by decide) rfl ?_
          refine ax_iload cx 0 dX1_breath_34 rfl ?_
          refine ax_aload_n cx 3 dX1_breath_36 rfl rfl ?_
          refine ax_iload cx 5 dX1_breath_37 rfl ?_
          obtain ⟨g10, h⟩ := gd_some h
          refine ax_iald (n := lenC tb) cx (Nat.lt_trans g3.1 (by decide)) g3.2 rfl g10 dX1_breath_39 ?_
          obtain ⟨g11, h⟩ := gd_some h
          refine ax_icmp_eq cx 52 dX1_breath_40 (by decide) g11 ⟨by have := g5.1; omega, by have := g5.2; omega⟩ (fun c12 => ?_) (fun c12 => ?_)
          · rw [if_pos c12] at h
            refine ax_lv cx [1, 2, 3, 4, 5] rfl ?_
            cases h
            exact J15
          · rw [if_neg c12] at h
            refine ax_aload_n cx 3 dX1_breath_43 rfl rfl ?_
            refine ax_iload cx 5 dX1_breath_44 rfl ?_
            refine ax_iload cx 0 dX1_breath_46 rfl ?_
            obtain ⟨g13, h⟩ := gd_some h
            refine ax_iast (n := lenC tb) cx (Nat.lt_trans g3.1 (by decide)) g3.2 rfl g13 dX1_breath_48 ?_
            refine ax_iinc (lv' := [(3, iV (x3 + 1)), (5, iV (t8)), (0, .ref (ad 27)), (1, .ref (ad 23)), (2, .ref (ad tb)), (4, iV (x4))]) cx 4 dX1_breath_49 rfl (by decide) rfl ?_
            refine ax_lv cx [2, 3, 4, 0, 5] rfl ?_
            cases h
            exact J15
        · rw [if_neg c7] at h
          cases h
          exact J15
  unfold fX1_breath at h
  refine ax_iconst cx dX1_breath_0 ?_
  refine ax_istore_n (lv' := [(3, iV (0)), (0, .ref (ad 27)), (1, .ref (ad 23)), (2, .ref (ad tb))]) cx dX1_breath_1 rfl (by decide) rfl ?_
  refine ax_iconst cx dX1_breath_2 ?_
  refine ax_istore (lv' := [(4, iV (0)), (3, iV (0)), (0, .ref (ad 27)), (1, .ref (ad 23)), (2, .ref (ad tb))]) cx dX1_breath_3 (by decide) rfl ?_
  obtain ⟨t18, e19, h⟩ := ob h
  refine ax_lv cx [2, 3, 4, 1, 0] rfl ?_
  have J20 : G t18.2 58 [(3, iV (t18.1))] [] := by
    refine ax_iload_n cx 0 dX1_breath_58 rfl rfl ?_
    cases h
    exact ax_iret cx dX1_breath_59 rfl ⟨rfl, rfl⟩
  exact L5 FU M tb 0 0 _ e19 J20
def fX1_letBreathe_L15 : Nat → Mem → Int → Int → Int → Int → Int → Option (Int × Mem)
  | 0, _, _, _, _, _, _ => none
  | n + 1, M, x2, x3, x4, x5, x6 =>
    gd (inR (x6)) (
    gd (inR (x2)) (
    if x2 ≤ x6 then (
      some (x4, M))
    else (
      gd (inR (x5)) (
      if x5 = 0 then (
        some (x4, M))
      else (
        Option.bind (fX1_breath M 16) (fun t8 =>
        gd (inR (t8.1)) (
        Option.bind (if t8.1 ≤ 0 then (
          some (0))
        else (
          some (1))) (fun t12 =>
        fX1_letBreathe_L15 n t8.2 x2 x3 (x4 + t8.1) t12 (x6 + 1)))))))))
def fX1_letBreathe (M : Mem) (x2 : Int) : Option (Int × Mem) :=
    Option.bind (fX1_energyNow M) (fun t1 =>
    Option.bind (fX1_letBreathe_L15 FU M x2 t1 0 1 0) (fun t16 =>
    Option.bind (fX1_energyNow t16.2) (fun t19 =>
    some (t16.1, (wr t16.2 105 0 ((t16.2 105 0) + (t1 - t19)))))))
abbrev rmX1_letBreathe : Room := { frames := 4, cells := 0, slots := 0, locals := 104 }
theorem hl_X1_letBreathe_9 : Cond.fieldLink RX1 9 "PlateauBench$Foam" "owners" "[I" ∈ wsX1_letBreathe := by decide +kernel
theorem hl_X1_letBreathe_32 : Cond.fieldLink RX1 32 "PlateauBench$Foam" "lost" "I" ∈ wsX1_letBreathe := by decide +kernel
theorem hi_X1_letBreathe_X1 : ∀ x ∈ u_ws RX1 TX1 7, x ∈ wsX1_letBreathe := by decide +kernel
set_option maxRecDepth 100000 in
set_option maxHeartbeats 4000000 in
theorem kX1_letBreathe (l : Launch) (ad : Nat → Nat) (M : Mem) (x2 : Int) (T : Int × Mem) (h : fX1_letBreathe M x2 = some T) : MX l yX1_letBreathe wsX1_letBreathe rmX1_letBreathe wC ad [.ref (ad 27), .ref (ad 23), iV (x2)] M (some (iV (T.1))) T.2 := by
  refine MX.of (cc := cX1_letBreathe) (nL := 8) (rt := (some .int)) (own := RX1) (by decide +kernel) rfl rfl (Nat.le_of_ble_eq_true rfl) wC_ok (fun G cx => ?_)
  show G M 0 [(0, .ref (ad 27)), (1, .ref (ad 23)), (2, iV (x2))] []
  have L15 : ∀ (n : Nat) (M : Mem) (x2 : Int) (x3 : Int) (x4 : Int) (x5 : Int) (x6 : Int) (T15 : Int × Mem), fX1_letBreathe_L15 n M x2 x3 x4 x5 x6 = some T15 → (G T15.2 62 [(0, .ref (ad 27)), (1, .ref (ad 23)), (3, iV (x3)), (4, iV (T15.1))] []) → G M 15 [(0, .ref (ad 27)), (1, .ref (ad 23)), (2, iV (x2)), (3, iV (x3)), (4, iV (x4)), (5, iV (x5)), (6, iV (x6))] [] := by
    intro n
    induction n with
    | zero =>
      intro M x2 x3 x4 x5 x6 T15 h
      exact absurd h (by simp [fX1_letBreathe_L15])
    | succ n ih =>
      intro M x2 x3 x4 x5 x6 T15 h hJ
      rw [fX1_letBreathe_L15] at h
      refine ax_iload cx 6 dX1_letBreathe_15 rfl ?_
      refine ax_iload_n cx 2 dX1_letBreathe_17 rfl rfl ?_
      obtain ⟨g3, h⟩ := gd_some h
      obtain ⟨g4, h⟩ := gd_some h
      refine ax_icmp_ge cx 62 dX1_letBreathe_18 (by decide) g3 g4 (fun c5 => ?_) (fun c5 => ?_)
      · rw [if_pos c5] at h
        refine ax_lv cx [0, 1, 3, 4] rfl ?_
        cases h
        exact hJ
      · rw [if_neg c5] at h
        refine ax_iload cx 5 dX1_letBreathe_21 rfl ?_
        obtain ⟨g6, h⟩ := gd_some h
        refine ax_if_eq cx 62 dX1_letBreathe_23 (by decide) g6 (fun c7 => ?_) (fun c7 => ?_)
        · rw [if_pos c7] at h
          refine ax_lv cx [0, 1, 3, 4] rfl ?_
          cases h
          exact hJ
        · rw [if_neg c7] at h
          refine ax_aload_n cx 0 dX1_letBreathe_26 rfl rfl ?_
          refine ax_aload_n cx 1 dX1_letBreathe_27 rfl rfl ?_
          refine ax_aload_n cx 0 dX1_letBreathe_28 rfl rfl ?_
          refine ax_getf (q := 27) (ci := 1) (k := 0) (v := .ref (ad 16)) cx ⟨by decide, by decide⟩ rfl rfl hi_X1_letBreathe_X1 (by decide) hl_X1_letBreathe_9 rfl rfl dX1_letBreathe_29 ?_
          obtain ⟨t8, e9, h⟩ := ob h
          refine ax_callV (As := [.ref (ad 23), .ref (ad 16)]) (q := 27) (ci := 1) (n := 2) cx (kX1_breath l ad M 16 _ e9) gX1_letBreathe_X1_breath rfl ⟨by decide, by decide⟩ rfl rfl ⟨rfl, rfl⟩ (by decide +kernel) rfl ⟨by decide, by decide⟩ rfl (Nat.le_of_ble_eq_true rfl) dX1_letBreathe_32 ?_
          refine ax_istore (lv' := [(7, iV (t8.1)), (0, .ref (ad 27)), (1, .ref (ad 23)), (2, iV (x2)), (3, iV (x3)), (4, iV (x4)), (5, iV (x5)), (6, iV (x6))]) cx dX1_letBreathe_35 (by decide) rfl ?_
          refine ax_iload cx 5 dX1_letBreathe_37 rfl ?_
          refine ax_iload cx 0 dX1_letBreathe_39 rfl ?_
          refine ax_iadd cx dX1_letBreathe_41 ?_
          refine ax_istore (lv' := [(4, iV (x4 + t8.1)), (7, iV (t8.1)), (0, .ref (ad 27)), (1, .ref (ad 23)), (2, iV (x2)), (3, iV (x3)), (5, iV (x5)), (6, iV (x6))]) cx dX1_letBreathe_42 (by decide) rfl ?_
          refine ax_iload cx 1 dX1_letBreathe_44 rfl ?_
          obtain ⟨g10, h⟩ := gd_some h
          obtain ⟨t12, e14, h⟩ := ob h
          have J13 : G t8.2 54 [(0, .ref (ad 27)), (1, .ref (ad 23)), (2, iV (x2)), (3, iV (x3)), (4, iV (x4 + t8.1)), (6, iV (x6))] [iV (t12)] := by
            refine ax_istore (lv' := [(5, iV (t12)), (0, .ref (ad 27)), (1, .ref (ad 23)), (2, iV (x2)), (3, iV (x3)), (4, iV (x4 + t8.1)), (6, iV (x6))]) cx dX1_letBreathe_54 (by decide) rfl ?_
            refine ax_iinc (lv' := [(6, iV (x6 + 1)), (5, iV (t12)), (0, .ref (ad 27)), (1, .ref (ad 23)), (2, iV (x2)), (3, iV (x3)), (4, iV (x4 + t8.1))]) cx 6 dX1_letBreathe_56 rfl (by decide) rfl ?_
            refine ax_goto cx 15 dX1_letBreathe_59 (by decide) ?_
            refine ax_lv cx [2, 3, 4, 5, 6, 1, 0] rfl ?_
            exact ih _ _ _ _ _ _ _ h hJ
          clear h
          have h := e14
          clear e14
          refine ax_if_le cx 53 dX1_letBreathe_46 (by decide) g10 (fun c11 => ?_) (fun c11 => ?_)
          · rw [if_pos c11] at h
            refine ax_iconst cx dX1_letBreathe_53 ?_
            refine ax_lv cx [2, 3, 4, 5, 0, 7] rfl ?_
            cases h
            exact J13
          · rw [if_neg c11] at h
            refine ax_iconst cx dX1_letBreathe_49 ?_
            refine ax_goto cx 54 dX1_letBreathe_50 (by decide) ?_
            refine ax_lv cx [2, 3, 4, 5, 0, 7] rfl ?_
            cases h
            exact J13
  unfold fX1_letBreathe at h
  refine ax_aload_n cx 0 dX1_letBreathe_0 rfl rfl ?_
  refine ax_aload_n cx 1 dX1_letBreathe_1 rfl rfl ?_
  obtain ⟨t1, e2, h⟩ := ob h
  refine ax_callV (As := [.ref (ad 23)]) (q := 27) (ci := 1) (n := 1) cx (kX1_energyNow l ad M  _ e2) gX1_letBreathe_X1_energyNow rfl ⟨by decide, by decide⟩ rfl rfl ⟨rfl, rfl⟩ (by decide +kernel) rfl ⟨by decide, by decide⟩ rfl (Nat.le_of_ble_eq_true rfl) dX1_letBreathe_2 ?_
  refine ax_istore_n (lv' := [(3, iV (t1)), (0, .ref (ad 27)), (1, .ref (ad 23)), (2, iV (x2))]) cx dX1_letBreathe_5 rfl (by decide) rfl ?_
  refine ax_iconst cx dX1_letBreathe_6 ?_
  refine ax_istore (lv' := [(4, iV (0)), (3, iV (t1)), (0, .ref (ad 27)), (1, .ref (ad 23)), (2, iV (x2))]) cx dX1_letBreathe_7 (by decide) rfl ?_
  refine ax_iconst cx dX1_letBreathe_9 ?_
  refine ax_istore (lv' := [(5, iV (1)), (4, iV (0)), (3, iV (t1)), (0, .ref (ad 27)), (1, .ref (ad 23)), (2, iV (x2))]) cx dX1_letBreathe_10 (by decide) rfl ?_
  refine ax_iconst cx dX1_letBreathe_12 ?_
  refine ax_istore (lv' := [(6, iV (0)), (5, iV (1)), (4, iV (0)), (3, iV (t1)), (0, .ref (ad 27)), (1, .ref (ad 23)), (2, iV (x2))]) cx dX1_letBreathe_13 (by decide) rfl ?_
  obtain ⟨t16, e17, h⟩ := ob h
  refine ax_lv cx [4, 5, 6, 3, 2, 1, 0] rfl ?_
  have J18 : G t16.2 62 [(0, .ref (ad 27)), (1, .ref (ad 23)), (3, iV (t1)), (4, iV (t16.1))] [] := by
    refine ax_aload_n cx 0 dX1_letBreathe_62 rfl rfl ?_
    refine ax_dup cx dX1_letBreathe_63 rfl ?_
    refine ax_getf (q := 27) (ci := 1) (k := 6) (v := iV (t16.2 105 0)) cx ⟨by decide, by decide⟩ rfl rfl hi_X1_letBreathe_X1 (by decide) hl_X1_letBreathe_32 rfl rfl dX1_letBreathe_64 ?_
    refine ax_iload_n cx 2 dX1_letBreathe_67 rfl rfl ?_
    refine ax_aload_n cx 0 dX1_letBreathe_68 rfl rfl ?_
    refine ax_aload_n cx 1 dX1_letBreathe_69 rfl rfl ?_
    obtain ⟨t19, e20, h⟩ := ob h
    refine ax_callV (As := [.ref (ad 23)]) (q := 27) (ci := 1) (n := 1) cx (kX1_energyNow l ad t16.2  _ e20) gX1_letBreathe_X1_energyNow rfl ⟨by decide, by decide⟩ rfl rfl ⟨rfl, rfl⟩ (by decide +kernel) rfl ⟨by decide, by decide⟩ rfl (Nat.le_of_ble_eq_true rfl) dX1_letBreathe_70 ?_
    refine ax_isub cx dX1_letBreathe_73 ?_
    refine ax_iadd cx dX1_letBreathe_74 ?_
    refine ax_putf (q := 27) (ci := 1) (k := 6) (f := 105) (ty := .int) cx ⟨by decide, by decide⟩ rfl rfl hi_X1_letBreathe_X1 tyX1 tyX1_ok nmX1 (by decide) hl_X1_letBreathe_32 rfl (by decide +kernel) (by decide +kernel) rfl rfl (Nat.le_of_ble_eq_true rfl) (by decide) rfl (putC_105 ad _ _) dX1_letBreathe_75 ?_
    refine ax_iload cx 3 dX1_letBreathe_78 rfl ?_
    cases h
    exact ax_iret cx dX1_letBreathe_80 rfl ⟨rfl, rfl⟩
  exact L15 FU M x2 t1 0 1 0 _ e17 J18
def fX1_breathsToRest_L17 : Nat → Mem → Int → Option (Int × Mem)
  | 0, _, _ => none
  | n + 1, M, x2 =>
    gd (inR (x2)) (
    if 4000 ≤ x2 then (
      some (x2, M))
    else (
      Option.bind (fX1_breath M 17) (fun t3 =>
      gd (inR (t3.1)) (
      if t3.1 ≤ 0 then (
        some (x2, t3.2))
      else (
        fX1_breathsToRest_L17 n t3.2 (x2 + 1))))))
def fX1_breathsToRest (M : Mem)  : Option (Int × Mem) :=
    Option.bind (fX1_breathsToRest_L17 FU (cpA M 16 17 36) 0) (fun t8 =>
    some (t8.1, t8.2))
abbrev rmX1_breathsToRest : Room := { frames := 4, cells := 0, slots := 0, locals := 104 }
theorem hl_X1_breathsToRest_9 : Cond.fieldLink RX1 9 "PlateauBench$Foam" "owners" "[I" ∈ wsX1_breathsToRest := by decide +kernel
theorem hl_X1_breathsToRest_15 : Cond.fieldLink RX1 15 "PlateauBench$Foam" "ahead" "[I" ∈ wsX1_breathsToRest := by decide +kernel
theorem hw_X1_breathsToRest_l62 : Cond.methodLink RX1 62 arraycopyName ∈ wsX1_breathsToRest := by decide +kernel
theorem hw_X1_breathsToRest_cp1 : Cond.native arraycopyName ∈ wsX1_breathsToRest := by decide +kernel
theorem hw_X1_breathsToRest_cp2 : Cond.static arraycopyName ∈ wsX1_breathsToRest := by decide +kernel
theorem hw_X1_breathsToRest_cp3 : Cond.initialized "java/lang/System" ∈ wsX1_breathsToRest := by decide +kernel
theorem hi_X1_breathsToRest_X1 : ∀ x ∈ u_ws RX1 TX1 7, x ∈ wsX1_breathsToRest := by decide +kernel
set_option maxRecDepth 100000 in
set_option maxHeartbeats 4000000 in
theorem kX1_breathsToRest (l : Launch) (ad : Nat → Nat) (M : Mem)  (T : Int × Mem) (h : fX1_breathsToRest M  = some T) : MX l yX1_breathsToRest wsX1_breathsToRest rmX1_breathsToRest wC ad [.ref (ad 27), .ref (ad 23)] M (some (iV (T.1))) T.2 := by
  refine MX.of (cc := cX1_breathsToRest) (nL := 3) (rt := (some .int)) (own := RX1) (by decide +kernel) rfl rfl (Nat.le_of_ble_eq_true rfl) wC_ok (fun G cx => ?_)
  show G M 0 [(0, .ref (ad 27)), (1, .ref (ad 23))] []
  have L17 : ∀ (n : Nat) (M : Mem) (x2 : Int) (T7 : Int × Mem), fX1_breathsToRest_L17 n M x2 = some T7 → (G T7.2 42 [(2, iV (T7.1))] []) → G M 17 [(0, .ref (ad 27)), (1, .ref (ad 23)), (2, iV (x2))] [] := by
    intro n
    induction n with
    | zero =>
      intro M x2 T7 h
      exact absurd h (by simp [fX1_breathsToRest_L17])
    | succ n ih =>
      intro M x2 T7 h hJ
      rw [fX1_breathsToRest_L17] at h
      refine ax_iload_n cx 2 dX1_breathsToRest_17 rfl rfl ?_
      refine ax_sipush (z := 4000) cx dX1_breathsToRest_18 (by decide) ?_
      obtain ⟨g1, h⟩ := gd_some h
      refine ax_icmp_ge cx 42 dX1_breathsToRest_21 (by decide) g1 ⟨by decide, by decide⟩ (fun c2 => ?_) (fun c2 => ?_)
      · rw [if_pos c2] at h
        refine ax_lv cx [2] rfl ?_
        cases h
        exact hJ
      · rw [if_neg c2] at h
        refine ax_aload_n cx 0 dX1_breathsToRest_24 rfl rfl ?_
        refine ax_aload_n cx 1 dX1_breathsToRest_25 rfl rfl ?_
        refine ax_aload_n cx 0 dX1_breathsToRest_26 rfl rfl ?_
        refine ax_getf (q := 27) (ci := 1) (k := 1) (v := .ref (ad 17)) cx ⟨by decide, by decide⟩ rfl rfl hi_X1_breathsToRest_X1 (by decide) hl_X1_breathsToRest_15 rfl rfl dX1_breathsToRest_27 ?_
        obtain ⟨t3, e4, h⟩ := ob h
        refine ax_callV (As := [.ref (ad 23), .ref (ad 17)]) (q := 27) (ci := 1) (n := 2) cx (kX1_breath l ad M 17 _ e4) gX1_breathsToRest_X1_breath rfl ⟨by decide, by decide⟩ rfl rfl ⟨rfl, rfl⟩ (by decide +kernel) rfl ⟨by decide, by decide⟩ rfl (Nat.le_of_ble_eq_true rfl) dX1_breathsToRest_30 ?_
        obtain ⟨g5, h⟩ := gd_some h
        refine ax_if_le cx 42 dX1_breathsToRest_33 (by decide) g5 (fun c6 => ?_) (fun c6 => ?_)
        · rw [if_pos c6] at h
          refine ax_lv cx [2] rfl ?_
          cases h
          exact hJ
        · rw [if_neg c6] at h
          refine ax_iinc (lv' := [(2, iV (x2 + 1)), (0, .ref (ad 27)), (1, .ref (ad 23))]) cx 2 dX1_breathsToRest_36 rfl (by decide) rfl ?_
          refine ax_goto cx 17 dX1_breathsToRest_39 (by decide) ?_
          refine ax_lv cx [1, 2, 0] rfl ?_
          exact ih _ _ _ h hJ
  unfold fX1_breathsToRest at h
  refine ax_aload_n cx 0 dX1_breathsToRest_0 rfl rfl ?_
  refine ax_getf (q := 27) (ci := 1) (k := 0) (v := .ref (ad 16)) cx ⟨by decide, by decide⟩ rfl rfl hi_X1_breathsToRest_X1 (by decide) hl_X1_breathsToRest_9 rfl rfl dX1_breathsToRest_1 ?_
  refine ax_iconst cx dX1_breathsToRest_4 ?_
  refine ax_aload_n cx 0 dX1_breathsToRest_5 rfl rfl ?_
  refine ax_getf (q := 27) (ci := 1) (k := 1) (v := .ref (ad 17)) cx ⟨by decide, by decide⟩ rfl rfl hi_X1_breathsToRest_X1 (by decide) hl_X1_breathsToRest_15 rfl rfl dX1_breathsToRest_6 ?_
  refine ax_iconst cx dX1_breathsToRest_9 ?_
  refine ax_bipush (z := 36) cx dX1_breathsToRest_10 (by decide) ?_
  refine ax_copy (a := 16) (b := 17) (n := 36) cx (by decide) (by decide) rfl rfl rfl rfl hw_X1_breathsToRest_l62 hw_X1_breathsToRest_cp1 hw_X1_breathsToRest_cp2 hw_X1_breathsToRest_cp3 (by decide) (Nat.le_of_ble_eq_true (by decide +kernel)) dX1_breathsToRest_12 ?_
  refine ax_iconst cx dX1_breathsToRest_15 ?_
  refine ax_istore_n (lv' := [(2, iV (0)), (0, .ref (ad 27)), (1, .ref (ad 23))]) cx dX1_breathsToRest_16 rfl (by decide) rfl ?_
  obtain ⟨t8, e9, h⟩ := ob h
  refine ax_lv cx [1, 2, 0] rfl ?_
  have J10 : G t8.2 42 [(2, iV (t8.1))] [] := by
    refine ax_iload_n cx 0 dX1_breathsToRest_42 rfl rfl ?_
    cases h
    exact ax_iret cx dX1_breathsToRest_43 rfl ⟨rfl, rfl⟩
  exact L17 FU (cpA M 16 17 36) 0 _ e9 J10
def fX1_energyAtRest (M : Mem)  : Option (Int × Mem) :=
    Option.bind (fX1_breathsToRest M) (fun t1 =>
    Option.bind (fX1_energyOf t1.2 17) (fun t3 =>
    some (t3, t1.2)))
abbrev rmX1_energyAtRest : Room := { frames := 5, cells := 0, slots := 0, locals := 126 }
theorem hl_X1_energyAtRest_15 : Cond.fieldLink RX1 15 "PlateauBench$Foam" "ahead" "[I" ∈ wsX1_energyAtRest := by decide +kernel
theorem hi_X1_energyAtRest_X1 : ∀ x ∈ u_ws RX1 TX1 7, x ∈ wsX1_energyAtRest := by decide +kernel
set_option maxRecDepth 100000 in
set_option maxHeartbeats 4000000 in
theorem kX1_energyAtRest (l : Launch) (ad : Nat → Nat) (M : Mem)  (T : Int × Mem) (h : fX1_energyAtRest M  = some T) : MX l yX1_energyAtRest wsX1_energyAtRest rmX1_energyAtRest wC ad [.ref (ad 27), .ref (ad 23)] M (some (iV (T.1))) T.2 := by
  refine MX.of (cc := cX1_energyAtRest) (nL := 2) (rt := (some .int)) (own := RX1) (by decide +kernel) rfl rfl (Nat.le_of_ble_eq_true rfl) wC_ok (fun G cx => ?_)
  show G M 0 [(0, .ref (ad 27)), (1, .ref (ad 23))] []
  unfold fX1_energyAtRest at h
  refine ax_aload_n cx 0 dX1_energyAtRest_0 rfl rfl ?_
  refine ax_aload_n cx 1 dX1_energyAtRest_1 rfl rfl ?_
  obtain ⟨t1, e2, h⟩ := ob h
  refine ax_callV (As := [.ref (ad 23)]) (q := 27) (ci := 1) (n := 1) cx (kX1_breathsToRest l ad M  _ e2) gX1_energyAtRest_X1_breathsToRest rfl ⟨by decide, by decide⟩ rfl rfl ⟨rfl, rfl⟩ (by decide +kernel) rfl ⟨by decide, by decide⟩ rfl (Nat.le_of_ble_eq_true rfl) dX1_energyAtRest_2 ?_
  refine ax_pop cx dX1_energyAtRest_5 rfl ?_
  refine ax_aload_n cx 1 dX1_energyAtRest_6 rfl rfl ?_
  refine ax_aload_n cx 0 dX1_energyAtRest_7 rfl rfl ?_
  refine ax_getf (q := 27) (ci := 1) (k := 1) (v := .ref (ad 17)) cx ⟨by decide, by decide⟩ rfl rfl hi_X1_energyAtRest_X1 (by decide) hl_X1_energyAtRest_15 rfl rfl dX1_energyAtRest_8 ?_
  obtain ⟨t3, e4, h⟩ := ob h
  refine ax_callS (As := [.ref (ad 23), .ref (ad 17)]) (n := 2) cx (kX1_energyOf l ad t1.2 17 _ e4) gX1_energyAtRest_X1_energyOf rfl ⟨rfl, rfl⟩ (by decide +kernel) rfl ⟨by decide, by decide⟩ rfl (Nat.le_of_ble_eq_true rfl) dX1_energyAtRest_11 ?_
  cases h
  exact ax_iret cx dX1_energyAtRest_14 rfl ⟨rfl, rfl⟩
def fX1_size_L4 : Nat → Mem → Int → Int → Int → Option (Int)
  | 0, _, _, _, _ => none
  | n + 1, M, x1, x2, x3 =>
    gd (inR (x3)) (
    if 36 ≤ x3 then (
      some (x2))
    else (
      gd (inB (x3) 36) (
      gd (inR (M 16 x3.toNat)) (
      gd (inR (x1)) (
      Option.bind (if M 16 x3.toNat = x1 then (
        some (x2 + 1))
      else (
        some (x2))) (fun t7 =>
      fX1_size_L4 n M x1 t7 (x3 + 1)))))))
def fX1_size (M : Mem) (x1 : Int) : Option (Int) :=
    Option.bind (fX1_size_L4 FU M x1 0 0) (fun t11 =>
    some (t11))
abbrev rmX1_size : Room := { frames := 0, cells := 0, slots := 0, locals := 0 }
theorem hl_X1_size_9 : Cond.fieldLink RX1 9 "PlateauBench$Foam" "owners" "[I" ∈ wsX1_size := by decide +kernel
theorem hi_X1_size_X1 : ∀ x ∈ u_ws RX1 TX1 7, x ∈ wsX1_size := by decide +kernel
set_option maxRecDepth 100000 in
set_option maxHeartbeats 4000000 in
theorem kX1_size (l : Launch) (ad : Nat → Nat) (M : Mem) (x1 : Int) (T : Int) (h : fX1_size M x1 = some T) : MX l yX1_size wsX1_size rmX1_size wC ad [.ref (ad 27), iV (x1)] M (some (iV (T))) M := by
  refine MX.of (cc := cX1_size) (nL := 4) (rt := (some .int)) (own := RX1) (by decide +kernel) rfl rfl (Nat.le_of_ble_eq_true rfl) wC_ok (fun G cx => ?_)
  show G M 0 [(0, .ref (ad 27)), (1, iV (x1))] []
  have L4 : ∀ (n : Nat) (x1 : Int) (x2 : Int) (x3 : Int) (T10 : Int), fX1_size_L4 n M x1 x2 x3 = some T10 → (G M 29 [(2, iV (T10))] []) → G M 4 [(0, .ref (ad 27)), (1, iV (x1)), (2, iV (x2)), (3, iV (x3))] [] := by
    intro n
    induction n with
    | zero =>
      intro x1 x2 x3 T10 h
      exact absurd h (by simp [fX1_size_L4])
    | succ n ih =>
      intro x1 x2 x3 T10 h hJ
      rw [fX1_size_L4] at h
      refine ax_iload_n cx 3 dX1_size_4 rfl rfl ?_
      refine ax_bipush (z := 36) cx dX1_size_5 (by decide) ?_
      obtain ⟨g1, h⟩ := gd_some h
      refine ax_icmp_ge cx 29 dX1_size_7 (by decide) g1 ⟨by decide, by decide⟩ (fun c2 => ?_) (fun c2 => ?_)
      · rw [if_pos c2] at h
        refine ax_lv cx [2] rfl ?_
        cases h
        exact hJ
      · rw [if_neg c2] at h
        refine ax_aload_n cx 0 dX1_size_10 rfl rfl ?_
        refine ax_getf (q := 27) (ci := 1) (k := 0) (v := .ref (ad 16)) cx ⟨by decide, by decide⟩ rfl rfl hi_X1_size_X1 (by decide) hl_X1_size_9 rfl rfl dX1_size_11 ?_
        refine ax_iload_n cx 3 dX1_size_14 rfl rfl ?_
        obtain ⟨g3, h⟩ := gd_some h
        refine ax_iald (n := 36) cx (by decide) rfl rfl g3 dX1_size_15 ?_
        refine ax_iload_n cx 1 dX1_size_16 rfl rfl ?_
        obtain ⟨g4, h⟩ := gd_some h
        obtain ⟨g5, h⟩ := gd_some h
        obtain ⟨t7, e9, h⟩ := ob h
        have J8 : G M 23 [(0, .ref (ad 27)), (1, iV (x1)), (2, iV (t7)), (3, iV (x3))] [] := by
          refine ax_iinc (lv' := [(3, iV (x3 + 1)), (0, .ref (ad 27)), (1, iV (x1)), (2, iV (t7))]) cx 3 dX1_size_23 rfl (by decide) rfl ?_
          refine ax_goto cx 4 dX1_size_26 (by decide) ?_
          refine ax_lv cx [1, 2, 3, 0] rfl ?_
          exact ih _ _ _ _ h hJ
        clear h
        have h := e9
        clear e9
        refine ax_icmp_ne cx 23 dX1_size_17 (by decide) g4 g5 (fun c6 => ?_) (fun c6 => ?_)
        · rw [if_pos c6] at h
          refine ax_iinc (lv' := [(2, iV (x2 + 1)), (0, .ref (ad 27)), (1, iV (x1)), (3, iV (x3))]) cx 2 dX1_size_20 rfl (by decide) rfl ?_
          refine ax_lv cx [1, 2, 0, 3] rfl ?_
          cases h
          exact J8
        · rw [if_neg c6] at h
          cases h
          exact J8
  unfold fX1_size at h
  refine ax_iconst cx dX1_size_0 ?_
  refine ax_istore_n (lv' := [(2, iV (0)), (0, .ref (ad 27)), (1, iV (x1))]) cx dX1_size_1 rfl (by decide) rfl ?_
  refine ax_iconst cx dX1_size_2 ?_
  refine ax_istore_n (lv' := [(3, iV (0)), (2, iV (0)), (0, .ref (ad 27)), (1, iV (x1))]) cx dX1_size_3 rfl (by decide) rfl ?_
  obtain ⟨t11, e12, h⟩ := ob h
  refine ax_lv cx [2, 3, 1, 0] rfl ?_
  have J13 : G M 29 [(2, iV (t11))] [] := by
    refine ax_iload_n cx 0 dX1_size_29 rfl rfl ?_
    cases h
    exact ax_iret cx dX1_size_30 rfl ⟨rfl, rfl⟩
  exact L4 FU x1 0 0 _ e12 J13
def fX1_seePiece_L44 : Nat → Mem → Int → Int → Int → Int → Int → Option (Int × Mem)
  | 0, _, _, _, _, _, _ => none
  | n + 1, M, x2, x3, x4, x5, x6 =>
    gd (inR (x6)) (
    if 4 ≤ x6 then (
      some (x3, M))
    else (
      Option.bind (fX2_beside M x5 x6) (fun t9 =>
      gd (inR (t9)) (
      Option.bind (if t9 = (-1) then (
        some (x3, M))
      else (
        Option.bind (fX2_otherEnd M t9 x5) (fun t13 =>
        gd (inB (t13) 36) (
        gd (inB (x2) 36) (
        gd (inR (M 16 t13.toNat)) (
        gd (inR (M 16 x2.toNat)) (
        if M 16 t13.toNat = M 16 x2.toNat then (
          gd (inB (t13) 36) (
          gd (inR (M 19 t13.toNat)) (
          if M 19 t13.toNat = 0 then (
            gd (inR (x3)) (
            if 36 ≤ x3 then (
              some (x3, M))
            else (
              gd (inB (t13) 36) (
              gd (inB (x3) 36) (
              some (x3 + 1, (wr (wr M 19 t13.toNat 1) 20 x3.toNat t13)))))))
          else (
            some (x3, M)))))
        else (
          some (x3, M))))))))) (fun t27 =>
      fX1_seePiece_L44 n t27.2 x2 t27.1 x4 x5 (x6 + 1))))))
def fX1_seePiece_L19 : Nat → Mem → Int → Int → Int → Option (Mem)
  | 0, _, _, _, _ => none
  | n + 1, M, x2, x3, x4 =>
    gd (inR (x4)) (
    if 36 ≤ x4 then (
      some (M))
    else (
      gd (inR (x3)) (
      if x3 ≤ x4 then (
        some (M))
      else (
        gd (inB (x4) 36) (
        Option.bind (fX1_seePiece_L44 FU M x2 x3 x4 (M 20 x4.toNat) 0) (fun t31 =>
        fX1_seePiece_L19 n t31.2 x2 t31.1 (x4 + 1)))))))
def fX1_seePiece (M : Mem) (x2 : Int) : Option (Mem) :=
    gd (inB (x2) 36) (
    Option.bind (fX1_seePiece_L19 FU (wr (wr M 19 x2.toNat 1) 20 (0 : Int).toNat x2) x2 1 0) (fun t35 =>
    some (t35)))
abbrev rmX1_seePiece : Room := { frames := 1, cells := 0, slots := 0, locals := 22 }
theorem hl_X1_seePiece_22 : Cond.fieldLink RX1 22 "PlateauBench$Foam" "seen" "[Z" ∈ wsX1_seePiece := by decide +kernel
theorem hl_X1_seePiece_25 : Cond.fieldLink RX1 25 "PlateauBench$Foam" "queue" "[I" ∈ wsX1_seePiece := by decide +kernel
theorem hl_X1_seePiece_9 : Cond.fieldLink RX1 9 "PlateauBench$Foam" "owners" "[I" ∈ wsX1_seePiece := by decide +kernel
theorem hi_X1_seePiece_X1 : ∀ x ∈ u_ws RX1 TX1 7, x ∈ wsX1_seePiece := by decide +kernel
set_option maxRecDepth 100000 in
set_option maxHeartbeats 4000000 in
theorem kX1_seePiece (l : Launch) (ad : Nat → Nat) (M : Mem) (x2 : Int) (T : Mem) (h : fX1_seePiece M x2 = some T) : MX l yX1_seePiece wsX1_seePiece rmX1_seePiece wC ad [.ref (ad 27), .ref (ad 23), iV (x2)] M none T := by
  refine MX.of (cc := cX1_seePiece) (nL := 9) (rt := none) (own := RX1) (by decide +kernel) rfl rfl (Nat.le_of_ble_eq_true rfl) wC_ok (fun G cx => ?_)
  show G M 0 [(0, .ref (ad 27)), (1, .ref (ad 23)), (2, iV (x2))] []
  have L44 : ∀ (n : Nat) (M : Mem) (x2 : Int) (x3 : Int) (x4 : Int) (x5 : Int) (x6 : Int) (T30 : Int × Mem), fX1_seePiece_L44 n M x2 x3 x4 x5 x6 = some T30 → (G T30.2 133 [(0, .ref (ad 27)), (1, .ref (ad 23)), (2, iV (x2)), (3, iV (T30.1)), (4, iV (x4))] []) → G M 44 [(0, .ref (ad 27)), (1, .ref (ad 23)), (2, iV (x2)), (3, iV (x3)), (4, iV (x4)), (5, iV (x5)), (6, iV (x6))] [] := by
    intro n
    induction n with
    | zero =>
      intro M x2 x3 x4 x5 x6 T30 h
      exact absurd h (by simp [fX1_seePiece_L44])
    | succ n ih =>
      intro M x2 x3 x4 x5 x6 T30 h hJ
      rw [fX1_seePiece_L44] at h
      refine ax_iload cx 6 dX1_seePiece_44 rfl ?_
      refine ax_iconst cx dX1_seePiece_46 ?_
      obtain ⟨g7, h⟩ := gd_some h
      refine ax_icmp_ge cx 133 dX1_seePiece_47 (by decide) g7 ⟨by decide, by decide⟩ (fun c8 => ?_) (fun c8 => ?_)
      · rw [if_pos c8] at h
        refine ax_lv cx [0, 1, 2, 3, 4] rfl ?_
        cases h
        exact hJ
      · rw [if_neg c8] at h
        refine ax_aload_n cx 1 dX1_seePiece_50 rfl rfl ?_
        refine ax_iload cx 5 dX1_seePiece_51 rfl ?_
        refine ax_iload cx 6 dX1_seePiece_53 rfl ?_
        obtain ⟨t9, e10, h⟩ := ob h
        refine ax_callV (As := [iV (x5), iV (x6)]) (q := 23) (ci := 2) (n := 2) cx (kX2_beside l ad M x5 x6 _ e10) gX1_seePiece_X2_beside rfl ⟨by decide, by decide⟩ rfl rfl ⟨rfl, rfl⟩ (by decide +kernel) rfl ⟨by decide, by decide⟩ rfl (Nat.le_of_ble_eq_true rfl) dX1_seePiece_55 ?_
        refine ax_istore (lv' := [(7, iV (t9)), (0, .ref (ad 27)), (1, .ref (ad 23)), (2, iV (x2)), (3, iV (x3)), (4, iV (x4)), (5, iV (x5)), (6, iV (x6))]) cx dX1_seePiece_58 (by decide) rfl ?_
        refine ax_iload cx 0 dX1_seePiece_60 rfl ?_
        refine ax_iconst cx dX1_seePiece_62 ?_
        obtain ⟨g11, h⟩ := gd_some h
        obtain ⟨t27, e29, h⟩ := ob h
        have J28 : G t27.2 127 [(0, .ref (ad 27)), (1, .ref (ad 23)), (2, iV (x2)), (3, iV (t27.1)), (4, iV (x4)), (5, iV (x5)), (6, iV (x6))] [] := by
          refine ax_iinc (lv' := [(6, iV (x6 + 1)), (0, .ref (ad 27)), (1, .ref (ad 23)), (2, iV (x2)), (3, iV (t27.1)), (4, iV (x4)), (5, iV (x5))]) cx 6 dX1_seePiece_127 rfl (by decide) rfl ?_
          refine ax_goto cx 44 dX1_seePiece_130 (by decide) ?_
          refine ax_lv cx [1, 2, 3, 4, 5, 6, 0] rfl ?_
          exact ih _ _ _ _ _ _ _ h hJ
        clear h
        have h := e29
        clear e29
        refine ax_icmp_eq cx 127 dX1_seePiece_63 (by decide) g11 ⟨by decide, by decide⟩ (fun c12 => ?_) (fun c12 => ?_)
        · rw [if_pos c12] at h
          refine ax_lv cx [1, 2, 3, 4, 5, 6, 7] rfl ?_
          cases h
          exact J28
        · rw [if_neg c12] at h
          refine ax_aload_n cx 2 dX1_seePiece_66 rfl rfl ?_
          refine ax_iload cx 0 dX1_seePiece_67 rfl ?_
          refine ax_iload cx 6 dX1_seePiece_69 rfl ?_
          obtain ⟨t13, e14, h⟩ := ob h
          refine ax_callV (As := [iV (t9), iV (x5)]) (q := 23) (ci := 2) (n := 2) cx (kX2_otherEnd l ad M t9 x5 _ e14) gX1_seePiece_X2_otherEnd rfl ⟨by decide, by decide⟩ rfl rfl ⟨rfl, rfl⟩ (by decide +kernel) rfl ⟨by decide, by decide⟩ rfl (Nat.le_of_ble_eq_true rfl) dX1_seePiece_71 ?_
          refine ax_istore (lv' := [(8, iV (t13)), (7, iV (t9)), (0, .ref (ad 27)), (1, .ref (ad 23)), (2, iV (x2)), (3, iV (x3)), (4, iV (x4)), (5, iV (x5)), (6, iV (x6))]) cx dX1_seePiece_74 (by decide) rfl ?_
          refine ax_aload_n cx 2 dX1_seePiece_76 rfl rfl ?_
          refine ax_getf (q := 27) (ci := 1) (k := 0) (v := .ref (ad 16)) cx ⟨by decide, by decide⟩ rfl rfl hi_X1_seePiece_X1 (by decide) hl_X1_seePiece_9 rfl rfl dX1_seePiece_77 ?_
          refine ax_iload cx 0 dX1_seePiece_80 rfl ?_
          obtain ⟨g15, h⟩ := gd_some h
          refine ax_iald (n := 36) cx (by decide) rfl rfl g15 dX1_seePiece_82 ?_
          refine ax_aload_n cx 2 dX1_seePiece_83 rfl rfl ?_
          refine ax_getf (q := 27) (ci := 1) (k := 0) (v := .ref (ad 16)) cx ⟨by decide, by decide⟩ rfl rfl hi_X1_seePiece_X1 (by decide) hl_X1_seePiece_9 rfl rfl dX1_seePiece_84 ?_
          refine ax_iload_n cx 4 dX1_seePiece_87 rfl rfl ?_
          obtain ⟨g16, h⟩ := gd_some h
          refine ax_iald (n := 36) cx (by decide) rfl rfl g16 dX1_seePiece_88 ?_
          obtain ⟨g17, h⟩ := gd_some h
          obtain ⟨g18, h⟩ := gd_some h
          refine ax_icmp_ne cx 127 dX1_seePiece_89 (by decide) g17 g18 (fun c19 => ?_) (fun c19 => ?_)
          · rw [if_pos c19] at h
            refine ax_aload_n cx 2 dX1_seePiece_92 rfl rfl ?_
            refine ax_getf (q := 27) (ci := 1) (k := 3) (v := .ref (ad 19)) cx ⟨by decide, by decide⟩ rfl rfl hi_X1_seePiece_X1 (by decide) hl_X1_seePiece_22 rfl rfl dX1_seePiece_93 ?_
            refine ax_iload cx 0 dX1_seePiece_96 rfl ?_
            obtain ⟨g20, h⟩ := gd_some h
            refine ax_zald (n := 36) cx (by decide) rfl rfl g20 dX1_seePiece_98 ?_
            obtain ⟨g21, h⟩ := gd_some h
            refine ax_if_ne cx 127 dX1_seePiece_99 (by decide) g21 (fun c22 => ?_) (fun c22 => ?_)
            · rw [if_pos c22] at h
              refine ax_iload_n cx 5 dX1_seePiece_102 rfl rfl ?_
              refine ax_bipush (z := 36) cx dX1_seePiece_103 (by decide) ?_
              obtain ⟨g23, h⟩ := gd_some h
              refine ax_icmp_ge cx 127 dX1_seePiece_105 (by decide) g23 ⟨by decide, by decide⟩ (fun c24 => ?_) (fun c24 => ?_)
              · rw [if_pos c24] at h
                refine ax_lv cx [2, 3, 4, 5, 6, 7, 8] rfl ?_
                cases h
                exact J28
              · rw [if_neg c24] at h
                refine ax_aload_n cx 2 dX1_seePiece_108 rfl rfl ?_
                refine ax_getf (q := 27) (ci := 1) (k := 3) (v := .ref (ad 19)) cx ⟨by decide, by decide⟩ rfl rfl hi_X1_seePiece_X1 (by decide) hl_X1_seePiece_22 rfl rfl dX1_seePiece_109 ?_
                refine ax_iload cx 0 dX1_seePiece_112 rfl ?_
                refine ax_iconst cx dX1_seePiece_114 ?_
                obtain ⟨g25, h⟩ := gd_some h
                refine ax_zast (n := 36) cx (by decide) rfl rfl g25 (Or.inr rfl) dX1_seePiece_115 ?_
                refine ax_aload_n cx 2 dX1_seePiece_116 rfl rfl ?_
                refine ax_getf (q := 27) (ci := 1) (k := 4) (v := .ref (ad 20)) cx ⟨by decide, by decide⟩ rfl rfl hi_X1_seePiece_X1 (by decide) hl_X1_seePiece_25 rfl rfl dX1_seePiece_117 ?_
                refine ax_iload_n cx 5 dX1_seePiece_120 rfl rfl ?_
                refine ax_iload cx 0 dX1_seePiece_121 rfl ?_
                obtain ⟨g26, h⟩ := gd_some h
                refine ax_iast (n := 36) cx (by decide) rfl rfl g26 dX1_seePiece_123 ?_
                refine ax_iinc (lv' := [(3, iV (x3 + 1)), (8, iV (t13)), (7, iV (t9)), (0, .ref (ad 27)), (1, .ref (ad 23)), (2, iV (x2)), (4, iV (x4)), (5, iV (x5)), (6, iV (x6))]) cx 5 dX1_seePiece_124 rfl (by decide) rfl ?_
                refine ax_lv cx [3, 4, 5, 0, 6, 7, 8] rfl ?_
                cases h
                exact J28
            · rw [if_neg c22] at h
              refine ax_lv cx [2, 3, 4, 5, 6, 7, 8] rfl ?_
              cases h
              exact J28
          · rw [if_neg c19] at h
            refine ax_lv cx [2, 3, 4, 5, 6, 7, 8] rfl ?_
            cases h
            exact J28
  have L19 : ∀ (n : Nat) (M : Mem) (x2 : Int) (x3 : Int) (x4 : Int) (T34 : Mem), fX1_seePiece_L19 n M x2 x3 x4 = some T34 → (G T34 139 [] []) → G M 19 [(0, .ref (ad 27)), (1, .ref (ad 23)), (2, iV (x2)), (3, iV (x3)), (4, iV (x4))] [] := by
    intro n
    induction n with
    | zero =>
      intro M x2 x3 x4 T34 h
      exact absurd h (by simp [fX1_seePiece_L19])
    | succ n ih =>
      intro M x2 x3 x4 T34 h hJ
      rw [fX1_seePiece_L19] at h
      refine ax_iload cx 4 dX1_seePiece_19 rfl ?_
      refine ax_bipush (z := 36) cx dX1_seePiece_21 (by decide) ?_
      obtain ⟨g2, h⟩ := gd_some h
      refine ax_icmp_ge cx 139 dX1_seePiece_23 (by decide) g2 ⟨by decide, by decide⟩ (fun c3 => ?_) (fun c3 => ?_)
      · rw [if_pos c3] at h
        refine ax_lv cx [] rfl ?_
        cases h
        exact hJ
      · rw [if_neg c3] at h
        refine ax_iload cx 4 dX1_seePiece_26 rfl ?_
        refine ax_iload_n cx 3 dX1_seePiece_28 rfl rfl ?_
        obtain ⟨g4, h⟩ := gd_some h
        refine ax_icmp_ge cx 139 dX1_seePiece_29 (by decide) g2 g4 (fun c5 => ?_) (fun c5 => ?_)
        · rw [if_pos c5] at h
          refine ax_lv cx [] rfl ?_
          cases h
          exact hJ
        · rw [if_neg c5] at h
          refine ax_aload_n cx 0 dX1_seePiece_32 rfl rfl ?_
          refine ax_getf (q := 27) (ci := 1) (k := 4) (v := .ref (ad 20)) cx ⟨by decide, by decide⟩ rfl rfl hi_X1_seePiece_X1 (by decide) hl_X1_seePiece_25 rfl rfl dX1_seePiece_33 ?_
          refine ax_iload cx 4 dX1_seePiece_36 rfl ?_
          obtain ⟨g6, h⟩ := gd_some h
          refine ax_iald (n := 36) cx (by decide) rfl rfl g6 dX1_seePiece_38 ?_
          refine ax_istore (lv' := [(5, iV (M 20 x4.toNat)), (0, .ref (ad 27)), (1, .ref (ad 23)), (2, iV (x2)), (3, iV (x3)), (4, iV (x4))]) cx dX1_seePiece_39 (by decide) rfl ?_
          refine ax_iconst cx dX1_seePiece_41 ?_
          refine ax_istore (lv' := [(6, iV (0)), (5, iV (M 20 x4.toNat)), (0, .ref (ad 27)), (1, .ref (ad 23)), (2, iV (x2)), (3, iV (x3)), (4, iV (x4))]) cx dX1_seePiece_42 (by decide) rfl ?_
          obtain ⟨t31, e32, h⟩ := ob h
          refine ax_lv cx [2, 3, 4, 5, 6, 1, 0] rfl ?_
          have J33 : G t31.2 133 [(0, .ref (ad 27)), (1, .ref (ad 23)), (2, iV (x2)), (3, iV (t31.1)), (4, iV (x4))] [] := by
            refine ax_iinc (lv' := [(4, iV (x4 + 1)), (0, .ref (ad 27)), (1, .ref (ad 23)), (2, iV (x2)), (3, iV (t31.1))]) cx 4 dX1_seePiece_133 rfl (by decide) rfl ?_
            refine ax_goto cx 19 dX1_seePiece_136 (by decide) ?_
            refine ax_lv cx [1, 2, 3, 4, 0] rfl ?_
            exact ih _ _ _ _ _ h hJ
          exact L44 FU M x2 x3 x4 (M 20 x4.toNat) 0 _ e32 J33
  unfold fX1_seePiece at h
  refine ax_aload_n cx 0 dX1_seePiece_0 rfl rfl ?_
  refine ax_getf (q := 27) (ci := 1) (k := 3) (v := .ref (ad 19)) cx ⟨by decide, by decide⟩ rfl rfl hi_X1_seePiece_X1 (by decide) hl_X1_seePiece_22 rfl rfl dX1_seePiece_1 ?_
  refine ax_iload_n cx 2 dX1_seePiece_4 rfl rfl ?_
  refine ax_iconst cx dX1_seePiece_5 ?_
  obtain ⟨g1, h⟩ := gd_some h
  refine ax_zast (n := 36) cx (by decide) rfl rfl g1 (Or.inr rfl) dX1_seePiece_6 ?_
  refine ax_aload_n cx 0 dX1_seePiece_7 rfl rfl ?_
  refine ax_getf (q := 27) (ci := 1) (k := 4) (v := .ref (ad 20)) cx ⟨by decide, by decide⟩ rfl rfl hi_X1_seePiece_X1 (by decide) hl_X1_seePiece_25 rfl rfl dX1_seePiece_8 ?_
  refine ax_iconst cx dX1_seePiece_11 ?_
  refine ax_iload_n cx 2 dX1_seePiece_12 rfl rfl ?_
  refine ax_iast (n := 36) cx (by decide) rfl rfl ⟨by decide, by decide⟩ dX1_seePiece_13 ?_
  refine ax_iconst cx dX1_seePiece_14 ?_
  refine ax_istore_n (lv' := [(3, iV (1)), (0, .ref (ad 27)), (1, .ref (ad 23)), (2, iV (x2))]) cx dX1_seePiece_15 rfl (by decide) rfl ?_
  refine ax_iconst cx dX1_seePiece_16 ?_
  refine ax_istore (lv' := [(4, iV (0)), (3, iV (1)), (0, .ref (ad 27)), (1, .ref (ad 23)), (2, iV (x2))]) cx dX1_seePiece_17 (by decide) rfl ?_
  obtain ⟨t35, e36, h⟩ := ob h
  refine ax_lv cx [2, 3, 4, 1, 0] rfl ?_
  have J37 : G t35 139 [] [] := by
    cases h
    exact ax_vret cx dX1_seePiece_139 rfl ⟨rfl, rfl⟩
  exact L19 FU (wr (wr M 19 x2.toNat 1) 20 (0 : Int).toNat x2) x2 1 0 _ e36 J37
def fX1_pieces_L2 : Nat → Mem → Int → Int → Option (Mem)
  | 0, _, _, _ => none
  | n + 1, M, x2, x3 =>
    gd (inR (x3)) (
    if 36 ≤ x3 then (
      some (M))
    else (
      gd (inB (x3) 36) (
      fX1_pieces_L2 n (wr M 19 x3.toNat 0) x2 (x3 + 1))))
def fX1_pieces_L26 : Nat → Mem → Int → Int → Int → Option (Int × Mem)
  | 0, _, _, _, _ => none
  | n + 1, M, x2, x3, x4 =>
    gd (inR (x4)) (
    if 36 ≤ x4 then (
      some (x3, M))
    else (
      gd (inB (x4) 36) (
      gd (inR (M 16 x4.toNat)) (
      gd (inR (x2)) (
      Option.bind (if M 16 x4.toNat = x2 then (
        gd (inB (x4) 36) (
        gd (inR (M 19 x4.toNat)) (
        if M 19 x4.toNat = 0 then (
          Option.bind (fX1_seePiece M x4) (fun t17 =>
          some (x3 + 1, t17)))
        else (
          some (x3, M)))))
      else (
        some (x3, M))) (fun t19 =>
      fX1_pieces_L26 n t19.2 x2 t19.1 (x4 + 1)))))))
def fX1_pieces (M : Mem) (x2 : Int) : Option (Int × Mem) :=
    Option.bind (fX1_pieces_L2 FU M x2 0) (fun t5 =>
    Option.bind (fX1_pieces_L26 FU t5 x2 0 0) (fun t23 =>
    some (t23.1, t23.2)))
abbrev rmX1_pieces : Room := { frames := 2, cells := 0, slots := 0, locals := 50 }
theorem hl_X1_pieces_22 : Cond.fieldLink RX1 22 "PlateauBench$Foam" "seen" "[Z" ∈ wsX1_pieces := by decide +kernel
theorem hl_X1_pieces_9 : Cond.fieldLink RX1 9 "PlateauBench$Foam" "owners" "[I" ∈ wsX1_pieces := by decide +kernel
theorem hi_X1_pieces_X1 : ∀ x ∈ u_ws RX1 TX1 7, x ∈ wsX1_pieces := by decide +kernel
set_option maxRecDepth 100000 in
set_option maxHeartbeats 4000000 in
theorem kX1_pieces (l : Launch) (ad : Nat → Nat) (M : Mem) (x2 : Int) (T : Int × Mem) (h : fX1_pieces M x2 = some T) : MX l yX1_pieces wsX1_pieces rmX1_pieces wC ad [.ref (ad 27), .ref (ad 23), iV (x2)] M (some (iV (T.1))) T.2 := by
  refine MX.of (cc := cX1_pieces) (nL := 5) (rt := (some .int)) (own := RX1) (by decide +kernel) rfl rfl (Nat.le_of_ble_eq_true rfl) wC_ok (fun G cx => ?_)
  show G M 0 [(0, .ref (ad 27)), (1, .ref (ad 23)), (2, iV (x2))] []
  have L2 : ∀ (n : Nat) (M : Mem) (x2 : Int) (x3 : Int) (T4 : Mem), fX1_pieces_L2 n M x2 x3 = some T4 → (G T4 21 [(0, .ref (ad 27)), (1, .ref (ad 23)), (2, iV (x2))] []) → G M 2 [(0, .ref (ad 27)), (1, .ref (ad 23)), (2, iV (x2)), (3, iV (x3))] [] := by
    intro n
    induction n with
    | zero =>
      intro M x2 x3 T4 h
      exact absurd h (by simp [fX1_pieces_L2])
    | succ n ih =>
      intro M x2 x3 T4 h hJ
      rw [fX1_pieces_L2] at h
      refine ax_iload_n cx 3 dX1_pieces_2 rfl rfl ?_
      refine ax_bipush (z := 36) cx dX1_pieces_3 (by decide) ?_
      obtain ⟨g1, h⟩ := gd_some h
      refine ax_icmp_ge cx 21 dX1_pieces_5 (by decide) g1 ⟨by decide, by decide⟩ (fun c2 => ?_) (fun c2 => ?_)
      · rw [if_pos c2] at h
        refine ax_lv cx [0, 1, 2] rfl ?_
        cases h
        exact hJ
      · rw [if_neg c2] at h
        refine ax_aload_n cx 0 dX1_pieces_8 rfl rfl ?_
        refine ax_getf (q := 27) (ci := 1) (k := 3) (v := .ref (ad 19)) cx ⟨by decide, by decide⟩ rfl rfl hi_X1_pieces_X1 (by decide) hl_X1_pieces_22 rfl rfl dX1_pieces_9 ?_
        refine ax_iload_n cx 3 dX1_pieces_12 rfl rfl ?_
        refine ax_iconst cx dX1_pieces_13 ?_
        obtain ⟨g3, h⟩ := gd_some h
        refine ax_zast (n := 36) cx (by decide) rfl rfl g3 (Or.inl rfl) dX1_pieces_14 ?_
        refine ax_iinc (lv' := [(3, iV (x3 + 1)), (0, .ref (ad 27)), (1, .ref (ad 23)), (2, iV (x2))]) cx 3 dX1_pieces_15 rfl (by decide) rfl ?_
        refine ax_goto cx 2 dX1_pieces_18 (by decide) ?_
        refine ax_lv cx [1, 2, 3, 0] rfl ?_
        exact ih _ _ _ _ h hJ
  have L26 : ∀ (n : Nat) (M : Mem) (x2 : Int) (x3 : Int) (x4 : Int) (T22 : Int × Mem), fX1_pieces_L26 n M x2 x3 x4 = some T22 → (G T22.2 70 [(3, iV (T22.1))] []) → G M 26 [(0, .ref (ad 27)), (1, .ref (ad 23)), (2, iV (x2)), (3, iV (x3)), (4, iV (x4))] [] := by
    intro n
    induction n with
    | zero =>
      intro M x2 x3 x4 T22 h
      exact absurd h (by simp [fX1_pieces_L26])
    | succ n ih =>
      intro M x2 x3 x4 T22 h hJ
      rw [fX1_pieces_L26] at h
      refine ax_iload cx 4 dX1_pieces_26 rfl ?_
      refine ax_bipush (z := 36) cx dX1_pieces_28 (by decide) ?_
      obtain ⟨g8, h⟩ := gd_some h
      refine ax_icmp_ge cx 70 dX1_pieces_30 (by decide) g8 ⟨by decide, by decide⟩ (fun c9 => ?_) (fun c9 => ?_)
      · rw [if_pos c9] at h
        refine ax_lv cx [3] rfl ?_
        cases h
        exact hJ
      · rw [if_neg c9] at h
        refine ax_aload_n cx 0 dX1_pieces_33 rfl rfl ?_
        refine ax_getf (q := 27) (ci := 1) (k := 0) (v := .ref (ad 16)) cx ⟨by decide, by decide⟩ rfl rfl hi_X1_pieces_X1 (by decide) hl_X1_pieces_9 rfl rfl dX1_pieces_34 ?_
        refine ax_iload cx 4 dX1_pieces_37 rfl ?_
        obtain ⟨g10, h⟩ := gd_some h
        refine ax_iald (n := 36) cx (by decide) rfl rfl g10 dX1_pieces_39 ?_
        refine ax_iload_n cx 2 dX1_pieces_40 rfl rfl ?_
        obtain ⟨g11, h⟩ := gd_some h
        obtain ⟨g12, h⟩ := gd_some h
        obtain ⟨t19, e21, h⟩ := ob h
        have J20 : G t19.2 64 [(0, .ref (ad 27)), (1, .ref (ad 23)), (2, iV (x2)), (3, iV (t19.1)), (4, iV (x4))] [] := by
          refine ax_iinc (lv' := [(4, iV (x4 + 1)), (0, .ref (ad 27)), (1, .ref (ad 23)), (2, iV (x2)), (3, iV (t19.1))]) cx 4 dX1_pieces_64 rfl (by decide) rfl ?_
          refine ax_goto cx 26 dX1_pieces_67 (by decide) ?_
          refine ax_lv cx [1, 2, 3, 4, 0] rfl ?_
          exact ih _ _ _ _ _ h hJ
        clear h
        have h := e21
        clear e21
        refine ax_icmp_ne cx 64 dX1_pieces_41 (by decide) g11 g12 (fun c13 => ?_) (fun c13 => ?_)
        · rw [if_pos c13] at h
          refine ax_aload_n cx 0 dX1_pieces_44 rfl rfl ?_
          refine ax_getf (q := 27) (ci := 1) (k := 3) (v := .ref (ad 19)) cx ⟨by decide, by decide⟩ rfl rfl hi_X1_pieces_X1 (by decide) hl_X1_pieces_22 rfl rfl dX1_pieces_45 ?_
          refine ax_iload cx 4 dX1_pieces_48 rfl ?_
          obtain ⟨g14, h⟩ := gd_some h
          refine ax_zald (n := 36) cx (by decide) rfl rfl g14 dX1_pieces_50 ?_
          obtain ⟨g15, h⟩ := gd_some h
          refine ax_if_ne cx 64 dX1_pieces_51 (by decide) g15 (fun c16 => ?_) (fun c16 => ?_)
          · rw [if_pos c16] at h
            refine ax_iinc (lv' := [(3, iV (x3 + 1)), (0, .ref (ad 27)), (1, .ref (ad 23)), (2, iV (x2)), (4, iV (x4))]) cx 3 dX1_pieces_54 rfl (by decide) rfl ?_
            refine ax_aload_n cx 1 dX1_pieces_57 rfl rfl ?_
            refine ax_aload_n cx 2 dX1_pieces_58 rfl rfl ?_
            refine ax_iload cx 4 dX1_pieces_59 rfl ?_
            obtain ⟨t17, e18, h⟩ := ob h
            refine ax_callV (As := [.ref (ad 23), iV (x4)]) (q := 27) (ci := 1) (n := 2) cx (kX1_seePiece l ad M x4 _ e18) gX1_pieces_X1_seePiece rfl ⟨by decide, by decide⟩ rfl rfl ⟨rfl, rfl⟩ (by decide +kernel) rfl ⟨by decide, by decide⟩ rfl (Nat.le_of_ble_eq_true rfl) dX1_pieces_61 ?_
            refine ax_lv cx [1, 2, 3, 0, 4] rfl ?_
            cases h
            exact J20
          · rw [if_neg c16] at h
            cases h
            exact J20
        · rw [if_neg c13] at h
          cases h
          exact J20
  unfold fX1_pieces at h
  refine ax_iconst cx dX1_pieces_0 ?_
  refine ax_istore_n (lv' := [(3, iV (0)), (0, .ref (ad 27)), (1, .ref (ad 23)), (2, iV (x2))]) cx dX1_pieces_1 rfl (by decide) rfl ?_
  obtain ⟨t5, e6, h⟩ := ob h
  refine ax_lv cx [1, 2, 3, 0] rfl ?_
  have J7 : G t5 21 [(0, .ref (ad 27)), (1, .ref (ad 23)), (2, iV (x2))] [] := by
    refine ax_iconst cx dX1_pieces_21 ?_
    refine ax_istore_n (lv' := [(3, iV (0)), (0, .ref (ad 27)), (1, .ref (ad 23)), (2, iV (x2))]) cx dX1_pieces_22 rfl (by decide) rfl ?_
    refine ax_iconst cx dX1_pieces_23 ?_
    refine ax_istore (lv' := [(4, iV (0)), (3, iV (0)), (0, .ref (ad 27)), (1, .ref (ad 23)), (2, iV (x2))]) cx dX1_pieces_24 (by decide) rfl ?_
    obtain ⟨t23, e24, h⟩ := ob h
    refine ax_lv cx [2, 3, 4, 1, 0] rfl ?_
    have J25 : G t23.2 70 [(3, iV (t23.1))] [] := by
      refine ax_iload_n cx 0 dX1_pieces_70 rfl rfl ?_
      cases h
      exact ax_iret cx dX1_pieces_71 rfl ⟨rfl, rfl⟩
    exact L26 FU t5 x2 0 0 _ e24 J25
  exact L2 FU M x2 0 _ e6 J7
def fX1_isBetween (M : Mem) (x2 : Int) (x3 : Int) (x4 : Int) : Option (Int) :=
    Option.bind (fX2_low M x2) (fun t1 =>
    gd (inB (t1) 36) (
    Option.bind (fX2_high M x2) (fun t4 =>
    gd (inB (t4) 36) (
    gd (inR (M 16 t1.toNat)) (
    gd (inR (x3)) (
    Option.bind (if M 16 t1.toNat = x3 then (
      gd (inR (M 16 t4.toNat)) (
      gd (inR (x4)) (
      if M 16 t4.toNat = x4 then (
        some (1))
      else (
        if M 16 t1.toNat = x4 then (
          if M 16 t4.toNat = x3 then (
            some (1))
          else (
            some (0)))
        else (
          some (0))))))
    else (
      gd (inR (x4)) (
      if M 16 t1.toNat = x4 then (
        gd (inR (M 16 t4.toNat)) (
        if M 16 t4.toNat = x3 then (
          some (1))
        else (
          some (0))))
      else (
        some (0))))) (fun t19 =>
    gd (t19 = 0 ∨ t19 = 1) (
    some (t19)))))))))
abbrev rmX1_isBetween : Room := { frames := 1, cells := 0, slots := 0, locals := 21 }
theorem hl_X1_isBetween_9 : Cond.fieldLink RX1 9 "PlateauBench$Foam" "owners" "[I" ∈ wsX1_isBetween := by decide +kernel
theorem hi_X1_isBetween_X1 : ∀ x ∈ u_ws RX1 TX1 7, x ∈ wsX1_isBetween := by decide +kernel
set_option maxRecDepth 100000 in
set_option maxHeartbeats 4000000 in
theorem kX1_isBetween (l : Launch) (ad : Nat → Nat) (M : Mem) (x2 : Int) (x3 : Int) (x4 : Int) (T : Int) (h : fX1_isBetween M x2 x3 x4 = some T) : MX l yX1_isBetween wsX1_isBetween rmX1_isBetween wC ad [.ref (ad 27), .ref (ad 23), iV (x2), iV (x3), iV (x4)] M (some (iV (T))) M := by
  refine MX.of (cc := cX1_isBetween) (nL := 7) (rt := (some .boolean)) (own := RX1) (by decide +kernel) rfl rfl (Nat.le_of_ble_eq_true rfl) wC_ok (fun G cx => ?_)
  show G M 0 [(0, .ref (ad 27)), (1, .ref (ad 23)), (2, iV (x2)), (3, iV (x3)), (4, iV (x4))] []
  unfold fX1_isBetween at h
  refine ax_aload_n cx 0 dX1_isBetween_0 rfl rfl ?_
  refine ax_getf (q := 27) (ci := 1) (k := 0) (v := .ref (ad 16)) cx ⟨by decide, by decide⟩ rfl rfl hi_X1_isBetween_X1 (by decide) hl_X1_isBetween_9 rfl rfl dX1_isBetween_1 ?_
  refine ax_aload_n cx 1 dX1_isBetween_4 rfl rfl ?_
  refine ax_iload_n cx 2 dX1_isBetween_5 rfl rfl ?_
  obtain ⟨t1, e2, h⟩ := ob h
  refine ax_callV (As := [iV (x2)]) (q := 23) (ci := 2) (n := 1) cx (kX2_low l ad M x2 _ e2) gX1_isBetween_X2_low rfl ⟨by decide, by decide⟩ rfl rfl ⟨rfl, rfl⟩ (by decide +kernel) rfl ⟨by decide, by decide⟩ rfl (Nat.le_of_ble_eq_true rfl) dX1_isBetween_6 ?_
  obtain ⟨g3, h⟩ := gd_some h
  refine ax_iald (n := 36) cx (by decide) rfl rfl g3 dX1_isBetween_9 ?_
  refine ax_istore (lv' := [(5, iV (M 16 t1.toNat)), (0, .ref (ad 27)), (1, .ref (ad 23)), (2, iV (x2)), (3, iV (x3)), (4, iV (x4))]) cx dX1_isBetween_10 (by decide) rfl ?_
  refine ax_aload_n cx 1 dX1_isBetween_12 rfl rfl ?_
  refine ax_getf (q := 27) (ci := 1) (k := 0) (v := .ref (ad 16)) cx ⟨by decide, by decide⟩ rfl rfl hi_X1_isBetween_X1 (by decide) hl_X1_isBetween_9 rfl rfl dX1_isBetween_13 ?_
  refine ax_aload_n cx 2 dX1_isBetween_16 rfl rfl ?_
  refine ax_iload_n cx 3 dX1_isBetween_17 rfl rfl ?_
  obtain ⟨t4, e5, h⟩ := ob h
  refine ax_callV (As := [iV (x2)]) (q := 23) (ci := 2) (n := 1) cx (kX2_high l ad M x2 _ e5) gX1_isBetween_X2_high rfl ⟨by decide, by decide⟩ rfl rfl ⟨rfl, rfl⟩ (by decide +kernel) rfl ⟨by decide, by decide⟩ rfl (Nat.le_of_ble_eq_true rfl) dX1_isBetween_18 ?_
  obtain ⟨g6, h⟩ := gd_some h
  refine ax_iald (n := 36) cx (by decide) rfl rfl g6 dX1_isBetween_21 ?_
  refine ax_istore (lv' := [(6, iV (M 16 t4.toNat)), (5, iV (M 16 t1.toNat)), (0, .ref (ad 27)), (1, .ref (ad 23)), (2, iV (x2)), (3, iV (x3)), (4, iV (x4))]) cx dX1_isBetween_22 (by decide) rfl ?_
  refine ax_iload cx 1 dX1_isBetween_24 rfl ?_
  refine ax_iload_n cx 5 dX1_isBetween_26 rfl rfl ?_
  obtain ⟨g7, h⟩ := gd_some h
  obtain ⟨g8, h⟩ := gd_some h
  obtain ⟨t19, e21, h⟩ := ob h
  have J20 : G M 55 [] [iV (t19)] := by
    obtain ⟨g22, h⟩ := gd_some h
    cases h
    exact ax_zret cx dX1_isBetween_55 rfl g22 ⟨rfl, rfl⟩
  clear h
  have h := e21
  clear e21
  refine ax_icmp_ne cx 37 dX1_isBetween_27 (by decide) g7 g8 (fun c9 => ?_) (fun c9 => ?_)
  · rw [if_pos c9] at h
    refine ax_iload cx 0 dX1_isBetween_30 rfl ?_
    refine ax_iload cx 6 dX1_isBetween_32 rfl ?_
    obtain ⟨g10, h⟩ := gd_some h
    obtain ⟨g11, h⟩ := gd_some h
    refine ax_icmp_eq cx 50 dX1_isBetween_34 (by decide) g10 g11 (fun c12 => ?_) (fun c12 => ?_)
    · rw [if_pos c12] at h
      refine ax_iconst cx dX1_isBetween_50 ?_
      refine ax_goto cx 55 dX1_isBetween_51 (by decide) ?_
      refine ax_lv cx [] rfl ?_
      cases h
      exact J20
    · rw [if_neg c12] at h
      refine ax_iload cx 1 dX1_isBetween_37 rfl ?_
      refine ax_iload cx 6 dX1_isBetween_39 rfl ?_
      refine ax_icmp_ne cx 54 dX1_isBetween_41 (by decide) g7 g11 (fun c13 => ?_) (fun c13 => ?_)
      · rw [if_pos c13] at h
        refine ax_iload cx 0 dX1_isBetween_44 rfl ?_
        refine ax_iload_n cx 5 dX1_isBetween_46 rfl rfl ?_
        refine ax_icmp_ne cx 54 dX1_isBetween_47 (by decide) g10 g8 (fun c14 => ?_) (fun c14 => ?_)
        · rw [if_pos c14] at h
          refine ax_iconst cx dX1_isBetween_50 ?_
          refine ax_goto cx 55 dX1_isBetween_51 (by decide) ?_
          refine ax_lv cx [] rfl ?_
          cases h
          exact J20
        · rw [if_neg c14] at h
          refine ax_iconst cx dX1_isBetween_54 ?_
          refine ax_lv cx [] rfl ?_
          cases h
          exact J20
      · rw [if_neg c13] at h
        refine ax_iconst cx dX1_isBetween_54 ?_
        refine ax_lv cx [] rfl ?_
        cases h
        exact J20
  · rw [if_neg c9] at h
    refine ax_iload cx 1 dX1_isBetween_37 rfl ?_
    refine ax_iload cx 6 dX1_isBetween_39 rfl ?_
    obtain ⟨g15, h⟩ := gd_some h
    refine ax_icmp_ne cx 54 dX1_isBetween_41 (by decide) g7 g15 (fun c16 => ?_) (fun c16 => ?_)
    · rw [if_pos c16] at h
      refine ax_iload cx 0 dX1_isBetween_44 rfl ?_
      refine ax_iload_n cx 5 dX1_isBetween_46 rfl rfl ?_
      obtain ⟨g17, h⟩ := gd_some h
      refine ax_icmp_ne cx 54 dX1_isBetween_47 (by decide) g17 g8 (fun c18 => ?_) (fun c18 => ?_)
      · rw [if_pos c18] at h
        refine ax_iconst cx dX1_isBetween_50 ?_
        refine ax_goto cx 55 dX1_isBetween_51 (by decide) ?_
        refine ax_lv cx [] rfl ?_
        cases h
        exact J20
      · rw [if_neg c18] at h
        refine ax_iconst cx dX1_isBetween_54 ?_
        refine ax_lv cx [] rfl ?_
        cases h
        exact J20
    · rw [if_neg c16] at h
      refine ax_iconst cx dX1_isBetween_54 ?_
      refine ax_lv cx [] rfl ?_
      cases h
      exact J20
def fX1_wallsBetween_L6 : Nat → Mem → Int → Int → Int → Int → Option (Int)
  | 0, _, _, _, _, _ => none
  | n + 1, M, x2, x3, x4, x5 =>
    gd (inR (x5)) (
    if 60 ≤ x5 then (
      some (x4))
    else (
      Option.bind (fX1_isBetween M x5 x2 x3) (fun t3 =>
      gd (inR (t3)) (
      Option.bind (if t3 = 0 then (
        some (x4))
      else (
        Option.bind (fX2_price M x5) (fun t7 =>
        some (x4 + t7)))) (fun t9 =>
      fX1_wallsBetween_L6 n M x2 x3 t9 (x5 + 1))))))
def fX1_wallsBetween (M : Mem) (x2 : Int) (x3 : Int) : Option (Int) :=
    Option.bind (fX1_wallsBetween_L6 FU M x2 x3 0 0) (fun t13 =>
    some (t13))
abbrev rmX1_wallsBetween : Room := { frames := 2, cells := 0, slots := 0, locals := 47 }
set_option maxRecDepth 100000 in
set_option maxHeartbeats 4000000 in
theorem kX1_wallsBetween (l : Launch) (ad : Nat → Nat) (M : Mem) (x2 : Int) (x3 : Int) (T : Int) (h : fX1_wallsBetween M x2 x3 = some T) : MX l yX1_wallsBetween wsX1_wallsBetween rmX1_wallsBetween wC ad [.ref (ad 27), .ref (ad 23), iV (x2), iV (x3)] M (some (iV (T))) M := by
  refine MX.of (cc := cX1_wallsBetween) (nL := 6) (rt := (some .int)) (own := RX1) (by decide +kernel) rfl rfl (Nat.le_of_ble_eq_true rfl) wC_ok (fun G cx => ?_)
  show G M 0 [(0, .ref (ad 27)), (1, .ref (ad 23)), (2, iV (x2)), (3, iV (x3))] []
  have L6 : ∀ (n : Nat) (x2 : Int) (x3 : Int) (x4 : Int) (x5 : Int) (T12 : Int), fX1_wallsBetween_L6 n M x2 x3 x4 x5 = some T12 → (G M 42 [(4, iV (T12))] []) → G M 6 [(0, .ref (ad 27)), (1, .ref (ad 23)), (2, iV (x2)), (3, iV (x3)), (4, iV (x4)), (5, iV (x5))] [] := by
    intro n
    induction n with
    | zero =>
      intro x2 x3 x4 x5 T12 h
      exact absurd h (by simp [fX1_wallsBetween_L6])
    | succ n ih =>
      intro x2 x3 x4 x5 T12 h hJ
      rw [fX1_wallsBetween_L6] at h
      refine ax_iload cx 5 dX1_wallsBetween_6 rfl ?_
      refine ax_bipush (z := 60) cx dX1_wallsBetween_8 (by decide) ?_
      obtain ⟨g1, h⟩ := gd_some h
      refine ax_icmp_ge cx 42 dX1_wallsBetween_10 (by decide) g1 ⟨by decide, by decide⟩ (fun c2 => ?_) (fun c2 => ?_)
      · rw [if_pos c2] at h
        refine ax_lv cx [4] rfl ?_
        cases h
        exact hJ
      · rw [if_neg c2] at h
        refine ax_aload_n cx 0 dX1_wallsBetween_13 rfl rfl ?_
        refine ax_aload_n cx 1 dX1_wallsBetween_14 rfl rfl ?_
        refine ax_iload cx 5 dX1_wallsBetween_15 rfl ?_
        refine ax_iload_n cx 2 dX1_wallsBetween_17 rfl rfl ?_
        refine ax_iload_n cx 3 dX1_wallsBetween_18 rfl rfl ?_
        obtain ⟨t3, e4, h⟩ := ob h
        refine ax_callV (As := [.ref (ad 23), iV (x5), iV (x2), iV (x3)]) (q := 27) (ci := 1) (n := 4) cx (kX1_isBetween l ad M x5 x2 x3 _ e4) gX1_wallsBetween_X1_isBetween rfl ⟨by decide, by decide⟩ rfl rfl ⟨rfl, rfl⟩ (by decide +kernel) rfl ⟨by decide, by decide⟩ rfl (Nat.le_of_ble_eq_true rfl) dX1_wallsBetween_19 ?_
        obtain ⟨g5, h⟩ := gd_some h
        obtain ⟨t9, e11, h⟩ := ob h
        have J10 : G M 36 [(0, .ref (ad 27)), (1, .ref (ad 23)), (2, iV (x2)), (3, iV (x3)), (4, iV (t9)), (5, iV (x5))] [] := by
          refine ax_iinc (lv' := [(5, iV (x5 + 1)), (0, .ref (ad 27)), (1, .ref (ad 23)), (2, iV (x2)), (3, iV (x3)), (4, iV (t9))]) cx 5 dX1_wallsBetween_36 rfl (by decide) rfl ?_
          refine ax_goto cx 6 dX1_wallsBetween_39 (by decide) ?_
          refine ax_lv cx [1, 2, 3, 4, 5, 0] rfl ?_
          exact ih _ _ _ _ _ h hJ
        clear h
        have h := e11
        clear e11
        refine ax_if_eq cx 36 dX1_wallsBetween_22 (by decide) g5 (fun c6 => ?_) (fun c6 => ?_)
        · rw [if_pos c6] at h
          cases h
          exact J10
        · rw [if_neg c6] at h
          refine ax_iload cx 4 dX1_wallsBetween_25 rfl ?_
          refine ax_aload_n cx 1 dX1_wallsBetween_27 rfl rfl ?_
          refine ax_iload cx 5 dX1_wallsBetween_28 rfl ?_
          obtain ⟨t7, e8, h⟩ := ob h
          refine ax_callV (As := [iV (x5)]) (q := 23) (ci := 2) (n := 1) cx (kX2_price l ad M x5 _ e8) gX1_wallsBetween_X2_price rfl ⟨by decide, by decide⟩ rfl rfl ⟨rfl, rfl⟩ (by decide +kernel) rfl ⟨by decide, by decide⟩ rfl (Nat.le_of_ble_eq_true rfl) dX1_wallsBetween_30 ?_
          refine ax_iadd cx dX1_wallsBetween_33 ?_
          refine ax_istore (lv' := [(4, iV (x4 + t7)), (0, .ref (ad 27)), (1, .ref (ad 23)), (2, iV (x2)), (3, iV (x3)), (5, iV (x5))]) cx dX1_wallsBetween_34 (by decide) rfl ?_
          refine ax_lv cx [1, 2, 3, 4, 0, 5] rfl ?_
          cases h
          exact J10
  unfold fX1_wallsBetween at h
  refine ax_iconst cx dX1_wallsBetween_0 ?_
  refine ax_istore (lv' := [(4, iV (0)), (0, .ref (ad 27)), (1, .ref (ad 23)), (2, iV (x2)), (3, iV (x3))]) cx dX1_wallsBetween_1 (by decide) rfl ?_
  refine ax_iconst cx dX1_wallsBetween_3 ?_
  refine ax_istore (lv' := [(5, iV (0)), (4, iV (0)), (0, .ref (ad 27)), (1, .ref (ad 23)), (2, iV (x2)), (3, iV (x3))]) cx dX1_wallsBetween_4 (by decide) rfl ?_
  obtain ⟨t13, e14, h⟩ := ob h
  refine ax_lv cx [2, 3, 4, 5, 1, 0] rfl ?_
  have J15 : G M 42 [(4, iV (t13))] [] := by
    refine ax_iload cx 0 dX1_wallsBetween_42 rfl ?_
    cases h
    exact ax_iret cx dX1_wallsBetween_44 rfl ⟨rfl, rfl⟩
  exact L6 FU x2 x3 0 0 _ e14 J15
def fX1_wallsAround_L5 : Nat → Mem → Int → Int → Int → Option (Int)
  | 0, _, _, _, _ => none
  | n + 1, M, x2, x3, x4 =>
    gd (inR (x4)) (
    if 8 ≤ x4 then (
      some (x3))
    else (
      gd (inR (x2)) (
      Option.bind (if x4 = x2 then (
        some (x3))
      else (
        Option.bind (fX1_wallsBetween M x2 x4) (fun t5 =>
        some (x3 + t5)))) (fun t7 =>
      fX1_wallsAround_L5 n M x2 t7 (x4 + 1)))))
def fX1_wallsAround (M : Mem) (x2 : Int) : Option (Int) :=
    Option.bind (fX1_wallsAround_L5 FU M x2 0 0) (fun t11 =>
    some (t11))
abbrev rmX1_wallsAround : Room := { frames := 3, cells := 0, slots := 0, locals := 72 }
set_option maxRecDepth 100000 in
set_option maxHeartbeats 4000000 in
theorem kX1_wallsAround (l : Launch) (ad : Nat → Nat) (M : Mem) (x2 : Int) (T : Int) (h : fX1_wallsAround M x2 = some T) : MX l yX1_wallsAround wsX1_wallsAround rmX1_wallsAround wC ad [.ref (ad 27), .ref (ad 23), iV (x2)] M (some (iV (T))) M := by
  refine MX.of (cc := cX1_wallsAround) (nL := 5) (rt := (some .int)) (own := RX1) (by decide +kernel) rfl rfl (Nat.le_of_ble_eq_true rfl) wC_ok (fun G cx => ?_)
  show G M 0 [(0, .ref (ad 27)), (1, .ref (ad 23)), (2, iV (x2))] []
  have L5 : ∀ (n : Nat) (x2 : Int) (x3 : Int) (x4 : Int) (T10 : Int), fX1_wallsAround_L5 n M x2 x3 x4 = some T10 → (G M 35 [(3, iV (T10))] []) → G M 5 [(0, .ref (ad 27)), (1, .ref (ad 23)), (2, iV (x2)), (3, iV (x3)), (4, iV (x4))] [] := by
    intro n
    induction n with
    | zero =>
      intro x2 x3 x4 T10 h
      exact absurd h (by simp [fX1_wallsAround_L5])
    | succ n ih =>
      intro x2 x3 x4 T10 h hJ
      rw [fX1_wallsAround_L5] at h
      refine ax_iload cx 4 dX1_wallsAround_5 rfl ?_
      refine ax_bipush (z := 8) cx dX1_wallsAround_7 (by decide) ?_
      obtain ⟨g1, h⟩ := gd_some h
      refine ax_icmp_ge cx 35 dX1_wallsAround_9 (by decide) g1 ⟨by decide, by decide⟩ (fun c2 => ?_) (fun c2 => ?_)
      · rw [if_pos c2] at h
        refine ax_lv cx [3] rfl ?_
        cases h
        exact hJ
      · rw [if_neg c2] at h
        refine ax_iload cx 4 dX1_wallsAround_12 rfl ?_
        refine ax_iload_n cx 2 dX1_wallsAround_14 rfl rfl ?_
        obtain ⟨g3, h⟩ := gd_some h
        obtain ⟨t7, e9, h⟩ := ob h
        have J8 : G M 29 [(0, .ref (ad 27)), (1, .ref (ad 23)), (2, iV (x2)), (3, iV (t7)), (4, iV (x4))] [] := by
          refine ax_iinc (lv' := [(4, iV (x4 + 1)), (0, .ref (ad 27)), (1, .ref (ad 23)), (2, iV (x2)), (3, iV (t7))]) cx 4 dX1_wallsAround_29 rfl (by decide) rfl ?_
          refine ax_goto cx 5 dX1_wallsAround_32 (by decide) ?_
          refine ax_lv cx [1, 2, 3, 4, 0] rfl ?_
          exact ih _ _ _ _ h hJ
        clear h
        have h := e9
        clear e9
        refine ax_icmp_eq cx 29 dX1_wallsAround_15 (by decide) g1 g3 (fun c4 => ?_) (fun c4 => ?_)
        · rw [if_pos c4] at h
          cases h
          exact J8
        · rw [if_neg c4] at h
          refine ax_iload_n cx 3 dX1_wallsAround_18 rfl rfl ?_
          refine ax_aload_n cx 0 dX1_wallsAround_19 rfl rfl ?_
          refine ax_aload_n cx 1 dX1_wallsAround_20 rfl rfl ?_
          refine ax_iload_n cx 2 dX1_wallsAround_21 rfl rfl ?_
          refine ax_iload cx 4 dX1_wallsAround_22 rfl ?_
          obtain ⟨t5, e6, h⟩ := ob h
          refine ax_callV (As := [.ref (ad 23), iV (x2), iV (x4)]) (q := 27) (ci := 1) (n := 3) cx (kX1_wallsBetween l ad M x2 x4 _ e6) gX1_wallsAround_X1_wallsBetween rfl ⟨by decide, by decide⟩ rfl rfl ⟨rfl, rfl⟩ (by decide +kernel) rfl ⟨by decide, by decide⟩ rfl (Nat.le_of_ble_eq_true rfl) dX1_wallsAround_24 ?_
          refine ax_iadd cx dX1_wallsAround_27 ?_
          refine ax_istore_n (lv' := [(3, iV (x3 + t5)), (0, .ref (ad 27)), (1, .ref (ad 23)), (2, iV (x2)), (4, iV (x4))]) cx dX1_wallsAround_28 rfl (by decide) rfl ?_
          refine ax_lv cx [1, 2, 3, 0, 4] rfl ?_
          cases h
          exact J8
  unfold fX1_wallsAround at h
  refine ax_iconst cx dX1_wallsAround_0 ?_
  refine ax_istore_n (lv' := [(3, iV (0)), (0, .ref (ad 27)), (1, .ref (ad 23)), (2, iV (x2))]) cx dX1_wallsAround_1 rfl (by decide) rfl ?_
  refine ax_iconst cx dX1_wallsAround_2 ?_
  refine ax_istore (lv' := [(4, iV (0)), (3, iV (0)), (0, .ref (ad 27)), (1, .ref (ad 23)), (2, iV (x2))]) cx dX1_wallsAround_3 (by decide) rfl ?_
  obtain ⟨t11, e12, h⟩ := ob h
  refine ax_lv cx [2, 3, 4, 1, 0] rfl ?_
  have J13 : G M 35 [(3, iV (t11))] [] := by
    refine ax_iload_n cx 0 dX1_wallsAround_35 rfl rfl ?_
    cases h
    exact ax_iret cx dX1_wallsAround_36 rfl ⟨rfl, rfl⟩
  exact L5 FU x2 0 0 _ e12 J13
def fX1_neighbours_L5 : Nat → Mem → Int → Int → Int → Option (Int)
  | 0, _, _, _, _ => none
  | n + 1, M, x2, x3, x4 =>
    gd (inR (x4)) (
    if 60 ≤ x4 then (
      some (x3))
    else (
      Option.bind (fX2_low M x4) (fun t3 =>
      gd (inB (t3) 36) (
      Option.bind (fX2_high M x4) (fun t6 =>
      gd (inB (t6) 36) (
      gd (inR (M 16 t3.toNat)) (
      gd (inR (x2)) (
      Option.bind (if M 16 t3.toNat = x2 then (
        some (zor x3 (zshl 1 (M 16 t6.toNat))))
      else (
        some (x3))) (fun t12 =>
      gd (inR (M 16 t6.toNat)) (
      Option.bind (if M 16 t6.toNat = x2 then (
        some (zor t12 (zshl 1 (M 16 t3.toNat))))
      else (
        some (t12))) (fun t17 =>
      fX1_neighbours_L5 n M x2 t17 (x4 + 1))))))))))))
def fX1_neighbours (M : Mem) (x2 : Int) : Option (Int) :=
    Option.bind (fX1_neighbours_L5 FU M x2 0 0) (fun t21 =>
    Option.bind (fJ6_bitCount_0f7a4 M (zand t21 (zxor (zshl 1 x2) ((-1))))) (fun t24 =>
    some (t24)))
abbrev rmX1_neighbours : Room := { frames := 1, cells := 0, slots := 0, locals := 21 }
theorem hl_X1_neighbours_9 : Cond.fieldLink RX1 9 "PlateauBench$Foam" "owners" "[I" ∈ wsX1_neighbours := by decide +kernel
theorem hi_X1_neighbours_X1 : ∀ x ∈ u_ws RX1 TX1 7, x ∈ wsX1_neighbours := by decide +kernel
set_option maxRecDepth 100000 in
set_option maxHeartbeats 4000000 in
theorem kX1_neighbours (l : Launch) (ad : Nat → Nat) (M : Mem) (x2 : Int) (T : Int) (h : fX1_neighbours M x2 = some T) : MX l yX1_neighbours wsX1_neighbours rmX1_neighbours wC ad [.ref (ad 27), .ref (ad 23), iV (x2)] M (some (iV (T))) M := by
  refine MX.of (cc := cX1_neighbours) (nL := 7) (rt := (some .int)) (own := RX1) (by decide +kernel) rfl rfl (Nat.le_of_ble_eq_true rfl) wC_ok (fun G cx => ?_)
  show G M 0 [(0, .ref (ad 27)), (1, .ref (ad 23)), (2, iV (x2))] []
  have L5 : ∀ (n : Nat) (x2 : Int) (x3 : Int) (x4 : Int) (T20 : Int), fX1_neighbours_L5 n M x2 x3 x4 = some T20 → (G M 70 [(2, iV (x2)), (3, iV (T20))] []) → G M 5 [(0, .ref (ad 27)), (1, .ref (ad 23)), (2, iV (x2)), (3, iV (x3)), (4, iV (x4))] [] := by
    intro n
    induction n with
    | zero =>
      intro x2 x3 x4 T20 h
      exact absurd h (by simp [fX1_neighbours_L5])
    | succ n ih =>
      intro x2 x3 x4 T20 h hJ
      rw [fX1_neighbours_L5] at h
      refine ax_iload cx 4 dX1_neighbours_5 rfl ?_
      refine ax_bipush (z := 60) cx dX1_neighbours_7 (by decide) ?_
      obtain ⟨g1, h⟩ := gd_some h
      refine ax_icmp_ge cx 70 dX1_neighbours_9 (by decide) g1 ⟨by decide, by decide⟩ (fun c2 => ?_) (fun c2 => ?_)
      · rw [if_pos c2] at h
        refine ax_lv cx [2, 3] rfl ?_
        cases h
        exact hJ
      · rw [if_neg c2] at h
        refine ax_aload_n cx 0 dX1_neighbours_12 rfl rfl ?_
        refine ax_getf (q := 27) (ci := 1) (k := 0) (v := .ref (ad 16)) cx ⟨by decide, by decide⟩ rfl rfl hi_X1_neighbours_X1 (by decide) hl_X1_neighbours_9 rfl rfl dX1_neighbours_13 ?_
        refine ax_aload_n cx 1 dX1_neighbours_16 rfl rfl ?_
        refine ax_iload cx 4 dX1_neighbours_17 rfl ?_
        obtain ⟨t3, e4, h⟩ := ob h
        refine ax_callV (As := [iV (x4)]) (q := 23) (ci := 2) (n := 1) cx (kX2_low l ad M x4 _ e4) gX1_neighbours_X2_low rfl ⟨by decide, by decide⟩ rfl rfl ⟨rfl, rfl⟩ (by decide +kernel) rfl ⟨by decide, by decide⟩ rfl (Nat.le_of_ble_eq_true rfl) dX1_neighbours_19 ?_
        obtain ⟨g5, h⟩ := gd_some h
        refine ax_iald (n := 36) cx (by decide) rfl rfl g5 dX1_neighbours_22 ?_
        refine ax_istore (lv' := [(5, iV (M 16 t3.toNat)), (0, .ref (ad 27)), (1, .ref (ad 23)), (2, iV (x2)), (3, iV (x3)), (4, iV (x4))]) cx dX1_neighbours_23 (by decide) rfl ?_
        refine ax_aload_n cx 1 dX1_neighbours_25 rfl rfl ?_
        refine ax_getf (q := 27) (ci := 1) (k := 0) (v := .ref (ad 16)) cx ⟨by decide, by decide⟩ rfl rfl hi_X1_neighbours_X1 (by decide) hl_X1_neighbours_9 rfl rfl dX1_neighbours_26 ?_
        refine ax_aload_n cx 2 dX1_neighbours_29 rfl rfl ?_
        refine ax_iload cx 5 dX1_neighbours_30 rfl ?_
        obtain ⟨t6, e7, h⟩ := ob h
        refine ax_callV (As := [iV (x4)]) (q := 23) (ci := 2) (n := 1) cx (kX2_high l ad M x4 _ e7) gX1_neighbours_X2_high rfl ⟨by decide, by decide⟩ rfl rfl ⟨rfl, rfl⟩ (by decide +kernel) rfl ⟨by decide, by decide⟩ rfl (Nat.le_of_ble_eq_true rfl) dX1_neighbours_32 ?_
        obtain ⟨g8, h⟩ := gd_some h
        refine ax_iald (n := 36) cx (by decide) rfl rfl g8 dX1_neighbours_35 ?_
        refine ax_istore (lv' := [(6, iV (M 16 t6.toNat)), (5, iV (M 16 t3.toNat)), (0, .ref (ad 27)), (1, .ref (ad 23)), (2, iV (x2)), (3, iV (x3)), (4, iV (x4))]) cx dX1_neighbours_36 (by decide) rfl ?_
        refine ax_iload cx 1 dX1_neighbours_38 rfl ?_
        refine ax_iload_n cx 4 dX1_neighbours_40 rfl rfl ?_
        obtain ⟨g9, h⟩ := gd_some h
        obtain ⟨g10, h⟩ := gd_some h
        obtain ⟨t12, e14, h⟩ := ob h
        have J13 : G M 51 [(0, .ref (ad 27)), (1, .ref (ad 23)), (2, iV (x2)), (3, iV (t12)), (4, iV (x4)), (5, iV (M 16 t3.toNat)), (6, iV (M 16 t6.toNat))] [] := by
          refine ax_iload cx 6 dX1_neighbours_51 rfl ?_
          refine ax_iload_n cx 2 dX1_neighbours_53 rfl rfl ?_
          obtain ⟨g15, h⟩ := gd_some h
          obtain ⟨t17, e19, h⟩ := ob h
          have J18 : G M 64 [(0, .ref (ad 27)), (1, .ref (ad 23)), (2, iV (x2)), (3, iV (t17)), (4, iV (x4))] [] := by
            refine ax_iinc (lv' := [(4, iV (x4 + 1)), (0, .ref (ad 27)), (1, .ref (ad 23)), (2, iV (x2)), (3, iV (t17))]) cx 4 dX1_neighbours_64 rfl (by decide) rfl ?_
            refine ax_goto cx 5 dX1_neighbours_67 (by decide) ?_
            refine ax_lv cx [1, 2, 3, 4, 0] rfl ?_
            exact ih _ _ _ _ h hJ
          clear h
          have h := e19
          clear e19
          refine ax_icmp_ne cx 64 dX1_neighbours_54 (by decide) g15 g10 (fun c16 => ?_) (fun c16 => ?_)
          · rw [if_pos c16] at h
            refine ax_iload_n cx 3 dX1_neighbours_57 rfl rfl ?_
            refine ax_iconst cx dX1_neighbours_58 ?_
            refine ax_iload cx 5 dX1_neighbours_59 rfl ?_
            refine ax_ishl cx dX1_neighbours_61 ?_
            refine ax_ior cx dX1_neighbours_62 ?_
            refine ax_istore_n (lv' := [(3, iV (zor t12 (zshl 1 (M 16 t3.toNat)))), (0, .ref (ad 27)), (1, .ref (ad 23)), (2, iV (x2)), (4, iV (x4)), (5, iV (M 16 t3.toNat)), (6, iV (M 16 t6.toNat))]) cx dX1_neighbours_63 rfl (by decide) rfl ?_
            refine ax_lv cx [1, 2, 3, 0, 4] rfl ?_
            cases h
            exact J18
          · rw [if_neg c16] at h
            refine ax_lv cx [0, 1, 2, 3, 4] rfl ?_
            cases h
            exact J18
        clear h
        have h := e14
        clear e14
        refine ax_icmp_ne cx 51 dX1_neighbours_41 (by decide) g9 g10 (fun c11 => ?_) (fun c11 => ?_)
        · rw [if_pos c11] at h
          refine ax_iload_n cx 5 dX1_neighbours_44 rfl rfl ?_
          refine ax_iconst cx dX1_neighbours_45 ?_
          refine ax_iload cx 0 dX1_neighbours_46 rfl ?_
          refine ax_ishl cx dX1_neighbours_48 ?_
          refine ax_ior cx dX1_neighbours_49 ?_
          refine ax_istore_n (lv' := [(3, iV (zor x3 (zshl 1 (M 16 t6.toNat)))), (6, iV (M 16 t6.toNat)), (5, iV (M 16 t3.toNat)), (0, .ref (ad 27)), (1, .ref (ad 23)), (2, iV (x2)), (4, iV (x4))]) cx dX1_neighbours_50 rfl (by decide) rfl ?_
          refine ax_lv cx [3, 4, 5, 0, 6, 2, 1] rfl ?_
          cases h
          exact J13
        · rw [if_neg c11] at h
          refine ax_lv cx [2, 3, 4, 5, 6, 1, 0] rfl ?_
          cases h
          exact J13
  unfold fX1_neighbours at h
  refine ax_iconst cx dX1_neighbours_0 ?_
  refine ax_istore_n (lv' := [(3, iV (0)), (0, .ref (ad 27)), (1, .ref (ad 23)), (2, iV (x2))]) cx dX1_neighbours_1 rfl (by decide) rfl ?_
  refine ax_iconst cx dX1_neighbours_2 ?_
  refine ax_istore (lv' := [(4, iV (0)), (3, iV (0)), (0, .ref (ad 27)), (1, .ref (ad 23)), (2, iV (x2))]) cx dX1_neighbours_3 (by decide) rfl ?_
  obtain ⟨t21, e22, h⟩ := ob h
  refine ax_lv cx [2, 3, 4, 1, 0] rfl ?_
  have J23 : G M 70 [(2, iV (x2)), (3, iV (t21))] [] := by
    refine ax_iload_n cx 1 dX1_neighbours_70 rfl rfl ?_
    refine ax_iconst cx dX1_neighbours_71 ?_
    refine ax_iload_n cx 0 dX1_neighbours_72 rfl rfl ?_
    refine ax_ishl cx dX1_neighbours_73 ?_
    refine ax_iconst cx dX1_neighbours_74 ?_
    refine ax_ixor cx dX1_neighbours_75 ?_
    refine ax_iand cx dX1_neighbours_76 ?_
    obtain ⟨t24, e25, h⟩ := ob h
    refine ax_callS (As := [iV (zand t21 (zxor (zshl 1 x2) ((-1))))]) (n := 1) cx (kJ6_bitCount_0f7a4 l ad M (zand t21 (zxor (zshl 1 x2) ((-1)))) _ e25) gX1_neighbours_J6_bitCount_0f7a4 rfl ⟨rfl, rfl⟩ (by decide +kernel) rfl ⟨by decide, by decide⟩ rfl (Nat.le_of_ble_eq_true rfl) dX1_neighbours_77 ?_
    cases h
    exact ax_iret cx dX1_neighbours_80 rfl ⟨rfl, rfl⟩
  exact L5 FU x2 0 0 _ e22 J23
def fX1_kindsAt (M : Mem) (x1 : Int) : Option (Int) :=
    gd (inB (x1) 36) (
    gd (inB (x1 + 1) 36) (
    gd (inB (x1 + 6) 36) (
    gd (inB ((x1 + 6) + 1) 36) (
    Option.bind (fJ6_bitCount_0f7a4 M (zor (zor (zshl 1 (M 16 x1.toNat)) (zshl 1 (M 16 (x1 + 1).toNat))) (zor (zshl 1 (M 16 (x1 + 6).toNat)) (zshl 1 (M 16 ((x1 + 6) + 1).toNat))))) (fun t5 =>
    some (t5))))))
abbrev rmX1_kindsAt : Room := { frames := 1, cells := 0, slots := 0, locals := 20 }
theorem hl_X1_kindsAt_9 : Cond.fieldLink RX1 9 "PlateauBench$Foam" "owners" "[I" ∈ wsX1_kindsAt := by decide +kernel
theorem hi_X1_kindsAt_X1 : ∀ x ∈ u_ws RX1 TX1 7, x ∈ wsX1_kindsAt := by decide +kernel
set_option maxRecDepth 100000 in
set_option maxHeartbeats 4000000 in
theorem kX1_kindsAt (l : Launch) (ad : Nat → Nat) (M : Mem) (x1 : Int) (T : Int) (h : fX1_kindsAt M x1 = some T) : MX l yX1_kindsAt wsX1_kindsAt rmX1_kindsAt wC ad [.ref (ad 27), iV (x1)] M (some (iV (T))) M := by
  refine MX.of (cc := cX1_kindsAt) (nL := 4) (rt := (some .int)) (own := RX1) (by decide +kernel) rfl rfl (Nat.le_of_ble_eq_true rfl) wC_ok (fun G cx => ?_)
  show G M 0 [(0, .ref (ad 27)), (1, iV (x1))] []
  unfold fX1_kindsAt at h
  refine ax_iconst cx dX1_kindsAt_0 ?_
  refine ax_aload_n cx 0 dX1_kindsAt_1 rfl rfl ?_
  refine ax_getf (q := 27) (ci := 1) (k := 0) (v := .ref (ad 16)) cx ⟨by decide, by decide⟩ rfl rfl hi_X1_kindsAt_X1 (by decide) hl_X1_kindsAt_9 rfl rfl dX1_kindsAt_2 ?_
  refine ax_iload_n cx 1 dX1_kindsAt_5 rfl rfl ?_
  obtain ⟨g1, h⟩ := gd_some h
  refine ax_iald (n := 36) cx (by decide) rfl rfl g1 dX1_kindsAt_6 ?_
  refine ax_ishl cx dX1_kindsAt_7 ?_
  refine ax_iconst cx dX1_kindsAt_8 ?_
  refine ax_aload_n cx 0 dX1_kindsAt_9 rfl rfl ?_
  refine ax_getf (q := 27) (ci := 1) (k := 0) (v := .ref (ad 16)) cx ⟨by decide, by decide⟩ rfl rfl hi_X1_kindsAt_X1 (by decide) hl_X1_kindsAt_9 rfl rfl dX1_kindsAt_10 ?_
  refine ax_iload_n cx 1 dX1_kindsAt_13 rfl rfl ?_
  refine ax_iconst cx dX1_kindsAt_14 ?_
  refine ax_iadd cx dX1_kindsAt_15 ?_
  obtain ⟨g2, h⟩ := gd_some h
  refine ax_iald (n := 36) cx (by decide) rfl rfl g2 dX1_kindsAt_16 ?_
  refine ax_ishl cx dX1_kindsAt_17 ?_
  refine ax_ior cx dX1_kindsAt_18 ?_
  refine ax_istore_n (lv' := [(2, iV (zor (zshl 1 (M 16 x1.toNat)) (zshl 1 (M 16 (x1 + 1).toNat)))), (0, .ref (ad 27)), (1, iV (x1))]) cx dX1_kindsAt_19 rfl (by decide) rfl ?_
  refine ax_iconst cx dX1_kindsAt_20 ?_
  refine ax_aload_n cx 1 dX1_kindsAt_21 rfl rfl ?_
  refine ax_getf (q := 27) (ci := 1) (k := 0) (v := .ref (ad 16)) cx ⟨by decide, by decide⟩ rfl rfl hi_X1_kindsAt_X1 (by decide) hl_X1_kindsAt_9 rfl rfl dX1_kindsAt_22 ?_
  refine ax_iload_n cx 2 dX1_kindsAt_25 rfl rfl ?_
  refine ax_bipush (z := 6) cx dX1_kindsAt_26 (by decide) ?_
  refine ax_iadd cx dX1_kindsAt_28 ?_
  obtain ⟨g3, h⟩ := gd_some h
  refine ax_iald (n := 36) cx (by decide) rfl rfl g3 dX1_kindsAt_29 ?_
  refine ax_ishl cx dX1_kindsAt_30 ?_
  refine ax_iconst cx dX1_kindsAt_31 ?_
  refine ax_aload_n cx 1 dX1_kindsAt_32 rfl rfl ?_
  refine ax_getf (q := 27) (ci := 1) (k := 0) (v := .ref (ad 16)) cx ⟨by decide, by decide⟩ rfl rfl hi_X1_kindsAt_X1 (by decide) hl_X1_kindsAt_9 rfl rfl dX1_kindsAt_33 ?_
  refine ax_iload_n cx 2 dX1_kindsAt_36 rfl rfl ?_
  refine ax_bipush (z := 6) cx dX1_kindsAt_37 (by decide) ?_
  refine ax_iadd cx dX1_kindsAt_39 ?_
  refine ax_iconst cx dX1_kindsAt_40 ?_
  refine ax_iadd cx dX1_kindsAt_41 ?_
  obtain ⟨g4, h⟩ := gd_some h
  refine ax_iald (n := 36) cx (by decide) rfl rfl g4 dX1_kindsAt_42 ?_
  refine ax_ishl cx dX1_kindsAt_43 ?_
  refine ax_ior cx dX1_kindsAt_44 ?_
  refine ax_istore_n (lv' := [(3, iV (zor (zshl 1 (M 16 (x1 + 6).toNat)) (zshl 1 (M 16 ((x1 + 6) + 1).toNat)))), (2, iV (zor (zshl 1 (M 16 x1.toNat)) (zshl 1 (M 16 (x1 + 1).toNat)))), (0, .ref (ad 27)), (1, iV (x1))]) cx dX1_kindsAt_45 rfl (by decide) rfl ?_
  refine ax_iload_n cx 1 dX1_kindsAt_46 rfl rfl ?_
  refine ax_iload_n cx 0 dX1_kindsAt_47 rfl rfl ?_
  refine ax_ior cx dX1_kindsAt_48 ?_
  obtain ⟨t5, e6, h⟩ := ob h
  refine ax_callS (As := [iV (zor (zor (zshl 1 (M 16 x1.toNat)) (zshl 1 (M 16 (x1 + 1).toNat))) (zor (zshl 1 (M 16 (x1 + 6).toNat)) (zshl 1 (M 16 ((x1 + 6) + 1).toNat))))]) (n := 1) cx (kJ6_bitCount_0f7a4 l ad M (zor (zor (zshl 1 (M 16 x1.toNat)) (zshl 1 (M 16 (x1 + 1).toNat))) (zor (zshl 1 (M 16 (x1 + 6).toNat)) (zshl 1 (M 16 ((x1 + 6) + 1).toNat)))) _ e6) gX1_kindsAt_J6_bitCount_0f7a4 rfl ⟨rfl, rfl⟩ (by decide +kernel) rfl ⟨by decide, by decide⟩ rfl (Nat.le_of_ble_eq_true rfl) dX1_kindsAt_49 ?_
  cases h
  exact ax_iret cx dX1_kindsAt_52 rfl ⟨rfl, rfl⟩
def fX1_cornersOf_L12 : Nat → Mem → Int → Int → Int → Int → Option (Int)
  | 0, _, _, _, _, _ => none
  | n + 1, M, x1, x2, x3, x4 =>
    gd (inR (x4)) (
    if 5 ≤ x4 then (
      some (x2))
    else (
      Option.bind (fX1_kindsAt M ((x3 * 6) + x4)) (fun t5 =>
      gd (inR (t5)) (
      gd (inR (x1)) (
      Option.bind (if t5 = x1 then (
        some (x2 + 1))
      else (
        some (x2))) (fun t10 =>
      fX1_cornersOf_L12 n M x1 t10 x3 (x4 + 1)))))))
def fX1_cornersOf_L4 : Nat → Mem → Int → Int → Int → Option (Int)
  | 0, _, _, _, _ => none
  | n + 1, M, x1, x2, x3 =>
    gd (inR (x3)) (
    if 5 ≤ x3 then (
      some (x2))
    else (
      Option.bind (fX1_cornersOf_L12 FU M x1 x2 x3 0) (fun t14 =>
      fX1_cornersOf_L4 n M x1 t14 (x3 + 1))))
def fX1_cornersOf (M : Mem) (x1 : Int) : Option (Int) :=
    Option.bind (fX1_cornersOf_L4 FU M x1 0 0) (fun t18 =>
    some (t18))
abbrev rmX1_cornersOf : Room := { frames := 2, cells := 0, slots := 0, locals := 43 }
set_option maxRecDepth 100000 in
set_option maxHeartbeats 4000000 in
theorem kX1_cornersOf (l : Launch) (ad : Nat → Nat) (M : Mem) (x1 : Int) (T : Int) (h : fX1_cornersOf M x1 = some T) : MX l yX1_cornersOf wsX1_cornersOf rmX1_cornersOf wC ad [.ref (ad 27), iV (x1)] M (some (iV (T))) M := by
  refine MX.of (cc := cX1_cornersOf) (nL := 5) (rt := (some .int)) (own := RX1) (by decide +kernel) rfl rfl (Nat.le_of_ble_eq_true rfl) wC_ok (fun G cx => ?_)
  show G M 0 [(0, .ref (ad 27)), (1, iV (x1))] []
  have L12 : ∀ (n : Nat) (x1 : Int) (x2 : Int) (x3 : Int) (x4 : Int) (T13 : Int), fX1_cornersOf_L12 n M x1 x2 x3 x4 = some T13 → (G M 42 [(0, .ref (ad 27)), (1, iV (x1)), (2, iV (T13)), (3, iV (x3))] []) → G M 12 [(0, .ref (ad 27)), (1, iV (x1)), (2, iV (x2)), (3, iV (x3)), (4, iV (x4))] [] := by
    intro n
    induction n with
    | zero =>
      intro x1 x2 x3 x4 T13 h
      exact absurd h (by simp [fX1_cornersOf_L12])
    | succ n ih =>
      intro x1 x2 x3 x4 T13 h hJ
      rw [fX1_cornersOf_L12] at h
      refine ax_iload cx 4 dX1_cornersOf_12 rfl ?_
      refine ax_iconst cx dX1_cornersOf_14 ?_
      obtain ⟨g3, h⟩ := gd_some h
      refine ax_icmp_ge cx 42 dX1_cornersOf_15 (by decide) g3 ⟨by decide, by decide⟩ (fun c4 => ?_) (fun c4 => ?_)
      · rw [if_pos c4] at h
        refine ax_lv cx [0, 1, 2, 3] rfl ?_
        cases h
        exact hJ
      · rw [if_neg c4] at h
        refine ax_aload_n cx 0 dX1_cornersOf_18 rfl rfl ?_
        refine ax_iload_n cx 3 dX1_cornersOf_19 rfl rfl ?_
        refine ax_bipush (z := 6) cx dX1_cornersOf_20 (by decide) ?_
        refine ax_imul cx dX1_cornersOf_22 ?_
        refine ax_iload cx 4 dX1_cornersOf_23 rfl ?_
        refine ax_iadd cx dX1_cornersOf_25 ?_
        obtain ⟨t5, e6, h⟩ := ob h
        refine ax_callV (As := [iV ((x3 * 6) + x4)]) (q := 27) (ci := 1) (n := 1) cx (kX1_kindsAt l ad M ((x3 * 6) + x4) _ e6) gX1_cornersOf_X1_kindsAt rfl ⟨by decide, by decide⟩ rfl rfl ⟨rfl, rfl⟩ (by decide +kernel) rfl ⟨by decide, by decide⟩ rfl (Nat.le_of_ble_eq_true rfl) dX1_cornersOf_26 ?_
        refine ax_iload_n cx 1 dX1_cornersOf_29 rfl rfl ?_
        obtain ⟨g7, h⟩ := gd_some h
        obtain ⟨g8, h⟩ := gd_some h
        obtain ⟨t10, e12, h⟩ := ob h
        have J11 : G M 36 [(0, .ref (ad 27)), (1, iV (x1)), (2, iV (t10)), (3, iV (x3)), (4, iV (x4))] [] := by
          refine ax_iinc (lv' := [(4, iV (x4 + 1)), (0, .ref (ad 27)), (1, iV (x1)), (2, iV (t10)), (3, iV (x3))]) cx 4 dX1_cornersOf_36 rfl (by decide) rfl ?_
          refine ax_goto cx 12 dX1_cornersOf_39 (by decide) ?_
          refine ax_lv cx [1, 2, 3, 4, 0] rfl ?_
          exact ih _ _ _ _ _ h hJ
        clear h
        have h := e12
        clear e12
        refine ax_icmp_ne cx 36 dX1_cornersOf_30 (by decide) g7 g8 (fun c9 => ?_) (fun c9 => ?_)
        · rw [if_pos c9] at h
          refine ax_iinc (lv' := [(2, iV (x2 + 1)), (0, .ref (ad 27)), (1, iV (x1)), (3, iV (x3)), (4, iV (x4))]) cx 2 dX1_cornersOf_33 rfl (by decide) rfl ?_
          refine ax_lv cx [1, 2, 0, 3, 4] rfl ?_
          cases h
          exact J11
        · rw [if_neg c9] at h
          cases h
          exact J11
  have L4 : ∀ (n : Nat) (x1 : Int) (x2 : Int) (x3 : Int) (T17 : Int), fX1_cornersOf_L4 n M x1 x2 x3 = some T17 → (G M 48 [(2, iV (T17))] []) → G M 4 [(0, .ref (ad 27)), (1, iV (x1)), (2, iV (x2)), (3, iV (x3))] [] := by
    intro n
    induction n with
    | zero =>
      intro x1 x2 x3 T17 h
      exact absurd h (by simp [fX1_cornersOf_L4])
    | succ n ih =>
      intro x1 x2 x3 T17 h hJ
      rw [fX1_cornersOf_L4] at h
      refine ax_iload_n cx 3 dX1_cornersOf_4 rfl rfl ?_
      refine ax_iconst cx dX1_cornersOf_5 ?_
      obtain ⟨g1, h⟩ := gd_some h
      refine ax_icmp_ge cx 48 dX1_cornersOf_6 (by decide) g1 ⟨by decide, by decide⟩ (fun c2 => ?_) (fun c2 => ?_)
      · rw [if_pos c2] at h
        refine ax_lv cx [2] rfl ?_
        cases h
        exact hJ
      · rw [if_neg c2] at h
        refine ax_iconst cx dX1_cornersOf_9 ?_
        refine ax_istore (lv' := [(4, iV (0)), (0, .ref (ad 27)), (1, iV (x1)), (2, iV (x2)), (3, iV (x3))]) cx dX1_cornersOf_10 (by decide) rfl ?_
        obtain ⟨t14, e15, h⟩ := ob h
        refine ax_lv cx [1, 2, 3, 4, 0] rfl ?_
        have J16 : G M 42 [(0, .ref (ad 27)), (1, iV (x1)), (2, iV (t14)), (3, iV (x3))] [] := by
          refine ax_iinc (lv' := [(3, iV (x3 + 1)), (0, .ref (ad 27)), (1, iV (x1)), (2, iV (t14))]) cx 3 dX1_cornersOf_42 rfl (by decide) rfl ?_
          refine ax_goto cx 4 dX1_cornersOf_45 (by decide) ?_
          refine ax_lv cx [1, 2, 3, 0] rfl ?_
          exact ih _ _ _ _ h hJ
        exact L12 FU x1 x2 x3 0 _ e15 J16
  unfold fX1_cornersOf at h
  refine ax_iconst cx dX1_cornersOf_0 ?_
  refine ax_istore_n (lv' := [(2, iV (0)), (0, .ref (ad 27)), (1, iV (x1))]) cx dX1_cornersOf_1 rfl (by decide) rfl ?_
  refine ax_iconst cx dX1_cornersOf_2 ?_
  refine ax_istore_n (lv' := [(3, iV (0)), (2, iV (0)), (0, .ref (ad 27)), (1, iV (x1))]) cx dX1_cornersOf_3 rfl (by decide) rfl ?_
  obtain ⟨t18, e19, h⟩ := ob h
  refine ax_lv cx [2, 3, 1, 0] rfl ?_
  have J20 : G M 48 [(2, iV (t18))] [] := by
    refine ax_iload_n cx 0 dX1_cornersOf_48 rfl rfl ?_
    cases h
    exact ax_iret cx dX1_cornersOf_49 rfl ⟨rfl, rfl⟩
  exact L4 FU x1 0 0 _ e19 J20
