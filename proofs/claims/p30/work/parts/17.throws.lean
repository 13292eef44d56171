theorem hb1_48 : ∀ w ∈ (vx_atS RX5 48 "java/lang/IllegalArgumentException" ["java/lang/RuntimeException", "java/lang/Exception"]).filter (fun w => !goodWord w), w ∈ BW := by decide +kernel
theorem hb2_48 : ∀ w ∈ Cond.classLink RX5 44 "java/lang/IllegalArgumentException" :: Cond.initialized "java/lang/IllegalArgumentException" :: vx_atS RX5 48 "java/lang/IllegalArgumentException" ["java/lang/RuntimeException", "java/lang/Exception"], vx_ot w = true := by decide +kernel
theorem hb1_219 : ∀ w ∈ (vx_atS RX5 219 "java/lang/IndexOutOfBoundsException" ["java/lang/RuntimeException", "java/lang/Exception"]).filter (fun w => !goodWord w), w ∈ BW := by decide +kernel
theorem hb2_219 : ∀ w ∈ Cond.classLink RX5 215 "java/lang/IndexOutOfBoundsException" :: Cond.initialized "java/lang/IndexOutOfBoundsException" :: vx_atS RX5 219 "java/lang/IndexOutOfBoundsException" ["java/lang/RuntimeException", "java/lang/Exception"], vx_ot w = true := by decide +kernel
theorem hb1_96 : ∀ w ∈ (vx_atS RX5 96 "java/lang/IllegalStateException" ["java/lang/RuntimeException", "java/lang/Exception"]).filter (fun w => !goodWord w), w ∈ BW := by decide +kernel
theorem hb2_96 : ∀ w ∈ Cond.classLink RX5 92 "java/lang/IllegalStateException" :: Cond.initialized "java/lang/IllegalStateException" :: vx_atS RX5 96 "java/lang/IllegalStateException" ["java/lang/RuntimeException", "java/lang/Exception"], vx_ot w = true := by decide +kernel
def fX5_cost (M : Mem) (x1 : Int) (x2 : Int) : Option (Nat × Int × Mem) :=
    gd (inR (x1)) (
    if x1 < 0 then (
      some (2, 0, M))
    else (
      if x1 ≤ 1 then (
        gd (inR (x2)) (
        if x2 < 1 then (
          some (2, 0, M))
        else (
          if x2 ≤ 9 then (
            Option.bind (fX1_energyNow M) (fun t7 =>
            Option.bind (fX2_changeDirection M x1 x2) (fun t9 =>
            Option.bind (fX5_takeInNewPrices t9.2 t7) (fun t11 =>
            some (0, t9.1, t11)))))
          else (
            some (2, 0, M)))))
      else (
        some (2, 0, M))))
abbrev rmX5_cost : Room := { frames := 4, cells := 0, slots := 0, locals := 86 }
theorem hl_X5_cost_40 : Cond.fieldLink RX5 40 "PlateauBench" "foam" "LPlateauBench$Foam;" ∈ wsX5_cost := by decide +kernel
theorem hl_X5_cost_10 : Cond.fieldLink RX5 10 "PlateauBench" "grid" "LPlateauBench$Grid;" ∈ wsX5_cost := by decide +kernel
theorem hi_X5_cost_X5 : ∀ x ∈ u_ws RX5 TX5 5, x ∈ wsX5_cost := by decide +kernel
theorem ht1_X5_cost_t9 : Cond.classLink RX5 44 "java/lang/IllegalArgumentException" ∈ wsX5_cost := by decide +kernel
theorem ht2_X5_cost_t9 : Cond.initialized "java/lang/IllegalArgumentException" ∈ wsX5_cost := by decide +kernel
theorem ht3_X5_cost_t9 : ∀ w ∈ (vx_atS RX5 48 "java/lang/IllegalArgumentException" ["java/lang/RuntimeException", "java/lang/Exception"]).filter goodWord, w ∈ wsX5_cost := fun _ h => List.mem_cons_of_mem _ (List.mem_append_right _ h)
theorem ht1_X5_cost_t30 : Cond.classLink RX5 44 "java/lang/IllegalArgumentException" ∈ wsX5_cost := by decide +kernel
theorem ht2_X5_cost_t30 : Cond.initialized "java/lang/IllegalArgumentException" ∈ wsX5_cost := by decide +kernel
theorem ht3_X5_cost_t30 : ∀ w ∈ (vx_atS RX5 48 "java/lang/IllegalArgumentException" ["java/lang/RuntimeException", "java/lang/Exception"]).filter goodWord, w ∈ wsX5_cost := fun _ h => List.mem_cons_of_mem _ (List.mem_append_right _ h)
set_option maxRecDepth 100000 in
set_option maxHeartbeats 4000000 in
theorem kX5_cost (l : Launch) (ad : Nat → Nat) (M : Mem) (x1 : Int) (x2 : Int) (T : Nat × Int × Mem) (h : fX5_cost M x1 x2 = some T) (hT : T.1 = 0) : MX l yX5_cost wsX5_cost rmX5_cost wC ad [.ref (ad 28), iV (x1), iV (x2)] M (some (iV (T.2.1))) T.2.2 := by
  refine MX.of (cc := cX5_cost) (nL := 5) (rt := (some .int)) (own := RX5) (by decide +kernel) rfl rfl (Nat.le_of_ble_eq_true rfl) wC_ok (fun G cx => ?_)
  show G M 0 [(0, .ref (ad 28)), (1, iV (x1)), (2, iV (x2))] []
  unfold fX5_cost at h
  refine ax_iload_n cx 1 dX5_cost_0 rfl rfl ?_
  obtain ⟨g1, h⟩ := gd_some h
  refine ax_if_lt cx 9 dX5_cost_1 (by decide) g1 (fun c2 => ?_) (fun c2 => ?_)
  · rw [if_pos c2] at h
    cases h
    exact absurd hT (Nat.succ_ne_zero _)
  · rw [if_neg c2] at h
    refine ax_iload_n cx 1 dX5_cost_4 rfl rfl ?_
    refine ax_iconst cx dX5_cost_5 ?_
    refine ax_icmp_le cx 19 dX5_cost_6 (by decide) g1 ⟨by decide, by decide⟩ (fun c3 => ?_) (fun c3 => ?_)
    · rw [if_pos c3] at h
      refine ax_iload_n cx 2 dX5_cost_19 rfl rfl ?_
      refine ax_iconst cx dX5_cost_20 ?_
      obtain ⟨g4, h⟩ := gd_some h
      refine ax_icmp_lt cx 30 dX5_cost_21 (by decide) g4 ⟨by decide, by decide⟩ (fun c5 => ?_) (fun c5 => ?_)
      · rw [if_pos c5] at h
        cases h
        exact absurd hT (Nat.succ_ne_zero _)
      · rw [if_neg c5] at h
        refine ax_iload_n cx 2 dX5_cost_24 rfl rfl ?_
        refine ax_bipush (z := 9) cx dX5_cost_25 (by decide) ?_
        refine ax_icmp_le cx 40 dX5_cost_27 (by decide) g4 ⟨by decide, by decide⟩ (fun c6 => ?_) (fun c6 => ?_)
        · rw [if_pos c6] at h
          refine ax_aload_n cx 0 dX5_cost_40 rfl rfl ?_
          refine ax_getf (q := 28) (ci := 5) (k := 4) (v := .ref (ad 27)) cx ⟨by decide, by decide⟩ rfl rfl hi_X5_cost_X5 (by decide) hl_X5_cost_40 rfl rfl dX5_cost_41 ?_
          refine ax_aload_n cx 0 dX5_cost_44 rfl rfl ?_
          refine ax_getf (q := 28) (ci := 5) (k := 0) (v := .ref (ad 23)) cx ⟨by decide, by decide⟩ rfl rfl hi_X5_cost_X5 (by decide) hl_X5_cost_10 rfl rfl dX5_cost_45 ?_
          obtain ⟨t7, e8, h⟩ := ob h
          refine ax_callV (As := [.ref (ad 23)]) (q := 27) (ci := 1) (n := 1) cx (kX1_energyNow l ad M  _ e8) gX5_cost_X1_energyNow rfl ⟨by decide, by decide⟩ rfl rfl ⟨rfl, rfl⟩ (by decide +kernel) rfl ⟨by decide, by decide⟩ rfl (Nat.le_of_ble_eq_true rfl) dX5_cost_48 ?_
          refine ax_istore_n (lv' := [(3, iV (t7)), (0, .ref (ad 28)), (1, iV (x1)), (2, iV (x2))]) cx dX5_cost_51 rfl (by decide) rfl ?_
          refine ax_aload_n cx 1 dX5_cost_52 rfl rfl ?_
          refine ax_getf (q := 28) (ci := 5) (k := 0) (v := .ref (ad 23)) cx ⟨by decide, by decide⟩ rfl rfl hi_X5_cost_X5 (by decide) hl_X5_cost_10 rfl rfl dX5_cost_53 ?_
          refine ax_iload_n cx 2 dX5_cost_56 rfl rfl ?_
          refine ax_iload_n cx 3 dX5_cost_57 rfl rfl ?_
          obtain ⟨t9, e10, h⟩ := ob h
          refine ax_callV (As := [iV (x1), iV (x2)]) (q := 23) (ci := 2) (n := 2) cx (kX2_changeDirection l ad M x1 x2 _ e10) gX5_cost_X2_changeDirection rfl ⟨by decide, by decide⟩ rfl rfl ⟨rfl, rfl⟩ (by decide +kernel) rfl ⟨by decide, by decide⟩ rfl (Nat.le_of_ble_eq_true rfl) dX5_cost_58 ?_
          refine ax_istore (lv' := [(4, iV (t9.1)), (3, iV (t7)), (0, .ref (ad 28)), (1, iV (x1)), (2, iV (x2))]) cx dX5_cost_61 (by decide) rfl ?_
          refine ax_aload_n cx 2 dX5_cost_63 rfl rfl ?_
          refine ax_iload_n cx 1 dX5_cost_64 rfl rfl ?_
          obtain ⟨t11, e12, h⟩ := ob h
          refine ax_callV (As := [iV (t7)]) (q := 28) (ci := 5) (n := 1) cx (kX5_takeInNewPrices l ad t9.2 t7 _ e12) gX5_cost_X5_takeInNewPrices rfl ⟨by decide, by decide⟩ rfl rfl ⟨rfl, rfl⟩ (by decide +kernel) rfl ⟨by decide, by decide⟩ rfl (Nat.le_of_ble_eq_true rfl) dX5_cost_65 ?_
          refine ax_iload cx 0 dX5_cost_68 rfl ?_
          cases h
          exact ax_iret cx dX5_cost_70 rfl ⟨rfl, rfl⟩
        · rw [if_neg c6] at h
          cases h
          exact absurd hT (Nat.succ_ne_zero _)
    · rw [if_neg c3] at h
      cases h
      exact absurd hT (Nat.succ_ne_zero _)
abbrev rxX5_cost : Room := { frames := 6, cells := 1, slots := 6, locals := 90 }
set_option maxRecDepth 100000 in
set_option maxHeartbeats 4000000 in
theorem xX5_cost (l : Launch) (hl : l.stackTraces = false) (ad : Nat → Nat) (M : Mem) (x1 : Int) (x2 : Int) (T : Nat × Int × Mem) (h : fX5_cost M x1 x2 = some T) (hT : ¬ T.1 = 0) : MT l yX5_cost wsX5_cost rxX5_cost wC ad [.ref (ad 28), iV (x1), iV (x2)] M (excN T.1) T.2.2 := by
  refine MT.of (cc := cX5_cost) (nL := 5) (rt := (some .int)) (own := RX5) (by decide +kernel) rfl rfl (Nat.le_of_ble_eq_true rfl) wC_ok hl ⟨by decide, by decide⟩ (fun G cy => ?_)
  have cx := cy.cx
  show G M 0 [(0, .ref (ad 28)), (1, iV (x1)), (2, iV (x2))] []
  unfold fX5_cost at h
  refine ax_iload_n cx 1 dX5_cost_0 rfl rfl ?_
  obtain ⟨g1, h⟩ := gd_some h
  refine ax_if_lt cx 9 dX5_cost_1 (by decide) g1 (fun c2 => ?_) (fun c2 => ?_)
  · rw [if_pos c2] at h
    cases h
    exact ay_throw (cls := "java/lang/IllegalArgumentException") (text := "no such direction") (ik := 44) (is := 46) (ic := 48) cy rfl (by decide +kernel) ht1_X5_cost_t9 ht2_X5_cost_t9 ht3_X5_cost_t9 hb1_48 hb2_48 (by decide +kernel) BW_tab dX5_cost_9 dX5_cost_12 dX5_cost_13 dX5_cost_15 dX5_cost_18 (by decide) (Nat.le_of_ble_eq_true rfl) ⟨rfl, rfl⟩
  · rw [if_neg c2] at h
    refine ax_iload_n cx 1 dX5_cost_4 rfl rfl ?_
    refine ax_iconst cx dX5_cost_5 ?_
    refine ax_icmp_le cx 19 dX5_cost_6 (by decide) g1 ⟨by decide, by decide⟩ (fun c3 => ?_) (fun c3 => ?_)
    · rw [if_pos c3] at h
      refine ax_iload_n cx 2 dX5_cost_19 rfl rfl ?_
      refine ax_iconst cx dX5_cost_20 ?_
      obtain ⟨g4, h⟩ := gd_some h
      refine ax_icmp_lt cx 30 dX5_cost_21 (by decide) g4 ⟨by decide, by decide⟩ (fun c5 => ?_) (fun c5 => ?_)
      · rw [if_pos c5] at h
        cases h
        exact ay_throw (cls := "java/lang/IllegalArgumentException") (text := "a direction costs 1 to 9") (ik := 44) (is := 51) (ic := 48) cy rfl (by decide +kernel) ht1_X5_cost_t30 ht2_X5_cost_t30 ht3_X5_cost_t30 hb1_48 hb2_48 (by decide +kernel) BW_tab dX5_cost_30 dX5_cost_33 dX5_cost_34 dX5_cost_36 dX5_cost_39 (by decide) (Nat.le_of_ble_eq_true rfl) ⟨rfl, rfl⟩
      · rw [if_neg c5] at h
        refine ax_iload_n cx 2 dX5_cost_24 rfl rfl ?_
        refine ax_bipush (z := 9) cx dX5_cost_25 (by decide) ?_
        refine ax_icmp_le cx 40 dX5_cost_27 (by decide) g4 ⟨by decide, by decide⟩ (fun c6 => ?_) (fun c6 => ?_)
        · rw [if_pos c6] at h
          refine ax_aload_n cx 0 dX5_cost_40 rfl rfl ?_
          refine ax_getf (q := 28) (ci := 5) (k := 4) (v := .ref (ad 27)) cx ⟨by decide, by decide⟩ rfl rfl hi_X5_cost_X5 (by decide) hl_X5_cost_40 rfl rfl dX5_cost_41 ?_
          refine ax_aload_n cx 0 dX5_cost_44 rfl rfl ?_
          refine ax_getf (q := 28) (ci := 5) (k := 0) (v := .ref (ad 23)) cx ⟨by decide, by decide⟩ rfl rfl hi_X5_cost_X5 (by decide) hl_X5_cost_10 rfl rfl dX5_cost_45 ?_
          obtain ⟨t7, e8, h⟩ := ob h
          refine ax_callV (As := [.ref (ad 23)]) (q := 27) (ci := 1) (n := 1) cx (kX1_energyNow l ad M  _ e8) gX5_cost_X1_energyNow rfl ⟨by decide, by decide⟩ rfl rfl ⟨rfl, rfl⟩ (by decide +kernel) rfl ⟨by decide, by decide⟩ rfl (Nat.le_of_ble_eq_true rfl) dX5_cost_48 ?_
          refine ax_istore_n (lv' := [(3, iV (t7)), (0, .ref (ad 28)), (1, iV (x1)), (2, iV (x2))]) cx dX5_cost_51 rfl (by decide) rfl ?_
          refine ax_aload_n cx 1 dX5_cost_52 rfl rfl ?_
          refine ax_getf (q := 28) (ci := 5) (k := 0) (v := .ref (ad 23)) cx ⟨by decide, by decide⟩ rfl rfl hi_X5_cost_X5 (by decide) hl_X5_cost_10 rfl rfl dX5_cost_53 ?_
          refine ax_iload_n cx 2 dX5_cost_56 rfl rfl ?_
          refine ax_iload_n cx 3 dX5_cost_57 rfl rfl ?_
          obtain ⟨t9, e10, h⟩ := ob h
          refine ax_callV (As := [iV (x1), iV (x2)]) (q := 23) (ci := 2) (n := 2) cx (kX2_changeDirection l ad M x1 x2 _ e10) gX5_cost_X2_changeDirection rfl ⟨by decide, by decide⟩ rfl rfl ⟨rfl, rfl⟩ (by decide +kernel) rfl ⟨by decide, by decide⟩ rfl (Nat.le_of_ble_eq_true rfl) dX5_cost_58 ?_
          refine ax_istore (lv' := [(4, iV (t9.1)), (3, iV (t7)), (0, .ref (ad 28)), (1, iV (x1)), (2, iV (x2))]) cx dX5_cost_61 (by decide) rfl ?_
          refine ax_aload_n cx 2 dX5_cost_63 rfl rfl ?_
          refine ax_iload_n cx 1 dX5_cost_64 rfl rfl ?_
          obtain ⟨t11, e12, h⟩ := ob h
          refine ax_callV (As := [iV (t7)]) (q := 28) (ci := 5) (n := 1) cx (kX5_takeInNewPrices l ad t9.2 t7 _ e12) gX5_cost_X5_takeInNewPrices rfl ⟨by decide, by decide⟩ rfl rfl ⟨rfl, rfl⟩ (by decide +kernel) rfl ⟨by decide, by decide⟩ rfl (Nat.le_of_ble_eq_true rfl) dX5_cost_65 ?_
          refine ax_iload cx 0 dX5_cost_68 rfl ?_
          cases h
          exact absurd rfl hT
        · rw [if_neg c6] at h
          cases h
          exact ay_throw (cls := "java/lang/IllegalArgumentException") (text := "a direction costs 1 to 9") (ik := 44) (is := 51) (ic := 48) cy rfl (by decide +kernel) ht1_X5_cost_t30 ht2_X5_cost_t30 ht3_X5_cost_t30 hb1_48 hb2_48 (by decide +kernel) BW_tab dX5_cost_30 dX5_cost_33 dX5_cost_34 dX5_cost_36 dX5_cost_39 (by decide) (Nat.le_of_ble_eq_true rfl) ⟨rfl, rfl⟩
    · rw [if_neg c3] at h
      cases h
      exact ay_throw (cls := "java/lang/IllegalArgumentException") (text := "no such direction") (ik := 44) (is := 46) (ic := 48) cy rfl (by decide +kernel) ht1_X5_cost_t9 ht2_X5_cost_t9 ht3_X5_cost_t9 hb1_48 hb2_48 (by decide +kernel) BW_tab dX5_cost_9 dX5_cost_12 dX5_cost_13 dX5_cost_15 dX5_cost_18 (by decide) (Nat.le_of_ble_eq_true rfl) ⟨rfl, rfl⟩
def fX5_checkEdge (M : Mem) (x0 : Int) : Option (Nat × Int × Mem) :=
    gd (inR (x0)) (
    if x0 < 0 then (
      some (1, 0, M))
    else (
      if x0 < 60 then (
        some (0, 0, M))
      else (
        some (1, 0, M))))
abbrev rmX5_checkEdge : Room := { frames := 0, cells := 0, slots := 0, locals := 0 }
theorem ht1_X5_checkEdge_t10 : Cond.classLink RX5 215 "java/lang/IndexOutOfBoundsException" ∈ wsX5_checkEdge := by decide +kernel
theorem ht2_X5_checkEdge_t10 : Cond.initialized "java/lang/IndexOutOfBoundsException" ∈ wsX5_checkEdge := by decide +kernel
theorem ht3_X5_checkEdge_t10 : ∀ w ∈ (vx_atS RX5 219 "java/lang/IndexOutOfBoundsException" ["java/lang/RuntimeException", "java/lang/Exception"]).filter goodWord, w ∈ wsX5_checkEdge := fun _ h => List.mem_cons_of_mem _ (List.mem_append_right _ h)
set_option maxRecDepth 100000 in
set_option maxHeartbeats 4000000 in
theorem kX5_checkEdge (l : Launch) (ad : Nat → Nat) (M : Mem) (x0 : Int) (T : Nat × Int × Mem) (h : fX5_checkEdge M x0 = some T) (hT : T.1 = 0) : MX l yX5_checkEdge wsX5_checkEdge rmX5_checkEdge wC ad [iV (x0)] M none M := by
  refine MX.of (cc := cX5_checkEdge) (nL := 1) (rt := none) (own := RX5) (by decide +kernel) rfl rfl (Nat.le_of_ble_eq_true rfl) wC_ok (fun G cx => ?_)
  show G M 0 [(0, iV (x0))] []
  unfold fX5_checkEdge at h
  refine ax_iload_n cx 0 dX5_checkEdge_0 rfl rfl ?_
  obtain ⟨g1, h⟩ := gd_some h
  refine ax_if_lt cx 10 dX5_checkEdge_1 (by decide) g1 (fun c2 => ?_) (fun c2 => ?_)
  · rw [if_pos c2] at h
    cases h
    exact absurd hT (Nat.succ_ne_zero _)
  · rw [if_neg c2] at h
    refine ax_iload_n cx 0 dX5_checkEdge_4 rfl rfl ?_
    refine ax_bipush (z := 60) cx dX5_checkEdge_5 (by decide) ?_
    refine ax_icmp_lt cx 20 dX5_checkEdge_7 (by decide) g1 ⟨by decide, by decide⟩ (fun c3 => ?_) (fun c3 => ?_)
    · rw [if_pos c3] at h
      cases h
      exact ax_vret cx dX5_checkEdge_20 rfl ⟨rfl, rfl⟩
    · rw [if_neg c3] at h
      cases h
      exact absurd hT (Nat.succ_ne_zero _)
abbrev rxX5_checkEdge : Room := { frames := 6, cells := 1, slots := 6, locals := 90 }
set_option maxRecDepth 100000 in
set_option maxHeartbeats 4000000 in
theorem xX5_checkEdge (l : Launch) (hl : l.stackTraces = false) (ad : Nat → Nat) (M : Mem) (x0 : Int) (T : Nat × Int × Mem) (h : fX5_checkEdge M x0 = some T) (hT : ¬ T.1 = 0) : MT l yX5_checkEdge wsX5_checkEdge rxX5_checkEdge wC ad [iV (x0)] M (excN T.1) M := by
  refine MT.of (cc := cX5_checkEdge) (nL := 1) (rt := none) (own := RX5) (by decide +kernel) rfl rfl (Nat.le_of_ble_eq_true rfl) wC_ok hl ⟨by decide, by decide⟩ (fun G cy => ?_)
  have cx := cy.cx
  show G M 0 [(0, iV (x0))] []
  unfold fX5_checkEdge at h
  refine ax_iload_n cx 0 dX5_checkEdge_0 rfl rfl ?_
  obtain ⟨g1, h⟩ := gd_some h
  refine ax_if_lt cx 10 dX5_checkEdge_1 (by decide) g1 (fun c2 => ?_) (fun c2 => ?_)
  · rw [if_pos c2] at h
    cases h
    exact ay_throw (cls := "java/lang/IndexOutOfBoundsException") (text := "no such edge") (ik := 215) (is := 220) (ic := 219) cy rfl (by decide +kernel) ht1_X5_checkEdge_t10 ht2_X5_checkEdge_t10 ht3_X5_checkEdge_t10 hb1_219 hb2_219 (by decide +kernel) BW_tab dX5_checkEdge_10 dX5_checkEdge_13 dX5_checkEdge_14 dX5_checkEdge_16 dX5_checkEdge_19 (by decide) (Nat.le_of_ble_eq_true rfl) ⟨rfl, rfl⟩
  · rw [if_neg c2] at h
    refine ax_iload_n cx 0 dX5_checkEdge_4 rfl rfl ?_
    refine ax_bipush (z := 60) cx dX5_checkEdge_5 (by decide) ?_
    refine ax_icmp_lt cx 20 dX5_checkEdge_7 (by decide) g1 ⟨by decide, by decide⟩ (fun c3 => ?_) (fun c3 => ?_)
    · rw [if_pos c3] at h
      cases h
      exact absurd rfl hT
    · rw [if_neg c3] at h
      cases h
      exact ay_throw (cls := "java/lang/IndexOutOfBoundsException") (text := "no such edge") (ik := 215) (is := 220) (ic := 219) cy rfl (by decide +kernel) ht1_X5_checkEdge_t10 ht2_X5_checkEdge_t10 ht3_X5_checkEdge_t10 hb1_219 hb2_219 (by decide +kernel) BW_tab dX5_checkEdge_10 dX5_checkEdge_13 dX5_checkEdge_14 dX5_checkEdge_16 dX5_checkEdge_19 (by decide) (Nat.le_of_ble_eq_true rfl) ⟨rfl, rfl⟩
def fX5_lay (M : Mem) (x1 : Int) (x2 : Int) : Option (Nat × Int × Mem) :=
    Option.bind (fX5_checkEdge M x1) (fun t1 => if t1.1 = 0 then (
      gd (inR (x2)) (
      if x2 < 0 then (
        some (2, 0, M))
      else (
        if x2 ≤ 50 then (
          Option.bind (fX1_energyNow M) (fun t7 =>
          Option.bind (fX2_changeLaid M x1 x2) (fun t9 =>
          Option.bind (fX5_takeInNewPrices t9.2 t7) (fun t11 =>
          some (0, t9.1, t11)))))
        else (
          some (2, 0, M)))))
    else some (t1.1, 0, M))
abbrev rmX5_lay : Room := { frames := 4, cells := 0, slots := 0, locals := 86 }
theorem hl_X5_lay_40 : Cond.fieldLink RX5 40 "PlateauBench" "foam" "LPlateauBench$Foam;" ∈ wsX5_lay := by decide +kernel
theorem hl_X5_lay_10 : Cond.fieldLink RX5 10 "PlateauBench" "grid" "LPlateauBench$Grid;" ∈ wsX5_lay := by decide +kernel
theorem hi_X5_lay_X5 : ∀ x ∈ u_ws RX5 TX5 5, x ∈ wsX5_lay := by decide +kernel
theorem ht1_X5_lay_t14 : Cond.classLink RX5 44 "java/lang/IllegalArgumentException" ∈ wsX5_lay := by decide +kernel
theorem ht2_X5_lay_t14 : Cond.initialized "java/lang/IllegalArgumentException" ∈ wsX5_lay := by decide +kernel
theorem ht3_X5_lay_t14 : ∀ w ∈ (vx_atS RX5 48 "java/lang/IllegalArgumentException" ["java/lang/RuntimeException", "java/lang/Exception"]).filter goodWord, w ∈ wsX5_lay := fun _ h => List.mem_cons_of_mem _ (List.mem_append_left _ (List.mem_append_right _ h))
set_option maxRecDepth 100000 in
set_option maxHeartbeats 4000000 in
theorem kX5_lay (l : Launch) (ad : Nat → Nat) (M : Mem) (x1 : Int) (x2 : Int) (T : Nat × Int × Mem) (h : fX5_lay M x1 x2 = some T) (hT : T.1 = 0) : MX l yX5_lay wsX5_lay rmX5_lay wC ad [.ref (ad 28), iV (x1), iV (x2)] M (some (iV (T.2.1))) T.2.2 := by
  refine MX.of (cc := cX5_lay) (nL := 5) (rt := (some .int)) (own := RX5) (by decide +kernel) rfl rfl (Nat.le_of_ble_eq_true rfl) wC_ok (fun G cx => ?_)
  show G M 0 [(0, .ref (ad 28)), (1, iV (x1)), (2, iV (x2))] []
  unfold fX5_lay at h
  refine ax_iload_n cx 1 dX5_lay_0 rfl rfl ?_
  obtain ⟨t1, e2, h⟩ := ob h
  by_cases z3 : t1.1 = 0
  · rw [if_pos z3] at h
    refine ax_callS (As := [iV (x1)]) (n := 1) (st := []) cx (kX5_checkEdge l ad M x1 _ e2 z3) gX5_lay_X5_checkEdge rfl ⟨rfl, rfl⟩ (by decide +kernel) rfl ⟨by decide, by decide⟩ rfl (Nat.le_of_ble_eq_true rfl) dX5_lay_1 ?_
    refine ax_iload_n cx 2 dX5_lay_4 rfl rfl ?_
    obtain ⟨g4, h⟩ := gd_some h
    refine ax_if_lt cx 14 dX5_lay_5 (by decide) g4 (fun c5 => ?_) (fun c5 => ?_)
    · rw [if_pos c5] at h
      cases h
      exact absurd hT (Nat.succ_ne_zero _)
    · rw [if_neg c5] at h
      refine ax_iload_n cx 2 dX5_lay_8 rfl rfl ?_
      refine ax_bipush (z := 50) cx dX5_lay_9 (by decide) ?_
      refine ax_icmp_le cx 24 dX5_lay_11 (by decide) g4 ⟨by decide, by decide⟩ (fun c6 => ?_) (fun c6 => ?_)
      · rw [if_pos c6] at h
        refine ax_aload_n cx 0 dX5_lay_24 rfl rfl ?_
        refine ax_getf (q := 28) (ci := 5) (k := 4) (v := .ref (ad 27)) cx ⟨by decide, by decide⟩ rfl rfl hi_X5_lay_X5 (by decide) hl_X5_lay_40 rfl rfl dX5_lay_25 ?_
        refine ax_aload_n cx 0 dX5_lay_28 rfl rfl ?_
        refine ax_getf (q := 28) (ci := 5) (k := 0) (v := .ref (ad 23)) cx ⟨by decide, by decide⟩ rfl rfl hi_X5_lay_X5 (by decide) hl_X5_lay_10 rfl rfl dX5_lay_29 ?_
        obtain ⟨t7, e8, h⟩ := ob h
        refine ax_callV (As := [.ref (ad 23)]) (q := 27) (ci := 1) (n := 1) cx (kX1_energyNow l ad M  _ e8) gX5_lay_X1_energyNow rfl ⟨by decide, by decide⟩ rfl rfl ⟨rfl, rfl⟩ (by decide +kernel) rfl ⟨by decide, by decide⟩ rfl (Nat.le_of_ble_eq_true rfl) dX5_lay_32 ?_
        refine ax_istore_n (lv' := [(3, iV (t7)), (0, .ref (ad 28)), (1, iV (x1)), (2, iV (x2))]) cx dX5_lay_35 rfl (by decide) rfl ?_
        refine ax_aload_n cx 1 dX5_lay_36 rfl rfl ?_
        refine ax_getf (q := 28) (ci := 5) (k := 0) (v := .ref (ad 23)) cx ⟨by decide, by decide⟩ rfl rfl hi_X5_lay_X5 (by decide) hl_X5_lay_10 rfl rfl dX5_lay_37 ?_
        refine ax_iload_n cx 2 dX5_lay_40 rfl rfl ?_
        refine ax_iload_n cx 3 dX5_lay_41 rfl rfl ?_
        obtain ⟨t9, e10, h⟩ := ob h
        refine ax_callV (As := [iV (x1), iV (x2)]) (q := 23) (ci := 2) (n := 2) cx (kX2_changeLaid l ad M x1 x2 _ e10) gX5_lay_X2_changeLaid rfl ⟨by decide, by decide⟩ rfl rfl ⟨rfl, rfl⟩ (by decide +kernel) rfl ⟨by decide, by decide⟩ rfl (Nat.le_of_ble_eq_true rfl) dX5_lay_42 ?_
        refine ax_istore (lv' := [(4, iV (t9.1)), (3, iV (t7)), (0, .ref (ad 28)), (1, iV (x1)), (2, iV (x2))]) cx dX5_lay_45 (by decide) rfl ?_
        refine ax_aload_n cx 2 dX5_lay_47 rfl rfl ?_
        refine ax_iload_n cx 1 dX5_lay_48 rfl rfl ?_
        obtain ⟨t11, e12, h⟩ := ob h
        refine ax_callV (As := [iV (t7)]) (q := 28) (ci := 5) (n := 1) cx (kX5_takeInNewPrices l ad t9.2 t7 _ e12) gX5_lay_X5_takeInNewPrices rfl ⟨by decide, by decide⟩ rfl rfl ⟨rfl, rfl⟩ (by decide +kernel) rfl ⟨by decide, by decide⟩ rfl (Nat.le_of_ble_eq_true rfl) dX5_lay_49 ?_
        refine ax_iload cx 0 dX5_lay_52 rfl ?_
        cases h
        exact ax_iret cx dX5_lay_54 rfl ⟨rfl, rfl⟩
      · rw [if_neg c6] at h
        cases h
        exact absurd hT (Nat.succ_ne_zero _)
  · rw [if_neg z3] at h
    cases h
    exact absurd hT z3
abbrev rxX5_lay : Room := { frames := 7, cells := 1, slots := 6, locals := 110 }
set_option maxRecDepth 100000 in
set_option maxHeartbeats 4000000 in
theorem xX5_lay (l : Launch) (hl : l.stackTraces = false) (ad : Nat → Nat) (M : Mem) (x1 : Int) (x2 : Int) (T : Nat × Int × Mem) (h : fX5_lay M x1 x2 = some T) (hT : ¬ T.1 = 0) : MT l yX5_lay wsX5_lay rxX5_lay wC ad [.ref (ad 28), iV (x1), iV (x2)] M (excN T.1) T.2.2 := by
  refine MT.of (cc := cX5_lay) (nL := 5) (rt := (some .int)) (own := RX5) (by decide +kernel) rfl rfl (Nat.le_of_ble_eq_true rfl) wC_ok hl ⟨by decide, by decide⟩ (fun G cy => ?_)
  have cx := cy.cx
  show G M 0 [(0, .ref (ad 28)), (1, iV (x1)), (2, iV (x2))] []
  unfold fX5_lay at h
  refine ax_iload_n cx 1 dX5_lay_0 rfl rfl ?_
  obtain ⟨t1, e2, h⟩ := ob h
  by_cases z3 : t1.1 = 0
  · rw [if_pos z3] at h
    refine ax_callS (As := [iV (x1)]) (n := 1) (st := []) cx (kX5_checkEdge l ad M x1 _ e2 z3) gX5_lay_X5_checkEdge rfl ⟨rfl, rfl⟩ (by decide +kernel) rfl ⟨by decide, by decide⟩ rfl (Nat.le_of_ble_eq_true rfl) dX5_lay_1 ?_
    refine ax_iload_n cx 2 dX5_lay_4 rfl rfl ?_
    obtain ⟨g4, h⟩ := gd_some h
    refine ax_if_lt cx 14 dX5_lay_5 (by decide) g4 (fun c5 => ?_) (fun c5 => ?_)
    · rw [if_pos c5] at h
      cases h
      exact ay_throw (cls := "java/lang/IllegalArgumentException") (text := "what is laid costs 0 to 50") (ik := 44) (is := 68) (ic := 48) cy rfl (by decide +kernel) ht1_X5_lay_t14 ht2_X5_lay_t14 ht3_X5_lay_t14 hb1_48 hb2_48 (by decide +kernel) BW_tab dX5_lay_14 dX5_lay_17 dX5_lay_18 dX5_lay_20 dX5_lay_23 (by decide) (Nat.le_of_ble_eq_true rfl) ⟨rfl, rfl⟩
    · rw [if_neg c5] at h
      refine ax_iload_n cx 2 dX5_lay_8 rfl rfl ?_
      refine ax_bipush (z := 50) cx dX5_lay_9 (by decide) ?_
      refine ax_icmp_le cx 24 dX5_lay_11 (by decide) g4 ⟨by decide, by decide⟩ (fun c6 => ?_) (fun c6 => ?_)
      · rw [if_pos c6] at h
        refine ax_aload_n cx 0 dX5_lay_24 rfl rfl ?_
        refine ax_getf (q := 28) (ci := 5) (k := 4) (v := .ref (ad 27)) cx ⟨by decide, by decide⟩ rfl rfl hi_X5_lay_X5 (by decide) hl_X5_lay_40 rfl rfl dX5_lay_25 ?_
        refine ax_aload_n cx 0 dX5_lay_28 rfl rfl ?_
        refine ax_getf (q := 28) (ci := 5) (k := 0) (v := .ref (ad 23)) cx ⟨by decide, by decide⟩ rfl rfl hi_X5_lay_X5 (by decide) hl_X5_lay_10 rfl rfl dX5_lay_29 ?_
        obtain ⟨t7, e8, h⟩ := ob h
        refine ax_callV (As := [.ref (ad 23)]) (q := 27) (ci := 1) (n := 1) cx (kX1_energyNow l ad M  _ e8) gX5_lay_X1_energyNow rfl ⟨by decide, by decide⟩ rfl rfl ⟨rfl, rfl⟩ (by decide +kernel) rfl ⟨by decide, by decide⟩ rfl (Nat.le_of_ble_eq_true rfl) dX5_lay_32 ?_
        refine ax_istore_n (lv' := [(3, iV (t7)), (0, .ref (ad 28)), (1, iV (x1)), (2, iV (x2))]) cx dX5_lay_35 rfl (by decide) rfl ?_
        refine ax_aload_n cx 1 dX5_lay_36 rfl rfl ?_
        refine ax_getf (q := 28) (ci := 5) (k := 0) (v := .ref (ad 23)) cx ⟨by decide, by decide⟩ rfl rfl hi_X5_lay_X5 (by decide) hl_X5_lay_10 rfl rfl dX5_lay_37 ?_
        refine ax_iload_n cx 2 dX5_lay_40 rfl rfl ?_
        refine ax_iload_n cx 3 dX5_lay_41 rfl rfl ?_
        obtain ⟨t9, e10, h⟩ := ob h
        refine ax_callV (As := [iV (x1), iV (x2)]) (q := 23) (ci := 2) (n := 2) cx (kX2_changeLaid l ad M x1 x2 _ e10) gX5_lay_X2_changeLaid rfl ⟨by decide, by decide⟩ rfl rfl ⟨rfl, rfl⟩ (by decide +kernel) rfl ⟨by decide, by decide⟩ rfl (Nat.le_of_ble_eq_true rfl) dX5_lay_42 ?_
        refine ax_istore (lv' := [(4, iV (t9.1)), (3, iV (t7)), (0, .ref (ad 28)), (1, iV (x1)), (2, iV (x2))]) cx dX5_lay_45 (by decide) rfl ?_
        refine ax_aload_n cx 2 dX5_lay_47 rfl rfl ?_
        refine ax_iload_n cx 1 dX5_lay_48 rfl rfl ?_
        obtain ⟨t11, e12, h⟩ := ob h
        refine ax_callV (As := [iV (t7)]) (q := 28) (ci := 5) (n := 1) cx (kX5_takeInNewPrices l ad t9.2 t7 _ e12) gX5_lay_X5_takeInNewPrices rfl ⟨by decide, by decide⟩ rfl rfl ⟨rfl, rfl⟩ (by decide +kernel) rfl ⟨by decide, by decide⟩ rfl (Nat.le_of_ble_eq_true rfl) dX5_lay_49 ?_
        refine ax_iload cx 0 dX5_lay_52 rfl ?_
        cases h
        exact absurd rfl hT
      · rw [if_neg c6] at h
        cases h
        exact ay_throw (cls := "java/lang/IllegalArgumentException") (text := "what is laid costs 0 to 50") (ik := 44) (is := 68) (ic := 48) cy rfl (by decide +kernel) ht1_X5_lay_t14 ht2_X5_lay_t14 ht3_X5_lay_t14 hb1_48 hb2_48 (by decide +kernel) BW_tab dX5_lay_14 dX5_lay_17 dX5_lay_18 dX5_lay_20 dX5_lay_23 (by decide) (Nat.le_of_ble_eq_true rfl) ⟨rfl, rfl⟩
  · rw [if_neg z3] at h
    cases h
    exact ay_callS (As := [iV (x1)]) (n := 1) (st := []) cy (xX5_checkEdge l hl ad M x1 _ e2 z3) ⟨rfl, rfl⟩ gX5_lay_X5_checkEdge rfl ⟨rfl, rfl⟩ (by decide +kernel) rfl ⟨by decide, by decide⟩ rfl (Nat.le_of_ble_eq_true rfl) dX5_lay_1
def fX5_edge (M : Mem) (x1 : Int) : Option (Nat × Int × Mem) :=
    Option.bind (fX5_checkEdge M x1) (fun t1 => if t1.1 = 0 then (
      Option.bind (fX2_price M x1) (fun t4 =>
      some (0, t4, M)))
    else some (t1.1, 0, M))
abbrev rmX5_edge : Room := { frames := 1, cells := 0, slots := 0, locals := 21 }
theorem hl_X5_edge_10 : Cond.fieldLink RX5 10 "PlateauBench" "grid" "LPlateauBench$Grid;" ∈ wsX5_edge := by decide +kernel
theorem hi_X5_edge_X5 : ∀ x ∈ u_ws RX5 TX5 5, x ∈ wsX5_edge := by decide +kernel
set_option maxRecDepth 100000 in
set_option maxHeartbeats 4000000 in
theorem kX5_edge (l : Launch) (ad : Nat → Nat) (M : Mem) (x1 : Int) (T : Nat × Int × Mem) (h : fX5_edge M x1 = some T) (hT : T.1 = 0) : MX l yX5_edge wsX5_edge rmX5_edge wC ad [.ref (ad 28), iV (x1)] M (some (iV (T.2.1))) M := by
  refine MX.of (cc := cX5_edge) (nL := 2) (rt := (some .int)) (own := RX5) (by decide +kernel) rfl rfl (Nat.le_of_ble_eq_true rfl) wC_ok (fun G cx => ?_)
  show G M 0 [(0, .ref (ad 28)), (1, iV (x1))] []
  unfold fX5_edge at h
  refine ax_iload_n cx 1 dX5_edge_0 rfl rfl ?_
  obtain ⟨t1, e2, h⟩ := ob h
  by_cases z3 : t1.1 = 0
  · rw [if_pos z3] at h
    refine ax_callS (As := [iV (x1)]) (n := 1) (st := []) cx (kX5_checkEdge l ad M x1 _ e2 z3) gX5_edge_X5_checkEdge rfl ⟨rfl, rfl⟩ (by decide +kernel) rfl ⟨by decide, by decide⟩ rfl (Nat.le_of_ble_eq_true rfl) dX5_edge_1 ?_
    refine ax_aload_n cx 0 dX5_edge_4 rfl rfl ?_
    refine ax_getf (q := 28) (ci := 5) (k := 0) (v := .ref (ad 23)) cx ⟨by decide, by decide⟩ rfl rfl hi_X5_edge_X5 (by decide) hl_X5_edge_10 rfl rfl dX5_edge_5 ?_
    refine ax_iload_n cx 1 dX5_edge_8 rfl rfl ?_
    obtain ⟨t4, e5, h⟩ := ob h
    refine ax_callV (As := [iV (x1)]) (q := 23) (ci := 2) (n := 1) cx (kX2_price l ad M x1 _ e5) gX5_edge_X2_price rfl ⟨by decide, by decide⟩ rfl rfl ⟨rfl, rfl⟩ (by decide +kernel) rfl ⟨by decide, by decide⟩ rfl (Nat.le_of_ble_eq_true rfl) dX5_edge_9 ?_
    cases h
    exact ax_iret cx dX5_edge_12 rfl ⟨rfl, rfl⟩
  · rw [if_neg z3] at h
    cases h
    exact absurd hT z3
abbrev rxX5_edge : Room := { frames := 7, cells := 1, slots := 6, locals := 110 }
set_option maxRecDepth 100000 in
set_option maxHeartbeats 4000000 in
theorem xX5_edge (l : Launch) (hl : l.stackTraces = false) (ad : Nat → Nat) (M : Mem) (x1 : Int) (T : Nat × Int × Mem) (h : fX5_edge M x1 = some T) (hT : ¬ T.1 = 0) : MT l yX5_edge wsX5_edge rxX5_edge wC ad [.ref (ad 28), iV (x1)] M (excN T.1) M := by
  refine MT.of (cc := cX5_edge) (nL := 2) (rt := (some .int)) (own := RX5) (by decide +kernel) rfl rfl (Nat.le_of_ble_eq_true rfl) wC_ok hl ⟨by decide, by decide⟩ (fun G cy => ?_)
  have cx := cy.cx
  show G M 0 [(0, .ref (ad 28)), (1, iV (x1))] []
  unfold fX5_edge at h
  refine ax_iload_n cx 1 dX5_edge_0 rfl rfl ?_
  obtain ⟨t1, e2, h⟩ := ob h
  by_cases z3 : t1.1 = 0
  · rw [if_pos z3] at h
    refine ax_callS (As := [iV (x1)]) (n := 1) (st := []) cx (kX5_checkEdge l ad M x1 _ e2 z3) gX5_edge_X5_checkEdge rfl ⟨rfl, rfl⟩ (by decide +kernel) rfl ⟨by decide, by decide⟩ rfl (Nat.le_of_ble_eq_true rfl) dX5_edge_1 ?_
    refine ax_aload_n cx 0 dX5_edge_4 rfl rfl ?_
    refine ax_getf (q := 28) (ci := 5) (k := 0) (v := .ref (ad 23)) cx ⟨by decide, by decide⟩ rfl rfl hi_X5_edge_X5 (by decide) hl_X5_edge_10 rfl rfl dX5_edge_5 ?_
    refine ax_iload_n cx 1 dX5_edge_8 rfl rfl ?_
    obtain ⟨t4, e5, h⟩ := ob h
    refine ax_callV (As := [iV (x1)]) (q := 23) (ci := 2) (n := 1) cx (kX2_price l ad M x1 _ e5) gX5_edge_X2_price rfl ⟨by decide, by decide⟩ rfl rfl ⟨rfl, rfl⟩ (by decide +kernel) rfl ⟨by decide, by decide⟩ rfl (Nat.le_of_ble_eq_true rfl) dX5_edge_9 ?_
    cases h
    exact absurd rfl hT
  · rw [if_neg z3] at h
    cases h
    exact ay_callS (As := [iV (x1)]) (n := 1) (st := []) cy (xX5_checkEdge l hl ad M x1 _ e2 z3) ⟨rfl, rfl⟩ gX5_edge_X5_checkEdge rfl ⟨rfl, rfl⟩ (by decide +kernel) rfl ⟨by decide, by decide⟩ rfl (Nat.le_of_ble_eq_true rfl) dX5_edge_1
def fX5_checkNode (M : Mem) (x0 : Int) : Option (Nat × Int × Mem) :=
    gd (inR (x0)) (
    if x0 < 0 then (
      some (1, 0, M))
    else (
      if x0 < 36 then (
        some (0, 0, M))
      else (
        some (1, 0, M))))
abbrev rmX5_checkNode : Room := { frames := 0, cells := 0, slots := 0, locals := 0 }
theorem ht1_X5_checkNode_t10 : Cond.classLink RX5 215 "java/lang/IndexOutOfBoundsException" ∈ wsX5_checkNode := by decide +kernel
theorem ht2_X5_checkNode_t10 : Cond.initialized "java/lang/IndexOutOfBoundsException" ∈ wsX5_checkNode := by decide +kernel
theorem ht3_X5_checkNode_t10 : ∀ w ∈ (vx_atS RX5 219 "java/lang/IndexOutOfBoundsException" ["java/lang/RuntimeException", "java/lang/Exception"]).filter goodWord, w ∈ wsX5_checkNode := fun _ h => List.mem_cons_of_mem _ (List.mem_append_right _ h)
set_option maxRecDepth 100000 in
set_option maxHeartbeats 4000000 in
theorem kX5_checkNode (l : Launch) (ad : Nat → Nat) (M : Mem) (x0 : Int) (T : Nat × Int × Mem) (h : fX5_checkNode M x0 = some T) (hT : T.1 = 0) : MX l yX5_checkNode wsX5_checkNode rmX5_checkNode wC ad [iV (x0)] M none M := by
  refine MX.of (cc := cX5_checkNode) (nL := 1) (rt := none) (own := RX5) (by decide +kernel) rfl rfl (Nat.le_of_ble_eq_true rfl) wC_ok (fun G cx => ?_)
  show G M 0 [(0, iV (x0))] []
  unfold fX5_checkNode at h
  refine ax_iload_n cx 0 dX5_checkNode_0 rfl rfl ?_
  obtain ⟨g1, h⟩ := gd_some h
  refine ax_if_lt cx 10 dX5_checkNode_1 (by decide) g1 (fun c2 => ?_) (fun c2 => ?_)
  · rw [if_pos c2] at h
    cases h
    exact absurd hT (Nat.succ_ne_zero _)
  · rw [if_neg c2] at h
    refine ax_iload_n cx 0 dX5_checkNode_4 rfl rfl ?_
    refine ax_bipush (z := 36) cx dX5_checkNode_5 (by decide) ?_
    refine ax_icmp_lt cx 20 dX5_checkNode_7 (by decide) g1 ⟨by decide, by decide⟩ (fun c3 => ?_) (fun c3 => ?_)
    · rw [if_pos c3] at h
      cases h
      exact ax_vret cx dX5_checkNode_20 rfl ⟨rfl, rfl⟩
    · rw [if_neg c3] at h
      cases h
      exact absurd hT (Nat.succ_ne_zero _)
abbrev rxX5_checkNode : Room := { frames := 6, cells := 1, slots := 6, locals := 90 }
set_option maxRecDepth 100000 in
set_option maxHeartbeats 4000000 in
theorem xX5_checkNode (l : Launch) (hl : l.stackTraces = false) (ad : Nat → Nat) (M : Mem) (x0 : Int) (T : Nat × Int × Mem) (h : fX5_checkNode M x0 = some T) (hT : ¬ T.1 = 0) : MT l yX5_checkNode wsX5_checkNode rxX5_checkNode wC ad [iV (x0)] M (excN T.1) M := by
  refine MT.of (cc := cX5_checkNode) (nL := 1) (rt := none) (own := RX5) (by decide +kernel) rfl rfl (Nat.le_of_ble_eq_true rfl) wC_ok hl ⟨by decide, by decide⟩ (fun G cy => ?_)
  have cx := cy.cx
  show G M 0 [(0, iV (x0))] []
  unfold fX5_checkNode at h
  refine ax_iload_n cx 0 dX5_checkNode_0 rfl rfl ?_
  obtain ⟨g1, h⟩ := gd_some h
  refine ax_if_lt cx 10 dX5_checkNode_1 (by decide) g1 (fun c2 => ?_) (fun c2 => ?_)
  · rw [if_pos c2] at h
    cases h
    exact ay_throw (cls := "java/lang/IndexOutOfBoundsException") (text := "no such node") (ik := 215) (is := 217) (ic := 219) cy rfl (by decide +kernel) ht1_X5_checkNode_t10 ht2_X5_checkNode_t10 ht3_X5_checkNode_t10 hb1_219 hb2_219 (by decide +kernel) BW_tab dX5_checkNode_10 dX5_checkNode_13 dX5_checkNode_14 dX5_checkNode_16 dX5_checkNode_19 (by decide) (Nat.le_of_ble_eq_true rfl) ⟨rfl, rfl⟩
  · rw [if_neg c2] at h
    refine ax_iload_n cx 0 dX5_checkNode_4 rfl rfl ?_
    refine ax_bipush (z := 36) cx dX5_checkNode_5 (by decide) ?_
    refine ax_icmp_lt cx 20 dX5_checkNode_7 (by decide) g1 ⟨by decide, by decide⟩ (fun c3 => ?_) (fun c3 => ?_)
    · rw [if_pos c3] at h
      cases h
      exact absurd rfl hT
    · rw [if_neg c3] at h
      cases h
      exact ay_throw (cls := "java/lang/IndexOutOfBoundsException") (text := "no such node") (ik := 215) (is := 217) (ic := 219) cy rfl (by decide +kernel) ht1_X5_checkNode_t10 ht2_X5_checkNode_t10 ht3_X5_checkNode_t10 hb1_219 hb2_219 (by decide +kernel) BW_tab dX5_checkNode_10 dX5_checkNode_13 dX5_checkNode_14 dX5_checkNode_16 dX5_checkNode_19 (by decide) (Nat.le_of_ble_eq_true rfl) ⟨rfl, rfl⟩
def fX5_apart (M : Mem) (x1 : Int) (x2 : Int) : Option (Nat × Int × Mem) :=
    Option.bind (fX5_checkNode M x1) (fun t1 => if t1.1 = 0 then (
      Option.bind (fX5_checkNode M x2) (fun t4 => if t4.1 = 0 then (
        Option.bind (fX4_cheapest M x1 x2) (fun t7 =>
        some (0, t7.1, t7.2)))
      else some (t4.1, 0, M)))
    else some (t1.1, 0, M))
abbrev rmX5_apart : Room := { frames := 4, cells := 0, slots := 0, locals := 98 }
theorem hl_X5_apart_19 : Cond.fieldLink RX5 19 "PlateauBench" "ways" "LPlateauBench$TwoWays;" ∈ wsX5_apart := by decide +kernel
theorem hl_X5_apart_10 : Cond.fieldLink RX5 10 "PlateauBench" "grid" "LPlateauBench$Grid;" ∈ wsX5_apart := by decide +kernel
theorem hi_X5_apart_X5 : ∀ x ∈ u_ws RX5 TX5 5, x ∈ wsX5_apart := by decide +kernel
set_option maxRecDepth 100000 in
set_option maxHeartbeats 4000000 in
theorem kX5_apart (l : Launch) (ad : Nat → Nat) (M : Mem) (x1 : Int) (x2 : Int) (T : Nat × Int × Mem) (h : fX5_apart M x1 x2 = some T) (hT : T.1 = 0) : MX l yX5_apart wsX5_apart rmX5_apart wC ad [.ref (ad 28), iV (x1), iV (x2)] M (some (iV (T.2.1))) T.2.2 := by
  refine MX.of (cc := cX5_apart) (nL := 3) (rt := (some .int)) (own := RX5) (by decide +kernel) rfl rfl (Nat.le_of_ble_eq_true rfl) wC_ok (fun G cx => ?_)
  show G M 0 [(0, .ref (ad 28)), (1, iV (x1)), (2, iV (x2))] []
  unfold fX5_apart at h
  refine ax_iload_n cx 1 dX5_apart_0 rfl rfl ?_
  obtain ⟨t1, e2, h⟩ := ob h
  by_cases z3 : t1.1 = 0
  · rw [if_pos z3] at h
    refine ax_callS (As := [iV (x1)]) (n := 1) (st := []) cx (kX5_checkNode l ad M x1 _ e2 z3) gX5_apart_X5_checkNode rfl ⟨rfl, rfl⟩ (by decide +kernel) rfl ⟨by decide, by decide⟩ rfl (Nat.le_of_ble_eq_true rfl) dX5_apart_1 ?_
    refine ax_iload_n cx 2 dX5_apart_4 rfl rfl ?_
    obtain ⟨t4, e5, h⟩ := ob h
    by_cases z6 : t4.1 = 0
    · rw [if_pos z6] at h
      refine ax_callS (As := [iV (x2)]) (n := 1) (st := []) cx (kX5_checkNode l ad M x2 _ e5 z6) gX5_apart_X5_checkNode rfl ⟨rfl, rfl⟩ (by decide +kernel) rfl ⟨by decide, by decide⟩ rfl (Nat.le_of_ble_eq_true rfl) dX5_apart_5 ?_
      refine ax_aload_n cx 0 dX5_apart_8 rfl rfl ?_
      refine ax_getf (q := 28) (ci := 5) (k := 1) (v := .ref (ad 24)) cx ⟨by decide, by decide⟩ rfl rfl hi_X5_apart_X5 (by decide) hl_X5_apart_19 rfl rfl dX5_apart_9 ?_
      refine ax_aload_n cx 0 dX5_apart_12 rfl rfl ?_
      refine ax_getf (q := 28) (ci := 5) (k := 0) (v := .ref (ad 23)) cx ⟨by decide, by decide⟩ rfl rfl hi_X5_apart_X5 (by decide) hl_X5_apart_10 rfl rfl dX5_apart_13 ?_
      refine ax_iload_n cx 1 dX5_apart_16 rfl rfl ?_
      refine ax_iload_n cx 2 dX5_apart_17 rfl rfl ?_
      obtain ⟨t7, e8, h⟩ := ob h
      refine ax_callV (As := [.ref (ad 23), iV (x1), iV (x2)]) (q := 24) (ci := 4) (n := 3) cx (kX4_cheapest l ad M x1 x2 _ e8) gX5_apart_X4_cheapest rfl ⟨by decide, by decide⟩ rfl rfl ⟨rfl, rfl⟩ (by decide +kernel) rfl ⟨by decide, by decide⟩ rfl (Nat.le_of_ble_eq_true rfl) dX5_apart_18 ?_
      cases h
      exact ax_iret cx dX5_apart_21 rfl ⟨rfl, rfl⟩
    · rw [if_neg z6] at h
      cases h
      exact absurd hT z6
  · rw [if_neg z3] at h
    cases h
    exact absurd hT z3
abbrev rxX5_apart : Room := { frames := 7, cells := 1, slots := 6, locals := 110 }
set_option maxRecDepth 100000 in
set_option maxHeartbeats 4000000 in
theorem xX5_apart (l : Launch) (hl : l.stackTraces = false) (ad : Nat → Nat) (M : Mem) (x1 : Int) (x2 : Int) (T : Nat × Int × Mem) (h : fX5_apart M x1 x2 = some T) (hT : ¬ T.1 = 0) : MT l yX5_apart wsX5_apart rxX5_apart wC ad [.ref (ad 28), iV (x1), iV (x2)] M (excN T.1) T.2.2 := by
  refine MT.of (cc := cX5_apart) (nL := 3) (rt := (some .int)) (own := RX5) (by decide +kernel) rfl rfl (Nat.le_of_ble_eq_true rfl) wC_ok hl ⟨by decide, by decide⟩ (fun G cy => ?_)
  have cx := cy.cx
  show G M 0 [(0, .ref (ad 28)), (1, iV (x1)), (2, iV (x2))] []
  unfold fX5_apart at h
  refine ax_iload_n cx 1 dX5_apart_0 rfl rfl ?_
  obtain ⟨t1, e2, h⟩ := ob h
  by_cases z3 : t1.1 = 0
  · rw [if_pos z3] at h
    refine ax_callS (As := [iV (x1)]) (n := 1) (st := []) cx (kX5_checkNode l ad M x1 _ e2 z3) gX5_apart_X5_checkNode rfl ⟨rfl, rfl⟩ (by decide +kernel) rfl ⟨by decide, by decide⟩ rfl (Nat.le_of_ble_eq_true rfl) dX5_apart_1 ?_
    refine ax_iload_n cx 2 dX5_apart_4 rfl rfl ?_
    obtain ⟨t4, e5, h⟩ := ob h
    by_cases z6 : t4.1 = 0
    · rw [if_pos z6] at h
      refine ax_callS (As := [iV (x2)]) (n := 1) (st := []) cx (kX5_checkNode l ad M x2 _ e5 z6) gX5_apart_X5_checkNode rfl ⟨rfl, rfl⟩ (by decide +kernel) rfl ⟨by decide, by decide⟩ rfl (Nat.le_of_ble_eq_true rfl) dX5_apart_5 ?_
      refine ax_aload_n cx 0 dX5_apart_8 rfl rfl ?_
      refine ax_getf (q := 28) (ci := 5) (k := 1) (v := .ref (ad 24)) cx ⟨by decide, by decide⟩ rfl rfl hi_X5_apart_X5 (by decide) hl_X5_apart_19 rfl rfl dX5_apart_9 ?_
      refine ax_aload_n cx 0 dX5_apart_12 rfl rfl ?_
      refine ax_getf (q := 28) (ci := 5) (k := 0) (v := .ref (ad 23)) cx ⟨by decide, by decide⟩ rfl rfl hi_X5_apart_X5 (by decide) hl_X5_apart_10 rfl rfl dX5_apart_13 ?_
      refine ax_iload_n cx 1 dX5_apart_16 rfl rfl ?_
      refine ax_iload_n cx 2 dX5_apart_17 rfl rfl ?_
      obtain ⟨t7, e8, h⟩ := ob h
      refine ax_callV (As := [.ref (ad 23), iV (x1), iV (x2)]) (q := 24) (ci := 4) (n := 3) cx (kX4_cheapest l ad M x1 x2 _ e8) gX5_apart_X4_cheapest rfl ⟨by decide, by decide⟩ rfl rfl ⟨rfl, rfl⟩ (by decide +kernel) rfl ⟨by decide, by decide⟩ rfl (Nat.le_of_ble_eq_true rfl) dX5_apart_18 ?_
      cases h
      exact absurd rfl hT
    · rw [if_neg z6] at h
      cases h
      exact ay_callS (As := [iV (x2)]) (n := 1) (st := []) cy (xX5_checkNode l hl ad M x2 _ e5 z6) ⟨rfl, rfl⟩ gX5_apart_X5_checkNode rfl ⟨rfl, rfl⟩ (by decide +kernel) rfl ⟨by decide, by decide⟩ rfl (Nat.le_of_ble_eq_true rfl) dX5_apart_5
  · rw [if_neg z3] at h
    cases h
    exact ay_callS (As := [iV (x1)]) (n := 1) (st := []) cy (xX5_checkNode l hl ad M x1 _ e2 z3) ⟨rfl, rfl⟩ gX5_apart_X5_checkNode rfl ⟨rfl, rfl⟩ (by decide +kernel) rfl ⟨by decide, by decide⟩ rfl (Nat.le_of_ble_eq_true rfl) dX5_apart_1
def fX5_town (M : Mem) (x1 : Int) : Option (Nat × Int × Mem) :=
    Option.bind (fX5_checkNode M x1) (fun t1 => if t1.1 = 0 then (
      Option.bind (fX3_hasTownAt M x1) (fun t4 =>
      gd (inR (t4)) (
      if t4 = 0 then (
        Option.bind (fX3_isFull M) (fun t8 =>
        gd (inR (t8)) (
        if t8 = 0 then (
          Option.bind (fX3_add M x1) (fun t12 =>
          some (0, t12.1, t12.2)))
        else (
          some (3, 0, M)))))
      else (
        some (3, 0, M)))))
    else some (t1.1, 0, M))
abbrev rmX5_town : Room := { frames := 2, cells := 0, slots := 0, locals := 41 }
theorem hl_X5_town_26 : Cond.fieldLink RX5 26 "PlateauBench" "nets" "LPlateauBench$Nets;" ∈ wsX5_town := by decide +kernel
theorem hi_X5_town_X5 : ∀ x ∈ u_ws RX5 TX5 5, x ∈ wsX5_town := by decide +kernel
theorem ht1_X5_town_t25 : Cond.classLink RX5 92 "java/lang/IllegalStateException" ∈ wsX5_town := by decide +kernel
theorem ht2_X5_town_t25 : Cond.initialized "java/lang/IllegalStateException" ∈ wsX5_town := by decide +kernel
theorem ht3_X5_town_t25 : ∀ w ∈ (vx_atS RX5 96 "java/lang/IllegalStateException" ["java/lang/RuntimeException", "java/lang/Exception"]).filter goodWord, w ∈ wsX5_town := fun _ h => List.mem_cons_of_mem _ (List.mem_append_left _ (List.mem_append_right _ h))
set_option maxRecDepth 100000 in
set_option maxHeartbeats 4000000 in
theorem kX5_town (l : Launch) (ad : Nat → Nat) (M : Mem) (x1 : Int) (T : Nat × Int × Mem) (h : fX5_town M x1 = some T) (hT : T.1 = 0) : MX l yX5_town wsX5_town rmX5_town wC ad [.ref (ad 28), iV (x1)] M (some (iV (T.2.1))) T.2.2 := by
  refine MX.of (cc := cX5_town) (nL := 2) (rt := (some .int)) (own := RX5) (by decide +kernel) rfl rfl (Nat.le_of_ble_eq_true rfl) wC_ok (fun G cx => ?_)
  show G M 0 [(0, .ref (ad 28)), (1, iV (x1))] []
  unfold fX5_town at h
  refine ax_iload_n cx 1 dX5_town_0 rfl rfl ?_
  obtain ⟨t1, e2, h⟩ := ob h
  by_cases z3 : t1.1 = 0
  · rw [if_pos z3] at h
    refine ax_callS (As := [iV (x1)]) (n := 1) (st := []) cx (kX5_checkNode l ad M x1 _ e2 z3) gX5_town_X5_checkNode rfl ⟨rfl, rfl⟩ (by decide +kernel) rfl ⟨by decide, by decide⟩ rfl (Nat.le_of_ble_eq_true rfl) dX5_town_1 ?_
    refine ax_aload_n cx 0 dX5_town_4 rfl rfl ?_
    refine ax_getf (q := 28) (ci := 5) (k := 2) (v := .ref (ad 25)) cx ⟨by decide, by decide⟩ rfl rfl hi_X5_town_X5 (by decide) hl_X5_town_26 rfl rfl dX5_town_5 ?_
    refine ax_iload_n cx 1 dX5_town_8 rfl rfl ?_
    obtain ⟨t4, e5, h⟩ := ob h
    refine ax_callV (As := [iV (x1)]) (q := 25) (ci := 3) (n := 1) cx (kX3_hasTownAt l ad M x1 _ e5) gX5_town_X3_hasTownAt rfl ⟨by decide, by decide⟩ rfl rfl ⟨rfl, rfl⟩ (by decide +kernel) rfl ⟨by decide, by decide⟩ rfl (Nat.le_of_ble_eq_true rfl) dX5_town_9 ?_
    obtain ⟨g6, h⟩ := gd_some h
    refine ax_if_ne cx 25 dX5_town_12 (by decide) g6 (fun c7 => ?_) (fun c7 => ?_)
    · rw [if_pos c7] at h
      refine ax_aload_n cx 0 dX5_town_15 rfl rfl ?_
      refine ax_getf (q := 28) (ci := 5) (k := 2) (v := .ref (ad 25)) cx ⟨by decide, by decide⟩ rfl rfl hi_X5_town_X5 (by decide) hl_X5_town_26 rfl rfl dX5_town_16 ?_
      obtain ⟨t8, e9, h⟩ := ob h
      refine ax_callV (As := []) (q := 25) (ci := 3) (n := 0) cx (kX3_isFull l ad M  _ e9) gX5_town_X3_isFull rfl ⟨by decide, by decide⟩ rfl rfl ⟨rfl, rfl⟩ (by decide +kernel) rfl ⟨by decide, by decide⟩ rfl (Nat.le_of_ble_eq_true rfl) dX5_town_19 ?_
      obtain ⟨g10, h⟩ := gd_some h
      refine ax_if_eq cx 35 dX5_town_22 (by decide) g10 (fun c11 => ?_) (fun c11 => ?_)
      · rw [if_pos c11] at h
        refine ax_aload_n cx 0 dX5_town_35 rfl rfl ?_
        refine ax_getf (q := 28) (ci := 5) (k := 2) (v := .ref (ad 25)) cx ⟨by decide, by decide⟩ rfl rfl hi_X5_town_X5 (by decide) hl_X5_town_26 rfl rfl dX5_town_36 ?_
        refine ax_iload_n cx 1 dX5_town_39 rfl rfl ?_
        obtain ⟨t12, e13, h⟩ := ob h
        refine ax_callV (As := [iV (x1)]) (q := 25) (ci := 3) (n := 1) cx (kX3_add l ad M x1 _ e13) gX5_town_X3_add rfl ⟨by decide, by decide⟩ rfl rfl ⟨rfl, rfl⟩ (by decide +kernel) rfl ⟨by decide, by decide⟩ rfl (Nat.le_of_ble_eq_true rfl) dX5_town_40 ?_
        cases h
        exact ax_iret cx dX5_town_43 rfl ⟨rfl, rfl⟩
      · rw [if_neg c11] at h
        cases h
        exact absurd hT (Nat.succ_ne_zero _)
    · rw [if_neg c7] at h
      cases h
      exact absurd hT (Nat.succ_ne_zero _)
  · rw [if_neg z3] at h
    cases h
    exact absurd hT z3
abbrev rxX5_town : Room := { frames := 7, cells := 1, slots := 6, locals := 110 }
set_option maxRecDepth 100000 in
set_option maxHeartbeats 4000000 in
theorem xX5_town (l : Launch) (hl : l.stackTraces = false) (ad : Nat → Nat) (M : Mem) (x1 : Int) (T : Nat × Int × Mem) (h : fX5_town M x1 = some T) (hT : ¬ T.1 = 0) : MT l yX5_town wsX5_town rxX5_town wC ad [.ref (ad 28), iV (x1)] M (excN T.1) T.2.2 := by
  refine MT.of (cc := cX5_town) (nL := 2) (rt := (some .int)) (own := RX5) (by decide +kernel) rfl rfl (Nat.le_of_ble_eq_true rfl) wC_ok hl ⟨by decide, by decide⟩ (fun G cy => ?_)
  have cx := cy.cx
  show G M 0 [(0, .ref (ad 28)), (1, iV (x1))] []
  unfold fX5_town at h
  refine ax_iload_n cx 1 dX5_town_0 rfl rfl ?_
  obtain ⟨t1, e2, h⟩ := ob h
  by_cases z3 : t1.1 = 0
  · rw [if_pos z3] at h
    refine ax_callS (As := [iV (x1)]) (n := 1) (st := []) cx (kX5_checkNode l ad M x1 _ e2 z3) gX5_town_X5_checkNode rfl ⟨rfl, rfl⟩ (by decide +kernel) rfl ⟨by decide, by decide⟩ rfl (Nat.le_of_ble_eq_true rfl) dX5_town_1 ?_
    refine ax_aload_n cx 0 dX5_town_4 rfl rfl ?_
    refine ax_getf (q := 28) (ci := 5) (k := 2) (v := .ref (ad 25)) cx ⟨by decide, by decide⟩ rfl rfl hi_X5_town_X5 (by decide) hl_X5_town_26 rfl rfl dX5_town_5 ?_
    refine ax_iload_n cx 1 dX5_town_8 rfl rfl ?_
    obtain ⟨t4, e5, h⟩ := ob h
    refine ax_callV (As := [iV (x1)]) (q := 25) (ci := 3) (n := 1) cx (kX3_hasTownAt l ad M x1 _ e5) gX5_town_X3_hasTownAt rfl ⟨by decide, by decide⟩ rfl rfl ⟨rfl, rfl⟩ (by decide +kernel) rfl ⟨by decide, by decide⟩ rfl (Nat.le_of_ble_eq_true rfl) dX5_town_9 ?_
    obtain ⟨g6, h⟩ := gd_some h
    refine ax_if_ne cx 25 dX5_town_12 (by decide) g6 (fun c7 => ?_) (fun c7 => ?_)
    · rw [if_pos c7] at h
      refine ax_aload_n cx 0 dX5_town_15 rfl rfl ?_
      refine ax_getf (q := 28) (ci := 5) (k := 2) (v := .ref (ad 25)) cx ⟨by decide, by decide⟩ rfl rfl hi_X5_town_X5 (by decide) hl_X5_town_26 rfl rfl dX5_town_16 ?_
      obtain ⟨t8, e9, h⟩ := ob h
      refine ax_callV (As := []) (q := 25) (ci := 3) (n := 0) cx (kX3_isFull l ad M  _ e9) gX5_town_X3_isFull rfl ⟨by decide, by decide⟩ rfl rfl ⟨rfl, rfl⟩ (by decide +kernel) rfl ⟨by decide, by decide⟩ rfl (Nat.le_of_ble_eq_true rfl) dX5_town_19 ?_
      obtain ⟨g10, h⟩ := gd_some h
      refine ax_if_eq cx 35 dX5_town_22 (by decide) g10 (fun c11 => ?_) (fun c11 => ?_)
      · rw [if_pos c11] at h
        refine ax_aload_n cx 0 dX5_town_35 rfl rfl ?_
        refine ax_getf (q := 28) (ci := 5) (k := 2) (v := .ref (ad 25)) cx ⟨by decide, by decide⟩ rfl rfl hi_X5_town_X5 (by decide) hl_X5_town_26 rfl rfl dX5_town_36 ?_
        refine ax_iload_n cx 1 dX5_town_39 rfl rfl ?_
        obtain ⟨t12, e13, h⟩ := ob h
        refine ax_callV (As := [iV (x1)]) (q := 25) (ci := 3) (n := 1) cx (kX3_add l ad M x1 _ e13) gX5_town_X3_add rfl ⟨by decide, by decide⟩ rfl rfl ⟨rfl, rfl⟩ (by decide +kernel) rfl ⟨by decide, by decide⟩ rfl (Nat.le_of_ble_eq_true rfl) dX5_town_40 ?_
        cases h
        exact absurd rfl hT
      · rw [if_neg c11] at h
        cases h
        exact ay_throw (cls := "java/lang/IllegalStateException") (text := "a town is there, or there are six") (ik := 92) (is := 94) (ic := 96) cy rfl (by decide +kernel) ht1_X5_town_t25 ht2_X5_town_t25 ht3_X5_town_t25 hb1_96 hb2_96 (by decide +kernel) BW_tab dX5_town_25 dX5_town_28 dX5_town_29 dX5_town_31 dX5_town_34 (by decide) (Nat.le_of_ble_eq_true rfl) ⟨rfl, rfl⟩
    · rw [if_neg c7] at h
      cases h
      exact ay_throw (cls := "java/lang/IllegalStateException") (text := "a town is there, or there are six") (ik := 92) (is := 94) (ic := 96) cy rfl (by decide +kernel) ht1_X5_town_t25 ht2_X5_town_t25 ht3_X5_town_t25 hb1_96 hb2_96 (by decide +kernel) BW_tab dX5_town_25 dX5_town_28 dX5_town_29 dX5_town_31 dX5_town_34 (by decide) (Nat.le_of_ble_eq_true rfl) ⟨rfl, rfl⟩
  · rw [if_neg z3] at h
    cases h
    exact ay_callS (As := [iV (x1)]) (n := 1) (st := []) cy (xX5_checkNode l hl ad M x1 _ e2 z3) ⟨rfl, rfl⟩ gX5_town_X5_checkNode rfl ⟨rfl, rfl⟩ (by decide +kernel) rfl ⟨by decide, by decide⟩ rfl (Nat.le_of_ble_eq_true rfl) dX5_town_1
def fX5_checkTown (M : Mem) (x1 : Int) : Option (Nat × Int × Mem) :=
    gd (inR (x1)) (
    if x1 < 0 then (
      some (1, 0, M))
    else (
      Option.bind (fX3_size M) (fun t3 =>
      gd (inR (t3)) (
      if x1 < t3 then (
        some (0, 0, M))
      else (
        some (1, 0, M))))))
abbrev rmX5_checkTown : Room := { frames := 1, cells := 0, slots := 0, locals := 20 }
theorem hl_X5_checkTown_26 : Cond.fieldLink RX5 26 "PlateauBench" "nets" "LPlateauBench$Nets;" ∈ wsX5_checkTown := by decide +kernel
theorem hi_X5_checkTown_X5 : ∀ x ∈ u_ws RX5 TX5 5, x ∈ wsX5_checkTown := by decide +kernel
theorem ht1_X5_checkTown_t15 : Cond.classLink RX5 215 "java/lang/IndexOutOfBoundsException" ∈ wsX5_checkTown := by decide +kernel
theorem ht2_X5_checkTown_t15 : Cond.initialized "java/lang/IndexOutOfBoundsException" ∈ wsX5_checkTown := by decide +kernel
theorem ht3_X5_checkTown_t15 : ∀ w ∈ (vx_atS RX5 219 "java/lang/IndexOutOfBoundsException" ["java/lang/RuntimeException", "java/lang/Exception"]).filter goodWord, w ∈ wsX5_checkTown := fun _ h => List.mem_cons_of_mem _ (List.mem_append_right _ h)
set_option maxRecDepth 100000 in
set_option maxHeartbeats 4000000 in
theorem kX5_checkTown (l : Launch) (ad : Nat → Nat) (M : Mem) (x1 : Int) (T : Nat × Int × Mem) (h : fX5_checkTown M x1 = some T) (hT : T.1 = 0) : MX l yX5_checkTown wsX5_checkTown rmX5_checkTown wC ad [.ref (ad 28), iV (x1)] M none M := by
  refine MX.of (cc := cX5_checkTown) (nL := 2) (rt := none) (own := RX5) (by decide +kernel) rfl rfl (Nat.le_of_ble_eq_true rfl) wC_ok (fun G cx => ?_)
  show G M 0 [(0, .ref (ad 28)), (1, iV (x1))] []
  unfold fX5_checkTown at h
  refine ax_iload_n cx 1 dX5_checkTown_0 rfl rfl ?_
  obtain ⟨g1, h⟩ := gd_some h
  refine ax_if_lt cx 15 dX5_checkTown_1 (by decide) g1 (fun c2 => ?_) (fun c2 => ?_)
  · rw [if_pos c2] at h
    cases h
    exact absurd hT (Nat.succ_ne_zero _)
  · rw [if_neg c2] at h
    refine ax_iload_n cx 1 dX5_checkTown_4 rfl rfl ?_
    refine ax_aload_n cx 0 dX5_checkTown_5 rfl rfl ?_
    refine ax_getf (q := 28) (ci := 5) (k := 2) (v := .ref (ad 25)) cx ⟨by decide, by decide⟩ rfl rfl hi_X5_checkTown_X5 (by decide) hl_X5_checkTown_26 rfl rfl dX5_checkTown_6 ?_
    obtain ⟨t3, e4, h⟩ := ob h
    refine ax_callV (As := []) (q := 25) (ci := 3) (n := 0) cx (kX3_size l ad M  _ e4) gX5_checkTown_X3_size rfl ⟨by decide, by decide⟩ rfl rfl ⟨rfl, rfl⟩ (by decide +kernel) rfl ⟨by decide, by decide⟩ rfl (Nat.le_of_ble_eq_true rfl) dX5_checkTown_9 ?_
    obtain ⟨g5, h⟩ := gd_some h
    refine ax_icmp_lt cx 25 dX5_checkTown_12 (by decide) g1 g5 (fun c6 => ?_) (fun c6 => ?_)
    · rw [if_pos c6] at h
      cases h
      exact ax_vret cx dX5_checkTown_25 rfl ⟨rfl, rfl⟩
    · rw [if_neg c6] at h
      cases h
      exact absurd hT (Nat.succ_ne_zero _)
abbrev rxX5_checkTown : Room := { frames := 6, cells := 1, slots := 6, locals := 90 }
set_option maxRecDepth 100000 in
set_option maxHeartbeats 4000000 in
theorem xX5_checkTown (l : Launch) (hl : l.stackTraces = false) (ad : Nat → Nat) (M : Mem) (x1 : Int) (T : Nat × Int × Mem) (h : fX5_checkTown M x1 = some T) (hT : ¬ T.1 = 0) : MT l yX5_checkTown wsX5_checkTown rxX5_checkTown wC ad [.ref (ad 28), iV (x1)] M (excN T.1) M := by
  refine MT.of (cc := cX5_checkTown) (nL := 2) (rt := none) (own := RX5) (by decide +kernel) rfl rfl (Nat.le_of_ble_eq_true rfl) wC_ok hl ⟨by decide, by decide⟩ (fun G cy => ?_)
  have cx := cy.cx
  show G M 0 [(0, .ref (ad 28)), (1, iV (x1))] []
  unfold fX5_checkTown at h
  refine ax_iload_n cx 1 dX5_checkTown_0 rfl rfl ?_
  obtain ⟨g1, h⟩ := gd_some h
  refine ax_if_lt cx 15 dX5_checkTown_1 (by decide) g1 (fun c2 => ?_) (fun c2 => ?_)
  · rw [if_pos c2] at h
    cases h
    exact ay_throw (cls := "java/lang/IndexOutOfBoundsException") (text := "no such town") (ik := 215) (is := 224) (ic := 219) cy rfl (by decide +kernel) ht1_X5_checkTown_t15 ht2_X5_checkTown_t15 ht3_X5_checkTown_t15 hb1_219 hb2_219 (by decide +kernel) BW_tab dX5_checkTown_15 dX5_checkTown_18 dX5_checkTown_19 dX5_checkTown_21 dX5_checkTown_24 (by decide) (Nat.le_of_ble_eq_true rfl) ⟨rfl, rfl⟩
  · rw [if_neg c2] at h
    refine ax_iload_n cx 1 dX5_checkTown_4 rfl rfl ?_
    refine ax_aload_n cx 0 dX5_checkTown_5 rfl rfl ?_
    refine ax_getf (q := 28) (ci := 5) (k := 2) (v := .ref (ad 25)) cx ⟨by decide, by decide⟩ rfl rfl hi_X5_checkTown_X5 (by decide) hl_X5_checkTown_26 rfl rfl dX5_checkTown_6 ?_
    obtain ⟨t3, e4, h⟩ := ob h
    refine ax_callV (As := []) (q := 25) (ci := 3) (n := 0) cx (kX3_size l ad M  _ e4) gX5_checkTown_X3_size rfl ⟨by decide, by decide⟩ rfl rfl ⟨rfl, rfl⟩ (by decide +kernel) rfl ⟨by decide, by decide⟩ rfl (Nat.le_of_ble_eq_true rfl) dX5_checkTown_9 ?_
    obtain ⟨g5, h⟩ := gd_some h
    refine ax_icmp_lt cx 25 dX5_checkTown_12 (by decide) g1 g5 (fun c6 => ?_) (fun c6 => ?_)
    · rw [if_pos c6] at h
      cases h
      exact absurd rfl hT
    · rw [if_neg c6] at h
      cases h
      exact ay_throw (cls := "java/lang/IndexOutOfBoundsException") (text := "no such town") (ik := 215) (is := 224) (ic := 219) cy rfl (by decide +kernel) ht1_X5_checkTown_t15 ht2_X5_checkTown_t15 ht3_X5_checkTown_t15 hb1_219 hb2_219 (by decide +kernel) BW_tab dX5_checkTown_15 dX5_checkTown_18 dX5_checkTown_19 dX5_checkTown_21 dX5_checkTown_24 (by decide) (Nat.le_of_ble_eq_true rfl) ⟨rfl, rfl⟩
def fX5_away (M : Mem) (x1 : Int) : Option (Nat × Int × Mem) :=
    Option.bind (fX5_checkTown M x1) (fun t1 => if t1.1 = 0 then (
      Option.bind (fX3_remove M x1) (fun t4 =>
      some (0, t4.1, t4.2)))
    else some (t1.1, 0, M))
abbrev rmX5_away : Room := { frames := 2, cells := 0, slots := 0, locals := 43 }
theorem hl_X5_away_26 : Cond.fieldLink RX5 26 "PlateauBench" "nets" "LPlateauBench$Nets;" ∈ wsX5_away := by decide +kernel
theorem hi_X5_away_X5 : ∀ x ∈ u_ws RX5 TX5 5, x ∈ wsX5_away := by decide +kernel
set_option maxRecDepth 100000 in
set_option maxHeartbeats 4000000 in
theorem kX5_away (l : Launch) (ad : Nat → Nat) (M : Mem) (x1 : Int) (T : Nat × Int × Mem) (h : fX5_away M x1 = some T) (hT : T.1 = 0) : MX l yX5_away wsX5_away rmX5_away wC ad [.ref (ad 28), iV (x1)] M (some (iV (T.2.1))) T.2.2 := by
  refine MX.of (cc := cX5_away) (nL := 2) (rt := (some .int)) (own := RX5) (by decide +kernel) rfl rfl (Nat.le_of_ble_eq_true rfl) wC_ok (fun G cx => ?_)
  show G M 0 [(0, .ref (ad 28)), (1, iV (x1))] []
  unfold fX5_away at h
  refine ax_aload_n cx 0 dX5_away_0 rfl rfl ?_
  refine ax_iload_n cx 1 dX5_away_1 rfl rfl ?_
  obtain ⟨t1, e2, h⟩ := ob h
  by_cases z3 : t1.1 = 0
  · rw [if_pos z3] at h
    refine ax_callV (As := [iV (x1)]) (q := 28) (ci := 5) (n := 1) (st := []) cx (kX5_checkTown l ad M x1 _ e2 z3) gX5_away_X5_checkTown rfl ⟨by decide, by decide⟩ rfl rfl ⟨rfl, rfl⟩ (by decide +kernel) rfl ⟨by decide, by decide⟩ rfl (Nat.le_of_ble_eq_true rfl) dX5_away_2 ?_
    refine ax_aload_n cx 0 dX5_away_5 rfl rfl ?_
    refine ax_getf (q := 28) (ci := 5) (k := 2) (v := .ref (ad 25)) cx ⟨by decide, by decide⟩ rfl rfl hi_X5_away_X5 (by decide) hl_X5_away_26 rfl rfl dX5_away_6 ?_
    refine ax_iload_n cx 1 dX5_away_9 rfl rfl ?_
    obtain ⟨t4, e5, h⟩ := ob h
    refine ax_callV (As := [iV (x1)]) (q := 25) (ci := 3) (n := 1) cx (kX3_remove l ad M x1 _ e5) gX5_away_X3_remove rfl ⟨by decide, by decide⟩ rfl rfl ⟨rfl, rfl⟩ (by decide +kernel) rfl ⟨by decide, by decide⟩ rfl (Nat.le_of_ble_eq_true rfl) dX5_away_10 ?_
    cases h
    exact ax_iret cx dX5_away_13 rfl ⟨rfl, rfl⟩
  · rw [if_neg z3] at h
    cases h
    exact absurd hT z3
abbrev rxX5_away : Room := { frames := 7, cells := 1, slots := 6, locals := 111 }
set_option maxRecDepth 100000 in
set_option maxHeartbeats 4000000 in
theorem xX5_away (l : Launch) (hl : l.stackTraces = false) (ad : Nat → Nat) (M : Mem) (x1 : Int) (T : Nat × Int × Mem) (h : fX5_away M x1 = some T) (hT : ¬ T.1 = 0) : MT l yX5_away wsX5_away rxX5_away wC ad [.ref (ad 28), iV (x1)] M (excN T.1) T.2.2 := by
  refine MT.of (cc := cX5_away) (nL := 2) (rt := (some .int)) (own := RX5) (by decide +kernel) rfl rfl (Nat.le_of_ble_eq_true rfl) wC_ok hl ⟨by decide, by decide⟩ (fun G cy => ?_)
  have cx := cy.cx
  show G M 0 [(0, .ref (ad 28)), (1, iV (x1))] []
  unfold fX5_away at h
  refine ax_aload_n cx 0 dX5_away_0 rfl rfl ?_
  refine ax_iload_n cx 1 dX5_away_1 rfl rfl ?_
  obtain ⟨t1, e2, h⟩ := ob h
  by_cases z3 : t1.1 = 0
  · rw [if_pos z3] at h
    refine ax_callV (As := [iV (x1)]) (q := 28) (ci := 5) (n := 1) (st := []) cx (kX5_checkTown l ad M x1 _ e2 z3) gX5_away_X5_checkTown rfl ⟨by decide, by decide⟩ rfl rfl ⟨rfl, rfl⟩ (by decide +kernel) rfl ⟨by decide, by decide⟩ rfl (Nat.le_of_ble_eq_true rfl) dX5_away_2 ?_
    refine ax_aload_n cx 0 dX5_away_5 rfl rfl ?_
    refine ax_getf (q := 28) (ci := 5) (k := 2) (v := .ref (ad 25)) cx ⟨by decide, by decide⟩ rfl rfl hi_X5_away_X5 (by decide) hl_X5_away_26 rfl rfl dX5_away_6 ?_
    refine ax_iload_n cx 1 dX5_away_9 rfl rfl ?_
    obtain ⟨t4, e5, h⟩ := ob h
    refine ax_callV (As := [iV (x1)]) (q := 25) (ci := 3) (n := 1) cx (kX3_remove l ad M x1 _ e5) gX5_away_X3_remove rfl ⟨by decide, by decide⟩ rfl rfl ⟨rfl, rfl⟩ (by decide +kernel) rfl ⟨by decide, by decide⟩ rfl (Nat.le_of_ble_eq_true rfl) dX5_away_10 ?_
    cases h
    exact absurd rfl hT
  · rw [if_neg z3] at h
    cases h
    exact ay_callV (As := [iV (x1)]) (q := 28) (ci := 5) (n := 1) (st := []) cy (xX5_checkTown l hl ad M x1 _ e2 z3) ⟨rfl, rfl⟩ gX5_away_X5_checkTown rfl ⟨by decide, by decide⟩ rfl rfl ⟨rfl, rfl⟩ (by decide +kernel) rfl ⟨by decide, by decide⟩ rfl (Nat.le_of_ble_eq_true rfl) dX5_away_2
def fX5_townAt (M : Mem) (x1 : Int) : Option (Nat × Int × Mem) :=
    Option.bind (fX5_checkTown M x1) (fun t1 => if t1.1 = 0 then (
      Option.bind (fX3_nodeOf M x1) (fun t4 =>
      some (0, t4, M)))
    else some (t1.1, 0, M))
abbrev rmX5_townAt : Room := { frames := 2, cells := 0, slots := 0, locals := 41 }
theorem hl_X5_townAt_26 : Cond.fieldLink RX5 26 "PlateauBench" "nets" "LPlateauBench$Nets;" ∈ wsX5_townAt := by decide +kernel
theorem hi_X5_townAt_X5 : ∀ x ∈ u_ws RX5 TX5 5, x ∈ wsX5_townAt := by decide +kernel
set_option maxRecDepth 100000 in
set_option maxHeartbeats 4000000 in
theorem kX5_townAt (l : Launch) (ad : Nat → Nat) (M : Mem) (x1 : Int) (T : Nat × Int × Mem) (h : fX5_townAt M x1 = some T) (hT : T.1 = 0) : MX l yX5_townAt wsX5_townAt rmX5_townAt wC ad [.ref (ad 28), iV (x1)] M (some (iV (T.2.1))) M := by
  refine MX.of (cc := cX5_townAt) (nL := 2) (rt := (some .int)) (own := RX5) (by decide +kernel) rfl rfl (Nat.le_of_ble_eq_true rfl) wC_ok (fun G cx => ?_)
  show G M 0 [(0, .ref (ad 28)), (1, iV (x1))] []
  unfold fX5_townAt at h
  refine ax_aload_n cx 0 dX5_townAt_0 rfl rfl ?_
  refine ax_iload_n cx 1 dX5_townAt_1 rfl rfl ?_
  obtain ⟨t1, e2, h⟩ := ob h
  by_cases z3 : t1.1 = 0
  · rw [if_pos z3] at h
    refine ax_callV (As := [iV (x1)]) (q := 28) (ci := 5) (n := 1) (st := []) cx (kX5_checkTown l ad M x1 _ e2 z3) gX5_townAt_X5_checkTown rfl ⟨by decide, by decide⟩ rfl rfl ⟨rfl, rfl⟩ (by decide +kernel) rfl ⟨by decide, by decide⟩ rfl (Nat.le_of_ble_eq_true rfl) dX5_townAt_2 ?_
    refine ax_aload_n cx 0 dX5_townAt_5 rfl rfl ?_
    refine ax_getf (q := 28) (ci := 5) (k := 2) (v := .ref (ad 25)) cx ⟨by decide, by decide⟩ rfl rfl hi_X5_townAt_X5 (by decide) hl_X5_townAt_26 rfl rfl dX5_townAt_6 ?_
    refine ax_iload_n cx 1 dX5_townAt_9 rfl rfl ?_
    obtain ⟨t4, e5, h⟩ := ob h
    refine ax_callV (As := [iV (x1)]) (q := 25) (ci := 3) (n := 1) cx (kX3_nodeOf l ad M x1 _ e5) gX5_townAt_X3_nodeOf rfl ⟨by decide, by decide⟩ rfl rfl ⟨rfl, rfl⟩ (by decide +kernel) rfl ⟨by decide, by decide⟩ rfl (Nat.le_of_ble_eq_true rfl) dX5_townAt_10 ?_
    cases h
    exact ax_iret cx dX5_townAt_13 rfl ⟨rfl, rfl⟩
  · rw [if_neg z3] at h
    cases h
    exact absurd hT z3
abbrev rxX5_townAt : Room := { frames := 7, cells := 1, slots := 6, locals := 111 }
set_option maxRecDepth 100000 in
set_option maxHeartbeats 4000000 in
theorem xX5_townAt (l : Launch) (hl : l.stackTraces = false) (ad : Nat → Nat) (M : Mem) (x1 : Int) (T : Nat × Int × Mem) (h : fX5_townAt M x1 = some T) (hT : ¬ T.1 = 0) : MT l yX5_townAt wsX5_townAt rxX5_townAt wC ad [.ref (ad 28), iV (x1)] M (excN T.1) M := by
  refine MT.of (cc := cX5_townAt) (nL := 2) (rt := (some .int)) (own := RX5) (by decide +kernel) rfl rfl (Nat.le_of_ble_eq_true rfl) wC_ok hl ⟨by decide, by decide⟩ (fun G cy => ?_)
  have cx := cy.cx
  show G M 0 [(0, .ref (ad 28)), (1, iV (x1))] []
  unfold fX5_townAt at h
  refine ax_aload_n cx 0 dX5_townAt_0 rfl rfl ?_
  refine ax_iload_n cx 1 dX5_townAt_1 rfl rfl ?_
  obtain ⟨t1, e2, h⟩ := ob h
  by_cases z3 : t1.1 = 0
  · rw [if_pos z3] at h
    refine ax_callV (As := [iV (x1)]) (q := 28) (ci := 5) (n := 1) (st := []) cx (kX5_checkTown l ad M x1 _ e2 z3) gX5_townAt_X5_checkTown rfl ⟨by decide, by decide⟩ rfl rfl ⟨rfl, rfl⟩ (by decide +kernel) rfl ⟨by decide, by decide⟩ rfl (Nat.le_of_ble_eq_true rfl) dX5_townAt_2 ?_
    refine ax_aload_n cx 0 dX5_townAt_5 rfl rfl ?_
    refine ax_getf (q := 28) (ci := 5) (k := 2) (v := .ref (ad 25)) cx ⟨by decide, by decide⟩ rfl rfl hi_X5_townAt_X5 (by decide) hl_X5_townAt_26 rfl rfl dX5_townAt_6 ?_
    refine ax_iload_n cx 1 dX5_townAt_9 rfl rfl ?_
    obtain ⟨t4, e5, h⟩ := ob h
    refine ax_callV (As := [iV (x1)]) (q := 25) (ci := 3) (n := 1) cx (kX3_nodeOf l ad M x1 _ e5) gX5_townAt_X3_nodeOf rfl ⟨by decide, by decide⟩ rfl rfl ⟨rfl, rfl⟩ (by decide +kernel) rfl ⟨by decide, by decide⟩ rfl (Nat.le_of_ble_eq_true rfl) dX5_townAt_10 ?_
    cases h
    exact absurd rfl hT
  · rw [if_neg z3] at h
    cases h
    exact ay_callV (As := [iV (x1)]) (q := 28) (ci := 5) (n := 1) (st := []) cy (xX5_checkTown l hl ad M x1 _ e2 z3) ⟨rfl, rfl⟩ gX5_townAt_X5_checkTown rfl ⟨by decide, by decide⟩ rfl rfl ⟨rfl, rfl⟩ (by decide +kernel) rfl ⟨by decide, by decide⟩ rfl (Nat.le_of_ble_eq_true rfl) dX5_townAt_2
def fX5_isUsed (M : Mem) (x1 : Int) : Option (Nat × Int × Mem) :=
    Option.bind (fX5_checkEdge M x1) (fun t1 => if t1.1 = 0 then (
      Option.bind (fX3_isInCheapest M x1) (fun t4 =>
      gd (t4.1 = 0 ∨ t4.1 = 1) (
      some (0, t4.1, t4.2))))
    else some (t1.1, 0, M))
abbrev rmX5_isUsed : Room := { frames := 5, cells := 0, slots := 0, locals := 126 }
theorem hl_X5_isUsed_26 : Cond.fieldLink RX5 26 "PlateauBench" "nets" "LPlateauBench$Nets;" ∈ wsX5_isUsed := by decide +kernel
theorem hl_X5_isUsed_10 : Cond.fieldLink RX5 10 "PlateauBench" "grid" "LPlateauBench$Grid;" ∈ wsX5_isUsed := by decide +kernel
theorem hi_X5_isUsed_X5 : ∀ x ∈ u_ws RX5 TX5 5, x ∈ wsX5_isUsed := by decide +kernel
set_option maxRecDepth 100000 in
set_option maxHeartbeats 4000000 in
theorem kX5_isUsed (l : Launch) (ad : Nat → Nat) (M : Mem) (x1 : Int) (T : Nat × Int × Mem) (h : fX5_isUsed M x1 = some T) (hT : T.1 = 0) : MX l yX5_isUsed wsX5_isUsed rmX5_isUsed wC ad [.ref (ad 28), iV (x1)] M (some (iV (T.2.1))) T.2.2 := by
  refine MX.of (cc := cX5_isUsed) (nL := 2) (rt := (some .boolean)) (own := RX5) (by decide +kernel) rfl rfl (Nat.le_of_ble_eq_true rfl) wC_ok (fun G cx => ?_)
  show G M 0 [(0, .ref (ad 28)), (1, iV (x1))] []
  unfold fX5_isUsed at h
  refine ax_iload_n cx 1 dX5_isUsed_0 rfl rfl ?_
  obtain ⟨t1, e2, h⟩ := ob h
  by_cases z3 : t1.1 = 0
  · rw [if_pos z3] at h
    refine ax_callS (As := [iV (x1)]) (n := 1) (st := []) cx (kX5_checkEdge l ad M x1 _ e2 z3) gX5_isUsed_X5_checkEdge rfl ⟨rfl, rfl⟩ (by decide +kernel) rfl ⟨by decide, by decide⟩ rfl (Nat.le_of_ble_eq_true rfl) dX5_isUsed_1 ?_
    refine ax_aload_n cx 0 dX5_isUsed_4 rfl rfl ?_
    refine ax_getf (q := 28) (ci := 5) (k := 2) (v := .ref (ad 25)) cx ⟨by decide, by decide⟩ rfl rfl hi_X5_isUsed_X5 (by decide) hl_X5_isUsed_26 rfl rfl dX5_isUsed_5 ?_
    refine ax_aload_n cx 0 dX5_isUsed_8 rfl rfl ?_
    refine ax_getf (q := 28) (ci := 5) (k := 0) (v := .ref (ad 23)) cx ⟨by decide, by decide⟩ rfl rfl hi_X5_isUsed_X5 (by decide) hl_X5_isUsed_10 rfl rfl dX5_isUsed_9 ?_
    refine ax_iload_n cx 1 dX5_isUsed_12 rfl rfl ?_
    obtain ⟨t4, e5, h⟩ := ob h
    refine ax_callV (As := [.ref (ad 23), iV (x1)]) (q := 25) (ci := 3) (n := 2) cx (kX3_isInCheapest l ad M x1 _ e5) gX5_isUsed_X3_isInCheapest rfl ⟨by decide, by decide⟩ rfl rfl ⟨rfl, rfl⟩ (by decide +kernel) rfl ⟨by decide, by decide⟩ rfl (Nat.le_of_ble_eq_true rfl) dX5_isUsed_13 ?_
    obtain ⟨g6, h⟩ := gd_some h
    cases h
    exact ax_zret cx dX5_isUsed_16 rfl g6 ⟨rfl, rfl⟩
  · rw [if_neg z3] at h
    cases h
    exact absurd hT z3
abbrev rxX5_isUsed : Room := { frames := 7, cells := 1, slots := 6, locals := 126 }
set_option maxRecDepth 100000 in
set_option maxHeartbeats 4000000 in
theorem xX5_isUsed (l : Launch) (hl : l.stackTraces = false) (ad : Nat → Nat) (M : Mem) (x1 : Int) (T : Nat × Int × Mem) (h : fX5_isUsed M x1 = some T) (hT : ¬ T.1 = 0) : MT l yX5_isUsed wsX5_isUsed rxX5_isUsed wC ad [.ref (ad 28), iV (x1)] M (excN T.1) T.2.2 := by
  refine MT.of (cc := cX5_isUsed) (nL := 2) (rt := (some .boolean)) (own := RX5) (by decide +kernel) rfl rfl (Nat.le_of_ble_eq_true rfl) wC_ok hl ⟨by decide, by decide⟩ (fun G cy => ?_)
  have cx := cy.cx
  show G M 0 [(0, .ref (ad 28)), (1, iV (x1))] []
  unfold fX5_isUsed at h
  refine ax_iload_n cx 1 dX5_isUsed_0 rfl rfl ?_
  obtain ⟨t1, e2, h⟩ := ob h
  by_cases z3 : t1.1 = 0
  · rw [if_pos z3] at h
    refine ax_callS (As := [iV (x1)]) (n := 1) (st := []) cx (kX5_checkEdge l ad M x1 _ e2 z3) gX5_isUsed_X5_checkEdge rfl ⟨rfl, rfl⟩ (by decide +kernel) rfl ⟨by decide, by decide⟩ rfl (Nat.le_of_ble_eq_true rfl) dX5_isUsed_1 ?_
    refine ax_aload_n cx 0 dX5_isUsed_4 rfl rfl ?_
    refine ax_getf (q := 28) (ci := 5) (k := 2) (v := .ref (ad 25)) cx ⟨by decide, by decide⟩ rfl rfl hi_X5_isUsed_X5 (by decide) hl_X5_isUsed_26 rfl rfl dX5_isUsed_5 ?_
    refine ax_aload_n cx 0 dX5_isUsed_8 rfl rfl ?_
    refine ax_getf (q := 28) (ci := 5) (k := 0) (v := .ref (ad 23)) cx ⟨by decide, by decide⟩ rfl rfl hi_X5_isUsed_X5 (by decide) hl_X5_isUsed_10 rfl rfl dX5_isUsed_9 ?_
    refine ax_iload_n cx 1 dX5_isUsed_12 rfl rfl ?_
    obtain ⟨t4, e5, h⟩ := ob h
    refine ax_callV (As := [.ref (ad 23), iV (x1)]) (q := 25) (ci := 3) (n := 2) cx (kX3_isInCheapest l ad M x1 _ e5) gX5_isUsed_X3_isInCheapest rfl ⟨by decide, by decide⟩ rfl rfl ⟨rfl, rfl⟩ (by decide +kernel) rfl ⟨by decide, by decide⟩ rfl (Nat.le_of_ble_eq_true rfl) dX5_isUsed_13 ?_
    obtain ⟨g6, h⟩ := gd_some h
    cases h
    exact absurd rfl hT
  · rw [if_neg z3] at h
    cases h
    exact ay_callS (As := [iV (x1)]) (n := 1) (st := []) cy (xX5_checkEdge l hl ad M x1 _ e2 z3) ⟨rfl, rfl⟩ gX5_isUsed_X5_checkEdge rfl ⟨rfl, rfl⟩ (by decide +kernel) rfl ⟨by decide, by decide⟩ rfl (Nat.le_of_ble_eq_true rfl) dX5_isUsed_1
def fX5_twoWays (M : Mem) (x1 : Int) (x2 : Int) : Option (Nat × Int × Mem) :=
    Option.bind (fX5_checkNode M x1) (fun t1 => if t1.1 = 0 then (
      Option.bind (fX5_checkNode M x2) (fun t4 => if t4.1 = 0 then (
        gd (inR (x1)) (
        gd (inR (x2)) (
        if x1 = x2 then (
          some (2, 0, M))
        else (
          Option.bind (fX4_cheapestPair M x1 x2) (fun t10 =>
          some (0, t10.1, t10.2))))))
      else some (t4.1, 0, M)))
    else some (t1.1, 0, M))
abbrev rmX5_twoWays : Room := { frames := 5, cells := 0, slots := 0, locals := 122 }
theorem hl_X5_twoWays_19 : Cond.fieldLink RX5 19 "PlateauBench" "ways" "LPlateauBench$TwoWays;" ∈ wsX5_twoWays := by decide +kernel
theorem hl_X5_twoWays_10 : Cond.fieldLink RX5 10 "PlateauBench" "grid" "LPlateauBench$Grid;" ∈ wsX5_twoWays := by decide +kernel
theorem hi_X5_twoWays_X5 : ∀ x ∈ u_ws RX5 TX5 5, x ∈ wsX5_twoWays := by decide +kernel
theorem ht1_X5_twoWays_t13 : Cond.classLink RX5 44 "java/lang/IllegalArgumentException" ∈ wsX5_twoWays := by decide +kernel
theorem ht2_X5_twoWays_t13 : Cond.initialized "java/lang/IllegalArgumentException" ∈ wsX5_twoWays := by decide +kernel
theorem ht3_X5_twoWays_t13 : ∀ w ∈ (vx_atS RX5 48 "java/lang/IllegalArgumentException" ["java/lang/RuntimeException", "java/lang/Exception"]).filter goodWord, w ∈ wsX5_twoWays := fun _ h => List.mem_cons_of_mem _ (List.mem_append_left _ (List.mem_append_right _ h))
set_option maxRecDepth 100000 in
set_option maxHeartbeats 4000000 in
theorem kX5_twoWays (l : Launch) (ad : Nat → Nat) (M : Mem) (x1 : Int) (x2 : Int) (T : Nat × Int × Mem) (h : fX5_twoWays M x1 x2 = some T) (hT : T.1 = 0) : MX l yX5_twoWays wsX5_twoWays rmX5_twoWays wC ad [.ref (ad 28), iV (x1), iV (x2)] M (some (iV (T.2.1))) T.2.2 := by
  refine MX.of (cc := cX5_twoWays) (nL := 3) (rt := (some .int)) (own := RX5) (by decide +kernel) rfl rfl (Nat.le_of_ble_eq_true rfl) wC_ok (fun G cx => ?_)
  show G M 0 [(0, .ref (ad 28)), (1, iV (x1)), (2, iV (x2))] []
  unfold fX5_twoWays at h
  refine ax_iload_n cx 1 dX5_twoWays_0 rfl rfl ?_
  obtain ⟨t1, e2, h⟩ := ob h
  by_cases z3 : t1.1 = 0
  · rw [if_pos z3] at h
    refine ax_callS (As := [iV (x1)]) (n := 1) (st := []) cx (kX5_checkNode l ad M x1 _ e2 z3) gX5_twoWays_X5_checkNode rfl ⟨rfl, rfl⟩ (by decide +kernel) rfl ⟨by decide, by decide⟩ rfl (Nat.le_of_ble_eq_true rfl) dX5_twoWays_1 ?_
    refine ax_iload_n cx 2 dX5_twoWays_4 rfl rfl ?_
    obtain ⟨t4, e5, h⟩ := ob h
    by_cases z6 : t4.1 = 0
    · rw [if_pos z6] at h
      refine ax_callS (As := [iV (x2)]) (n := 1) (st := []) cx (kX5_checkNode l ad M x2 _ e5 z6) gX5_twoWays_X5_checkNode rfl ⟨rfl, rfl⟩ (by decide +kernel) rfl ⟨by decide, by decide⟩ rfl (Nat.le_of_ble_eq_true rfl) dX5_twoWays_5 ?_
      refine ax_iload_n cx 1 dX5_twoWays_8 rfl rfl ?_
      refine ax_iload_n cx 2 dX5_twoWays_9 rfl rfl ?_
      obtain ⟨g7, h⟩ := gd_some h
      obtain ⟨g8, h⟩ := gd_some h
      refine ax_icmp_ne cx 23 dX5_twoWays_10 (by decide) g7 g8 (fun c9 => ?_) (fun c9 => ?_)
      · rw [if_pos c9] at h
        cases h
        exact absurd hT (Nat.succ_ne_zero _)
      · rw [if_neg c9] at h
        refine ax_aload_n cx 0 dX5_twoWays_23 rfl rfl ?_
        refine ax_getf (q := 28) (ci := 5) (k := 1) (v := .ref (ad 24)) cx ⟨by decide, by decide⟩ rfl rfl hi_X5_twoWays_X5 (by decide) hl_X5_twoWays_19 rfl rfl dX5_twoWays_24 ?_
        refine ax_aload_n cx 0 dX5_twoWays_27 rfl rfl ?_
        refine ax_getf (q := 28) (ci := 5) (k := 0) (v := .ref (ad 23)) cx ⟨by decide, by decide⟩ rfl rfl hi_X5_twoWays_X5 (by decide) hl_X5_twoWays_10 rfl rfl dX5_twoWays_28 ?_
        refine ax_iload_n cx 1 dX5_twoWays_31 rfl rfl ?_
        refine ax_iload_n cx 2 dX5_twoWays_32 rfl rfl ?_
        obtain ⟨t10, e11, h⟩ := ob h
        refine ax_callV (As := [.ref (ad 23), iV (x1), iV (x2)]) (q := 24) (ci := 4) (n := 3) cx (kX4_cheapestPair l ad M x1 x2 _ e11) gX5_twoWays_X4_cheapestPair rfl ⟨by decide, by decide⟩ rfl rfl ⟨rfl, rfl⟩ (by decide +kernel) rfl ⟨by decide, by decide⟩ rfl (Nat.le_of_ble_eq_true rfl) dX5_twoWays_33 ?_
        cases h
        exact ax_iret cx dX5_twoWays_36 rfl ⟨rfl, rfl⟩
    · rw [if_neg z6] at h
      cases h
      exact absurd hT z6
  · rw [if_neg z3] at h
    cases h
    exact absurd hT z3
abbrev rxX5_twoWays : Room := { frames := 7, cells := 1, slots := 6, locals := 122 }
set_option maxRecDepth 100000 in
set_option maxHeartbeats 4000000 in
theorem xX5_twoWays (l : Launch) (hl : l.stackTraces = false) (ad : Nat → Nat) (M : Mem) (x1 : Int) (x2 : Int) (T : Nat × Int × Mem) (h : fX5_twoWays M x1 x2 = some T) (hT : ¬ T.1 = 0) : MT l yX5_twoWays wsX5_twoWays rxX5_twoWays wC ad [.ref (ad 28), iV (x1), iV (x2)] M (excN T.1) T.2.2 := by
  refine MT.of (cc := cX5_twoWays) (nL := 3) (rt := (some .int)) (own := RX5) (by decide +kernel) rfl rfl (Nat.le_of_ble_eq_true rfl) wC_ok hl ⟨by decide, by decide⟩ (fun G cy => ?_)
  have cx := cy.cx
  show G M 0 [(0, .ref (ad 28)), (1, iV (x1)), (2, iV (x2))] []
  unfold fX5_twoWays at h
  refine ax_iload_n cx 1 dX5_twoWays_0 rfl rfl ?_
  obtain ⟨t1, e2, h⟩ := ob h
  by_cases z3 : t1.1 = 0
  · rw [if_pos z3] at h
    refine ax_callS (As := [iV (x1)]) (n := 1) (st := []) cx (kX5_checkNode l ad M x1 _ e2 z3) gX5_twoWays_X5_checkNode rfl ⟨rfl, rfl⟩ (by decide +kernel) rfl ⟨by decide, by decide⟩ rfl (Nat.le_of_ble_eq_true rfl) dX5_twoWays_1 ?_
    refine ax_iload_n cx 2 dX5_twoWays_4 rfl rfl ?_
    obtain ⟨t4, e5, h⟩ := ob h
    by_cases z6 : t4.1 = 0
    · rw [if_pos z6] at h
      refine ax_callS (As := [iV (x2)]) (n := 1) (st := []) cx (kX5_checkNode l ad M x2 _ e5 z6) gX5_twoWays_X5_checkNode rfl ⟨rfl, rfl⟩ (by decide +kernel) rfl ⟨by decide, by decide⟩ rfl (Nat.le_of_ble_eq_true rfl) dX5_twoWays_5 ?_
      refine ax_iload_n cx 1 dX5_twoWays_8 rfl rfl ?_
      refine ax_iload_n cx 2 dX5_twoWays_9 rfl rfl ?_
      obtain ⟨g7, h⟩ := gd_some h
      obtain ⟨g8, h⟩ := gd_some h
      refine ax_icmp_ne cx 23 dX5_twoWays_10 (by decide) g7 g8 (fun c9 => ?_) (fun c9 => ?_)
      · rw [if_pos c9] at h
        cases h
        exact ay_throw (cls := "java/lang/IllegalArgumentException") (text := "two ways need two nodes") (ik := 44) (is := 121) (ic := 48) cy rfl (by decide +kernel) ht1_X5_twoWays_t13 ht2_X5_twoWays_t13 ht3_X5_twoWays_t13 hb1_48 hb2_48 (by decide +kernel) BW_tab dX5_twoWays_13 dX5_twoWays_16 dX5_twoWays_17 dX5_twoWays_19 dX5_twoWays_22 (by decide) (Nat.le_of_ble_eq_true rfl) ⟨rfl, rfl⟩
      · rw [if_neg c9] at h
        refine ax_aload_n cx 0 dX5_twoWays_23 rfl rfl ?_
        refine ax_getf (q := 28) (ci := 5) (k := 1) (v := .ref (ad 24)) cx ⟨by decide, by decide⟩ rfl rfl hi_X5_twoWays_X5 (by decide) hl_X5_twoWays_19 rfl rfl dX5_twoWays_24 ?_
        refine ax_aload_n cx 0 dX5_twoWays_27 rfl rfl ?_
        refine ax_getf (q := 28) (ci := 5) (k := 0) (v := .ref (ad 23)) cx ⟨by decide, by decide⟩ rfl rfl hi_X5_twoWays_X5 (by decide) hl_X5_twoWays_10 rfl rfl dX5_twoWays_28 ?_
        refine ax_iload_n cx 1 dX5_twoWays_31 rfl rfl ?_
        refine ax_iload_n cx 2 dX5_twoWays_32 rfl rfl ?_
        obtain ⟨t10, e11, h⟩ := ob h
        refine ax_callV (As := [.ref (ad 23), iV (x1), iV (x2)]) (q := 24) (ci := 4) (n := 3) cx (kX4_cheapestPair l ad M x1 x2 _ e11) gX5_twoWays_X4_cheapestPair rfl ⟨by decide, by decide⟩ rfl rfl ⟨rfl, rfl⟩ (by decide +kernel) rfl ⟨by decide, by decide⟩ rfl (Nat.le_of_ble_eq_true rfl) dX5_twoWays_33 ?_
        cases h
        exact absurd rfl hT
    · rw [if_neg z6] at h
      cases h
      exact ay_callS (As := [iV (x2)]) (n := 1) (st := []) cy (xX5_checkNode l hl ad M x2 _ e5 z6) ⟨rfl, rfl⟩ gX5_twoWays_X5_checkNode rfl ⟨rfl, rfl⟩ (by decide +kernel) rfl ⟨by decide, by decide⟩ rfl (Nat.le_of_ble_eq_true rfl) dX5_twoWays_5
  · rw [if_neg z3] at h
    cases h
    exact ay_callS (As := [iV (x1)]) (n := 1) (st := []) cy (xX5_checkNode l hl ad M x1 _ e2 z3) ⟨rfl, rfl⟩ gX5_twoWays_X5_checkNode rfl ⟨rfl, rfl⟩ (by decide +kernel) rfl ⟨by decide, by decide⟩ rfl (Nat.le_of_ble_eq_true rfl) dX5_twoWays_1
def fX5_pin (M : Mem) (x1 : Int) (x2 : Int) : Option (Nat × Int × Mem) :=
    Option.bind (fX5_checkNode M x1) (fun t1 => if t1.1 = 0 then (
      gd (inR (x2)) (
      if x2 < 0 then (
        some (2, 0, M))
      else (
        if x2 ≤ 2 then (
          Option.bind (fX0_change M x1 x2) (fun t7 =>
          some (0, t7.1, t7.2)))
        else (
          some (2, 0, M)))))
    else some (t1.1, 0, M))
abbrev rmX5_pin : Room := { frames := 1, cells := 0, slots := 0, locals := 23 }
theorem hl_X5_pin_33 : Cond.fieldLink RX5 33 "PlateauBench" "films" "LPlateauBench$Films;" ∈ wsX5_pin := by decide +kernel
theorem hi_X5_pin_X5 : ∀ x ∈ u_ws RX5 TX5 5, x ∈ wsX5_pin := by decide +kernel
theorem ht1_X5_pin_t13 : Cond.classLink RX5 44 "java/lang/IllegalArgumentException" ∈ wsX5_pin := by decide +kernel
theorem ht2_X5_pin_t13 : Cond.initialized "java/lang/IllegalArgumentException" ∈ wsX5_pin := by decide +kernel
theorem ht3_X5_pin_t13 : ∀ w ∈ (vx_atS RX5 48 "java/lang/IllegalArgumentException" ["java/lang/RuntimeException", "java/lang/Exception"]).filter goodWord, w ∈ wsX5_pin := fun _ h => List.mem_cons_of_mem _ (List.mem_append_left _ (List.mem_append_right _ h))
set_option maxRecDepth 100000 in
set_option maxHeartbeats 4000000 in
theorem kX5_pin (l : Launch) (ad : Nat → Nat) (M : Mem) (x1 : Int) (x2 : Int) (T : Nat × Int × Mem) (h : fX5_pin M x1 x2 = some T) (hT : T.1 = 0) : MX l yX5_pin wsX5_pin rmX5_pin wC ad [.ref (ad 28), iV (x1), iV (x2)] M (some (iV (T.2.1))) T.2.2 := by
  refine MX.of (cc := cX5_pin) (nL := 3) (rt := (some .int)) (own := RX5) (by decide +kernel) rfl rfl (Nat.le_of_ble_eq_true rfl) wC_ok (fun G cx => ?_)
  show G M 0 [(0, .ref (ad 28)), (1, iV (x1)), (2, iV (x2))] []
  unfold fX5_pin at h
  refine ax_iload_n cx 1 dX5_pin_0 rfl rfl ?_
  obtain ⟨t1, e2, h⟩ := ob h
  by_cases z3 : t1.1 = 0
  · rw [if_pos z3] at h
    refine ax_callS (As := [iV (x1)]) (n := 1) (st := []) cx (kX5_checkNode l ad M x1 _ e2 z3) gX5_pin_X5_checkNode rfl ⟨rfl, rfl⟩ (by decide +kernel) rfl ⟨by decide, by decide⟩ rfl (Nat.le_of_ble_eq_true rfl) dX5_pin_1 ?_
    refine ax_iload_n cx 2 dX5_pin_4 rfl rfl ?_
    obtain ⟨g4, h⟩ := gd_some h
    refine ax_if_lt cx 13 dX5_pin_5 (by decide) g4 (fun c5 => ?_) (fun c5 => ?_)
    · rw [if_pos c5] at h
      cases h
      exact absurd hT (Nat.succ_ne_zero _)
    · rw [if_neg c5] at h
      refine ax_iload_n cx 2 dX5_pin_8 rfl rfl ?_
      refine ax_iconst cx dX5_pin_9 ?_
      refine ax_icmp_le cx 23 dX5_pin_10 (by decide) g4 ⟨by decide, by decide⟩ (fun c6 => ?_) (fun c6 => ?_)
      · rw [if_pos c6] at h
        refine ax_aload_n cx 0 dX5_pin_23 rfl rfl ?_
        refine ax_getf (q := 28) (ci := 5) (k := 3) (v := .ref (ad 26)) cx ⟨by decide, by decide⟩ rfl rfl hi_X5_pin_X5 (by decide) hl_X5_pin_33 rfl rfl dX5_pin_24 ?_
        refine ax_iload_n cx 1 dX5_pin_27 rfl rfl ?_
        refine ax_iload_n cx 2 dX5_pin_28 rfl rfl ?_
        obtain ⟨t7, e8, h⟩ := ob h
        refine ax_callV (As := [iV (x1), iV (x2)]) (q := 26) (ci := 0) (n := 2) cx (kX0_change l ad M x1 x2 _ e8) gX5_pin_X0_change rfl ⟨by decide, by decide⟩ rfl rfl ⟨rfl, rfl⟩ (by decide +kernel) rfl ⟨by decide, by decide⟩ rfl (Nat.le_of_ble_eq_true rfl) dX5_pin_29 ?_
        cases h
        exact ax_iret cx dX5_pin_32 rfl ⟨rfl, rfl⟩
      · rw [if_neg c6] at h
        cases h
        exact absurd hT (Nat.succ_ne_zero _)
  · rw [if_neg z3] at h
    cases h
    exact absurd hT z3
abbrev rxX5_pin : Room := { frames := 7, cells := 1, slots := 6, locals := 110 }
set_option maxRecDepth 100000 in
set_option maxHeartbeats 4000000 in
theorem xX5_pin (l : Launch) (hl : l.stackTraces = false) (ad : Nat → Nat) (M : Mem) (x1 : Int) (x2 : Int) (T : Nat × Int × Mem) (h : fX5_pin M x1 x2 = some T) (hT : ¬ T.1 = 0) : MT l yX5_pin wsX5_pin rxX5_pin wC ad [.ref (ad 28), iV (x1), iV (x2)] M (excN T.1) T.2.2 := by
  refine MT.of (cc := cX5_pin) (nL := 3) (rt := (some .int)) (own := RX5) (by decide +kernel) rfl rfl (Nat.le_of_ble_eq_true rfl) wC_ok hl ⟨by decide, by decide⟩ (fun G cy => ?_)
  have cx := cy.cx
  show G M 0 [(0, .ref (ad 28)), (1, iV (x1)), (2, iV (x2))] []
  unfold fX5_pin at h
  refine ax_iload_n cx 1 dX5_pin_0 rfl rfl ?_
  obtain ⟨t1, e2, h⟩ := ob h
  by_cases z3 : t1.1 = 0
  · rw [if_pos z3] at h
    refine ax_callS (As := [iV (x1)]) (n := 1) (st := []) cx (kX5_checkNode l ad M x1 _ e2 z3) gX5_pin_X5_checkNode rfl ⟨rfl, rfl⟩ (by decide +kernel) rfl ⟨by decide, by decide⟩ rfl (Nat.le_of_ble_eq_true rfl) dX5_pin_1 ?_
    refine ax_iload_n cx 2 dX5_pin_4 rfl rfl ?_
    obtain ⟨g4, h⟩ := gd_some h
    refine ax_if_lt cx 13 dX5_pin_5 (by decide) g4 (fun c5 => ?_) (fun c5 => ?_)
    · rw [if_pos c5] at h
      cases h
      exact ay_throw (cls := "java/lang/IllegalArgumentException") (text := "a node is pinned as 0 to 2") (ik := 44) (is := 126) (ic := 48) cy rfl (by decide +kernel) ht1_X5_pin_t13 ht2_X5_pin_t13 ht3_X5_pin_t13 hb1_48 hb2_48 (by decide +kernel) BW_tab dX5_pin_13 dX5_pin_16 dX5_pin_17 dX5_pin_19 dX5_pin_22 (by decide) (Nat.le_of_ble_eq_true rfl) ⟨rfl, rfl⟩
    · rw [if_neg c5] at h
      refine ax_iload_n cx 2 dX5_pin_8 rfl rfl ?_
      refine ax_iconst cx dX5_pin_9 ?_
      refine ax_icmp_le cx 23 dX5_pin_10 (by decide) g4 ⟨by decide, by decide⟩ (fun c6 => ?_) (fun c6 => ?_)
      · rw [if_pos c6] at h
        refine ax_aload_n cx 0 dX5_pin_23 rfl rfl ?_
        refine ax_getf (q := 28) (ci := 5) (k := 3) (v := .ref (ad 26)) cx ⟨by decide, by decide⟩ rfl rfl hi_X5_pin_X5 (by decide) hl_X5_pin_33 rfl rfl dX5_pin_24 ?_
        refine ax_iload_n cx 1 dX5_pin_27 rfl rfl ?_
        refine ax_iload_n cx 2 dX5_pin_28 rfl rfl ?_
        obtain ⟨t7, e8, h⟩ := ob h
        refine ax_callV (As := [iV (x1), iV (x2)]) (q := 26) (ci := 0) (n := 2) cx (kX0_change l ad M x1 x2 _ e8) gX5_pin_X0_change rfl ⟨by decide, by decide⟩ rfl rfl ⟨rfl, rfl⟩ (by decide +kernel) rfl ⟨by decide, by decide⟩ rfl (Nat.le_of_ble_eq_true rfl) dX5_pin_29 ?_
        cases h
        exact absurd rfl hT
      · rw [if_neg c6] at h
        cases h
        exact ay_throw (cls := "java/lang/IllegalArgumentException") (text := "a node is pinned as 0 to 2") (ik := 44) (is := 126) (ic := 48) cy rfl (by decide +kernel) ht1_X5_pin_t13 ht2_X5_pin_t13 ht3_X5_pin_t13 hb1_48 hb2_48 (by decide +kernel) BW_tab dX5_pin_13 dX5_pin_16 dX5_pin_17 dX5_pin_19 dX5_pin_22 (by decide) (Nat.le_of_ble_eq_true rfl) ⟨rfl, rfl⟩
  · rw [if_neg z3] at h
    cases h
    exact ay_callS (As := [iV (x1)]) (n := 1) (st := []) cy (xX5_checkNode l hl ad M x1 _ e2 z3) ⟨rfl, rfl⟩ gX5_pin_X5_checkNode rfl ⟨rfl, rfl⟩ (by decide +kernel) rfl ⟨by decide, by decide⟩ rfl (Nat.le_of_ble_eq_true rfl) dX5_pin_1
def fX5_costOf (M : Mem) (x1 : Int64) : Option (Nat × Int × Mem) :=
    if zlcmp (llushr x1 36) 0 = 0 then (
      Option.bind (fX0_isFilm M x1) (fun t2 =>
      gd (inR (t2)) (
      Option.bind (if t2 = 0 then (
        some ((-1)))
      else (
        Option.bind (fX0_priceOf M x1) (fun t6 =>
        some (t6)))) (fun t8 =>
      some (0, t8, M)))))
    else (
      some (2, 0, M))
abbrev rmX5_costOf : Room := { frames := 2, cells := 0, slots := 0, locals := 47 }
theorem hl_X5_costOf_33 : Cond.fieldLink RX5 33 "PlateauBench" "films" "LPlateauBench$Films;" ∈ wsX5_costOf := by decide +kernel
theorem hl_X5_costOf_10 : Cond.fieldLink RX5 10 "PlateauBench" "grid" "LPlateauBench$Grid;" ∈ wsX5_costOf := by decide +kernel
theorem hi_X5_costOf_X5 : ∀ x ∈ u_ws RX5 TX5 5, x ∈ wsX5_costOf := by decide +kernel
theorem ht1_X5_costOf_t9 : Cond.classLink RX5 44 "java/lang/IllegalArgumentException" ∈ wsX5_costOf := by decide +kernel
theorem ht2_X5_costOf_t9 : Cond.initialized "java/lang/IllegalArgumentException" ∈ wsX5_costOf := by decide +kernel
theorem ht3_X5_costOf_t9 : ∀ w ∈ (vx_atS RX5 48 "java/lang/IllegalArgumentException" ["java/lang/RuntimeException", "java/lang/Exception"]).filter goodWord, w ∈ wsX5_costOf := fun _ h => List.mem_cons_of_mem _ (List.mem_append_right _ h)
set_option maxRecDepth 100000 in
set_option maxHeartbeats 4000000 in
theorem kX5_costOf (l : Launch) (ad : Nat → Nat) (M : Mem) (x1 : Int64) (T : Nat × Int × Mem) (h : fX5_costOf M x1 = some T) (hT : T.1 = 0) : MX l yX5_costOf wsX5_costOf rmX5_costOf wC ad [.ref (ad 28), .long (x1)] M (some (iV (T.2.1))) M := by
  refine MX.of (cc := cX5_costOf) (nL := 3) (rt := (some .int)) (own := RX5) (by decide +kernel) rfl rfl (Nat.le_of_ble_eq_true rfl) wC_ok (fun G cx => ?_)
  show G M 0 [(0, .ref (ad 28)), (1, .long (x1))] []
  unfold fX5_costOf at h
  refine ax_lload_n cx 1 dX5_costOf_0 rfl rfl ?_
  refine ax_bipush (z := 36) cx dX5_costOf_1 (by decide) ?_
  refine ax_lushr cx dX5_costOf_3 ?_
  refine ax_lconst (v := 0) cx dX5_costOf_4 rfl ?_
  refine ax_lcmp cx dX5_costOf_5 ?_
  refine ax_if_eq cx 19 dX5_costOf_6 (by decide) (zlcmp_R _ _) (fun c1 => ?_) (fun c1 => ?_)
  · rw [if_pos c1] at h
    refine ax_aload_n cx 0 dX5_costOf_19 rfl rfl ?_
    refine ax_getf (q := 28) (ci := 5) (k := 3) (v := .ref (ad 26)) cx ⟨by decide, by decide⟩ rfl rfl hi_X5_costOf_X5 (by decide) hl_X5_costOf_33 rfl rfl dX5_costOf_20 ?_
    refine ax_lload_n cx 1 dX5_costOf_23 rfl rfl ?_
    obtain ⟨t2, e3, h⟩ := ob h
    refine ax_callV (As := [.long (x1)]) (q := 26) (ci := 0) (n := 1) cx (kX0_isFilm l ad M x1 _ e3) gX5_costOf_X0_isFilm rfl ⟨by decide, by decide⟩ rfl rfl ⟨rfl, rfl⟩ (by decide +kernel) rfl ⟨by decide, by decide⟩ rfl (Nat.le_of_ble_eq_true rfl) dX5_costOf_24 ?_
    obtain ⟨g4, h⟩ := gd_some h
    obtain ⟨t8, e10, h⟩ := ob h
    have J9 : G M 46 [] [iV (t8)] := by
      cases h
      exact ax_iret cx dX5_costOf_46 rfl ⟨rfl, rfl⟩
    clear h
    have h := e10
    clear e10
    refine ax_if_eq cx 45 dX5_costOf_27 (by decide) g4 (fun c5 => ?_) (fun c5 => ?_)
    · rw [if_pos c5] at h
      refine ax_iconst cx dX5_costOf_45 ?_
      refine ax_lv cx [] rfl ?_
      cases h
      exact J9
    · rw [if_neg c5] at h
      refine ax_aload_n cx 0 dX5_costOf_30 rfl rfl ?_
      refine ax_getf (q := 28) (ci := 5) (k := 3) (v := .ref (ad 26)) cx ⟨by decide, by decide⟩ rfl rfl hi_X5_costOf_X5 (by decide) hl_X5_costOf_33 rfl rfl dX5_costOf_31 ?_
      refine ax_aload_n cx 0 dX5_costOf_34 rfl rfl ?_
      refine ax_getf (q := 28) (ci := 5) (k := 0) (v := .ref (ad 23)) cx ⟨by decide, by decide⟩ rfl rfl hi_X5_costOf_X5 (by decide) hl_X5_costOf_10 rfl rfl dX5_costOf_35 ?_
      refine ax_lload_n cx 1 dX5_costOf_38 rfl rfl ?_
      obtain ⟨t6, e7, h⟩ := ob h
      refine ax_callV (As := [.ref (ad 23), .long (x1)]) (q := 26) (ci := 0) (n := 2) cx (kX0_priceOf l ad M x1 _ e7) gX5_costOf_X0_priceOf rfl ⟨by decide, by decide⟩ rfl rfl ⟨rfl, rfl⟩ (by decide +kernel) rfl ⟨by decide, by decide⟩ rfl (Nat.le_of_ble_eq_true rfl) dX5_costOf_39 ?_
      refine ax_goto cx 46 dX5_costOf_42 (by decide) ?_
      refine ax_lv cx [] rfl ?_
      cases h
      exact J9
  · rw [if_neg c1] at h
    cases h
    exact absurd hT (Nat.succ_ne_zero _)
abbrev rxX5_costOf : Room := { frames := 6, cells := 1, slots := 6, locals := 90 }
set_option maxRecDepth 100000 in
set_option maxHeartbeats 4000000 in
theorem xX5_costOf (l : Launch) (hl : l.stackTraces = false) (ad : Nat → Nat) (M : Mem) (x1 : Int64) (T : Nat × Int × Mem) (h : fX5_costOf M x1 = some T) (hT : ¬ T.1 = 0) : MT l yX5_costOf wsX5_costOf rxX5_costOf wC ad [.ref (ad 28), .long (x1)] M (excN T.1) M := by
  refine MT.of (cc := cX5_costOf) (nL := 3) (rt := (some .int)) (own := RX5) (by decide +kernel) rfl rfl (Nat.le_of_ble_eq_true rfl) wC_ok hl ⟨by decide, by decide⟩ (fun G cy => ?_)
  have cx := cy.cx
  show G M 0 [(0, .ref (ad 28)), (1, .long (x1))] []
  unfold fX5_costOf at h
  refine ax_lload_n cx 1 dX5_costOf_0 rfl rfl ?_
  refine ax_bipush (z := 36) cx dX5_costOf_1 (by decide) ?_
  refine ax_lushr cx dX5_costOf_3 ?_
  refine ax_lconst (v := 0) cx dX5_costOf_4 rfl ?_
  refine ax_lcmp cx dX5_costOf_5 ?_
  refine ax_if_eq cx 19 dX5_costOf_6 (by decide) (zlcmp_R _ _) (fun c1 => ?_) (fun c1 => ?_)
  · rw [if_pos c1] at h
    refine ax_aload_n cx 0 dX5_costOf_19 rfl rfl ?_
    refine ax_getf (q := 28) (ci := 5) (k := 3) (v := .ref (ad 26)) cx ⟨by decide, by decide⟩ rfl rfl hi_X5_costOf_X5 (by decide) hl_X5_costOf_33 rfl rfl dX5_costOf_20 ?_
    refine ax_lload_n cx 1 dX5_costOf_23 rfl rfl ?_
    obtain ⟨t2, e3, h⟩ := ob h
    refine ax_callV (As := [.long (x1)]) (q := 26) (ci := 0) (n := 1) cx (kX0_isFilm l ad M x1 _ e3) gX5_costOf_X0_isFilm rfl ⟨by decide, by decide⟩ rfl rfl ⟨rfl, rfl⟩ (by decide +kernel) rfl ⟨by decide, by decide⟩ rfl (Nat.le_of_ble_eq_true rfl) dX5_costOf_24 ?_
    obtain ⟨g4, h⟩ := gd_some h
    obtain ⟨t8, e10, h⟩ := ob h
    have J9 : G M 46 [] [iV (t8)] := by
      cases h
      exact absurd rfl hT
    clear h
    have h := e10
    clear e10
    refine ax_if_eq cx 45 dX5_costOf_27 (by decide) g4 (fun c5 => ?_) (fun c5 => ?_)
    · rw [if_pos c5] at h
      refine ax_iconst cx dX5_costOf_45 ?_
      refine ax_lv cx [] rfl ?_
      cases h
      exact J9
    · rw [if_neg c5] at h
      refine ax_aload_n cx 0 dX5_costOf_30 rfl rfl ?_
      refine ax_getf (q := 28) (ci := 5) (k := 3) (v := .ref (ad 26)) cx ⟨by decide, by decide⟩ rfl rfl hi_X5_costOf_X5 (by decide) hl_X5_costOf_33 rfl rfl dX5_costOf_31 ?_
      refine ax_aload_n cx 0 dX5_costOf_34 rfl rfl ?_
      refine ax_getf (q := 28) (ci := 5) (k := 0) (v := .ref (ad 23)) cx ⟨by decide, by decide⟩ rfl rfl hi_X5_costOf_X5 (by decide) hl_X5_costOf_10 rfl rfl dX5_costOf_35 ?_
      refine ax_lload_n cx 1 dX5_costOf_38 rfl rfl ?_
      obtain ⟨t6, e7, h⟩ := ob h
      refine ax_callV (As := [.ref (ad 23), .long (x1)]) (q := 26) (ci := 0) (n := 2) cx (kX0_priceOf l ad M x1 _ e7) gX5_costOf_X0_priceOf rfl ⟨by decide, by decide⟩ rfl rfl ⟨rfl, rfl⟩ (by decide +kernel) rfl ⟨by decide, by decide⟩ rfl (Nat.le_of_ble_eq_true rfl) dX5_costOf_39 ?_
      refine ax_goto cx 46 dX5_costOf_42 (by decide) ?_
      refine ax_lv cx [] rfl ?_
      cases h
      exact J9
  · rw [if_neg c1] at h
    cases h
    exact ay_throw (cls := "java/lang/IllegalArgumentException") (text := "a bit is no node") (ik := 44) (is := 145) (ic := 48) cy rfl (by decide +kernel) ht1_X5_costOf_t9 ht2_X5_costOf_t9 ht3_X5_costOf_t9 hb1_48 hb2_48 (by decide +kernel) BW_tab dX5_costOf_9 dX5_costOf_12 dX5_costOf_13 dX5_costOf_15 dX5_costOf_18 (by decide) (Nat.le_of_ble_eq_true rfl) ⟨rfl, rfl⟩
def fX5_checkBubble (M : Mem) (x0 : Int) : Option (Nat × Int × Mem) :=
    gd (inR (x0)) (
    if x0 < 0 then (
      some (1, 0, M))
    else (
      if x0 < 8 then (
        some (0, 0, M))
      else (
        some (1, 0, M))))
abbrev rmX5_checkBubble : Room := { frames := 0, cells := 0, slots := 0, locals := 0 }
theorem ht1_X5_checkBubble_t10 : Cond.classLink RX5 215 "java/lang/IndexOutOfBoundsException" ∈ wsX5_checkBubble := by decide +kernel
theorem ht2_X5_checkBubble_t10 : Cond.initialized "java/lang/IndexOutOfBoundsException" ∈ wsX5_checkBubble := by decide +kernel
theorem ht3_X5_checkBubble_t10 : ∀ w ∈ (vx_atS RX5 219 "java/lang/IndexOutOfBoundsException" ["java/lang/RuntimeException", "java/lang/Exception"]).filter goodWord, w ∈ wsX5_checkBubble := fun _ h => List.mem_cons_of_mem _ (List.mem_append_right _ h)
set_option maxRecDepth 100000 in
set_option maxHeartbeats 4000000 in
theorem kX5_checkBubble (l : Launch) (ad : Nat → Nat) (M : Mem) (x0 : Int) (T : Nat × Int × Mem) (h : fX5_checkBubble M x0 = some T) (hT : T.1 = 0) : MX l yX5_checkBubble wsX5_checkBubble rmX5_checkBubble wC ad [iV (x0)] M none M := by
  refine MX.of (cc := cX5_checkBubble) (nL := 1) (rt := none) (own := RX5) (by decide +kernel) rfl rfl (Nat.le_of_ble_eq_true rfl) wC_ok (fun G cx => ?_)
  show G M 0 [(0, iV (x0))] []
  unfold fX5_checkBubble at h
  refine ax_iload_n cx 0 dX5_checkBubble_0 rfl rfl ?_
  obtain ⟨g1, h⟩ := gd_some h
  refine ax_if_lt cx 10 dX5_checkBubble_1 (by decide) g1 (fun c2 => ?_) (fun c2 => ?_)
  · rw [if_pos c2] at h
    cases h
    exact absurd hT (Nat.succ_ne_zero _)
  · rw [if_neg c2] at h
    refine ax_iload_n cx 0 dX5_checkBubble_4 rfl rfl ?_
    refine ax_bipush (z := 8) cx dX5_checkBubble_5 (by decide) ?_
    refine ax_icmp_lt cx 20 dX5_checkBubble_7 (by decide) g1 ⟨by decide, by decide⟩ (fun c3 => ?_) (fun c3 => ?_)
    · rw [if_pos c3] at h
      cases h
      exact ax_vret cx dX5_checkBubble_20 rfl ⟨rfl, rfl⟩
    · rw [if_neg c3] at h
      cases h
      exact absurd hT (Nat.succ_ne_zero _)
abbrev rxX5_checkBubble : Room := { frames := 6, cells := 1, slots := 6, locals := 90 }
set_option maxRecDepth 100000 in
set_option maxHeartbeats 4000000 in
theorem xX5_checkBubble (l : Launch) (hl : l.stackTraces = false) (ad : Nat → Nat) (M : Mem) (x0 : Int) (T : Nat × Int × Mem) (h : fX5_checkBubble M x0 = some T) (hT : ¬ T.1 = 0) : MT l yX5_checkBubble wsX5_checkBubble rxX5_checkBubble wC ad [iV (x0)] M (excN T.1) M := by
  refine MT.of (cc := cX5_checkBubble) (nL := 1) (rt := none) (own := RX5) (by decide +kernel) rfl rfl (Nat.le_of_ble_eq_true rfl) wC_ok hl ⟨by decide, by decide⟩ (fun G cy => ?_)
  have cx := cy.cx
  show G M 0 [(0, iV (x0))] []
  unfold fX5_checkBubble at h
  refine ax_iload_n cx 0 dX5_checkBubble_0 rfl rfl ?_
  obtain ⟨g1, h⟩ := gd_some h
  refine ax_if_lt cx 10 dX5_checkBubble_1 (by decide) g1 (fun c2 => ?_) (fun c2 => ?_)
  · rw [if_pos c2] at h
    cases h
    exact ay_throw (cls := "java/lang/IndexOutOfBoundsException") (text := "no such bubble") (ik := 215) (is := 226) (ic := 219) cy rfl (by decide +kernel) ht1_X5_checkBubble_t10 ht2_X5_checkBubble_t10 ht3_X5_checkBubble_t10 hb1_219 hb2_219 (by decide +kernel) BW_tab dX5_checkBubble_10 dX5_checkBubble_13 dX5_checkBubble_14 dX5_checkBubble_16 dX5_checkBubble_19 (by decide) (Nat.le_of_ble_eq_true rfl) ⟨rfl, rfl⟩
  · rw [if_neg c2] at h
    refine ax_iload_n cx 0 dX5_checkBubble_4 rfl rfl ?_
    refine ax_bipush (z := 8) cx dX5_checkBubble_5 (by decide) ?_
    refine ax_icmp_lt cx 20 dX5_checkBubble_7 (by decide) g1 ⟨by decide, by decide⟩ (fun c3 => ?_) (fun c3 => ?_)
    · rw [if_pos c3] at h
      cases h
      exact absurd rfl hT
    · rw [if_neg c3] at h
      cases h
      exact ay_throw (cls := "java/lang/IndexOutOfBoundsException") (text := "no such bubble") (ik := 215) (is := 226) (ic := 219) cy rfl (by decide +kernel) ht1_X5_checkBubble_t10 ht2_X5_checkBubble_t10 ht3_X5_checkBubble_t10 hb1_219 hb2_219 (by decide +kernel) BW_tab dX5_checkBubble_10 dX5_checkBubble_13 dX5_checkBubble_14 dX5_checkBubble_16 dX5_checkBubble_19 (by decide) (Nat.le_of_ble_eq_true rfl) ⟨rfl, rfl⟩
def fX5_pull (M : Mem) (x1 : Int) (x2 : Int) : Option (Nat × Int × Mem) :=
    Option.bind (fX5_checkNode M x1) (fun t1 => if t1.1 = 0 then (
      Option.bind (fX5_checkBubble M x2) (fun t4 => if t4.1 = 0 then (
        Option.bind (fX1_change M x1 x2) (fun t7 =>
        some (0, t7.1, t7.2)))
      else some (t4.1, 0, M)))
    else some (t1.1, 0, M))
abbrev rmX5_pull : Room := { frames := 4, cells := 0, slots := 0, locals := 90 }
theorem hl_X5_pull_40 : Cond.fieldLink RX5 40 "PlateauBench" "foam" "LPlateauBench$Foam;" ∈ wsX5_pull := by decide +kernel
theorem hl_X5_pull_10 : Cond.fieldLink RX5 10 "PlateauBench" "grid" "LPlateauBench$Grid;" ∈ wsX5_pull := by decide +kernel
theorem hi_X5_pull_X5 : ∀ x ∈ u_ws RX5 TX5 5, x ∈ wsX5_pull := by decide +kernel
set_option maxRecDepth 100000 in
set_option maxHeartbeats 4000000 in
theorem kX5_pull (l : Launch) (ad : Nat → Nat) (M : Mem) (x1 : Int) (x2 : Int) (T : Nat × Int × Mem) (h : fX5_pull M x1 x2 = some T) (hT : T.1 = 0) : MX l yX5_pull wsX5_pull rmX5_pull wC ad [.ref (ad 28), iV (x1), iV (x2)] M (some (iV (T.2.1))) T.2.2 := by
  refine MX.of (cc := cX5_pull) (nL := 3) (rt := (some .int)) (own := RX5) (by decide +kernel) rfl rfl (Nat.le_of_ble_eq_true rfl) wC_ok (fun G cx => ?_)
  show G M 0 [(0, .ref (ad 28)), (1, iV (x1)), (2, iV (x2))] []
  unfold fX5_pull at h
  refine ax_iload_n cx 1 dX5_pull_0 rfl rfl ?_
  obtain ⟨t1, e2, h⟩ := ob h
  by_cases z3 : t1.1 = 0
  · rw [if_pos z3] at h
    refine ax_callS (As := [iV (x1)]) (n := 1) (st := []) cx (kX5_checkNode l ad M x1 _ e2 z3) gX5_pull_X5_checkNode rfl ⟨rfl, rfl⟩ (by decide +kernel) rfl ⟨by decide, by decide⟩ rfl (Nat.le_of_ble_eq_true rfl) dX5_pull_1 ?_
    refine ax_iload_n cx 2 dX5_pull_4 rfl rfl ?_
    obtain ⟨t4, e5, h⟩ := ob h
    by_cases z6 : t4.1 = 0
    · rw [if_pos z6] at h
      refine ax_callS (As := [iV (x2)]) (n := 1) (st := []) cx (kX5_checkBubble l ad M x2 _ e5 z6) gX5_pull_X5_checkBubble rfl ⟨rfl, rfl⟩ (by decide +kernel) rfl ⟨by decide, by decide⟩ rfl (Nat.le_of_ble_eq_true rfl) dX5_pull_5 ?_
      refine ax_aload_n cx 0 dX5_pull_8 rfl rfl ?_
      refine ax_getf (q := 28) (ci := 5) (k := 4) (v := .ref (ad 27)) cx ⟨by decide, by decide⟩ rfl rfl hi_X5_pull_X5 (by decide) hl_X5_pull_40 rfl rfl dX5_pull_9 ?_
      refine ax_aload_n cx 0 dX5_pull_12 rfl rfl ?_
      refine ax_getf (q := 28) (ci := 5) (k := 0) (v := .ref (ad 23)) cx ⟨by decide, by decide⟩ rfl rfl hi_X5_pull_X5 (by decide) hl_X5_pull_10 rfl rfl dX5_pull_13 ?_
      refine ax_iload_n cx 1 dX5_pull_16 rfl rfl ?_
      refine ax_iload_n cx 2 dX5_pull_17 rfl rfl ?_
      obtain ⟨t7, e8, h⟩ := ob h
      refine ax_callV (As := [.ref (ad 23), iV (x1), iV (x2)]) (q := 27) (ci := 1) (n := 3) cx (kX1_change l ad M x1 x2 _ e8) gX5_pull_X1_change rfl ⟨by decide, by decide⟩ rfl rfl ⟨rfl, rfl⟩ (by decide +kernel) rfl ⟨by decide, by decide⟩ rfl (Nat.le_of_ble_eq_true rfl) dX5_pull_18 ?_
      cases h
      exact ax_iret cx dX5_pull_21 rfl ⟨rfl, rfl⟩
    · rw [if_neg z6] at h
      cases h
      exact absurd hT z6
  · rw [if_neg z3] at h
    cases h
    exact absurd hT z3
abbrev rxX5_pull : Room := { frames := 7, cells := 1, slots := 6, locals := 110 }
set_option maxRecDepth 100000 in
set_option maxHeartbeats 4000000 in
theorem xX5_pull (l : Launch) (hl : l.stackTraces = false) (ad : Nat → Nat) (M : Mem) (x1 : Int) (x2 : Int) (T : Nat × Int × Mem) (h : fX5_pull M x1 x2 = some T) (hT : ¬ T.1 = 0) : MT l yX5_pull wsX5_pull rxX5_pull wC ad [.ref (ad 28), iV (x1), iV (x2)] M (excN T.1) T.2.2 := by
  refine MT.of (cc := cX5_pull) (nL := 3) (rt := (some .int)) (own := RX5) (by decide +kernel) rfl rfl (Nat.le_of_ble_eq_true rfl) wC_ok hl ⟨by decide, by decide⟩ (fun G cy => ?_)
  have cx := cy.cx
  show G M 0 [(0, .ref (ad 28)), (1, iV (x1)), (2, iV (x2))] []
  unfold fX5_pull at h
  refine ax_iload_n cx 1 dX5_pull_0 rfl rfl ?_
  obtain ⟨t1, e2, h⟩ := ob h
  by_cases z3 : t1.1 = 0
  · rw [if_pos z3] at h
    refine ax_callS (As := [iV (x1)]) (n := 1) (st := []) cx (kX5_checkNode l ad M x1 _ e2 z3) gX5_pull_X5_checkNode rfl ⟨rfl, rfl⟩ (by decide +kernel) rfl ⟨by decide, by decide⟩ rfl (Nat.le_of_ble_eq_true rfl) dX5_pull_1 ?_
    refine ax_iload_n cx 2 dX5_pull_4 rfl rfl ?_
    obtain ⟨t4, e5, h⟩ := ob h
    by_cases z6 : t4.1 = 0
    · rw [if_pos z6] at h
      refine ax_callS (As := [iV (x2)]) (n := 1) (st := []) cx (kX5_checkBubble l ad M x2 _ e5 z6) gX5_pull_X5_checkBubble rfl ⟨rfl, rfl⟩ (by decide +kernel) rfl ⟨by decide, by decide⟩ rfl (Nat.le_of_ble_eq_true rfl) dX5_pull_5 ?_
      refine ax_aload_n cx 0 dX5_pull_8 rfl rfl ?_
      refine ax_getf (q := 28) (ci := 5) (k := 4) (v := .ref (ad 27)) cx ⟨by decide, by decide⟩ rfl rfl hi_X5_pull_X5 (by decide) hl_X5_pull_40 rfl rfl dX5_pull_9 ?_
      refine ax_aload_n cx 0 dX5_pull_12 rfl rfl ?_
      refine ax_getf (q := 28) (ci := 5) (k := 0) (v := .ref (ad 23)) cx ⟨by decide, by decide⟩ rfl rfl hi_X5_pull_X5 (by decide) hl_X5_pull_10 rfl rfl dX5_pull_13 ?_
      refine ax_iload_n cx 1 dX5_pull_16 rfl rfl ?_
      refine ax_iload_n cx 2 dX5_pull_17 rfl rfl ?_
      obtain ⟨t7, e8, h⟩ := ob h
      refine ax_callV (As := [.ref (ad 23), iV (x1), iV (x2)]) (q := 27) (ci := 1) (n := 3) cx (kX1_change l ad M x1 x2 _ e8) gX5_pull_X1_change rfl ⟨by decide, by decide⟩ rfl rfl ⟨rfl, rfl⟩ (by decide +kernel) rfl ⟨by decide, by decide⟩ rfl (Nat.le_of_ble_eq_true rfl) dX5_pull_18 ?_
      cases h
      exact absurd rfl hT
    · rw [if_neg z6] at h
      cases h
      exact ay_callS (As := [iV (x2)]) (n := 1) (st := []) cy (xX5_checkBubble l hl ad M x2 _ e5 z6) ⟨rfl, rfl⟩ gX5_pull_X5_checkBubble rfl ⟨rfl, rfl⟩ (by decide +kernel) rfl ⟨by decide, by decide⟩ rfl (Nat.le_of_ble_eq_true rfl) dX5_pull_5
  · rw [if_neg z3] at h
    cases h
    exact ay_callS (As := [iV (x1)]) (n := 1) (st := []) cy (xX5_checkNode l hl ad M x1 _ e2 z3) ⟨rfl, rfl⟩ gX5_pull_X5_checkNode rfl ⟨rfl, rfl⟩ (by decide +kernel) rfl ⟨by decide, by decide⟩ rfl (Nat.le_of_ble_eq_true rfl) dX5_pull_1
def fX5_hold (M : Mem) (x1 : Int) (x2 : Int) : Option (Nat × Int × Mem) :=
    Option.bind (fX5_checkBubble M x1) (fun t1 => if t1.1 = 0 then (
      Option.bind (fX1_changeHeld M x1 x2) (fun t4 =>
      gd (t4.1 = 0 ∨ t4.1 = 1) (
      some (0, t4.1, t4.2))))
    else some (t1.1, 0, M))
abbrev rmX5_hold : Room := { frames := 1, cells := 0, slots := 0, locals := 23 }
theorem hl_X5_hold_40 : Cond.fieldLink RX5 40 "PlateauBench" "foam" "LPlateauBench$Foam;" ∈ wsX5_hold := by decide +kernel
theorem hi_X5_hold_X5 : ∀ x ∈ u_ws RX5 TX5 5, x ∈ wsX5_hold := by decide +kernel
set_option maxRecDepth 100000 in
set_option maxHeartbeats 4000000 in
theorem kX5_hold (l : Launch) (ad : Nat → Nat) (M : Mem) (x1 : Int) (x2 : Int) (T : Nat × Int × Mem) (h : fX5_hold M x1 x2 = some T) (hT : T.1 = 0) : MX l yX5_hold wsX5_hold rmX5_hold wC ad [.ref (ad 28), iV (x1), iV (x2)] M (some (iV (T.2.1))) T.2.2 := by
  refine MX.of (cc := cX5_hold) (nL := 3) (rt := (some .boolean)) (own := RX5) (by decide +kernel) rfl rfl (Nat.le_of_ble_eq_true rfl) wC_ok (fun G cx => ?_)
  show G M 0 [(0, .ref (ad 28)), (1, iV (x1)), (2, iV (x2))] []
  unfold fX5_hold at h
  refine ax_iload_n cx 1 dX5_hold_0 rfl rfl ?_
  obtain ⟨t1, e2, h⟩ := ob h
  by_cases z3 : t1.1 = 0
  · rw [if_pos z3] at h
    refine ax_callS (As := [iV (x1)]) (n := 1) (st := []) cx (kX5_checkBubble l ad M x1 _ e2 z3) gX5_hold_X5_checkBubble rfl ⟨rfl, rfl⟩ (by decide +kernel) rfl ⟨by decide, by decide⟩ rfl (Nat.le_of_ble_eq_true rfl) dX5_hold_1 ?_
    refine ax_aload_n cx 0 dX5_hold_4 rfl rfl ?_
    refine ax_getf (q := 28) (ci := 5) (k := 4) (v := .ref (ad 27)) cx ⟨by decide, by decide⟩ rfl rfl hi_X5_hold_X5 (by decide) hl_X5_hold_40 rfl rfl dX5_hold_5 ?_
    refine ax_iload_n cx 1 dX5_hold_8 rfl rfl ?_
    refine ax_iload_n cx 2 dX5_hold_9 rfl rfl ?_
    obtain ⟨t4, e5, h⟩ := ob h
    refine ax_callV (As := [iV (x1), iV (x2)]) (q := 27) (ci := 1) (n := 2) cx (kX1_changeHeld l ad M x1 x2 _ e5) gX5_hold_X1_changeHeld rfl ⟨by decide, by decide⟩ rfl rfl ⟨rfl, rfl⟩ (by decide +kernel) rfl ⟨by decide, by decide⟩ rfl (Nat.le_of_ble_eq_true rfl) dX5_hold_10 ?_
    obtain ⟨g6, h⟩ := gd_some h
    cases h
    exact ax_zret cx dX5_hold_13 rfl g6 ⟨rfl, rfl⟩
  · rw [if_neg z3] at h
    cases h
    exact absurd hT z3
abbrev rxX5_hold : Room := { frames := 7, cells := 1, slots := 6, locals := 110 }
set_option maxRecDepth 100000 in
set_option maxHeartbeats 4000000 in
theorem xX5_hold (l : Launch) (hl : l.stackTraces = false) (ad : Nat → Nat) (M : Mem) (x1 : Int) (x2 : Int) (T : Nat × Int × Mem) (h : fX5_hold M x1 x2 = some T) (hT : ¬ T.1 = 0) : MT l yX5_hold wsX5_hold rxX5_hold wC ad [.ref (ad 28), iV (x1), iV (x2)] M (excN T.1) T.2.2 := by
  refine MT.of (cc := cX5_hold) (nL := 3) (rt := (some .boolean)) (own := RX5) (by decide +kernel) rfl rfl (Nat.le_of_ble_eq_true rfl) wC_ok hl ⟨by decide, by decide⟩ (fun G cy => ?_)
  have cx := cy.cx
  show G M 0 [(0, .ref (ad 28)), (1, iV (x1)), (2, iV (x2))] []
  unfold fX5_hold at h
  refine ax_iload_n cx 1 dX5_hold_0 rfl rfl ?_
  obtain ⟨t1, e2, h⟩ := ob h
  by_cases z3 : t1.1 = 0
  · rw [if_pos z3] at h
    refine ax_callS (As := [iV (x1)]) (n := 1) (st := []) cx (kX5_checkBubble l ad M x1 _ e2 z3) gX5_hold_X5_checkBubble rfl ⟨rfl, rfl⟩ (by decide +kernel) rfl ⟨by decide, by decide⟩ rfl (Nat.le_of_ble_eq_true rfl) dX5_hold_1 ?_
    refine ax_aload_n cx 0 dX5_hold_4 rfl rfl ?_
    refine ax_getf (q := 28) (ci := 5) (k := 4) (v := .ref (ad 27)) cx ⟨by decide, by decide⟩ rfl rfl hi_X5_hold_X5 (by decide) hl_X5_hold_40 rfl rfl dX5_hold_5 ?_
    refine ax_iload_n cx 1 dX5_hold_8 rfl rfl ?_
    refine ax_iload_n cx 2 dX5_hold_9 rfl rfl ?_
    obtain ⟨t4, e5, h⟩ := ob h
    refine ax_callV (As := [iV (x1), iV (x2)]) (q := 27) (ci := 1) (n := 2) cx (kX1_changeHeld l ad M x1 x2 _ e5) gX5_hold_X1_changeHeld rfl ⟨by decide, by decide⟩ rfl rfl ⟨rfl, rfl⟩ (by decide +kernel) rfl ⟨by decide, by decide⟩ rfl (Nat.le_of_ble_eq_true rfl) dX5_hold_10 ?_
    obtain ⟨g6, h⟩ := gd_some h
    cases h
    exact absurd rfl hT
  · rw [if_neg z3] at h
    cases h
    exact ay_callS (As := [iV (x1)]) (n := 1) (st := []) cy (xX5_checkBubble l hl ad M x1 _ e2 z3) ⟨rfl, rfl⟩ gX5_hold_X5_checkBubble rfl ⟨rfl, rfl⟩ (by decide +kernel) rfl ⟨by decide, by decide⟩ rfl (Nat.le_of_ble_eq_true rfl) dX5_hold_1
def fX5_breathe (M : Mem) (x1 : Int) : Option (Nat × Int × Mem) :=
    gd (inR (x1)) (
    if x1 < 1 then (
      some (2, 0, M))
    else (
      if x1 ≤ 100 then (
        Option.bind (fX1_letBreathe M x1) (fun t4 =>
        some (0, t4.1, t4.2)))
      else (
        some (2, 0, M))))
abbrev rmX5_breathe : Room := { frames := 5, cells := 0, slots := 0, locals := 131 }
theorem hl_X5_breathe_40 : Cond.fieldLink RX5 40 "PlateauBench" "foam" "LPlateauBench$Foam;" ∈ wsX5_breathe := by decide +kernel
theorem hl_X5_breathe_10 : Cond.fieldLink RX5 10 "PlateauBench" "grid" "LPlateauBench$Grid;" ∈ wsX5_breathe := by decide +kernel
theorem hi_X5_breathe_X5 : ∀ x ∈ u_ws RX5 TX5 5, x ∈ wsX5_breathe := by decide +kernel
theorem ht1_X5_breathe_t11 : Cond.classLink RX5 44 "java/lang/IllegalArgumentException" ∈ wsX5_breathe := by decide +kernel
theorem ht2_X5_breathe_t11 : Cond.initialized "java/lang/IllegalArgumentException" ∈ wsX5_breathe := by decide +kernel
theorem ht3_X5_breathe_t11 : ∀ w ∈ (vx_atS RX5 48 "java/lang/IllegalArgumentException" ["java/lang/RuntimeException", "java/lang/Exception"]).filter goodWord, w ∈ wsX5_breathe := fun _ h => List.mem_cons_of_mem _ (List.mem_append_right _ h)
set_option maxRecDepth 100000 in
set_option maxHeartbeats 4000000 in
theorem kX5_breathe (l : Launch) (ad : Nat → Nat) (M : Mem) (x1 : Int) (T : Nat × Int × Mem) (h : fX5_breathe M x1 = some T) (hT : T.1 = 0) : MX l yX5_breathe wsX5_breathe rmX5_breathe wC ad [.ref (ad 28), iV (x1)] M (some (iV (T.2.1))) T.2.2 := by
  refine MX.of (cc := cX5_breathe) (nL := 2) (rt := (some .int)) (own := RX5) (by decide +kernel) rfl rfl (Nat.le_of_ble_eq_true rfl) wC_ok (fun G cx => ?_)
  show G M 0 [(0, .ref (ad 28)), (1, iV (x1))] []
  unfold fX5_breathe at h
  refine ax_iload_n cx 1 dX5_breathe_0 rfl rfl ?_
  refine ax_iconst cx dX5_breathe_1 ?_
  obtain ⟨g1, h⟩ := gd_some h
  refine ax_icmp_lt cx 11 dX5_breathe_2 (by decide) g1 ⟨by decide, by decide⟩ (fun c2 => ?_) (fun c2 => ?_)
  · rw [if_pos c2] at h
    cases h
    exact absurd hT (Nat.succ_ne_zero _)
  · rw [if_neg c2] at h
    refine ax_iload_n cx 1 dX5_breathe_5 rfl rfl ?_
    refine ax_bipush (z := 100) cx dX5_breathe_6 (by decide) ?_
    refine ax_icmp_le cx 21 dX5_breathe_8 (by decide) g1 ⟨by decide, by decide⟩ (fun c3 => ?_) (fun c3 => ?_)
    · rw [if_pos c3] at h
      refine ax_aload_n cx 0 dX5_breathe_21 rfl rfl ?_
      refine ax_getf (q := 28) (ci := 5) (k := 4) (v := .ref (ad 27)) cx ⟨by decide, by decide⟩ rfl rfl hi_X5_breathe_X5 (by decide) hl_X5_breathe_40 rfl rfl dX5_breathe_22 ?_
      refine ax_aload_n cx 0 dX5_breathe_25 rfl rfl ?_
      refine ax_getf (q := 28) (ci := 5) (k := 0) (v := .ref (ad 23)) cx ⟨by decide, by decide⟩ rfl rfl hi_X5_breathe_X5 (by decide) hl_X5_breathe_10 rfl rfl dX5_breathe_26 ?_
      refine ax_iload_n cx 1 dX5_breathe_29 rfl rfl ?_
      obtain ⟨t4, e5, h⟩ := ob h
      refine ax_callV (As := [.ref (ad 23), iV (x1)]) (q := 27) (ci := 1) (n := 2) cx (kX1_letBreathe l ad M x1 _ e5) gX5_breathe_X1_letBreathe rfl ⟨by decide, by decide⟩ rfl rfl ⟨rfl, rfl⟩ (by decide +kernel) rfl ⟨by decide, by decide⟩ rfl (Nat.le_of_ble_eq_true rfl) dX5_breathe_30 ?_
      cases h
      exact ax_iret cx dX5_breathe_33 rfl ⟨rfl, rfl⟩
    · rw [if_neg c3] at h
      cases h
      exact absurd hT (Nat.succ_ne_zero _)
abbrev rxX5_breathe : Room := { frames := 6, cells := 1, slots := 6, locals := 131 }
set_option maxRecDepth 100000 in
set_option maxHeartbeats 4000000 in
theorem xX5_breathe (l : Launch) (hl : l.stackTraces = false) (ad : Nat → Nat) (M : Mem) (x1 : Int) (T : Nat × Int × Mem) (h : fX5_breathe M x1 = some T) (hT : ¬ T.1 = 0) : MT l yX5_breathe wsX5_breathe rxX5_breathe wC ad [.ref (ad 28), iV (x1)] M (excN T.1) T.2.2 := by
  refine MT.of (cc := cX5_breathe) (nL := 2) (rt := (some .int)) (own := RX5) (by decide +kernel) rfl rfl (Nat.le_of_ble_eq_true rfl) wC_ok hl ⟨by decide, by decide⟩ (fun G cy => ?_)
  have cx := cy.cx
  show G M 0 [(0, .ref (ad 28)), (1, iV (x1))] []
  unfold fX5_breathe at h
  refine ax_iload_n cx 1 dX5_breathe_0 rfl rfl ?_
  refine ax_iconst cx dX5_breathe_1 ?_
  obtain ⟨g1, h⟩ := gd_some h
  refine ax_icmp_lt cx 11 dX5_breathe_2 (by decide) g1 ⟨by decide, by decide⟩ (fun c2 => ?_) (fun c2 => ?_)
  · rw [if_pos c2] at h
    cases h
    exact ay_throw (cls := "java/lang/IllegalArgumentException") (text := "breaths are 1 to 100") (ik := 44) (is := 160) (ic := 48) cy rfl (by decide +kernel) ht1_X5_breathe_t11 ht2_X5_breathe_t11 ht3_X5_breathe_t11 hb1_48 hb2_48 (by decide +kernel) BW_tab dX5_breathe_11 dX5_breathe_14 dX5_breathe_15 dX5_breathe_17 dX5_breathe_20 (by decide) (Nat.le_of_ble_eq_true rfl) ⟨rfl, rfl⟩
  · rw [if_neg c2] at h
    refine ax_iload_n cx 1 dX5_breathe_5 rfl rfl ?_
    refine ax_bipush (z := 100) cx dX5_breathe_6 (by decide) ?_
    refine ax_icmp_le cx 21 dX5_breathe_8 (by decide) g1 ⟨by decide, by decide⟩ (fun c3 => ?_) (fun c3 => ?_)
    · rw [if_pos c3] at h
      refine ax_aload_n cx 0 dX5_breathe_21 rfl rfl ?_
      refine ax_getf (q := 28) (ci := 5) (k := 4) (v := .ref (ad 27)) cx ⟨by decide, by decide⟩ rfl rfl hi_X5_breathe_X5 (by decide) hl_X5_breathe_40 rfl rfl dX5_breathe_22 ?_
      refine ax_aload_n cx 0 dX5_breathe_25 rfl rfl ?_
      refine ax_getf (q := 28) (ci := 5) (k := 0) (v := .ref (ad 23)) cx ⟨by decide, by decide⟩ rfl rfl hi_X5_breathe_X5 (by decide) hl_X5_breathe_10 rfl rfl dX5_breathe_26 ?_
      refine ax_iload_n cx 1 dX5_breathe_29 rfl rfl ?_
      obtain ⟨t4, e5, h⟩ := ob h
      refine ax_callV (As := [.ref (ad 23), iV (x1)]) (q := 27) (ci := 1) (n := 2) cx (kX1_letBreathe l ad M x1 _ e5) gX5_breathe_X1_letBreathe rfl ⟨by decide, by decide⟩ rfl rfl ⟨rfl, rfl⟩ (by decide +kernel) rfl ⟨by decide, by decide⟩ rfl (Nat.le_of_ble_eq_true rfl) dX5_breathe_30 ?_
      cases h
      exact absurd rfl hT
    · rw [if_neg c3] at h
      cases h
      exact ay_throw (cls := "java/lang/IllegalArgumentException") (text := "breaths are 1 to 100") (ik := 44) (is := 160) (ic := 48) cy rfl (by decide +kernel) ht1_X5_breathe_t11 ht2_X5_breathe_t11 ht3_X5_breathe_t11 hb1_48 hb2_48 (by decide +kernel) BW_tab dX5_breathe_11 dX5_breathe_14 dX5_breathe_15 dX5_breathe_17 dX5_breathe_20 (by decide) (Nat.le_of_ble_eq_true rfl) ⟨rfl, rfl⟩
def fX5_bubbleAt (M : Mem) (x1 : Int) : Option (Nat × Int × Mem) :=
    Option.bind (fX5_checkNode M x1) (fun t1 => if t1.1 = 0 then (
      Option.bind (fX1_ownerOf M x1) (fun t4 =>
      some (0, t4, M)))
    else some (t1.1, 0, M))
abbrev rmX5_bubbleAt : Room := { frames := 1, cells := 0, slots := 0, locals := 21 }
theorem hl_X5_bubbleAt_40 : Cond.fieldLink RX5 40 "PlateauBench" "foam" "LPlateauBench$Foam;" ∈ wsX5_bubbleAt := by decide +kernel
theorem hi_X5_bubbleAt_X5 : ∀ x ∈ u_ws RX5 TX5 5, x ∈ wsX5_bubbleAt := by decide +kernel
set_option maxRecDepth 100000 in
set_option maxHeartbeats 4000000 in
theorem kX5_bubbleAt (l : Launch) (ad : Nat → Nat) (M : Mem) (x1 : Int) (T : Nat × Int × Mem) (h : fX5_bubbleAt M x1 = some T) (hT : T.1 = 0) : MX l yX5_bubbleAt wsX5_bubbleAt rmX5_bubbleAt wC ad [.ref (ad 28), iV (x1)] M (some (iV (T.2.1))) M := by
  refine MX.of (cc := cX5_bubbleAt) (nL := 2) (rt := (some .int)) (own := RX5) (by decide +kernel) rfl rfl (Nat.le_of_ble_eq_true rfl) wC_ok (fun G cx => ?_)
  show G M 0 [(0, .ref (ad 28)), (1, iV (x1))] []
  unfold fX5_bubbleAt at h
  refine ax_iload_n cx 1 dX5_bubbleAt_0 rfl rfl ?_
  obtain ⟨t1, e2, h⟩ := ob h
  by_cases z3 : t1.1 = 0
  · rw [if_pos z3] at h
    refine ax_callS (As := [iV (x1)]) (n := 1) (st := []) cx (kX5_checkNode l ad M x1 _ e2 z3) gX5_bubbleAt_X5_checkNode rfl ⟨rfl, rfl⟩ (by decide +kernel) rfl ⟨by decide, by decide⟩ rfl (Nat.le_of_ble_eq_true rfl) dX5_bubbleAt_1 ?_
    refine ax_aload_n cx 0 dX5_bubbleAt_4 rfl rfl ?_
    refine ax_getf (q := 28) (ci := 5) (k := 4) (v := .ref (ad 27)) cx ⟨by decide, by decide⟩ rfl rfl hi_X5_bubbleAt_X5 (by decide) hl_X5_bubbleAt_40 rfl rfl dX5_bubbleAt_5 ?_
    refine ax_iload_n cx 1 dX5_bubbleAt_8 rfl rfl ?_
    obtain ⟨t4, e5, h⟩ := ob h
    refine ax_callV (As := [iV (x1)]) (q := 27) (ci := 1) (n := 1) cx (kX1_ownerOf l ad M x1 _ e5) gX5_bubbleAt_X1_ownerOf rfl ⟨by decide, by decide⟩ rfl rfl ⟨rfl, rfl⟩ (by decide +kernel) rfl ⟨by decide, by decide⟩ rfl (Nat.le_of_ble_eq_true rfl) dX5_bubbleAt_9 ?_
    cases h
    exact ax_iret cx dX5_bubbleAt_12 rfl ⟨rfl, rfl⟩
  · rw [if_neg z3] at h
    cases h
    exact absurd hT z3
abbrev rxX5_bubbleAt : Room := { frames := 7, cells := 1, slots := 6, locals := 110 }
set_option maxRecDepth 100000 in
set_option maxHeartbeats 4000000 in
theorem xX5_bubbleAt (l : Launch) (hl : l.stackTraces = false) (ad : Nat → Nat) (M : Mem) (x1 : Int) (T : Nat × Int × Mem) (h : fX5_bubbleAt M x1 = some T) (hT : ¬ T.1 = 0) : MT l yX5_bubbleAt wsX5_bubbleAt rxX5_bubbleAt wC ad [.ref (ad 28), iV (x1)] M (excN T.1) M := by
  refine MT.of (cc := cX5_bubbleAt) (nL := 2) (rt := (some .int)) (own := RX5) (by decide +kernel) rfl rfl (Nat.le_of_ble_eq_true rfl) wC_ok hl ⟨by decide, by decide⟩ (fun G cy => ?_)
  have cx := cy.cx
  show G M 0 [(0, .ref (ad 28)), (1, iV (x1))] []
  unfold fX5_bubbleAt at h
  refine ax_iload_n cx 1 dX5_bubbleAt_0 rfl rfl ?_
  obtain ⟨t1, e2, h⟩ := ob h
  by_cases z3 : t1.1 = 0
  · rw [if_pos z3] at h
    refine ax_callS (As := [iV (x1)]) (n := 1) (st := []) cx (kX5_checkNode l ad M x1 _ e2 z3) gX5_bubbleAt_X5_checkNode rfl ⟨rfl, rfl⟩ (by decide +kernel) rfl ⟨by decide, by decide⟩ rfl (Nat.le_of_ble_eq_true rfl) dX5_bubbleAt_1 ?_
    refine ax_aload_n cx 0 dX5_bubbleAt_4 rfl rfl ?_
    refine ax_getf (q := 28) (ci := 5) (k := 4) (v := .ref (ad 27)) cx ⟨by decide, by decide⟩ rfl rfl hi_X5_bubbleAt_X5 (by decide) hl_X5_bubbleAt_40 rfl rfl dX5_bubbleAt_5 ?_
    refine ax_iload_n cx 1 dX5_bubbleAt_8 rfl rfl ?_
    obtain ⟨t4, e5, h⟩ := ob h
    refine ax_callV (As := [iV (x1)]) (q := 27) (ci := 1) (n := 1) cx (kX1_ownerOf l ad M x1 _ e5) gX5_bubbleAt_X1_ownerOf rfl ⟨by decide, by decide⟩ rfl rfl ⟨rfl, rfl⟩ (by decide +kernel) rfl ⟨by decide, by decide⟩ rfl (Nat.le_of_ble_eq_true rfl) dX5_bubbleAt_9 ?_
    cases h
    exact absurd rfl hT
  · rw [if_neg z3] at h
    cases h
    exact ay_callS (As := [iV (x1)]) (n := 1) (st := []) cy (xX5_checkNode l hl ad M x1 _ e2 z3) ⟨rfl, rfl⟩ gX5_bubbleAt_X5_checkNode rfl ⟨rfl, rfl⟩ (by decide +kernel) rfl ⟨by decide, by decide⟩ rfl (Nat.le_of_ble_eq_true rfl) dX5_bubbleAt_1
def fX5_bubble (M : Mem) (x1 : Int) (x2 : Int) : Option (Nat × Int × Mem) :=
    Option.bind (fX5_checkBubble M x1) (fun t1 => if t1.1 = 0 then (
      gd (inR (x2)) (
      if x2 = 0 then (
        Option.bind (fX1_size M x1) (fun t10 =>
        some (0, t10, M)))
      else if x2 = 1 then (
        Option.bind (fX1_pieces M x1) (fun t12 =>
        some (0, t12.1, t12.2)))
      else if x2 = 2 then (
        Option.bind (fX1_wallsAround M x1) (fun t14 =>
        some (0, t14, M)))
      else if x2 = 3 then (
        Option.bind (fX1_neighbours M x1) (fun t16 =>
        some (0, t16, M)))
      else if x2 = 4 then (
        Option.bind (fX1_isHeld M x1) (fun t18 =>
        gd (inR (t18)) (
        Option.bind (if t18 = 0 then (
          some (0))
        else (
          some (1))) (fun t22 =>
        some (0, t22, M)))))
      else (
        some (2, 0, M))))
    else some (t1.1, 0, M))
abbrev rmX5_bubble : Room := { frames := 4, cells := 0, slots := 0, locals := 96 }
theorem hl_X5_bubble_40 : Cond.fieldLink RX5 40 "PlateauBench" "foam" "LPlateauBench$Foam;" ∈ wsX5_bubble := by decide +kernel
theorem hl_X5_bubble_10 : Cond.fieldLink RX5 10 "PlateauBench" "grid" "LPlateauBench$Grid;" ∈ wsX5_bubble := by decide +kernel
theorem hi_X5_bubble_X5 : ∀ x ∈ u_ws RX5 TX5 5, x ∈ wsX5_bubble := by decide +kernel
theorem ht1_X5_bubble_t105 : Cond.classLink RX5 44 "java/lang/IllegalArgumentException" ∈ wsX5_bubble := by decide +kernel
theorem ht2_X5_bubble_t105 : Cond.initialized "java/lang/IllegalArgumentException" ∈ wsX5_bubble := by decide +kernel
theorem ht3_X5_bubble_t105 : ∀ w ∈ (vx_atS RX5 48 "java/lang/IllegalArgumentException" ["java/lang/RuntimeException", "java/lang/Exception"]).filter goodWord, w ∈ wsX5_bubble := fun _ h => List.mem_cons_of_mem _ (List.mem_append_left _ (List.mem_append_right _ h))
set_option maxRecDepth 100000 in
set_option maxHeartbeats 4000000 in
theorem kX5_bubble (l : Launch) (ad : Nat → Nat) (M : Mem) (x1 : Int) (x2 : Int) (T : Nat × Int × Mem) (h : fX5_bubble M x1 x2 = some T) (hT : T.1 = 0) : MX l yX5_bubble wsX5_bubble rmX5_bubble wC ad [.ref (ad 28), iV (x1), iV (x2)] M (some (iV (T.2.1))) T.2.2 := by
  refine MX.of (cc := cX5_bubble) (nL := 3) (rt := (some .int)) (own := RX5) (by decide +kernel) rfl rfl (Nat.le_of_ble_eq_true rfl) wC_ok (fun G cx => ?_)
  show G M 0 [(0, .ref (ad 28)), (1, iV (x1)), (2, iV (x2))] []
  unfold fX5_bubble at h
  refine ax_iload_n cx 1 dX5_bubble_0 rfl rfl ?_
  obtain ⟨t1, e2, h⟩ := ob h
  by_cases z3 : t1.1 = 0
  · rw [if_pos z3] at h
    refine ax_callS (As := [iV (x1)]) (n := 1) (st := []) cx (kX5_checkBubble l ad M x1 _ e2 z3) gX5_bubble_X5_checkBubble rfl ⟨rfl, rfl⟩ (by decide +kernel) rfl ⟨by decide, by decide⟩ rfl (Nat.le_of_ble_eq_true rfl) dX5_bubble_1 ?_
    refine ax_iload_n cx 2 dX5_bubble_4 rfl rfl ?_
    obtain ⟨g4, h⟩ := gd_some h
    by_cases c5 : x2 = 0
    · rw [if_pos c5] at h
      refine ax_tableIn (off := 35) cx 40 dX5_bubble_5 g4 (by rw [c5]; decide) (by rw [c5]; decide) (by rw [c5]; rfl) (by decide) ?_
      refine ax_aload_n cx 0 dX5_bubble_40 rfl rfl ?_
      refine ax_getf (q := 28) (ci := 5) (k := 4) (v := .ref (ad 27)) cx ⟨by decide, by decide⟩ rfl rfl hi_X5_bubble_X5 (by decide) hl_X5_bubble_40 rfl rfl dX5_bubble_41 ?_
      refine ax_iload_n cx 1 dX5_bubble_44 rfl rfl ?_
      obtain ⟨t10, e11, h⟩ := ob h
      refine ax_callV (As := [iV (x1)]) (q := 27) (ci := 1) (n := 1) cx (kX1_size l ad M x1 _ e11) gX5_bubble_X1_size rfl ⟨by decide, by decide⟩ rfl rfl ⟨rfl, rfl⟩ (by decide +kernel) rfl ⟨by decide, by decide⟩ rfl (Nat.le_of_ble_eq_true rfl) dX5_bubble_45 ?_
      cases h
      exact ax_iret cx dX5_bubble_48 rfl ⟨rfl, rfl⟩
    rw [if_neg c5] at h
    by_cases c6 : x2 = 1
    · rw [if_pos c6] at h
      refine ax_tableIn (off := 44) cx 49 dX5_bubble_5 g4 (by rw [c6]; decide) (by rw [c6]; decide) (by rw [c6]; rfl) (by decide) ?_
      refine ax_aload_n cx 0 dX5_bubble_49 rfl rfl ?_
      refine ax_getf (q := 28) (ci := 5) (k := 4) (v := .ref (ad 27)) cx ⟨by decide, by decide⟩ rfl rfl hi_X5_bubble_X5 (by decide) hl_X5_bubble_40 rfl rfl dX5_bubble_50 ?_
      refine ax_aload_n cx 0 dX5_bubble_53 rfl rfl ?_
      refine ax_getf (q := 28) (ci := 5) (k := 0) (v := .ref (ad 23)) cx ⟨by decide, by decide⟩ rfl rfl hi_X5_bubble_X5 (by decide) hl_X5_bubble_10 rfl rfl dX5_bubble_54 ?_
      refine ax_iload_n cx 1 dX5_bubble_57 rfl rfl ?_
      obtain ⟨t12, e13, h⟩ := ob h
      refine ax_callV (As := [.ref (ad 23), iV (x1)]) (q := 27) (ci := 1) (n := 2) cx (kX1_pieces l ad M x1 _ e13) gX5_bubble_X1_pieces rfl ⟨by decide, by decide⟩ rfl rfl ⟨rfl, rfl⟩ (by decide +kernel) rfl ⟨by decide, by decide⟩ rfl (Nat.le_of_ble_eq_true rfl) dX5_bubble_58 ?_
      cases h
      exact ax_iret cx dX5_bubble_61 rfl ⟨rfl, rfl⟩
    rw [if_neg c6] at h
    by_cases c7 : x2 = 2
    · rw [if_pos c7] at h
      refine ax_tableIn (off := 57) cx 62 dX5_bubble_5 g4 (by rw [c7]; decide) (by rw [c7]; decide) (by rw [c7]; rfl) (by decide) ?_
      refine ax_aload_n cx 0 dX5_bubble_62 rfl rfl ?_
      refine ax_getf (q := 28) (ci := 5) (k := 4) (v := .ref (ad 27)) cx ⟨by decide, by decide⟩ rfl rfl hi_X5_bubble_X5 (by decide) hl_X5_bubble_40 rfl rfl dX5_bubble_63 ?_
      refine ax_aload_n cx 0 dX5_bubble_66 rfl rfl ?_
      refine ax_getf (q := 28) (ci := 5) (k := 0) (v := .ref (ad 23)) cx ⟨by decide, by decide⟩ rfl rfl hi_X5_bubble_X5 (by decide) hl_X5_bubble_10 rfl rfl dX5_bubble_67 ?_
      refine ax_iload_n cx 1 dX5_bubble_70 rfl rfl ?_
      obtain ⟨t14, e15, h⟩ := ob h
      refine ax_callV (As := [.ref (ad 23), iV (x1)]) (q := 27) (ci := 1) (n := 2) cx (kX1_wallsAround l ad M x1 _ e15) gX5_bubble_X1_wallsAround rfl ⟨by decide, by decide⟩ rfl rfl ⟨rfl, rfl⟩ (by decide +kernel) rfl ⟨by decide, by decide⟩ rfl (Nat.le_of_ble_eq_true rfl) dX5_bubble_71 ?_
      cases h
      exact ax_iret cx dX5_bubble_74 rfl ⟨rfl, rfl⟩
    rw [if_neg c7] at h
    by_cases c8 : x2 = 3
    · rw [if_pos c8] at h
      refine ax_tableIn (off := 70) cx 75 dX5_bubble_5 g4 (by rw [c8]; decide) (by rw [c8]; decide) (by rw [c8]; rfl) (by decide) ?_
      refine ax_aload_n cx 0 dX5_bubble_75 rfl rfl ?_
      refine ax_getf (q := 28) (ci := 5) (k := 4) (v := .ref (ad 27)) cx ⟨by decide, by decide⟩ rfl rfl hi_X5_bubble_X5 (by decide) hl_X5_bubble_40 rfl rfl dX5_bubble_76 ?_
      refine ax_aload_n cx 0 dX5_bubble_79 rfl rfl ?_
      refine ax_getf (q := 28) (ci := 5) (k := 0) (v := .ref (ad 23)) cx ⟨by decide, by decide⟩ rfl rfl hi_X5_bubble_X5 (by decide) hl_X5_bubble_10 rfl rfl dX5_bubble_80 ?_
      refine ax_iload_n cx 1 dX5_bubble_83 rfl rfl ?_
      obtain ⟨t16, e17, h⟩ := ob h
      refine ax_callV (As := [.ref (ad 23), iV (x1)]) (q := 27) (ci := 1) (n := 2) cx (kX1_neighbours l ad M x1 _ e17) gX5_bubble_X1_neighbours rfl ⟨by decide, by decide⟩ rfl rfl ⟨rfl, rfl⟩ (by decide +kernel) rfl ⟨by decide, by decide⟩ rfl (Nat.le_of_ble_eq_true rfl) dX5_bubble_84 ?_
      cases h
      exact ax_iret cx dX5_bubble_87 rfl ⟨rfl, rfl⟩
    rw [if_neg c8] at h
    by_cases c9 : x2 = 4
    · rw [if_pos c9] at h
      refine ax_tableIn (off := 83) cx 88 dX5_bubble_5 g4 (by rw [c9]; decide) (by rw [c9]; decide) (by rw [c9]; rfl) (by decide) ?_
      refine ax_aload_n cx 0 dX5_bubble_88 rfl rfl ?_
      refine ax_getf (q := 28) (ci := 5) (k := 4) (v := .ref (ad 27)) cx ⟨by decide, by decide⟩ rfl rfl hi_X5_bubble_X5 (by decide) hl_X5_bubble_40 rfl rfl dX5_bubble_89 ?_
      refine ax_iload_n cx 1 dX5_bubble_92 rfl rfl ?_
      obtain ⟨t18, e19, h⟩ := ob h
      refine ax_callV (As := [iV (x1)]) (q := 27) (ci := 1) (n := 1) cx (kX1_isHeld l ad M x1 _ e19) gX5_bubble_X1_isHeld rfl ⟨by decide, by decide⟩ rfl rfl ⟨rfl, rfl⟩ (by decide +kernel) rfl ⟨by decide, by decide⟩ rfl (Nat.le_of_ble_eq_true rfl) dX5_bubble_93 ?_
      obtain ⟨g20, h⟩ := gd_some h
      obtain ⟨t22, e24, h⟩ := ob h
      have J23 : G M 104 [] [iV (t22)] := by
        cases h
        exact ax_iret cx dX5_bubble_104 rfl ⟨rfl, rfl⟩
      clear h
      have h := e24
      clear e24
      refine ax_if_eq cx 103 dX5_bubble_96 (by decide) g20 (fun c21 => ?_) (fun c21 => ?_)
      · rw [if_pos c21] at h
        refine ax_iconst cx dX5_bubble_103 ?_
        refine ax_lv cx [] rfl ?_
        cases h
        exact J23
      · rw [if_neg c21] at h
        refine ax_iconst cx dX5_bubble_99 ?_
        refine ax_goto cx 104 dX5_bubble_100 (by decide) ?_
        refine ax_lv cx [] rfl ?_
        cases h
        exact J23
    rw [if_neg c9] at h
    refine ax_tableOut cx 105 dX5_bubble_5 g4 (by omega) (by decide) ?_
    cases h
    exact absurd hT (Nat.succ_ne_zero _)
  · rw [if_neg z3] at h
    cases h
    exact absurd hT z3
abbrev rxX5_bubble : Room := { frames := 7, cells := 1, slots := 6, locals := 110 }
set_option maxRecDepth 100000 in
set_option maxHeartbeats 4000000 in
theorem xX5_bubble (l : Launch) (hl : l.stackTraces = false) (ad : Nat → Nat) (M : Mem) (x1 : Int) (x2 : Int) (T : Nat × Int × Mem) (h : fX5_bubble M x1 x2 = some T) (hT : ¬ T.1 = 0) : MT l yX5_bubble wsX5_bubble rxX5_bubble wC ad [.ref (ad 28), iV (x1), iV (x2)] M (excN T.1) T.2.2 := by
  refine MT.of (cc := cX5_bubble) (nL := 3) (rt := (some .int)) (own := RX5) (by decide +kernel) rfl rfl (Nat.le_of_ble_eq_true rfl) wC_ok hl ⟨by decide, by decide⟩ (fun G cy => ?_)
  have cx := cy.cx
  show G M 0 [(0, .ref (ad 28)), (1, iV (x1)), (2, iV (x2))] []
  unfold fX5_bubble at h
  refine ax_iload_n cx 1 dX5_bubble_0 rfl rfl ?_
  obtain ⟨t1, e2, h⟩ := ob h
  by_cases z3 : t1.1 = 0
  · rw [if_pos z3] at h
    refine ax_callS (As := [iV (x1)]) (n := 1) (st := []) cx (kX5_checkBubble l ad M x1 _ e2 z3) gX5_bubble_X5_checkBubble rfl ⟨rfl, rfl⟩ (by decide +kernel) rfl ⟨by decide, by decide⟩ rfl (Nat.le_of_ble_eq_true rfl) dX5_bubble_1 ?_
    refine ax_iload_n cx 2 dX5_bubble_4 rfl rfl ?_
    obtain ⟨g4, h⟩ := gd_some h
    by_cases c5 : x2 = 0
    · rw [if_pos c5] at h
      refine ax_tableIn (off := 35) cx 40 dX5_bubble_5 g4 (by rw [c5]; decide) (by rw [c5]; decide) (by rw [c5]; rfl) (by decide) ?_
      refine ax_aload_n cx 0 dX5_bubble_40 rfl rfl ?_
      refine ax_getf (q := 28) (ci := 5) (k := 4) (v := .ref (ad 27)) cx ⟨by decide, by decide⟩ rfl rfl hi_X5_bubble_X5 (by decide) hl_X5_bubble_40 rfl rfl dX5_bubble_41 ?_
      refine ax_iload_n cx 1 dX5_bubble_44 rfl rfl ?_
      obtain ⟨t10, e11, h⟩ := ob h
      refine ax_callV (As := [iV (x1)]) (q := 27) (ci := 1) (n := 1) cx (kX1_size l ad M x1 _ e11) gX5_bubble_X1_size rfl ⟨by decide, by decide⟩ rfl rfl ⟨rfl, rfl⟩ (by decide +kernel) rfl ⟨by decide, by decide⟩ rfl (Nat.le_of_ble_eq_true rfl) dX5_bubble_45 ?_
      cases h
      exact absurd rfl hT
    rw [if_neg c5] at h
    by_cases c6 : x2 = 1
    · rw [if_pos c6] at h
      refine ax_tableIn (off := 44) cx 49 dX5_bubble_5 g4 (by rw [c6]; decide) (by rw [c6]; decide) (by rw [c6]; rfl) (by decide) ?_
      refine ax_aload_n cx 0 dX5_bubble_49 rfl rfl ?_
      refine ax_getf (q := 28) (ci := 5) (k := 4) (v := .ref (ad 27)) cx ⟨by decide, by decide⟩ rfl rfl hi_X5_bubble_X5 (by decide) hl_X5_bubble_40 rfl rfl dX5_bubble_50 ?_
      refine ax_aload_n cx 0 dX5_bubble_53 rfl rfl ?_
      refine ax_getf (q := 28) (ci := 5) (k := 0) (v := .ref (ad 23)) cx ⟨by decide, by decide⟩ rfl rfl hi_X5_bubble_X5 (by decide) hl_X5_bubble_10 rfl rfl dX5_bubble_54 ?_
      refine ax_iload_n cx 1 dX5_bubble_57 rfl rfl ?_
      obtain ⟨t12, e13, h⟩ := ob h
      refine ax_callV (As := [.ref (ad 23), iV (x1)]) (q := 27) (ci := 1) (n := 2) cx (kX1_pieces l ad M x1 _ e13) gX5_bubble_X1_pieces rfl ⟨by decide, by decide⟩ rfl rfl ⟨rfl, rfl⟩ (by decide +kernel) rfl ⟨by decide, by decide⟩ rfl (Nat.le_of_ble_eq_true rfl) dX5_bubble_58 ?_
      cases h
      exact absurd rfl hT
    rw [if_neg c6] at h
    by_cases c7 : x2 = 2
    · rw [if_pos c7] at h
      refine ax_tableIn (off := 57) cx 62 dX5_bubble_5 g4 (by rw [c7]; decide) (by rw [c7]; decide) (by rw [c7]; rfl) (by decide) ?_
      refine ax_aload_n cx 0 dX5_bubble_62 rfl rfl ?_
      refine ax_getf (q := 28) (ci := 5) (k := 4) (v := .ref (ad 27)) cx ⟨by decide, by decide⟩ rfl rfl hi_X5_bubble_X5 (by decide) hl_X5_bubble_40 rfl rfl dX5_bubble_63 ?_
      refine ax_aload_n cx 0 dX5_bubble_66 rfl rfl ?_
      refine ax_getf (q := 28) (ci := 5) (k := 0) (v := .ref (ad 23)) cx ⟨by decide, by decide⟩ rfl rfl hi_X5_bubble_X5 (by decide) hl_X5_bubble_10 rfl rfl dX5_bubble_67 ?_
      refine ax_iload_n cx 1 dX5_bubble_70 rfl rfl ?_
      obtain ⟨t14, e15, h⟩ := ob h
      refine ax_callV (As := [.ref (ad 23), iV (x1)]) (q := 27) (ci := 1) (n := 2) cx (kX1_wallsAround l ad M x1 _ e15) gX5_bubble_X1_wallsAround rfl ⟨by decide, by decide⟩ rfl rfl ⟨rfl, rfl⟩ (by decide +kernel) rfl ⟨by decide, by decide⟩ rfl (Nat.le_of_ble_eq_true rfl) dX5_bubble_71 ?_
      cases h
      exact absurd rfl hT
    rw [if_neg c7] at h
    by_cases c8 : x2 = 3
    · rw [if_pos c8] at h
      refine ax_tableIn (off := 70) cx 75 dX5_bubble_5 g4 (by rw [c8]; decide) (by rw [c8]; decide) (by rw [c8]; rfl) (by decide) ?_
      refine ax_aload_n cx 0 dX5_bubble_75 rfl rfl ?_
      refine ax_getf (q := 28) (ci := 5) (k := 4) (v := .ref (ad 27)) cx ⟨by decide, by decide⟩ rfl rfl hi_X5_bubble_X5 (by decide) hl_X5_bubble_40 rfl rfl dX5_bubble_76 ?_
      refine ax_aload_n cx 0 dX5_bubble_79 rfl rfl ?_
      refine ax_getf (q := 28) (ci := 5) (k := 0) (v := .ref (ad 23)) cx ⟨by decide, by decide⟩ rfl rfl hi_X5_bubble_X5 (by decide) hl_X5_bubble_10 rfl rfl dX5_bubble_80 ?_
      refine ax_iload_n cx 1 dX5_bubble_83 rfl rfl ?_
      obtain ⟨t16, e17, h⟩ := ob h
      refine ax_callV (As := [.ref (ad 23), iV (x1)]) (q := 27) (ci := 1) (n := 2) cx (kX1_neighbours l ad M x1 _ e17) gX5_bubble_X1_neighbours rfl ⟨by decide, by decide⟩ rfl rfl ⟨rfl, rfl⟩ (by decide +kernel) rfl ⟨by decide, by decide⟩ rfl (Nat.le_of_ble_eq_true rfl) dX5_bubble_84 ?_
      cases h
      exact absurd rfl hT
    rw [if_neg c8] at h
    by_cases c9 : x2 = 4
    · rw [if_pos c9] at h
      refine ax_tableIn (off := 83) cx 88 dX5_bubble_5 g4 (by rw [c9]; decide) (by rw [c9]; decide) (by rw [c9]; rfl) (by decide) ?_
      refine ax_aload_n cx 0 dX5_bubble_88 rfl rfl ?_
      refine ax_getf (q := 28) (ci := 5) (k := 4) (v := .ref (ad 27)) cx ⟨by decide, by decide⟩ rfl rfl hi_X5_bubble_X5 (by decide) hl_X5_bubble_40 rfl rfl dX5_bubble_89 ?_
      refine ax_iload_n cx 1 dX5_bubble_92 rfl rfl ?_
      obtain ⟨t18, e19, h⟩ := ob h
      refine ax_callV (As := [iV (x1)]) (q := 27) (ci := 1) (n := 1) cx (kX1_isHeld l ad M x1 _ e19) gX5_bubble_X1_isHeld rfl ⟨by decide, by decide⟩ rfl rfl ⟨rfl, rfl⟩ (by decide +kernel) rfl ⟨by decide, by decide⟩ rfl (Nat.le_of_ble_eq_true rfl) dX5_bubble_93 ?_
      obtain ⟨g20, h⟩ := gd_some h
      obtain ⟨t22, e24, h⟩ := ob h
      have J23 : G M 104 [] [iV (t22)] := by
        cases h
        exact absurd rfl hT
      clear h
      have h := e24
      clear e24
      refine ax_if_eq cx 103 dX5_bubble_96 (by decide) g20 (fun c21 => ?_) (fun c21 => ?_)
      · rw [if_pos c21] at h
        refine ax_iconst cx dX5_bubble_103 ?_
        refine ax_lv cx [] rfl ?_
        cases h
        exact J23
      · rw [if_neg c21] at h
        refine ax_iconst cx dX5_bubble_99 ?_
        refine ax_goto cx 104 dX5_bubble_100 (by decide) ?_
        refine ax_lv cx [] rfl ?_
        cases h
        exact J23
    rw [if_neg c9] at h
    refine ax_tableOut cx 105 dX5_bubble_5 g4 (by omega) (by decide) ?_
    cases h
    exact ay_throw (cls := "java/lang/IllegalArgumentException") (text := "of a bubble 0 to 4 is told") (ik := 44) (is := 184) (ic := 48) cy rfl (by decide +kernel) ht1_X5_bubble_t105 ht2_X5_bubble_t105 ht3_X5_bubble_t105 hb1_48 hb2_48 (by decide +kernel) BW_tab dX5_bubble_105 dX5_bubble_108 dX5_bubble_109 dX5_bubble_111 dX5_bubble_114 (by decide) (Nat.le_of_ble_eq_true rfl) ⟨rfl, rfl⟩
  · rw [if_neg z3] at h
    cases h
    exact ay_callS (As := [iV (x1)]) (n := 1) (st := []) cy (xX5_checkBubble l hl ad M x1 _ e2 z3) ⟨rfl, rfl⟩ gX5_bubble_X5_checkBubble rfl ⟨rfl, rfl⟩ (by decide +kernel) rfl ⟨by decide, by decide⟩ rfl (Nat.le_of_ble_eq_true rfl) dX5_bubble_1
def fX5_wall (M : Mem) (x1 : Int) (x2 : Int) : Option (Nat × Int × Mem) :=
    Option.bind (fX5_checkBubble M x1) (fun t1 => if t1.1 = 0 then (
      Option.bind (fX5_checkBubble M x2) (fun t4 => if t4.1 = 0 then (
        gd (inR (x1)) (
        gd (inR (x2)) (
        Option.bind (if x1 = x2 then (
          some (0))
        else (
          Option.bind (fX1_wallsBetween M x1 x2) (fun t10 =>
          some (t10)))) (fun t12 =>
        some (0, t12, M)))))
      else some (t4.1, 0, M)))
    else some (t1.1, 0, M))
abbrev rmX5_wall : Room := { frames := 3, cells := 0, slots := 0, locals := 72 }
theorem hl_X5_wall_40 : Cond.fieldLink RX5 40 "PlateauBench" "foam" "LPlateauBench$Foam;" ∈ wsX5_wall := by decide +kernel
theorem hl_X5_wall_10 : Cond.fieldLink RX5 10 "PlateauBench" "grid" "LPlateauBench$Grid;" ∈ wsX5_wall := by decide +kernel
theorem hi_X5_wall_X5 : ∀ x ∈ u_ws RX5 TX5 5, x ∈ wsX5_wall := by decide +kernel
set_option maxRecDepth 100000 in
set_option maxHeartbeats 4000000 in
theorem kX5_wall (l : Launch) (ad : Nat → Nat) (M : Mem) (x1 : Int) (x2 : Int) (T : Nat × Int × Mem) (h : fX5_wall M x1 x2 = some T) (hT : T.1 = 0) : MX l yX5_wall wsX5_wall rmX5_wall wC ad [.ref (ad 28), iV (x1), iV (x2)] M (some (iV (T.2.1))) M := by
  refine MX.of (cc := cX5_wall) (nL := 3) (rt := (some .int)) (own := RX5) (by decide +kernel) rfl rfl (Nat.le_of_ble_eq_true rfl) wC_ok (fun G cx => ?_)
  show G M 0 [(0, .ref (ad 28)), (1, iV (x1)), (2, iV (x2))] []
  unfold fX5_wall at h
  refine ax_iload_n cx 1 dX5_wall_0 rfl rfl ?_
  obtain ⟨t1, e2, h⟩ := ob h
  by_cases z3 : t1.1 = 0
  · rw [if_pos z3] at h
    refine ax_callS (As := [iV (x1)]) (n := 1) (st := []) cx (kX5_checkBubble l ad M x1 _ e2 z3) gX5_wall_X5_checkBubble rfl ⟨rfl, rfl⟩ (by decide +kernel) rfl ⟨by decide, by decide⟩ rfl (Nat.le_of_ble_eq_true rfl) dX5_wall_1 ?_
    refine ax_iload_n cx 2 dX5_wall_4 rfl rfl ?_
    obtain ⟨t4, e5, h⟩ := ob h
    by_cases z6 : t4.1 = 0
    · rw [if_pos z6] at h
      refine ax_callS (As := [iV (x2)]) (n := 1) (st := []) cx (kX5_checkBubble l ad M x2 _ e5 z6) gX5_wall_X5_checkBubble rfl ⟨rfl, rfl⟩ (by decide +kernel) rfl ⟨by decide, by decide⟩ rfl (Nat.le_of_ble_eq_true rfl) dX5_wall_5 ?_
      refine ax_iload_n cx 1 dX5_wall_8 rfl rfl ?_
      refine ax_iload_n cx 2 dX5_wall_9 rfl rfl ?_
      obtain ⟨g7, h⟩ := gd_some h
      obtain ⟨g8, h⟩ := gd_some h
      obtain ⟨t12, e14, h⟩ := ob h
      have J13 : G M 30 [] [iV (t12)] := by
        cases h
        exact ax_iret cx dX5_wall_30 rfl ⟨rfl, rfl⟩
      clear h
      have h := e14
      clear e14
      refine ax_icmp_ne cx 17 dX5_wall_10 (by decide) g7 g8 (fun c9 => ?_) (fun c9 => ?_)
      · rw [if_pos c9] at h
        refine ax_iconst cx dX5_wall_13 ?_
        refine ax_goto cx 30 dX5_wall_14 (by decide) ?_
        refine ax_lv cx [] rfl ?_
        cases h
        exact J13
      · rw [if_neg c9] at h
        refine ax_aload_n cx 0 dX5_wall_17 rfl rfl ?_
        refine ax_getf (q := 28) (ci := 5) (k := 4) (v := .ref (ad 27)) cx ⟨by decide, by decide⟩ rfl rfl hi_X5_wall_X5 (by decide) hl_X5_wall_40 rfl rfl dX5_wall_18 ?_
        refine ax_aload_n cx 0 dX5_wall_21 rfl rfl ?_
        refine ax_getf (q := 28) (ci := 5) (k := 0) (v := .ref (ad 23)) cx ⟨by decide, by decide⟩ rfl rfl hi_X5_wall_X5 (by decide) hl_X5_wall_10 rfl rfl dX5_wall_22 ?_
        refine ax_iload_n cx 1 dX5_wall_25 rfl rfl ?_
        refine ax_iload_n cx 2 dX5_wall_26 rfl rfl ?_
        obtain ⟨t10, e11, h⟩ := ob h
        refine ax_callV (As := [.ref (ad 23), iV (x1), iV (x2)]) (q := 27) (ci := 1) (n := 3) cx (kX1_wallsBetween l ad M x1 x2 _ e11) gX5_wall_X1_wallsBetween rfl ⟨by decide, by decide⟩ rfl rfl ⟨rfl, rfl⟩ (by decide +kernel) rfl ⟨by decide, by decide⟩ rfl (Nat.le_of_ble_eq_true rfl) dX5_wall_27 ?_
        refine ax_lv cx [] rfl ?_
        cases h
        exact J13
    · rw [if_neg z6] at h
      cases h
      exact absurd hT z6
  · rw [if_neg z3] at h
    cases h
    exact absurd hT z3
abbrev rxX5_wall : Room := { frames := 7, cells := 1, slots := 6, locals := 110 }
set_option maxRecDepth 100000 in
set_option maxHeartbeats 4000000 in
theorem xX5_wall (l : Launch) (hl : l.stackTraces = false) (ad : Nat → Nat) (M : Mem) (x1 : Int) (x2 : Int) (T : Nat × Int × Mem) (h : fX5_wall M x1 x2 = some T) (hT : ¬ T.1 = 0) : MT l yX5_wall wsX5_wall rxX5_wall wC ad [.ref (ad 28), iV (x1), iV (x2)] M (excN T.1) M := by
  refine MT.of (cc := cX5_wall) (nL := 3) (rt := (some .int)) (own := RX5) (by decide +kernel) rfl rfl (Nat.le_of_ble_eq_true rfl) wC_ok hl ⟨by decide, by decide⟩ (fun G cy => ?_)
  have cx := cy.cx
  show G M 0 [(0, .ref (ad 28)), (1, iV (x1)), (2, iV (x2))] []
  unfold fX5_wall at h
  refine ax_iload_n cx 1 dX5_wall_0 rfl rfl ?_
  obtain ⟨t1, e2, h⟩ := ob h
  by_cases z3 : t1.1 = 0
  · rw [if_pos z3] at h
    refine ax_callS (As := [iV (x1)]) (n := 1) (st := []) cx (kX5_checkBubble l ad M x1 _ e2 z3) gX5_wall_X5_checkBubble rfl ⟨rfl, rfl⟩ (by decide +kernel) rfl ⟨by decide, by decide⟩ rfl (Nat.le_of_ble_eq_true rfl) dX5_wall_1 ?_
    refine ax_iload_n cx 2 dX5_wall_4 rfl rfl ?_
    obtain ⟨t4, e5, h⟩ := ob h
    by_cases z6 : t4.1 = 0
    · rw [if_pos z6] at h
      refine ax_callS (As := [iV (x2)]) (n := 1) (st := []) cx (kX5_checkBubble l ad M x2 _ e5 z6) gX5_wall_X5_checkBubble rfl ⟨rfl, rfl⟩ (by decide +kernel) rfl ⟨by decide, by decide⟩ rfl (Nat.le_of_ble_eq_true rfl) dX5_wall_5 ?_
      refine ax_iload_n cx 1 dX5_wall_8 rfl rfl ?_
      refine ax_iload_n cx 2 dX5_wall_9 rfl rfl ?_
      obtain ⟨g7, h⟩ := gd_some h
      obtain ⟨g8, h⟩ := gd_some h
      obtain ⟨t12, e14, h⟩ := ob h
      have J13 : G M 30 [] [iV (t12)] := by
        cases h
        exact absurd rfl hT
      clear h
      have h := e14
      clear e14
      refine ax_icmp_ne cx 17 dX5_wall_10 (by decide) g7 g8 (fun c9 => ?_) (fun c9 => ?_)
      · rw [if_pos c9] at h
        refine ax_iconst cx dX5_wall_13 ?_
        refine ax_goto cx 30 dX5_wall_14 (by decide) ?_
        refine ax_lv cx [] rfl ?_
        cases h
        exact J13
      · rw [if_neg c9] at h
        refine ax_aload_n cx 0 dX5_wall_17 rfl rfl ?_
        refine ax_getf (q := 28) (ci := 5) (k := 4) (v := .ref (ad 27)) cx ⟨by decide, by decide⟩ rfl rfl hi_X5_wall_X5 (by decide) hl_X5_wall_40 rfl rfl dX5_wall_18 ?_
        refine ax_aload_n cx 0 dX5_wall_21 rfl rfl ?_
        refine ax_getf (q := 28) (ci := 5) (k := 0) (v := .ref (ad 23)) cx ⟨by decide, by decide⟩ rfl rfl hi_X5_wall_X5 (by decide) hl_X5_wall_10 rfl rfl dX5_wall_22 ?_
        refine ax_iload_n cx 1 dX5_wall_25 rfl rfl ?_
        refine ax_iload_n cx 2 dX5_wall_26 rfl rfl ?_
        obtain ⟨t10, e11, h⟩ := ob h
        refine ax_callV (As := [.ref (ad 23), iV (x1), iV (x2)]) (q := 27) (ci := 1) (n := 3) cx (kX1_wallsBetween l ad M x1 x2 _ e11) gX5_wall_X1_wallsBetween rfl ⟨by decide, by decide⟩ rfl rfl ⟨rfl, rfl⟩ (by decide +kernel) rfl ⟨by decide, by decide⟩ rfl (Nat.le_of_ble_eq_true rfl) dX5_wall_27 ?_
        refine ax_lv cx [] rfl ?_
        cases h
        exact J13
    · rw [if_neg z6] at h
      cases h
      exact ay_callS (As := [iV (x2)]) (n := 1) (st := []) cy (xX5_checkBubble l hl ad M x2 _ e5 z6) ⟨rfl, rfl⟩ gX5_wall_X5_checkBubble rfl ⟨rfl, rfl⟩ (by decide +kernel) rfl ⟨by decide, by decide⟩ rfl (Nat.le_of_ble_eq_true rfl) dX5_wall_5
  · rw [if_neg z3] at h
    cases h
    exact ay_callS (As := [iV (x1)]) (n := 1) (st := []) cy (xX5_checkBubble l hl ad M x1 _ e2 z3) ⟨rfl, rfl⟩ gX5_wall_X5_checkBubble rfl ⟨rfl, rfl⟩ (by decide +kernel) rfl ⟨by decide, by decide⟩ rfl (Nat.le_of_ble_eq_true rfl) dX5_wall_1
def fX5_corners (M : Mem) (x1 : Int) : Option (Nat × Int × Mem) :=
    gd (inR (x1)) (
    if x1 < 1 then (
      some (2, 0, M))
    else (
      if x1 ≤ 4 then (
        Option.bind (fX1_cornersOf M x1) (fun t4 =>
        some (0, t4, M)))
      else (
        some (2, 0, M))))
abbrev rmX5_corners : Room := { frames := 3, cells := 0, slots := 0, locals := 67 }
theorem hl_X5_corners_40 : Cond.fieldLink RX5 40 "PlateauBench" "foam" "LPlateauBench$Foam;" ∈ wsX5_corners := by decide +kernel
theorem hi_X5_corners_X5 : ∀ x ∈ u_ws RX5 TX5 5, x ∈ wsX5_corners := by decide +kernel
theorem ht1_X5_corners_t10 : Cond.classLink RX5 44 "java/lang/IllegalArgumentException" ∈ wsX5_corners := by decide +kernel
theorem ht2_X5_corners_t10 : Cond.initialized "java/lang/IllegalArgumentException" ∈ wsX5_corners := by decide +kernel
theorem ht3_X5_corners_t10 : ∀ w ∈ (vx_atS RX5 48 "java/lang/IllegalArgumentException" ["java/lang/RuntimeException", "java/lang/Exception"]).filter goodWord, w ∈ wsX5_corners := fun _ h => List.mem_cons_of_mem _ (List.mem_append_right _ h)
set_option maxRecDepth 100000 in
set_option maxHeartbeats 4000000 in
theorem kX5_corners (l : Launch) (ad : Nat → Nat) (M : Mem) (x1 : Int) (T : Nat × Int × Mem) (h : fX5_corners M x1 = some T) (hT : T.1 = 0) : MX l yX5_corners wsX5_corners rmX5_corners wC ad [.ref (ad 28), iV (x1)] M (some (iV (T.2.1))) M := by
  refine MX.of (cc := cX5_corners) (nL := 2) (rt := (some .int)) (own := RX5) (by decide +kernel) rfl rfl (Nat.le_of_ble_eq_true rfl) wC_ok (fun G cx => ?_)
  show G M 0 [(0, .ref (ad 28)), (1, iV (x1))] []
  unfold fX5_corners at h
  refine ax_iload_n cx 1 dX5_corners_0 rfl rfl ?_
  refine ax_iconst cx dX5_corners_1 ?_
  obtain ⟨g1, h⟩ := gd_some h
  refine ax_icmp_lt cx 10 dX5_corners_2 (by decide) g1 ⟨by decide, by decide⟩ (fun c2 => ?_) (fun c2 => ?_)
  · rw [if_pos c2] at h
    cases h
    exact absurd hT (Nat.succ_ne_zero _)
  · rw [if_neg c2] at h
    refine ax_iload_n cx 1 dX5_corners_5 rfl rfl ?_
    refine ax_iconst cx dX5_corners_6 ?_
    refine ax_icmp_le cx 20 dX5_corners_7 (by decide) g1 ⟨by decide, by decide⟩ (fun c3 => ?_) (fun c3 => ?_)
    · rw [if_pos c3] at h
      refine ax_aload_n cx 0 dX5_corners_20 rfl rfl ?_
      refine ax_getf (q := 28) (ci := 5) (k := 4) (v := .ref (ad 27)) cx ⟨by decide, by decide⟩ rfl rfl hi_X5_corners_X5 (by decide) hl_X5_corners_40 rfl rfl dX5_corners_21 ?_
      refine ax_iload_n cx 1 dX5_corners_24 rfl rfl ?_
      obtain ⟨t4, e5, h⟩ := ob h
      refine ax_callV (As := [iV (x1)]) (q := 27) (ci := 1) (n := 1) cx (kX1_cornersOf l ad M x1 _ e5) gX5_corners_X1_cornersOf rfl ⟨by decide, by decide⟩ rfl rfl ⟨rfl, rfl⟩ (by decide +kernel) rfl ⟨by decide, by decide⟩ rfl (Nat.le_of_ble_eq_true rfl) dX5_corners_25 ?_
      cases h
      exact ax_iret cx dX5_corners_28 rfl ⟨rfl, rfl⟩
    · rw [if_neg c3] at h
      cases h
      exact absurd hT (Nat.succ_ne_zero _)
abbrev rxX5_corners : Room := { frames := 6, cells := 1, slots := 6, locals := 90 }
set_option maxRecDepth 100000 in
set_option maxHeartbeats 4000000 in
theorem xX5_corners (l : Launch) (hl : l.stackTraces = false) (ad : Nat → Nat) (M : Mem) (x1 : Int) (T : Nat × Int × Mem) (h : fX5_corners M x1 = some T) (hT : ¬ T.1 = 0) : MT l yX5_corners wsX5_corners rxX5_corners wC ad [.ref (ad 28), iV (x1)] M (excN T.1) M := by
  refine MT.of (cc := cX5_corners) (nL := 2) (rt := (some .int)) (own := RX5) (by decide +kernel) rfl rfl (Nat.le_of_ble_eq_true rfl) wC_ok hl ⟨by decide, by decide⟩ (fun G cy => ?_)
  have cx := cy.cx
  show G M 0 [(0, .ref (ad 28)), (1, iV (x1))] []
  unfold fX5_corners at h
  refine ax_iload_n cx 1 dX5_corners_0 rfl rfl ?_
  refine ax_iconst cx dX5_corners_1 ?_
  obtain ⟨g1, h⟩ := gd_some h
  refine ax_icmp_lt cx 10 dX5_corners_2 (by decide) g1 ⟨by decide, by decide⟩ (fun c2 => ?_) (fun c2 => ?_)
  · rw [if_pos c2] at h
    cases h
    exact ay_throw (cls := "java/lang/IllegalArgumentException") (text := "kinds are 1 to 4") (ik := 44) (is := 189) (ic := 48) cy rfl (by decide +kernel) ht1_X5_corners_t10 ht2_X5_corners_t10 ht3_X5_corners_t10 hb1_48 hb2_48 (by decide +kernel) BW_tab dX5_corners_10 dX5_corners_13 dX5_corners_14 dX5_corners_16 dX5_corners_19 (by decide) (Nat.le_of_ble_eq_true rfl) ⟨rfl, rfl⟩
  · rw [if_neg c2] at h
    refine ax_iload_n cx 1 dX5_corners_5 rfl rfl ?_
    refine ax_iconst cx dX5_corners_6 ?_
    refine ax_icmp_le cx 20 dX5_corners_7 (by decide) g1 ⟨by decide, by decide⟩ (fun c3 => ?_) (fun c3 => ?_)
    · rw [if_pos c3] at h
      refine ax_aload_n cx 0 dX5_corners_20 rfl rfl ?_
      refine ax_getf (q := 28) (ci := 5) (k := 4) (v := .ref (ad 27)) cx ⟨by decide, by decide⟩ rfl rfl hi_X5_corners_X5 (by decide) hl_X5_corners_40 rfl rfl dX5_corners_21 ?_
      refine ax_iload_n cx 1 dX5_corners_24 rfl rfl ?_
      obtain ⟨t4, e5, h⟩ := ob h
      refine ax_callV (As := [iV (x1)]) (q := 27) (ci := 1) (n := 1) cx (kX1_cornersOf l ad M x1 _ e5) gX5_corners_X1_cornersOf rfl ⟨by decide, by decide⟩ rfl rfl ⟨rfl, rfl⟩ (by decide +kernel) rfl ⟨by decide, by decide⟩ rfl (Nat.le_of_ble_eq_true rfl) dX5_corners_25 ?_
      cases h
      exact absurd rfl hT
    · rw [if_neg c3] at h
      cases h
      exact ay_throw (cls := "java/lang/IllegalArgumentException") (text := "kinds are 1 to 4") (ik := 44) (is := 189) (ic := 48) cy rfl (by decide +kernel) ht1_X5_corners_t10 ht2_X5_corners_t10 ht3_X5_corners_t10 hb1_48 hb2_48 (by decide +kernel) BW_tab dX5_corners_10 dX5_corners_13 dX5_corners_14 dX5_corners_16 dX5_corners_19 (by decide) (Nat.le_of_ble_eq_true rfl) ⟨rfl, rfl⟩
def fX5_energy (M : Mem) (x1 : Int) : Option (Nat × Int × Mem) :=
    gd (inR (x1)) (
    if x1 = 0 then (
      Option.bind (fX1_energyNow M) (fun t7 =>
      some (0, t7, M)))
    else if x1 = 1 then (
      Option.bind (fX1_energyAtRest M) (fun t9 =>
      some (0, t9.1, t9.2)))
    else if x1 = 2 then (
      Option.bind (fX1_workDone M) (fun t11 =>
      some (0, t11, M)))
    else if x1 = 3 then (
      Option.bind (fX1_energyLost M) (fun t13 =>
      some (0, t13, M)))
    else if x1 = 4 then (
      Option.bind (fX1_energyNow M) (fun t15 =>
      Option.bind (fX1_energyLost M) (fun t17 =>
      Option.bind (fX1_workDone M) (fun t19 =>
      some (0, (t15 + t17) - t19, M)))))
    else (
      some (2, 0, M)))
abbrev rmX5_energy : Room := { frames := 6, cells := 0, slots := 0, locals := 147 }
theorem hl_X5_energy_40 : Cond.fieldLink RX5 40 "PlateauBench" "foam" "LPlateauBench$Foam;" ∈ wsX5_energy := by decide +kernel
theorem hl_X5_energy_10 : Cond.fieldLink RX5 10 "PlateauBench" "grid" "LPlateauBench$Grid;" ∈ wsX5_energy := by decide +kernel
theorem hi_X5_energy_X5 : ∀ x ∈ u_ws RX5 TX5 5, x ∈ wsX5_energy := by decide +kernel
theorem ht1_X5_energy_t104 : Cond.classLink RX5 44 "java/lang/IllegalArgumentException" ∈ wsX5_energy := by decide +kernel
theorem ht2_X5_energy_t104 : Cond.initialized "java/lang/IllegalArgumentException" ∈ wsX5_energy := by decide +kernel
theorem ht3_X5_energy_t104 : ∀ w ∈ (vx_atS RX5 48 "java/lang/IllegalArgumentException" ["java/lang/RuntimeException", "java/lang/Exception"]).filter goodWord, w ∈ wsX5_energy := fun _ h => List.mem_cons_of_mem _ (List.mem_append_right _ h)
set_option maxRecDepth 100000 in
set_option maxHeartbeats 4000000 in
theorem kX5_energy (l : Launch) (ad : Nat → Nat) (M : Mem) (x1 : Int) (T : Nat × Int × Mem) (h : fX5_energy M x1 = some T) (hT : T.1 = 0) : MX l yX5_energy wsX5_energy rmX5_energy wC ad [.ref (ad 28), iV (x1)] M (some (iV (T.2.1))) T.2.2 := by
  refine MX.of (cc := cX5_energy) (nL := 2) (rt := (some .int)) (own := RX5) (by decide +kernel) rfl rfl (Nat.le_of_ble_eq_true rfl) wC_ok (fun G cx => ?_)
  show G M 0 [(0, .ref (ad 28)), (1, iV (x1))] []
  unfold fX5_energy at h
  refine ax_iload_n cx 1 dX5_energy_0 rfl rfl ?_
  obtain ⟨g1, h⟩ := gd_some h
  by_cases c2 : x1 = 0
  · rw [if_pos c2] at h
    refine ax_tableIn (off := 35) cx 36 dX5_energy_1 g1 (by rw [c2]; decide) (by rw [c2]; decide) (by rw [c2]; rfl) (by decide) ?_
    refine ax_aload_n cx 0 dX5_energy_36 rfl rfl ?_
    refine ax_getf (q := 28) (ci := 5) (k := 4) (v := .ref (ad 27)) cx ⟨by decide, by decide⟩ rfl rfl hi_X5_energy_X5 (by decide) hl_X5_energy_40 rfl rfl dX5_energy_37 ?_
    refine ax_aload_n cx 0 dX5_energy_40 rfl rfl ?_
    refine ax_getf (q := 28) (ci := 5) (k := 0) (v := .ref (ad 23)) cx ⟨by decide, by decide⟩ rfl rfl hi_X5_energy_X5 (by decide) hl_X5_energy_10 rfl rfl dX5_energy_41 ?_
    obtain ⟨t7, e8, h⟩ := ob h
    refine ax_callV (As := [.ref (ad 23)]) (q := 27) (ci := 1) (n := 1) cx (kX1_energyNow l ad M  _ e8) gX5_energy_X1_energyNow rfl ⟨by decide, by decide⟩ rfl rfl ⟨rfl, rfl⟩ (by decide +kernel) rfl ⟨by decide, by decide⟩ rfl (Nat.le_of_ble_eq_true rfl) dX5_energy_44 ?_
    cases h
    exact ax_iret cx dX5_energy_47 rfl ⟨rfl, rfl⟩
  rw [if_neg c2] at h
  by_cases c3 : x1 = 1
  · rw [if_pos c3] at h
    refine ax_tableIn (off := 47) cx 48 dX5_energy_1 g1 (by rw [c3]; decide) (by rw [c3]; decide) (by rw [c3]; rfl) (by decide) ?_
    refine ax_aload_n cx 0 dX5_energy_48 rfl rfl ?_
    refine ax_getf (q := 28) (ci := 5) (k := 4) (v := .ref (ad 27)) cx ⟨by decide, by decide⟩ rfl rfl hi_X5_energy_X5 (by decide) hl_X5_energy_40 rfl rfl dX5_energy_49 ?_
    refine ax_aload_n cx 0 dX5_energy_52 rfl rfl ?_
    refine ax_getf (q := 28) (ci := 5) (k := 0) (v := .ref (ad 23)) cx ⟨by decide, by decide⟩ rfl rfl hi_X5_energy_X5 (by decide) hl_X5_energy_10 rfl rfl dX5_energy_53 ?_
    obtain ⟨t9, e10, h⟩ := ob h
    refine ax_callV (As := [.ref (ad 23)]) (q := 27) (ci := 1) (n := 1) cx (kX1_energyAtRest l ad M  _ e10) gX5_energy_X1_energyAtRest rfl ⟨by decide, by decide⟩ rfl rfl ⟨rfl, rfl⟩ (by decide +kernel) rfl ⟨by decide, by decide⟩ rfl (Nat.le_of_ble_eq_true rfl) dX5_energy_56 ?_
    cases h
    exact ax_iret cx dX5_energy_59 rfl ⟨rfl, rfl⟩
  rw [if_neg c3] at h
  by_cases c4 : x1 = 2
  · rw [if_pos c4] at h
    refine ax_tableIn (off := 59) cx 60 dX5_energy_1 g1 (by rw [c4]; decide) (by rw [c4]; decide) (by rw [c4]; rfl) (by decide) ?_
    refine ax_aload_n cx 0 dX5_energy_60 rfl rfl ?_
    refine ax_getf (q := 28) (ci := 5) (k := 4) (v := .ref (ad 27)) cx ⟨by decide, by decide⟩ rfl rfl hi_X5_energy_X5 (by decide) hl_X5_energy_40 rfl rfl dX5_energy_61 ?_
    obtain ⟨t11, e12, h⟩ := ob h
    refine ax_callV (As := []) (q := 27) (ci := 1) (n := 0) cx (kX1_workDone l ad M  _ e12) gX5_energy_X1_workDone rfl ⟨by decide, by decide⟩ rfl rfl ⟨rfl, rfl⟩ (by decide +kernel) rfl ⟨by decide, by decide⟩ rfl (Nat.le_of_ble_eq_true rfl) dX5_energy_64 ?_
    cases h
    exact ax_iret cx dX5_energy_67 rfl ⟨rfl, rfl⟩
  rw [if_neg c4] at h
  by_cases c5 : x1 = 3
  · rw [if_pos c5] at h
    refine ax_tableIn (off := 67) cx 68 dX5_energy_1 g1 (by rw [c5]; decide) (by rw [c5]; decide) (by rw [c5]; rfl) (by decide) ?_
    refine ax_aload_n cx 0 dX5_energy_68 rfl rfl ?_
    refine ax_getf (q := 28) (ci := 5) (k := 4) (v := .ref (ad 27)) cx ⟨by decide, by decide⟩ rfl rfl hi_X5_energy_X5 (by decide) hl_X5_energy_40 rfl rfl dX5_energy_69 ?_
    obtain ⟨t13, e14, h⟩ := ob h
    refine ax_callV (As := []) (q := 27) (ci := 1) (n := 0) cx (kX1_energyLost l ad M  _ e14) gX5_energy_X1_energyLost rfl ⟨by decide, by decide⟩ rfl rfl ⟨rfl, rfl⟩ (by decide +kernel) rfl ⟨by decide, by decide⟩ rfl (Nat.le_of_ble_eq_true rfl) dX5_energy_72 ?_
    cases h
    exact ax_iret cx dX5_energy_75 rfl ⟨rfl, rfl⟩
  rw [if_neg c5] at h
  by_cases c6 : x1 = 4
  · rw [if_pos c6] at h
    refine ax_tableIn (off := 75) cx 76 dX5_energy_1 g1 (by rw [c6]; decide) (by rw [c6]; decide) (by rw [c6]; rfl) (by decide) ?_
    refine ax_aload_n cx 0 dX5_energy_76 rfl rfl ?_
    refine ax_getf (q := 28) (ci := 5) (k := 4) (v := .ref (ad 27)) cx ⟨by decide, by decide⟩ rfl rfl hi_X5_energy_X5 (by decide) hl_X5_energy_40 rfl rfl dX5_energy_77 ?_
    refine ax_aload_n cx 0 dX5_energy_80 rfl rfl ?_
    refine ax_getf (q := 28) (ci := 5) (k := 0) (v := .ref (ad 23)) cx ⟨by decide, by decide⟩ rfl rfl hi_X5_energy_X5 (by decide) hl_X5_energy_10 rfl rfl dX5_energy_81 ?_
    obtain ⟨t15, e16, h⟩ := ob h
    refine ax_callV (As := [.ref (ad 23)]) (q := 27) (ci := 1) (n := 1) cx (kX1_energyNow l ad M  _ e16) gX5_energy_X1_energyNow rfl ⟨by decide, by decide⟩ rfl rfl ⟨rfl, rfl⟩ (by decide +kernel) rfl ⟨by decide, by decide⟩ rfl (Nat.le_of_ble_eq_true rfl) dX5_energy_84 ?_
    refine ax_aload_n cx 0 dX5_energy_87 rfl rfl ?_
    refine ax_getf (q := 28) (ci := 5) (k := 4) (v := .ref (ad 27)) cx ⟨by decide, by decide⟩ rfl rfl hi_X5_energy_X5 (by decide) hl_X5_energy_40 rfl rfl dX5_energy_88 ?_
    obtain ⟨t17, e18, h⟩ := ob h
    refine ax_callV (As := []) (q := 27) (ci := 1) (n := 0) cx (kX1_energyLost l ad M  _ e18) gX5_energy_X1_energyLost rfl ⟨by decide, by decide⟩ rfl rfl ⟨rfl, rfl⟩ (by decide +kernel) rfl ⟨by decide, by decide⟩ rfl (Nat.le_of_ble_eq_true rfl) dX5_energy_91 ?_
    refine ax_iadd cx dX5_energy_94 ?_
    refine ax_aload_n cx 0 dX5_energy_95 rfl rfl ?_
    refine ax_getf (q := 28) (ci := 5) (k := 4) (v := .ref (ad 27)) cx ⟨by decide, by decide⟩ rfl rfl hi_X5_energy_X5 (by decide) hl_X5_energy_40 rfl rfl dX5_energy_96 ?_
    obtain ⟨t19, e20, h⟩ := ob h
    refine ax_callV (As := []) (q := 27) (ci := 1) (n := 0) cx (kX1_workDone l ad M  _ e20) gX5_energy_X1_workDone rfl ⟨by decide, by decide⟩ rfl rfl ⟨rfl, rfl⟩ (by decide +kernel) rfl ⟨by decide, by decide⟩ rfl (Nat.le_of_ble_eq_true rfl) dX5_energy_99 ?_
    refine ax_isub cx dX5_energy_102 ?_
    cases h
    exact ax_iret cx dX5_energy_103 rfl ⟨rfl, rfl⟩
  rw [if_neg c6] at h
  refine ax_tableOut cx 104 dX5_energy_1 g1 (by omega) (by decide) ?_
  cases h
  exact absurd hT (Nat.succ_ne_zero _)
abbrev rxX5_energy : Room := { frames := 6, cells := 1, slots := 6, locals := 147 }
set_option maxRecDepth 100000 in
set_option maxHeartbeats 4000000 in
theorem xX5_energy (l : Launch) (hl : l.stackTraces = false) (ad : Nat → Nat) (M : Mem) (x1 : Int) (T : Nat × Int × Mem) (h : fX5_energy M x1 = some T) (hT : ¬ T.1 = 0) : MT l yX5_energy wsX5_energy rxX5_energy wC ad [.ref (ad 28), iV (x1)] M (excN T.1) T.2.2 := by
  refine MT.of (cc := cX5_energy) (nL := 2) (rt := (some .int)) (own := RX5) (by decide +kernel) rfl rfl (Nat.le_of_ble_eq_true rfl) wC_ok hl ⟨by decide, by decide⟩ (fun G cy => ?_)
  have cx := cy.cx
  show G M 0 [(0, .ref (ad 28)), (1, iV (x1))] []
  unfold fX5_energy at h
  refine ax_iload_n cx 1 dX5_energy_0 rfl rfl ?_
  obtain ⟨g1, h⟩ := gd_some h
  by_cases c2 : x1 = 0
  · rw [if_pos c2] at h
    refine ax_tableIn (off := 35) cx 36 dX5_energy_1 g1 (by rw [c2]; decide) (by rw [c2]; decide) (by rw [c2]; rfl) (by decide) ?_
    refine ax_aload_n cx 0 dX5_energy_36 rfl rfl ?_
    refine ax_getf (q := 28) (ci := 5) (k := 4) (v := .ref (ad 27)) cx ⟨by decide, by decide⟩ rfl rfl hi_X5_energy_X5 (by decide) hl_X5_energy_40 rfl rfl dX5_energy_37 ?_
    refine ax_aload_n cx 0 dX5_energy_40 rfl rfl ?_
    refine ax_getf (q := 28) (ci := 5) (k := 0) (v := .ref (ad 23)) cx ⟨by decide, by decide⟩ rfl rfl hi_X5_energy_X5 (by decide) hl_X5_energy_10 rfl rfl dX5_energy_41 ?_
    obtain ⟨t7, e8, h⟩ := ob h
    refine ax_callV (As := [.ref (ad 23)]) (q := 27) (ci := 1) (n := 1) cx (kX1_energyNow l ad M  _ e8) gX5_energy_X1_energyNow rfl ⟨by decide, by decide⟩ rfl rfl ⟨rfl, rfl⟩ (by decide +kernel) rfl ⟨by decide, by decide⟩ rfl (Nat.le_of_ble_eq_true rfl) dX5_energy_44 ?_
    cases h
    exact absurd rfl hT
  rw [if_neg c2] at h
  by_cases c3 : x1 = 1
  · rw [if_pos c3] at h
    refine ax_tableIn (off := 47) cx 48 dX5_energy_1 g1 (by rw [c3]; decide) (by rw [c3]; decide) (by rw [c3]; rfl) (by decide) ?_
    refine ax_aload_n cx 0 dX5_energy_48 rfl rfl ?_
    refine ax_getf (q := 28) (ci := 5) (k := 4) (v := .ref (ad 27)) cx ⟨by decide, by decide⟩ rfl rfl hi_X5_energy_X5 (by decide) hl_X5_energy_40 rfl rfl dX5_energy_49 ?_
    refine ax_aload_n cx 0 dX5_energy_52 rfl rfl ?_
    refine ax_getf (q := 28) (ci := 5) (k := 0) (v := .ref (ad 23)) cx ⟨by decide, by decide⟩ rfl rfl hi_X5_energy_X5 (by decide) hl_X5_energy_10 rfl rfl dX5_energy_53 ?_
    obtain ⟨t9, e10, h⟩ := ob h
    refine ax_callV (As := [.ref (ad 23)]) (q := 27) (ci := 1) (n := 1) cx (kX1_energyAtRest l ad M  _ e10) gX5_energy_X1_energyAtRest rfl ⟨by decide, by decide⟩ rfl rfl ⟨rfl, rfl⟩ (by decide +kernel) rfl ⟨by decide, by decide⟩ rfl (Nat.le_of_ble_eq_true rfl) dX5_energy_56 ?_
    cases h
    exact absurd rfl hT
  rw [if_neg c3] at h
  by_cases c4 : x1 = 2
  · rw [if_pos c4] at h
    refine ax_tableIn (off := 59) cx 60 dX5_energy_1 g1 (by rw [c4]; decide) (by rw [c4]; decide) (by rw [c4]; rfl) (by decide) ?_
    refine ax_aload_n cx 0 dX5_energy_60 rfl rfl ?_
    refine ax_getf (q := 28) (ci := 5) (k := 4) (v := .ref (ad 27)) cx ⟨by decide, by decide⟩ rfl rfl hi_X5_energy_X5 (by decide) hl_X5_energy_40 rfl rfl dX5_energy_61 ?_
    obtain ⟨t11, e12, h⟩ := ob h
    refine ax_callV (As := []) (q := 27) (ci := 1) (n := 0) cx (kX1_workDone l ad M  _ e12) gX5_energy_X1_workDone rfl ⟨by decide, by decide⟩ rfl rfl ⟨rfl, rfl⟩ (by decide +kernel) rfl ⟨by decide, by decide⟩ rfl (Nat.le_of_ble_eq_true rfl) dX5_energy_64 ?_
    cases h
    exact absurd rfl hT
  rw [if_neg c4] at h
  by_cases c5 : x1 = 3
  · rw [if_pos c5] at h
    refine ax_tableIn (off := 67) cx 68 dX5_energy_1 g1 (by rw [c5]; decide) (by rw [c5]; decide) (by rw [c5]; rfl) (by decide) ?_
    refine ax_aload_n cx 0 dX5_energy_68 rfl rfl ?_
    refine ax_getf (q := 28) (ci := 5) (k := 4) (v := .ref (ad 27)) cx ⟨by decide, by decide⟩ rfl rfl hi_X5_energy_X5 (by decide) hl_X5_energy_40 rfl rfl dX5_energy_69 ?_
    obtain ⟨t13, e14, h⟩ := ob h
    refine ax_callV (As := []) (q := 27) (ci := 1) (n := 0) cx (kX1_energyLost l ad M  _ e14) gX5_energy_X1_energyLost rfl ⟨by decide, by decide⟩ rfl rfl ⟨rfl, rfl⟩ (by decide +kernel) rfl ⟨by decide, by decide⟩ rfl (Nat.le_of_ble_eq_true rfl) dX5_energy_72 ?_
    cases h
    exact absurd rfl hT
  rw [if_neg c5] at h
  by_cases c6 : x1 = 4
  · rw [if_pos c6] at h
    refine ax_tableIn (off := 75) cx 76 dX5_energy_1 g1 (by rw [c6]; decide) (by rw [c6]; decide) (by rw [c6]; rfl) (by decide) ?_
    refine ax_aload_n cx 0 dX5_energy_76 rfl rfl ?_
    refine ax_getf (q := 28) (ci := 5) (k := 4) (v := .ref (ad 27)) cx ⟨by decide, by decide⟩ rfl rfl hi_X5_energy_X5 (by decide) hl_X5_energy_40 rfl rfl dX5_energy_77 ?_
    refine ax_aload_n cx 0 dX5_energy_80 rfl rfl ?_
    refine ax_getf (q := 28) (ci := 5) (k := 0) (v := .ref (ad 23)) cx ⟨by decide, by decide⟩ rfl rfl hi_X5_energy_X5 (by decide) hl_X5_energy_10 rfl rfl dX5_energy_81 ?_
    obtain ⟨t15, e16, h⟩ := ob h
    refine ax_callV (As := [.ref (ad 23)]) (q := 27) (ci := 1) (n := 1) cx (kX1_energyNow l ad M  _ e16) gX5_energy_X1_energyNow rfl ⟨by decide, by decide⟩ rfl rfl ⟨rfl, rfl⟩ (by decide +kernel) rfl ⟨by decide, by decide⟩ rfl (Nat.le_of_ble_eq_true rfl) dX5_energy_84 ?_
    refine ax_aload_n cx 0 dX5_energy_87 rfl rfl ?_
    refine ax_getf (q := 28) (ci := 5) (k := 4) (v := .ref (ad 27)) cx ⟨by decide, by decide⟩ rfl rfl hi_X5_energy_X5 (by decide) hl_X5_energy_40 rfl rfl dX5_energy_88 ?_
    obtain ⟨t17, e18, h⟩ := ob h
    refine ax_callV (As := []) (q := 27) (ci := 1) (n := 0) cx (kX1_energyLost l ad M  _ e18) gX5_energy_X1_energyLost rfl ⟨by decide, by decide⟩ rfl rfl ⟨rfl, rfl⟩ (by decide +kernel) rfl ⟨by decide, by decide⟩ rfl (Nat.le_of_ble_eq_true rfl) dX5_energy_91 ?_
    refine ax_iadd cx dX5_energy_94 ?_
    refine ax_aload_n cx 0 dX5_energy_95 rfl rfl ?_
    refine ax_getf (q := 28) (ci := 5) (k := 4) (v := .ref (ad 27)) cx ⟨by decide, by decide⟩ rfl rfl hi_X5_energy_X5 (by decide) hl_X5_energy_40 rfl rfl dX5_energy_96 ?_
    obtain ⟨t19, e20, h⟩ := ob h
    refine ax_callV (As := []) (q := 27) (ci := 1) (n := 0) cx (kX1_workDone l ad M  _ e20) gX5_energy_X1_workDone rfl ⟨by decide, by decide⟩ rfl rfl ⟨rfl, rfl⟩ (by decide +kernel) rfl ⟨by decide, by decide⟩ rfl (Nat.le_of_ble_eq_true rfl) dX5_energy_99 ?_
    refine ax_isub cx dX5_energy_102 ?_
    cases h
    exact absurd rfl hT
  rw [if_neg c6] at h
  refine ax_tableOut cx 104 dX5_energy_1 g1 (by omega) (by decide) ?_
  cases h
  exact ay_throw (cls := "java/lang/IllegalArgumentException") (text := "of the energy 0 to 4 is told") (ik := 44) (is := 207) (ic := 48) cy rfl (by decide +kernel) ht1_X5_energy_t104 ht2_X5_energy_t104 ht3_X5_energy_t104 hb1_48 hb2_48 (by decide +kernel) BW_tab dX5_energy_104 dX5_energy_107 dX5_energy_108 dX5_energy_110 dX5_energy_113 (by decide) (Nat.le_of_ble_eq_true rfl) ⟨rfl, rfl⟩
