def fX5_least (M : Mem)  : Option (Int × Mem) :=
    Option.bind (fX3_cheapest M) (fun t1 =>
    some (t1.1, t1.2))
abbrev rmX5_least : Room := { frames := 5, cells := 0, slots := 0, locals := 119 }
theorem hl_X5_least_26 : Cond.fieldLink RX5 26 "PlateauBench" "nets" "LPlateauBench$Nets;" ∈ wsX5_least := by decide +kernel
theorem hl_X5_least_10 : Cond.fieldLink RX5 10 "PlateauBench" "grid" "LPlateauBench$Grid;" ∈ wsX5_least := by decide +kernel
theorem hi_X5_least_X5 : ∀ x ∈ u_ws RX5 TX5 5, x ∈ wsX5_least := by decide +kernel
set_option maxRecDepth 100000 in
set_option maxHeartbeats 4000000 in
theorem kX5_least (l : Launch) (ad : Nat → Nat) (M : Mem)  (T : Int × Mem) (h : fX5_least M  = some T) : MX l yX5_least wsX5_least rmX5_least wC ad [.ref (ad 28)] M (some (iV (T.1))) T.2 := by
  refine MX.of (cc := cX5_least) (nL := 1) (rt := (some .int)) (own := RX5) (by decide +kernel) rfl rfl (Nat.le_of_ble_eq_true rfl) wC_ok (fun G cx => ?_)
  show G M 0 [(0, .ref (ad 28))] []
  unfold fX5_least at h
  refine ax_aload_n cx 0 dX5_least_0 rfl rfl ?_
  refine ax_getf (q := 28) (ci := 5) (k := 2) (v := .ref (ad 25)) cx ⟨by decide, by decide⟩ rfl rfl hi_X5_least_X5 (by decide) hl_X5_least_26 rfl rfl dX5_least_1 ?_
  refine ax_aload_n cx 0 dX5_least_4 rfl rfl ?_
  refine ax_getf (q := 28) (ci := 5) (k := 0) (v := .ref (ad 23)) cx ⟨by decide, by decide⟩ rfl rfl hi_X5_least_X5 (by decide) hl_X5_least_10 rfl rfl dX5_least_5 ?_
  obtain ⟨t1, e2, h⟩ := ob h
  refine ax_callV (As := [.ref (ad 23)]) (q := 25) (ci := 3) (n := 1) cx (kX3_cheapest l ad M  _ e2) gX5_least_X3_cheapest rfl ⟨by decide, by decide⟩ rfl rfl ⟨rfl, rfl⟩ (by decide +kernel) rfl ⟨by decide, by decide⟩ rfl (Nat.le_of_ble_eq_true rfl) dX5_least_8 ?_
  cases h
  exact ax_iret cx dX5_least_11 rfl ⟨rfl, rfl⟩
def fX5_leastAnew (M : Mem)  : Option (Int × Mem) :=
    Option.bind (fX3_cheapestOfShapes M) (fun t1 =>
    some (t1.1, t1.2))
abbrev rmX5_leastAnew : Room := { frames := 5, cells := 0, slots := 0, locals := 121 }
theorem hl_X5_leastAnew_26 : Cond.fieldLink RX5 26 "PlateauBench" "nets" "LPlateauBench$Nets;" ∈ wsX5_leastAnew := by decide +kernel
theorem hl_X5_leastAnew_10 : Cond.fieldLink RX5 10 "PlateauBench" "grid" "LPlateauBench$Grid;" ∈ wsX5_leastAnew := by decide +kernel
theorem hi_X5_leastAnew_X5 : ∀ x ∈ u_ws RX5 TX5 5, x ∈ wsX5_leastAnew := by decide +kernel
set_option maxRecDepth 100000 in
set_option maxHeartbeats 4000000 in
theorem kX5_leastAnew (l : Launch) (ad : Nat → Nat) (M : Mem)  (T : Int × Mem) (h : fX5_leastAnew M  = some T) : MX l yX5_leastAnew wsX5_leastAnew rmX5_leastAnew wC ad [.ref (ad 28)] M (some (iV (T.1))) T.2 := by
  refine MX.of (cc := cX5_leastAnew) (nL := 1) (rt := (some .int)) (own := RX5) (by decide +kernel) rfl rfl (Nat.le_of_ble_eq_true rfl) wC_ok (fun G cx => ?_)
  show G M 0 [(0, .ref (ad 28))] []
  unfold fX5_leastAnew at h
  refine ax_aload_n cx 0 dX5_leastAnew_0 rfl rfl ?_
  refine ax_getf (q := 28) (ci := 5) (k := 2) (v := .ref (ad 25)) cx ⟨by decide, by decide⟩ rfl rfl hi_X5_leastAnew_X5 (by decide) hl_X5_leastAnew_26 rfl rfl dX5_leastAnew_1 ?_
  refine ax_aload_n cx 0 dX5_leastAnew_4 rfl rfl ?_
  refine ax_getf (q := 28) (ci := 5) (k := 0) (v := .ref (ad 23)) cx ⟨by decide, by decide⟩ rfl rfl hi_X5_leastAnew_X5 (by decide) hl_X5_leastAnew_10 rfl rfl dX5_leastAnew_5 ?_
  obtain ⟨t1, e2, h⟩ := ob h
  refine ax_callV (As := [.ref (ad 23)]) (q := 25) (ci := 3) (n := 1) cx (kX3_cheapestOfShapes l ad M  _ e2) gX5_leastAnew_X3_cheapestOfShapes rfl ⟨by decide, by decide⟩ rfl rfl ⟨rfl, rfl⟩ (by decide +kernel) rfl ⟨by decide, by decide⟩ rfl (Nat.le_of_ble_eq_true rfl) dX5_leastAnew_8 ?_
  cases h
  exact ax_iret cx dX5_leastAnew_11 rfl ⟨rfl, rfl⟩
def fX5_bound (M : Mem)  : Option (Int × Mem) :=
    Option.bind (fX3_lowerBound M) (fun t1 =>
    some (t1.1, t1.2))
abbrev rmX5_bound : Room := { frames := 5, cells := 0, slots := 0, locals := 118 }
theorem hl_X5_bound_26 : Cond.fieldLink RX5 26 "PlateauBench" "nets" "LPlateauBench$Nets;" ∈ wsX5_bound := by decide +kernel
theorem hl_X5_bound_10 : Cond.fieldLink RX5 10 "PlateauBench" "grid" "LPlateauBench$Grid;" ∈ wsX5_bound := by decide +kernel
theorem hi_X5_bound_X5 : ∀ x ∈ u_ws RX5 TX5 5, x ∈ wsX5_bound := by decide +kernel
set_option maxRecDepth 100000 in
set_option maxHeartbeats 4000000 in
theorem kX5_bound (l : Launch) (ad : Nat → Nat) (M : Mem)  (T : Int × Mem) (h : fX5_bound M  = some T) : MX l yX5_bound wsX5_bound rmX5_bound wC ad [.ref (ad 28)] M (some (iV (T.1))) T.2 := by
  refine MX.of (cc := cX5_bound) (nL := 1) (rt := (some .int)) (own := RX5) (by decide +kernel) rfl rfl (Nat.le_of_ble_eq_true rfl) wC_ok (fun G cx => ?_)
  show G M 0 [(0, .ref (ad 28))] []
  unfold fX5_bound at h
  refine ax_aload_n cx 0 dX5_bound_0 rfl rfl ?_
  refine ax_getf (q := 28) (ci := 5) (k := 2) (v := .ref (ad 25)) cx ⟨by decide, by decide⟩ rfl rfl hi_X5_bound_X5 (by decide) hl_X5_bound_26 rfl rfl dX5_bound_1 ?_
  refine ax_aload_n cx 0 dX5_bound_4 rfl rfl ?_
  refine ax_getf (q := 28) (ci := 5) (k := 0) (v := .ref (ad 23)) cx ⟨by decide, by decide⟩ rfl rfl hi_X5_bound_X5 (by decide) hl_X5_bound_10 rfl rfl dX5_bound_5 ?_
  obtain ⟨t1, e2, h⟩ := ob h
  refine ax_callV (As := [.ref (ad 23)]) (q := 25) (ci := 3) (n := 1) cx (kX3_lowerBound l ad M  _ e2) gX5_bound_X3_lowerBound rfl ⟨by decide, by decide⟩ rfl rfl ⟨rfl, rfl⟩ (by decide +kernel) rfl ⟨by decide, by decide⟩ rfl (Nat.le_of_ble_eq_true rfl) dX5_bound_8 ?_
  cases h
  exact ax_iret cx dX5_bound_11 rfl ⟨rfl, rfl⟩
def fX5_gap (M : Mem)  : Option (Int × Mem) :=
    Option.bind (fX3_cheapest M) (fun t1 =>
    Option.bind (fX3_lowerBound t1.2) (fun t3 =>
    some (t1.1 - t3.1, t3.2)))
abbrev rmX5_gap : Room := { frames := 5, cells := 0, slots := 0, locals := 119 }
theorem hl_X5_gap_26 : Cond.fieldLink RX5 26 "PlateauBench" "nets" "LPlateauBench$Nets;" ∈ wsX5_gap := by decide +kernel
theorem hl_X5_gap_10 : Cond.fieldLink RX5 10 "PlateauBench" "grid" "LPlateauBench$Grid;" ∈ wsX5_gap := by decide +kernel
theorem hi_X5_gap_X5 : ∀ x ∈ u_ws RX5 TX5 5, x ∈ wsX5_gap := by decide +kernel
set_option maxRecDepth 100000 in
set_option maxHeartbeats 4000000 in
theorem kX5_gap (l : Launch) (ad : Nat → Nat) (M : Mem)  (T : Int × Mem) (h : fX5_gap M  = some T) : MX l yX5_gap wsX5_gap rmX5_gap wC ad [.ref (ad 28)] M (some (iV (T.1))) T.2 := by
  refine MX.of (cc := cX5_gap) (nL := 1) (rt := (some .int)) (own := RX5) (by decide +kernel) rfl rfl (Nat.le_of_ble_eq_true rfl) wC_ok (fun G cx => ?_)
  show G M 0 [(0, .ref (ad 28))] []
  unfold fX5_gap at h
  refine ax_aload_n cx 0 dX5_gap_0 rfl rfl ?_
  refine ax_getf (q := 28) (ci := 5) (k := 2) (v := .ref (ad 25)) cx ⟨by decide, by decide⟩ rfl rfl hi_X5_gap_X5 (by decide) hl_X5_gap_26 rfl rfl dX5_gap_1 ?_
  refine ax_aload_n cx 0 dX5_gap_4 rfl rfl ?_
  refine ax_getf (q := 28) (ci := 5) (k := 0) (v := .ref (ad 23)) cx ⟨by decide, by decide⟩ rfl rfl hi_X5_gap_X5 (by decide) hl_X5_gap_10 rfl rfl dX5_gap_5 ?_
  obtain ⟨t1, e2, h⟩ := ob h
  refine ax_callV (As := [.ref (ad 23)]) (q := 25) (ci := 3) (n := 1) cx (kX3_cheapest l ad M  _ e2) gX5_gap_X3_cheapest rfl ⟨by decide, by decide⟩ rfl rfl ⟨rfl, rfl⟩ (by decide +kernel) rfl ⟨by decide, by decide⟩ rfl (Nat.le_of_ble_eq_true rfl) dX5_gap_8 ?_
  refine ax_aload_n cx 0 dX5_gap_11 rfl rfl ?_
  refine ax_getf (q := 28) (ci := 5) (k := 2) (v := .ref (ad 25)) cx ⟨by decide, by decide⟩ rfl rfl hi_X5_gap_X5 (by decide) hl_X5_gap_26 rfl rfl dX5_gap_12 ?_
  refine ax_aload_n cx 0 dX5_gap_15 rfl rfl ?_
  refine ax_getf (q := 28) (ci := 5) (k := 0) (v := .ref (ad 23)) cx ⟨by decide, by decide⟩ rfl rfl hi_X5_gap_X5 (by decide) hl_X5_gap_10 rfl rfl dX5_gap_16 ?_
  obtain ⟨t3, e4, h⟩ := ob h
  refine ax_callV (As := [.ref (ad 23)]) (q := 25) (ci := 3) (n := 1) cx (kX3_lowerBound l ad t1.2  _ e4) gX5_gap_X3_lowerBound rfl ⟨by decide, by decide⟩ rfl rfl ⟨rfl, rfl⟩ (by decide +kernel) rfl ⟨by decide, by decide⟩ rfl (Nat.le_of_ble_eq_true rfl) dX5_gap_19 ?_
  refine ax_isub cx dX5_gap_22 ?_
  cases h
  exact ax_iret cx dX5_gap_23 rfl ⟨rfl, rfl⟩
def fX5_film (M : Mem)  : Option (Int × Mem) :=
    Option.bind (fX0_smallest M) (fun t1 =>
    Option.bind (fX0_priceOf t1.2 t1.1) (fun t3 =>
    some (t3, t1.2)))
abbrev rmX5_film : Room := { frames := 6, cells := 0, slots := 0, locals := 142 }
theorem hl_X5_film_33 : Cond.fieldLink RX5 33 "PlateauBench" "films" "LPlateauBench$Films;" ∈ wsX5_film := by decide +kernel
theorem hl_X5_film_10 : Cond.fieldLink RX5 10 "PlateauBench" "grid" "LPlateauBench$Grid;" ∈ wsX5_film := by decide +kernel
theorem hi_X5_film_X5 : ∀ x ∈ u_ws RX5 TX5 5, x ∈ wsX5_film := by decide +kernel
set_option maxRecDepth 100000 in
set_option maxHeartbeats 4000000 in
theorem kX5_film (l : Launch) (ad : Nat → Nat) (M : Mem)  (T : Int × Mem) (h : fX5_film M  = some T) : MX l yX5_film wsX5_film rmX5_film wC ad [.ref (ad 28)] M (some (iV (T.1))) T.2 := by
  refine MX.of (cc := cX5_film) (nL := 1) (rt := (some .int)) (own := RX5) (by decide +kernel) rfl rfl (Nat.le_of_ble_eq_true rfl) wC_ok (fun G cx => ?_)
  show G M 0 [(0, .ref (ad 28))] []
  unfold fX5_film at h
  refine ax_aload_n cx 0 dX5_film_0 rfl rfl ?_
  refine ax_getf (q := 28) (ci := 5) (k := 3) (v := .ref (ad 26)) cx ⟨by decide, by decide⟩ rfl rfl hi_X5_film_X5 (by decide) hl_X5_film_33 rfl rfl dX5_film_1 ?_
  refine ax_aload_n cx 0 dX5_film_4 rfl rfl ?_
  refine ax_getf (q := 28) (ci := 5) (k := 0) (v := .ref (ad 23)) cx ⟨by decide, by decide⟩ rfl rfl hi_X5_film_X5 (by decide) hl_X5_film_10 rfl rfl dX5_film_5 ?_
  refine ax_aload_n cx 0 dX5_film_8 rfl rfl ?_
  refine ax_getf (q := 28) (ci := 5) (k := 3) (v := .ref (ad 26)) cx ⟨by decide, by decide⟩ rfl rfl hi_X5_film_X5 (by decide) hl_X5_film_33 rfl rfl dX5_film_9 ?_
  refine ax_aload_n cx 0 dX5_film_12 rfl rfl ?_
  refine ax_getf (q := 28) (ci := 5) (k := 0) (v := .ref (ad 23)) cx ⟨by decide, by decide⟩ rfl rfl hi_X5_film_X5 (by decide) hl_X5_film_10 rfl rfl dX5_film_13 ?_
  obtain ⟨t1, e2, h⟩ := ob h
  refine ax_callV (As := [.ref (ad 23)]) (q := 26) (ci := 0) (n := 1) cx (kX0_smallest l ad M  _ e2) gX5_film_X0_smallest rfl ⟨by decide, by decide⟩ rfl rfl ⟨rfl, rfl⟩ (by decide +kernel) rfl ⟨by decide, by decide⟩ rfl (Nat.le_of_ble_eq_true rfl) dX5_film_16 ?_
  obtain ⟨t3, e4, h⟩ := ob h
  refine ax_callV (As := [.ref (ad 23), .long (t1.1)]) (q := 26) (ci := 0) (n := 2) cx (kX0_priceOf l ad t1.2 t1.1 _ e4) gX5_film_X0_priceOf rfl ⟨by decide, by decide⟩ rfl rfl ⟨rfl, rfl⟩ (by decide +kernel) rfl ⟨by decide, by decide⟩ rfl (Nat.le_of_ble_eq_true rfl) dX5_film_19 ?_
  cases h
  exact ax_iret cx dX5_film_22 rfl ⟨rfl, rfl⟩
def fX5_proof (M : Mem)  : Option (Int × Mem) :=
    Option.bind (fX0_proved M) (fun t1 =>
    some (t1.1, t1.2))
abbrev rmX5_proof : Room := { frames := 6, cells := 0, slots := 0, locals := 144 }
theorem hl_X5_proof_33 : Cond.fieldLink RX5 33 "PlateauBench" "films" "LPlateauBench$Films;" ∈ wsX5_proof := by decide +kernel
theorem hl_X5_proof_10 : Cond.fieldLink RX5 10 "PlateauBench" "grid" "LPlateauBench$Grid;" ∈ wsX5_proof := by decide +kernel
theorem hi_X5_proof_X5 : ∀ x ∈ u_ws RX5 TX5 5, x ∈ wsX5_proof := by decide +kernel
set_option maxRecDepth 100000 in
set_option maxHeartbeats 4000000 in
theorem kX5_proof (l : Launch) (ad : Nat → Nat) (M : Mem)  (T : Int × Mem) (h : fX5_proof M  = some T) : MX l yX5_proof wsX5_proof rmX5_proof wC ad [.ref (ad 28)] M (some (iV (T.1))) T.2 := by
  refine MX.of (cc := cX5_proof) (nL := 1) (rt := (some .int)) (own := RX5) (by decide +kernel) rfl rfl (Nat.le_of_ble_eq_true rfl) wC_ok (fun G cx => ?_)
  show G M 0 [(0, .ref (ad 28))] []
  unfold fX5_proof at h
  refine ax_aload_n cx 0 dX5_proof_0 rfl rfl ?_
  refine ax_getf (q := 28) (ci := 5) (k := 3) (v := .ref (ad 26)) cx ⟨by decide, by decide⟩ rfl rfl hi_X5_proof_X5 (by decide) hl_X5_proof_33 rfl rfl dX5_proof_1 ?_
  refine ax_aload_n cx 0 dX5_proof_4 rfl rfl ?_
  refine ax_getf (q := 28) (ci := 5) (k := 0) (v := .ref (ad 23)) cx ⟨by decide, by decide⟩ rfl rfl hi_X5_proof_X5 (by decide) hl_X5_proof_10 rfl rfl dX5_proof_5 ?_
  obtain ⟨t1, e2, h⟩ := ob h
  refine ax_callV (As := [.ref (ad 23)]) (q := 26) (ci := 0) (n := 1) cx (kX0_proved l ad M  _ e2) gX5_proof_X0_proved rfl ⟨by decide, by decide⟩ rfl rfl ⟨rfl, rfl⟩ (by decide +kernel) rfl ⟨by decide, by decide⟩ rfl (Nat.le_of_ble_eq_true rfl) dX5_proof_8 ?_
  cases h
  exact ax_iret cx dX5_proof_11 rfl ⟨rfl, rfl⟩
def fX5_side (M : Mem) (x1 : Int) : Option (Int64 × Mem) :=
    gd (inR (x1)) (
    Option.bind (if x1 = 0 then (
      Option.bind (fX0_smallest M) (fun t3 =>
      some (t3.1, t3.2)))
    else (
      Option.bind (fX0_greatest M) (fun t5 =>
      some (t5.1, t5.2)))) (fun t7 =>
    some (t7.1, t7.2)))
abbrev rmX5_side : Room := { frames := 6, cells := 0, slots := 0, locals := 142 }
theorem hl_X5_side_33 : Cond.fieldLink RX5 33 "PlateauBench" "films" "LPlateauBench$Films;" ∈ wsX5_side := by decide +kernel
theorem hl_X5_side_10 : Cond.fieldLink RX5 10 "PlateauBench" "grid" "LPlateauBench$Grid;" ∈ wsX5_side := by decide +kernel
theorem hi_X5_side_X5 : ∀ x ∈ u_ws RX5 TX5 5, x ∈ wsX5_side := by decide +kernel
set_option maxRecDepth 100000 in
set_option maxHeartbeats 4000000 in
theorem kX5_side (l : Launch) (ad : Nat → Nat) (M : Mem) (x1 : Int) (T : Int64 × Mem) (h : fX5_side M x1 = some T) : MX l yX5_side wsX5_side rmX5_side wC ad [.ref (ad 28), iV (x1)] M (some (.long (T.1))) T.2 := by
  refine MX.of (cc := cX5_side) (nL := 2) (rt := (some .long)) (own := RX5) (by decide +kernel) rfl rfl (Nat.le_of_ble_eq_true rfl) wC_ok (fun G cx => ?_)
  show G M 0 [(0, .ref (ad 28)), (1, iV (x1))] []
  unfold fX5_side at h
  refine ax_iload_n cx 1 dX5_side_0 rfl rfl ?_
  obtain ⟨g1, h⟩ := gd_some h
  obtain ⟨t7, e9, h⟩ := ob h
  have J8 : G t7.2 29 [] [.long (t7.1)] := by
    cases h
    exact ax_lret cx dX5_side_29 rfl ⟨rfl, rfl⟩
  clear h
  have h := e9
  clear e9
  refine ax_if_eq cx 18 dX5_side_1 (by decide) g1 (fun c2 => ?_) (fun c2 => ?_)
  · rw [if_pos c2] at h
    refine ax_aload_n cx 0 dX5_side_18 rfl rfl ?_
    refine ax_getf (q := 28) (ci := 5) (k := 3) (v := .ref (ad 26)) cx ⟨by decide, by decide⟩ rfl rfl hi_X5_side_X5 (by decide) hl_X5_side_33 rfl rfl dX5_side_19 ?_
    refine ax_aload_n cx 0 dX5_side_22 rfl rfl ?_
    refine ax_getf (q := 28) (ci := 5) (k := 0) (v := .ref (ad 23)) cx ⟨by decide, by decide⟩ rfl rfl hi_X5_side_X5 (by decide) hl_X5_side_10 rfl rfl dX5_side_23 ?_
    obtain ⟨t3, e4, h⟩ := ob h
    refine ax_callV (As := [.ref (ad 23)]) (q := 26) (ci := 0) (n := 1) cx (kX0_smallest l ad M  _ e4) gX5_side_X0_smallest rfl ⟨by decide, by decide⟩ rfl rfl ⟨rfl, rfl⟩ (by decide +kernel) rfl ⟨by decide, by decide⟩ rfl (Nat.le_of_ble_eq_true rfl) dX5_side_26 ?_
    refine ax_lv cx [] rfl ?_
    cases h
    exact J8
  · rw [if_neg c2] at h
    refine ax_aload_n cx 0 dX5_side_4 rfl rfl ?_
    refine ax_getf (q := 28) (ci := 5) (k := 3) (v := .ref (ad 26)) cx ⟨by decide, by decide⟩ rfl rfl hi_X5_side_X5 (by decide) hl_X5_side_33 rfl rfl dX5_side_5 ?_
    refine ax_aload_n cx 0 dX5_side_8 rfl rfl ?_
    refine ax_getf (q := 28) (ci := 5) (k := 0) (v := .ref (ad 23)) cx ⟨by decide, by decide⟩ rfl rfl hi_X5_side_X5 (by decide) hl_X5_side_10 rfl rfl dX5_side_9 ?_
    obtain ⟨t5, e6, h⟩ := ob h
    refine ax_callV (As := [.ref (ad 23)]) (q := 26) (ci := 0) (n := 1) cx (kX0_greatest l ad M  _ e6) gX5_side_X0_greatest rfl ⟨by decide, by decide⟩ rfl rfl ⟨rfl, rfl⟩ (by decide +kernel) rfl ⟨by decide, by decide⟩ rfl (Nat.le_of_ble_eq_true rfl) dX5_side_12 ?_
    refine ax_goto cx 29 dX5_side_15 (by decide) ?_
    refine ax_lv cx [] rfl ?_
    cases h
    exact J8
def fX5_rests (M : Mem)  : Option (Int × Mem) :=
    Option.bind (fX1_breathsToRest M) (fun t1 =>
    some (t1.1, t1.2))
abbrev rmX5_rests : Room := { frames := 5, cells := 0, slots := 0, locals := 126 }
theorem hl_X5_rests_40 : Cond.fieldLink RX5 40 "PlateauBench" "foam" "LPlateauBench$Foam;" ∈ wsX5_rests := by decide +kernel
theorem hl_X5_rests_10 : Cond.fieldLink RX5 10 "PlateauBench" "grid" "LPlateauBench$Grid;" ∈ wsX5_rests := by decide +kernel
theorem hi_X5_rests_X5 : ∀ x ∈ u_ws RX5 TX5 5, x ∈ wsX5_rests := by decide +kernel
set_option maxRecDepth 100000 in
set_option maxHeartbeats 4000000 in
theorem kX5_rests (l : Launch) (ad : Nat → Nat) (M : Mem)  (T : Int × Mem) (h : fX5_rests M  = some T) : MX l yX5_rests wsX5_rests rmX5_rests wC ad [.ref (ad 28)] M (some (iV (T.1))) T.2 := by
  refine MX.of (cc := cX5_rests) (nL := 1) (rt := (some .int)) (own := RX5) (by decide +kernel) rfl rfl (Nat.le_of_ble_eq_true rfl) wC_ok (fun G cx => ?_)
  show G M 0 [(0, .ref (ad 28))] []
  unfold fX5_rests at h
  refine ax_aload_n cx 0 dX5_rests_0 rfl rfl ?_
  refine ax_getf (q := 28) (ci := 5) (k := 4) (v := .ref (ad 27)) cx ⟨by decide, by decide⟩ rfl rfl hi_X5_rests_X5 (by decide) hl_X5_rests_40 rfl rfl dX5_rests_1 ?_
  refine ax_aload_n cx 0 dX5_rests_4 rfl rfl ?_
  refine ax_getf (q := 28) (ci := 5) (k := 0) (v := .ref (ad 23)) cx ⟨by decide, by decide⟩ rfl rfl hi_X5_rests_X5 (by decide) hl_X5_rests_10 rfl rfl dX5_rests_5 ?_
  obtain ⟨t1, e2, h⟩ := ob h
  refine ax_callV (As := [.ref (ad 23)]) (q := 27) (ci := 1) (n := 1) cx (kX1_breathsToRest l ad M  _ e2) gX5_rests_X1_breathsToRest rfl ⟨by decide, by decide⟩ rfl rfl ⟨rfl, rfl⟩ (by decide +kernel) rfl ⟨by decide, by decide⟩ rfl (Nat.le_of_ble_eq_true rfl) dX5_rests_8 ?_
  cases h
  exact ax_iret cx dX5_rests_11 rfl ⟨rfl, rfl⟩
def fX5_takeInNewPrices (M : Mem) (x1 : Int) : Option (Mem) :=
    Option.bind (fX3_forget M) (fun t1 =>
    Option.bind (fX1_energyNow t1) (fun t3 =>
    Option.bind (fX1_addWork t1 (t3 - x1)) (fun t5 =>
    some (t5))))
abbrev rmX5_takeInNewPrices : Room := { frames := 3, cells := 0, slots := 0, locals := 65 }
theorem hl_X5_takeInNewPrices_26 : Cond.fieldLink RX5 26 "PlateauBench" "nets" "LPlateauBench$Nets;" ∈ wsX5_takeInNewPrices := by decide +kernel
theorem hl_X5_takeInNewPrices_40 : Cond.fieldLink RX5 40 "PlateauBench" "foam" "LPlateauBench$Foam;" ∈ wsX5_takeInNewPrices := by decide +kernel
theorem hl_X5_takeInNewPrices_10 : Cond.fieldLink RX5 10 "PlateauBench" "grid" "LPlateauBench$Grid;" ∈ wsX5_takeInNewPrices := by decide +kernel
theorem hi_X5_takeInNewPrices_X5 : ∀ x ∈ u_ws RX5 TX5 5, x ∈ wsX5_takeInNewPrices := by decide +kernel
set_option maxRecDepth 100000 in
set_option maxHeartbeats 4000000 in
theorem kX5_takeInNewPrices (l : Launch) (ad : Nat → Nat) (M : Mem) (x1 : Int) (T : Mem) (h : fX5_takeInNewPrices M x1 = some T) : MX l yX5_takeInNewPrices wsX5_takeInNewPrices rmX5_takeInNewPrices wC ad [.ref (ad 28), iV (x1)] M none T := by
  refine MX.of (cc := cX5_takeInNewPrices) (nL := 2) (rt := none) (own := RX5) (by decide +kernel) rfl rfl (Nat.le_of_ble_eq_true rfl) wC_ok (fun G cx => ?_)
  show G M 0 [(0, .ref (ad 28)), (1, iV (x1))] []
  unfold fX5_takeInNewPrices at h
  refine ax_aload_n cx 0 dX5_takeInNewPrices_0 rfl rfl ?_
  refine ax_getf (q := 28) (ci := 5) (k := 2) (v := .ref (ad 25)) cx ⟨by decide, by decide⟩ rfl rfl hi_X5_takeInNewPrices_X5 (by decide) hl_X5_takeInNewPrices_26 rfl rfl dX5_takeInNewPrices_1 ?_
  obtain ⟨t1, e2, h⟩ := ob h
  refine ax_callV (As := []) (q := 25) (ci := 3) (n := 0) cx (kX3_forget l ad M  _ e2) gX5_takeInNewPrices_X3_forget rfl ⟨by decide, by decide⟩ rfl rfl ⟨rfl, rfl⟩ (by decide +kernel) rfl ⟨by decide, by decide⟩ rfl (Nat.le_of_ble_eq_true rfl) dX5_takeInNewPrices_4 ?_
  refine ax_aload_n cx 0 dX5_takeInNewPrices_7 rfl rfl ?_
  refine ax_getf (q := 28) (ci := 5) (k := 4) (v := .ref (ad 27)) cx ⟨by decide, by decide⟩ rfl rfl hi_X5_takeInNewPrices_X5 (by decide) hl_X5_takeInNewPrices_40 rfl rfl dX5_takeInNewPrices_8 ?_
  refine ax_aload_n cx 0 dX5_takeInNewPrices_11 rfl rfl ?_
  refine ax_getf (q := 28) (ci := 5) (k := 4) (v := .ref (ad 27)) cx ⟨by decide, by decide⟩ rfl rfl hi_X5_takeInNewPrices_X5 (by decide) hl_X5_takeInNewPrices_40 rfl rfl dX5_takeInNewPrices_12 ?_
  refine ax_aload_n cx 0 dX5_takeInNewPrices_15 rfl rfl ?_
  refine ax_getf (q := 28) (ci := 5) (k := 0) (v := .ref (ad 23)) cx ⟨by decide, by decide⟩ rfl rfl hi_X5_takeInNewPrices_X5 (by decide) hl_X5_takeInNewPrices_10 rfl rfl dX5_takeInNewPrices_16 ?_
  obtain ⟨t3, e4, h⟩ := ob h
  refine ax_callV (As := [.ref (ad 23)]) (q := 27) (ci := 1) (n := 1) cx (kX1_energyNow l ad t1  _ e4) gX5_takeInNewPrices_X1_energyNow rfl ⟨by decide, by decide⟩ rfl rfl ⟨rfl, rfl⟩ (by decide +kernel) rfl ⟨by decide, by decide⟩ rfl (Nat.le_of_ble_eq_true rfl) dX5_takeInNewPrices_19 ?_
  refine ax_iload_n cx 1 dX5_takeInNewPrices_22 rfl rfl ?_
  refine ax_isub cx dX5_takeInNewPrices_23 ?_
  obtain ⟨t5, e6, h⟩ := ob h
  refine ax_callV (As := [iV (t3 - x1)]) (q := 27) (ci := 1) (n := 1) cx (kX1_addWork l ad t1 (t3 - x1) _ e6) gX5_takeInNewPrices_X1_addWork rfl ⟨by decide, by decide⟩ rfl rfl ⟨rfl, rfl⟩ (by decide +kernel) rfl ⟨by decide, by decide⟩ rfl (Nat.le_of_ble_eq_true rfl) dX5_takeInNewPrices_24 ?_
  cases h
  exact ax_vret cx dX5_takeInNewPrices_27 rfl ⟨rfl, rfl⟩
