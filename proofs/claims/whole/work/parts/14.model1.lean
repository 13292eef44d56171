def fX6_thrown (M : Mem)  : Option (Int) :=
    some (M 100 0)
abbrev rmX6_thrown : Room := { frames := 0, cells := 0, slots := 0, locals := 0 }
theorem hl_X6_thrown_57 : Cond.fieldLink RX6 57 "PlateauBenchModel" "thrown" "I" ∈ wsX6_thrown := by decide +kernel
theorem hi_X6_thrown_X6 : ∀ x ∈ u_ws RX6 TX6 19, x ∈ wsX6_thrown := by decide +kernel
set_option maxRecDepth 100000 in
set_option maxHeartbeats 4000000 in
theorem kX6_thrown (l : Launch) (ad : Nat → Nat) (M : Mem)  (T : Int) (h : fX6_thrown M  = some T) : MX l yX6_thrown wsX6_thrown rmX6_thrown wM ad [.ref (ad 14)] M (some (iV (T))) M := by
  refine MX.of (cc := cX6_thrown) (nL := 1) (rt := (some .int)) (own := RX6) (by decide +kernel) rfl rfl (Nat.le_of_ble_eq_true rfl) wM_ok (fun G cx => ?_)
  show G M 0 [(0, .ref (ad 14))] []
  unfold fX6_thrown at h
  refine ax_aload_n cx 0 dX6_thrown_0 rfl rfl ?_
  refine ax_getf (q := 14) (ci := 6) (k := 0) (v := iV (M 100 0)) cx ⟨by decide, by decide⟩ rfl rfl hi_X6_thrown_X6 (by decide) hl_X6_thrown_57 rfl rfl dX6_thrown_1 ?_
  cases h
  exact ax_iret cx dX6_thrown_4 rfl ⟨rfl, rfl⟩
def fX6_in (M : Mem) (x0 : Int) (x1 : Int) (x2 : Int) : Option (Int) :=
    gd (inR (x0)) (
    gd (inR (x1)) (
    Option.bind (if x0 < x1 then (
      some (0))
    else (
      gd (inR (x2)) (
      if x2 < x0 then (
        some (0))
      else (
        some (1))))) (fun t6 =>
    gd (t6 = 0 ∨ t6 = 1) (
    some (t6)))))
abbrev rmX6_in : Room := { frames := 0, cells := 0, slots := 0, locals := 0 }
set_option maxRecDepth 100000 in
set_option maxHeartbeats 4000000 in
theorem kX6_in (l : Launch) (ad : Nat → Nat) (M : Mem) (x0 : Int) (x1 : Int) (x2 : Int) (T : Int) (h : fX6_in M x0 x1 x2 = some T) : MX l yX6_in wsX6_in rmX6_in wM ad [iV (x0), iV (x1), iV (x2)] M (some (iV (T))) M := by
  refine MX.of (cc := cX6_in) (nL := 3) (rt := (some .boolean)) (own := RX6) (by decide +kernel) rfl rfl (Nat.le_of_ble_eq_true rfl) wM_ok (fun G cx => ?_)
  show G M 0 [(0, iV (x0)), (1, iV (x1)), (2, iV (x2))] []
  unfold fX6_in at h
  refine ax_iload_n cx 0 dX6_in_0 rfl rfl ?_
  refine ax_iload_n cx 1 dX6_in_1 rfl rfl ?_
  obtain ⟨g1, h⟩ := gd_some h
  obtain ⟨g2, h⟩ := gd_some h
  obtain ⟨t6, e8, h⟩ := ob h
  have J7 : G M 15 [] [iV (t6)] := by
    obtain ⟨g9, h⟩ := gd_some h
    cases h
    exact ax_zret cx dX6_in_15 rfl g9 ⟨rfl, rfl⟩
  clear h
  have h := e8
  clear e8
  refine ax_icmp_lt cx 14 dX6_in_2 (by decide) g1 g2 (fun c3 => ?_) (fun c3 => ?_)
  · rw [if_pos c3] at h
    refine ax_iconst cx dX6_in_14 ?_
    refine ax_lv cx [] rfl ?_
    cases h
    exact J7
  · rw [if_neg c3] at h
    refine ax_iload_n cx 0 dX6_in_5 rfl rfl ?_
    refine ax_iload_n cx 2 dX6_in_6 rfl rfl ?_
    obtain ⟨g4, h⟩ := gd_some h
    refine ax_icmp_gt cx 14 dX6_in_7 (by decide) g1 g4 (fun c5 => ?_) (fun c5 => ?_)
    · rw [if_pos c5] at h
      refine ax_iconst cx dX6_in_14 ?_
      refine ax_lv cx [] rfl ?_
      cases h
      exact J7
    · rw [if_neg c5] at h
      refine ax_iconst cx dX6_in_10 ?_
      refine ax_goto cx 15 dX6_in_11 (by decide) ?_
      refine ax_lv cx [] rfl ?_
      cases h
      exact J7
def fX6_refused (M : Mem) (x1 : Int) : Option (Int × Mem) :=
    gd (inR (x1)) (
    Option.bind (if x1 = 0 then (
      some (0))
    else (
      some (1))) (fun t3 =>
    gd (t3 = 0 ∨ t3 = 1) (
    some (t3, (wr M 100 0 x1)))))
abbrev rmX6_refused : Room := { frames := 0, cells := 0, slots := 0, locals := 0 }
theorem hl_X6_refused_57 : Cond.fieldLink RX6 57 "PlateauBenchModel" "thrown" "I" ∈ wsX6_refused := by decide +kernel
theorem hi_X6_refused_X6 : ∀ x ∈ u_ws RX6 TX6 19, x ∈ wsX6_refused := by decide +kernel
set_option maxRecDepth 100000 in
set_option maxHeartbeats 4000000 in
theorem kX6_refused (l : Launch) (ad : Nat → Nat) (M : Mem) (x1 : Int) (T : Int × Mem) (h : fX6_refused M x1 = some T) : MX l yX6_refused wsX6_refused rmX6_refused wM ad [.ref (ad 14), iV (x1)] M (some (iV (T.1))) T.2 := by
  refine MX.of (cc := cX6_refused) (nL := 2) (rt := (some .boolean)) (own := RX6) (by decide +kernel) rfl rfl (Nat.le_of_ble_eq_true rfl) wM_ok (fun G cx => ?_)
  show G M 0 [(0, .ref (ad 14)), (1, iV (x1))] []
  unfold fX6_refused at h
  refine ax_aload_n cx 0 dX6_refused_0 rfl rfl ?_
  refine ax_iload_n cx 1 dX6_refused_1 rfl rfl ?_
  refine ax_putf (q := 14) (ci := 6) (k := 0) (f := 100) (ty := .int) cx ⟨by decide, by decide⟩ rfl rfl hi_X6_refused_X6 tyX6 tyX6_ok nmX6 (by decide) hl_X6_refused_57 rfl (by decide +kernel) (by decide +kernel) rfl rfl (Nat.le_of_ble_eq_true rfl) (by decide) rfl (putM_100 ad _ _) dX6_refused_2 ?_
  refine ax_iload_n cx 1 dX6_refused_5 rfl rfl ?_
  obtain ⟨g1, h⟩ := gd_some h
  obtain ⟨t3, e5, h⟩ := ob h
  have J4 : G (wr M 100 0 x1) 14 [] [iV (t3)] := by
    obtain ⟨g6, h⟩ := gd_some h
    cases h
    exact ax_zret cx dX6_refused_14 rfl g6 ⟨rfl, rfl⟩
  clear h
  have h := e5
  clear e5
  refine ax_if_eq cx 13 dX6_refused_6 (by decide) g1 (fun c2 => ?_) (fun c2 => ?_)
  · rw [if_pos c2] at h
    refine ax_iconst cx dX6_refused_13 ?_
    refine ax_lv cx [] rfl ?_
    cases h
    exact J4
  · rw [if_neg c2] at h
    refine ax_iconst cx dX6_refused_9 ?_
    refine ax_goto cx 14 dX6_refused_10 (by decide) ?_
    refine ax_lv cx [] rfl ?_
    cases h
    exact J4
def fX6_isNode (M : Mem) (x0 : Int) : Option (Int) :=
    Option.bind (fX6_in M x0 0 35) (fun t1 =>
    gd (t1 = 0 ∨ t1 = 1) (
    some (t1)))
abbrev rmX6_isNode : Room := { frames := 1, cells := 0, slots := 0, locals := 22 }
set_option maxRecDepth 100000 in
set_option maxHeartbeats 4000000 in
theorem kX6_isNode (l : Launch) (ad : Nat → Nat) (M : Mem) (x0 : Int) (T : Int) (h : fX6_isNode M x0 = some T) : MX l yX6_isNode wsX6_isNode rmX6_isNode wM ad [iV (x0)] M (some (iV (T))) M := by
  refine MX.of (cc := cX6_isNode) (nL := 1) (rt := (some .boolean)) (own := RX6) (by decide +kernel) rfl rfl (Nat.le_of_ble_eq_true rfl) wM_ok (fun G cx => ?_)
  show G M 0 [(0, iV (x0))] []
  unfold fX6_isNode at h
  refine ax_iload_n cx 0 dX6_isNode_0 rfl rfl ?_
  refine ax_iconst cx dX6_isNode_1 ?_
  refine ax_bipush (z := 35) cx dX6_isNode_2 (by decide) ?_
  obtain ⟨t1, e2, h⟩ := ob h
  refine ax_callS (As := [iV (x0), iV (0), iV (35)]) (n := 3) cx (kX6_in l ad M x0 0 35 _ e2) gX6_isNode_X6_in rfl ⟨rfl, rfl⟩ (by decide +kernel) rfl ⟨by decide, by decide⟩ rfl (Nat.le_of_ble_eq_true rfl) dX6_isNode_4 ?_
  obtain ⟨g3, h⟩ := gd_some h
  cases h
  exact ax_zret cx dX6_isNode_7 rfl g3 ⟨rfl, rfl⟩
def fX6_isEdge (M : Mem) (x0 : Int) : Option (Int) :=
    Option.bind (fX6_in M x0 0 59) (fun t1 =>
    gd (t1 = 0 ∨ t1 = 1) (
    some (t1)))
abbrev rmX6_isEdge : Room := { frames := 1, cells := 0, slots := 0, locals := 22 }
set_option maxRecDepth 100000 in
set_option maxHeartbeats 4000000 in
theorem kX6_isEdge (l : Launch) (ad : Nat → Nat) (M : Mem) (x0 : Int) (T : Int) (h : fX6_isEdge M x0 = some T) : MX l yX6_isEdge wsX6_isEdge rmX6_isEdge wM ad [iV (x0)] M (some (iV (T))) M := by
  refine MX.of (cc := cX6_isEdge) (nL := 1) (rt := (some .boolean)) (own := RX6) (by decide +kernel) rfl rfl (Nat.le_of_ble_eq_true rfl) wM_ok (fun G cx => ?_)
  show G M 0 [(0, iV (x0))] []
  unfold fX6_isEdge at h
  refine ax_iload_n cx 0 dX6_isEdge_0 rfl rfl ?_
  refine ax_iconst cx dX6_isEdge_1 ?_
  refine ax_bipush (z := 59) cx dX6_isEdge_2 (by decide) ?_
  obtain ⟨t1, e2, h⟩ := ob h
  refine ax_callS (As := [iV (x0), iV (0), iV (59)]) (n := 3) cx (kX6_in l ad M x0 0 59 _ e2) gX6_isEdge_X6_in rfl ⟨rfl, rfl⟩ (by decide +kernel) rfl ⟨by decide, by decide⟩ rfl (Nat.le_of_ble_eq_true rfl) dX6_isEdge_4 ?_
  obtain ⟨g3, h⟩ := gd_some h
  cases h
  exact ax_zret cx dX6_isEdge_7 rfl g3 ⟨rfl, rfl⟩
def fX6_isBubble (M : Mem) (x0 : Int) : Option (Int) :=
    Option.bind (fX6_in M x0 0 7) (fun t1 =>
    gd (t1 = 0 ∨ t1 = 1) (
    some (t1)))
abbrev rmX6_isBubble : Room := { frames := 1, cells := 0, slots := 0, locals := 22 }
set_option maxRecDepth 100000 in
set_option maxHeartbeats 4000000 in
theorem kX6_isBubble (l : Launch) (ad : Nat → Nat) (M : Mem) (x0 : Int) (T : Int) (h : fX6_isBubble M x0 = some T) : MX l yX6_isBubble wsX6_isBubble rmX6_isBubble wM ad [iV (x0)] M (some (iV (T))) M := by
  refine MX.of (cc := cX6_isBubble) (nL := 1) (rt := (some .boolean)) (own := RX6) (by decide +kernel) rfl rfl (Nat.le_of_ble_eq_true rfl) wM_ok (fun G cx => ?_)
  show G M 0 [(0, iV (x0))] []
  unfold fX6_isBubble at h
  refine ax_iload_n cx 0 dX6_isBubble_0 rfl rfl ?_
  refine ax_iconst cx dX6_isBubble_1 ?_
  refine ax_bipush (z := 7) cx dX6_isBubble_2 (by decide) ?_
  obtain ⟨t1, e2, h⟩ := ob h
  refine ax_callS (As := [iV (x0), iV (0), iV (7)]) (n := 3) cx (kX6_in l ad M x0 0 7 _ e2) gX6_isBubble_X6_in rfl ⟨rfl, rfl⟩ (by decide +kernel) rfl ⟨by decide, by decide⟩ rfl (Nat.le_of_ble_eq_true rfl) dX6_isBubble_4 ?_
  obtain ⟨g3, h⟩ := gd_some h
  cases h
  exact ax_zret cx dX6_isBubble_7 rfl g3 ⟨rfl, rfl⟩
def fX6_first (M : Mem) (x0 : Int) : Option (Int) :=
    gd (inR (x0)) (
    Option.bind (if 30 ≤ x0 then (
      some (x0 - 30))
    else (
      gd (0 ≤ x0 ∧ x0 < 2147483648) (
      gd (0 ≤ x0 ∧ x0 < 2147483648) (
      some ((6 * (x0 / 5)) + (x0 % 5)))))) (fun t5 =>
    some (t5)))
abbrev rmX6_first : Room := { frames := 0, cells := 0, slots := 0, locals := 0 }
set_option maxRecDepth 100000 in
set_option maxHeartbeats 4000000 in
theorem kX6_first (l : Launch) (ad : Nat → Nat) (M : Mem) (x0 : Int) (T : Int) (h : fX6_first M x0 = some T) : MX l yX6_first wsX6_first rmX6_first wM ad [iV (x0)] M (some (iV (T))) M := by
  refine MX.of (cc := cX6_first) (nL := 1) (rt := (some .int)) (own := RX6) (by decide +kernel) rfl rfl (Nat.le_of_ble_eq_true rfl) wM_ok (fun G cx => ?_)
  show G M 0 [(0, iV (x0))] []
  unfold fX6_first at h
  refine ax_iload_n cx 0 dX6_first_0 rfl rfl ?_
  refine ax_bipush (z := 30) cx dX6_first_1 (by decide) ?_
  obtain ⟨g1, h⟩ := gd_some h
  obtain ⟨t5, e7, h⟩ := ob h
  have J6 : G M 23 [] [iV (t5)] := by
    cases h
    exact ax_iret cx dX6_first_23 rfl ⟨rfl, rfl⟩
  clear h
  have h := e7
  clear e7
  refine ax_icmp_ge cx 19 dX6_first_3 (by decide) g1 ⟨by decide, by decide⟩ (fun c2 => ?_) (fun c2 => ?_)
  · rw [if_pos c2] at h
    refine ax_iload_n cx 0 dX6_first_19 rfl rfl ?_
    refine ax_bipush (z := 30) cx dX6_first_20 (by decide) ?_
    refine ax_isub cx dX6_first_22 ?_
    refine ax_lv cx [] rfl ?_
    cases h
    exact J6
  · rw [if_neg c2] at h
    refine ax_bipush (z := 6) cx dX6_first_6 (by decide) ?_
    refine ax_iload_n cx 0 dX6_first_8 rfl rfl ?_
    refine ax_iconst cx dX6_first_9 ?_
    obtain ⟨g3, h⟩ := gd_some h
    refine ax_idiv cx dX6_first_10 ⟨g3, by decide, by decide⟩ ?_
    refine ax_imul cx dX6_first_11 ?_
    refine ax_iload_n cx 0 dX6_first_12 rfl rfl ?_
    refine ax_iconst cx dX6_first_13 ?_
    obtain ⟨g4, h⟩ := gd_some h
    refine ax_irem cx dX6_first_14 ⟨g4, by decide, by decide⟩ ?_
    refine ax_iadd cx dX6_first_15 ?_
    refine ax_goto cx 23 dX6_first_16 (by decide) ?_
    refine ax_lv cx [] rfl ?_
    cases h
    exact J6
def fX6_second (M : Mem) (x0 : Int) : Option (Int) :=
    gd (inR (x0)) (
    Option.bind (if 30 ≤ x0 then (
      Option.bind (fX6_first M x0) (fun t3 =>
      some (t3 + 6)))
    else (
      Option.bind (fX6_first M x0) (fun t5 =>
      some (t5 + 1)))) (fun t7 =>
    some (t7)))
abbrev rmX6_second : Room := { frames := 1, cells := 0, slots := 0, locals := 20 }
set_option maxRecDepth 100000 in
set_option maxHeartbeats 4000000 in
theorem kX6_second (l : Launch) (ad : Nat → Nat) (M : Mem) (x0 : Int) (T : Int) (h : fX6_second M x0 = some T) : MX l yX6_second wsX6_second rmX6_second wM ad [iV (x0)] M (some (iV (T))) M := by
  refine MX.of (cc := cX6_second) (nL := 1) (rt := (some .int)) (own := RX6) (by decide +kernel) rfl rfl (Nat.le_of_ble_eq_true rfl) wM_ok (fun G cx => ?_)
  show G M 0 [(0, iV (x0))] []
  unfold fX6_second at h
  refine ax_iload_n cx 0 dX6_second_0 rfl rfl ?_
  refine ax_bipush (z := 30) cx dX6_second_1 (by decide) ?_
  obtain ⟨g1, h⟩ := gd_some h
  obtain ⟨t7, e9, h⟩ := ob h
  have J8 : G M 22 [] [iV (t7)] := by
    cases h
    exact ax_iret cx dX6_second_22 rfl ⟨rfl, rfl⟩
  clear h
  have h := e9
  clear e9
  refine ax_icmp_ge cx 15 dX6_second_3 (by decide) g1 ⟨by decide, by decide⟩ (fun c2 => ?_) (fun c2 => ?_)
  · rw [if_pos c2] at h
    refine ax_iload_n cx 0 dX6_second_15 rfl rfl ?_
    obtain ⟨t3, e4, h⟩ := ob h
    refine ax_callS (As := [iV (x0)]) (n := 1) cx (kX6_first l ad M x0 _ e4) gX6_second_X6_first rfl ⟨rfl, rfl⟩ (by decide +kernel) rfl ⟨by decide, by decide⟩ rfl (Nat.le_of_ble_eq_true rfl) dX6_second_16 ?_
    refine ax_bipush (z := 6) cx dX6_second_19 (by decide) ?_
    refine ax_iadd cx dX6_second_21 ?_
    refine ax_lv cx [] rfl ?_
    cases h
    exact J8
  · rw [if_neg c2] at h
    refine ax_iload_n cx 0 dX6_second_6 rfl rfl ?_
    obtain ⟨t5, e6, h⟩ := ob h
    refine ax_callS (As := [iV (x0)]) (n := 1) cx (kX6_first l ad M x0 _ e6) gX6_second_X6_first rfl ⟨rfl, rfl⟩ (by decide +kernel) rfl ⟨by decide, by decide⟩ rfl (Nat.le_of_ble_eq_true rfl) dX6_second_7 ?_
    refine ax_iconst cx dX6_second_10 ?_
    refine ax_iadd cx dX6_second_11 ?_
    refine ax_goto cx 22 dX6_second_12 (by decide) ?_
    refine ax_lv cx [] rfl ?_
    cases h
    exact J8
def fX6_costOfEdge (M : Mem) (x1 : Int) : Option (Int) :=
    gd (inR (x1)) (
    Option.bind (if 30 ≤ x1 then (
      some (1))
    else (
      some (0))) (fun t3 =>
    gd (inB (t3) 2) (
    gd (inB (x1) 60) (
    some ((M 0 t3.toNat) + (M 1 x1.toNat))))))
abbrev rmX6_costOfEdge : Room := { frames := 0, cells := 0, slots := 0, locals := 0 }
theorem hl_X6_costOfEdge_7 : Cond.fieldLink RX6 7 "PlateauBenchModel" "prices" "[I" ∈ wsX6_costOfEdge := by decide +kernel
theorem hl_X6_costOfEdge_13 : Cond.fieldLink RX6 13 "PlateauBenchModel" "laid" "[I" ∈ wsX6_costOfEdge := by decide +kernel
theorem hi_X6_costOfEdge_X6 : ∀ x ∈ u_ws RX6 TX6 19, x ∈ wsX6_costOfEdge := by decide +kernel
set_option maxRecDepth 100000 in
set_option maxHeartbeats 4000000 in
theorem kX6_costOfEdge (l : Launch) (ad : Nat → Nat) (M : Mem) (x1 : Int) (T : Int) (h : fX6_costOfEdge M x1 = some T) : MX l yX6_costOfEdge wsX6_costOfEdge rmX6_costOfEdge wM ad [.ref (ad 14), iV (x1)] M (some (iV (T))) M := by
  refine MX.of (cc := cX6_costOfEdge) (nL := 2) (rt := (some .int)) (own := RX6) (by decide +kernel) rfl rfl (Nat.le_of_ble_eq_true rfl) wM_ok (fun G cx => ?_)
  show G M 0 [(0, .ref (ad 14)), (1, iV (x1))] []
  unfold fX6_costOfEdge at h
  refine ax_aload_n cx 0 dX6_costOfEdge_0 rfl rfl ?_
  refine ax_getf (q := 14) (ci := 6) (k := 1) (v := .ref (ad 0)) cx ⟨by decide, by decide⟩ rfl rfl hi_X6_costOfEdge_X6 (by decide) hl_X6_costOfEdge_7 rfl rfl dX6_costOfEdge_1 ?_
  refine ax_iload_n cx 1 dX6_costOfEdge_4 rfl rfl ?_
  refine ax_bipush (z := 30) cx dX6_costOfEdge_5 (by decide) ?_
  obtain ⟨g1, h⟩ := gd_some h
  obtain ⟨t3, e5, h⟩ := ob h
  have J4 : G M 15 [(0, .ref (ad 14)), (1, iV (x1))] [iV (t3), .ref (ad 0)] := by
    obtain ⟨g6, h⟩ := gd_some h
    refine ax_iald (n := 2) cx (by decide) rfl rfl g6 dX6_costOfEdge_15 ?_
    refine ax_aload_n cx 0 dX6_costOfEdge_16 rfl rfl ?_
    refine ax_getf (q := 14) (ci := 6) (k := 2) (v := .ref (ad 1)) cx ⟨by decide, by decide⟩ rfl rfl hi_X6_costOfEdge_X6 (by decide) hl_X6_costOfEdge_13 rfl rfl dX6_costOfEdge_17 ?_
    refine ax_iload_n cx 1 dX6_costOfEdge_20 rfl rfl ?_
    obtain ⟨g7, h⟩ := gd_some h
    refine ax_iald (n := 60) cx (by decide) rfl rfl g7 dX6_costOfEdge_21 ?_
    refine ax_iadd cx dX6_costOfEdge_22 ?_
    cases h
    exact ax_iret cx dX6_costOfEdge_23 rfl ⟨rfl, rfl⟩
  clear h
  have h := e5
  clear e5
  refine ax_icmp_ge cx 14 dX6_costOfEdge_7 (by decide) g1 ⟨by decide, by decide⟩ (fun c2 => ?_) (fun c2 => ?_)
  · rw [if_pos c2] at h
    refine ax_iconst cx dX6_costOfEdge_14 ?_
    cases h
    exact J4
  · rw [if_neg c2] at h
    refine ax_iconst cx dX6_costOfEdge_10 ?_
    refine ax_goto cx 15 dX6_costOfEdge_11 (by decide) ?_
    cases h
    exact J4
def fX6_energyNow_L4 : Nat → Mem → Int → Int → Option (Int)
  | 0, _, _, _ => none
  | n + 1, M, x1, x2 =>
    gd (inR (x2)) (
    if 60 ≤ x2 then (
      some (x1))
    else (
      Option.bind (fX6_first M x2) (fun t3 =>
      gd (inB (t3) 36) (
      Option.bind (fX6_second M x2) (fun t6 =>
      gd (inB (t6) 36) (
      gd (inR (M 4 t3.toNat)) (
      gd (inR (M 4 t6.toNat)) (
      Option.bind (if M 4 t3.toNat = M 4 t6.toNat then (
        some (0))
      else (
        Option.bind (fX6_costOfEdge M x2) (fun t12 =>
        some (t12)))) (fun t14 =>
      fX6_energyNow_L4 n M (x1 + t14) (x2 + 1))))))))))
def fX6_energyNow (M : Mem)  : Option (Int) :=
    Option.bind (fX6_energyNow_L4 FU M 0 0) (fun t18 =>
    some (t18))
abbrev rmX6_energyNow : Room := { frames := 2, cells := 0, slots := 0, locals := 40 }
theorem hl_X6_energyNow_22 : Cond.fieldLink RX6 22 "PlateauBenchModel" "bubbles" "[I" ∈ wsX6_energyNow := by decide +kernel
theorem hi_X6_energyNow_X6 : ∀ x ∈ u_ws RX6 TX6 19, x ∈ wsX6_energyNow := by decide +kernel
set_option maxRecDepth 100000 in
set_option maxHeartbeats 4000000 in
theorem kX6_energyNow (l : Launch) (ad : Nat → Nat) (M : Mem)  (T : Int) (h : fX6_energyNow M  = some T) : MX l yX6_energyNow wsX6_energyNow rmX6_energyNow wM ad [.ref (ad 14)] M (some (iV (T))) M := by
  refine MX.of (cc := cX6_energyNow) (nL := 3) (rt := (some .int)) (own := RX6) (by decide +kernel) rfl rfl (Nat.le_of_ble_eq_true rfl) wM_ok (fun G cx => ?_)
  show G M 0 [(0, .ref (ad 14))] []
  have L4 : ∀ (n : Nat) (x1 : Int) (x2 : Int) (T17 : Int), fX6_energyNow_L4 n M x1 x2 = some T17 → (G M 49 [(1, iV (T17))] []) → G M 4 [(0, .ref (ad 14)), (1, iV (x1)), (2, iV (x2))] [] := by
    intro n
    induction n with
    | zero =>
      intro x1 x2 T17 h
      exact absurd h (by simp [fX6_energyNow_L4])
    | succ n ih =>
      intro x1 x2 T17 h hJ
      rw [fX6_energyNow_L4] at h
      refine ax_iload_n cx 2 dX6_energyNow_4 rfl rfl ?_
      refine ax_bipush (z := 60) cx dX6_energyNow_5 (by decide) ?_
      obtain ⟨g1, h⟩ := gd_some h
      refine ax_icmp_ge cx 49 dX6_energyNow_7 (by decide) g1 ⟨by decide, by decide⟩ (fun c2 => ?_) (fun c2 => ?_)
      · rw [if_pos c2] at h
        refine ax_lv cx [1] rfl ?_
        cases h
        exact hJ
      · rw [if_neg c2] at h
        refine ax_iload_n cx 1 dX6_energyNow_10 rfl rfl ?_
        refine ax_aload_n cx 0 dX6_energyNow_11 rfl rfl ?_
        refine ax_getf (q := 14) (ci := 6) (k := 6) (v := .ref (ad 4)) cx ⟨by decide, by decide⟩ rfl rfl hi_X6_energyNow_X6 (by decide) hl_X6_energyNow_22 rfl rfl dX6_energyNow_12 ?_
        refine ax_iload_n cx 2 dX6_energyNow_15 rfl rfl ?_
        obtain ⟨t3, e4, h⟩ := ob h
        refine ax_callS (As := [iV (x2)]) (n := 1) cx (kX6_first l ad M x2 _ e4) gX6_energyNow_X6_first rfl ⟨rfl, rfl⟩ (by decide +kernel) rfl ⟨by decide, by decide⟩ rfl (Nat.le_of_ble_eq_true rfl) dX6_energyNow_16 ?_
        obtain ⟨g5, h⟩ := gd_some h
        refine ax_iald (n := 36) cx (by decide) rfl rfl g5 dX6_energyNow_19 ?_
        refine ax_aload_n cx 0 dX6_energyNow_20 rfl rfl ?_
        refine ax_getf (q := 14) (ci := 6) (k := 6) (v := .ref (ad 4)) cx ⟨by decide, by decide⟩ rfl rfl hi_X6_energyNow_X6 (by decide) hl_X6_energyNow_22 rfl rfl dX6_energyNow_21 ?_
        refine ax_iload_n cx 2 dX6_energyNow_24 rfl rfl ?_
        obtain ⟨t6, e7, h⟩ := ob h
        refine ax_callS (As := [iV (x2)]) (n := 1) cx (kX6_second l ad M x2 _ e7) gX6_energyNow_X6_second rfl ⟨rfl, rfl⟩ (by decide +kernel) rfl ⟨by decide, by decide⟩ rfl (Nat.le_of_ble_eq_true rfl) dX6_energyNow_25 ?_
        obtain ⟨g8, h⟩ := gd_some h
        refine ax_iald (n := 36) cx (by decide) rfl rfl g8 dX6_energyNow_28 ?_
        obtain ⟨g9, h⟩ := gd_some h
        obtain ⟨g10, h⟩ := gd_some h
        obtain ⟨t14, e16, h⟩ := ob h
        have J15 : G M 41 [(0, .ref (ad 14)), (2, iV (x2))] [iV (t14), iV (x1)] := by
          refine ax_iadd cx dX6_energyNow_41 ?_
          refine ax_istore_n (lv' := [(1, iV (x1 + t14)), (0, .ref (ad 14)), (2, iV (x2))]) cx dX6_energyNow_42 rfl (by decide) rfl ?_
          refine ax_iinc (lv' := [(2, iV (x2 + 1)), (1, iV (x1 + t14)), (0, .ref (ad 14))]) cx 2 dX6_energyNow_43 rfl (by decide) rfl ?_
          refine ax_goto cx 4 dX6_energyNow_46 (by decide) ?_
          refine ax_lv cx [2, 1, 0] rfl ?_
          exact ih _ _ _ h hJ
        clear h
        have h := e16
        clear e16
        refine ax_icmp_eq cx 40 dX6_energyNow_29 (by decide) g9 g10 (fun c11 => ?_) (fun c11 => ?_)
        · rw [if_pos c11] at h
          refine ax_iconst cx dX6_energyNow_40 ?_
          refine ax_lv cx [0, 2] rfl ?_
          cases h
          exact J15
        · rw [if_neg c11] at h
          refine ax_aload_n cx 0 dX6_energyNow_32 rfl rfl ?_
          refine ax_iload_n cx 2 dX6_energyNow_33 rfl rfl ?_
          obtain ⟨t12, e13, h⟩ := ob h
          refine ax_callV (As := [iV (x2)]) (q := 14) (ci := 6) (n := 1) cx (kX6_costOfEdge l ad M x2 _ e13) gX6_energyNow_X6_costOfEdge rfl ⟨by decide, by decide⟩ rfl rfl ⟨rfl, rfl⟩ (by decide +kernel) rfl ⟨by decide, by decide⟩ rfl (Nat.le_of_ble_eq_true rfl) dX6_energyNow_34 ?_
          refine ax_goto cx 41 dX6_energyNow_37 (by decide) ?_
          refine ax_lv cx [0, 2] rfl ?_
          cases h
          exact J15
  unfold fX6_energyNow at h
  refine ax_iconst cx dX6_energyNow_0 ?_
  refine ax_istore_n (lv' := [(1, iV (0)), (0, .ref (ad 14))]) cx dX6_energyNow_1 rfl (by decide) rfl ?_
  refine ax_iconst cx dX6_energyNow_2 ?_
  refine ax_istore_n (lv' := [(2, iV (0)), (1, iV (0)), (0, .ref (ad 14))]) cx dX6_energyNow_3 rfl (by decide) rfl ?_
  obtain ⟨t18, e19, h⟩ := ob h
  refine ax_lv cx [2, 1, 0] rfl ?_
  have J20 : G M 49 [(1, iV (t18))] [] := by
    refine ax_iload_n cx 0 dX6_energyNow_49 rfl rfl ?_
    cases h
    exact ax_iret cx dX6_energyNow_50 rfl ⟨rfl, rfl⟩
  exact L4 FU 0 0 _ e19 J20
def fX6_cost (M : Mem) (x1 : Int) (x2 : Int) : Option (Int × Mem) :=
    Option.bind (fX6_in M x1 0 1) (fun t1 =>
    gd (inR (t1)) (
    Option.bind (if t1 = 0 then (
      some (1))
    else (
      Option.bind (fX6_in M x2 1 9) (fun t5 =>
      gd (inR (t5)) (
      if t5 = 0 then (
        some (1))
      else (
        some (0)))))) (fun t9 =>
    Option.bind (fX6_refused M t9) (fun t12 =>
    gd (inR (t12.1)) (
    if t12.1 = 0 then (
      gd (inB (x1) 2) (
      Option.bind (fX6_energyNow t12.2) (fun t17 =>
      gd (inB (x1) 2) (
      Option.bind (fX6_energyNow (wr t12.2 0 x1.toNat x2)) (fun t20 =>
      some (t12.2 0 x1.toNat, (wr (wr t12.2 0 x1.toNat x2) 102 0 (((wr t12.2 0 x1.toNat x2) 102 0) + (t20 - t17)))))))))
    else (
      some (0, t12.2)))))))
abbrev rmX6_cost : Room := { frames := 3, cells := 0, slots := 0, locals := 62 }
theorem hl_X6_cost_7 : Cond.fieldLink RX6 7 "PlateauBenchModel" "prices" "[I" ∈ wsX6_cost := by decide +kernel
theorem hl_X6_cost_76 : Cond.fieldLink RX6 76 "PlateauBenchModel" "work" "I" ∈ wsX6_cost := by decide +kernel
theorem hi_X6_cost_X6 : ∀ x ∈ u_ws RX6 TX6 19, x ∈ wsX6_cost := by decide +kernel
set_option maxRecDepth 100000 in
set_option maxHeartbeats 4000000 in
theorem kX6_cost (l : Launch) (ad : Nat → Nat) (M : Mem) (x1 : Int) (x2 : Int) (T : Int × Mem) (h : fX6_cost M x1 x2 = some T) : MX l yX6_cost wsX6_cost rmX6_cost wM ad [.ref (ad 14), iV (x1), iV (x2)] M (some (iV (T.1))) T.2 := by
  refine MX.of (cc := cX6_cost) (nL := 5) (rt := (some .int)) (own := RX6) (by decide +kernel) rfl rfl (Nat.le_of_ble_eq_true rfl) wM_ok (fun G cx => ?_)
  show G M 0 [(0, .ref (ad 14)), (1, iV (x1)), (2, iV (x2))] []
  unfold fX6_cost at h
  refine ax_aload_n cx 0 dX6_cost_0 rfl rfl ?_
  refine ax_iload_n cx 1 dX6_cost_1 rfl rfl ?_
  refine ax_iconst cx dX6_cost_2 ?_
  refine ax_iconst cx dX6_cost_3 ?_
  obtain ⟨t1, e2, h⟩ := ob h
  refine ax_callS (As := [iV (x1), iV (0), iV (1)]) (n := 3) cx (kX6_in l ad M x1 0 1 _ e2) gX6_cost_X6_in rfl ⟨rfl, rfl⟩ (by decide +kernel) rfl ⟨by decide, by decide⟩ rfl (Nat.le_of_ble_eq_true rfl) dX6_cost_4 ?_
  obtain ⟨g3, h⟩ := gd_some h
  obtain ⟨t9, e11, h⟩ := ob h
  have J10 : G M 25 [(0, .ref (ad 14)), (1, iV (x1)), (2, iV (x2))] [iV (t9), .ref (ad 14)] := by
    obtain ⟨t12, e13, h⟩ := ob h
    refine ax_callV (As := [iV (t9)]) (q := 14) (ci := 6) (n := 1) cx (kX6_refused l ad M t9 _ e13) gX6_cost_X6_refused rfl ⟨by decide, by decide⟩ rfl rfl ⟨rfl, rfl⟩ (by decide +kernel) rfl ⟨by decide, by decide⟩ rfl (Nat.le_of_ble_eq_true rfl) dX6_cost_25 ?_
    obtain ⟨g14, h⟩ := gd_some h
    refine ax_if_eq cx 33 dX6_cost_28 (by decide) g14 (fun c15 => ?_) (fun c15 => ?_)
    · rw [if_pos c15] at h
      refine ax_aload_n cx 0 dX6_cost_33 rfl rfl ?_
      refine ax_getf (q := 14) (ci := 6) (k := 1) (v := .ref (ad 0)) cx ⟨by decide, by decide⟩ rfl rfl hi_X6_cost_X6 (by decide) hl_X6_cost_7 rfl rfl dX6_cost_34 ?_
      refine ax_iload_n cx 1 dX6_cost_37 rfl rfl ?_
      obtain ⟨g16, h⟩ := gd_some h
      refine ax_iald (n := 2) cx (by decide) rfl rfl g16 dX6_cost_38 ?_
      refine ax_istore_n (lv' := [(3, iV (t12.2 0 x1.toNat)), (0, .ref (ad 14)), (1, iV (x1)), (2, iV (x2))]) cx dX6_cost_39 rfl (by decide) rfl ?_
      refine ax_aload_n cx 1 dX6_cost_40 rfl rfl ?_
      obtain ⟨t17, e18, h⟩ := ob h
      refine ax_callV (As := []) (q := 14) (ci := 6) (n := 0) cx (kX6_energyNow l ad t12.2  _ e18) gX6_cost_X6_energyNow rfl ⟨by decide, by decide⟩ rfl rfl ⟨rfl, rfl⟩ (by decide +kernel) rfl ⟨by decide, by decide⟩ rfl (Nat.le_of_ble_eq_true rfl) dX6_cost_41 ?_
      refine ax_istore (lv' := [(4, iV (t17)), (3, iV (t12.2 0 x1.toNat)), (0, .ref (ad 14)), (1, iV (x1)), (2, iV (x2))]) cx dX6_cost_44 (by decide) rfl ?_
      refine ax_aload_n cx 2 dX6_cost_46 rfl rfl ?_
      refine ax_getf (q := 14) (ci := 6) (k := 1) (v := .ref (ad 0)) cx ⟨by decide, by decide⟩ rfl rfl hi_X6_cost_X6 (by decide) hl_X6_cost_7 rfl rfl dX6_cost_47 ?_
      refine ax_iload_n cx 3 dX6_cost_50 rfl rfl ?_
      refine ax_iload_n cx 4 dX6_cost_51 rfl rfl ?_
      obtain ⟨g19, h⟩ := gd_some h
      refine ax_iast (n := 2) cx (by decide) rfl rfl g19 dX6_cost_52 ?_
      refine ax_aload_n cx 2 dX6_cost_53 rfl rfl ?_
      refine ax_dup cx dX6_cost_54 rfl ?_
      refine ax_getf (q := 14) (ci := 6) (k := 8) (v := iV ((wr t12.2 0 x1.toNat x2) 102 0)) cx ⟨by decide, by decide⟩ rfl rfl hi_X6_cost_X6 (by decide) hl_X6_cost_76 rfl rfl dX6_cost_55 ?_
      refine ax_aload_n cx 2 dX6_cost_58 rfl rfl ?_
      obtain ⟨t20, e21, h⟩ := ob h
      refine ax_callV (As := []) (q := 14) (ci := 6) (n := 0) cx (kX6_energyNow l ad (wr t12.2 0 x1.toNat x2)  _ e21) gX6_cost_X6_energyNow rfl ⟨by decide, by decide⟩ rfl rfl ⟨rfl, rfl⟩ (by decide +kernel) rfl ⟨by decide, by decide⟩ rfl (Nat.le_of_ble_eq_true rfl) dX6_cost_59 ?_
      refine ax_iload cx 0 dX6_cost_62 rfl ?_
      refine ax_isub cx dX6_cost_64 ?_
      refine ax_iadd cx dX6_cost_65 ?_
      refine ax_putf (q := 14) (ci := 6) (k := 8) (f := 102) (ty := .int) cx ⟨by decide, by decide⟩ rfl rfl hi_X6_cost_X6 tyX6 tyX6_ok nmX6 (by decide) hl_X6_cost_76 rfl (by decide +kernel) (by decide +kernel) rfl rfl (Nat.le_of_ble_eq_true rfl) (by decide) rfl (putM_102 ad _ _) dX6_cost_66 ?_
      refine ax_iload_n cx 1 dX6_cost_69 rfl rfl ?_
      cases h
      exact ax_iret cx dX6_cost_70 rfl ⟨rfl, rfl⟩
    · rw [if_neg c15] at h
      refine ax_iconst cx dX6_cost_31 ?_
      cases h
      exact ax_iret cx dX6_cost_32 rfl ⟨rfl, rfl⟩
  clear h
  have h := e11
  clear e11
  refine ax_if_eq cx 24 dX6_cost_7 (by decide) g3 (fun c4 => ?_) (fun c4 => ?_)
  · rw [if_pos c4] at h
    refine ax_iconst cx dX6_cost_24 ?_
    cases h
    exact J10
  · rw [if_neg c4] at h
    refine ax_iload_n cx 2 dX6_cost_10 rfl rfl ?_
    refine ax_iconst cx dX6_cost_11 ?_
    refine ax_bipush (z := 9) cx dX6_cost_12 (by decide) ?_
    obtain ⟨t5, e6, h⟩ := ob h
    refine ax_callS (As := [iV (x2), iV (1), iV (9)]) (n := 3) cx (kX6_in l ad M x2 1 9 _ e6) gX6_cost_X6_in rfl ⟨rfl, rfl⟩ (by decide +kernel) rfl ⟨by decide, by decide⟩ rfl (Nat.le_of_ble_eq_true rfl) dX6_cost_14 ?_
    obtain ⟨g7, h⟩ := gd_some h
    refine ax_if_eq cx 24 dX6_cost_17 (by decide) g7 (fun c8 => ?_) (fun c8 => ?_)
    · rw [if_pos c8] at h
      refine ax_iconst cx dX6_cost_24 ?_
      cases h
      exact J10
    · rw [if_neg c8] at h
      refine ax_iconst cx dX6_cost_20 ?_
      refine ax_goto cx 25 dX6_cost_21 (by decide) ?_
      cases h
      exact J10
def fX6_lay (M : Mem) (x1 : Int) (x2 : Int) : Option (Int × Mem) :=
    Option.bind (fX6_isEdge M x1) (fun t1 =>
    gd (inR (t1)) (
    Option.bind (if t1 = 0 then (
      some (1))
    else (
      Option.bind (fX6_in M x2 0 50) (fun t5 =>
      gd (inR (t5)) (
      if t5 = 0 then (
        some (2))
      else (
        some (0)))))) (fun t9 =>
    Option.bind (fX6_refused M t9) (fun t12 =>
    gd (inR (t12.1)) (
    if t12.1 = 0 then (
      gd (inB (x1) 60) (
      Option.bind (fX6_energyNow t12.2) (fun t17 =>
      gd (inB (x1) 60) (
      Option.bind (fX6_energyNow (wr t12.2 1 x1.toNat x2)) (fun t20 =>
      some (t12.2 1 x1.toNat, (wr (wr t12.2 1 x1.toNat x2) 102 0 (((wr t12.2 1 x1.toNat x2) 102 0) + (t20 - t17)))))))))
    else (
      some (0, t12.2)))))))
abbrev rmX6_lay : Room := { frames := 3, cells := 0, slots := 0, locals := 62 }
theorem hl_X6_lay_13 : Cond.fieldLink RX6 13 "PlateauBenchModel" "laid" "[I" ∈ wsX6_lay := by decide +kernel
theorem hl_X6_lay_76 : Cond.fieldLink RX6 76 "PlateauBenchModel" "work" "I" ∈ wsX6_lay := by decide +kernel
theorem hi_X6_lay_X6 : ∀ x ∈ u_ws RX6 TX6 19, x ∈ wsX6_lay := by decide +kernel
set_option maxRecDepth 100000 in
set_option maxHeartbeats 4000000 in
theorem kX6_lay (l : Launch) (ad : Nat → Nat) (M : Mem) (x1 : Int) (x2 : Int) (T : Int × Mem) (h : fX6_lay M x1 x2 = some T) : MX l yX6_lay wsX6_lay rmX6_lay wM ad [.ref (ad 14), iV (x1), iV (x2)] M (some (iV (T.1))) T.2 := by
  refine MX.of (cc := cX6_lay) (nL := 5) (rt := (some .int)) (own := RX6) (by decide +kernel) rfl rfl (Nat.le_of_ble_eq_true rfl) wM_ok (fun G cx => ?_)
  show G M 0 [(0, .ref (ad 14)), (1, iV (x1)), (2, iV (x2))] []
  unfold fX6_lay at h
  refine ax_aload_n cx 0 dX6_lay_0 rfl rfl ?_
  refine ax_iload_n cx 1 dX6_lay_1 rfl rfl ?_
  obtain ⟨t1, e2, h⟩ := ob h
  refine ax_callS (As := [iV (x1)]) (n := 1) cx (kX6_isEdge l ad M x1 _ e2) gX6_lay_X6_isEdge rfl ⟨rfl, rfl⟩ (by decide +kernel) rfl ⟨by decide, by decide⟩ rfl (Nat.le_of_ble_eq_true rfl) dX6_lay_2 ?_
  obtain ⟨g3, h⟩ := gd_some h
  obtain ⟨t9, e11, h⟩ := ob h
  have J10 : G M 27 [(0, .ref (ad 14)), (1, iV (x1)), (2, iV (x2))] [iV (t9), .ref (ad 14)] := by
    obtain ⟨t12, e13, h⟩ := ob h
    refine ax_callV (As := [iV (t9)]) (q := 14) (ci := 6) (n := 1) cx (kX6_refused l ad M t9 _ e13) gX6_lay_X6_refused rfl ⟨by decide, by decide⟩ rfl rfl ⟨rfl, rfl⟩ (by decide +kernel) rfl ⟨by decide, by decide⟩ rfl (Nat.le_of_ble_eq_true rfl) dX6_lay_27 ?_
    obtain ⟨g14, h⟩ := gd_some h
    refine ax_if_eq cx 35 dX6_lay_30 (by decide) g14 (fun c15 => ?_) (fun c15 => ?_)
    · rw [if_pos c15] at h
      refine ax_aload_n cx 0 dX6_lay_35 rfl rfl ?_
      refine ax_getf (q := 14) (ci := 6) (k := 2) (v := .ref (ad 1)) cx ⟨by decide, by decide⟩ rfl rfl hi_X6_lay_X6 (by decide) hl_X6_lay_13 rfl rfl dX6_lay_36 ?_
      refine ax_iload_n cx 1 dX6_lay_39 rfl rfl ?_
      obtain ⟨g16, h⟩ := gd_some h
      refine ax_iald (n := 60) cx (by decide) rfl rfl g16 dX6_lay_40 ?_
      refine ax_istore_n (lv' := [(3, iV (t12.2 1 x1.toNat)), (0, .ref (ad 14)), (1, iV (x1)), (2, iV (x2))]) cx dX6_lay_41 rfl (by decide) rfl ?_
      refine ax_aload_n cx 1 dX6_lay_42 rfl rfl ?_
      obtain ⟨t17, e18, h⟩ := ob h
      refine ax_callV (As := []) (q := 14) (ci := 6) (n := 0) cx (kX6_energyNow l ad t12.2  _ e18) gX6_lay_X6_energyNow rfl ⟨by decide, by decide⟩ rfl rfl ⟨rfl, rfl⟩ (by decide +kernel) rfl ⟨by decide, by decide⟩ rfl (Nat.le_of_ble_eq_true rfl) dX6_lay_43 ?_
      refine ax_istore (lv' := [(4, iV (t17)), (3, iV (t12.2 1 x1.toNat)), (0, .ref (ad 14)), (1, iV (x1)), (2, iV (x2))]) cx dX6_lay_46 (by decide) rfl ?_
      refine ax_aload_n cx 2 dX6_lay_48 rfl rfl ?_
      refine ax_getf (q := 14) (ci := 6) (k := 2) (v := .ref (ad 1)) cx ⟨by decide, by decide⟩ rfl rfl hi_X6_lay_X6 (by decide) hl_X6_lay_13 rfl rfl dX6_lay_49 ?_
      refine ax_iload_n cx 3 dX6_lay_52 rfl rfl ?_
      refine ax_iload_n cx 4 dX6_lay_53 rfl rfl ?_
      obtain ⟨g19, h⟩ := gd_some h
      refine ax_iast (n := 60) cx (by decide) rfl rfl g19 dX6_lay_54 ?_
      refine ax_aload_n cx 2 dX6_lay_55 rfl rfl ?_
      refine ax_dup cx dX6_lay_56 rfl ?_
      refine ax_getf (q := 14) (ci := 6) (k := 8) (v := iV ((wr t12.2 1 x1.toNat x2) 102 0)) cx ⟨by decide, by decide⟩ rfl rfl hi_X6_lay_X6 (by decide) hl_X6_lay_76 rfl rfl dX6_lay_57 ?_
      refine ax_aload_n cx 2 dX6_lay_60 rfl rfl ?_
      obtain ⟨t20, e21, h⟩ := ob h
      refine ax_callV (As := []) (q := 14) (ci := 6) (n := 0) cx (kX6_energyNow l ad (wr t12.2 1 x1.toNat x2)  _ e21) gX6_lay_X6_energyNow rfl ⟨by decide, by decide⟩ rfl rfl ⟨rfl, rfl⟩ (by decide +kernel) rfl ⟨by decide, by decide⟩ rfl (Nat.le_of_ble_eq_true rfl) dX6_lay_61 ?_
      refine ax_iload cx 0 dX6_lay_64 rfl ?_
      refine ax_isub cx dX6_lay_66 ?_
      refine ax_iadd cx dX6_lay_67 ?_
      refine ax_putf (q := 14) (ci := 6) (k := 8) (f := 102) (ty := .int) cx ⟨by decide, by decide⟩ rfl rfl hi_X6_lay_X6 tyX6 tyX6_ok nmX6 (by decide) hl_X6_lay_76 rfl (by decide +kernel) (by decide +kernel) rfl rfl (Nat.le_of_ble_eq_true rfl) (by decide) rfl (putM_102 ad _ _) dX6_lay_68 ?_
      refine ax_iload_n cx 1 dX6_lay_71 rfl rfl ?_
      cases h
      exact ax_iret cx dX6_lay_72 rfl ⟨rfl, rfl⟩
    · rw [if_neg c15] at h
      refine ax_iconst cx dX6_lay_33 ?_
      cases h
      exact ax_iret cx dX6_lay_34 rfl ⟨rfl, rfl⟩
  clear h
  have h := e11
  clear e11
  refine ax_if_ne cx 12 dX6_lay_5 (by decide) g3 (fun c4 => ?_) (fun c4 => ?_)
  · rw [if_pos c4] at h
    refine ax_iconst cx dX6_lay_8 ?_
    refine ax_goto cx 27 dX6_lay_9 (by decide) ?_
    cases h
    exact J10
  · rw [if_neg c4] at h
    refine ax_iload_n cx 2 dX6_lay_12 rfl rfl ?_
    refine ax_iconst cx dX6_lay_13 ?_
    refine ax_bipush (z := 50) cx dX6_lay_14 (by decide) ?_
    obtain ⟨t5, e6, h⟩ := ob h
    refine ax_callS (As := [iV (x2), iV (0), iV (50)]) (n := 3) cx (kX6_in l ad M x2 0 50 _ e6) gX6_lay_X6_in rfl ⟨rfl, rfl⟩ (by decide +kernel) rfl ⟨by decide, by decide⟩ rfl (Nat.le_of_ble_eq_true rfl) dX6_lay_16 ?_
    obtain ⟨g7, h⟩ := gd_some h
    refine ax_if_eq cx 26 dX6_lay_19 (by decide) g7 (fun c8 => ?_) (fun c8 => ?_)
    · rw [if_pos c8] at h
      refine ax_iconst cx dX6_lay_26 ?_
      cases h
      exact J10
    · rw [if_neg c8] at h
      refine ax_iconst cx dX6_lay_22 ?_
      refine ax_goto cx 27 dX6_lay_23 (by decide) ?_
      cases h
      exact J10
def fX6_edge (M : Mem) (x1 : Int) : Option (Int × Mem) :=
    Option.bind (fX6_isEdge M x1) (fun t1 =>
    gd (inR (t1)) (
    Option.bind (if t1 = 0 then (
      some (1))
    else (
      some (0))) (fun t5 =>
    Option.bind (fX6_refused M t5) (fun t8 =>
    gd (inR (t8.1)) (
    Option.bind (if t8.1 = 0 then (
      Option.bind (fX6_costOfEdge t8.2 x1) (fun t12 =>
      some (t12)))
    else (
      some (0))) (fun t14 =>
    some (t14, t8.2)))))))
abbrev rmX6_edge : Room := { frames := 2, cells := 0, slots := 0, locals := 42 }
set_option maxRecDepth 100000 in
set_option maxHeartbeats 4000000 in
theorem kX6_edge (l : Launch) (ad : Nat → Nat) (M : Mem) (x1 : Int) (T : Int × Mem) (h : fX6_edge M x1 = some T) : MX l yX6_edge wsX6_edge rmX6_edge wM ad [.ref (ad 14), iV (x1)] M (some (iV (T.1))) T.2 := by
  refine MX.of (cc := cX6_edge) (nL := 2) (rt := (some .int)) (own := RX6) (by decide +kernel) rfl rfl (Nat.le_of_ble_eq_true rfl) wM_ok (fun G cx => ?_)
  show G M 0 [(0, .ref (ad 14)), (1, iV (x1))] []
  unfold fX6_edge at h
  refine ax_aload_n cx 0 dX6_edge_0 rfl rfl ?_
  refine ax_iload_n cx 1 dX6_edge_1 rfl rfl ?_
  obtain ⟨t1, e2, h⟩ := ob h
  refine ax_callS (As := [iV (x1)]) (n := 1) cx (kX6_isEdge l ad M x1 _ e2) gX6_edge_X6_isEdge rfl ⟨rfl, rfl⟩ (by decide +kernel) rfl ⟨by decide, by decide⟩ rfl (Nat.le_of_ble_eq_true rfl) dX6_edge_2 ?_
  obtain ⟨g3, h⟩ := gd_some h
  obtain ⟨t5, e7, h⟩ := ob h
  have J6 : G M 13 [(0, .ref (ad 14)), (1, iV (x1))] [iV (t5), .ref (ad 14)] := by
    obtain ⟨t8, e9, h⟩ := ob h
    refine ax_callV (As := [iV (t5)]) (q := 14) (ci := 6) (n := 1) cx (kX6_refused l ad M t5 _ e9) gX6_edge_X6_refused rfl ⟨by decide, by decide⟩ rfl rfl ⟨rfl, rfl⟩ (by decide +kernel) rfl ⟨by decide, by decide⟩ rfl (Nat.le_of_ble_eq_true rfl) dX6_edge_13 ?_
    obtain ⟨g10, h⟩ := gd_some h
    obtain ⟨t14, e16, h⟩ := ob h
    have J15 : G t8.2 28 [] [iV (t14)] := by
      cases h
      exact ax_iret cx dX6_edge_28 rfl ⟨rfl, rfl⟩
    clear h
    have h := e16
    clear e16
    refine ax_if_eq cx 23 dX6_edge_16 (by decide) g10 (fun c11 => ?_) (fun c11 => ?_)
    · rw [if_pos c11] at h
      refine ax_aload_n cx 0 dX6_edge_23 rfl rfl ?_
      refine ax_iload_n cx 1 dX6_edge_24 rfl rfl ?_
      obtain ⟨t12, e13, h⟩ := ob h
      refine ax_callV (As := [iV (x1)]) (q := 14) (ci := 6) (n := 1) cx (kX6_costOfEdge l ad t8.2 x1 _ e13) gX6_edge_X6_costOfEdge rfl ⟨by decide, by decide⟩ rfl rfl ⟨rfl, rfl⟩ (by decide +kernel) rfl ⟨by decide, by decide⟩ rfl (Nat.le_of_ble_eq_true rfl) dX6_edge_25 ?_
      refine ax_lv cx [] rfl ?_
      cases h
      exact J15
    · rw [if_neg c11] at h
      refine ax_iconst cx dX6_edge_19 ?_
      refine ax_goto cx 28 dX6_edge_20 (by decide) ?_
      refine ax_lv cx [] rfl ?_
      cases h
      exact J15
  clear h
  have h := e7
  clear e7
  refine ax_if_eq cx 12 dX6_edge_5 (by decide) g3 (fun c4 => ?_) (fun c4 => ?_)
  · rw [if_pos c4] at h
    refine ax_iconst cx dX6_edge_12 ?_
    cases h
    exact J6
  · rw [if_neg c4] at h
    refine ax_iconst cx dX6_edge_8 ?_
    refine ax_goto cx 13 dX6_edge_9 (by decide) ?_
    cases h
    exact J6
def fX6_findFar_L2 : Nat → Mem → Int → Int → Option (Mem)
  | 0, _, _, _ => none
  | n + 1, M, x1, x2 =>
    gd (inR (x2)) (
    if 36 ≤ x2 then (
      some (M))
    else (
      gd (inR (x1)) (
      Option.bind (if x2 = x1 then (
        some (0))
      else (
        some (1000000000))) (fun t5 =>
      gd (inB (x2) 36) (
      fX6_findFar_L2 n (wr M 6 x2.toNat t5) x1 (x2 + 1))))))
def fX6_findFar_L41 : Nat → Mem → Int → Int → Option (Mem)
  | 0, _, _, _ => none
  | n + 1, M, x2, x3 =>
    gd (inR (x3)) (
    if 60 ≤ x3 then (
      some (M))
    else (
      Option.bind (fX6_first M x3) (fun t17 =>
      Option.bind (fX6_second M x3) (fun t19 =>
      gd (inB (t17) 36) (
      Option.bind (fX6_costOfEdge M x3) (fun t22 =>
      gd (inB (t19) 36) (
      gd (inR ((M 6 t17.toNat) + t22)) (
      gd (inR (M 6 t19.toNat)) (
      Option.bind (if M 6 t19.toNat ≤ (M 6 t17.toNat) + t22 then (
        gd (inB (t19) 36) (
        some (M 6 t19.toNat)))
      else (
        gd (inB (t17) 36) (
        Option.bind (fX6_costOfEdge M x3) (fun t30 =>
        some ((M 6 t17.toNat) + t30))))) (fun t32 =>
      gd (inB (t19) 36) (
      gd (inB (t19) 36) (
      Option.bind (fX6_costOfEdge (wr M 6 t19.toNat t32) x3) (fun t37 =>
      gd (inB (t17) 36) (
      gd (inR (((wr M 6 t19.toNat t32) 6 t19.toNat) + t37)) (
      gd (inR ((wr M 6 t19.toNat t32) 6 t17.toNat)) (
      Option.bind (if (wr M 6 t19.toNat t32) 6 t17.toNat ≤ ((wr M 6 t19.toNat t32) 6 t19.toNat) + t37 then (
        gd (inB (t17) 36) (
        some ((wr M 6 t19.toNat t32) 6 t17.toNat)))
      else (
        gd (inB (t19) 36) (
        Option.bind (fX6_costOfEdge (wr M 6 t19.toNat t32) x3) (fun t45 =>
        some (((wr M 6 t19.toNat t32) 6 t19.toNat) + t45))))) (fun t47 =>
      gd (inB (t17) 36) (
      fX6_findFar_L41 n (wr (wr M 6 t19.toNat t32) 6 t17.toNat t47) x2 (x3 + 1)))))))))))))))))))
def fX6_findFar_L33 : Nat → Mem → Int → Option (Mem)
  | 0, _, _ => none
  | n + 1, M, x2 =>
    gd (inR (x2)) (
    if 36 ≤ x2 then (
      some (M))
    else (
      Option.bind (fX6_findFar_L41 FU M x2 0) (fun t52 =>
      fX6_findFar_L33 n t52 (x2 + 1))))
def fX6_findFar (M : Mem) (x1 : Int) : Option (Mem) :=
    Option.bind (fX6_findFar_L2 FU M x1 0) (fun t10 =>
    Option.bind (fX6_findFar_L33 FU t10 0) (fun t56 =>
    some (t56)))
abbrev rmX6_findFar : Room := { frames := 2, cells := 0, slots := 0, locals := 40 }
theorem hl_X6_findFar_29 : Cond.fieldLink RX6 29 "PlateauBenchModel" "far" "[I" ∈ wsX6_findFar := by decide +kernel
theorem hw_X6_findFar_c85 : Cond.constant RX6 85 (1000000000) ∈ wsX6_findFar := by decide +kernel
theorem hi_X6_findFar_X6 : ∀ x ∈ u_ws RX6 TX6 19, x ∈ wsX6_findFar := by decide +kernel
set_option maxRecDepth 100000 in
set_option maxHeartbeats 4000000 in
theorem kX6_findFar (l : Launch) (ad : Nat → Nat) (M : Mem) (x1 : Int) (T : Mem) (h : fX6_findFar M x1 = some T) : MX l yX6_findFar wsX6_findFar rmX6_findFar wM ad [.ref (ad 14), iV (x1)] M none T := by
  refine MX.of (cc := cX6_findFar) (nL := 6) (rt := none) (own := RX6) (by decide +kernel) rfl rfl (Nat.le_of_ble_eq_true rfl) wM_ok (fun G cx => ?_)
  show G M 0 [(0, .ref (ad 14)), (1, iV (x1))] []
  have L2 : ∀ (n : Nat) (M : Mem) (x1 : Int) (x2 : Int) (T9 : Mem), fX6_findFar_L2 n M x1 x2 = some T9 → (G T9 31 [(0, .ref (ad 14))] []) → G M 2 [(0, .ref (ad 14)), (1, iV (x1)), (2, iV (x2))] [] := by
    intro n
    induction n with
    | zero =>
      intro M x1 x2 T9 h
      exact absurd h (by simp [fX6_findFar_L2])
    | succ n ih =>
      intro M x1 x2 T9 h hJ
      rw [fX6_findFar_L2] at h
      refine ax_iload_n cx 2 dX6_findFar_2 rfl rfl ?_
      refine ax_bipush (z := 36) cx dX6_findFar_3 (by decide) ?_
      obtain ⟨g1, h⟩ := gd_some h
      refine ax_icmp_ge cx 31 dX6_findFar_5 (by decide) g1 ⟨by decide, by decide⟩ (fun c2 => ?_) (fun c2 => ?_)
      · rw [if_pos c2] at h
        refine ax_lv cx [0] rfl ?_
        cases h
        exact hJ
      · rw [if_neg c2] at h
        refine ax_aload_n cx 0 dX6_findFar_8 rfl rfl ?_
        refine ax_getf (q := 14) (ci := 6) (k := 10) (v := .ref (ad 6)) cx ⟨by decide, by decide⟩ rfl rfl hi_X6_findFar_X6 (by decide) hl_X6_findFar_29 rfl rfl dX6_findFar_9 ?_
        refine ax_iload_n cx 2 dX6_findFar_12 rfl rfl ?_
        refine ax_iload_n cx 2 dX6_findFar_13 rfl rfl ?_
        refine ax_iload_n cx 1 dX6_findFar_14 rfl rfl ?_
        obtain ⟨g3, h⟩ := gd_some h
        obtain ⟨t5, e7, h⟩ := ob h
        have J6 : G M 24 [(0, .ref (ad 14)), (1, iV (x1)), (2, iV (x2))] [iV (t5), iV (x2), .ref (ad 6)] := by
          obtain ⟨g8, h⟩ := gd_some h
          refine ax_iast (n := 36) cx (by decide) rfl rfl g8 dX6_findFar_24 ?_
          refine ax_iinc (lv' := [(2, iV (x2 + 1)), (0, .ref (ad 14)), (1, iV (x1))]) cx 2 dX6_findFar_25 rfl (by decide) rfl ?_
          refine ax_goto cx 2 dX6_findFar_28 (by decide) ?_
          refine ax_lv cx [1, 2, 0] rfl ?_
          exact ih _ _ _ _ h hJ
        clear h
        have h := e7
        clear e7
        refine ax_icmp_ne cx 22 dX6_findFar_15 (by decide) g1 g3 (fun c4 => ?_) (fun c4 => ?_)
        · rw [if_pos c4] at h
          refine ax_iconst cx dX6_findFar_18 ?_
          refine ax_goto cx 24 dX6_findFar_19 (by decide) ?_
          cases h
          exact J6
        · rw [if_neg c4] at h
          refine ax_ldc (z := 1000000000) cx dX6_findFar_22 hw_X6_findFar_c85 (by decide) ?_
          cases h
          exact J6
  have L41 : ∀ (n : Nat) (M : Mem) (x2 : Int) (x3 : Int) (T51 : Mem), fX6_findFar_L41 n M x2 x3 = some T51 → (G T51 171 [(0, .ref (ad 14)), (2, iV (x2))] []) → G M 41 [(0, .ref (ad 14)), (2, iV (x2)), (3, iV (x3))] [] := by
    intro n
    induction n with
    | zero =>
      intro M x2 x3 T51 h
      exact absurd h (by simp [fX6_findFar_L41])
    | succ n ih =>
      intro M x2 x3 T51 h hJ
      rw [fX6_findFar_L41] at h
      refine ax_iload_n cx 2 dX6_findFar_41 rfl rfl ?_
      refine ax_bipush (z := 60) cx dX6_findFar_42 (by decide) ?_
      obtain ⟨g15, h⟩ := gd_some h
      refine ax_icmp_ge cx 171 dX6_findFar_44 (by decide) g15 ⟨by decide, by decide⟩ (fun c16 => ?_) (fun c16 => ?_)
      · rw [if_pos c16] at h
        refine ax_lv cx [0, 1] rfl ?_
        cases h
        exact hJ
      · rw [if_neg c16] at h
        refine ax_iload_n cx 2 dX6_findFar_47 rfl rfl ?_
        obtain ⟨t17, e18, h⟩ := ob h
        refine ax_callS (As := [iV (x3)]) (n := 1) cx (kX6_first l ad M x3 _ e18) gX6_findFar_X6_first rfl ⟨rfl, rfl⟩ (by decide +kernel) rfl ⟨by decide, by decide⟩ rfl (Nat.le_of_ble_eq_true rfl) dX6_findFar_48 ?_
        refine ax_istore (lv' := [(4, iV (t17)), (0, .ref (ad 14)), (2, iV (x2)), (3, iV (x3))]) cx dX6_findFar_51 (by decide) rfl ?_
        refine ax_iload_n cx 3 dX6_findFar_53 rfl rfl ?_
        obtain ⟨t19, e20, h⟩ := ob h
        refine ax_callS (As := [iV (x3)]) (n := 1) cx (kX6_second l ad M x3 _ e20) gX6_findFar_X6_second rfl ⟨rfl, rfl⟩ (by decide +kernel) rfl ⟨by decide, by decide⟩ rfl (Nat.le_of_ble_eq_true rfl) dX6_findFar_54 ?_
        refine ax_istore (lv' := [(5, iV (t19)), (4, iV (t17)), (0, .ref (ad 14)), (2, iV (x2)), (3, iV (x3))]) cx dX6_findFar_57 (by decide) rfl ?_
        refine ax_aload_n cx 2 dX6_findFar_59 rfl rfl ?_
        refine ax_getf (q := 14) (ci := 6) (k := 10) (v := .ref (ad 6)) cx ⟨by decide, by decide⟩ rfl rfl hi_X6_findFar_X6 (by decide) hl_X6_findFar_29 rfl rfl dX6_findFar_60 ?_
        refine ax_iload cx 0 dX6_findFar_63 rfl ?_
        refine ax_aload_n cx 2 dX6_findFar_65 rfl rfl ?_
        refine ax_getf (q := 14) (ci := 6) (k := 10) (v := .ref (ad 6)) cx ⟨by decide, by decide⟩ rfl rfl hi_X6_findFar_X6 (by decide) hl_X6_findFar_29 rfl rfl dX6_findFar_66 ?_
        refine ax_iload cx 1 dX6_findFar_69 rfl ?_
        obtain ⟨g21, h⟩ := gd_some h
        refine ax_iald (n := 36) cx (by decide) rfl rfl g21 dX6_findFar_71 ?_
        refine ax_aload_n cx 2 dX6_findFar_72 rfl rfl ?_
        refine ax_iload_n cx 4 dX6_findFar_73 rfl rfl ?_
        obtain ⟨t22, e23, h⟩ := ob h
        refine ax_callV (As := [iV (x3)]) (q := 14) (ci := 6) (n := 1) cx (kX6_costOfEdge l ad M x3 _ e23) gX6_findFar_X6_costOfEdge rfl ⟨by decide, by decide⟩ rfl rfl ⟨rfl, rfl⟩ (by decide +kernel) rfl ⟨by decide, by decide⟩ rfl (Nat.le_of_ble_eq_true rfl) dX6_findFar_74 ?_
        refine ax_iadd cx dX6_findFar_77 ?_
        refine ax_aload_n cx 2 dX6_findFar_78 rfl rfl ?_
        refine ax_getf (q := 14) (ci := 6) (k := 10) (v := .ref (ad 6)) cx ⟨by decide, by decide⟩ rfl rfl hi_X6_findFar_X6 (by decide) hl_X6_findFar_29 rfl rfl dX6_findFar_79 ?_
        refine ax_iload cx 0 dX6_findFar_82 rfl ?_
        obtain ⟨g24, h⟩ := gd_some h
        refine ax_iald (n := 36) cx (by decide) rfl rfl g24 dX6_findFar_84 ?_
        obtain ⟨g25, h⟩ := gd_some h
        obtain ⟨g26, h⟩ := gd_some h
        obtain ⟨t32, e34, h⟩ := ob h
        have J33 : G M 111 [(0, .ref (ad 14)), (2, iV (x2)), (3, iV (x3)), (4, iV (t17)), (5, iV (t19))] [iV (t32), iV (t19), .ref (ad 6)] := by
          obtain ⟨g35, h⟩ := gd_some h
          refine ax_iast (n := 36) cx (by decide) rfl rfl g35 dX6_findFar_111 ?_
          refine ax_aload_n cx 0 dX6_findFar_112 rfl rfl ?_
          refine ax_getf (q := 14) (ci := 6) (k := 10) (v := .ref (ad 6)) cx ⟨by decide, by decide⟩ rfl rfl hi_X6_findFar_X6 (by decide) hl_X6_findFar_29 rfl rfl dX6_findFar_113 ?_
          refine ax_iload cx 3 dX6_findFar_116 rfl ?_
          refine ax_aload_n cx 0 dX6_findFar_118 rfl rfl ?_
          refine ax_getf (q := 14) (ci := 6) (k := 10) (v := .ref (ad 6)) cx ⟨by decide, by decide⟩ rfl rfl hi_X6_findFar_X6 (by decide) hl_X6_findFar_29 rfl rfl dX6_findFar_119 ?_
          refine ax_iload cx 4 dX6_findFar_122 rfl ?_
          obtain ⟨g36, h⟩ := gd_some h
          refine ax_iald (n := 36) cx (by decide) rfl rfl g36 dX6_findFar_124 ?_
          refine ax_aload_n cx 0 dX6_findFar_125 rfl rfl ?_
          refine ax_iload_n cx 2 dX6_findFar_126 rfl rfl ?_
          obtain ⟨t37, e38, h⟩ := ob h
          refine ax_callV (As := [iV (x3)]) (q := 14) (ci := 6) (n := 1) cx (kX6_costOfEdge l ad (wr M 6 t19.toNat t32) x3 _ e38) gX6_findFar_X6_costOfEdge rfl ⟨by decide, by decide⟩ rfl rfl ⟨rfl, rfl⟩ (by decide +kernel) rfl ⟨by decide, by decide⟩ rfl (Nat.le_of_ble_eq_true rfl) dX6_findFar_127 ?_
          refine ax_iadd cx dX6_findFar_130 ?_
          refine ax_aload_n cx 0 dX6_findFar_131 rfl rfl ?_
          refine ax_getf (q := 14) (ci := 6) (k := 10) (v := .ref (ad 6)) cx ⟨by decide, by decide⟩ rfl rfl hi_X6_findFar_X6 (by decide) hl_X6_findFar_29 rfl rfl dX6_findFar_132 ?_
          refine ax_iload cx 3 dX6_findFar_135 rfl ?_
          obtain ⟨g39, h⟩ := gd_some h
          refine ax_iald (n := 36) cx (by decide) rfl rfl g39 dX6_findFar_137 ?_
          obtain ⟨g40, h⟩ := gd_some h
          obtain ⟨g41, h⟩ := gd_some h
          obtain ⟨t47, e49, h⟩ := ob h
          have J48 : G (wr M 6 t19.toNat t32) 164 [(0, .ref (ad 14)), (2, iV (x2)), (3, iV (x3))] [iV (t47), iV (t17), .ref (ad 6)] := by
            obtain ⟨g50, h⟩ := gd_some h
            refine ax_iast (n := 36) cx (by decide) rfl rfl g50 dX6_findFar_164 ?_
            refine ax_iinc (lv' := [(3, iV (x3 + 1)), (0, .ref (ad 14)), (2, iV (x2))]) cx 2 dX6_findFar_165 rfl (by decide) rfl ?_
            refine ax_goto cx 41 dX6_findFar_168 (by decide) ?_
            refine ax_lv cx [1, 2, 0] rfl ?_
            exact ih _ _ _ _ h hJ
          clear h
          have h := e49
          clear e49
          refine ax_icmp_ge cx 157 dX6_findFar_138 (by decide) g40 g41 (fun c42 => ?_) (fun c42 => ?_)
          · rw [if_pos c42] at h
            refine ax_aload_n cx 0 dX6_findFar_157 rfl rfl ?_
            refine ax_getf (q := 14) (ci := 6) (k := 10) (v := .ref (ad 6)) cx ⟨by decide, by decide⟩ rfl rfl hi_X6_findFar_X6 (by decide) hl_X6_findFar_29 rfl rfl dX6_findFar_158 ?_
            refine ax_iload cx 3 dX6_findFar_161 rfl ?_
            obtain ⟨g43, h⟩ := gd_some h
            refine ax_iald (n := 36) cx (by decide) rfl rfl g43 dX6_findFar_163 ?_
            refine ax_lv cx [0, 1, 2] rfl ?_
            cases h
            exact J48
          · rw [if_neg c42] at h
            refine ax_aload_n cx 0 dX6_findFar_141 rfl rfl ?_
            refine ax_getf (q := 14) (ci := 6) (k := 10) (v := .ref (ad 6)) cx ⟨by decide, by decide⟩ rfl rfl hi_X6_findFar_X6 (by decide) hl_X6_findFar_29 rfl rfl dX6_findFar_142 ?_
            refine ax_iload cx 4 dX6_findFar_145 rfl ?_
            obtain ⟨g44, h⟩ := gd_some h
            refine ax_iald (n := 36) cx (by decide) rfl rfl g44 dX6_findFar_147 ?_
            refine ax_aload_n cx 0 dX6_findFar_148 rfl rfl ?_
            refine ax_iload_n cx 2 dX6_findFar_149 rfl rfl ?_
            obtain ⟨t45, e46, h⟩ := ob h
            refine ax_callV (As := [iV (x3)]) (q := 14) (ci := 6) (n := 1) cx (kX6_costOfEdge l ad (wr M 6 t19.toNat t32) x3 _ e46) gX6_findFar_X6_costOfEdge rfl ⟨by decide, by decide⟩ rfl rfl ⟨rfl, rfl⟩ (by decide +kernel) rfl ⟨by decide, by decide⟩ rfl (Nat.le_of_ble_eq_true rfl) dX6_findFar_150 ?_
            refine ax_iadd cx dX6_findFar_153 ?_
            refine ax_goto cx 164 dX6_findFar_154 (by decide) ?_
            refine ax_lv cx [0, 1, 2] rfl ?_
            cases h
            exact J48
        clear h
        have h := e34
        clear e34
        refine ax_icmp_ge cx 104 dX6_findFar_85 (by decide) g25 g26 (fun c27 => ?_) (fun c27 => ?_)
        · rw [if_pos c27] at h
          refine ax_aload_n cx 2 dX6_findFar_104 rfl rfl ?_
          refine ax_getf (q := 14) (ci := 6) (k := 10) (v := .ref (ad 6)) cx ⟨by decide, by decide⟩ rfl rfl hi_X6_findFar_X6 (by decide) hl_X6_findFar_29 rfl rfl dX6_findFar_105 ?_
          refine ax_iload cx 0 dX6_findFar_108 rfl ?_
          obtain ⟨g28, h⟩ := gd_some h
          refine ax_iald (n := 36) cx (by decide) rfl rfl g28 dX6_findFar_110 ?_
          refine ax_lv cx [2, 3, 4, 1, 0] rfl ?_
          cases h
          exact J33
        · rw [if_neg c27] at h
          refine ax_aload_n cx 2 dX6_findFar_88 rfl rfl ?_
          refine ax_getf (q := 14) (ci := 6) (k := 10) (v := .ref (ad 6)) cx ⟨by decide, by decide⟩ rfl rfl hi_X6_findFar_X6 (by decide) hl_X6_findFar_29 rfl rfl dX6_findFar_89 ?_
          refine ax_iload cx 1 dX6_findFar_92 rfl ?_
          obtain ⟨g29, h⟩ := gd_some h
          refine ax_iald (n := 36) cx (by decide) rfl rfl g29 dX6_findFar_94 ?_
          refine ax_aload_n cx 2 dX6_findFar_95 rfl rfl ?_
          refine ax_iload_n cx 4 dX6_findFar_96 rfl rfl ?_
          obtain ⟨t30, e31, h⟩ := ob h
          refine ax_callV (As := [iV (x3)]) (q := 14) (ci := 6) (n := 1) cx (kX6_costOfEdge l ad M x3 _ e31) gX6_findFar_X6_costOfEdge rfl ⟨by decide, by decide⟩ rfl rfl ⟨rfl, rfl⟩ (by decide +kernel) rfl ⟨by decide, by decide⟩ rfl (Nat.le_of_ble_eq_true rfl) dX6_findFar_97 ?_
          refine ax_iadd cx dX6_findFar_100 ?_
          refine ax_goto cx 111 dX6_findFar_101 (by decide) ?_
          refine ax_lv cx [2, 3, 4, 1, 0] rfl ?_
          cases h
          exact J33
  have L33 : ∀ (n : Nat) (M : Mem) (x2 : Int) (T55 : Mem), fX6_findFar_L33 n M x2 = some T55 → (G T55 177 [] []) → G M 33 [(0, .ref (ad 14)), (2, iV (x2))] [] := by
    intro n
    induction n with
    | zero =>
      intro M x2 T55 h
      exact absurd h (by simp [fX6_findFar_L33])
    | succ n ih =>
      intro M x2 T55 h hJ
      rw [fX6_findFar_L33] at h
      refine ax_iload_n cx 1 dX6_findFar_33 rfl rfl ?_
      refine ax_bipush (z := 36) cx dX6_findFar_34 (by decide) ?_
      obtain ⟨g13, h⟩ := gd_some h
      refine ax_icmp_ge cx 177 dX6_findFar_36 (by decide) g13 ⟨by decide, by decide⟩ (fun c14 => ?_) (fun c14 => ?_)
      · rw [if_pos c14] at h
        refine ax_lv cx [] rfl ?_
        cases h
        exact hJ
      · rw [if_neg c14] at h
        refine ax_iconst cx dX6_findFar_39 ?_
        refine ax_istore_n (lv' := [(3, iV (0)), (0, .ref (ad 14)), (2, iV (x2))]) cx dX6_findFar_40 rfl (by decide) rfl ?_
        obtain ⟨t52, e53, h⟩ := ob h
        refine ax_lv cx [1, 2, 0] rfl ?_
        have J54 : G t52 171 [(0, .ref (ad 14)), (2, iV (x2))] [] := by
          refine ax_iinc (lv' := [(2, iV (x2 + 1)), (0, .ref (ad 14))]) cx 1 dX6_findFar_171 rfl (by decide) rfl ?_
          refine ax_goto cx 33 dX6_findFar_174 (by decide) ?_
          refine ax_lv cx [1, 0] rfl ?_
          exact ih _ _ _ h hJ
        exact L41 FU M x2 0 _ e53 J54
  unfold fX6_findFar at h
  refine ax_iconst cx dX6_findFar_0 ?_
  refine ax_istore_n (lv' := [(2, iV (0)), (0, .ref (ad 14)), (1, iV (x1))]) cx dX6_findFar_1 rfl (by decide) rfl ?_
  obtain ⟨t10, e11, h⟩ := ob h
  refine ax_lv cx [1, 2, 0] rfl ?_
  have J12 : G t10 31 [(0, .ref (ad 14))] [] := by
    refine ax_iconst cx dX6_findFar_31 ?_
    refine ax_istore_n (lv' := [(2, iV (0)), (0, .ref (ad 14))]) cx dX6_findFar_32 rfl (by decide) rfl ?_
    obtain ⟨t56, e57, h⟩ := ob h
    refine ax_lv cx [1, 0] rfl ?_
    have J58 : G t56 177 [] [] := by
      cases h
      exact ax_vret cx dX6_findFar_177 rfl ⟨rfl, rfl⟩
    exact L33 FU t10 0 _ e57 J58
  exact L2 FU M x1 0 _ e11 J12
def fX6_apartFrom (M : Mem) (x1 : Int) (x2 : Int) : Option (Int × Mem) :=
    Option.bind (fX6_findFar M x1) (fun t1 =>
    gd (inB (x2) 36) (
    some (t1 6 x2.toNat, t1)))
abbrev rmX6_apartFrom : Room := { frames := 3, cells := 0, slots := 0, locals := 65 }
theorem hl_X6_apartFrom_29 : Cond.fieldLink RX6 29 "PlateauBenchModel" "far" "[I" ∈ wsX6_apartFrom := by decide +kernel
theorem hi_X6_apartFrom_X6 : ∀ x ∈ u_ws RX6 TX6 19, x ∈ wsX6_apartFrom := by decide +kernel
set_option maxRecDepth 100000 in
set_option maxHeartbeats 4000000 in
theorem kX6_apartFrom (l : Launch) (ad : Nat → Nat) (M : Mem) (x1 : Int) (x2 : Int) (T : Int × Mem) (h : fX6_apartFrom M x1 x2 = some T) : MX l yX6_apartFrom wsX6_apartFrom rmX6_apartFrom wM ad [.ref (ad 14), iV (x1), iV (x2)] M (some (iV (T.1))) T.2 := by
  refine MX.of (cc := cX6_apartFrom) (nL := 3) (rt := (some .int)) (own := RX6) (by decide +kernel) rfl rfl (Nat.le_of_ble_eq_true rfl) wM_ok (fun G cx => ?_)
  show G M 0 [(0, .ref (ad 14)), (1, iV (x1)), (2, iV (x2))] []
  unfold fX6_apartFrom at h
  refine ax_aload_n cx 0 dX6_apartFrom_0 rfl rfl ?_
  refine ax_iload_n cx 1 dX6_apartFrom_1 rfl rfl ?_
  obtain ⟨t1, e2, h⟩ := ob h
  refine ax_callV (As := [iV (x1)]) (q := 14) (ci := 6) (n := 1) cx (kX6_findFar l ad M x1 _ e2) gX6_apartFrom_X6_findFar rfl ⟨by decide, by decide⟩ rfl rfl ⟨rfl, rfl⟩ (by decide +kernel) rfl ⟨by decide, by decide⟩ rfl (Nat.le_of_ble_eq_true rfl) dX6_apartFrom_2 ?_
  refine ax_aload_n cx 0 dX6_apartFrom_5 rfl rfl ?_
  refine ax_getf (q := 14) (ci := 6) (k := 10) (v := .ref (ad 6)) cx ⟨by decide, by decide⟩ rfl rfl hi_X6_apartFrom_X6 (by decide) hl_X6_apartFrom_29 rfl rfl dX6_apartFrom_6 ?_
  refine ax_iload_n cx 2 dX6_apartFrom_9 rfl rfl ?_
  obtain ⟨g3, h⟩ := gd_some h
  refine ax_iald (n := 36) cx (by decide) rfl rfl g3 dX6_apartFrom_10 ?_
  cases h
  exact ax_iret cx dX6_apartFrom_11 rfl ⟨rfl, rfl⟩
def fX6_apart (M : Mem) (x1 : Int) (x2 : Int) : Option (Int × Mem) :=
    Option.bind (fX6_isNode M x1) (fun t1 =>
    gd (inR (t1)) (
    Option.bind (if t1 = 0 then (
      some (1))
    else (
      Option.bind (fX6_isNode M x2) (fun t5 =>
      gd (inR (t5)) (
      if t5 = 0 then (
        some (1))
      else (
        some (0)))))) (fun t9 =>
    Option.bind (fX6_refused M t9) (fun t12 =>
    gd (inR (t12.1)) (
    Option.bind (if t12.1 = 0 then (
      Option.bind (fX6_apartFrom t12.2 x1 x2) (fun t16 =>
      some (t16.1, t16.2)))
    else (
      some (0, t12.2))) (fun t18 =>
    some (t18.1, t18.2)))))))
abbrev rmX6_apart : Room := { frames := 4, cells := 0, slots := 0, locals := 87 }
set_option maxRecDepth 100000 in
set_option maxHeartbeats 4000000 in
theorem kX6_apart (l : Launch) (ad : Nat → Nat) (M : Mem) (x1 : Int) (x2 : Int) (T : Int × Mem) (h : fX6_apart M x1 x2 = some T) : MX l yX6_apart wsX6_apart rmX6_apart wM ad [.ref (ad 14), iV (x1), iV (x2)] M (some (iV (T.1))) T.2 := by
  refine MX.of (cc := cX6_apart) (nL := 3) (rt := (some .int)) (own := RX6) (by decide +kernel) rfl rfl (Nat.le_of_ble_eq_true rfl) wM_ok (fun G cx => ?_)
  show G M 0 [(0, .ref (ad 14)), (1, iV (x1)), (2, iV (x2))] []
  unfold fX6_apart at h
  refine ax_aload_n cx 0 dX6_apart_0 rfl rfl ?_
  refine ax_iload_n cx 1 dX6_apart_1 rfl rfl ?_
  obtain ⟨t1, e2, h⟩ := ob h
  refine ax_callS (As := [iV (x1)]) (n := 1) cx (kX6_isNode l ad M x1 _ e2) gX6_apart_X6_isNode rfl ⟨rfl, rfl⟩ (by decide +kernel) rfl ⟨by decide, by decide⟩ rfl (Nat.le_of_ble_eq_true rfl) dX6_apart_2 ?_
  obtain ⟨g3, h⟩ := gd_some h
  obtain ⟨t9, e11, h⟩ := ob h
  have J10 : G M 20 [(0, .ref (ad 14)), (1, iV (x1)), (2, iV (x2))] [iV (t9), .ref (ad 14)] := by
    obtain ⟨t12, e13, h⟩ := ob h
    refine ax_callV (As := [iV (t9)]) (q := 14) (ci := 6) (n := 1) cx (kX6_refused l ad M t9 _ e13) gX6_apart_X6_refused rfl ⟨by decide, by decide⟩ rfl rfl ⟨rfl, rfl⟩ (by decide +kernel) rfl ⟨by decide, by decide⟩ rfl (Nat.le_of_ble_eq_true rfl) dX6_apart_20 ?_
    obtain ⟨g14, h⟩ := gd_some h
    obtain ⟨t18, e20, h⟩ := ob h
    have J19 : G t18.2 36 [] [iV (t18.1)] := by
      cases h
      exact ax_iret cx dX6_apart_36 rfl ⟨rfl, rfl⟩
    clear h
    have h := e20
    clear e20
    refine ax_if_eq cx 30 dX6_apart_23 (by decide) g14 (fun c15 => ?_) (fun c15 => ?_)
    · rw [if_pos c15] at h
      refine ax_aload_n cx 0 dX6_apart_30 rfl rfl ?_
      refine ax_iload_n cx 1 dX6_apart_31 rfl rfl ?_
      refine ax_iload_n cx 2 dX6_apart_32 rfl rfl ?_
      obtain ⟨t16, e17, h⟩ := ob h
      refine ax_callV (As := [iV (x1), iV (x2)]) (q := 14) (ci := 6) (n := 2) cx (kX6_apartFrom l ad t12.2 x1 x2 _ e17) gX6_apart_X6_apartFrom rfl ⟨by decide, by decide⟩ rfl rfl ⟨rfl, rfl⟩ (by decide +kernel) rfl ⟨by decide, by decide⟩ rfl (Nat.le_of_ble_eq_true rfl) dX6_apart_33 ?_
      refine ax_lv cx [] rfl ?_
      cases h
      exact J19
    · rw [if_neg c15] at h
      refine ax_iconst cx dX6_apart_26 ?_
      refine ax_goto cx 36 dX6_apart_27 (by decide) ?_
      refine ax_lv cx [] rfl ?_
      cases h
      exact J19
  clear h
  have h := e11
  clear e11
  refine ax_if_eq cx 19 dX6_apart_5 (by decide) g3 (fun c4 => ?_) (fun c4 => ?_)
  · rw [if_pos c4] at h
    refine ax_iconst cx dX6_apart_19 ?_
    cases h
    exact J10
  · rw [if_neg c4] at h
    refine ax_iload_n cx 2 dX6_apart_8 rfl rfl ?_
    obtain ⟨t5, e6, h⟩ := ob h
    refine ax_callS (As := [iV (x2)]) (n := 1) cx (kX6_isNode l ad M x2 _ e6) gX6_apart_X6_isNode rfl ⟨rfl, rfl⟩ (by decide +kernel) rfl ⟨by decide, by decide⟩ rfl (Nat.le_of_ble_eq_true rfl) dX6_apart_9 ?_
    obtain ⟨g7, h⟩ := gd_some h
    refine ax_if_eq cx 19 dX6_apart_12 (by decide) g7 (fun c8 => ?_) (fun c8 => ?_)
    · rw [if_pos c8] at h
      refine ax_iconst cx dX6_apart_19 ?_
      cases h
      exact J10
    · rw [if_neg c8] at h
      refine ax_iconst cx dX6_apart_15 ?_
      refine ax_goto cx 20 dX6_apart_16 (by decide) ?_
      cases h
      exact J10
def fX6_isTown_L4 : Nat → Mem → Int → Int → Int → Option (Int)
  | 0, _, _, _, _ => none
  | n + 1, M, x1, x2, x3 =>
    gd (inR (x3)) (
    gd (inR (M 101 0)) (
    if M 101 0 ≤ x3 then (
      some (x2))
    else (
      gd (inR (x2)) (
      Option.bind (if x2 = 0 then (
        gd (inB (x3) 6) (
        gd (inR (M 2 x3.toNat)) (
        gd (inR (x1)) (
        if M 2 x3.toNat = x1 then (
          some (1))
        else (
          some (0))))))
      else (
        some (1))) (fun t10 =>
      fX6_isTown_L4 n M x1 t10 (x3 + 1))))))
def fX6_isTown (M : Mem) (x1 : Int) : Option (Int) :=
    Option.bind (fX6_isTown_L4 FU M x1 0 0) (fun t14 =>
    gd (t14 = 0 ∨ t14 = 1) (
    some (t14)))
abbrev rmX6_isTown : Room := { frames := 0, cells := 0, slots := 0, locals := 0 }
theorem hl_X6_isTown_100 : Cond.fieldLink RX6 100 "PlateauBenchModel" "towns" "I" ∈ wsX6_isTown := by decide +kernel
theorem hl_X6_isTown_16 : Cond.fieldLink RX6 16 "PlateauBenchModel" "townNodes" "[I" ∈ wsX6_isTown := by decide +kernel
theorem hi_X6_isTown_X6 : ∀ x ∈ u_ws RX6 TX6 19, x ∈ wsX6_isTown := by decide +kernel
set_option maxRecDepth 100000 in
set_option maxHeartbeats 4000000 in
theorem kX6_isTown (l : Launch) (ad : Nat → Nat) (M : Mem) (x1 : Int) (T : Int) (h : fX6_isTown M x1 = some T) : MX l yX6_isTown wsX6_isTown rmX6_isTown wM ad [.ref (ad 14), iV (x1)] M (some (iV (T))) M := by
  refine MX.of (cc := cX6_isTown) (nL := 4) (rt := (some .boolean)) (own := RX6) (by decide +kernel) rfl rfl (Nat.le_of_ble_eq_true rfl) wM_ok (fun G cx => ?_)
  show G M 0 [(0, .ref (ad 14)), (1, iV (x1))] []
  have L4 : ∀ (n : Nat) (x1 : Int) (x2 : Int) (x3 : Int) (T13 : Int), fX6_isTown_L4 n M x1 x2 x3 = some T13 → (G M 38 [(2, iV (T13))] []) → G M 4 [(0, .ref (ad 14)), (1, iV (x1)), (2, iV (x2)), (3, iV (x3))] [] := by
    intro n
    induction n with
    | zero =>
      intro x1 x2 x3 T13 h
      exact absurd h (by simp [fX6_isTown_L4])
    | succ n ih =>
      intro x1 x2 x3 T13 h hJ
      rw [fX6_isTown_L4] at h
      refine ax_iload_n cx 3 dX6_isTown_4 rfl rfl ?_
      refine ax_aload_n cx 0 dX6_isTown_5 rfl rfl ?_
      refine ax_getf (q := 14) (ci := 6) (k := 3) (v := iV (M 101 0)) cx ⟨by decide, by decide⟩ rfl rfl hi_X6_isTown_X6 (by decide) hl_X6_isTown_100 rfl rfl dX6_isTown_6 ?_
      obtain ⟨g1, h⟩ := gd_some h
      obtain ⟨g2, h⟩ := gd_some h
      refine ax_icmp_ge cx 38 dX6_isTown_9 (by decide) g1 g2 (fun c3 => ?_) (fun c3 => ?_)
      · rw [if_pos c3] at h
        refine ax_lv cx [2] rfl ?_
        cases h
        exact hJ
      · rw [if_neg c3] at h
        refine ax_iload_n cx 2 dX6_isTown_12 rfl rfl ?_
        obtain ⟨g4, h⟩ := gd_some h
        obtain ⟨t10, e12, h⟩ := ob h
        have J11 : G M 31 [(0, .ref (ad 14)), (1, iV (x1)), (3, iV (x3))] [iV (t10)] := by
          refine ax_istore_n (lv' := [(2, iV (t10)), (0, .ref (ad 14)), (1, iV (x1)), (3, iV (x3))]) cx dX6_isTown_31 rfl (by decide) rfl ?_
          refine ax_iinc (lv' := [(3, iV (x3 + 1)), (2, iV (t10)), (0, .ref (ad 14)), (1, iV (x1))]) cx 3 dX6_isTown_32 rfl (by decide) rfl ?_
          refine ax_goto cx 4 dX6_isTown_35 (by decide) ?_
          refine ax_lv cx [2, 3, 1, 0] rfl ?_
          exact ih _ _ _ _ h hJ
        clear h
        have h := e12
        clear e12
        refine ax_if_ne cx 26 dX6_isTown_13 (by decide) g4 (fun c5 => ?_) (fun c5 => ?_)
        · rw [if_pos c5] at h
          refine ax_aload_n cx 0 dX6_isTown_16 rfl rfl ?_
          refine ax_getf (q := 14) (ci := 6) (k := 4) (v := .ref (ad 2)) cx ⟨by decide, by decide⟩ rfl rfl hi_X6_isTown_X6 (by decide) hl_X6_isTown_16 rfl rfl dX6_isTown_17 ?_
          refine ax_iload_n cx 3 dX6_isTown_20 rfl rfl ?_
          obtain ⟨g6, h⟩ := gd_some h
          refine ax_iald (n := 6) cx (by decide) rfl rfl g6 dX6_isTown_21 ?_
          refine ax_iload_n cx 1 dX6_isTown_22 rfl rfl ?_
          obtain ⟨g7, h⟩ := gd_some h
          obtain ⟨g8, h⟩ := gd_some h
          refine ax_icmp_ne cx 30 dX6_isTown_23 (by decide) g7 g8 (fun c9 => ?_) (fun c9 => ?_)
          · rw [if_pos c9] at h
            refine ax_iconst cx dX6_isTown_26 ?_
            refine ax_goto cx 31 dX6_isTown_27 (by decide) ?_
            refine ax_lv cx [0, 1, 3] rfl ?_
            cases h
            exact J11
          · rw [if_neg c9] at h
            refine ax_iconst cx dX6_isTown_30 ?_
            refine ax_lv cx [0, 1, 3] rfl ?_
            cases h
            exact J11
        · rw [if_neg c5] at h
          refine ax_iconst cx dX6_isTown_26 ?_
          refine ax_goto cx 31 dX6_isTown_27 (by decide) ?_
          refine ax_lv cx [0, 1, 3] rfl ?_
          cases h
          exact J11
  unfold fX6_isTown at h
  refine ax_iconst cx dX6_isTown_0 ?_
  refine ax_istore_n (lv' := [(2, iV (0)), (0, .ref (ad 14)), (1, iV (x1))]) cx dX6_isTown_1 rfl (by decide) rfl ?_
  refine ax_iconst cx dX6_isTown_2 ?_
  refine ax_istore_n (lv' := [(3, iV (0)), (2, iV (0)), (0, .ref (ad 14)), (1, iV (x1))]) cx dX6_isTown_3 rfl (by decide) rfl ?_
  obtain ⟨t14, e15, h⟩ := ob h
  refine ax_lv cx [2, 3, 1, 0] rfl ?_
  have J16 : G M 38 [(2, iV (t14))] [] := by
    refine ax_iload_n cx 0 dX6_isTown_38 rfl rfl ?_
    obtain ⟨g17, h⟩ := gd_some h
    cases h
    exact ax_zret cx dX6_isTown_39 rfl g17 ⟨rfl, rfl⟩
  exact L4 FU x1 0 0 _ e15 J16
def fX6_town (M : Mem) (x1 : Int) : Option (Int × Mem) :=
    Option.bind (fX6_isNode M x1) (fun t1 =>
    gd (inR (t1)) (
    Option.bind (if t1 = 0 then (
      some (1))
    else (
      Option.bind (fX6_isTown M x1) (fun t5 =>
      gd (inR (t5)) (
      if t5 = 0 then (
        gd (inR (M 101 0)) (
        if M 101 0 = 6 then (
          some (2))
        else (
          some (0))))
      else (
        some (2)))))) (fun t11 =>
    Option.bind (fX6_refused M t11) (fun t14 =>
    gd (inR (t14.1)) (
    if t14.1 = 0 then (
      gd (inB (t14.2 101 0) 6) (
      some (((wr (wr t14.2 2 (t14.2 101 0).toNat x1) 101 0 (((wr t14.2 2 (t14.2 101 0).toNat x1) 101 0) + 1)) 101 0) - 1, (wr (wr t14.2 2 (t14.2 101 0).toNat x1) 101 0 (((wr t14.2 2 (t14.2 101 0).toNat x1) 101 0) + 1)))))
    else (
      some (0, t14.2)))))))
abbrev rmX6_town : Room := { frames := 2, cells := 0, slots := 0, locals := 42 }
theorem hl_X6_town_100 : Cond.fieldLink RX6 100 "PlateauBenchModel" "towns" "I" ∈ wsX6_town := by decide +kernel
theorem hl_X6_town_16 : Cond.fieldLink RX6 16 "PlateauBenchModel" "townNodes" "[I" ∈ wsX6_town := by decide +kernel
theorem hi_X6_town_X6 : ∀ x ∈ u_ws RX6 TX6 19, x ∈ wsX6_town := by decide +kernel
set_option maxRecDepth 100000 in
set_option maxHeartbeats 4000000 in
theorem kX6_town (l : Launch) (ad : Nat → Nat) (M : Mem) (x1 : Int) (T : Int × Mem) (h : fX6_town M x1 = some T) : MX l yX6_town wsX6_town rmX6_town wM ad [.ref (ad 14), iV (x1)] M (some (iV (T.1))) T.2 := by
  refine MX.of (cc := cX6_town) (nL := 3) (rt := (some .int)) (own := RX6) (by decide +kernel) rfl rfl (Nat.le_of_ble_eq_true rfl) wM_ok (fun G cx => ?_)
  show G M 0 [(0, .ref (ad 14)), (1, iV (x1))] []
  unfold fX6_town at h
  refine ax_iload_n cx 1 dX6_town_0 rfl rfl ?_
  obtain ⟨t1, e2, h⟩ := ob h
  refine ax_callS (As := [iV (x1)]) (n := 1) cx (kX6_isNode l ad M x1 _ e2) gX6_town_X6_isNode rfl ⟨rfl, rfl⟩ (by decide +kernel) rfl ⟨by decide, by decide⟩ rfl (Nat.le_of_ble_eq_true rfl) dX6_town_1 ?_
  refine ax_istore_n (lv' := [(2, iV (t1)), (0, .ref (ad 14)), (1, iV (x1))]) cx dX6_town_4 rfl (by decide) rfl ?_
  refine ax_aload_n cx 1 dX6_town_5 rfl rfl ?_
  refine ax_iload_n cx 0 dX6_town_6 rfl rfl ?_
  obtain ⟨g3, h⟩ := gd_some h
  obtain ⟨t11, e13, h⟩ := ob h
  have J12 : G M 36 [(0, .ref (ad 14)), (1, iV (x1))] [iV (t11), .ref (ad 14)] := by
    obtain ⟨t14, e15, h⟩ := ob h
    refine ax_callV (As := [iV (t11)]) (q := 14) (ci := 6) (n := 1) cx (kX6_refused l ad M t11 _ e15) gX6_town_X6_refused rfl ⟨by decide, by decide⟩ rfl rfl ⟨rfl, rfl⟩ (by decide +kernel) rfl ⟨by decide, by decide⟩ rfl (Nat.le_of_ble_eq_true rfl) dX6_town_36 ?_
    obtain ⟨g16, h⟩ := gd_some h
    refine ax_if_eq cx 44 dX6_town_39 (by decide) g16 (fun c17 => ?_) (fun c17 => ?_)
    · rw [if_pos c17] at h
      refine ax_aload_n cx 0 dX6_town_44 rfl rfl ?_
      refine ax_getf (q := 14) (ci := 6) (k := 4) (v := .ref (ad 2)) cx ⟨by decide, by decide⟩ rfl rfl hi_X6_town_X6 (by decide) hl_X6_town_16 rfl rfl dX6_town_45 ?_
      refine ax_aload_n cx 0 dX6_town_48 rfl rfl ?_
      refine ax_getf (q := 14) (ci := 6) (k := 3) (v := iV (t14.2 101 0)) cx ⟨by decide, by decide⟩ rfl rfl hi_X6_town_X6 (by decide) hl_X6_town_100 rfl rfl dX6_town_49 ?_
      refine ax_iload_n cx 1 dX6_town_52 rfl rfl ?_
      obtain ⟨g18, h⟩ := gd_some h
      refine ax_iast (n := 6) cx (by decide) rfl rfl g18 dX6_town_53 ?_
      refine ax_aload_n cx 0 dX6_town_54 rfl rfl ?_
      refine ax_dup cx dX6_town_55 rfl ?_
      refine ax_getf (q := 14) (ci := 6) (k := 3) (v := iV ((wr t14.2 2 (t14.2 101 0).toNat x1) 101 0)) cx ⟨by decide, by decide⟩ rfl rfl hi_X6_town_X6 (by decide) hl_X6_town_100 rfl rfl dX6_town_56 ?_
      refine ax_iconst cx dX6_town_59 ?_
      refine ax_iadd cx dX6_town_60 ?_
      refine ax_putf (q := 14) (ci := 6) (k := 3) (f := 101) (ty := .int) cx ⟨by decide, by decide⟩ rfl rfl hi_X6_town_X6 tyX6 tyX6_ok nmX6 (by decide) hl_X6_town_100 rfl (by decide +kernel) (by decide +kernel) rfl rfl (Nat.le_of_ble_eq_true rfl) (by decide) rfl (putM_101 ad _ _) dX6_town_61 ?_
      refine ax_aload_n cx 0 dX6_town_64 rfl rfl ?_
      refine ax_getf (q := 14) (ci := 6) (k := 3) (v := iV ((wr (wr t14.2 2 (t14.2 101 0).toNat x1) 101 0 (((wr t14.2 2 (t14.2 101 0).toNat x1) 101 0) + 1)) 101 0)) cx ⟨by decide, by decide⟩ rfl rfl hi_X6_town_X6 (by decide) hl_X6_town_100 rfl rfl dX6_town_65 ?_
      refine ax_iconst cx dX6_town_68 ?_
      refine ax_isub cx dX6_town_69 ?_
      cases h
      exact ax_iret cx dX6_town_70 rfl ⟨rfl, rfl⟩
    · rw [if_neg c17] at h
      refine ax_iconst cx dX6_town_42 ?_
      cases h
      exact ax_iret cx dX6_town_43 rfl ⟨rfl, rfl⟩
  clear h
  have h := e13
  clear e13
  refine ax_if_ne cx 14 dX6_town_7 (by decide) g3 (fun c4 => ?_) (fun c4 => ?_)
  · rw [if_pos c4] at h
    refine ax_iconst cx dX6_town_10 ?_
    refine ax_goto cx 36 dX6_town_11 (by decide) ?_
    refine ax_lv cx [1, 2] rfl ?_
    cases h
    exact J12
  · rw [if_neg c4] at h
    refine ax_aload_n cx 1 dX6_town_14 rfl rfl ?_
    refine ax_iload_n cx 2 dX6_town_15 rfl rfl ?_
    obtain ⟨t5, e6, h⟩ := ob h
    refine ax_callV (As := [iV (x1)]) (q := 14) (ci := 6) (n := 1) cx (kX6_isTown l ad M x1 _ e6) gX6_town_X6_isTown rfl ⟨by decide, by decide⟩ rfl rfl ⟨rfl, rfl⟩ (by decide +kernel) rfl ⟨by decide, by decide⟩ rfl (Nat.le_of_ble_eq_true rfl) dX6_town_16 ?_
    obtain ⟨g7, h⟩ := gd_some h
    refine ax_if_ne cx 31 dX6_town_19 (by decide) g7 (fun c8 => ?_) (fun c8 => ?_)
    · rw [if_pos c8] at h
      refine ax_aload_n cx 1 dX6_town_22 rfl rfl ?_
      refine ax_getf (q := 14) (ci := 6) (k := 3) (v := iV (M 101 0)) cx ⟨by decide, by decide⟩ rfl rfl hi_X6_town_X6 (by decide) hl_X6_town_100 rfl rfl dX6_town_23 ?_
      refine ax_bipush (z := 6) cx dX6_town_26 (by decide) ?_
      obtain ⟨g9, h⟩ := gd_some h
      refine ax_icmp_ne cx 35 dX6_town_28 (by decide) g9 ⟨by decide, by decide⟩ (fun c10 => ?_) (fun c10 => ?_)
      · rw [if_pos c10] at h
        refine ax_iconst cx dX6_town_31 ?_
        refine ax_goto cx 36 dX6_town_32 (by decide) ?_
        refine ax_lv cx [1, 2] rfl ?_
        cases h
        exact J12
      · rw [if_neg c10] at h
        refine ax_iconst cx dX6_town_35 ?_
        refine ax_lv cx [1, 2] rfl ?_
        cases h
        exact J12
    · rw [if_neg c8] at h
      refine ax_iconst cx dX6_town_31 ?_
      refine ax_goto cx 36 dX6_town_32 (by decide) ?_
      refine ax_lv cx [1, 2] rfl ?_
      cases h
      exact J12
def fX6_away_L47 : Nat → Mem → Int → Int → Option (Mem)
  | 0, _, _, _ => none
  | n + 1, M, x2, x3 =>
    gd (inR (x3)) (
    gd (inR (M 101 0)) (
    if M 101 0 ≤ x3 then (
      some (M))
    else (
      gd (inB (x3 + 1) 6) (
      gd (inB (x3) 6) (
      fX6_away_L47 n (wr M 2 x3.toNat (M 2 (x3 + 1).toNat)) x2 (x3 + 1))))))
def fX6_away (M : Mem) (x1 : Int) : Option (Int × Mem) :=
    Option.bind (fX6_in M x1 0 ((M 101 0) - 1)) (fun t1 =>
    gd (inR (t1)) (
    Option.bind (if t1 = 0 then (
      some (1))
    else (
      some (0))) (fun t5 =>
    Option.bind (fX6_refused M t5) (fun t8 =>
    gd (inR (t8.1)) (
    if t8.1 = 0 then (
      gd (inB (x1) 6) (
      Option.bind (fX6_away_L47 FU (wr t8.2 101 0 ((t8.2 101 0) - 1)) (t8.2 2 x1.toNat) x1) (fun t19 =>
      some (t8.2 2 x1.toNat, t19))))
    else (
      some (0, t8.2)))))))
abbrev rmX6_away : Room := { frames := 1, cells := 0, slots := 0, locals := 22 }
theorem hl_X6_away_100 : Cond.fieldLink RX6 100 "PlateauBenchModel" "towns" "I" ∈ wsX6_away := by decide +kernel
theorem hl_X6_away_16 : Cond.fieldLink RX6 16 "PlateauBenchModel" "townNodes" "[I" ∈ wsX6_away := by decide +kernel
theorem hi_X6_away_X6 : ∀ x ∈ u_ws RX6 TX6 19, x ∈ wsX6_away := by decide +kernel
set_option maxRecDepth 100000 in
set_option maxHeartbeats 4000000 in
theorem kX6_away (l : Launch) (ad : Nat → Nat) (M : Mem) (x1 : Int) (T : Int × Mem) (h : fX6_away M x1 = some T) : MX l yX6_away wsX6_away rmX6_away wM ad [.ref (ad 14), iV (x1)] M (some (iV (T.1))) T.2 := by
  refine MX.of (cc := cX6_away) (nL := 4) (rt := (some .int)) (own := RX6) (by decide +kernel) rfl rfl (Nat.le_of_ble_eq_true rfl) wM_ok (fun G cx => ?_)
  show G M 0 [(0, .ref (ad 14)), (1, iV (x1))] []
  have L47 : ∀ (n : Nat) (M : Mem) (x2 : Int) (x3 : Int) (T18 : Mem), fX6_away_L47 n M x2 x3 = some T18 → (G T18 75 [(2, iV (x2))] []) → G M 47 [(0, .ref (ad 14)), (2, iV (x2)), (3, iV (x3))] [] := by
    intro n
    induction n with
    | zero =>
      intro M x2 x3 T18 h
      exact absurd h (by simp [fX6_away_L47])
    | succ n ih =>
      intro M x2 x3 T18 h hJ
      rw [fX6_away_L47] at h
      refine ax_iload_n cx 2 dX6_away_47 rfl rfl ?_
      refine ax_aload_n cx 0 dX6_away_48 rfl rfl ?_
      refine ax_getf (q := 14) (ci := 6) (k := 3) (v := iV (M 101 0)) cx ⟨by decide, by decide⟩ rfl rfl hi_X6_away_X6 (by decide) hl_X6_away_100 rfl rfl dX6_away_49 ?_
      obtain ⟨g13, h⟩ := gd_some h
      obtain ⟨g14, h⟩ := gd_some h
      refine ax_icmp_ge cx 75 dX6_away_52 (by decide) g13 g14 (fun c15 => ?_) (fun c15 => ?_)
      · rw [if_pos c15] at h
        refine ax_lv cx [1] rfl ?_
        cases h
        exact hJ
      · rw [if_neg c15] at h
        refine ax_aload_n cx 0 dX6_away_55 rfl rfl ?_
        refine ax_getf (q := 14) (ci := 6) (k := 4) (v := .ref (ad 2)) cx ⟨by decide, by decide⟩ rfl rfl hi_X6_away_X6 (by decide) hl_X6_away_16 rfl rfl dX6_away_56 ?_
        refine ax_iload_n cx 2 dX6_away_59 rfl rfl ?_
        refine ax_aload_n cx 0 dX6_away_60 rfl rfl ?_
        refine ax_getf (q := 14) (ci := 6) (k := 4) (v := .ref (ad 2)) cx ⟨by decide, by decide⟩ rfl rfl hi_X6_away_X6 (by decide) hl_X6_away_16 rfl rfl dX6_away_61 ?_
        refine ax_iload_n cx 2 dX6_away_64 rfl rfl ?_
        refine ax_iconst cx dX6_away_65 ?_
        refine ax_iadd cx dX6_away_66 ?_
        obtain ⟨g16, h⟩ := gd_some h
        refine ax_iald (n := 6) cx (by decide) rfl rfl g16 dX6_away_67 ?_
        obtain ⟨g17, h⟩ := gd_some h
        refine ax_iast (n := 6) cx (by decide) rfl rfl g17 dX6_away_68 ?_
        refine ax_iinc (lv' := [(3, iV (x3 + 1)), (0, .ref (ad 14)), (2, iV (x2))]) cx 2 dX6_away_69 rfl (by decide) rfl ?_
        refine ax_goto cx 47 dX6_away_72 (by decide) ?_
        refine ax_lv cx [1, 2, 0] rfl ?_
        exact ih _ _ _ _ h hJ
  unfold fX6_away at h
  refine ax_aload_n cx 0 dX6_away_0 rfl rfl ?_
  refine ax_iload_n cx 1 dX6_away_1 rfl rfl ?_
  refine ax_iconst cx dX6_away_2 ?_
  refine ax_aload_n cx 0 dX6_away_3 rfl rfl ?_
  refine ax_getf (q := 14) (ci := 6) (k := 3) (v := iV (M 101 0)) cx ⟨by decide, by decide⟩ rfl rfl hi_X6_away_X6 (by decide) hl_X6_away_100 rfl rfl dX6_away_4 ?_
  refine ax_iconst cx dX6_away_7 ?_
  refine ax_isub cx dX6_away_8 ?_
  obtain ⟨t1, e2, h⟩ := ob h
  refine ax_callS (As := [iV (x1), iV (0), iV ((M 101 0) - 1)]) (n := 3) cx (kX6_in l ad M x1 0 ((M 101 0) - 1) _ e2) gX6_away_X6_in rfl ⟨rfl, rfl⟩ (by decide +kernel) rfl ⟨by decide, by decide⟩ rfl (Nat.le_of_ble_eq_true rfl) dX6_away_9 ?_
  obtain ⟨g3, h⟩ := gd_some h
  obtain ⟨t5, e7, h⟩ := ob h
  have J6 : G M 20 [(0, .ref (ad 14)), (1, iV (x1))] [iV (t5), .ref (ad 14)] := by
    obtain ⟨t8, e9, h⟩ := ob h
    refine ax_callV (As := [iV (t5)]) (q := 14) (ci := 6) (n := 1) cx (kX6_refused l ad M t5 _ e9) gX6_away_X6_refused rfl ⟨by decide, by decide⟩ rfl rfl ⟨rfl, rfl⟩ (by decide +kernel) rfl ⟨by decide, by decide⟩ rfl (Nat.le_of_ble_eq_true rfl) dX6_away_20 ?_
    obtain ⟨g10, h⟩ := gd_some h
    refine ax_if_eq cx 28 dX6_away_23 (by decide) g10 (fun c11 => ?_) (fun c11 => ?_)
    · rw [if_pos c11] at h
      refine ax_aload_n cx 0 dX6_away_28 rfl rfl ?_
      refine ax_getf (q := 14) (ci := 6) (k := 4) (v := .ref (ad 2)) cx ⟨by decide, by decide⟩ rfl rfl hi_X6_away_X6 (by decide) hl_X6_away_16 rfl rfl dX6_away_29 ?_
      refine ax_iload_n cx 1 dX6_away_32 rfl rfl ?_
      obtain ⟨g12, h⟩ := gd_some h
      refine ax_iald (n := 6) cx (by decide) rfl rfl g12 dX6_away_33 ?_
      refine ax_istore_n (lv' := [(2, iV (t8.2 2 x1.toNat)), (0, .ref (ad 14)), (1, iV (x1))]) cx dX6_away_34 rfl (by decide) rfl ?_
      refine ax_aload_n cx 1 dX6_away_35 rfl rfl ?_
      refine ax_dup cx dX6_away_36 rfl ?_
      refine ax_getf (q := 14) (ci := 6) (k := 3) (v := iV (t8.2 101 0)) cx ⟨by decide, by decide⟩ rfl rfl hi_X6_away_X6 (by decide) hl_X6_away_100 rfl rfl dX6_away_37 ?_
      refine ax_iconst cx dX6_away_40 ?_
      refine ax_isub cx dX6_away_41 ?_
      refine ax_putf (q := 14) (ci := 6) (k := 3) (f := 101) (ty := .int) cx ⟨by decide, by decide⟩ rfl rfl hi_X6_away_X6 tyX6 tyX6_ok nmX6 (by decide) hl_X6_away_100 rfl (by decide +kernel) (by decide +kernel) rfl rfl (Nat.le_of_ble_eq_true rfl) (by decide) rfl (putM_101 ad _ _) dX6_away_42 ?_
      refine ax_iload_n cx 2 dX6_away_45 rfl rfl ?_
      refine ax_istore_n (lv' := [(3, iV (x1)), (2, iV (t8.2 2 x1.toNat)), (0, .ref (ad 14)), (1, iV (x1))]) cx dX6_away_46 rfl (by decide) rfl ?_
      obtain ⟨t19, e20, h⟩ := ob h
      refine ax_lv cx [2, 1, 0] rfl ?_
      have J21 : G t19 75 [(2, iV (t8.2 2 x1.toNat))] [] := by
        refine ax_iload_n cx 0 dX6_away_75 rfl rfl ?_
        cases h
        exact ax_iret cx dX6_away_76 rfl ⟨rfl, rfl⟩
      exact L47 FU (wr t8.2 101 0 ((t8.2 101 0) - 1)) (t8.2 2 x1.toNat) x1 _ e20 J21
    · rw [if_neg c11] at h
      refine ax_iconst cx dX6_away_26 ?_
      cases h
      exact ax_iret cx dX6_away_27 rfl ⟨rfl, rfl⟩
  clear h
  have h := e7
  clear e7
  refine ax_if_eq cx 19 dX6_away_12 (by decide) g3 (fun c4 => ?_) (fun c4 => ?_)
  · rw [if_pos c4] at h
    refine ax_iconst cx dX6_away_19 ?_
    cases h
    exact J6
  · rw [if_neg c4] at h
    refine ax_iconst cx dX6_away_15 ?_
    refine ax_goto cx 20 dX6_away_16 (by decide) ?_
    cases h
    exact J6
def fX6_townAt (M : Mem) (x1 : Int) : Option (Int × Mem) :=
    Option.bind (fX6_in M x1 0 ((M 101 0) - 1)) (fun t1 =>
    gd (inR (t1)) (
    Option.bind (if t1 = 0 then (
      some (1))
    else (
      some (0))) (fun t5 =>
    Option.bind (fX6_refused M t5) (fun t8 =>
    gd (inR (t8.1)) (
    Option.bind (if t8.1 = 0 then (
      gd (inB (x1) 6) (
      some (t8.2 2 x1.toNat)))
    else (
      some (0))) (fun t13 =>
    some (t13, t8.2)))))))
abbrev rmX6_townAt : Room := { frames := 1, cells := 0, slots := 0, locals := 22 }
theorem hl_X6_townAt_100 : Cond.fieldLink RX6 100 "PlateauBenchModel" "towns" "I" ∈ wsX6_townAt := by decide +kernel
theorem hl_X6_townAt_16 : Cond.fieldLink RX6 16 "PlateauBenchModel" "townNodes" "[I" ∈ wsX6_townAt := by decide +kernel
theorem hi_X6_townAt_X6 : ∀ x ∈ u_ws RX6 TX6 19, x ∈ wsX6_townAt := by decide +kernel
set_option maxRecDepth 100000 in
set_option maxHeartbeats 4000000 in
theorem kX6_townAt (l : Launch) (ad : Nat → Nat) (M : Mem) (x1 : Int) (T : Int × Mem) (h : fX6_townAt M x1 = some T) : MX l yX6_townAt wsX6_townAt rmX6_townAt wM ad [.ref (ad 14), iV (x1)] M (some (iV (T.1))) T.2 := by
  refine MX.of (cc := cX6_townAt) (nL := 2) (rt := (some .int)) (own := RX6) (by decide +kernel) rfl rfl (Nat.le_of_ble_eq_true rfl) wM_ok (fun G cx => ?_)
  show G M 0 [(0, .ref (ad 14)), (1, iV (x1))] []
  unfold fX6_townAt at h
  refine ax_aload_n cx 0 dX6_townAt_0 rfl rfl ?_
  refine ax_iload_n cx 1 dX6_townAt_1 rfl rfl ?_
  refine ax_iconst cx dX6_townAt_2 ?_
  refine ax_aload_n cx 0 dX6_townAt_3 rfl rfl ?_
  refine ax_getf (q := 14) (ci := 6) (k := 3) (v := iV (M 101 0)) cx ⟨by decide, by decide⟩ rfl rfl hi_X6_townAt_X6 (by decide) hl_X6_townAt_100 rfl rfl dX6_townAt_4 ?_
  refine ax_iconst cx dX6_townAt_7 ?_
  refine ax_isub cx dX6_townAt_8 ?_
  obtain ⟨t1, e2, h⟩ := ob h
  refine ax_callS (As := [iV (x1), iV (0), iV ((M 101 0) - 1)]) (n := 3) cx (kX6_in l ad M x1 0 ((M 101 0) - 1) _ e2) gX6_townAt_X6_in rfl ⟨rfl, rfl⟩ (by decide +kernel) rfl ⟨by decide, by decide⟩ rfl (Nat.le_of_ble_eq_true rfl) dX6_townAt_9 ?_
  obtain ⟨g3, h⟩ := gd_some h
  obtain ⟨t5, e7, h⟩ := ob h
  have J6 : G M 20 [(0, .ref (ad 14)), (1, iV (x1))] [iV (t5), .ref (ad 14)] := by
    obtain ⟨t8, e9, h⟩ := ob h
    refine ax_callV (As := [iV (t5)]) (q := 14) (ci := 6) (n := 1) cx (kX6_refused l ad M t5 _ e9) gX6_townAt_X6_refused rfl ⟨by decide, by decide⟩ rfl rfl ⟨rfl, rfl⟩ (by decide +kernel) rfl ⟨by decide, by decide⟩ rfl (Nat.le_of_ble_eq_true rfl) dX6_townAt_20 ?_
    obtain ⟨g10, h⟩ := gd_some h
    obtain ⟨t13, e15, h⟩ := ob h
    have J14 : G t8.2 36 [] [iV (t13)] := by
      cases h
      exact ax_iret cx dX6_townAt_36 rfl ⟨rfl, rfl⟩
    clear h
    have h := e15
    clear e15
    refine ax_if_eq cx 30 dX6_townAt_23 (by decide) g10 (fun c11 => ?_) (fun c11 => ?_)
    · rw [if_pos c11] at h
      refine ax_aload_n cx 0 dX6_townAt_30 rfl rfl ?_
      refine ax_getf (q := 14) (ci := 6) (k := 4) (v := .ref (ad 2)) cx ⟨by decide, by decide⟩ rfl rfl hi_X6_townAt_X6 (by decide) hl_X6_townAt_16 rfl rfl dX6_townAt_31 ?_
      refine ax_iload_n cx 1 dX6_townAt_34 rfl rfl ?_
      obtain ⟨g12, h⟩ := gd_some h
      refine ax_iald (n := 6) cx (by decide) rfl rfl g12 dX6_townAt_35 ?_
      refine ax_lv cx [] rfl ?_
      cases h
      exact J14
    · rw [if_neg c11] at h
      refine ax_iconst cx dX6_townAt_26 ?_
      refine ax_goto cx 36 dX6_townAt_27 (by decide) ?_
      refine ax_lv cx [] rfl ?_
      cases h
      exact J14
  clear h
  have h := e7
  clear e7
  refine ax_if_eq cx 19 dX6_townAt_12 (by decide) g3 (fun c4 => ?_) (fun c4 => ?_)
  · rw [if_pos c4] at h
    refine ax_iconst cx dX6_townAt_19 ?_
    cases h
    exact J6
  · rw [if_neg c4] at h
    refine ax_iconst cx dX6_townAt_15 ?_
    refine ax_goto cx 20 dX6_townAt_16 (by decide) ?_
    cases h
    exact J6
def fX6_spread_L10 : Nat → Mem → Int → Int → Int → Option (Int × Mem)
  | 0, _, _, _, _ => none
  | n + 1, M, x1, x2, x3 =>
    gd (inR (x3)) (
    if 60 ≤ x3 then (
      some (x2, M))
    else (
      Option.bind (fX6_first M x3) (fun t5 =>
      Option.bind (fX6_second M x3) (fun t7 =>
      gd (inR (M 104 0)) (
      Option.bind (if x3 = M 104 0 then (
        some (0))
      else (
        Option.bind (fX6_costOfEdge M x3) (fun t11 =>
        some (t11)))) (fun t13 =>
      gd (inB ((36 * x1) + t5) 4608) (
      gd (inB ((36 * x1) + t7) 4608) (
      gd (inR ((M 8 ((36 * x1) + t5).toNat) + t13)) (
      gd (inR (M 8 ((36 * x1) + t7).toNat)) (
      Option.bind (if M 8 ((36 * x1) + t7).toNat ≤ (M 8 ((36 * x1) + t5).toNat) + t13 then (
        some (x2, M))
      else (
        gd (inB ((36 * x1) + t5) 4608) (
        gd (inB ((36 * x1) + t7) 4608) (
        some (1, (wr M 8 ((36 * x1) + t7).toNat ((M 8 ((36 * x1) + t5).toNat) + t13))))))) (fun t23 =>
      gd (inB ((36 * x1) + t7) 4608) (
      gd (inB ((36 * x1) + t5) 4608) (
      gd (inR ((t23.2 8 ((36 * x1) + t7).toNat) + t13)) (
      gd (inR (t23.2 8 ((36 * x1) + t5).toNat)) (
      Option.bind (if t23.2 8 ((36 * x1) + t5).toNat ≤ (t23.2 8 ((36 * x1) + t7).toNat) + t13 then (
        some (t23.1, t23.2))
      else (
        gd (inB ((36 * x1) + t7) 4608) (
        gd (inB ((36 * x1) + t5) 4608) (
        some (1, (wr t23.2 8 ((36 * x1) + t5).toNat ((t23.2 8 ((36 * x1) + t7).toNat) + t13))))))) (fun t33 =>
      fX6_spread_L10 n t33.2 x1 t33.1 (x3 + 1)))))))))))))))))
def fX6_spread_L2 : Nat → Mem → Int → Int → Option (Mem)
  | 0, _, _, _ => none
  | n + 1, M, x1, x2 =>
    gd (inR (x2)) (
    if x2 = 0 then (
      some (M))
    else (
      Option.bind (fX6_spread_L10 FU M x1 0 0) (fun t37 =>
      fX6_spread_L2 n t37.2 x1 t37.1)))
def fX6_spread (M : Mem) (x1 : Int) : Option (Mem) :=
    Option.bind (fX6_spread_L2 FU M x1 1) (fun t41 =>
    some (t41))
abbrev rmX6_spread : Room := { frames := 2, cells := 0, slots := 0, locals := 40 }
theorem hl_X6_spread_53 : Cond.fieldLink RX6 53 "PlateauBenchModel" "free" "I" ∈ wsX6_spread := by decide +kernel
theorem hl_X6_spread_35 : Cond.fieldLink RX6 35 "PlateauBenchModel" "nets" "[I" ∈ wsX6_spread := by decide +kernel
theorem hi_X6_spread_X6 : ∀ x ∈ u_ws RX6 TX6 19, x ∈ wsX6_spread := by decide +kernel
set_option maxRecDepth 100000 in
set_option maxHeartbeats 4000000 in
theorem kX6_spread (l : Launch) (ad : Nat → Nat) (M : Mem) (x1 : Int) (T : Mem) (h : fX6_spread M x1 = some T) : MX l yX6_spread wsX6_spread rmX6_spread wM ad [.ref (ad 14), iV (x1)] M none T := by
  refine MX.of (cc := cX6_spread) (nL := 7) (rt := none) (own := RX6) (by decide +kernel) rfl rfl (Nat.le_of_ble_eq_true rfl) wM_ok (fun G cx => ?_)
  show G M 0 [(0, .ref (ad 14)), (1, iV (x1))] []
  have L10 : ∀ (n : Nat) (M : Mem) (x1 : Int) (x2 : Int) (x3 : Int) (T36 : Int × Mem), fX6_spread_L10 n M x1 x2 x3 = some T36 → (G T36.2 141 [(0, .ref (ad 14)), (1, iV (x1)), (2, iV (T36.1))] []) → G M 10 [(0, .ref (ad 14)), (1, iV (x1)), (2, iV (x2)), (3, iV (x3))] [] := by
    intro n
    induction n with
    | zero =>
      intro M x1 x2 x3 T36 h
      exact absurd h (by simp [fX6_spread_L10])
    | succ n ih =>
      intro M x1 x2 x3 T36 h hJ
      rw [fX6_spread_L10] at h
      refine ax_iload_n cx 3 dX6_spread_10 rfl rfl ?_
      refine ax_bipush (z := 60) cx dX6_spread_11 (by decide) ?_
      obtain ⟨g3, h⟩ := gd_some h
      refine ax_icmp_ge cx 141 dX6_spread_13 (by decide) g3 ⟨by decide, by decide⟩ (fun c4 => ?_) (fun c4 => ?_)
      · rw [if_pos c4] at h
        refine ax_lv cx [0, 1, 2] rfl ?_
        cases h
        exact hJ
      · rw [if_neg c4] at h
        refine ax_bipush (z := 36) cx dX6_spread_16 (by decide) ?_
        refine ax_iload_n cx 1 dX6_spread_18 rfl rfl ?_
        refine ax_imul cx dX6_spread_19 ?_
        refine ax_iload_n cx 3 dX6_spread_20 rfl rfl ?_
        obtain ⟨t5, e6, h⟩ := ob h
        refine ax_callS (As := [iV (x3)]) (n := 1) cx (kX6_first l ad M x3 _ e6) gX6_spread_X6_first rfl ⟨rfl, rfl⟩ (by decide +kernel) rfl ⟨by decide, by decide⟩ rfl (Nat.le_of_ble_eq_true rfl) dX6_spread_21 ?_
        refine ax_iadd cx dX6_spread_24 ?_
        refine ax_istore (lv' := [(4, iV ((36 * x1) + t5)), (0, .ref (ad 14)), (1, iV (x1)), (2, iV (x2)), (3, iV (x3))]) cx dX6_spread_25 (by decide) rfl ?_
        refine ax_bipush (z := 36) cx dX6_spread_27 (by decide) ?_
        refine ax_iload_n cx 2 dX6_spread_29 rfl rfl ?_
        refine ax_imul cx dX6_spread_30 ?_
        refine ax_iload_n cx 4 dX6_spread_31 rfl rfl ?_
        obtain ⟨t7, e8, h⟩ := ob h
        refine ax_callS (As := [iV (x3)]) (n := 1) cx (kX6_second l ad M x3 _ e8) gX6_spread_X6_second rfl ⟨rfl, rfl⟩ (by decide +kernel) rfl ⟨by decide, by decide⟩ rfl (Nat.le_of_ble_eq_true rfl) dX6_spread_32 ?_
        refine ax_iadd cx dX6_spread_35 ?_
        refine ax_istore (lv' := [(5, iV ((36 * x1) + t7)), (4, iV ((36 * x1) + t5)), (0, .ref (ad 14)), (1, iV (x1)), (2, iV (x2)), (3, iV (x3))]) cx dX6_spread_36 (by decide) rfl ?_
        refine ax_iload_n cx 5 dX6_spread_38 rfl rfl ?_
        refine ax_aload_n cx 2 dX6_spread_39 rfl rfl ?_
        refine ax_getf (q := 14) (ci := 6) (k := 18) (v := iV (M 104 0)) cx ⟨by decide, by decide⟩ rfl rfl hi_X6_spread_X6 (by decide) hl_X6_spread_53 rfl rfl dX6_spread_40 ?_
        obtain ⟨g9, h⟩ := gd_some h
        obtain ⟨t13, e15, h⟩ := ob h
        have J14 : G M 55 [(0, .ref (ad 14)), (1, iV (x1)), (2, iV (x2)), (3, iV (x3)), (4, iV ((36 * x1) + t5)), (5, iV ((36 * x1) + t7))] [iV (t13)] := by
          refine ax_istore (lv' := [(6, iV (t13)), (0, .ref (ad 14)), (1, iV (x1)), (2, iV (x2)), (3, iV (x3)), (4, iV ((36 * x1) + t5)), (5, iV ((36 * x1) + t7))]) cx dX6_spread_55 (by decide) rfl ?_
          refine ax_aload_n cx 1 dX6_spread_57 rfl rfl ?_
          refine ax_getf (q := 14) (ci := 6) (k := 12) (v := .ref (ad 8)) cx ⟨by decide, by decide⟩ rfl rfl hi_X6_spread_X6 (by decide) hl_X6_spread_35 rfl rfl dX6_spread_58 ?_
          refine ax_iload cx 5 dX6_spread_61 rfl ?_
          obtain ⟨g16, h⟩ := gd_some h
          refine ax_iald (n := 4608) cx (by decide) rfl rfl g16 dX6_spread_63 ?_
          refine ax_iload cx 0 dX6_spread_64 rfl ?_
          refine ax_iadd cx dX6_spread_66 ?_
          refine ax_aload_n cx 1 dX6_spread_67 rfl rfl ?_
          refine ax_getf (q := 14) (ci := 6) (k := 12) (v := .ref (ad 8)) cx ⟨by decide, by decide⟩ rfl rfl hi_X6_spread_X6 (by decide) hl_X6_spread_35 rfl rfl dX6_spread_68 ?_
          refine ax_iload cx 6 dX6_spread_71 rfl ?_
          obtain ⟨g17, h⟩ := gd_some h
          refine ax_iald (n := 4608) cx (by decide) rfl rfl g17 dX6_spread_73 ?_
          obtain ⟨g18, h⟩ := gd_some h
          obtain ⟨g19, h⟩ := gd_some h
          obtain ⟨t23, e25, h⟩ := ob h
          have J24 : G t23.2 96 [(0, .ref (ad 14)), (1, iV (x1)), (2, iV (t23.1)), (3, iV (x3)), (4, iV ((36 * x1) + t5)), (5, iV ((36 * x1) + t7)), (6, iV (t13))] [] := by
            refine ax_aload_n cx 0 dX6_spread_96 rfl rfl ?_
            refine ax_getf (q := 14) (ci := 6) (k := 12) (v := .ref (ad 8)) cx ⟨by decide, by decide⟩ rfl rfl hi_X6_spread_X6 (by decide) hl_X6_spread_35 rfl rfl dX6_spread_97 ?_
            refine ax_iload cx 5 dX6_spread_100 rfl ?_
            obtain ⟨g26, h⟩ := gd_some h
            refine ax_iald (n := 4608) cx (by decide) rfl rfl g26 dX6_spread_102 ?_
            refine ax_iload cx 6 dX6_spread_103 rfl ?_
            refine ax_iadd cx dX6_spread_105 ?_
            refine ax_aload_n cx 0 dX6_spread_106 rfl rfl ?_
            refine ax_getf (q := 14) (ci := 6) (k := 12) (v := .ref (ad 8)) cx ⟨by decide, by decide⟩ rfl rfl hi_X6_spread_X6 (by decide) hl_X6_spread_35 rfl rfl dX6_spread_107 ?_
            refine ax_iload cx 4 dX6_spread_110 rfl ?_
            obtain ⟨g27, h⟩ := gd_some h
            refine ax_iald (n := 4608) cx (by decide) rfl rfl g27 dX6_spread_112 ?_
            obtain ⟨g28, h⟩ := gd_some h
            obtain ⟨g29, h⟩ := gd_some h
            obtain ⟨t33, e35, h⟩ := ob h
            have J34 : G t33.2 135 [(0, .ref (ad 14)), (1, iV (x1)), (2, iV (t33.1)), (3, iV (x3))] [] := by
              refine ax_iinc (lv' := [(3, iV (x3 + 1)), (0, .ref (ad 14)), (1, iV (x1)), (2, iV (t33.1))]) cx 3 dX6_spread_135 rfl (by decide) rfl ?_
              refine ax_goto cx 10 dX6_spread_138 (by decide) ?_
              refine ax_lv cx [1, 2, 3, 0] rfl ?_
              exact ih _ _ _ _ _ h hJ
            clear h
            have h := e35
            clear e35
            refine ax_icmp_ge cx 135 dX6_spread_113 (by decide) g28 g29 (fun c30 => ?_) (fun c30 => ?_)
            · rw [if_pos c30] at h
              refine ax_lv cx [0, 1, 2, 3] rfl ?_
              cases h
              exact J34
            · rw [if_neg c30] at h
              refine ax_aload_n cx 0 dX6_spread_116 rfl rfl ?_
              refine ax_getf (q := 14) (ci := 6) (k := 12) (v := .ref (ad 8)) cx ⟨by decide, by decide⟩ rfl rfl hi_X6_spread_X6 (by decide) hl_X6_spread_35 rfl rfl dX6_spread_117 ?_
              refine ax_iload cx 4 dX6_spread_120 rfl ?_
              refine ax_aload_n cx 0 dX6_spread_122 rfl rfl ?_
              refine ax_getf (q := 14) (ci := 6) (k := 12) (v := .ref (ad 8)) cx ⟨by decide, by decide⟩ rfl rfl hi_X6_spread_X6 (by decide) hl_X6_spread_35 rfl rfl dX6_spread_123 ?_
              refine ax_iload cx 5 dX6_spread_126 rfl ?_
              obtain ⟨g31, h⟩ := gd_some h
              refine ax_iald (n := 4608) cx (by decide) rfl rfl g31 dX6_spread_128 ?_
              refine ax_iload cx 6 dX6_spread_129 rfl ?_
              refine ax_iadd cx dX6_spread_131 ?_
              obtain ⟨g32, h⟩ := gd_some h
              refine ax_iast (n := 4608) cx (by decide) rfl rfl g32 dX6_spread_132 ?_
              refine ax_iconst cx dX6_spread_133 ?_
              refine ax_istore_n (lv' := [(2, iV (1)), (0, .ref (ad 14)), (1, iV (x1)), (3, iV (x3)), (4, iV ((36 * x1) + t5)), (5, iV ((36 * x1) + t7)), (6, iV (t13))]) cx dX6_spread_134 rfl (by decide) rfl ?_
              refine ax_lv cx [1, 2, 0, 3] rfl ?_
              cases h
              exact J34
          clear h
          have h := e25
          clear e25
          refine ax_icmp_ge cx 96 dX6_spread_74 (by decide) g18 g19 (fun c20 => ?_) (fun c20 => ?_)
          · rw [if_pos c20] at h
            refine ax_lv cx [1, 2, 3, 4, 5, 6, 0] rfl ?_
            cases h
            exact J24
          · rw [if_neg c20] at h
            refine ax_aload_n cx 1 dX6_spread_77 rfl rfl ?_
            refine ax_getf (q := 14) (ci := 6) (k := 12) (v := .ref (ad 8)) cx ⟨by decide, by decide⟩ rfl rfl hi_X6_spread_X6 (by decide) hl_X6_spread_35 rfl rfl dX6_spread_78 ?_
            refine ax_iload cx 6 dX6_spread_81 rfl ?_
            refine ax_aload_n cx 1 dX6_spread_83 rfl rfl ?_
            refine ax_getf (q := 14) (ci := 6) (k := 12) (v := .ref (ad 8)) cx ⟨by decide, by decide⟩ rfl rfl hi_X6_spread_X6 (by decide) hl_X6_spread_35 rfl rfl dX6_spread_84 ?_
            refine ax_iload cx 5 dX6_spread_87 rfl ?_
            obtain ⟨g21, h⟩ := gd_some h
            refine ax_iald (n := 4608) cx (by decide) rfl rfl g21 dX6_spread_89 ?_
            refine ax_iload cx 0 dX6_spread_90 rfl ?_
            refine ax_iadd cx dX6_spread_92 ?_
            obtain ⟨g22, h⟩ := gd_some h
            refine ax_iast (n := 4608) cx (by decide) rfl rfl g22 dX6_spread_93 ?_
            refine ax_iconst cx dX6_spread_94 ?_
            refine ax_istore_n (lv' := [(2, iV (1)), (6, iV (t13)), (0, .ref (ad 14)), (1, iV (x1)), (3, iV (x3)), (4, iV ((36 * x1) + t5)), (5, iV ((36 * x1) + t7))]) cx dX6_spread_95 rfl (by decide) rfl ?_
            refine ax_lv cx [2, 3, 0, 4, 5, 6, 1] rfl ?_
            cases h
            exact J24
        clear h
        have h := e15
        clear e15
        refine ax_icmp_ne cx 50 dX6_spread_43 (by decide) g3 g9 (fun c10 => ?_) (fun c10 => ?_)
        · rw [if_pos c10] at h
          refine ax_iconst cx dX6_spread_46 ?_
          refine ax_goto cx 55 dX6_spread_47 (by decide) ?_
          refine ax_lv cx [2, 3, 4, 5, 1, 0] rfl ?_
          cases h
          exact J14
        · rw [if_neg c10] at h
          refine ax_aload_n cx 2 dX6_spread_50 rfl rfl ?_
          refine ax_iload_n cx 5 dX6_spread_51 rfl rfl ?_
          obtain ⟨t11, e12, h⟩ := ob h
          refine ax_callV (As := [iV (x3)]) (q := 14) (ci := 6) (n := 1) cx (kX6_costOfEdge l ad M x3 _ e12) gX6_spread_X6_costOfEdge rfl ⟨by decide, by decide⟩ rfl rfl ⟨rfl, rfl⟩ (by decide +kernel) rfl ⟨by decide, by decide⟩ rfl (Nat.le_of_ble_eq_true rfl) dX6_spread_52 ?_
          refine ax_lv cx [2, 3, 4, 5, 1, 0] rfl ?_
          cases h
          exact J14
  have L2 : ∀ (n : Nat) (M : Mem) (x1 : Int) (x2 : Int) (T40 : Mem), fX6_spread_L2 n M x1 x2 = some T40 → (G T40 144 [] []) → G M 2 [(0, .ref (ad 14)), (1, iV (x1)), (2, iV (x2))] [] := by
    intro n
    induction n with
    | zero =>
      intro M x1 x2 T40 h
      exact absurd h (by simp [fX6_spread_L2])
    | succ n ih =>
      intro M x1 x2 T40 h hJ
      rw [fX6_spread_L2] at h
      refine ax_iload_n cx 2 dX6_spread_2 rfl rfl ?_
      obtain ⟨g1, h⟩ := gd_some h
      refine ax_if_eq cx 144 dX6_spread_3 (by decide) g1 (fun c2 => ?_) (fun c2 => ?_)
      · rw [if_pos c2] at h
        refine ax_lv cx [] rfl ?_
        cases h
        exact hJ
      · rw [if_neg c2] at h
        refine ax_iconst cx dX6_spread_6 ?_
        refine ax_istore_n (lv' := [(2, iV (0)), (0, .ref (ad 14)), (1, iV (x1))]) cx dX6_spread_7 rfl (by decide) rfl ?_
        refine ax_iconst cx dX6_spread_8 ?_
        refine ax_istore_n (lv' := [(3, iV (0)), (2, iV (0)), (0, .ref (ad 14)), (1, iV (x1))]) cx dX6_spread_9 rfl (by decide) rfl ?_
        obtain ⟨t37, e38, h⟩ := ob h
        refine ax_lv cx [2, 3, 1, 0] rfl ?_
        have J39 : G t37.2 141 [(0, .ref (ad 14)), (1, iV (x1)), (2, iV (t37.1))] [] := by
          refine ax_goto cx 2 dX6_spread_141 (by decide) ?_
          exact ih _ _ _ _ h hJ
        exact L10 FU M x1 0 0 _ e38 J39
  unfold fX6_spread at h
  refine ax_iconst cx dX6_spread_0 ?_
  refine ax_istore_n (lv' := [(2, iV (1)), (0, .ref (ad 14)), (1, iV (x1))]) cx dX6_spread_1 rfl (by decide) rfl ?_
  obtain ⟨t41, e42, h⟩ := ob h
  refine ax_lv cx [1, 2, 0] rfl ?_
  have J43 : G t41 144 [] [] := by
    cases h
    exact ax_vret cx dX6_spread_144 rfl ⟨rfl, rfl⟩
  exact L2 FU M x1 1 _ e42 J43
def fX6_leastOf_L31 : Nat → Mem → Int → Int → Int → Int → Int → Option (Int)
  | 0, _, _, _, _, _, _ => none
  | n + 1, M, x1, x2, x3, x4, x5 =>
    gd (inR (x5)) (
    gd (inR (x1)) (
    if x1 ≤ x5 then (
      some (x4))
    else (
      gd (inR (x2)) (
      gd (inR (zshl 1 x5)) (
      Option.bind (if x2 = zshl 1 x5 then (
        gd (inB (x5) 7) (
        gd (inR (M 7 x5.toNat)) (
        gd (inR (x3)) (
        if M 7 x5.toNat = x3 then (
          some (0))
        else (
          some (x4))))))
      else (
        some (x4))) (fun t18 =>
      fX6_leastOf_L31 n M x1 x2 x3 t18 (x5 + 1)))))))
def fX6_leastOf_L73 : Nat → Mem → Int → Int → Int → Int → Int → Option (Int)
  | 0, _, _, _, _, _, _ => none
  | n + 1, M, x1, x2, x3, x4, x5 =>
    gd (inR (x5)) (
    gd (inR (x2)) (
    if x2 ≤ x5 then (
      some (x4))
    else (
      gd (inR (zand x5 (zxor x2 ((-1))))) (
      Option.bind (if zand x5 (zxor x2 ((-1))) = 0 then (
        gd (inB ((36 * x5) + x3) 4608) (
        gd (inB ((36 * (x2 - x5)) + x3) 4608) (
        gd (inR ((M 8 ((36 * x5) + x3).toNat) + (M 8 ((36 * (x2 - x5)) + x3).toNat))) (
        gd (inR (x4)) (
        Option.bind (if x4 ≤ (M 8 ((36 * x5) + x3).toNat) + (M 8 ((36 * (x2 - x5)) + x3).toNat) then (
          some (x4))
        else (
          some ((M 8 ((36 * x5) + x3).toNat) + (M 8 ((36 * (x2 - x5)) + x3).toNat)))) (fun t35 =>
        some (t35)))))))
      else (
        some (x4))) (fun t38 =>
      fX6_leastOf_L73 n M x1 x2 x3 t38 (x5 + 1))))))
def fX6_leastOf_L18 : Nat → Mem → Int → Int → Int → Option (Mem)
  | 0, _, _, _, _ => none
  | n + 1, M, x1, x2, x3 =>
    gd (inR (x3)) (
    if 36 ≤ x3 then (
      some (M))
    else (
      Option.bind (fX6_leastOf_L31 FU M x1 x2 x3 1000000000 0) (fun t22 =>
      Option.bind (fX6_leastOf_L73 FU M x1 x2 x3 t22 1) (fun t42 =>
      gd (inB ((36 * x2) + x3) 4608) (
      fX6_leastOf_L18 n (wr M 8 ((36 * x2) + x3).toNat t42) x1 x2 (x3 + 1))))))
def fX6_leastOf_L9 : Nat → Mem → Int → Int → Option (Mem)
  | 0, _, _, _ => none
  | n + 1, M, x1, x2 =>
    gd (inR (x2)) (
    gd (inR (zshl 1 x1)) (
    if zshl 1 x1 ≤ x2 then (
      some (M))
    else (
      Option.bind (fX6_leastOf_L18 FU M x1 x2 0) (fun t47 =>
      Option.bind (fX6_spread t47 x2) (fun t50 =>
      fX6_leastOf_L9 n t50 x1 (x2 + 1))))))
def fX6_leastOf (M : Mem) (x1 : Int) : Option (Int × Mem) :=
    gd (inR (x1)) (
    if 2 ≤ x1 then (
      Option.bind (fX6_leastOf_L9 FU M x1 1) (fun t53 =>
      gd (inB ((36 * ((zshl 1 x1) - 1)) + (t53 7 (0 : Int).toNat)) 4608) (
      some (t53 8 ((36 * ((zshl 1 x1) - 1)) + (t53 7 (0 : Int).toNat)).toNat, t53))))
    else (
      some (0, M)))
abbrev rmX6_leastOf : Room := { frames := 3, cells := 0, slots := 0, locals := 66 }
theorem hw_X6_leastOf_c85 : Cond.constant RX6 85 (1000000000) ∈ wsX6_leastOf := by decide +kernel
theorem hl_X6_leastOf_32 : Cond.fieldLink RX6 32 "PlateauBenchModel" "ends" "[I" ∈ wsX6_leastOf := by decide +kernel
theorem hl_X6_leastOf_35 : Cond.fieldLink RX6 35 "PlateauBenchModel" "nets" "[I" ∈ wsX6_leastOf := by decide +kernel
theorem hi_X6_leastOf_X6 : ∀ x ∈ u_ws RX6 TX6 19, x ∈ wsX6_leastOf := by decide +kernel
set_option maxRecDepth 100000 in
set_option maxHeartbeats 4000000 in
theorem kX6_leastOf (l : Launch) (ad : Nat → Nat) (M : Mem) (x1 : Int) (T : Int × Mem) (h : fX6_leastOf M x1 = some T) : MX l yX6_leastOf wsX6_leastOf rmX6_leastOf wM ad [.ref (ad 14), iV (x1)] M (some (iV (T.1))) T.2 := by
  refine MX.of (cc := cX6_leastOf) (nL := 7) (rt := (some .int)) (own := RX6) (by decide +kernel) rfl rfl (Nat.le_of_ble_eq_true rfl) wM_ok (fun G cx => ?_)
  show G M 0 [(0, .ref (ad 14)), (1, iV (x1))] []
  have L31 : ∀ (n : Nat) (M : Mem) (x1 : Int) (x2 : Int) (x3 : Int) (x4 : Int) (x5 : Int) (T21 : Int), fX6_leastOf_L31 n M x1 x2 x3 x4 x5 = some T21 → (G M 70 [(0, .ref (ad 14)), (1, iV (x1)), (2, iV (x2)), (3, iV (x3)), (4, iV (T21))] []) → G M 31 [(0, .ref (ad 14)), (1, iV (x1)), (2, iV (x2)), (3, iV (x3)), (4, iV (x4)), (5, iV (x5))] [] := by
    intro n
    induction n with
    | zero =>
      intro M x1 x2 x3 x4 x5 T21 h
      exact absurd h (by simp [fX6_leastOf_L31])
    | succ n ih =>
      intro M x1 x2 x3 x4 x5 T21 h hJ
      rw [fX6_leastOf_L31] at h
      refine ax_iload cx 5 dX6_leastOf_31 rfl ?_
      refine ax_iload_n cx 1 dX6_leastOf_33 rfl rfl ?_
      obtain ⟨g8, h⟩ := gd_some h
      obtain ⟨g9, h⟩ := gd_some h
      refine ax_icmp_ge cx 70 dX6_leastOf_34 (by decide) g8 g9 (fun c10 => ?_) (fun c10 => ?_)
      · rw [if_pos c10] at h
        refine ax_lv cx [0, 1, 2, 3, 4] rfl ?_
        cases h
        exact hJ
      · rw [if_neg c10] at h
        refine ax_iload_n cx 2 dX6_leastOf_37 rfl rfl ?_
        refine ax_iconst cx dX6_leastOf_38 ?_
        refine ax_iload cx 5 dX6_leastOf_39 rfl ?_
        refine ax_ishl cx dX6_leastOf_41 ?_
        obtain ⟨g11, h⟩ := gd_some h
        obtain ⟨g12, h⟩ := gd_some h
        obtain ⟨t18, e20, h⟩ := ob h
        have J19 : G M 62 [(0, .ref (ad 14)), (1, iV (x1)), (2, iV (x2)), (3, iV (x3)), (5, iV (x5))] [iV (t18)] := by
          refine ax_istore (lv' := [(4, iV (t18)), (0, .ref (ad 14)), (1, iV (x1)), (2, iV (x2)), (3, iV (x3)), (5, iV (x5))]) cx dX6_leastOf_62 (by decide) rfl ?_
          refine ax_iinc (lv' := [(5, iV (x5 + 1)), (4, iV (t18)), (0, .ref (ad 14)), (1, iV (x1)), (2, iV (x2)), (3, iV (x3))]) cx 5 dX6_leastOf_64 rfl (by decide) rfl ?_
          refine ax_goto cx 31 dX6_leastOf_67 (by decide) ?_
          refine ax_lv cx [2, 3, 4, 5, 1, 0] rfl ?_
          exact ih _ _ _ _ _ _ _ h hJ
        clear h
        have h := e20
        clear e20
        refine ax_icmp_ne cx 60 dX6_leastOf_42 (by decide) g11 g12 (fun c13 => ?_) (fun c13 => ?_)
        · rw [if_pos c13] at h
          refine ax_aload_n cx 0 dX6_leastOf_45 rfl rfl ?_
          refine ax_getf (q := 14) (ci := 6) (k := 11) (v := .ref (ad 7)) cx ⟨by decide, by decide⟩ rfl rfl hi_X6_leastOf_X6 (by decide) hl_X6_leastOf_32 rfl rfl dX6_leastOf_46 ?_
          refine ax_iload cx 5 dX6_leastOf_49 rfl ?_
          obtain ⟨g14, h⟩ := gd_some h
          refine ax_iald (n := 7) cx (by decide) rfl rfl g14 dX6_leastOf_51 ?_
          refine ax_iload_n cx 3 dX6_leastOf_52 rfl rfl ?_
          obtain ⟨g15, h⟩ := gd_some h
          obtain ⟨g16, h⟩ := gd_some h
          refine ax_icmp_ne cx 60 dX6_leastOf_53 (by decide) g15 g16 (fun c17 => ?_) (fun c17 => ?_)
          · rw [if_pos c17] at h
            refine ax_iconst cx dX6_leastOf_56 ?_
            refine ax_goto cx 62 dX6_leastOf_57 (by decide) ?_
            refine ax_lv cx [0, 1, 2, 3, 5] rfl ?_
            cases h
            exact J19
          · rw [if_neg c17] at h
            refine ax_iload cx 4 dX6_leastOf_60 rfl ?_
            refine ax_lv cx [0, 1, 2, 3, 5] rfl ?_
            cases h
            exact J19
        · rw [if_neg c13] at h
          refine ax_iload cx 4 dX6_leastOf_60 rfl ?_
          refine ax_lv cx [0, 1, 2, 3, 5] rfl ?_
          cases h
          exact J19
  have L73 : ∀ (n : Nat) (M : Mem) (x1 : Int) (x2 : Int) (x3 : Int) (x4 : Int) (x5 : Int) (T41 : Int), fX6_leastOf_L73 n M x1 x2 x3 x4 x5 = some T41 → (G M 139 [(0, .ref (ad 14)), (1, iV (x1)), (2, iV (x2)), (3, iV (x3)), (4, iV (T41))] []) → G M 73 [(0, .ref (ad 14)), (1, iV (x1)), (2, iV (x2)), (3, iV (x3)), (4, iV (x4)), (5, iV (x5))] [] := by
    intro n
    induction n with
    | zero =>
      intro M x1 x2 x3 x4 x5 T41 h
      exact absurd h (by simp [fX6_leastOf_L73])
    | succ n ih =>
      intro M x1 x2 x3 x4 x5 T41 h hJ
      rw [fX6_leastOf_L73] at h
      refine ax_iload cx 5 dX6_leastOf_73 rfl ?_
      refine ax_iload_n cx 2 dX6_leastOf_75 rfl rfl ?_
      obtain ⟨g25, h⟩ := gd_some h
      obtain ⟨g26, h⟩ := gd_some h
      refine ax_icmp_ge cx 139 dX6_leastOf_76 (by decide) g25 g26 (fun c27 => ?_) (fun c27 => ?_)
      · rw [if_pos c27] at h
        refine ax_lv cx [0, 1, 2, 3, 4] rfl ?_
        cases h
        exact hJ
      · rw [if_neg c27] at h
        refine ax_iload cx 5 dX6_leastOf_79 rfl ?_
        refine ax_iload_n cx 2 dX6_leastOf_81 rfl rfl ?_
        refine ax_iconst cx dX6_leastOf_82 ?_
        refine ax_ixor cx dX6_leastOf_83 ?_
        refine ax_iand cx dX6_leastOf_84 ?_
        obtain ⟨g28, h⟩ := gd_some h
        obtain ⟨t38, e40, h⟩ := ob h
        have J39 : G M 133 [(0, .ref (ad 14)), (1, iV (x1)), (2, iV (x2)), (3, iV (x3)), (4, iV (t38)), (5, iV (x5))] [] := by
          refine ax_iinc (lv' := [(5, iV (x5 + 1)), (0, .ref (ad 14)), (1, iV (x1)), (2, iV (x2)), (3, iV (x3)), (4, iV (t38))]) cx 5 dX6_leastOf_133 rfl (by decide) rfl ?_
          refine ax_goto cx 73 dX6_leastOf_136 (by decide) ?_
          refine ax_lv cx [1, 2, 3, 4, 5, 0] rfl ?_
          exact ih _ _ _ _ _ _ _ h hJ
        clear h
        have h := e40
        clear e40
        refine ax_if_ne cx 133 dX6_leastOf_85 (by decide) g28 (fun c29 => ?_) (fun c29 => ?_)
        · rw [if_pos c29] at h
          refine ax_aload_n cx 0 dX6_leastOf_88 rfl rfl ?_
          refine ax_getf (q := 14) (ci := 6) (k := 12) (v := .ref (ad 8)) cx ⟨by decide, by decide⟩ rfl rfl hi_X6_leastOf_X6 (by decide) hl_X6_leastOf_35 rfl rfl dX6_leastOf_89 ?_
          refine ax_bipush (z := 36) cx dX6_leastOf_92 (by decide) ?_
          refine ax_iload cx 5 dX6_leastOf_94 rfl ?_
          refine ax_imul cx dX6_leastOf_96 ?_
          refine ax_iload_n cx 3 dX6_leastOf_97 rfl rfl ?_
          refine ax_iadd cx dX6_leastOf_98 ?_
          obtain ⟨g30, h⟩ := gd_some h
          refine ax_iald (n := 4608) cx (by decide) rfl rfl g30 dX6_leastOf_99 ?_
          refine ax_aload_n cx 0 dX6_leastOf_100 rfl rfl ?_
          refine ax_getf (q := 14) (ci := 6) (k := 12) (v := .ref (ad 8)) cx ⟨by decide, by decide⟩ rfl rfl hi_X6_leastOf_X6 (by decide) hl_X6_leastOf_35 rfl rfl dX6_leastOf_101 ?_
          refine ax_bipush (z := 36) cx dX6_leastOf_104 (by decide) ?_
          refine ax_iload_n cx 2 dX6_leastOf_106 rfl rfl ?_
          refine ax_iload cx 5 dX6_leastOf_107 rfl ?_
          refine ax_isub cx dX6_leastOf_109 ?_
          refine ax_imul cx dX6_leastOf_110 ?_
          refine ax_iload_n cx 3 dX6_leastOf_111 rfl rfl ?_
          refine ax_iadd cx dX6_leastOf_112 ?_
          obtain ⟨g31, h⟩ := gd_some h
          refine ax_iald (n := 4608) cx (by decide) rfl rfl g31 dX6_leastOf_113 ?_
          refine ax_iadd cx dX6_leastOf_114 ?_
          refine ax_istore (lv' := [(6, iV ((M 8 ((36 * x5) + x3).toNat) + (M 8 ((36 * (x2 - x5)) + x3).toNat))), (0, .ref (ad 14)), (1, iV (x1)), (2, iV (x2)), (3, iV (x3)), (4, iV (x4)), (5, iV (x5))]) cx dX6_leastOf_115 (by decide) rfl ?_
          refine ax_iload cx 0 dX6_leastOf_117 rfl ?_
          refine ax_iload cx 5 dX6_leastOf_119 rfl ?_
          obtain ⟨g32, h⟩ := gd_some h
          obtain ⟨g33, h⟩ := gd_some h
          obtain ⟨t35, e37, h⟩ := ob h
          have J36 : G M 131 [(0, .ref (ad 14)), (1, iV (x1)), (2, iV (x2)), (3, iV (x3)), (5, iV (x5))] [iV (t35)] := by
            refine ax_istore (lv' := [(4, iV (t35)), (0, .ref (ad 14)), (1, iV (x1)), (2, iV (x2)), (3, iV (x3)), (5, iV (x5))]) cx dX6_leastOf_131 (by decide) rfl ?_
            refine ax_lv cx [1, 2, 3, 4, 0, 5] rfl ?_
            cases h
            exact J39
          clear h
          have h := e37
          clear e37
          refine ax_icmp_ge cx 129 dX6_leastOf_121 (by decide) g32 g33 (fun c34 => ?_) (fun c34 => ?_)
          · rw [if_pos c34] at h
            refine ax_iload cx 5 dX6_leastOf_129 rfl ?_
            refine ax_lv cx [1, 2, 3, 4, 6] rfl ?_
            cases h
            exact J36
          · rw [if_neg c34] at h
            refine ax_iload cx 0 dX6_leastOf_124 rfl ?_
            refine ax_goto cx 131 dX6_leastOf_126 (by decide) ?_
            refine ax_lv cx [1, 2, 3, 4, 6] rfl ?_
            cases h
            exact J36
        · rw [if_neg c29] at h
          cases h
          exact J39
  have L18 : ∀ (n : Nat) (M : Mem) (x1 : Int) (x2 : Int) (x3 : Int) (T46 : Mem), fX6_leastOf_L18 n M x1 x2 x3 = some T46 → (G T46 158 [(0, .ref (ad 14)), (1, iV (x1)), (2, iV (x2))] []) → G M 18 [(0, .ref (ad 14)), (1, iV (x1)), (2, iV (x2)), (3, iV (x3))] [] := by
    intro n
    induction n with
    | zero =>
      intro M x1 x2 x3 T46 h
      exact absurd h (by simp [fX6_leastOf_L18])
    | succ n ih =>
      intro M x1 x2 x3 T46 h hJ
      rw [fX6_leastOf_L18] at h
      refine ax_iload_n cx 3 dX6_leastOf_18 rfl rfl ?_
      refine ax_bipush (z := 36) cx dX6_leastOf_19 (by decide) ?_
      obtain ⟨g6, h⟩ := gd_some h
      refine ax_icmp_ge cx 158 dX6_leastOf_21 (by decide) g6 ⟨by decide, by decide⟩ (fun c7 => ?_) (fun c7 => ?_)
      · rw [if_pos c7] at h
        refine ax_lv cx [0, 1, 2] rfl ?_
        cases h
        exact hJ
      · rw [if_neg c7] at h
        refine ax_ldc (z := 1000000000) cx dX6_leastOf_24 hw_X6_leastOf_c85 (by decide) ?_
        refine ax_istore (lv' := [(4, iV (1000000000)), (0, .ref (ad 14)), (1, iV (x1)), (2, iV (x2)), (3, iV (x3))]) cx dX6_leastOf_26 (by decide) rfl ?_
        refine ax_iconst cx dX6_leastOf_28 ?_
        refine ax_istore (lv' := [(5, iV (0)), (4, iV (1000000000)), (0, .ref (ad 14)), (1, iV (x1)), (2, iV (x2)), (3, iV (x3))]) cx dX6_leastOf_29 (by decide) rfl ?_
        obtain ⟨t22, e23, h⟩ := ob h
        refine ax_lv cx [2, 3, 4, 5, 1, 0] rfl ?_
        have J24 : G M 70 [(0, .ref (ad 14)), (1, iV (x1)), (2, iV (x2)), (3, iV (x3)), (4, iV (t22))] [] := by
          refine ax_iconst cx dX6_leastOf_70 ?_
          refine ax_istore (lv' := [(5, iV (1)), (0, .ref (ad 14)), (1, iV (x1)), (2, iV (x2)), (3, iV (x3)), (4, iV (t22))]) cx dX6_leastOf_71 (by decide) rfl ?_
          obtain ⟨t42, e43, h⟩ := ob h
          refine ax_lv cx [1, 2, 3, 4, 5, 0] rfl ?_
          have J44 : G M 139 [(0, .ref (ad 14)), (1, iV (x1)), (2, iV (x2)), (3, iV (x3)), (4, iV (t42))] [] := by
            refine ax_aload_n cx 0 dX6_leastOf_139 rfl rfl ?_
            refine ax_getf (q := 14) (ci := 6) (k := 12) (v := .ref (ad 8)) cx ⟨by decide, by decide⟩ rfl rfl hi_X6_leastOf_X6 (by decide) hl_X6_leastOf_35 rfl rfl dX6_leastOf_140 ?_
            refine ax_bipush (z := 36) cx dX6_leastOf_143 (by decide) ?_
            refine ax_iload_n cx 2 dX6_leastOf_145 rfl rfl ?_
            refine ax_imul cx dX6_leastOf_146 ?_
            refine ax_iload_n cx 3 dX6_leastOf_147 rfl rfl ?_
            refine ax_iadd cx dX6_leastOf_148 ?_
            refine ax_iload cx 4 dX6_leastOf_149 rfl ?_
            obtain ⟨g45, h⟩ := gd_some h
            refine ax_iast (n := 4608) cx (by decide) rfl rfl g45 dX6_leastOf_151 ?_
            refine ax_iinc (lv' := [(3, iV (x3 + 1)), (0, .ref (ad 14)), (1, iV (x1)), (2, iV (x2)), (4, iV (t42))]) cx 3 dX6_leastOf_152 rfl (by decide) rfl ?_
            refine ax_goto cx 18 dX6_leastOf_155 (by decide) ?_
            refine ax_lv cx [1, 2, 3, 0] rfl ?_
            exact ih _ _ _ _ _ h hJ
          exact L73 FU M x1 x2 x3 t22 1 _ e43 J44
        exact L31 FU M x1 x2 x3 1000000000 0 _ e23 J24
  have L9 : ∀ (n : Nat) (M : Mem) (x1 : Int) (x2 : Int) (T52 : Mem), fX6_leastOf_L9 n M x1 x2 = some T52 → (G T52 169 [(0, .ref (ad 14)), (1, iV (x1))] []) → G M 9 [(0, .ref (ad 14)), (1, iV (x1)), (2, iV (x2))] [] := by
    intro n
    induction n with
    | zero =>
      intro M x1 x2 T52 h
      exact absurd h (by simp [fX6_leastOf_L9])
    | succ n ih =>
      intro M x1 x2 T52 h hJ
      rw [fX6_leastOf_L9] at h
      refine ax_iload_n cx 2 dX6_leastOf_9 rfl rfl ?_
      refine ax_iconst cx dX6_leastOf_10 ?_
      refine ax_iload_n cx 1 dX6_leastOf_11 rfl rfl ?_
      refine ax_ishl cx dX6_leastOf_12 ?_
      obtain ⟨g3, h⟩ := gd_some h
      obtain ⟨g4, h⟩ := gd_some h
      refine ax_icmp_ge cx 169 dX6_leastOf_13 (by decide) g3 g4 (fun c5 => ?_) (fun c5 => ?_)
      · rw [if_pos c5] at h
        refine ax_lv cx [0, 1] rfl ?_
        cases h
        exact hJ
      · rw [if_neg c5] at h
        refine ax_iconst cx dX6_leastOf_16 ?_
        refine ax_istore_n (lv' := [(3, iV (0)), (0, .ref (ad 14)), (1, iV (x1)), (2, iV (x2))]) cx dX6_leastOf_17 rfl (by decide) rfl ?_
        obtain ⟨t47, e48, h⟩ := ob h
        refine ax_lv cx [1, 2, 3, 0] rfl ?_
        have J49 : G t47 158 [(0, .ref (ad 14)), (1, iV (x1)), (2, iV (x2))] [] := by
          refine ax_aload_n cx 0 dX6_leastOf_158 rfl rfl ?_
          refine ax_iload_n cx 2 dX6_leastOf_159 rfl rfl ?_
          obtain ⟨t50, e51, h⟩ := ob h
          refine ax_callV (As := [iV (x2)]) (q := 14) (ci := 6) (n := 1) cx (kX6_spread l ad t47 x2 _ e51) gX6_leastOf_X6_spread rfl ⟨by decide, by decide⟩ rfl rfl ⟨rfl, rfl⟩ (by decide +kernel) rfl ⟨by decide, by decide⟩ rfl (Nat.le_of_ble_eq_true rfl) dX6_leastOf_160 ?_
          refine ax_iinc (lv' := [(2, iV (x2 + 1)), (0, .ref (ad 14)), (1, iV (x1))]) cx 2 dX6_leastOf_163 rfl (by decide) rfl ?_
          refine ax_goto cx 9 dX6_leastOf_166 (by decide) ?_
          refine ax_lv cx [1, 2, 0] rfl ?_
          exact ih _ _ _ _ h hJ
        exact L18 FU M x1 x2 0 _ e48 J49
  unfold fX6_leastOf at h
  refine ax_iload_n cx 1 dX6_leastOf_0 rfl rfl ?_
  refine ax_iconst cx dX6_leastOf_1 ?_
  obtain ⟨g1, h⟩ := gd_some h
  refine ax_icmp_ge cx 7 dX6_leastOf_2 (by decide) g1 ⟨by decide, by decide⟩ (fun c2 => ?_) (fun c2 => ?_)
  · rw [if_pos c2] at h
    refine ax_iconst cx dX6_leastOf_7 ?_
    refine ax_istore_n (lv' := [(2, iV (1)), (0, .ref (ad 14)), (1, iV (x1))]) cx dX6_leastOf_8 rfl (by decide) rfl ?_
    obtain ⟨t53, e54, h⟩ := ob h
    refine ax_lv cx [1, 2, 0] rfl ?_
    have J55 : G t53 169 [(0, .ref (ad 14)), (1, iV (x1))] [] := by
      refine ax_aload_n cx 0 dX6_leastOf_169 rfl rfl ?_
      refine ax_getf (q := 14) (ci := 6) (k := 12) (v := .ref (ad 8)) cx ⟨by decide, by decide⟩ rfl rfl hi_X6_leastOf_X6 (by decide) hl_X6_leastOf_35 rfl rfl dX6_leastOf_170 ?_
      refine ax_bipush (z := 36) cx dX6_leastOf_173 (by decide) ?_
      refine ax_iconst cx dX6_leastOf_175 ?_
      refine ax_iload_n cx 1 dX6_leastOf_176 rfl rfl ?_
      refine ax_ishl cx dX6_leastOf_177 ?_
      refine ax_iconst cx dX6_leastOf_178 ?_
      refine ax_isub cx dX6_leastOf_179 ?_
      refine ax_imul cx dX6_leastOf_180 ?_
      refine ax_aload_n cx 0 dX6_leastOf_181 rfl rfl ?_
      refine ax_getf (q := 14) (ci := 6) (k := 11) (v := .ref (ad 7)) cx ⟨by decide, by decide⟩ rfl rfl hi_X6_leastOf_X6 (by decide) hl_X6_leastOf_32 rfl rfl dX6_leastOf_182 ?_
      refine ax_iconst cx dX6_leastOf_185 ?_
      refine ax_iald (n := 7) cx (by decide) rfl rfl ⟨by decide, by decide⟩ dX6_leastOf_186 ?_
      refine ax_iadd cx dX6_leastOf_187 ?_
      obtain ⟨g56, h⟩ := gd_some h
      refine ax_iald (n := 4608) cx (by decide) rfl rfl g56 dX6_leastOf_188 ?_
      cases h
      exact ax_iret cx dX6_leastOf_189 rfl ⟨rfl, rfl⟩
    exact L9 FU M x1 1 _ e54 J55
  · rw [if_neg c2] at h
    refine ax_iconst cx dX6_leastOf_5 ?_
    cases h
    exact ax_iret cx dX6_leastOf_6 rfl ⟨rfl, rfl⟩
def fX6_leastNow_L2 : Nat → Mem → Int → Option (Mem)
  | 0, _, _ => none
  | n + 1, M, x1 =>
    gd (inR (x1)) (
    gd (inR (M 101 0)) (
    if M 101 0 ≤ x1 then (
      some (M))
    else (
      gd (inB (x1) 6) (
      gd (inB (x1) 7) (
      fX6_leastNow_L2 n (wr M 7 x1.toNat (M 2 x1.toNat)) (x1 + 1))))))
def fX6_leastNow (M : Mem)  : Option (Int × Mem) :=
    Option.bind (fX6_leastNow_L2 FU M 0) (fun t7 =>
    Option.bind (fX6_leastOf t7 (t7 101 0)) (fun t10 =>
    some (t10.1, t10.2)))
abbrev rmX6_leastNow : Room := { frames := 4, cells := 0, slots := 0, locals := 92 }
theorem hl_X6_leastNow_100 : Cond.fieldLink RX6 100 "PlateauBenchModel" "towns" "I" ∈ wsX6_leastNow := by decide +kernel
theorem hl_X6_leastNow_32 : Cond.fieldLink RX6 32 "PlateauBenchModel" "ends" "[I" ∈ wsX6_leastNow := by decide +kernel
theorem hl_X6_leastNow_16 : Cond.fieldLink RX6 16 "PlateauBenchModel" "townNodes" "[I" ∈ wsX6_leastNow := by decide +kernel
theorem hi_X6_leastNow_X6 : ∀ x ∈ u_ws RX6 TX6 19, x ∈ wsX6_leastNow := by decide +kernel
set_option maxRecDepth 100000 in
set_option maxHeartbeats 4000000 in
theorem kX6_leastNow (l : Launch) (ad : Nat → Nat) (M : Mem)  (T : Int × Mem) (h : fX6_leastNow M  = some T) : MX l yX6_leastNow wsX6_leastNow rmX6_leastNow wM ad [.ref (ad 14)] M (some (iV (T.1))) T.2 := by
  refine MX.of (cc := cX6_leastNow) (nL := 2) (rt := (some .int)) (own := RX6) (by decide +kernel) rfl rfl (Nat.le_of_ble_eq_true rfl) wM_ok (fun G cx => ?_)
  show G M 0 [(0, .ref (ad 14))] []
  have L2 : ∀ (n : Nat) (M : Mem) (x1 : Int) (T6 : Mem), fX6_leastNow_L2 n M x1 = some T6 → (G T6 28 [(0, .ref (ad 14))] []) → G M 2 [(0, .ref (ad 14)), (1, iV (x1))] [] := by
    intro n
    induction n with
    | zero =>
      intro M x1 T6 h
      exact absurd h (by simp [fX6_leastNow_L2])
    | succ n ih =>
      intro M x1 T6 h hJ
      rw [fX6_leastNow_L2] at h
      refine ax_iload_n cx 1 dX6_leastNow_2 rfl rfl ?_
      refine ax_aload_n cx 0 dX6_leastNow_3 rfl rfl ?_
      refine ax_getf (q := 14) (ci := 6) (k := 3) (v := iV (M 101 0)) cx ⟨by decide, by decide⟩ rfl rfl hi_X6_leastNow_X6 (by decide) hl_X6_leastNow_100 rfl rfl dX6_leastNow_4 ?_
      obtain ⟨g1, h⟩ := gd_some h
      obtain ⟨g2, h⟩ := gd_some h
      refine ax_icmp_ge cx 28 dX6_leastNow_7 (by decide) g1 g2 (fun c3 => ?_) (fun c3 => ?_)
      · rw [if_pos c3] at h
        refine ax_lv cx [0] rfl ?_
        cases h
        exact hJ
      · rw [if_neg c3] at h
        refine ax_aload_n cx 0 dX6_leastNow_10 rfl rfl ?_
        refine ax_getf (q := 14) (ci := 6) (k := 11) (v := .ref (ad 7)) cx ⟨by decide, by decide⟩ rfl rfl hi_X6_leastNow_X6 (by decide) hl_X6_leastNow_32 rfl rfl dX6_leastNow_11 ?_
        refine ax_iload_n cx 1 dX6_leastNow_14 rfl rfl ?_
        refine ax_aload_n cx 0 dX6_leastNow_15 rfl rfl ?_
        refine ax_getf (q := 14) (ci := 6) (k := 4) (v := .ref (ad 2)) cx ⟨by decide, by decide⟩ rfl rfl hi_X6_leastNow_X6 (by decide) hl_X6_leastNow_16 rfl rfl dX6_leastNow_16 ?_
        refine ax_iload_n cx 1 dX6_leastNow_19 rfl rfl ?_
        obtain ⟨g4, h⟩ := gd_some h
        refine ax_iald (n := 6) cx (by decide) rfl rfl g4 dX6_leastNow_20 ?_
        obtain ⟨g5, h⟩ := gd_some h
        refine ax_iast (n := 7) cx (by decide) rfl rfl g5 dX6_leastNow_21 ?_
        refine ax_iinc (lv' := [(1, iV (x1 + 1)), (0, .ref (ad 14))]) cx 1 dX6_leastNow_22 rfl (by decide) rfl ?_
        refine ax_goto cx 2 dX6_leastNow_25 (by decide) ?_
        refine ax_lv cx [1, 0] rfl ?_
        exact ih _ _ _ h hJ
  unfold fX6_leastNow at h
  refine ax_iconst cx dX6_leastNow_0 ?_
  refine ax_istore_n (lv' := [(1, iV (0)), (0, .ref (ad 14))]) cx dX6_leastNow_1 rfl (by decide) rfl ?_
  obtain ⟨t7, e8, h⟩ := ob h
  refine ax_lv cx [1, 0] rfl ?_
  have J9 : G t7 28 [(0, .ref (ad 14))] [] := by
    refine ax_aload_n cx 0 dX6_leastNow_28 rfl rfl ?_
    refine ax_aload_n cx 0 dX6_leastNow_29 rfl rfl ?_
    refine ax_getf (q := 14) (ci := 6) (k := 3) (v := iV (t7 101 0)) cx ⟨by decide, by decide⟩ rfl rfl hi_X6_leastNow_X6 (by decide) hl_X6_leastNow_100 rfl rfl dX6_leastNow_30 ?_
    obtain ⟨t10, e11, h⟩ := ob h
    refine ax_callV (As := [iV (t7 101 0)]) (q := 14) (ci := 6) (n := 1) cx (kX6_leastOf l ad t7 (t7 101 0) _ e11) gX6_leastNow_X6_leastOf rfl ⟨by decide, by decide⟩ rfl rfl ⟨rfl, rfl⟩ (by decide +kernel) rfl ⟨by decide, by decide⟩ rfl (Nat.le_of_ble_eq_true rfl) dX6_leastNow_33 ?_
    cases h
    exact ax_iret cx dX6_leastNow_36 rfl ⟨rfl, rfl⟩
  exact L2 FU M 0 _ e8 J9
def fX6_least (M : Mem)  : Option (Int × Mem) :=
    Option.bind (fX6_leastNow (wr M 100 0 0)) (fun t1 =>
    some (t1.1, t1.2))
abbrev rmX6_least : Room := { frames := 5, cells := 0, slots := 0, locals := 113 }
theorem hl_X6_least_57 : Cond.fieldLink RX6 57 "PlateauBenchModel" "thrown" "I" ∈ wsX6_least := by decide +kernel
theorem hi_X6_least_X6 : ∀ x ∈ u_ws RX6 TX6 19, x ∈ wsX6_least := by decide +kernel
set_option maxRecDepth 100000 in
set_option maxHeartbeats 4000000 in
theorem kX6_least (l : Launch) (ad : Nat → Nat) (M : Mem)  (T : Int × Mem) (h : fX6_least M  = some T) : MX l yX6_least wsX6_least rmX6_least wM ad [.ref (ad 14)] M (some (iV (T.1))) T.2 := by
  refine MX.of (cc := cX6_least) (nL := 1) (rt := (some .int)) (own := RX6) (by decide +kernel) rfl rfl (Nat.le_of_ble_eq_true rfl) wM_ok (fun G cx => ?_)
  show G M 0 [(0, .ref (ad 14))] []
  unfold fX6_least at h
  refine ax_aload_n cx 0 dX6_least_0 rfl rfl ?_
  refine ax_iconst cx dX6_least_1 ?_
  refine ax_putf (q := 14) (ci := 6) (k := 0) (f := 100) (ty := .int) cx ⟨by decide, by decide⟩ rfl rfl hi_X6_least_X6 tyX6 tyX6_ok nmX6 (by decide) hl_X6_least_57 rfl (by decide +kernel) (by decide +kernel) rfl rfl (Nat.le_of_ble_eq_true rfl) (by decide) rfl (putM_100 ad _ _) dX6_least_2 ?_
  refine ax_aload_n cx 0 dX6_least_5 rfl rfl ?_
  obtain ⟨t1, e2, h⟩ := ob h
  refine ax_callV (As := []) (q := 14) (ci := 6) (n := 0) cx (kX6_leastNow l ad (wr M 100 0 0)  _ e2) gX6_least_X6_leastNow rfl ⟨by decide, by decide⟩ rfl rfl ⟨rfl, rfl⟩ (by decide +kernel) rfl ⟨by decide, by decide⟩ rfl (Nat.le_of_ble_eq_true rfl) dX6_least_6 ?_
  cases h
  exact ax_iret cx dX6_least_9 rfl ⟨rfl, rfl⟩
def fX6_leastAnew (M : Mem)  : Option (Int × Mem) :=
    gd (inR ((wr M 100 0 0) 101 0)) (
    Option.bind (if (wr M 100 0 0) 101 0 ≤ 4 then (
      Option.bind (fX6_leastNow (wr M 100 0 0)) (fun t3 =>
      some (t3.1, t3.2)))
    else (
      some ((-1), (wr M 100 0 0)))) (fun t5 =>
    some (t5.1, t5.2)))
abbrev rmX6_leastAnew : Room := { frames := 5, cells := 0, slots := 0, locals := 113 }
theorem hl_X6_leastAnew_57 : Cond.fieldLink RX6 57 "PlateauBenchModel" "thrown" "I" ∈ wsX6_leastAnew := by decide +kernel
theorem hl_X6_leastAnew_100 : Cond.fieldLink RX6 100 "PlateauBenchModel" "towns" "I" ∈ wsX6_leastAnew := by decide +kernel
theorem hi_X6_leastAnew_X6 : ∀ x ∈ u_ws RX6 TX6 19, x ∈ wsX6_leastAnew := by decide +kernel
set_option maxRecDepth 100000 in
set_option maxHeartbeats 4000000 in
theorem kX6_leastAnew (l : Launch) (ad : Nat → Nat) (M : Mem)  (T : Int × Mem) (h : fX6_leastAnew M  = some T) : MX l yX6_leastAnew wsX6_leastAnew rmX6_leastAnew wM ad [.ref (ad 14)] M (some (iV (T.1))) T.2 := by
  refine MX.of (cc := cX6_leastAnew) (nL := 1) (rt := (some .int)) (own := RX6) (by decide +kernel) rfl rfl (Nat.le_of_ble_eq_true rfl) wM_ok (fun G cx => ?_)
  show G M 0 [(0, .ref (ad 14))] []
  unfold fX6_leastAnew at h
  refine ax_aload_n cx 0 dX6_leastAnew_0 rfl rfl ?_
  refine ax_iconst cx dX6_leastAnew_1 ?_
  refine ax_putf (q := 14) (ci := 6) (k := 0) (f := 100) (ty := .int) cx ⟨by decide, by decide⟩ rfl rfl hi_X6_leastAnew_X6 tyX6 tyX6_ok nmX6 (by decide) hl_X6_leastAnew_57 rfl (by decide +kernel) (by decide +kernel) rfl rfl (Nat.le_of_ble_eq_true rfl) (by decide) rfl (putM_100 ad _ _) dX6_leastAnew_2 ?_
  refine ax_aload_n cx 0 dX6_leastAnew_5 rfl rfl ?_
  refine ax_getf (q := 14) (ci := 6) (k := 3) (v := iV ((wr M 100 0 0) 101 0)) cx ⟨by decide, by decide⟩ rfl rfl hi_X6_leastAnew_X6 (by decide) hl_X6_leastAnew_100 rfl rfl dX6_leastAnew_6 ?_
  refine ax_iconst cx dX6_leastAnew_9 ?_
  obtain ⟨g1, h⟩ := gd_some h
  obtain ⟨t5, e7, h⟩ := ob h
  have J6 : G t5.2 21 [] [iV (t5.1)] := by
    cases h
    exact ax_iret cx dX6_leastAnew_21 rfl ⟨rfl, rfl⟩
  clear h
  have h := e7
  clear e7
  refine ax_icmp_le cx 17 dX6_leastAnew_10 (by decide) g1 ⟨by decide, by decide⟩ (fun c2 => ?_) (fun c2 => ?_)
  · rw [if_pos c2] at h
    refine ax_aload_n cx 0 dX6_leastAnew_17 rfl rfl ?_
    obtain ⟨t3, e4, h⟩ := ob h
    refine ax_callV (As := []) (q := 14) (ci := 6) (n := 0) cx (kX6_leastNow l ad (wr M 100 0 0)  _ e4) gX6_leastAnew_X6_leastNow rfl ⟨by decide, by decide⟩ rfl rfl ⟨rfl, rfl⟩ (by decide +kernel) rfl ⟨by decide, by decide⟩ rfl (Nat.le_of_ble_eq_true rfl) dX6_leastAnew_18 ?_
    refine ax_lv cx [] rfl ?_
    cases h
    exact J6
  · rw [if_neg c2] at h
    refine ax_iconst cx dX6_leastAnew_13 ?_
    refine ax_goto cx 21 dX6_leastAnew_14 (by decide) ?_
    refine ax_lv cx [] rfl ?_
    cases h
    exact J6
def fX6_treeOfPairs_L24 : Nat → Mem → Int → Int → Int → Int → Int → Int → Option (Int × Int × Mem)
  | 0, _, _, _, _, _, _, _ => none
  | n + 1, M, x1, x2, x3, x4, x5, x6 =>
    gd (inR (x6)) (
    gd (inR ((M 101 0) * (M 101 0))) (
    if (M 101 0) * (M 101 0) ≤ x6 then (
      some (x4, x5, M))
    else (
      gd ((0 ≤ x6 ∧ x6 < 2147483648) ∧ 0 < M 101 0 ∧ M 101 0 < 2147483648) (
      gd ((0 ≤ x6 ∧ x6 < 2147483648) ∧ 0 < M 101 0 ∧ M 101 0 < 2147483648) (
      gd (inR (zand (zshr x1 (x6 / (M 101 0))) 1)) (
      Option.bind (if zand (zshr x1 (x6 / (M 101 0))) 1 = 1 then (
        gd (inR (zand (zshr x1 (x6 % (M 101 0))) 1)) (
        if zand (zshr x1 (x6 % (M 101 0))) 1 = 0 then (
          some (1))
        else (
          some (0))))
      else (
        some (0))) (fun t13 =>
      gd (inR (t13)) (
      Option.bind (if t13 = 0 then (
        some (1000000000, M))
      else (
        gd (inB (x6 / (M 101 0)) 6) (
        gd (inB (x6 % (M 101 0)) 6) (
        Option.bind (fX6_apartFrom M (M 2 (x6 / (M 101 0)).toNat) (M 2 (x6 % (M 101 0)).toNat)) (fun t20 =>
        some (t20.1, t20.2)))))) (fun t22 =>
      gd (inR (t22.1)) (
      gd (inR (x5)) (
      Option.bind (if x5 ≤ t22.1 then (
        some (x4))
      else (
        some (x6 % (M 101 0)))) (fun t28 =>
      Option.bind (if x5 ≤ t22.1 then (
        some (x5))
      else (
        some (t22.1))) (fun t32 =>
      fX6_treeOfPairs_L24 n t22.2 x1 x2 x3 t28 t32 (x6 + 1))))))))))))))
def fX6_treeOfPairs_L6 : Nat → Mem → Int → Int → Int → Option (Int × Mem)
  | 0, _, _, _, _ => none
  | n + 1, M, x1, x2, x3 =>
    gd (inR (x3)) (
    gd (inR (M 101 0)) (
    if M 101 0 ≤ x3 then (
      some (x2, M))
    else (
      Option.bind (fX6_treeOfPairs_L24 FU M x1 x2 x3 ((-1)) 1000000000 0) (fun t36 =>
      fX6_treeOfPairs_L6 n t36.2.2 (zor x1 (zshl 1 t36.1)) (x2 + t36.2.1) (x3 + 1)))))
def fX6_treeOfPairs (M : Mem)  : Option (Int × Mem) :=
    Option.bind (fX6_treeOfPairs_L6 FU M 1 0 1) (fun t40 =>
    some (t40.1, t40.2))
abbrev rmX6_treeOfPairs : Room := { frames := 4, cells := 0, slots := 0, locals := 87 }
theorem hl_X6_treeOfPairs_100 : Cond.fieldLink RX6 100 "PlateauBenchModel" "towns" "I" ∈ wsX6_treeOfPairs := by decide +kernel
theorem hw_X6_treeOfPairs_c85 : Cond.constant RX6 85 (1000000000) ∈ wsX6_treeOfPairs := by decide +kernel
theorem hl_X6_treeOfPairs_16 : Cond.fieldLink RX6 16 "PlateauBenchModel" "townNodes" "[I" ∈ wsX6_treeOfPairs := by decide +kernel
theorem hi_X6_treeOfPairs_X6 : ∀ x ∈ u_ws RX6 TX6 19, x ∈ wsX6_treeOfPairs := by decide +kernel
set_option maxRecDepth 100000 in
set_option maxHeartbeats 4000000 in
theorem kX6_treeOfPairs (l : Launch) (ad : Nat → Nat) (M : Mem)  (T : Int × Mem) (h : fX6_treeOfPairs M  = some T) : MX l yX6_treeOfPairs wsX6_treeOfPairs rmX6_treeOfPairs wM ad [.ref (ad 14)] M (some (iV (T.1))) T.2 := by
  refine MX.of (cc := cX6_treeOfPairs) (nL := 11) (rt := (some .int)) (own := RX6) (by decide +kernel) rfl rfl (Nat.le_of_ble_eq_true rfl) wM_ok (fun G cx => ?_)
  show G M 0 [(0, .ref (ad 14))] []
  have L24 : ∀ (n : Nat) (M : Mem) (x1 : Int) (x2 : Int) (x3 : Int) (x4 : Int) (x5 : Int) (x6 : Int) (T35 : Int × Int × Mem), fX6_treeOfPairs_L24 n M x1 x2 x3 x4 x5 x6 = some T35 → (G T35.2.2 150 [(0, .ref (ad 14)), (1, iV (x1)), (2, iV (x2)), (3, iV (x3)), (4, iV (T35.1)), (5, iV (T35.2.1))] []) → G M 24 [(0, .ref (ad 14)), (1, iV (x1)), (2, iV (x2)), (3, iV (x3)), (4, iV (x4)), (5, iV (x5)), (6, iV (x6))] [] := by
    intro n
    induction n with
    | zero =>
      intro M x1 x2 x3 x4 x5 x6 T35 h
      exact absurd h (by simp [fX6_treeOfPairs_L24])
    | succ n ih =>
      intro M x1 x2 x3 x4 x5 x6 T35 h hJ
      rw [fX6_treeOfPairs_L24] at h
      refine ax_iload cx 6 dX6_treeOfPairs_24 rfl ?_
      refine ax_aload_n cx 0 dX6_treeOfPairs_26 rfl rfl ?_
      refine ax_getf (q := 14) (ci := 6) (k := 3) (v := iV (M 101 0)) cx ⟨by decide, by decide⟩ rfl rfl hi_X6_treeOfPairs_X6 (by decide) hl_X6_treeOfPairs_100 rfl rfl dX6_treeOfPairs_27 ?_
      refine ax_aload_n cx 0 dX6_treeOfPairs_30 rfl rfl ?_
      refine ax_getf (q := 14) (ci := 6) (k := 3) (v := iV (M 101 0)) cx ⟨by decide, by decide⟩ rfl rfl hi_X6_treeOfPairs_X6 (by decide) hl_X6_treeOfPairs_100 rfl rfl dX6_treeOfPairs_31 ?_
      refine ax_imul cx dX6_treeOfPairs_34 ?_
      obtain ⟨g4, h⟩ := gd_some h
      obtain ⟨g5, h⟩ := gd_some h
      refine ax_icmp_ge cx 150 dX6_treeOfPairs_35 (by decide) g4 g5 (fun c6 => ?_) (fun c6 => ?_)
      · rw [if_pos c6] at h
        refine ax_lv cx [0, 1, 2, 3, 4, 5] rfl ?_
        cases h
        exact hJ
      · rw [if_neg c6] at h
        refine ax_iload cx 6 dX6_treeOfPairs_38 rfl ?_
        refine ax_aload_n cx 0 dX6_treeOfPairs_40 rfl rfl ?_
        refine ax_getf (q := 14) (ci := 6) (k := 3) (v := iV (M 101 0)) cx ⟨by decide, by decide⟩ rfl rfl hi_X6_treeOfPairs_X6 (by decide) hl_X6_treeOfPairs_100 rfl rfl dX6_treeOfPairs_41 ?_
        obtain ⟨g7, h⟩ := gd_some h
        refine ax_idiv cx dX6_treeOfPairs_44 g7 ?_
        refine ax_istore (lv' := [(7, iV (x6 / (M 101 0))), (0, .ref (ad 14)), (1, iV (x1)), (2, iV (x2)), (3, iV (x3)), (4, iV (x4)), (5, iV (x5)), (6, iV (x6))]) cx dX6_treeOfPairs_45 (by decide) rfl ?_
        refine ax_iload cx 7 dX6_treeOfPairs_47 rfl ?_
        refine ax_aload_n cx 1 dX6_treeOfPairs_49 rfl rfl ?_
        refine ax_getf (q := 14) (ci := 6) (k := 3) (v := iV (M 101 0)) cx ⟨by decide, by decide⟩ rfl rfl hi_X6_treeOfPairs_X6 (by decide) hl_X6_treeOfPairs_100 rfl rfl dX6_treeOfPairs_50 ?_
        obtain ⟨g8, h⟩ := gd_some h
        refine ax_irem cx dX6_treeOfPairs_53 g8 ?_
        refine ax_istore (lv' := [(8, iV (x6 % (M 101 0))), (7, iV (x6 / (M 101 0))), (0, .ref (ad 14)), (1, iV (x1)), (2, iV (x2)), (3, iV (x3)), (4, iV (x4)), (5, iV (x5)), (6, iV (x6))]) cx dX6_treeOfPairs_54 (by decide) rfl ?_
        refine ax_iload_n cx 3 dX6_treeOfPairs_56 rfl rfl ?_
        refine ax_iload cx 1 dX6_treeOfPairs_57 rfl ?_
        refine ax_ishr cx dX6_treeOfPairs_59 ?_
        refine ax_iconst cx dX6_treeOfPairs_60 ?_
        refine ax_iand cx dX6_treeOfPairs_61 ?_
        refine ax_iconst cx dX6_treeOfPairs_62 ?_
        obtain ⟨g9, h⟩ := gd_some h
        obtain ⟨t13, e15, h⟩ := ob h
        have J14 : G M 80 [(0, .ref (ad 14)), (1, iV (x1)), (2, iV (x2)), (3, iV (x3)), (4, iV (x4)), (5, iV (x5)), (6, iV (x6)), (7, iV (x6 / (M 101 0))), (8, iV (x6 % (M 101 0)))] [iV (t13)] := by
          refine ax_istore (lv' := [(9, iV (t13)), (0, .ref (ad 14)), (1, iV (x1)), (2, iV (x2)), (3, iV (x3)), (4, iV (x4)), (5, iV (x5)), (6, iV (x6)), (7, iV (x6 / (M 101 0))), (8, iV (x6 % (M 101 0)))]) cx dX6_treeOfPairs_80 (by decide) rfl ?_
          refine ax_iload cx 0 dX6_treeOfPairs_82 rfl ?_
          obtain ⟨g16, h⟩ := gd_some h
          obtain ⟨t22, e24, h⟩ := ob h
          have J23 : G t22.2 110 [(0, .ref (ad 14)), (1, iV (x1)), (2, iV (x2)), (3, iV (x3)), (4, iV (x4)), (5, iV (x5)), (6, iV (x6)), (8, iV (x6 % (M 101 0)))] [iV (t22.1)] := by
            refine ax_istore (lv' := [(10, iV (t22.1)), (0, .ref (ad 14)), (1, iV (x1)), (2, iV (x2)), (3, iV (x3)), (4, iV (x4)), (5, iV (x5)), (6, iV (x6)), (8, iV (x6 % (M 101 0)))]) cx dX6_treeOfPairs_110 (by decide) rfl ?_
            refine ax_iload cx 0 dX6_treeOfPairs_112 rfl ?_
            refine ax_iload cx 6 dX6_treeOfPairs_114 rfl ?_
            obtain ⟨g25, h⟩ := gd_some h
            obtain ⟨g26, h⟩ := gd_some h
            obtain ⟨t28, e30, h⟩ := ob h
            have J29 : G t22.2 126 [(0, .ref (ad 14)), (1, iV (x1)), (2, iV (x2)), (3, iV (x3)), (5, iV (x5)), (6, iV (x6)), (10, iV (t22.1))] [iV (t28)] := by
              refine ax_istore (lv' := [(4, iV (t28)), (0, .ref (ad 14)), (1, iV (x1)), (2, iV (x2)), (3, iV (x3)), (5, iV (x5)), (6, iV (x6)), (10, iV (t22.1))]) cx dX6_treeOfPairs_126 (by decide) rfl ?_
              refine ax_iload cx 7 dX6_treeOfPairs_128 rfl ?_
              refine ax_iload cx 5 dX6_treeOfPairs_130 rfl ?_
              obtain ⟨t32, e34, h⟩ := ob h
              have J33 : G t22.2 142 [(0, .ref (ad 14)), (1, iV (x1)), (2, iV (x2)), (3, iV (x3)), (4, iV (t28)), (6, iV (x6))] [iV (t32)] := by
                refine ax_istore (lv' := [(5, iV (t32)), (0, .ref (ad 14)), (1, iV (x1)), (2, iV (x2)), (3, iV (x3)), (4, iV (t28)), (6, iV (x6))]) cx dX6_treeOfPairs_142 (by decide) rfl ?_
                refine ax_iinc (lv' := [(6, iV (x6 + 1)), (5, iV (t32)), (0, .ref (ad 14)), (1, iV (x1)), (2, iV (x2)), (3, iV (x3)), (4, iV (t28))]) cx 6 dX6_treeOfPairs_144 rfl (by decide) rfl ?_
                refine ax_goto cx 24 dX6_treeOfPairs_147 (by decide) ?_
                refine ax_lv cx [2, 3, 4, 5, 6, 1, 0] rfl ?_
                exact ih _ _ _ _ _ _ _ _ h hJ
              clear h
              have h := e34
              clear e34
              refine ax_icmp_ge cx 140 dX6_treeOfPairs_132 (by decide) g25 g26 (fun c31 => ?_) (fun c31 => ?_)
              · rw [if_pos c31] at h
                refine ax_iload cx 5 dX6_treeOfPairs_140 rfl ?_
                refine ax_lv cx [1, 2, 3, 4, 0, 6] rfl ?_
                cases h
                exact J33
              · rw [if_neg c31] at h
                refine ax_iload cx 7 dX6_treeOfPairs_135 rfl ?_
                refine ax_goto cx 142 dX6_treeOfPairs_137 (by decide) ?_
                refine ax_lv cx [1, 2, 3, 4, 0, 6] rfl ?_
                cases h
                exact J33
            clear h
            have h := e30
            clear e30
            refine ax_icmp_ge cx 124 dX6_treeOfPairs_116 (by decide) g25 g26 (fun c27 => ?_) (fun c27 => ?_)
            · rw [if_pos c27] at h
              refine ax_iload cx 5 dX6_treeOfPairs_124 rfl ?_
              refine ax_lv cx [1, 2, 3, 4, 6, 7, 0] rfl ?_
              cases h
              exact J29
            · rw [if_neg c27] at h
              refine ax_iload cx 8 dX6_treeOfPairs_119 rfl ?_
              refine ax_goto cx 126 dX6_treeOfPairs_121 (by decide) ?_
              refine ax_lv cx [1, 2, 3, 4, 6, 7, 0] rfl ?_
              cases h
              exact J29
          clear h
          have h := e24
          clear e24
          refine ax_if_eq cx 108 dX6_treeOfPairs_84 (by decide) g16 (fun c17 => ?_) (fun c17 => ?_)
          · rw [if_pos c17] at h
            refine ax_ldc (z := 1000000000) cx dX6_treeOfPairs_108 hw_X6_treeOfPairs_c85 (by decide) ?_
            refine ax_lv cx [1, 2, 3, 4, 5, 6, 7, 9] rfl ?_
            cases h
            exact J23
          · rw [if_neg c17] at h
            refine ax_aload_n cx 1 dX6_treeOfPairs_87 rfl rfl ?_
            refine ax_aload_n cx 1 dX6_treeOfPairs_88 rfl rfl ?_
            refine ax_getf (q := 14) (ci := 6) (k := 4) (v := .ref (ad 2)) cx ⟨by decide, by decide⟩ rfl rfl hi_X6_treeOfPairs_X6 (by decide) hl_X6_treeOfPairs_16 rfl rfl dX6_treeOfPairs_89 ?_
            refine ax_iload cx 8 dX6_treeOfPairs_92 rfl ?_
            obtain ⟨g18, h⟩ := gd_some h
            refine ax_iald (n := 6) cx (by decide) rfl rfl g18 dX6_treeOfPairs_94 ?_
            refine ax_aload_n cx 1 dX6_treeOfPairs_95 rfl rfl ?_
            refine ax_getf (q := 14) (ci := 6) (k := 4) (v := .ref (ad 2)) cx ⟨by decide, by decide⟩ rfl rfl hi_X6_treeOfPairs_X6 (by decide) hl_X6_treeOfPairs_16 rfl rfl dX6_treeOfPairs_96 ?_
            refine ax_iload cx 9 dX6_treeOfPairs_99 rfl ?_
            obtain ⟨g19, h⟩ := gd_some h
            refine ax_iald (n := 6) cx (by decide) rfl rfl g19 dX6_treeOfPairs_101 ?_
            obtain ⟨t20, e21, h⟩ := ob h
            refine ax_callV (As := [iV (M 2 (x6 / (M 101 0)).toNat), iV (M 2 (x6 % (M 101 0)).toNat)]) (q := 14) (ci := 6) (n := 2) cx (kX6_apartFrom l ad M (M 2 (x6 / (M 101 0)).toNat) (M 2 (x6 % (M 101 0)).toNat) _ e21) gX6_treeOfPairs_X6_apartFrom rfl ⟨by decide, by decide⟩ rfl rfl ⟨rfl, rfl⟩ (by decide +kernel) rfl ⟨by decide, by decide⟩ rfl (Nat.le_of_ble_eq_true rfl) dX6_treeOfPairs_102 ?_
            refine ax_goto cx 110 dX6_treeOfPairs_105 (by decide) ?_
            refine ax_lv cx [1, 2, 3, 4, 5, 6, 7, 9] rfl ?_
            cases h
            exact J23
        clear h
        have h := e15
        clear e15
        refine ax_icmp_ne cx 79 dX6_treeOfPairs_63 (by decide) g9 ⟨by decide, by decide⟩ (fun c10 => ?_) (fun c10 => ?_)
        · rw [if_pos c10] at h
          refine ax_iload_n cx 3 dX6_treeOfPairs_66 rfl rfl ?_
          refine ax_iload cx 0 dX6_treeOfPairs_67 rfl ?_
          refine ax_ishr cx dX6_treeOfPairs_69 ?_
          refine ax_iconst cx dX6_treeOfPairs_70 ?_
          refine ax_iand cx dX6_treeOfPairs_71 ?_
          obtain ⟨g11, h⟩ := gd_some h
          refine ax_if_ne cx 79 dX6_treeOfPairs_72 (by decide) g11 (fun c12 => ?_) (fun c12 => ?_)
          · rw [if_pos c12] at h
            refine ax_iconst cx dX6_treeOfPairs_75 ?_
            refine ax_goto cx 80 dX6_treeOfPairs_76 (by decide) ?_
            refine ax_lv cx [2, 3, 4, 5, 6, 7, 8, 1, 0] rfl ?_
            cases h
            exact J14
          · rw [if_neg c12] at h
            refine ax_iconst cx dX6_treeOfPairs_79 ?_
            refine ax_lv cx [2, 3, 4, 5, 6, 7, 8, 1, 0] rfl ?_
            cases h
            exact J14
        · rw [if_neg c10] at h
          refine ax_iconst cx dX6_treeOfPairs_79 ?_
          refine ax_lv cx [2, 3, 4, 5, 6, 7, 8, 1, 0] rfl ?_
          cases h
          exact J14
  have L6 : ∀ (n : Nat) (M : Mem) (x1 : Int) (x2 : Int) (x3 : Int) (T39 : Int × Mem), fX6_treeOfPairs_L6 n M x1 x2 x3 = some T39 → (G T39.2 168 [(2, iV (T39.1))] []) → G M 6 [(0, .ref (ad 14)), (1, iV (x1)), (2, iV (x2)), (3, iV (x3))] [] := by
    intro n
    induction n with
    | zero =>
      intro M x1 x2 x3 T39 h
      exact absurd h (by simp [fX6_treeOfPairs_L6])
    | succ n ih =>
      intro M x1 x2 x3 T39 h hJ
      rw [fX6_treeOfPairs_L6] at h
      refine ax_iload_n cx 3 dX6_treeOfPairs_6 rfl rfl ?_
      refine ax_aload_n cx 0 dX6_treeOfPairs_7 rfl rfl ?_
      refine ax_getf (q := 14) (ci := 6) (k := 3) (v := iV (M 101 0)) cx ⟨by decide, by decide⟩ rfl rfl hi_X6_treeOfPairs_X6 (by decide) hl_X6_treeOfPairs_100 rfl rfl dX6_treeOfPairs_8 ?_
      obtain ⟨g1, h⟩ := gd_some h
      obtain ⟨g2, h⟩ := gd_some h
      refine ax_icmp_ge cx 168 dX6_treeOfPairs_11 (by decide) g1 g2 (fun c3 => ?_) (fun c3 => ?_)
      · rw [if_pos c3] at h
        refine ax_lv cx [2] rfl ?_
        cases h
        exact hJ
      · rw [if_neg c3] at h
        refine ax_iconst cx dX6_treeOfPairs_14 ?_
        refine ax_istore (lv' := [(4, iV ((-1))), (0, .ref (ad 14)), (1, iV (x1)), (2, iV (x2)), (3, iV (x3))]) cx dX6_treeOfPairs_15 (by decide) rfl ?_
        refine ax_ldc (z := 1000000000) cx dX6_treeOfPairs_17 hw_X6_treeOfPairs_c85 (by decide) ?_
        refine ax_istore (lv' := [(5, iV (1000000000)), (4, iV ((-1))), (0, .ref (ad 14)), (1, iV (x1)), (2, iV (x2)), (3, iV (x3))]) cx dX6_treeOfPairs_19 (by decide) rfl ?_
        refine ax_iconst cx dX6_treeOfPairs_21 ?_
        refine ax_istore (lv' := [(6, iV (0)), (5, iV (1000000000)), (4, iV ((-1))), (0, .ref (ad 14)), (1, iV (x1)), (2, iV (x2)), (3, iV (x3))]) cx dX6_treeOfPairs_22 (by decide) rfl ?_
        obtain ⟨t36, e37, h⟩ := ob h
        refine ax_lv cx [3, 4, 5, 6, 2, 1, 0] rfl ?_
        have J38 : G t36.2.2 150 [(0, .ref (ad 14)), (1, iV (x1)), (2, iV (x2)), (3, iV (x3)), (4, iV (t36.1)), (5, iV (t36.2.1))] [] := by
          refine ax_iload_n cx 1 dX6_treeOfPairs_150 rfl rfl ?_
          refine ax_iconst cx dX6_treeOfPairs_151 ?_
          refine ax_iload cx 4 dX6_treeOfPairs_152 rfl ?_
          refine ax_ishl cx dX6_treeOfPairs_154 ?_
          refine ax_ior cx dX6_treeOfPairs_155 ?_
          refine ax_istore_n (lv' := [(1, iV (zor x1 (zshl 1 t36.1))), (0, .ref (ad 14)), (2, iV (x2)), (3, iV (x3)), (4, iV (t36.1)), (5, iV (t36.2.1))]) cx dX6_treeOfPairs_156 rfl (by decide) rfl ?_
          refine ax_iload_n cx 2 dX6_treeOfPairs_157 rfl rfl ?_
          refine ax_iload cx 5 dX6_treeOfPairs_158 rfl ?_
          refine ax_iadd cx dX6_treeOfPairs_160 ?_
          refine ax_istore_n (lv' := [(2, iV (x2 + t36.2.1)), (1, iV (zor x1 (zshl 1 t36.1))), (0, .ref (ad 14)), (3, iV (x3)), (4, iV (t36.1)), (5, iV (t36.2.1))]) cx dX6_treeOfPairs_161 rfl (by decide) rfl ?_
          refine ax_iinc (lv' := [(3, iV (x3 + 1)), (2, iV (x2 + t36.2.1)), (1, iV (zor x1 (zshl 1 t36.1))), (0, .ref (ad 14)), (4, iV (t36.1)), (5, iV (t36.2.1))]) cx 3 dX6_treeOfPairs_162 rfl (by decide) rfl ?_
          refine ax_goto cx 6 dX6_treeOfPairs_165 (by decide) ?_
          refine ax_lv cx [3, 2, 1, 0] rfl ?_
          exact ih _ _ _ _ _ h hJ
        exact L24 FU M x1 x2 x3 ((-1)) 1000000000 0 _ e37 J38
  unfold fX6_treeOfPairs at h
  refine ax_iconst cx dX6_treeOfPairs_0 ?_
  refine ax_istore_n (lv' := [(1, iV (1)), (0, .ref (ad 14))]) cx dX6_treeOfPairs_1 rfl (by decide) rfl ?_
  refine ax_iconst cx dX6_treeOfPairs_2 ?_
  refine ax_istore_n (lv' := [(2, iV (0)), (1, iV (1)), (0, .ref (ad 14))]) cx dX6_treeOfPairs_3 rfl (by decide) rfl ?_
  refine ax_iconst cx dX6_treeOfPairs_4 ?_
  refine ax_istore_n (lv' := [(3, iV (1)), (2, iV (0)), (1, iV (1)), (0, .ref (ad 14))]) cx dX6_treeOfPairs_5 rfl (by decide) rfl ?_
  obtain ⟨t40, e41, h⟩ := ob h
  refine ax_lv cx [3, 2, 1, 0] rfl ?_
  have J42 : G t40.2 168 [(2, iV (t40.1))] [] := by
    refine ax_iload_n cx 0 dX6_treeOfPairs_168 rfl rfl ?_
    cases h
    exact ax_iret cx dX6_treeOfPairs_169 rfl ⟨rfl, rfl⟩
  exact L6 FU M 1 0 1 _ e41 J42
def fX6_boundNow_L23 : Nat → Mem → Int → Int → Option (Int × Mem)
  | 0, _, _, _ => none
  | n + 1, M, x1, x2 =>
    gd (inR (x2)) (
    gd (inR (((M 101 0) * (M 101 0)) * (M 101 0))) (
    if ((M 101 0) * (M 101 0)) * (M 101 0) ≤ x2 then (
      some (x1, M))
    else (
      gd ((0 ≤ x2 ∧ x2 < 2147483648) ∧ 0 < M 101 0 ∧ M 101 0 < 2147483648) (
      gd (inB (x2 % (M 101 0)) 6) (
      gd ((0 ≤ x2 ∧ x2 < 2147483648) ∧ 0 < M 101 0 ∧ M 101 0 < 2147483648) (
      gd ((0 ≤ x2 / (M 101 0) ∧ x2 / (M 101 0) < 2147483648) ∧ 0 < M 101 0 ∧ M 101 0 < 2147483648) (
      gd (inB ((x2 / (M 101 0)) % (M 101 0)) 6) (
      gd ((0 ≤ x2 ∧ x2 < 2147483648) ∧ 0 < M 101 0 ∧ M 101 0 < 2147483648) (
      gd ((0 ≤ x2 / (M 101 0) ∧ x2 / (M 101 0) < 2147483648) ∧ 0 < M 101 0 ∧ M 101 0 < 2147483648) (
      gd (inB ((x2 / (M 101 0)) / (M 101 0)) 6) (
      Option.bind (fX6_apartFrom M (M 2 (x2 % (M 101 0)).toNat) (M 2 ((x2 / (M 101 0)) % (M 101 0)).toNat)) (fun t20 =>
      Option.bind (fX6_apartFrom t20.2 (M 2 ((x2 / (M 101 0)) % (M 101 0)).toNat) (M 2 ((x2 / (M 101 0)) / (M 101 0)).toNat)) (fun t22 =>
      Option.bind (fX6_apartFrom t22.2 (M 2 ((x2 / (M 101 0)) / (M 101 0)).toNat) (M 2 (x2 % (M 101 0)).toNat)) (fun t24 =>
      gd (0 ≤ ((t20.1 + t22.1) + t24.1) + 1 ∧ ((t20.1 + t22.1) + t24.1) + 1 < 2147483648) (
      gd (inR (t20.1)) (
      gd (inR (x1)) (
      Option.bind (if t20.1 ≤ x1 then (
        some (x1))
      else (
        some (t20.1))) (fun t30 =>
      gd (inR ((((t20.1 + t22.1) + t24.1) + 1) / 2)) (
      gd (inR (t30)) (
      Option.bind (if (((t20.1 + t22.1) + t24.1) + 1) / 2 ≤ t30 then (
        some (t30))
      else (
        some ((((t20.1 + t22.1) + t24.1) + 1) / 2))) (fun t36 =>
      fX6_boundNow_L23 n t24.2 t36 (x2 + 1))))))))))))))))))))))
def fX6_boundNow (M : Mem)  : Option (Int × Mem) :=
    gd (inR (M 101 0)) (
    Option.bind (if 2 ≤ M 101 0 then (
      Option.bind (fX6_treeOfPairs M) (fun t3 =>
      gd (0 ≤ t3.1 + 1 ∧ t3.1 + 1 < 2147483648) (
      some ((t3.1 + 1) / 2, t3.2))))
    else (
      some (0, M))) (fun t6 =>
    Option.bind (fX6_boundNow_L23 FU t6.2 t6.1 0) (fun t40 =>
    some (t40.1, t40.2))))
abbrev rmX6_boundNow : Room := { frames := 5, cells := 0, slots := 0, locals := 117 }
theorem hl_X6_boundNow_100 : Cond.fieldLink RX6 100 "PlateauBenchModel" "towns" "I" ∈ wsX6_boundNow := by decide +kernel
theorem hl_X6_boundNow_16 : Cond.fieldLink RX6 16 "PlateauBenchModel" "townNodes" "[I" ∈ wsX6_boundNow := by decide +kernel
theorem hi_X6_boundNow_X6 : ∀ x ∈ u_ws RX6 TX6 19, x ∈ wsX6_boundNow := by decide +kernel
set_option maxRecDepth 100000 in
set_option maxHeartbeats 4000000 in
theorem kX6_boundNow (l : Launch) (ad : Nat → Nat) (M : Mem)  (T : Int × Mem) (h : fX6_boundNow M  = some T) : MX l yX6_boundNow wsX6_boundNow rmX6_boundNow wM ad [.ref (ad 14)] M (some (iV (T.1))) T.2 := by
  refine MX.of (cc := cX6_boundNow) (nL := 8) (rt := (some .int)) (own := RX6) (by decide +kernel) rfl rfl (Nat.le_of_ble_eq_true rfl) wM_ok (fun G cx => ?_)
  show G M 0 [(0, .ref (ad 14))] []
  have L23 : ∀ (n : Nat) (M : Mem) (x1 : Int) (x2 : Int) (T39 : Int × Mem), fX6_boundNow_L23 n M x1 x2 = some T39 → (G T39.2 155 [(1, iV (T39.1))] []) → G M 23 [(0, .ref (ad 14)), (1, iV (x1)), (2, iV (x2))] [] := by
    intro n
    induction n with
    | zero =>
      intro M x1 x2 T39 h
      exact absurd h (by simp [fX6_boundNow_L23])
    | succ n ih =>
      intro M x1 x2 T39 h hJ
      rw [fX6_boundNow_L23] at h
      refine ax_iload_n cx 2 dX6_boundNow_23 rfl rfl ?_
      refine ax_aload_n cx 0 dX6_boundNow_24 rfl rfl ?_
      refine ax_getf (q := 14) (ci := 6) (k := 3) (v := iV (M 101 0)) cx ⟨by decide, by decide⟩ rfl rfl hi_X6_boundNow_X6 (by decide) hl_X6_boundNow_100 rfl rfl dX6_boundNow_25 ?_
      refine ax_aload_n cx 0 dX6_boundNow_28 rfl rfl ?_
      refine ax_getf (q := 14) (ci := 6) (k := 3) (v := iV (M 101 0)) cx ⟨by decide, by decide⟩ rfl rfl hi_X6_boundNow_X6 (by decide) hl_X6_boundNow_100 rfl rfl dX6_boundNow_29 ?_
      refine ax_imul cx dX6_boundNow_32 ?_
      refine ax_aload_n cx 0 dX6_boundNow_33 rfl rfl ?_
      refine ax_getf (q := 14) (ci := 6) (k := 3) (v := iV (M 101 0)) cx ⟨by decide, by decide⟩ rfl rfl hi_X6_boundNow_X6 (by decide) hl_X6_boundNow_100 rfl rfl dX6_boundNow_34 ?_
      refine ax_imul cx dX6_boundNow_37 ?_
      obtain ⟨g9, h⟩ := gd_some h
      obtain ⟨g10, h⟩ := gd_some h
      refine ax_icmp_ge cx 155 dX6_boundNow_38 (by decide) g9 g10 (fun c11 => ?_) (fun c11 => ?_)
      · rw [if_pos c11] at h
        refine ax_lv cx [1] rfl ?_
        cases h
        exact hJ
      · rw [if_neg c11] at h
        refine ax_aload_n cx 0 dX6_boundNow_41 rfl rfl ?_
        refine ax_getf (q := 14) (ci := 6) (k := 4) (v := .ref (ad 2)) cx ⟨by decide, by decide⟩ rfl rfl hi_X6_boundNow_X6 (by decide) hl_X6_boundNow_16 rfl rfl dX6_boundNow_42 ?_
        refine ax_iload_n cx 2 dX6_boundNow_45 rfl rfl ?_
        refine ax_aload_n cx 0 dX6_boundNow_46 rfl rfl ?_
        refine ax_getf (q := 14) (ci := 6) (k := 3) (v := iV (M 101 0)) cx ⟨by decide, by decide⟩ rfl rfl hi_X6_boundNow_X6 (by decide) hl_X6_boundNow_100 rfl rfl dX6_boundNow_47 ?_
        obtain ⟨g12, h⟩ := gd_some h
        refine ax_irem cx dX6_boundNow_50 g12 ?_
        obtain ⟨g13, h⟩ := gd_some h
        refine ax_iald (n := 6) cx (by decide) rfl rfl g13 dX6_boundNow_51 ?_
        refine ax_istore_n (lv' := [(3, iV (M 2 (x2 % (M 101 0)).toNat)), (0, .ref (ad 14)), (1, iV (x1)), (2, iV (x2))]) cx dX6_boundNow_52 rfl (by decide) rfl ?_
        refine ax_aload_n cx 1 dX6_boundNow_53 rfl rfl ?_
        refine ax_getf (q := 14) (ci := 6) (k := 4) (v := .ref (ad 2)) cx ⟨by decide, by decide⟩ rfl rfl hi_X6_boundNow_X6 (by decide) hl_X6_boundNow_16 rfl rfl dX6_boundNow_54 ?_
        refine ax_iload_n cx 3 dX6_boundNow_57 rfl rfl ?_
        refine ax_aload_n cx 1 dX6_boundNow_58 rfl rfl ?_
        refine ax_getf (q := 14) (ci := 6) (k := 3) (v := iV (M 101 0)) cx ⟨by decide, by decide⟩ rfl rfl hi_X6_boundNow_X6 (by decide) hl_X6_boundNow_100 rfl rfl dX6_boundNow_59 ?_
        obtain ⟨g14, h⟩ := gd_some h
        refine ax_idiv cx dX6_boundNow_62 g14 ?_
        refine ax_aload_n cx 1 dX6_boundNow_63 rfl rfl ?_
        refine ax_getf (q := 14) (ci := 6) (k := 3) (v := iV (M 101 0)) cx ⟨by decide, by decide⟩ rfl rfl hi_X6_boundNow_X6 (by decide) hl_X6_boundNow_100 rfl rfl dX6_boundNow_64 ?_
        obtain ⟨g15, h⟩ := gd_some h
        refine ax_irem cx dX6_boundNow_67 g15 ?_
        obtain ⟨g16, h⟩ := gd_some h
        refine ax_iald (n := 6) cx (by decide) rfl rfl g16 dX6_boundNow_68 ?_
        refine ax_istore (lv' := [(4, iV (M 2 ((x2 / (M 101 0)) % (M 101 0)).toNat)), (3, iV (M 2 (x2 % (M 101 0)).toNat)), (0, .ref (ad 14)), (1, iV (x1)), (2, iV (x2))]) cx dX6_boundNow_69 (by decide) rfl ?_
        refine ax_aload_n cx 2 dX6_boundNow_71 rfl rfl ?_
        refine ax_getf (q := 14) (ci := 6) (k := 4) (v := .ref (ad 2)) cx ⟨by decide, by decide⟩ rfl rfl hi_X6_boundNow_X6 (by decide) hl_X6_boundNow_16 rfl rfl dX6_boundNow_72 ?_
        refine ax_iload_n cx 4 dX6_boundNow_75 rfl rfl ?_
        refine ax_aload_n cx 2 dX6_boundNow_76 rfl rfl ?_
        refine ax_getf (q := 14) (ci := 6) (k := 3) (v := iV (M 101 0)) cx ⟨by decide, by decide⟩ rfl rfl hi_X6_boundNow_X6 (by decide) hl_X6_boundNow_100 rfl rfl dX6_boundNow_77 ?_
        obtain ⟨g17, h⟩ := gd_some h
        refine ax_idiv cx dX6_boundNow_80 g17 ?_
        refine ax_aload_n cx 2 dX6_boundNow_81 rfl rfl ?_
        refine ax_getf (q := 14) (ci := 6) (k := 3) (v := iV (M 101 0)) cx ⟨by decide, by decide⟩ rfl rfl hi_X6_boundNow_X6 (by decide) hl_X6_boundNow_100 rfl rfl dX6_boundNow_82 ?_
        obtain ⟨g18, h⟩ := gd_some h
        refine ax_idiv cx dX6_boundNow_85 g18 ?_
        obtain ⟨g19, h⟩ := gd_some h
        refine ax_iald (n := 6) cx (by decide) rfl rfl g19 dX6_boundNow_86 ?_
        refine ax_istore (lv' := [(5, iV (M 2 ((x2 / (M 101 0)) / (M 101 0)).toNat)), (4, iV (M 2 ((x2 / (M 101 0)) % (M 101 0)).toNat)), (3, iV (M 2 (x2 % (M 101 0)).toNat)), (0, .ref (ad 14)), (1, iV (x1)), (2, iV (x2))]) cx dX6_boundNow_87 (by decide) rfl ?_
        refine ax_aload_n cx 3 dX6_boundNow_89 rfl rfl ?_
        refine ax_iload_n cx 2 dX6_boundNow_90 rfl rfl ?_
        refine ax_iload cx 1 dX6_boundNow_91 rfl ?_
        obtain ⟨t20, e21, h⟩ := ob h
        refine ax_callV (As := [iV (M 2 (x2 % (M 101 0)).toNat), iV (M 2 ((x2 / (M 101 0)) % (M 101 0)).toNat)]) (q := 14) (ci := 6) (n := 2) cx (kX6_apartFrom l ad M (M 2 (x2 % (M 101 0)).toNat) (M 2 ((x2 / (M 101 0)) % (M 101 0)).toNat) _ e21) gX6_boundNow_X6_apartFrom rfl ⟨by decide, by decide⟩ rfl rfl ⟨rfl, rfl⟩ (by decide +kernel) rfl ⟨by decide, by decide⟩ rfl (Nat.le_of_ble_eq_true rfl) dX6_boundNow_93 ?_
        refine ax_istore (lv' := [(6, iV (t20.1)), (5, iV (M 2 ((x2 / (M 101 0)) / (M 101 0)).toNat)), (4, iV (M 2 ((x2 / (M 101 0)) % (M 101 0)).toNat)), (3, iV (M 2 (x2 % (M 101 0)).toNat)), (0, .ref (ad 14)), (1, iV (x1)), (2, iV (x2))]) cx dX6_boundNow_96 (by decide) rfl ?_
        refine ax_iload cx 0 dX6_boundNow_98 rfl ?_
        refine ax_aload_n cx 4 dX6_boundNow_100 rfl rfl ?_
        refine ax_iload cx 2 dX6_boundNow_101 rfl ?_
        refine ax_iload cx 1 dX6_boundNow_103 rfl ?_
        obtain ⟨t22, e23, h⟩ := ob h
        refine ax_callV (As := [iV (M 2 ((x2 / (M 101 0)) % (M 101 0)).toNat), iV (M 2 ((x2 / (M 101 0)) / (M 101 0)).toNat)]) (q := 14) (ci := 6) (n := 2) cx (kX6_apartFrom l ad t20.2 (M 2 ((x2 / (M 101 0)) % (M 101 0)).toNat) (M 2 ((x2 / (M 101 0)) / (M 101 0)).toNat) _ e23) gX6_boundNow_X6_apartFrom rfl ⟨by decide, by decide⟩ rfl rfl ⟨rfl, rfl⟩ (by decide +kernel) rfl ⟨by decide, by decide⟩ rfl (Nat.le_of_ble_eq_true rfl) dX6_boundNow_105 ?_
        refine ax_iadd cx dX6_boundNow_108 ?_
        refine ax_aload_n cx 4 dX6_boundNow_109 rfl rfl ?_
        refine ax_iload cx 1 dX6_boundNow_110 rfl ?_
        refine ax_iload_n cx 3 dX6_boundNow_112 rfl rfl ?_
        obtain ⟨t24, e25, h⟩ := ob h
        refine ax_callV (As := [iV (M 2 ((x2 / (M 101 0)) / (M 101 0)).toNat), iV (M 2 (x2 % (M 101 0)).toNat)]) (q := 14) (ci := 6) (n := 2) cx (kX6_apartFrom l ad t22.2 (M 2 ((x2 / (M 101 0)) / (M 101 0)).toNat) (M 2 (x2 % (M 101 0)).toNat) _ e25) gX6_boundNow_X6_apartFrom rfl ⟨by decide, by decide⟩ rfl rfl ⟨rfl, rfl⟩ (by decide +kernel) rfl ⟨by decide, by decide⟩ rfl (Nat.le_of_ble_eq_true rfl) dX6_boundNow_113 ?_
        refine ax_iadd cx dX6_boundNow_116 ?_
        refine ax_iconst cx dX6_boundNow_117 ?_
        refine ax_iadd cx dX6_boundNow_118 ?_
        refine ax_iconst cx dX6_boundNow_119 ?_
        obtain ⟨g26, h⟩ := gd_some h
        refine ax_idiv cx dX6_boundNow_120 ⟨g26, by decide, by decide⟩ ?_
        refine ax_istore (lv' := [(7, iV ((((t20.1 + t22.1) + t24.1) + 1) / 2)), (6, iV (t20.1)), (5, iV (M 2 ((x2 / (M 101 0)) / (M 101 0)).toNat)), (4, iV (M 2 ((x2 / (M 101 0)) % (M 101 0)).toNat)), (3, iV (M 2 (x2 % (M 101 0)).toNat)), (0, .ref (ad 14)), (1, iV (x1)), (2, iV (x2))]) cx dX6_boundNow_121 (by decide) rfl ?_
        refine ax_iload cx 1 dX6_boundNow_123 rfl ?_
        refine ax_iload_n cx 6 dX6_boundNow_125 rfl rfl ?_
        obtain ⟨g27, h⟩ := gd_some h
        obtain ⟨g28, h⟩ := gd_some h
        obtain ⟨t30, e32, h⟩ := ob h
        have J31 : G t24.2 135 [(0, .ref (ad 14)), (2, iV (x2)), (7, iV ((((t20.1 + t22.1) + t24.1) + 1) / 2))] [iV (t30)] := by
          refine ax_istore_n (lv' := [(1, iV (t30)), (0, .ref (ad 14)), (2, iV (x2)), (7, iV ((((t20.1 + t22.1) + t24.1) + 1) / 2))]) cx dX6_boundNow_135 rfl (by decide) rfl ?_
          refine ax_iload cx 3 dX6_boundNow_136 rfl ?_
          refine ax_iload_n cx 0 dX6_boundNow_138 rfl rfl ?_
          obtain ⟨g33, h⟩ := gd_some h
          obtain ⟨g34, h⟩ := gd_some h
          obtain ⟨t36, e38, h⟩ := ob h
          have J37 : G t24.2 148 [(0, .ref (ad 14)), (2, iV (x2))] [iV (t36)] := by
            refine ax_istore_n (lv' := [(1, iV (t36)), (0, .ref (ad 14)), (2, iV (x2))]) cx dX6_boundNow_148 rfl (by decide) rfl ?_
            refine ax_iinc (lv' := [(2, iV (x2 + 1)), (1, iV (t36)), (0, .ref (ad 14))]) cx 2 dX6_boundNow_149 rfl (by decide) rfl ?_
            refine ax_goto cx 23 dX6_boundNow_152 (by decide) ?_
            refine ax_lv cx [2, 1, 0] rfl ?_
            exact ih _ _ _ _ h hJ
          clear h
          have h := e38
          clear e38
          refine ax_icmp_le cx 147 dX6_boundNow_139 (by decide) g33 g34 (fun c35 => ?_) (fun c35 => ?_)
          · rw [if_pos c35] at h
            refine ax_iload_n cx 0 dX6_boundNow_147 rfl rfl ?_
            refine ax_lv cx [1, 2] rfl ?_
            cases h
            exact J37
          · rw [if_neg c35] at h
            refine ax_iload cx 3 dX6_boundNow_142 rfl ?_
            refine ax_goto cx 148 dX6_boundNow_144 (by decide) ?_
            refine ax_lv cx [1, 2] rfl ?_
            cases h
            exact J37
        clear h
        have h := e32
        clear e32
        refine ax_icmp_le cx 134 dX6_boundNow_126 (by decide) g27 g28 (fun c29 => ?_) (fun c29 => ?_)
        · rw [if_pos c29] at h
          refine ax_iload_n cx 6 dX6_boundNow_134 rfl rfl ?_
          refine ax_lv cx [5, 7, 0] rfl ?_
          cases h
          exact J31
        · rw [if_neg c29] at h
          refine ax_iload cx 1 dX6_boundNow_129 rfl ?_
          refine ax_goto cx 135 dX6_boundNow_131 (by decide) ?_
          refine ax_lv cx [5, 7, 0] rfl ?_
          cases h
          exact J31
  unfold fX6_boundNow at h
  refine ax_aload_n cx 0 dX6_boundNow_0 rfl rfl ?_
  refine ax_getf (q := 14) (ci := 6) (k := 3) (v := iV (M 101 0)) cx ⟨by decide, by decide⟩ rfl rfl hi_X6_boundNow_X6 (by decide) hl_X6_boundNow_100 rfl rfl dX6_boundNow_1 ?_
  refine ax_iconst cx dX6_boundNow_4 ?_
  obtain ⟨g1, h⟩ := gd_some h
  obtain ⟨t6, e8, h⟩ := ob h
  have J7 : G t6.2 20 [(0, .ref (ad 14))] [iV (t6.1)] := by
    refine ax_istore_n (lv' := [(1, iV (t6.1)), (0, .ref (ad 14))]) cx dX6_boundNow_20 rfl (by decide) rfl ?_
    refine ax_iconst cx dX6_boundNow_21 ?_
    refine ax_istore_n (lv' := [(2, iV (0)), (1, iV (t6.1)), (0, .ref (ad 14))]) cx dX6_boundNow_22 rfl (by decide) rfl ?_
    obtain ⟨t40, e41, h⟩ := ob h
    refine ax_lv cx [2, 1, 0] rfl ?_
    have J42 : G t40.2 155 [(1, iV (t40.1))] [] := by
      refine ax_iload_n cx 0 dX6_boundNow_155 rfl rfl ?_
      cases h
      exact ax_iret cx dX6_boundNow_156 rfl ⟨rfl, rfl⟩
    exact L23 FU t6.2 t6.1 0 _ e41 J42
  clear h
  have h := e8
  clear e8
  refine ax_icmp_ge cx 12 dX6_boundNow_5 (by decide) g1 ⟨by decide, by decide⟩ (fun c2 => ?_) (fun c2 => ?_)
  · rw [if_pos c2] at h
    refine ax_aload_n cx 0 dX6_boundNow_12 rfl rfl ?_
    obtain ⟨t3, e4, h⟩ := ob h
    refine ax_callV (As := []) (q := 14) (ci := 6) (n := 0) cx (kX6_treeOfPairs l ad M  _ e4) gX6_boundNow_X6_treeOfPairs rfl ⟨by decide, by decide⟩ rfl rfl ⟨rfl, rfl⟩ (by decide +kernel) rfl ⟨by decide, by decide⟩ rfl (Nat.le_of_ble_eq_true rfl) dX6_boundNow_13 ?_
    refine ax_iconst cx dX6_boundNow_16 ?_
    refine ax_iadd cx dX6_boundNow_17 ?_
    refine ax_iconst cx dX6_boundNow_18 ?_
    obtain ⟨g5, h⟩ := gd_some h
    refine ax_idiv cx dX6_boundNow_19 ⟨g5, by decide, by decide⟩ ?_
    cases h
    exact J7
  · rw [if_neg c2] at h
    refine ax_iconst cx dX6_boundNow_8 ?_
    refine ax_goto cx 20 dX6_boundNow_9 (by decide) ?_
    cases h
    exact J7
def fX6_bound (M : Mem)  : Option (Int × Mem) :=
    Option.bind (fX6_boundNow (wr M 100 0 0)) (fun t1 =>
    some (t1.1, t1.2))
abbrev rmX6_bound : Room := { frames := 6, cells := 0, slots := 0, locals := 144 }
theorem hl_X6_bound_57 : Cond.fieldLink RX6 57 "PlateauBenchModel" "thrown" "I" ∈ wsX6_bound := by decide +kernel
theorem hi_X6_bound_X6 : ∀ x ∈ u_ws RX6 TX6 19, x ∈ wsX6_bound := by decide +kernel
set_option maxRecDepth 100000 in
set_option maxHeartbeats 4000000 in
theorem kX6_bound (l : Launch) (ad : Nat → Nat) (M : Mem)  (T : Int × Mem) (h : fX6_bound M  = some T) : MX l yX6_bound wsX6_bound rmX6_bound wM ad [.ref (ad 14)] M (some (iV (T.1))) T.2 := by
  refine MX.of (cc := cX6_bound) (nL := 1) (rt := (some .int)) (own := RX6) (by decide +kernel) rfl rfl (Nat.le_of_ble_eq_true rfl) wM_ok (fun G cx => ?_)
  show G M 0 [(0, .ref (ad 14))] []
  unfold fX6_bound at h
  refine ax_aload_n cx 0 dX6_bound_0 rfl rfl ?_
  refine ax_iconst cx dX6_bound_1 ?_
  refine ax_putf (q := 14) (ci := 6) (k := 0) (f := 100) (ty := .int) cx ⟨by decide, by decide⟩ rfl rfl hi_X6_bound_X6 tyX6 tyX6_ok nmX6 (by decide) hl_X6_bound_57 rfl (by decide +kernel) (by decide +kernel) rfl rfl (Nat.le_of_ble_eq_true rfl) (by decide) rfl (putM_100 ad _ _) dX6_bound_2 ?_
  refine ax_aload_n cx 0 dX6_bound_5 rfl rfl ?_
  obtain ⟨t1, e2, h⟩ := ob h
  refine ax_callV (As := []) (q := 14) (ci := 6) (n := 0) cx (kX6_boundNow l ad (wr M 100 0 0)  _ e2) gX6_bound_X6_boundNow rfl ⟨by decide, by decide⟩ rfl rfl ⟨rfl, rfl⟩ (by decide +kernel) rfl ⟨by decide, by decide⟩ rfl (Nat.le_of_ble_eq_true rfl) dX6_bound_6 ?_
  cases h
  exact ax_iret cx dX6_bound_9 rfl ⟨rfl, rfl⟩
def fX6_gap (M : Mem)  : Option (Int × Mem) :=
    Option.bind (fX6_leastNow (wr M 100 0 0)) (fun t1 =>
    Option.bind (fX6_boundNow t1.2) (fun t3 =>
    some (t1.1 - t3.1, t3.2)))
abbrev rmX6_gap : Room := { frames := 6, cells := 0, slots := 0, locals := 144 }
theorem hl_X6_gap_57 : Cond.fieldLink RX6 57 "PlateauBenchModel" "thrown" "I" ∈ wsX6_gap := by decide +kernel
theorem hi_X6_gap_X6 : ∀ x ∈ u_ws RX6 TX6 19, x ∈ wsX6_gap := by decide +kernel
set_option maxRecDepth 100000 in
set_option maxHeartbeats 4000000 in
theorem kX6_gap (l : Launch) (ad : Nat → Nat) (M : Mem)  (T : Int × Mem) (h : fX6_gap M  = some T) : MX l yX6_gap wsX6_gap rmX6_gap wM ad [.ref (ad 14)] M (some (iV (T.1))) T.2 := by
  refine MX.of (cc := cX6_gap) (nL := 1) (rt := (some .int)) (own := RX6) (by decide +kernel) rfl rfl (Nat.le_of_ble_eq_true rfl) wM_ok (fun G cx => ?_)
  show G M 0 [(0, .ref (ad 14))] []
  unfold fX6_gap at h
  refine ax_aload_n cx 0 dX6_gap_0 rfl rfl ?_
  refine ax_iconst cx dX6_gap_1 ?_
  refine ax_putf (q := 14) (ci := 6) (k := 0) (f := 100) (ty := .int) cx ⟨by decide, by decide⟩ rfl rfl hi_X6_gap_X6 tyX6 tyX6_ok nmX6 (by decide) hl_X6_gap_57 rfl (by decide +kernel) (by decide +kernel) rfl rfl (Nat.le_of_ble_eq_true rfl) (by decide) rfl (putM_100 ad _ _) dX6_gap_2 ?_
  refine ax_aload_n cx 0 dX6_gap_5 rfl rfl ?_
  obtain ⟨t1, e2, h⟩ := ob h
  refine ax_callV (As := []) (q := 14) (ci := 6) (n := 0) cx (kX6_leastNow l ad (wr M 100 0 0)  _ e2) gX6_gap_X6_leastNow rfl ⟨by decide, by decide⟩ rfl rfl ⟨rfl, rfl⟩ (by decide +kernel) rfl ⟨by decide, by decide⟩ rfl (Nat.le_of_ble_eq_true rfl) dX6_gap_6 ?_
  refine ax_aload_n cx 0 dX6_gap_9 rfl rfl ?_
  obtain ⟨t3, e4, h⟩ := ob h
  refine ax_callV (As := []) (q := 14) (ci := 6) (n := 0) cx (kX6_boundNow l ad t1.2  _ e4) gX6_gap_X6_boundNow rfl ⟨by decide, by decide⟩ rfl rfl ⟨rfl, rfl⟩ (by decide +kernel) rfl ⟨by decide, by decide⟩ rfl (Nat.le_of_ble_eq_true rfl) dX6_gap_10 ?_
  refine ax_isub cx dX6_gap_13 ?_
  cases h
  exact ax_iret cx dX6_gap_14 rfl ⟨rfl, rfl⟩
def fX6_isUsed (M : Mem) (x1 : Int) : Option (Int × Mem) :=
    Option.bind (fX6_isEdge M x1) (fun t1 =>
    gd (inR (t1)) (
    Option.bind (if t1 = 0 then (
      some (1))
    else (
      some (0))) (fun t5 =>
    Option.bind (fX6_refused M t5) (fun t8 =>
    gd (inR (t8.1)) (
    if t8.1 = 0 then (
      gd (inR (t8.2 101 0)) (
      if 2 ≤ t8.2 101 0 then (
        Option.bind (fX6_leastNow t8.2) (fun t14 =>
        Option.bind (fX6_first t14.2 x1) (fun t16 =>
        gd (inB (t14.2 101 0) 7) (
        Option.bind (fX6_leastOf (wr (wr t14.2 7 (t14.2 101 0).toNat t16) 104 0 x1) (((wr (wr t14.2 7 (t14.2 101 0).toNat t16) 104 0 x1) 101 0) + 1)) (fun t19 =>
        Option.bind (fX6_costOfEdge t19.2 x1) (fun t21 =>
        gd (inR (t19.1 + t21)) (
        gd (inR (t14.1)) (
        Option.bind (if t19.1 + t21 = t14.1 then (
          some (1))
        else (
          some (0))) (fun t26 =>
        gd (t26 = 0 ∨ t26 = 1) (
        some (t26, (wr t19.2 104 0 ((-1))))))))))))))
      else (
        some (0, t8.2))))
    else (
      some (0, t8.2)))))))
abbrev rmX6_isUsed : Room := { frames := 5, cells := 0, slots := 0, locals := 113 }
theorem hl_X6_isUsed_100 : Cond.fieldLink RX6 100 "PlateauBenchModel" "towns" "I" ∈ wsX6_isUsed := by decide +kernel
theorem hl_X6_isUsed_32 : Cond.fieldLink RX6 32 "PlateauBenchModel" "ends" "[I" ∈ wsX6_isUsed := by decide +kernel
theorem hl_X6_isUsed_53 : Cond.fieldLink RX6 53 "PlateauBenchModel" "free" "I" ∈ wsX6_isUsed := by decide +kernel
theorem hi_X6_isUsed_X6 : ∀ x ∈ u_ws RX6 TX6 19, x ∈ wsX6_isUsed := by decide +kernel
set_option maxRecDepth 100000 in
set_option maxHeartbeats 4000000 in
theorem kX6_isUsed (l : Launch) (ad : Nat → Nat) (M : Mem) (x1 : Int) (T : Int × Mem) (h : fX6_isUsed M x1 = some T) : MX l yX6_isUsed wsX6_isUsed rmX6_isUsed wM ad [.ref (ad 14), iV (x1)] M (some (iV (T.1))) T.2 := by
  refine MX.of (cc := cX6_isUsed) (nL := 4) (rt := (some .boolean)) (own := RX6) (by decide +kernel) rfl rfl (Nat.le_of_ble_eq_true rfl) wM_ok (fun G cx => ?_)
  show G M 0 [(0, .ref (ad 14)), (1, iV (x1))] []
  unfold fX6_isUsed at h
  refine ax_aload_n cx 0 dX6_isUsed_0 rfl rfl ?_
  refine ax_iload_n cx 1 dX6_isUsed_1 rfl rfl ?_
  obtain ⟨t1, e2, h⟩ := ob h
  refine ax_callS (As := [iV (x1)]) (n := 1) cx (kX6_isEdge l ad M x1 _ e2) gX6_isUsed_X6_isEdge rfl ⟨rfl, rfl⟩ (by decide +kernel) rfl ⟨by decide, by decide⟩ rfl (Nat.le_of_ble_eq_true rfl) dX6_isUsed_2 ?_
  obtain ⟨g3, h⟩ := gd_some h
  obtain ⟨t5, e7, h⟩ := ob h
  have J6 : G M 13 [(0, .ref (ad 14)), (1, iV (x1))] [iV (t5), .ref (ad 14)] := by
    obtain ⟨t8, e9, h⟩ := ob h
    refine ax_callV (As := [iV (t5)]) (q := 14) (ci := 6) (n := 1) cx (kX6_refused l ad M t5 _ e9) gX6_isUsed_X6_refused rfl ⟨by decide, by decide⟩ rfl rfl ⟨rfl, rfl⟩ (by decide +kernel) rfl ⟨by decide, by decide⟩ rfl (Nat.le_of_ble_eq_true rfl) dX6_isUsed_13 ?_
    obtain ⟨g10, h⟩ := gd_some h
    refine ax_if_ne cx 27 dX6_isUsed_16 (by decide) g10 (fun c11 => ?_) (fun c11 => ?_)
    · rw [if_pos c11] at h
      refine ax_aload_n cx 0 dX6_isUsed_19 rfl rfl ?_
      refine ax_getf (q := 14) (ci := 6) (k := 3) (v := iV (t8.2 101 0)) cx ⟨by decide, by decide⟩ rfl rfl hi_X6_isUsed_X6 (by decide) hl_X6_isUsed_100 rfl rfl dX6_isUsed_20 ?_
      refine ax_iconst cx dX6_isUsed_23 ?_
      obtain ⟨g12, h⟩ := gd_some h
      refine ax_icmp_ge cx 29 dX6_isUsed_24 (by decide) g12 ⟨by decide, by decide⟩ (fun c13 => ?_) (fun c13 => ?_)
      · rw [if_pos c13] at h
        refine ax_aload_n cx 0 dX6_isUsed_29 rfl rfl ?_
        obtain ⟨t14, e15, h⟩ := ob h
        refine ax_callV (As := []) (q := 14) (ci := 6) (n := 0) cx (kX6_leastNow l ad t8.2  _ e15) gX6_isUsed_X6_leastNow rfl ⟨by decide, by decide⟩ rfl rfl ⟨rfl, rfl⟩ (by decide +kernel) rfl ⟨by decide, by decide⟩ rfl (Nat.le_of_ble_eq_true rfl) dX6_isUsed_30 ?_
        refine ax_istore_n (lv' := [(2, iV (t14.1)), (0, .ref (ad 14)), (1, iV (x1))]) cx dX6_isUsed_33 rfl (by decide) rfl ?_
        refine ax_aload_n cx 1 dX6_isUsed_34 rfl rfl ?_
        refine ax_getf (q := 14) (ci := 6) (k := 11) (v := .ref (ad 7)) cx ⟨by decide, by decide⟩ rfl rfl hi_X6_isUsed_X6 (by decide) hl_X6_isUsed_32 rfl rfl dX6_isUsed_35 ?_
        refine ax_aload_n cx 1 dX6_isUsed_38 rfl rfl ?_
        refine ax_getf (q := 14) (ci := 6) (k := 3) (v := iV (t14.2 101 0)) cx ⟨by decide, by decide⟩ rfl rfl hi_X6_isUsed_X6 (by decide) hl_X6_isUsed_100 rfl rfl dX6_isUsed_39 ?_
        refine ax_iload_n cx 2 dX6_isUsed_42 rfl rfl ?_
        obtain ⟨t16, e17, h⟩ := ob h
        refine ax_callS (As := [iV (x1)]) (n := 1) cx (kX6_first l ad t14.2 x1 _ e17) gX6_isUsed_X6_first rfl ⟨rfl, rfl⟩ (by decide +kernel) rfl ⟨by decide, by decide⟩ rfl (Nat.le_of_ble_eq_true rfl) dX6_isUsed_43 ?_
        obtain ⟨g18, h⟩ := gd_some h
        refine ax_iast (n := 7) cx (by decide) rfl rfl g18 dX6_isUsed_46 ?_
        refine ax_aload_n cx 1 dX6_isUsed_47 rfl rfl ?_
        refine ax_iload_n cx 2 dX6_isUsed_48 rfl rfl ?_
        refine ax_putf (q := 14) (ci := 6) (k := 18) (f := 104) (ty := .int) cx ⟨by decide, by decide⟩ rfl rfl hi_X6_isUsed_X6 tyX6 tyX6_ok nmX6 (by decide) hl_X6_isUsed_53 rfl (by decide +kernel) (by decide +kernel) rfl rfl (Nat.le_of_ble_eq_true rfl) (by decide) rfl (putM_104 ad _ _) dX6_isUsed_49 ?_
        refine ax_aload_n cx 1 dX6_isUsed_52 rfl rfl ?_
        refine ax_aload_n cx 1 dX6_isUsed_53 rfl rfl ?_
        refine ax_getf (q := 14) (ci := 6) (k := 3) (v := iV ((wr (wr t14.2 7 (t14.2 101 0).toNat t16) 104 0 x1) 101 0)) cx ⟨by decide, by decide⟩ rfl rfl hi_X6_isUsed_X6 (by decide) hl_X6_isUsed_100 rfl rfl dX6_isUsed_54 ?_
        refine ax_iconst cx dX6_isUsed_57 ?_
        refine ax_iadd cx dX6_isUsed_58 ?_
        obtain ⟨t19, e20, h⟩ := ob h
        refine ax_callV (As := [iV (((wr (wr t14.2 7 (t14.2 101 0).toNat t16) 104 0 x1) 101 0) + 1)]) (q := 14) (ci := 6) (n := 1) cx (kX6_leastOf l ad (wr (wr t14.2 7 (t14.2 101 0).toNat t16) 104 0 x1) (((wr (wr t14.2 7 (t14.2 101 0).toNat t16) 104 0 x1) 101 0) + 1) _ e20) gX6_isUsed_X6_leastOf rfl ⟨by decide, by decide⟩ rfl rfl ⟨rfl, rfl⟩ (by decide +kernel) rfl ⟨by decide, by decide⟩ rfl (Nat.le_of_ble_eq_true rfl) dX6_isUsed_59 ?_
        refine ax_aload_n cx 1 dX6_isUsed_62 rfl rfl ?_
        refine ax_iload_n cx 2 dX6_isUsed_63 rfl rfl ?_
        obtain ⟨t21, e22, h⟩ := ob h
        refine ax_callV (As := [iV (x1)]) (q := 14) (ci := 6) (n := 1) cx (kX6_costOfEdge l ad t19.2 x1 _ e22) gX6_isUsed_X6_costOfEdge rfl ⟨by decide, by decide⟩ rfl rfl ⟨rfl, rfl⟩ (by decide +kernel) rfl ⟨by decide, by decide⟩ rfl (Nat.le_of_ble_eq_true rfl) dX6_isUsed_64 ?_
        refine ax_iadd cx dX6_isUsed_67 ?_
        refine ax_istore_n (lv' := [(3, iV (t19.1 + t21)), (2, iV (t14.1)), (0, .ref (ad 14)), (1, iV (x1))]) cx dX6_isUsed_68 rfl (by decide) rfl ?_
        refine ax_aload_n cx 2 dX6_isUsed_69 rfl rfl ?_
        refine ax_iconst cx dX6_isUsed_70 ?_
        refine ax_putf (q := 14) (ci := 6) (k := 18) (f := 104) (ty := .int) cx ⟨by decide, by decide⟩ rfl rfl hi_X6_isUsed_X6 tyX6 tyX6_ok nmX6 (by decide) hl_X6_isUsed_53 rfl (by decide +kernel) (by decide +kernel) rfl rfl (Nat.le_of_ble_eq_true rfl) (by decide) rfl (putM_104 ad _ _) dX6_isUsed_71 ?_
        refine ax_iload_n cx 0 dX6_isUsed_74 rfl rfl ?_
        refine ax_iload_n cx 1 dX6_isUsed_75 rfl rfl ?_
        obtain ⟨g23, h⟩ := gd_some h
        obtain ⟨g24, h⟩ := gd_some h
        obtain ⟨t26, e28, h⟩ := ob h
        have J27 : G (wr t19.2 104 0 ((-1))) 84 [] [iV (t26)] := by
          obtain ⟨g29, h⟩ := gd_some h
          cases h
          exact ax_zret cx dX6_isUsed_84 rfl g29 ⟨rfl, rfl⟩
        clear h
        have h := e28
        clear e28
        refine ax_icmp_ne cx 83 dX6_isUsed_76 (by decide) g23 g24 (fun c25 => ?_) (fun c25 => ?_)
        · rw [if_pos c25] at h
          refine ax_iconst cx dX6_isUsed_79 ?_
          refine ax_goto cx 84 dX6_isUsed_80 (by decide) ?_
          refine ax_lv cx [] rfl ?_
          cases h
          exact J27
        · rw [if_neg c25] at h
          refine ax_iconst cx dX6_isUsed_83 ?_
          refine ax_lv cx [] rfl ?_
          cases h
          exact J27
      · rw [if_neg c13] at h
        refine ax_iconst cx dX6_isUsed_27 ?_
        cases h
        exact ax_zret cx dX6_isUsed_28 rfl (Or.inl rfl) ⟨rfl, rfl⟩
    · rw [if_neg c11] at h
      refine ax_iconst cx dX6_isUsed_27 ?_
      cases h
      exact ax_zret cx dX6_isUsed_28 rfl (Or.inl rfl) ⟨rfl, rfl⟩
  clear h
  have h := e7
  clear e7
  refine ax_if_eq cx 12 dX6_isUsed_5 (by decide) g3 (fun c4 => ?_) (fun c4 => ?_)
  · rw [if_pos c4] at h
    refine ax_iconst cx dX6_isUsed_12 ?_
    cases h
    exact J6
  · rw [if_neg c4] at h
    refine ax_iconst cx dX6_isUsed_8 ?_
    refine ax_goto cx 13 dX6_isUsed_9 (by decide) ?_
    cases h
    exact J6
def fX6_stepCost (M : Mem) (x1 : Int) (x2 : Int) : Option (Int) :=
    gd (inB (x1) 60) (
    gd (inR (M 9 x1.toNat)) (
    if M 9 x1.toNat = 0 then (
      Option.bind (fX6_costOfEdge M x1) (fun t4 =>
      some (t4)))
    else (
      gd (inB (x1) 60) (
      gd (inR (x2)) (
      Option.bind (if x2 = 0 then (
        some (1))
      else (
        some ((-1)))) (fun t9 =>
      gd (inR (t9)) (
      Option.bind (if M 9 x1.toNat = t9 then (
        Option.bind (fX6_costOfEdge M x1) (fun t14 =>
        some (-t14)))
      else (
        some (1000000000))) (fun t16 =>
      some (t16)))))))))
abbrev rmX6_stepCost : Room := { frames := 1, cells := 0, slots := 0, locals := 21 }
theorem hl_X6_stepCost_38 : Cond.fieldLink RX6 38 "PlateauBenchModel" "flow" "[I" ∈ wsX6_stepCost := by decide +kernel
theorem hw_X6_stepCost_c85 : Cond.constant RX6 85 (1000000000) ∈ wsX6_stepCost := by decide +kernel
theorem hi_X6_stepCost_X6 : ∀ x ∈ u_ws RX6 TX6 19, x ∈ wsX6_stepCost := by decide +kernel
set_option maxRecDepth 100000 in
set_option maxHeartbeats 4000000 in
theorem kX6_stepCost (l : Launch) (ad : Nat → Nat) (M : Mem) (x1 : Int) (x2 : Int) (T : Int) (h : fX6_stepCost M x1 x2 = some T) : MX l yX6_stepCost wsX6_stepCost rmX6_stepCost wM ad [.ref (ad 14), iV (x1), iV (x2)] M (some (iV (T))) M := by
  refine MX.of (cc := cX6_stepCost) (nL := 3) (rt := (some .int)) (own := RX6) (by decide +kernel) rfl rfl (Nat.le_of_ble_eq_true rfl) wM_ok (fun G cx => ?_)
  show G M 0 [(0, .ref (ad 14)), (1, iV (x1)), (2, iV (x2))] []
  unfold fX6_stepCost at h
  refine ax_aload_n cx 0 dX6_stepCost_0 rfl rfl ?_
  refine ax_getf (q := 14) (ci := 6) (k := 13) (v := .ref (ad 9)) cx ⟨by decide, by decide⟩ rfl rfl hi_X6_stepCost_X6 (by decide) hl_X6_stepCost_38 rfl rfl dX6_stepCost_1 ?_
  refine ax_iload_n cx 1 dX6_stepCost_4 rfl rfl ?_
  obtain ⟨g1, h⟩ := gd_some h
  refine ax_iald (n := 60) cx (by decide) rfl rfl g1 dX6_stepCost_5 ?_
  obtain ⟨g2, h⟩ := gd_some h
  refine ax_if_ne cx 15 dX6_stepCost_6 (by decide) g2 (fun c3 => ?_) (fun c3 => ?_)
  · rw [if_pos c3] at h
    refine ax_aload_n cx 0 dX6_stepCost_9 rfl rfl ?_
    refine ax_iload_n cx 1 dX6_stepCost_10 rfl rfl ?_
    obtain ⟨t4, e5, h⟩ := ob h
    refine ax_callV (As := [iV (x1)]) (q := 14) (ci := 6) (n := 1) cx (kX6_costOfEdge l ad M x1 _ e5) gX6_stepCost_X6_costOfEdge rfl ⟨by decide, by decide⟩ rfl rfl ⟨rfl, rfl⟩ (by decide +kernel) rfl ⟨by decide, by decide⟩ rfl (Nat.le_of_ble_eq_true rfl) dX6_stepCost_11 ?_
    cases h
    exact ax_iret cx dX6_stepCost_14 rfl ⟨rfl, rfl⟩
  · rw [if_neg c3] at h
    refine ax_aload_n cx 0 dX6_stepCost_15 rfl rfl ?_
    refine ax_getf (q := 14) (ci := 6) (k := 13) (v := .ref (ad 9)) cx ⟨by decide, by decide⟩ rfl rfl hi_X6_stepCost_X6 (by decide) hl_X6_stepCost_38 rfl rfl dX6_stepCost_16 ?_
    refine ax_iload_n cx 1 dX6_stepCost_19 rfl rfl ?_
    obtain ⟨g6, h⟩ := gd_some h
    refine ax_iald (n := 60) cx (by decide) rfl rfl g6 dX6_stepCost_20 ?_
    refine ax_iload_n cx 2 dX6_stepCost_21 rfl rfl ?_
    obtain ⟨g7, h⟩ := gd_some h
    obtain ⟨t9, e11, h⟩ := ob h
    have J10 : G M 30 [(0, .ref (ad 14)), (1, iV (x1))] [iV (t9), iV (M 9 x1.toNat)] := by
      obtain ⟨g12, h⟩ := gd_some h
      obtain ⟨t16, e18, h⟩ := ob h
      have J17 : G M 44 [] [iV (t16)] := by
        cases h
        exact ax_iret cx dX6_stepCost_44 rfl ⟨rfl, rfl⟩
      clear h
      have h := e18
      clear e18
      refine ax_icmp_ne cx 42 dX6_stepCost_30 (by decide) g2 g12 (fun c13 => ?_) (fun c13 => ?_)
      · rw [if_pos c13] at h
        refine ax_aload_n cx 0 dX6_stepCost_33 rfl rfl ?_
        refine ax_iload_n cx 1 dX6_stepCost_34 rfl rfl ?_
        obtain ⟨t14, e15, h⟩ := ob h
        refine ax_callV (As := [iV (x1)]) (q := 14) (ci := 6) (n := 1) cx (kX6_costOfEdge l ad M x1 _ e15) gX6_stepCost_X6_costOfEdge rfl ⟨by decide, by decide⟩ rfl rfl ⟨rfl, rfl⟩ (by decide +kernel) rfl ⟨by decide, by decide⟩ rfl (Nat.le_of_ble_eq_true rfl) dX6_stepCost_35 ?_
        refine ax_ineg cx dX6_stepCost_38 ?_
        refine ax_goto cx 44 dX6_stepCost_39 (by decide) ?_
        refine ax_lv cx [] rfl ?_
        cases h
        exact J17
      · rw [if_neg c13] at h
        refine ax_ldc (z := 1000000000) cx dX6_stepCost_42 hw_X6_stepCost_c85 (by decide) ?_
        refine ax_lv cx [] rfl ?_
        cases h
        exact J17
    clear h
    have h := e11
    clear e11
    refine ax_if_eq cx 29 dX6_stepCost_22 (by decide) g7 (fun c8 => ?_) (fun c8 => ?_)
    · rw [if_pos c8] at h
      refine ax_iconst cx dX6_stepCost_29 ?_
      refine ax_lv cx [0, 1] rfl ?_
      cases h
      exact J10
    · rw [if_neg c8] at h
      refine ax_iconst cx dX6_stepCost_25 ?_
      refine ax_goto cx 30 dX6_stepCost_26 (by decide) ?_
      refine ax_lv cx [0, 1] rfl ?_
      cases h
      exact J10
