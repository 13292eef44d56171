def fJ6_bitCount_0f7a4 (M : Mem) (x0 : Int) : Option (Int) :=
    some (zand (((zand (((zand (x0 - (zand (zushr x0 1) 1431655765)) 858993459) + (zand (zushr (x0 - (zand (zushr x0 1) 1431655765)) 2) 858993459)) + (zushr ((zand (x0 - (zand (zushr x0 1) 1431655765)) 858993459) + (zand (zushr (x0 - (zand (zushr x0 1) 1431655765)) 2) 858993459)) 4)) 252645135) + (zushr (zand (((zand (x0 - (zand (zushr x0 1) 1431655765)) 858993459) + (zand (zushr (x0 - (zand (zushr x0 1) 1431655765)) 2) 858993459)) + (zushr ((zand (x0 - (zand (zushr x0 1) 1431655765)) 858993459) + (zand (zushr (x0 - (zand (zushr x0 1) 1431655765)) 2) 858993459)) 4)) 252645135) 8)) + (zushr ((zand (((zand (x0 - (zand (zushr x0 1) 1431655765)) 858993459) + (zand (zushr (x0 - (zand (zushr x0 1) 1431655765)) 2) 858993459)) + (zushr ((zand (x0 - (zand (zushr x0 1) 1431655765)) 858993459) + (zand (zushr (x0 - (zand (zushr x0 1) 1431655765)) 2) 858993459)) 4)) 252645135) + (zushr (zand (((zand (x0 - (zand (zushr x0 1) 1431655765)) 858993459) + (zand (zushr (x0 - (zand (zushr x0 1) 1431655765)) 2) 858993459)) + (zushr ((zand (x0 - (zand (zushr x0 1) 1431655765)) 858993459) + (zand (zushr (x0 - (zand (zushr x0 1) 1431655765)) 2) 858993459)) 4)) 252645135) 8)) 16)) 63)
abbrev rmJ6_bitCount_0f7a4 : Room := { frames := 0, cells := 0, slots := 0, locals := 0 }
theorem hw_J6_bitCount_0f7a4_c265 : Cond.constant RJ6 265 (1431655765) ∈ wsJ6_bitCount_0f7a4 := by decide +kernel
theorem hw_J6_bitCount_0f7a4_c266 : Cond.constant RJ6 266 (858993459) ∈ wsJ6_bitCount_0f7a4 := by decide +kernel
theorem hw_J6_bitCount_0f7a4_c267 : Cond.constant RJ6 267 (252645135) ∈ wsJ6_bitCount_0f7a4 := by decide +kernel
set_option maxRecDepth 100000 in
set_option maxHeartbeats 4000000 in
theorem kJ6_bitCount_0f7a4 (l : Launch) (ad : Nat → Nat) (M : Mem) (x0 : Int) (T : Int) (h : fJ6_bitCount_0f7a4 M x0 = some T) : MX l yJ6_bitCount_0f7a4 wsJ6_bitCount_0f7a4 rmJ6_bitCount_0f7a4 wC ad [iV (x0)] M (some (iV (T))) M := by
  refine MX.of (cc := cJ6_bitCount_0f7a4) (nL := 1) (rt := (some .int)) (own := RJ6) (by decide +kernel) rfl rfl (Nat.le_of_ble_eq_true rfl) wC_ok (fun G cx => ?_)
  show G M 0 [(0, iV (x0))] []
  unfold fJ6_bitCount_0f7a4 at h
  refine ax_iload_n cx 0 dJ6_bitCount_0f7a4_0 rfl rfl ?_
  refine ax_iload_n cx 0 dJ6_bitCount_0f7a4_1 rfl rfl ?_
  refine ax_iconst cx dJ6_bitCount_0f7a4_2 ?_
  refine ax_iushr cx dJ6_bitCount_0f7a4_3 ?_
  refine ax_ldc_w (z := 1431655765) cx dJ6_bitCount_0f7a4_4 hw_J6_bitCount_0f7a4_c265 (by decide) ?_
  refine ax_iand cx dJ6_bitCount_0f7a4_7 ?_
  refine ax_isub cx dJ6_bitCount_0f7a4_8 ?_
  refine ax_istore_n (lv' := [(0, iV (x0 - (zand (zushr x0 1) 1431655765)))]) cx dJ6_bitCount_0f7a4_9 rfl (by decide) rfl ?_
  refine ax_iload_n cx 0 dJ6_bitCount_0f7a4_10 rfl rfl ?_
  refine ax_ldc_w (z := 858993459) cx dJ6_bitCount_0f7a4_11 hw_J6_bitCount_0f7a4_c266 (by decide) ?_
  refine ax_iand cx dJ6_bitCount_0f7a4_14 ?_
  refine ax_iload_n cx 0 dJ6_bitCount_0f7a4_15 rfl rfl ?_
  refine ax_iconst cx dJ6_bitCount_0f7a4_16 ?_
  refine ax_iushr cx dJ6_bitCount_0f7a4_17 ?_
  refine ax_ldc_w (z := 858993459) cx dJ6_bitCount_0f7a4_18 hw_J6_bitCount_0f7a4_c266 (by decide) ?_
  refine ax_iand cx dJ6_bitCount_0f7a4_21 ?_
  refine ax_iadd cx dJ6_bitCount_0f7a4_22 ?_
  refine ax_istore_n (lv' := [(0, iV ((zand (x0 - (zand (zushr x0 1) 1431655765)) 858993459) + (zand (zushr (x0 - (zand (zushr x0 1) 1431655765)) 2) 858993459)))]) cx dJ6_bitCount_0f7a4_23 rfl (by decide) rfl ?_
  refine ax_iload_n cx 0 dJ6_bitCount_0f7a4_24 rfl rfl ?_
  refine ax_iload_n cx 0 dJ6_bitCount_0f7a4_25 rfl rfl ?_
  refine ax_iconst cx dJ6_bitCount_0f7a4_26 ?_
  refine ax_iushr cx dJ6_bitCount_0f7a4_27 ?_
  refine ax_iadd cx dJ6_bitCount_0f7a4_28 ?_
  refine ax_ldc_w (z := 252645135) cx dJ6_bitCount_0f7a4_29 hw_J6_bitCount_0f7a4_c267 (by decide) ?_
  refine ax_iand cx dJ6_bitCount_0f7a4_32 ?_
  refine ax_istore_n (lv' := [(0, iV (zand (((zand (x0 - (zand (zushr x0 1) 1431655765)) 858993459) + (zand (zushr (x0 - (zand (zushr x0 1) 1431655765)) 2) 858993459)) + (zushr ((zand (x0 - (zand (zushr x0 1) 1431655765)) 858993459) + (zand (zushr (x0 - (zand (zushr x0 1) 1431655765)) 2) 858993459)) 4)) 252645135))]) cx dJ6_bitCount_0f7a4_33 rfl (by decide) rfl ?_
  refine ax_iload_n cx 0 dJ6_bitCount_0f7a4_34 rfl rfl ?_
  refine ax_iload_n cx 0 dJ6_bitCount_0f7a4_35 rfl rfl ?_
  refine ax_bipush (z := 8) cx dJ6_bitCount_0f7a4_36 (by decide) ?_
  refine ax_iushr cx dJ6_bitCount_0f7a4_38 ?_
  refine ax_iadd cx dJ6_bitCount_0f7a4_39 ?_
  refine ax_istore_n (lv' := [(0, iV ((zand (((zand (x0 - (zand (zushr x0 1) 1431655765)) 858993459) + (zand (zushr (x0 - (zand (zushr x0 1) 1431655765)) 2) 858993459)) + (zushr ((zand (x0 - (zand (zushr x0 1) 1431655765)) 858993459) + (zand (zushr (x0 - (zand (zushr x0 1) 1431655765)) 2) 858993459)) 4)) 252645135) + (zushr (zand (((zand (x0 - (zand (zushr x0 1) 1431655765)) 858993459) + (zand (zushr (x0 - (zand (zushr x0 1) 1431655765)) 2) 858993459)) + (zushr ((zand (x0 - (zand (zushr x0 1) 1431655765)) 858993459) + (zand (zushr (x0 - (zand (zushr x0 1) 1431655765)) 2) 858993459)) 4)) 252645135) 8)))]) cx dJ6_bitCount_0f7a4_40 rfl (by decide) rfl ?_
  refine ax_iload_n cx 0 dJ6_bitCount_0f7a4_41 rfl rfl ?_
  refine ax_iload_n cx 0 dJ6_bitCount_0f7a4_42 rfl rfl ?_
  refine ax_bipush (z := 16) cx dJ6_bitCount_0f7a4_43 (by decide) ?_
  refine ax_iushr cx dJ6_bitCount_0f7a4_45 ?_
  refine ax_iadd cx dJ6_bitCount_0f7a4_46 ?_
  refine ax_istore_n (lv' := [(0, iV (((zand (((zand (x0 - (zand (zushr x0 1) 1431655765)) 858993459) + (zand (zushr (x0 - (zand (zushr x0 1) 1431655765)) 2) 858993459)) + (zushr ((zand (x0 - (zand (zushr x0 1) 1431655765)) 858993459) + (zand (zushr (x0 - (zand (zushr x0 1) 1431655765)) 2) 858993459)) 4)) 252645135) + (zushr (zand (((zand (x0 - (zand (zushr x0 1) 1431655765)) 858993459) + (zand (zushr (x0 - (zand (zushr x0 1) 1431655765)) 2) 858993459)) + (zushr ((zand (x0 - (zand (zushr x0 1) 1431655765)) 858993459) + (zand (zushr (x0 - (zand (zushr x0 1) 1431655765)) 2) 858993459)) 4)) 252645135) 8)) + (zushr ((zand (((zand (x0 - (zand (zushr x0 1) 1431655765)) 858993459) + (zand (zushr (x0 - (zand (zushr x0 1) 1431655765)) 2) 858993459)) + (zushr ((zand (x0 - (zand (zushr x0 1) 1431655765)) 858993459) + (zand (zushr (x0 - (zand (zushr x0 1) 1431655765)) 2) 858993459)) 4)) 252645135) + (zushr (zand (((zand (x0 - (zand (zushr x0 1) 1431655765)) 858993459) + (zand (zushr (x0 - (zand (zushr x0 1) 1431655765)) 2) 858993459)) + (zushr ((zand (x0 - (zand (zushr x0 1) 1431655765)) 858993459) + (zand (zushr (x0 - (zand (zushr x0 1) 1431655765)) 2) 858993459)) 4)) 252645135) 8)) 16)))]) cx dJ6_bitCount_0f7a4_47 rfl (by decide) rfl ?_
  refine ax_iload_n cx 0 dJ6_bitCount_0f7a4_48 rfl rfl ?_
  refine ax_bipush (z := 63) cx dJ6_bitCount_0f7a4_49 (by decide) ?_
  refine ax_iand cx dJ6_bitCount_0f7a4_51 ?_
  cases h
  exact ax_iret cx dJ6_bitCount_0f7a4_52 rfl ⟨rfl, rfl⟩
def fX3_size (M : Mem)  : Option (Int) :=
    some (M 102 0)
abbrev rmX3_size : Room := { frames := 0, cells := 0, slots := 0, locals := 0 }
theorem hl_X3_size_15 : Cond.fieldLink RX3 15 "PlateauBench$Nets" "count" "I" ∈ wsX3_size := by decide +kernel
theorem hi_X3_size_X3 : ∀ x ∈ u_ws RX3 TX3 7, x ∈ wsX3_size := by decide +kernel
set_option maxRecDepth 100000 in
set_option maxHeartbeats 4000000 in
theorem kX3_size (l : Launch) (ad : Nat → Nat) (M : Mem)  (T : Int) (h : fX3_size M  = some T) : MX l yX3_size wsX3_size rmX3_size wC ad [.ref (ad 25)] M (some (iV (T))) M := by
  refine MX.of (cc := cX3_size) (nL := 1) (rt := (some .int)) (own := RX3) (by decide +kernel) rfl rfl (Nat.le_of_ble_eq_true rfl) wC_ok (fun G cx => ?_)
  show G M 0 [(0, .ref (ad 25))] []
  unfold fX3_size at h
  refine ax_aload_n cx 0 dX3_size_0 rfl rfl ?_
  refine ax_getf (q := 25) (ci := 3) (k := 1) (v := iV (M 102 0)) cx ⟨by decide, by decide⟩ rfl rfl hi_X3_size_X3 (by decide) hl_X3_size_15 rfl rfl dX3_size_1 ?_
  cases h
  exact ax_iret cx dX3_size_4 rfl ⟨rfl, rfl⟩
def fX3_isFull (M : Mem)  : Option (Int) :=
    gd (inR (M 102 0)) (
    Option.bind (if M 102 0 < 6 then (
      some (0))
    else (
      some (1))) (fun t3 =>
    gd (t3 = 0 ∨ t3 = 1) (
    some (t3))))
abbrev rmX3_isFull : Room := { frames := 0, cells := 0, slots := 0, locals := 0 }
theorem hl_X3_isFull_15 : Cond.fieldLink RX3 15 "PlateauBench$Nets" "count" "I" ∈ wsX3_isFull := by decide +kernel
theorem hi_X3_isFull_X3 : ∀ x ∈ u_ws RX3 TX3 7, x ∈ wsX3_isFull := by decide +kernel
set_option maxRecDepth 100000 in
set_option maxHeartbeats 4000000 in
theorem kX3_isFull (l : Launch) (ad : Nat → Nat) (M : Mem)  (T : Int) (h : fX3_isFull M  = some T) : MX l yX3_isFull wsX3_isFull rmX3_isFull wC ad [.ref (ad 25)] M (some (iV (T))) M := by
  refine MX.of (cc := cX3_isFull) (nL := 1) (rt := (some .boolean)) (own := RX3) (by decide +kernel) rfl rfl (Nat.le_of_ble_eq_true rfl) wC_ok (fun G cx => ?_)
  show G M 0 [(0, .ref (ad 25))] []
  unfold fX3_isFull at h
  refine ax_aload_n cx 0 dX3_isFull_0 rfl rfl ?_
  refine ax_getf (q := 25) (ci := 3) (k := 1) (v := iV (M 102 0)) cx ⟨by decide, by decide⟩ rfl rfl hi_X3_isFull_X3 (by decide) hl_X3_isFull_15 rfl rfl dX3_isFull_1 ?_
  refine ax_bipush (z := 6) cx dX3_isFull_4 (by decide) ?_
  obtain ⟨g1, h⟩ := gd_some h
  obtain ⟨t3, e5, h⟩ := ob h
  have J4 : G M 14 [] [iV (t3)] := by
    obtain ⟨g6, h⟩ := gd_some h
    cases h
    exact ax_zret cx dX3_isFull_14 rfl g6 ⟨rfl, rfl⟩
  clear h
  have h := e5
  clear e5
  refine ax_icmp_lt cx 13 dX3_isFull_6 (by decide) g1 ⟨by decide, by decide⟩ (fun c2 => ?_) (fun c2 => ?_)
  · rw [if_pos c2] at h
    refine ax_iconst cx dX3_isFull_13 ?_
    refine ax_lv cx [] rfl ?_
    cases h
    exact J4
  · rw [if_neg c2] at h
    refine ax_iconst cx dX3_isFull_9 ?_
    refine ax_goto cx 14 dX3_isFull_10 (by decide) ?_
    refine ax_lv cx [] rfl ?_
    cases h
    exact J4
def fX3_nodeOf (M : Mem) (x1 : Int) : Option (Int) :=
    gd (inB (x1) 6) (
    some (M 7 x1.toNat))
abbrev rmX3_nodeOf : Room := { frames := 0, cells := 0, slots := 0, locals := 0 }
theorem hl_X3_nodeOf_9 : Cond.fieldLink RX3 9 "PlateauBench$Nets" "nodes" "[I" ∈ wsX3_nodeOf := by decide +kernel
theorem hi_X3_nodeOf_X3 : ∀ x ∈ u_ws RX3 TX3 7, x ∈ wsX3_nodeOf := by decide +kernel
set_option maxRecDepth 100000 in
set_option maxHeartbeats 4000000 in
theorem kX3_nodeOf (l : Launch) (ad : Nat → Nat) (M : Mem) (x1 : Int) (T : Int) (h : fX3_nodeOf M x1 = some T) : MX l yX3_nodeOf wsX3_nodeOf rmX3_nodeOf wC ad [.ref (ad 25), iV (x1)] M (some (iV (T))) M := by
  refine MX.of (cc := cX3_nodeOf) (nL := 2) (rt := (some .int)) (own := RX3) (by decide +kernel) rfl rfl (Nat.le_of_ble_eq_true rfl) wC_ok (fun G cx => ?_)
  show G M 0 [(0, .ref (ad 25)), (1, iV (x1))] []
  unfold fX3_nodeOf at h
  refine ax_aload_n cx 0 dX3_nodeOf_0 rfl rfl ?_
  refine ax_getf (q := 25) (ci := 3) (k := 0) (v := .ref (ad 7)) cx ⟨by decide, by decide⟩ rfl rfl hi_X3_nodeOf_X3 (by decide) hl_X3_nodeOf_9 rfl rfl dX3_nodeOf_1 ?_
  refine ax_iload_n cx 1 dX3_nodeOf_4 rfl rfl ?_
  obtain ⟨g1, h⟩ := gd_some h
  refine ax_iald (n := 6) cx (by decide) rfl rfl g1 dX3_nodeOf_5 ?_
  cases h
  exact ax_iret cx dX3_nodeOf_6 rfl ⟨rfl, rfl⟩
def fX3_hasTownAt_L2 : Nat → Mem → Int → Int → Option ((Int) ⊕ (Unit))
  | 0, _, _, _ => none
  | n + 1, M, x1, x2 =>
    gd (inR (x2)) (
    gd (inR (M 102 0)) (
    if M 102 0 ≤ x2 then (
      some (.inr ()))
    else (
      gd (inB (x2) 6) (
      gd (inR (M 7 x2.toNat)) (
      gd (inR (x1)) (
      if M 7 x2.toNat = x1 then (
        some (.inl (1)))
      else (
        fX3_hasTownAt_L2 n M x1 (x2 + 1))))))))
def fX3_hasTownAt (M : Mem) (x1 : Int) : Option (Int) :=
    Option.bind (fX3_hasTownAt_L2 FU M x1 0) (fun t9 => t9.elim (fun rr => some rr) (fun o11 =>
    some (0)))
abbrev rmX3_hasTownAt : Room := { frames := 0, cells := 0, slots := 0, locals := 0 }
theorem hl_X3_hasTownAt_15 : Cond.fieldLink RX3 15 "PlateauBench$Nets" "count" "I" ∈ wsX3_hasTownAt := by decide +kernel
theorem hl_X3_hasTownAt_9 : Cond.fieldLink RX3 9 "PlateauBench$Nets" "nodes" "[I" ∈ wsX3_hasTownAt := by decide +kernel
theorem hi_X3_hasTownAt_X3 : ∀ x ∈ u_ws RX3 TX3 7, x ∈ wsX3_hasTownAt := by decide +kernel
set_option maxRecDepth 100000 in
set_option maxHeartbeats 4000000 in
theorem kX3_hasTownAt (l : Launch) (ad : Nat → Nat) (M : Mem) (x1 : Int) (T : Int) (h : fX3_hasTownAt M x1 = some T) : MX l yX3_hasTownAt wsX3_hasTownAt rmX3_hasTownAt wC ad [.ref (ad 25), iV (x1)] M (some (iV (T))) M := by
  refine MX.of (cc := cX3_hasTownAt) (nL := 3) (rt := (some .boolean)) (own := RX3) (by decide +kernel) rfl rfl (Nat.le_of_ble_eq_true rfl) wC_ok (fun G cx => ?_)
  show G M 0 [(0, .ref (ad 25)), (1, iV (x1))] []
  have L2 : ∀ (n : Nat) (x1 : Int) (x2 : Int) (T8 : (Int) ⊕ (Unit)), fX3_hasTownAt_L2 n M x1 x2 = some T8 → (∀ rr, T8 = .inl rr → ((some (iV (rr)) : Option Value) = (some (iV (T)) : Option Value)) ∧ (M = M)) → (∀ T8o, T8 = .inr T8o → G M 28 [] []) → G M 2 [(0, .ref (ad 25)), (1, iV (x1)), (2, iV (x2))] [] := by
    intro n
    induction n with
    | zero =>
      intro x1 x2 T8 h
      exact absurd h (by simp [fX3_hasTownAt_L2])
    | succ n ih =>
      intro x1 x2 T8 h hR hJ
      rw [fX3_hasTownAt_L2] at h
      refine ax_iload_n cx 2 dX3_hasTownAt_2 rfl rfl ?_
      refine ax_aload_n cx 0 dX3_hasTownAt_3 rfl rfl ?_
      refine ax_getf (q := 25) (ci := 3) (k := 1) (v := iV (M 102 0)) cx ⟨by decide, by decide⟩ rfl rfl hi_X3_hasTownAt_X3 (by decide) hl_X3_hasTownAt_15 rfl rfl dX3_hasTownAt_4 ?_
      obtain ⟨g1, h⟩ := gd_some h
      obtain ⟨g2, h⟩ := gd_some h
      refine ax_icmp_ge cx 28 dX3_hasTownAt_7 (by decide) g1 g2 (fun c3 => ?_) (fun c3 => ?_)
      · rw [if_pos c3] at h
        refine ax_lv cx [] rfl ?_
        cases h
        exact hJ _ rfl
      · rw [if_neg c3] at h
        refine ax_aload_n cx 0 dX3_hasTownAt_10 rfl rfl ?_
        refine ax_getf (q := 25) (ci := 3) (k := 0) (v := .ref (ad 7)) cx ⟨by decide, by decide⟩ rfl rfl hi_X3_hasTownAt_X3 (by decide) hl_X3_hasTownAt_9 rfl rfl dX3_hasTownAt_11 ?_
        refine ax_iload_n cx 2 dX3_hasTownAt_14 rfl rfl ?_
        obtain ⟨g4, h⟩ := gd_some h
        refine ax_iald (n := 6) cx (by decide) rfl rfl g4 dX3_hasTownAt_15 ?_
        refine ax_iload_n cx 1 dX3_hasTownAt_16 rfl rfl ?_
        obtain ⟨g5, h⟩ := gd_some h
        obtain ⟨g6, h⟩ := gd_some h
        refine ax_icmp_ne cx 22 dX3_hasTownAt_17 (by decide) g5 g6 (fun c7 => ?_) (fun c7 => ?_)
        · rw [if_pos c7] at h
          refine ax_iconst cx dX3_hasTownAt_20 ?_
          cases h
          exact ax_zret cx dX3_hasTownAt_21 rfl (Or.inr rfl) (hR _ rfl)
        · rw [if_neg c7] at h
          refine ax_iinc (lv' := [(2, iV (x2 + 1)), (0, .ref (ad 25)), (1, iV (x1))]) cx 2 dX3_hasTownAt_22 rfl (by decide) rfl ?_
          refine ax_goto cx 2 dX3_hasTownAt_25 (by decide) ?_
          refine ax_lv cx [1, 2, 0] rfl ?_
          exact ih _ _ _ h hR hJ
  unfold fX3_hasTownAt at h
  refine ax_iconst cx dX3_hasTownAt_0 ?_
  refine ax_istore_n (lv' := [(2, iV (0)), (0, .ref (ad 25)), (1, iV (x1))]) cx dX3_hasTownAt_1 rfl (by decide) rfl ?_
  obtain ⟨t9, e10, h⟩ := ob h
  refine ax_lv cx [1, 2, 0] rfl ?_
  cases t9 with
  | inl rr =>
    exact L2 FU x1 0 _ e10 (fun r2 e2 => by cases e2; cases h; exact ⟨rfl, rfl⟩) (fun o2 e2 => by cases e2)
  | inr o11 =>
    refine L2 FU x1 0 _ e10 (fun r2 e2 => by cases e2) (fun o2 e2 => ?_)
    cases e2
    refine ax_iconst cx dX3_hasTownAt_28 ?_
    cases h
    exact ax_zret cx dX3_hasTownAt_29 rfl (Or.inl rfl) ⟨rfl, rfl⟩
def fX3_forget (M : Mem)  : Option (Mem) :=
    some ((wr M 103 0 0))
abbrev rmX3_forget : Room := { frames := 0, cells := 0, slots := 0, locals := 0 }
theorem hl_X3_forget_22 : Cond.fieldLink RX3 22 "PlateauBench$Nets" "isJoined" "Z" ∈ wsX3_forget := by decide +kernel
theorem hi_X3_forget_X3 : ∀ x ∈ u_ws RX3 TX3 7, x ∈ wsX3_forget := by decide +kernel
set_option maxRecDepth 100000 in
set_option maxHeartbeats 4000000 in
theorem kX3_forget (l : Launch) (ad : Nat → Nat) (M : Mem)  (T : Mem) (h : fX3_forget M  = some T) : MX l yX3_forget wsX3_forget rmX3_forget wC ad [.ref (ad 25)] M none T := by
  refine MX.of (cc := cX3_forget) (nL := 1) (rt := none) (own := RX3) (by decide +kernel) rfl rfl (Nat.le_of_ble_eq_true rfl) wC_ok (fun G cx => ?_)
  show G M 0 [(0, .ref (ad 25))] []
  unfold fX3_forget at h
  refine ax_aload_n cx 0 dX3_forget_0 rfl rfl ?_
  refine ax_iconst cx dX3_forget_1 ?_
  refine ax_putf (q := 25) (ci := 3) (k := 3) (f := 103) (ty := .boolean) cx ⟨by decide, by decide⟩ rfl rfl hi_X3_forget_X3 tyX3 tyX3_ok nmX3 (by decide) hl_X3_forget_22 rfl (by decide +kernel) (by decide +kernel) rfl rfl (Nat.le_of_ble_eq_true rfl) (by decide) rfl (putC_103 ad _ _) dX3_forget_2 ?_
  cases h
  exact ax_vret cx dX3_forget_5 rfl ⟨rfl, rfl⟩
def fX3_add (M : Mem) (x1 : Int) : Option (Int × Mem) :=
    gd (inB (M 102 0) 6) (
    Option.bind (fX3_forget (wr (wr M 7 (M 102 0).toNat x1) 102 0 (((wr M 7 (M 102 0).toNat x1) 102 0) + 1))) (fun t2 =>
    some ((t2 102 0) - 1, t2)))
abbrev rmX3_add : Room := { frames := 1, cells := 0, slots := 0, locals := 20 }
theorem hl_X3_add_9 : Cond.fieldLink RX3 9 "PlateauBench$Nets" "nodes" "[I" ∈ wsX3_add := by decide +kernel
theorem hl_X3_add_15 : Cond.fieldLink RX3 15 "PlateauBench$Nets" "count" "I" ∈ wsX3_add := by decide +kernel
theorem hi_X3_add_X3 : ∀ x ∈ u_ws RX3 TX3 7, x ∈ wsX3_add := by decide +kernel
set_option maxRecDepth 100000 in
set_option maxHeartbeats 4000000 in
theorem kX3_add (l : Launch) (ad : Nat → Nat) (M : Mem) (x1 : Int) (T : Int × Mem) (h : fX3_add M x1 = some T) : MX l yX3_add wsX3_add rmX3_add wC ad [.ref (ad 25), iV (x1)] M (some (iV (T.1))) T.2 := by
  refine MX.of (cc := cX3_add) (nL := 2) (rt := (some .int)) (own := RX3) (by decide +kernel) rfl rfl (Nat.le_of_ble_eq_true rfl) wC_ok (fun G cx => ?_)
  show G M 0 [(0, .ref (ad 25)), (1, iV (x1))] []
  unfold fX3_add at h
  refine ax_aload_n cx 0 dX3_add_0 rfl rfl ?_
  refine ax_getf (q := 25) (ci := 3) (k := 0) (v := .ref (ad 7)) cx ⟨by decide, by decide⟩ rfl rfl hi_X3_add_X3 (by decide) hl_X3_add_9 rfl rfl dX3_add_1 ?_
  refine ax_aload_n cx 0 dX3_add_4 rfl rfl ?_
  refine ax_getf (q := 25) (ci := 3) (k := 1) (v := iV (M 102 0)) cx ⟨by decide, by decide⟩ rfl rfl hi_X3_add_X3 (by decide) hl_X3_add_15 rfl rfl dX3_add_5 ?_
  refine ax_iload_n cx 1 dX3_add_8 rfl rfl ?_
  obtain ⟨g1, h⟩ := gd_some h
  refine ax_iast (n := 6) cx (by decide) rfl rfl g1 dX3_add_9 ?_
  refine ax_aload_n cx 0 dX3_add_10 rfl rfl ?_
  refine ax_dup cx dX3_add_11 rfl ?_
  refine ax_getf (q := 25) (ci := 3) (k := 1) (v := iV ((wr M 7 (M 102 0).toNat x1) 102 0)) cx ⟨by decide, by decide⟩ rfl rfl hi_X3_add_X3 (by decide) hl_X3_add_15 rfl rfl dX3_add_12 ?_
  refine ax_iconst cx dX3_add_15 ?_
  refine ax_iadd cx dX3_add_16 ?_
  refine ax_putf (q := 25) (ci := 3) (k := 1) (f := 102) (ty := .int) cx ⟨by decide, by decide⟩ rfl rfl hi_X3_add_X3 tyX3 tyX3_ok nmX3 (by decide) hl_X3_add_15 rfl (by decide +kernel) (by decide +kernel) rfl rfl (Nat.le_of_ble_eq_true rfl) (by decide) rfl (putC_102 ad _ _) dX3_add_17 ?_
  refine ax_aload_n cx 0 dX3_add_20 rfl rfl ?_
  obtain ⟨t2, e3, h⟩ := ob h
  refine ax_callV (As := []) (q := 25) (ci := 3) (n := 0) cx (kX3_forget l ad (wr (wr M 7 (M 102 0).toNat x1) 102 0 (((wr M 7 (M 102 0).toNat x1) 102 0) + 1))  _ e3) gX3_add_X3_forget rfl ⟨by decide, by decide⟩ rfl rfl ⟨rfl, rfl⟩ (by decide +kernel) rfl ⟨by decide, by decide⟩ rfl (Nat.le_of_ble_eq_true rfl) dX3_add_21 ?_
  refine ax_aload_n cx 0 dX3_add_24 rfl rfl ?_
  refine ax_getf (q := 25) (ci := 3) (k := 1) (v := iV (t2 102 0)) cx ⟨by decide, by decide⟩ rfl rfl hi_X3_add_X3 (by decide) hl_X3_add_15 rfl rfl dX3_add_25 ?_
  refine ax_iconst cx dX3_add_28 ?_
  refine ax_isub cx dX3_add_29 ?_
  cases h
  exact ax_iret cx dX3_add_30 rfl ⟨rfl, rfl⟩
def fX3_remove_L11 : Nat → Mem → Int → Int → Option (Mem)
  | 0, _, _, _ => none
  | n + 1, M, x2, x3 =>
    gd (inR (x3)) (
    gd (inR (M 102 0)) (
    if M 102 0 ≤ x3 then (
      some (M))
    else (
      gd (inB (x3) 6) (
      gd (inB (x3 - 1) 6) (
      fX3_remove_L11 n (wr M 7 (x3 - 1).toNat (M 7 x3.toNat)) x2 (x3 + 1))))))
def fX3_remove (M : Mem) (x1 : Int) : Option (Int × Mem) :=
    gd (inB (x1) 6) (
    Option.bind (fX3_remove_L11 FU M (M 7 x1.toNat) (x1 + 1)) (fun t8 =>
    Option.bind (fX3_forget (wr t8 102 0 ((t8 102 0) - 1))) (fun t11 =>
    some (M 7 x1.toNat, t11))))
abbrev rmX3_remove : Room := { frames := 1, cells := 0, slots := 0, locals := 20 }
theorem hl_X3_remove_9 : Cond.fieldLink RX3 9 "PlateauBench$Nets" "nodes" "[I" ∈ wsX3_remove := by decide +kernel
theorem hl_X3_remove_15 : Cond.fieldLink RX3 15 "PlateauBench$Nets" "count" "I" ∈ wsX3_remove := by decide +kernel
theorem hi_X3_remove_X3 : ∀ x ∈ u_ws RX3 TX3 7, x ∈ wsX3_remove := by decide +kernel
set_option maxRecDepth 100000 in
set_option maxHeartbeats 4000000 in
theorem kX3_remove (l : Launch) (ad : Nat → Nat) (M : Mem) (x1 : Int) (T : Int × Mem) (h : fX3_remove M x1 = some T) : MX l yX3_remove wsX3_remove rmX3_remove wC ad [.ref (ad 25), iV (x1)] M (some (iV (T.1))) T.2 := by
  refine MX.of (cc := cX3_remove) (nL := 4) (rt := (some .int)) (own := RX3) (by decide +kernel) rfl rfl (Nat.le_of_ble_eq_true rfl) wC_ok (fun G cx => ?_)
  show G M 0 [(0, .ref (ad 25)), (1, iV (x1))] []
  have L11 : ∀ (n : Nat) (M : Mem) (x2 : Int) (x3 : Int) (T7 : Mem), fX3_remove_L11 n M x2 x3 = some T7 → (G T7 39 [(0, .ref (ad 25)), (2, iV (x2))] []) → G M 11 [(0, .ref (ad 25)), (2, iV (x2)), (3, iV (x3))] [] := by
    intro n
    induction n with
    | zero =>
      intro M x2 x3 T7 h
      exact absurd h (by simp [fX3_remove_L11])
    | succ n ih =>
      intro M x2 x3 T7 h hJ
      rw [fX3_remove_L11] at h
      refine ax_iload_n cx 2 dX3_remove_11 rfl rfl ?_
      refine ax_aload_n cx 0 dX3_remove_12 rfl rfl ?_
      refine ax_getf (q := 25) (ci := 3) (k := 1) (v := iV (M 102 0)) cx ⟨by decide, by decide⟩ rfl rfl hi_X3_remove_X3 (by decide) hl_X3_remove_15 rfl rfl dX3_remove_13 ?_
      obtain ⟨g2, h⟩ := gd_some h
      obtain ⟨g3, h⟩ := gd_some h
      refine ax_icmp_ge cx 39 dX3_remove_16 (by decide) g2 g3 (fun c4 => ?_) (fun c4 => ?_)
      · rw [if_pos c4] at h
        refine ax_lv cx [0, 1] rfl ?_
        cases h
        exact hJ
      · rw [if_neg c4] at h
        refine ax_aload_n cx 0 dX3_remove_19 rfl rfl ?_
        refine ax_getf (q := 25) (ci := 3) (k := 0) (v := .ref (ad 7)) cx ⟨by decide, by decide⟩ rfl rfl hi_X3_remove_X3 (by decide) hl_X3_remove_9 rfl rfl dX3_remove_20 ?_
        refine ax_iload_n cx 2 dX3_remove_23 rfl rfl ?_
        refine ax_iconst cx dX3_remove_24 ?_
        refine ax_isub cx dX3_remove_25 ?_
        refine ax_aload_n cx 0 dX3_remove_26 rfl rfl ?_
        refine ax_getf (q := 25) (ci := 3) (k := 0) (v := .ref (ad 7)) cx ⟨by decide, by decide⟩ rfl rfl hi_X3_remove_X3 (by decide) hl_X3_remove_9 rfl rfl dX3_remove_27 ?_
        refine ax_iload_n cx 2 dX3_remove_30 rfl rfl ?_
        obtain ⟨g5, h⟩ := gd_some h
        refine ax_iald (n := 6) cx (by decide) rfl rfl g5 dX3_remove_31 ?_
        obtain ⟨g6, h⟩ := gd_some h
        refine ax_iast (n := 6) cx (by decide) rfl rfl g6 dX3_remove_32 ?_
        refine ax_iinc (lv' := [(3, iV (x3 + 1)), (0, .ref (ad 25)), (2, iV (x2))]) cx 2 dX3_remove_33 rfl (by decide) rfl ?_
        refine ax_goto cx 11 dX3_remove_36 (by decide) ?_
        refine ax_lv cx [1, 2, 0] rfl ?_
        exact ih _ _ _ _ h hJ
  unfold fX3_remove at h
  refine ax_aload_n cx 0 dX3_remove_0 rfl rfl ?_
  refine ax_getf (q := 25) (ci := 3) (k := 0) (v := .ref (ad 7)) cx ⟨by decide, by decide⟩ rfl rfl hi_X3_remove_X3 (by decide) hl_X3_remove_9 rfl rfl dX3_remove_1 ?_
  refine ax_iload_n cx 1 dX3_remove_4 rfl rfl ?_
  obtain ⟨g1, h⟩ := gd_some h
  refine ax_iald (n := 6) cx (by decide) rfl rfl g1 dX3_remove_5 ?_
  refine ax_istore_n (lv' := [(2, iV (M 7 x1.toNat)), (0, .ref (ad 25)), (1, iV (x1))]) cx dX3_remove_6 rfl (by decide) rfl ?_
  refine ax_iload_n cx 2 dX3_remove_7 rfl rfl ?_
  refine ax_iconst cx dX3_remove_8 ?_
  refine ax_iadd cx dX3_remove_9 ?_
  refine ax_istore_n (lv' := [(3, iV (x1 + 1)), (2, iV (M 7 x1.toNat)), (0, .ref (ad 25)), (1, iV (x1))]) cx dX3_remove_10 rfl (by decide) rfl ?_
  obtain ⟨t8, e9, h⟩ := ob h
  refine ax_lv cx [2, 1, 0] rfl ?_
  have J10 : G t8 39 [(0, .ref (ad 25)), (2, iV (M 7 x1.toNat))] [] := by
    refine ax_aload_n cx 0 dX3_remove_39 rfl rfl ?_
    refine ax_dup cx dX3_remove_40 rfl ?_
    refine ax_getf (q := 25) (ci := 3) (k := 1) (v := iV (t8 102 0)) cx ⟨by decide, by decide⟩ rfl rfl hi_X3_remove_X3 (by decide) hl_X3_remove_15 rfl rfl dX3_remove_41 ?_
    refine ax_iconst cx dX3_remove_44 ?_
    refine ax_isub cx dX3_remove_45 ?_
    refine ax_putf (q := 25) (ci := 3) (k := 1) (f := 102) (ty := .int) cx ⟨by decide, by decide⟩ rfl rfl hi_X3_remove_X3 tyX3 tyX3_ok nmX3 (by decide) hl_X3_remove_15 rfl (by decide +kernel) (by decide +kernel) rfl rfl (Nat.le_of_ble_eq_true rfl) (by decide) rfl (putC_102 ad _ _) dX3_remove_46 ?_
    refine ax_aload_n cx 0 dX3_remove_49 rfl rfl ?_
    obtain ⟨t11, e12, h⟩ := ob h
    refine ax_callV (As := []) (q := 25) (ci := 3) (n := 0) cx (kX3_forget l ad (wr t8 102 0 ((t8 102 0) - 1))  _ e12) gX3_remove_X3_forget rfl ⟨by decide, by decide⟩ rfl rfl ⟨rfl, rfl⟩ (by decide +kernel) rfl ⟨by decide, by decide⟩ rfl (Nat.le_of_ble_eq_true rfl) dX3_remove_50 ?_
    refine ax_iload_n cx 1 dX3_remove_53 rfl rfl ?_
    cases h
    exact ax_iret cx dX3_remove_54 rfl ⟨rfl, rfl⟩
  exact L11 FU M (M 7 x1.toNat) (x1 + 1) _ e9 J10
def fX3_allTowns (M : Mem)  : Option (Int) :=
    some ((zshl 1 (M 102 0)) - 1)
abbrev rmX3_allTowns : Room := { frames := 0, cells := 0, slots := 0, locals := 0 }
theorem hl_X3_allTowns_15 : Cond.fieldLink RX3 15 "PlateauBench$Nets" "count" "I" ∈ wsX3_allTowns := by decide +kernel
theorem hi_X3_allTowns_X3 : ∀ x ∈ u_ws RX3 TX3 7, x ∈ wsX3_allTowns := by decide +kernel
set_option maxRecDepth 100000 in
set_option maxHeartbeats 4000000 in
theorem kX3_allTowns (l : Launch) (ad : Nat → Nat) (M : Mem)  (T : Int) (h : fX3_allTowns M  = some T) : MX l yX3_allTowns wsX3_allTowns rmX3_allTowns wC ad [.ref (ad 25)] M (some (iV (T))) M := by
  refine MX.of (cc := cX3_allTowns) (nL := 1) (rt := (some .int)) (own := RX3) (by decide +kernel) rfl rfl (Nat.le_of_ble_eq_true rfl) wC_ok (fun G cx => ?_)
  show G M 0 [(0, .ref (ad 25))] []
  unfold fX3_allTowns at h
  refine ax_iconst cx dX3_allTowns_0 ?_
  refine ax_aload_n cx 0 dX3_allTowns_1 rfl rfl ?_
  refine ax_getf (q := 25) (ci := 3) (k := 1) (v := iV (M 102 0)) cx ⟨by decide, by decide⟩ rfl rfl hi_X3_allTowns_X3 (by decide) hl_X3_allTowns_15 rfl rfl dX3_allTowns_2 ?_
  refine ax_ishl cx dX3_allTowns_5 ?_
  refine ax_iconst cx dX3_allTowns_6 ?_
  refine ax_isub cx dX3_allTowns_7 ?_
  cases h
  exact ax_iret cx dX3_allTowns_8 rfl ⟨rfl, rfl⟩
def fX3_joinParts_L7 : Nat → Mem → Int → Int → Int → Option (Mem)
  | 0, _, _, _, _ => none
  | n + 1, M, x1, x2, x3 =>
    gd (inR (x3)) (
    if 36 ≤ x3 then (
      some (M))
    else (
      gd (inB (x2 + x3) 2304) (
      fX3_joinParts_L7 n (wr M 8 (x2 + x3).toNat 1000000) x1 x2 (x3 + 1))))
def fX3_joinParts_L57 : Nat → Mem → Int → Int → Int → Int → Int → Option (Mem)
  | 0, _, _, _, _, _, _ => none
  | n + 1, M, x1, x2, x3, x4, x5 =>
    gd (inR (x5)) (
    if 36 ≤ x5 then (
      some (M))
    else (
      gd (inB ((x3 * 36) + x5) 2304) (
      gd (inB ((x4 * 36) + x5) 2304) (
      gd (inB (x2 + x5) 2304) (
      gd (inR (M 8 (x2 + x5).toNat)) (
      gd (inR ((M 8 ((x3 * 36) + x5).toNat) + (M 8 ((x4 * 36) + x5).toNat))) (
      gd (inB (x2 + x5) 2304) (
      fX3_joinParts_L57 n (wr M 8 (x2 + x5).toNat (if (M 8 ((x3 * 36) + x5).toNat) + (M 8 ((x4 * 36) + x5).toNat) < M 8 (x2 + x5).toNat then (M 8 ((x3 * 36) + x5).toNat) + (M 8 ((x4 * 36) + x5).toNat) else M 8 (x2 + x5).toNat)) x1 x2 x3 x4 (x5 + 1)))))))))
def fX3_joinParts_L31 : Nat → Mem → Int → Int → Int → Option (Mem)
  | 0, _, _, _, _ => none
  | n + 1, M, x1, x2, x3 =>
    gd (inR (x3)) (
    gd (inR (x1)) (
    if x1 ≤ x3 then (
      some (M))
    else (
      gd (inR (zand x3 x1)) (
      Option.bind (if zand x3 x1 = x3 then (
        gd (inR (x1 - x3)) (
        if x1 - x3 ≤ x3 then (
          some (M))
        else (
          Option.bind (fX3_joinParts_L57 FU M x1 x2 x3 (x1 - x3) 0) (fun t24 =>
          some (t24)))))
      else (
        some (M))) (fun t27 =>
      fX3_joinParts_L31 n t27 x1 x2 (x3 + 1))))))
def fX3_joinParts (M : Mem) (x1 : Int) : Option (Mem) :=
    Option.bind (fX3_joinParts_L7 FU M x1 (x1 * 36) 0) (fun t5 =>
    Option.bind (fX3_joinParts_L31 FU t5 x1 (x1 * 36) 1) (fun t31 =>
    some (t31)))
abbrev rmX3_joinParts : Room := { frames := 1, cells := 0, slots := 0, locals := 21 }
theorem hl_X3_joinParts_19 : Cond.fieldLink RX3 19 "PlateauBench$Nets" "joined" "[I" ∈ wsX3_joinParts := by decide +kernel
theorem hw_X3_joinParts_c75 : Cond.constant RX3 75 (1000000) ∈ wsX3_joinParts := by decide +kernel
theorem hw_X3_joinParts_l76 : Cond.methodLink RX3 76 Lib.Math.min.name ∈ wsX3_joinParts := by decide +kernel
theorem hw_X3_joinParts_min1 : Cond.static Lib.Math.min.name ∈ wsX3_joinParts := by decide +kernel
theorem hw_X3_joinParts_math : Cond.initialized "java/lang/Math" ∈ wsX3_joinParts := by decide +kernel
theorem hw_X3_joinParts_min2 : Cond.code Lib.Math.min.name Lib.Math.min.code 2 (some .int) ∈ wsX3_joinParts := by decide +kernel
theorem hi_X3_joinParts_X3 : ∀ x ∈ u_ws RX3 TX3 7, x ∈ wsX3_joinParts := by decide +kernel
set_option maxRecDepth 100000 in
set_option maxHeartbeats 4000000 in
theorem kX3_joinParts (l : Launch) (ad : Nat → Nat) (M : Mem) (x1 : Int) (T : Mem) (h : fX3_joinParts M x1 = some T) : MX l yX3_joinParts wsX3_joinParts rmX3_joinParts wC ad [.ref (ad 25), iV (x1)] M none T := by
  refine MX.of (cc := cX3_joinParts) (nL := 7) (rt := none) (own := RX3) (by decide +kernel) rfl rfl (Nat.le_of_ble_eq_true rfl) wC_ok (fun G cx => ?_)
  show G M 0 [(0, .ref (ad 25)), (1, iV (x1))] []
  have L7 : ∀ (n : Nat) (M : Mem) (x1 : Int) (x2 : Int) (x3 : Int) (T4 : Mem), fX3_joinParts_L7 n M x1 x2 x3 = some T4 → (G T4 29 [(0, .ref (ad 25)), (1, iV (x1)), (2, iV (x2))] []) → G M 7 [(0, .ref (ad 25)), (1, iV (x1)), (2, iV (x2)), (3, iV (x3))] [] := by
    intro n
    induction n with
    | zero =>
      intro M x1 x2 x3 T4 h
      exact absurd h (by simp [fX3_joinParts_L7])
    | succ n ih =>
      intro M x1 x2 x3 T4 h hJ
      rw [fX3_joinParts_L7] at h
      refine ax_iload_n cx 3 dX3_joinParts_7 rfl rfl ?_
      refine ax_bipush (z := 36) cx dX3_joinParts_8 (by decide) ?_
      obtain ⟨g1, h⟩ := gd_some h
      refine ax_icmp_ge cx 29 dX3_joinParts_10 (by decide) g1 ⟨by decide, by decide⟩ (fun c2 => ?_) (fun c2 => ?_)
      · rw [if_pos c2] at h
        refine ax_lv cx [0, 1, 2] rfl ?_
        cases h
        exact hJ
      · rw [if_neg c2] at h
        refine ax_aload_n cx 0 dX3_joinParts_13 rfl rfl ?_
        refine ax_getf (q := 25) (ci := 3) (k := 2) (v := .ref (ad 8)) cx ⟨by decide, by decide⟩ rfl rfl hi_X3_joinParts_X3 (by decide) hl_X3_joinParts_19 rfl rfl dX3_joinParts_14 ?_
        refine ax_iload_n cx 2 dX3_joinParts_17 rfl rfl ?_
        refine ax_iload_n cx 3 dX3_joinParts_18 rfl rfl ?_
        refine ax_iadd cx dX3_joinParts_19 ?_
        refine ax_ldc (z := 1000000) cx dX3_joinParts_20 hw_X3_joinParts_c75 (by decide) ?_
        obtain ⟨g3, h⟩ := gd_some h
        refine ax_iast (n := 2304) cx (by decide) rfl rfl g3 dX3_joinParts_22 ?_
        refine ax_iinc (lv' := [(3, iV (x3 + 1)), (0, .ref (ad 25)), (1, iV (x1)), (2, iV (x2))]) cx 3 dX3_joinParts_23 rfl (by decide) rfl ?_
        refine ax_goto cx 7 dX3_joinParts_26 (by decide) ?_
        refine ax_lv cx [1, 2, 3, 0] rfl ?_
        exact ih _ _ _ _ _ h hJ
  have L57 : ∀ (n : Nat) (M : Mem) (x1 : Int) (x2 : Int) (x3 : Int) (x4 : Int) (x5 : Int) (T23 : Mem), fX3_joinParts_L57 n M x1 x2 x3 x4 x5 = some T23 → (G T23 121 [(0, .ref (ad 25)), (1, iV (x1)), (2, iV (x2)), (3, iV (x3))] []) → G M 57 [(0, .ref (ad 25)), (1, iV (x1)), (2, iV (x2)), (3, iV (x3)), (4, iV (x4)), (5, iV (x5))] [] := by
    intro n
    induction n with
    | zero =>
      intro M x1 x2 x3 x4 x5 T23 h
      exact absurd h (by simp [fX3_joinParts_L57])
    | succ n ih =>
      intro M x1 x2 x3 x4 x5 T23 h hJ
      rw [fX3_joinParts_L57] at h
      refine ax_iload cx 5 dX3_joinParts_57 rfl ?_
      refine ax_bipush (z := 36) cx dX3_joinParts_59 (by decide) ?_
      obtain ⟨g15, h⟩ := gd_some h
      refine ax_icmp_ge cx 121 dX3_joinParts_61 (by decide) g15 ⟨by decide, by decide⟩ (fun c16 => ?_) (fun c16 => ?_)
      · rw [if_pos c16] at h
        refine ax_lv cx [0, 1, 2, 3] rfl ?_
        cases h
        exact hJ
      · rw [if_neg c16] at h
        refine ax_aload_n cx 0 dX3_joinParts_64 rfl rfl ?_
        refine ax_getf (q := 25) (ci := 3) (k := 2) (v := .ref (ad 8)) cx ⟨by decide, by decide⟩ rfl rfl hi_X3_joinParts_X3 (by decide) hl_X3_joinParts_19 rfl rfl dX3_joinParts_65 ?_
        refine ax_iload_n cx 3 dX3_joinParts_68 rfl rfl ?_
        refine ax_bipush (z := 36) cx dX3_joinParts_69 (by decide) ?_
        refine ax_imul cx dX3_joinParts_71 ?_
        refine ax_iload cx 5 dX3_joinParts_72 rfl ?_
        refine ax_iadd cx dX3_joinParts_74 ?_
        obtain ⟨g17, h⟩ := gd_some h
        refine ax_iald (n := 2304) cx (by decide) rfl rfl g17 dX3_joinParts_75 ?_
        refine ax_aload_n cx 0 dX3_joinParts_76 rfl rfl ?_
        refine ax_getf (q := 25) (ci := 3) (k := 2) (v := .ref (ad 8)) cx ⟨by decide, by decide⟩ rfl rfl hi_X3_joinParts_X3 (by decide) hl_X3_joinParts_19 rfl rfl dX3_joinParts_77 ?_
        refine ax_iload cx 4 dX3_joinParts_80 rfl ?_
        refine ax_bipush (z := 36) cx dX3_joinParts_82 (by decide) ?_
        refine ax_imul cx dX3_joinParts_84 ?_
        refine ax_iload cx 5 dX3_joinParts_85 rfl ?_
        refine ax_iadd cx dX3_joinParts_87 ?_
        obtain ⟨g18, h⟩ := gd_some h
        refine ax_iald (n := 2304) cx (by decide) rfl rfl g18 dX3_joinParts_88 ?_
        refine ax_iadd cx dX3_joinParts_89 ?_
        refine ax_istore (lv' := [(6, iV ((M 8 ((x3 * 36) + x5).toNat) + (M 8 ((x4 * 36) + x5).toNat))), (0, .ref (ad 25)), (1, iV (x1)), (2, iV (x2)), (3, iV (x3)), (4, iV (x4)), (5, iV (x5))]) cx dX3_joinParts_90 (by decide) rfl ?_
        refine ax_aload_n cx 1 dX3_joinParts_92 rfl rfl ?_
        refine ax_getf (q := 25) (ci := 3) (k := 2) (v := .ref (ad 8)) cx ⟨by decide, by decide⟩ rfl rfl hi_X3_joinParts_X3 (by decide) hl_X3_joinParts_19 rfl rfl dX3_joinParts_93 ?_
        refine ax_iload_n cx 3 dX3_joinParts_96 rfl rfl ?_
        refine ax_iload cx 6 dX3_joinParts_97 rfl ?_
        refine ax_iadd cx dX3_joinParts_99 ?_
        refine ax_aload_n cx 1 dX3_joinParts_100 rfl rfl ?_
        refine ax_getf (q := 25) (ci := 3) (k := 2) (v := .ref (ad 8)) cx ⟨by decide, by decide⟩ rfl rfl hi_X3_joinParts_X3 (by decide) hl_X3_joinParts_19 rfl rfl dX3_joinParts_101 ?_
        refine ax_iload_n cx 3 dX3_joinParts_104 rfl rfl ?_
        refine ax_iload cx 6 dX3_joinParts_105 rfl ?_
        refine ax_iadd cx dX3_joinParts_107 ?_
        obtain ⟨g19, h⟩ := gd_some h
        refine ax_iald (n := 2304) cx (by decide) rfl rfl g19 dX3_joinParts_108 ?_
        refine ax_iload cx 0 dX3_joinParts_109 rfl ?_
        obtain ⟨g20, h⟩ := gd_some h
        obtain ⟨g21, h⟩ := gd_some h
        refine ax_min cx g20 g21 hw_X3_joinParts_l76 hw_X3_joinParts_min1 hw_X3_joinParts_math hw_X3_joinParts_min2 (by decide) (Nat.le_of_ble_eq_true rfl) dX3_joinParts_111 ?_
        obtain ⟨g22, h⟩ := gd_some h
        refine ax_iast (n := 2304) cx (by decide) rfl rfl g22 dX3_joinParts_114 ?_
        refine ax_iinc (lv' := [(5, iV (x5 + 1)), (6, iV ((M 8 ((x3 * 36) + x5).toNat) + (M 8 ((x4 * 36) + x5).toNat))), (0, .ref (ad 25)), (1, iV (x1)), (2, iV (x2)), (3, iV (x3)), (4, iV (x4))]) cx 6 dX3_joinParts_115 rfl (by decide) rfl ?_
        refine ax_goto cx 57 dX3_joinParts_118 (by decide) ?_
        refine ax_lv cx [2, 3, 4, 5, 6, 0] rfl ?_
        exact ih _ _ _ _ _ _ _ h hJ
  have L31 : ∀ (n : Nat) (M : Mem) (x1 : Int) (x2 : Int) (x3 : Int) (T30 : Mem), fX3_joinParts_L31 n M x1 x2 x3 = some T30 → (G T30 127 [] []) → G M 31 [(0, .ref (ad 25)), (1, iV (x1)), (2, iV (x2)), (3, iV (x3))] [] := by
    intro n
    induction n with
    | zero =>
      intro M x1 x2 x3 T30 h
      exact absurd h (by simp [fX3_joinParts_L31])
    | succ n ih =>
      intro M x1 x2 x3 T30 h hJ
      rw [fX3_joinParts_L31] at h
      refine ax_iload_n cx 3 dX3_joinParts_31 rfl rfl ?_
      refine ax_iload_n cx 1 dX3_joinParts_32 rfl rfl ?_
      obtain ⟨g8, h⟩ := gd_some h
      obtain ⟨g9, h⟩ := gd_some h
      refine ax_icmp_ge cx 127 dX3_joinParts_33 (by decide) g8 g9 (fun c10 => ?_) (fun c10 => ?_)
      · rw [if_pos c10] at h
        refine ax_lv cx [] rfl ?_
        cases h
        exact hJ
      · rw [if_neg c10] at h
        refine ax_iload_n cx 1 dX3_joinParts_36 rfl rfl ?_
        refine ax_iload_n cx 3 dX3_joinParts_37 rfl rfl ?_
        refine ax_isub cx dX3_joinParts_38 ?_
        refine ax_istore (lv' := [(4, iV (x1 - x3)), (0, .ref (ad 25)), (1, iV (x1)), (2, iV (x2)), (3, iV (x3))]) cx dX3_joinParts_39 (by decide) rfl ?_
        refine ax_iload_n cx 4 dX3_joinParts_41 rfl rfl ?_
        refine ax_iload_n cx 2 dX3_joinParts_42 rfl rfl ?_
        refine ax_iand cx dX3_joinParts_43 ?_
        refine ax_iload_n cx 4 dX3_joinParts_44 rfl rfl ?_
        obtain ⟨g11, h⟩ := gd_some h
        obtain ⟨t27, e29, h⟩ := ob h
        have J28 : G t27 121 [(0, .ref (ad 25)), (1, iV (x1)), (2, iV (x2)), (3, iV (x3))] [] := by
          refine ax_iinc (lv' := [(3, iV (x3 + 1)), (0, .ref (ad 25)), (1, iV (x1)), (2, iV (x2))]) cx 3 dX3_joinParts_121 rfl (by decide) rfl ?_
          refine ax_goto cx 31 dX3_joinParts_124 (by decide) ?_
          refine ax_lv cx [1, 2, 3, 0] rfl ?_
          exact ih _ _ _ _ _ h hJ
        clear h
        have h := e29
        clear e29
        refine ax_icmp_ne cx 121 dX3_joinParts_45 (by decide) g11 g8 (fun c12 => ?_) (fun c12 => ?_)
        · rw [if_pos c12] at h
          refine ax_iload_n cx 4 dX3_joinParts_48 rfl rfl ?_
          refine ax_iload cx 0 dX3_joinParts_49 rfl ?_
          obtain ⟨g13, h⟩ := gd_some h
          refine ax_icmp_ge cx 121 dX3_joinParts_51 (by decide) g8 g13 (fun c14 => ?_) (fun c14 => ?_)
          · rw [if_pos c14] at h
            refine ax_lv cx [1, 2, 3, 4] rfl ?_
            cases h
            exact J28
          · rw [if_neg c14] at h
            refine ax_iconst cx dX3_joinParts_54 ?_
            refine ax_istore (lv' := [(5, iV (0)), (4, iV (x1 - x3)), (0, .ref (ad 25)), (1, iV (x1)), (2, iV (x2)), (3, iV (x3))]) cx dX3_joinParts_55 (by decide) rfl ?_
            obtain ⟨t24, e25, h⟩ := ob h
            refine ax_lv cx [2, 3, 4, 5, 1, 0] rfl ?_
            have J26 : G t24 121 [(0, .ref (ad 25)), (1, iV (x1)), (2, iV (x2)), (3, iV (x3))] [] := by
              cases h
              exact J28
            exact L57 FU M x1 x2 x3 (x1 - x3) 0 _ e25 J26
        · rw [if_neg c12] at h
          refine ax_lv cx [1, 2, 3, 4] rfl ?_
          cases h
          exact J28
  unfold fX3_joinParts at h
  refine ax_iload_n cx 1 dX3_joinParts_0 rfl rfl ?_
  refine ax_bipush (z := 36) cx dX3_joinParts_1 (by decide) ?_
  refine ax_imul cx dX3_joinParts_3 ?_
  refine ax_istore_n (lv' := [(2, iV (x1 * 36)), (0, .ref (ad 25)), (1, iV (x1))]) cx dX3_joinParts_4 rfl (by decide) rfl ?_
  refine ax_iconst cx dX3_joinParts_5 ?_
  refine ax_istore_n (lv' := [(3, iV (0)), (2, iV (x1 * 36)), (0, .ref (ad 25)), (1, iV (x1))]) cx dX3_joinParts_6 rfl (by decide) rfl ?_
  obtain ⟨t5, e6, h⟩ := ob h
  refine ax_lv cx [2, 3, 1, 0] rfl ?_
  have J7 : G t5 29 [(0, .ref (ad 25)), (1, iV (x1)), (2, iV (x1 * 36))] [] := by
    refine ax_iconst cx dX3_joinParts_29 ?_
    refine ax_istore_n (lv' := [(3, iV (1)), (0, .ref (ad 25)), (1, iV (x1)), (2, iV (x1 * 36))]) cx dX3_joinParts_30 rfl (by decide) rfl ?_
    obtain ⟨t31, e32, h⟩ := ob h
    refine ax_lv cx [1, 2, 3, 0] rfl ?_
    have J33 : G t31 127 [] [] := by
      cases h
      exact ax_vret cx dX3_joinParts_127 rfl ⟨rfl, rfl⟩
    exact L31 FU t5 x1 (x1 * 36) 1 _ e32 J33
  exact L7 FU M x1 (x1 * 36) 0 _ e6 J7
def fX3_joinAll_L10 : Nat → Mem → Int → Option (Mem)
  | 0, _, _ => none
  | n + 1, M, x2 =>
    gd (inR (x2)) (
    gd (inR (M 102 0)) (
    if M 102 0 ≤ x2 then (
      some (M))
    else (
      gd (inB (x2) 6) (
      Option.bind (fX2_measure M 8 ((zshl 1 x2) * 36) (M 7 x2.toNat)) (fun t7 =>
      fX3_joinAll_L10 n t7 (x2 + 1))))))
def fX3_joinAll_L51 : Nat → Mem → Int → Int → Option (Mem)
  | 0, _, _, _ => none
  | n + 1, M, x2, x3 =>
    gd (inR (x3)) (
    gd (inR (x2)) (
    if x2 < x3 then (
      some (M))
    else (
      Option.bind (fJ6_bitCount_0f7a4 M x3) (fun t18 =>
      gd (inR (t18)) (
      Option.bind (if t18 ≤ 1 then (
        some (M))
      else (
        Option.bind (fX3_joinParts M x3) (fun t22 =>
        Option.bind (fX2_settle t22 8 (x3 * 36)) (fun t24 =>
        some (t24))))) (fun t26 =>
      fX3_joinAll_L51 n t26 x2 (x3 + 1)))))))
def fX3_joinAll (M : Mem)  : Option (Mem) :=
    gd (inR (M 103 0)) (
    if M 103 0 = 0 then (
      Option.bind (fX3_joinAll_L10 FU M 0) (fun t10 =>
      Option.bind (fX3_allTowns t10) (fun t13 =>
      Option.bind (fX3_joinAll_L51 FU t10 t13 1) (fun t30 =>
      some ((wr t30 103 0 1))))))
    else (
      some (M)))
abbrev rmX3_joinAll : Room := { frames := 3, cells := 0, slots := 0, locals := 75 }
theorem hl_X3_joinAll_22 : Cond.fieldLink RX3 22 "PlateauBench$Nets" "isJoined" "Z" ∈ wsX3_joinAll := by decide +kernel
theorem hl_X3_joinAll_15 : Cond.fieldLink RX3 15 "PlateauBench$Nets" "count" "I" ∈ wsX3_joinAll := by decide +kernel
theorem hl_X3_joinAll_19 : Cond.fieldLink RX3 19 "PlateauBench$Nets" "joined" "[I" ∈ wsX3_joinAll := by decide +kernel
theorem hl_X3_joinAll_9 : Cond.fieldLink RX3 9 "PlateauBench$Nets" "nodes" "[I" ∈ wsX3_joinAll := by decide +kernel
theorem hi_X3_joinAll_X3 : ∀ x ∈ u_ws RX3 TX3 7, x ∈ wsX3_joinAll := by decide +kernel
set_option maxRecDepth 100000 in
set_option maxHeartbeats 4000000 in
theorem kX3_joinAll (l : Launch) (ad : Nat → Nat) (M : Mem)  (T : Mem) (h : fX3_joinAll M  = some T) : MX l yX3_joinAll wsX3_joinAll rmX3_joinAll wC ad [.ref (ad 25), .ref (ad 23)] M none T := by
  refine MX.of (cc := cX3_joinAll) (nL := 4) (rt := none) (own := RX3) (by decide +kernel) rfl rfl (Nat.le_of_ble_eq_true rfl) wC_ok (fun G cx => ?_)
  show G M 0 [(0, .ref (ad 25)), (1, .ref (ad 23))] []
  have L10 : ∀ (n : Nat) (M : Mem) (x2 : Int) (T9 : Mem), fX3_joinAll_L10 n M x2 = some T9 → (G T9 44 [(0, .ref (ad 25)), (1, .ref (ad 23))] []) → G M 10 [(0, .ref (ad 25)), (1, .ref (ad 23)), (2, iV (x2))] [] := by
    intro n
    induction n with
    | zero =>
      intro M x2 T9 h
      exact absurd h (by simp [fX3_joinAll_L10])
    | succ n ih =>
      intro M x2 T9 h hJ
      rw [fX3_joinAll_L10] at h
      refine ax_iload_n cx 2 dX3_joinAll_10 rfl rfl ?_
      refine ax_aload_n cx 0 dX3_joinAll_11 rfl rfl ?_
      refine ax_getf (q := 25) (ci := 3) (k := 1) (v := iV (M 102 0)) cx ⟨by decide, by decide⟩ rfl rfl hi_X3_joinAll_X3 (by decide) hl_X3_joinAll_15 rfl rfl dX3_joinAll_12 ?_
      obtain ⟨g3, h⟩ := gd_some h
      obtain ⟨g4, h⟩ := gd_some h
      refine ax_icmp_ge cx 44 dX3_joinAll_15 (by decide) g3 g4 (fun c5 => ?_) (fun c5 => ?_)
      · rw [if_pos c5] at h
        refine ax_lv cx [0, 1] rfl ?_
        cases h
        exact hJ
      · rw [if_neg c5] at h
        refine ax_aload_n cx 1 dX3_joinAll_18 rfl rfl ?_
        refine ax_aload_n cx 0 dX3_joinAll_19 rfl rfl ?_
        refine ax_getf (q := 25) (ci := 3) (k := 2) (v := .ref (ad 8)) cx ⟨by decide, by decide⟩ rfl rfl hi_X3_joinAll_X3 (by decide) hl_X3_joinAll_19 rfl rfl dX3_joinAll_20 ?_
        refine ax_iconst cx dX3_joinAll_23 ?_
        refine ax_iload_n cx 2 dX3_joinAll_24 rfl rfl ?_
        refine ax_ishl cx dX3_joinAll_25 ?_
        refine ax_bipush (z := 36) cx dX3_joinAll_26 (by decide) ?_
        refine ax_imul cx dX3_joinAll_28 ?_
        refine ax_aload_n cx 0 dX3_joinAll_29 rfl rfl ?_
        refine ax_getf (q := 25) (ci := 3) (k := 0) (v := .ref (ad 7)) cx ⟨by decide, by decide⟩ rfl rfl hi_X3_joinAll_X3 (by decide) hl_X3_joinAll_9 rfl rfl dX3_joinAll_30 ?_
        refine ax_iload_n cx 2 dX3_joinAll_33 rfl rfl ?_
        obtain ⟨g6, h⟩ := gd_some h
        refine ax_iald (n := 6) cx (by decide) rfl rfl g6 dX3_joinAll_34 ?_
        obtain ⟨t7, e8, h⟩ := ob h
        refine ax_callV (As := [.ref (ad 8), iV ((zshl 1 x2) * 36), iV (M 7 x2.toNat)]) (q := 23) (ci := 2) (n := 3) cx (kX2_measure l ad M 8 ((zshl 1 x2) * 36) (M 7 x2.toNat) _ e8) gX3_joinAll_X2_measure rfl ⟨by decide, by decide⟩ rfl rfl ⟨rfl, rfl⟩ (by decide +kernel) rfl ⟨by decide, by decide⟩ rfl (Nat.le_of_ble_eq_true rfl) dX3_joinAll_35 ?_
        refine ax_iinc (lv' := [(2, iV (x2 + 1)), (0, .ref (ad 25)), (1, .ref (ad 23))]) cx 2 dX3_joinAll_38 rfl (by decide) rfl ?_
        refine ax_goto cx 10 dX3_joinAll_41 (by decide) ?_
        refine ax_lv cx [1, 2, 0] rfl ?_
        exact ih _ _ _ h hJ
  have L51 : ∀ (n : Nat) (M : Mem) (x2 : Int) (x3 : Int) (T29 : Mem), fX3_joinAll_L51 n M x2 x3 = some T29 → (G T29 87 [(0, .ref (ad 25))] []) → G M 51 [(0, .ref (ad 25)), (1, .ref (ad 23)), (2, iV (x2)), (3, iV (x3))] [] := by
    intro n
    induction n with
    | zero =>
      intro M x2 x3 T29 h
      exact absurd h (by simp [fX3_joinAll_L51])
    | succ n ih =>
      intro M x2 x3 T29 h hJ
      rw [fX3_joinAll_L51] at h
      refine ax_iload_n cx 3 dX3_joinAll_51 rfl rfl ?_
      refine ax_iload_n cx 2 dX3_joinAll_52 rfl rfl ?_
      obtain ⟨g15, h⟩ := gd_some h
      obtain ⟨g16, h⟩ := gd_some h
      refine ax_icmp_gt cx 87 dX3_joinAll_53 (by decide) g15 g16 (fun c17 => ?_) (fun c17 => ?_)
      · rw [if_pos c17] at h
        refine ax_lv cx [0] rfl ?_
        cases h
        exact hJ
      · rw [if_neg c17] at h
        refine ax_iload_n cx 3 dX3_joinAll_56 rfl rfl ?_
        obtain ⟨t18, e19, h⟩ := ob h
        refine ax_callS (As := [iV (x3)]) (n := 1) cx (kJ6_bitCount_0f7a4 l ad M x3 _ e19) gX3_joinAll_J6_bitCount_0f7a4 rfl ⟨rfl, rfl⟩ (by decide +kernel) rfl ⟨by decide, by decide⟩ rfl (Nat.le_of_ble_eq_true rfl) dX3_joinAll_57 ?_
        refine ax_iconst cx dX3_joinAll_60 ?_
        obtain ⟨g20, h⟩ := gd_some h
        obtain ⟨t26, e28, h⟩ := ob h
        have J27 : G t26 81 [(0, .ref (ad 25)), (1, .ref (ad 23)), (2, iV (x2)), (3, iV (x3))] [] := by
          refine ax_iinc (lv' := [(3, iV (x3 + 1)), (0, .ref (ad 25)), (1, .ref (ad 23)), (2, iV (x2))]) cx 3 dX3_joinAll_81 rfl (by decide) rfl ?_
          refine ax_goto cx 51 dX3_joinAll_84 (by decide) ?_
          refine ax_lv cx [1, 2, 3, 0] rfl ?_
          exact ih _ _ _ _ h hJ
        clear h
        have h := e28
        clear e28
        refine ax_icmp_le cx 81 dX3_joinAll_61 (by decide) g20 ⟨by decide, by decide⟩ (fun c21 => ?_) (fun c21 => ?_)
        · rw [if_pos c21] at h
          cases h
          exact J27
        · rw [if_neg c21] at h
          refine ax_aload_n cx 0 dX3_joinAll_64 rfl rfl ?_
          refine ax_iload_n cx 3 dX3_joinAll_65 rfl rfl ?_
          obtain ⟨t22, e23, h⟩ := ob h
          refine ax_callV (As := [iV (x3)]) (q := 25) (ci := 3) (n := 1) cx (kX3_joinParts l ad M x3 _ e23) gX3_joinAll_X3_joinParts rfl ⟨by decide, by decide⟩ rfl rfl ⟨rfl, rfl⟩ (by decide +kernel) rfl ⟨by decide, by decide⟩ rfl (Nat.le_of_ble_eq_true rfl) dX3_joinAll_66 ?_
          refine ax_aload_n cx 1 dX3_joinAll_69 rfl rfl ?_
          refine ax_aload_n cx 0 dX3_joinAll_70 rfl rfl ?_
          refine ax_getf (q := 25) (ci := 3) (k := 2) (v := .ref (ad 8)) cx ⟨by decide, by decide⟩ rfl rfl hi_X3_joinAll_X3 (by decide) hl_X3_joinAll_19 rfl rfl dX3_joinAll_71 ?_
          refine ax_iload_n cx 3 dX3_joinAll_74 rfl rfl ?_
          refine ax_bipush (z := 36) cx dX3_joinAll_75 (by decide) ?_
          refine ax_imul cx dX3_joinAll_77 ?_
          obtain ⟨t24, e25, h⟩ := ob h
          refine ax_callV (As := [.ref (ad 8), iV (x3 * 36)]) (q := 23) (ci := 2) (n := 2) cx (kX2_settle l ad t22 8 (x3 * 36) _ e25) gX3_joinAll_X2_settle rfl ⟨by decide, by decide⟩ rfl rfl ⟨rfl, rfl⟩ (by decide +kernel) rfl ⟨by decide, by decide⟩ rfl (Nat.le_of_ble_eq_true rfl) dX3_joinAll_78 ?_
          cases h
          exact J27
  unfold fX3_joinAll at h
  refine ax_aload_n cx 0 dX3_joinAll_0 rfl rfl ?_
  refine ax_getf (q := 25) (ci := 3) (k := 3) (v := iV (M 103 0)) cx ⟨by decide, by decide⟩ rfl rfl hi_X3_joinAll_X3 (by decide) hl_X3_joinAll_22 rfl rfl dX3_joinAll_1 ?_
  obtain ⟨g1, h⟩ := gd_some h
  refine ax_if_eq cx 8 dX3_joinAll_4 (by decide) g1 (fun c2 => ?_) (fun c2 => ?_)
  · rw [if_pos c2] at h
    refine ax_iconst cx dX3_joinAll_8 ?_
    refine ax_istore_n (lv' := [(2, iV (0)), (0, .ref (ad 25)), (1, .ref (ad 23))]) cx dX3_joinAll_9 rfl (by decide) rfl ?_
    obtain ⟨t10, e11, h⟩ := ob h
    refine ax_lv cx [1, 2, 0] rfl ?_
    have J12 : G t10 44 [(0, .ref (ad 25)), (1, .ref (ad 23))] [] := by
      refine ax_aload_n cx 0 dX3_joinAll_44 rfl rfl ?_
      obtain ⟨t13, e14, h⟩ := ob h
      refine ax_callV (As := []) (q := 25) (ci := 3) (n := 0) cx (kX3_allTowns l ad t10  _ e14) gX3_joinAll_X3_allTowns rfl ⟨by decide, by decide⟩ rfl rfl ⟨rfl, rfl⟩ (by decide +kernel) rfl ⟨by decide, by decide⟩ rfl (Nat.le_of_ble_eq_true rfl) dX3_joinAll_45 ?_
      refine ax_istore_n (lv' := [(2, iV (t13)), (0, .ref (ad 25)), (1, .ref (ad 23))]) cx dX3_joinAll_48 rfl (by decide) rfl ?_
      refine ax_iconst cx dX3_joinAll_49 ?_
      refine ax_istore_n (lv' := [(3, iV (1)), (2, iV (t13)), (0, .ref (ad 25)), (1, .ref (ad 23))]) cx dX3_joinAll_50 rfl (by decide) rfl ?_
      obtain ⟨t30, e31, h⟩ := ob h
      refine ax_lv cx [2, 3, 1, 0] rfl ?_
      have J32 : G t30 87 [(0, .ref (ad 25))] [] := by
        refine ax_aload_n cx 0 dX3_joinAll_87 rfl rfl ?_
        refine ax_iconst cx dX3_joinAll_88 ?_
        refine ax_putf (q := 25) (ci := 3) (k := 3) (f := 103) (ty := .boolean) cx ⟨by decide, by decide⟩ rfl rfl hi_X3_joinAll_X3 tyX3 tyX3_ok nmX3 (by decide) hl_X3_joinAll_22 rfl (by decide +kernel) (by decide +kernel) rfl rfl (Nat.le_of_ble_eq_true rfl) (by decide) rfl (putC_103 ad _ _) dX3_joinAll_89 ?_
        cases h
        exact ax_vret cx dX3_joinAll_92 rfl ⟨rfl, rfl⟩
      exact L51 FU t10 t13 1 _ e31 J32
    exact L10 FU M 0 _ e11 J12
  · rw [if_neg c2] at h
    cases h
    exact ax_vret cx dX3_joinAll_7 rfl ⟨rfl, rfl⟩
def fX3_cheapest (M : Mem)  : Option (Int × Mem) :=
    gd (inR (M 102 0)) (
    if 2 ≤ M 102 0 then (
      Option.bind (fX3_joinAll M) (fun t3 =>
      Option.bind (fX3_allTowns t3) (fun t5 =>
      gd (inB ((t5 * 36) + (t3 7 (0 : Int).toNat)) 2304) (
      some (t3 8 ((t5 * 36) + (t3 7 (0 : Int).toNat)).toNat, t3)))))
    else (
      some (0, M)))
abbrev rmX3_cheapest : Room := { frames := 4, cells := 0, slots := 0, locals := 98 }
theorem hl_X3_cheapest_15 : Cond.fieldLink RX3 15 "PlateauBench$Nets" "count" "I" ∈ wsX3_cheapest := by decide +kernel
theorem hl_X3_cheapest_19 : Cond.fieldLink RX3 19 "PlateauBench$Nets" "joined" "[I" ∈ wsX3_cheapest := by decide +kernel
theorem hl_X3_cheapest_9 : Cond.fieldLink RX3 9 "PlateauBench$Nets" "nodes" "[I" ∈ wsX3_cheapest := by decide +kernel
theorem hi_X3_cheapest_X3 : ∀ x ∈ u_ws RX3 TX3 7, x ∈ wsX3_cheapest := by decide +kernel
set_option maxRecDepth 100000 in
set_option maxHeartbeats 4000000 in
theorem kX3_cheapest (l : Launch) (ad : Nat → Nat) (M : Mem)  (T : Int × Mem) (h : fX3_cheapest M  = some T) : MX l yX3_cheapest wsX3_cheapest rmX3_cheapest wC ad [.ref (ad 25), .ref (ad 23)] M (some (iV (T.1))) T.2 := by
  refine MX.of (cc := cX3_cheapest) (nL := 2) (rt := (some .int)) (own := RX3) (by decide +kernel) rfl rfl (Nat.le_of_ble_eq_true rfl) wC_ok (fun G cx => ?_)
  show G M 0 [(0, .ref (ad 25)), (1, .ref (ad 23))] []
  unfold fX3_cheapest at h
  refine ax_aload_n cx 0 dX3_cheapest_0 rfl rfl ?_
  refine ax_getf (q := 25) (ci := 3) (k := 1) (v := iV (M 102 0)) cx ⟨by decide, by decide⟩ rfl rfl hi_X3_cheapest_X3 (by decide) hl_X3_cheapest_15 rfl rfl dX3_cheapest_1 ?_
  refine ax_iconst cx dX3_cheapest_4 ?_
  obtain ⟨g1, h⟩ := gd_some h
  refine ax_icmp_ge cx 10 dX3_cheapest_5 (by decide) g1 ⟨by decide, by decide⟩ (fun c2 => ?_) (fun c2 => ?_)
  · rw [if_pos c2] at h
    refine ax_aload_n cx 0 dX3_cheapest_10 rfl rfl ?_
    refine ax_aload_n cx 1 dX3_cheapest_11 rfl rfl ?_
    obtain ⟨t3, e4, h⟩ := ob h
    refine ax_callV (As := [.ref (ad 23)]) (q := 25) (ci := 3) (n := 1) cx (kX3_joinAll l ad M  _ e4) gX3_cheapest_X3_joinAll rfl ⟨by decide, by decide⟩ rfl rfl ⟨rfl, rfl⟩ (by decide +kernel) rfl ⟨by decide, by decide⟩ rfl (Nat.le_of_ble_eq_true rfl) dX3_cheapest_12 ?_
    refine ax_aload_n cx 0 dX3_cheapest_15 rfl rfl ?_
    refine ax_getf (q := 25) (ci := 3) (k := 2) (v := .ref (ad 8)) cx ⟨by decide, by decide⟩ rfl rfl hi_X3_cheapest_X3 (by decide) hl_X3_cheapest_19 rfl rfl dX3_cheapest_16 ?_
    refine ax_aload_n cx 0 dX3_cheapest_19 rfl rfl ?_
    obtain ⟨t5, e6, h⟩ := ob h
    refine ax_callV (As := []) (q := 25) (ci := 3) (n := 0) cx (kX3_allTowns l ad t3  _ e6) gX3_cheapest_X3_allTowns rfl ⟨by decide, by decide⟩ rfl rfl ⟨rfl, rfl⟩ (by decide +kernel) rfl ⟨by decide, by decide⟩ rfl (Nat.le_of_ble_eq_true rfl) dX3_cheapest_20 ?_
    refine ax_bipush (z := 36) cx dX3_cheapest_23 (by decide) ?_
    refine ax_imul cx dX3_cheapest_25 ?_
    refine ax_aload_n cx 0 dX3_cheapest_26 rfl rfl ?_
    refine ax_getf (q := 25) (ci := 3) (k := 0) (v := .ref (ad 7)) cx ⟨by decide, by decide⟩ rfl rfl hi_X3_cheapest_X3 (by decide) hl_X3_cheapest_9 rfl rfl dX3_cheapest_27 ?_
    refine ax_iconst cx dX3_cheapest_30 ?_
    refine ax_iald (n := 6) cx (by decide) rfl rfl ⟨by decide, by decide⟩ dX3_cheapest_31 ?_
    refine ax_iadd cx dX3_cheapest_32 ?_
    obtain ⟨g7, h⟩ := gd_some h
    refine ax_iald (n := 2304) cx (by decide) rfl rfl g7 dX3_cheapest_33 ?_
    cases h
    exact ax_iret cx dX3_cheapest_34 rfl ⟨rfl, rfl⟩
  · rw [if_neg c2] at h
    refine ax_iconst cx dX3_cheapest_8 ?_
    cases h
    exact ax_iret cx dX3_cheapest_9 rfl ⟨rfl, rfl⟩
def fX3_isInCheapest_L55 : Nat → Mem → Int → Int → Int → Int → Int → Int → Option ((Int × Mem) ⊕ (Unit))
  | 0, _, _, _, _, _, _, _ => none
  | n + 1, M, x2, x3, x4, x5, x6, x7 =>
    gd (inR (x7)) (
    gd (inR (x3)) (
    if x3 ≤ x7 then (
      some (.inr ()))
    else (
      gd (inB ((x7 * 36) + x5) 2304) (
      gd (inB (((x3 - x7) * 36) + x6) 2304) (
      Option.bind (fX2_price M x2) (fun t17 =>
      gd (inR (((M 8 ((x7 * 36) + x5).toNat) + (M 8 (((x3 - x7) * 36) + x6).toNat)) + t17)) (
      gd (inR (x4)) (
      if ((M 8 ((x7 * 36) + x5).toNat) + (M 8 (((x3 - x7) * 36) + x6).toNat)) + t17 = x4 then (
        some (.inl (1, M)))
      else (
        fX3_isInCheapest_L55 n M x2 x3 x4 x5 x6 (x7 + 1))))))))))
def fX3_isInCheapest (M : Mem) (x2 : Int) : Option (Int × Mem) :=
    gd (inR (M 102 0)) (
    if 2 ≤ M 102 0 then (
      Option.bind (fX3_joinAll M) (fun t3 =>
      Option.bind (fX3_allTowns t3) (fun t5 =>
      gd (inB ((t5 * 36) + (t3 7 (0 : Int).toNat)) 2304) (
      Option.bind (fX2_low t3 x2) (fun t8 =>
      Option.bind (fX2_high t3 x2) (fun t10 =>
      Option.bind (fX3_isInCheapest_L55 FU t3 x2 t5 (t3 8 ((t5 * 36) + (t3 7 (0 : Int).toNat)).toNat) t8 t10 1) (fun t23 => t23.elim (fun rr => some rr) (fun o25 =>
      some (0, t3)))))))))
    else (
      some (0, M)))
abbrev rmX3_isInCheapest : Room := { frames := 4, cells := 0, slots := 0, locals := 98 }
theorem hl_X3_isInCheapest_15 : Cond.fieldLink RX3 15 "PlateauBench$Nets" "count" "I" ∈ wsX3_isInCheapest := by decide +kernel
theorem hl_X3_isInCheapest_19 : Cond.fieldLink RX3 19 "PlateauBench$Nets" "joined" "[I" ∈ wsX3_isInCheapest := by decide +kernel
theorem hl_X3_isInCheapest_9 : Cond.fieldLink RX3 9 "PlateauBench$Nets" "nodes" "[I" ∈ wsX3_isInCheapest := by decide +kernel
theorem hi_X3_isInCheapest_X3 : ∀ x ∈ u_ws RX3 TX3 7, x ∈ wsX3_isInCheapest := by decide +kernel
set_option maxRecDepth 100000 in
set_option maxHeartbeats 4000000 in
theorem kX3_isInCheapest (l : Launch) (ad : Nat → Nat) (M : Mem) (x2 : Int) (T : Int × Mem) (h : fX3_isInCheapest M x2 = some T) : MX l yX3_isInCheapest wsX3_isInCheapest rmX3_isInCheapest wC ad [.ref (ad 25), .ref (ad 23), iV (x2)] M (some (iV (T.1))) T.2 := by
  refine MX.of (cc := cX3_isInCheapest) (nL := 9) (rt := (some .boolean)) (own := RX3) (by decide +kernel) rfl rfl (Nat.le_of_ble_eq_true rfl) wC_ok (fun G cx => ?_)
  show G M 0 [(0, .ref (ad 25)), (1, .ref (ad 23)), (2, iV (x2))] []
  have L55 : ∀ (n : Nat) (M : Mem) (x2 : Int) (x3 : Int) (x4 : Int) (x5 : Int) (x6 : Int) (x7 : Int) (T22 : (Int × Mem) ⊕ (Unit)), fX3_isInCheapest_L55 n M x2 x3 x4 x5 x6 x7 = some T22 → (∀ rr, T22 = .inl rr → ((some (iV (rr.1)) : Option Value) = (some (iV (T.1)) : Option Value)) ∧ (rr.2 = T.2)) → (∀ T22o, T22 = .inr T22o → G M 113 [] []) → G M 55 [(0, .ref (ad 25)), (1, .ref (ad 23)), (2, iV (x2)), (3, iV (x3)), (4, iV (x4)), (5, iV (x5)), (6, iV (x6)), (7, iV (x7))] [] := by
    intro n
    induction n with
    | zero =>
      intro M x2 x3 x4 x5 x6 x7 T22 h
      exact absurd h (by simp [fX3_isInCheapest_L55])
    | succ n ih =>
      intro M x2 x3 x4 x5 x6 x7 T22 h hR hJ
      rw [fX3_isInCheapest_L55] at h
      refine ax_iload cx 7 dX3_isInCheapest_55 rfl ?_
      refine ax_iload_n cx 3 dX3_isInCheapest_57 rfl rfl ?_
      obtain ⟨g12, h⟩ := gd_some h
      obtain ⟨g13, h⟩ := gd_some h
      refine ax_icmp_ge cx 113 dX3_isInCheapest_58 (by decide) g12 g13 (fun c14 => ?_) (fun c14 => ?_)
      · rw [if_pos c14] at h
        refine ax_lv cx [] rfl ?_
        cases h
        exact hJ _ rfl
      · rw [if_neg c14] at h
        refine ax_aload_n cx 0 dX3_isInCheapest_61 rfl rfl ?_
        refine ax_getf (q := 25) (ci := 3) (k := 2) (v := .ref (ad 8)) cx ⟨by decide, by decide⟩ rfl rfl hi_X3_isInCheapest_X3 (by decide) hl_X3_isInCheapest_19 rfl rfl dX3_isInCheapest_62 ?_
        refine ax_iload cx 7 dX3_isInCheapest_65 rfl ?_
        refine ax_bipush (z := 36) cx dX3_isInCheapest_67 (by decide) ?_
        refine ax_imul cx dX3_isInCheapest_69 ?_
        refine ax_iload cx 5 dX3_isInCheapest_70 rfl ?_
        refine ax_iadd cx dX3_isInCheapest_72 ?_
        obtain ⟨g15, h⟩ := gd_some h
        refine ax_iald (n := 2304) cx (by decide) rfl rfl g15 dX3_isInCheapest_73 ?_
        refine ax_aload_n cx 0 dX3_isInCheapest_74 rfl rfl ?_
        refine ax_getf (q := 25) (ci := 3) (k := 2) (v := .ref (ad 8)) cx ⟨by decide, by decide⟩ rfl rfl hi_X3_isInCheapest_X3 (by decide) hl_X3_isInCheapest_19 rfl rfl dX3_isInCheapest_75 ?_
        refine ax_iload_n cx 3 dX3_isInCheapest_78 rfl rfl ?_
        refine ax_iload cx 7 dX3_isInCheapest_79 rfl ?_
        refine ax_isub cx dX3_isInCheapest_81 ?_
        refine ax_bipush (z := 36) cx dX3_isInCheapest_82 (by decide) ?_
        refine ax_imul cx dX3_isInCheapest_84 ?_
        refine ax_iload cx 6 dX3_isInCheapest_85 rfl ?_
        refine ax_iadd cx dX3_isInCheapest_87 ?_
        obtain ⟨g16, h⟩ := gd_some h
        refine ax_iald (n := 2304) cx (by decide) rfl rfl g16 dX3_isInCheapest_88 ?_
        refine ax_iadd cx dX3_isInCheapest_89 ?_
        refine ax_istore (lv' := [(8, iV ((M 8 ((x7 * 36) + x5).toNat) + (M 8 (((x3 - x7) * 36) + x6).toNat))), (0, .ref (ad 25)), (1, .ref (ad 23)), (2, iV (x2)), (3, iV (x3)), (4, iV (x4)), (5, iV (x5)), (6, iV (x6)), (7, iV (x7))]) cx dX3_isInCheapest_90 (by decide) rfl ?_
        refine ax_iload cx 0 dX3_isInCheapest_92 rfl ?_
        refine ax_aload_n cx 2 dX3_isInCheapest_94 rfl rfl ?_
        refine ax_iload_n cx 3 dX3_isInCheapest_95 rfl rfl ?_
        obtain ⟨t17, e18, h⟩ := ob h
        refine ax_callV (As := [iV (x2)]) (q := 23) (ci := 2) (n := 1) cx (kX2_price l ad M x2 _ e18) gX3_isInCheapest_X2_price rfl ⟨by decide, by decide⟩ rfl rfl ⟨rfl, rfl⟩ (by decide +kernel) rfl ⟨by decide, by decide⟩ rfl (Nat.le_of_ble_eq_true rfl) dX3_isInCheapest_96 ?_
        refine ax_iadd cx dX3_isInCheapest_99 ?_
        refine ax_iload cx 5 dX3_isInCheapest_100 rfl ?_
        obtain ⟨g19, h⟩ := gd_some h
        obtain ⟨g20, h⟩ := gd_some h
        refine ax_icmp_ne cx 107 dX3_isInCheapest_102 (by decide) g19 g20 (fun c21 => ?_) (fun c21 => ?_)
        · rw [if_pos c21] at h
          refine ax_iconst cx dX3_isInCheapest_105 ?_
          cases h
          exact ax_zret cx dX3_isInCheapest_106 rfl (Or.inr rfl) (hR _ rfl)
        · rw [if_neg c21] at h
          refine ax_iinc (lv' := [(7, iV (x7 + 1)), (8, iV ((M 8 ((x7 * 36) + x5).toNat) + (M 8 (((x3 - x7) * 36) + x6).toNat))), (0, .ref (ad 25)), (1, .ref (ad 23)), (2, iV (x2)), (3, iV (x3)), (4, iV (x4)), (5, iV (x5)), (6, iV (x6))]) cx 8 dX3_isInCheapest_107 rfl (by decide) rfl ?_
          refine ax_goto cx 55 dX3_isInCheapest_110 (by decide) ?_
          refine ax_lv cx [2, 3, 4, 5, 6, 7, 8, 0] rfl ?_
          exact ih _ _ _ _ _ _ _ _ h hR hJ
  unfold fX3_isInCheapest at h
  refine ax_aload_n cx 0 dX3_isInCheapest_0 rfl rfl ?_
  refine ax_getf (q := 25) (ci := 3) (k := 1) (v := iV (M 102 0)) cx ⟨by decide, by decide⟩ rfl rfl hi_X3_isInCheapest_X3 (by decide) hl_X3_isInCheapest_15 rfl rfl dX3_isInCheapest_1 ?_
  refine ax_iconst cx dX3_isInCheapest_4 ?_
  obtain ⟨g1, h⟩ := gd_some h
  refine ax_icmp_ge cx 10 dX3_isInCheapest_5 (by decide) g1 ⟨by decide, by decide⟩ (fun c2 => ?_) (fun c2 => ?_)
  · rw [if_pos c2] at h
    refine ax_aload_n cx 0 dX3_isInCheapest_10 rfl rfl ?_
    refine ax_aload_n cx 1 dX3_isInCheapest_11 rfl rfl ?_
    obtain ⟨t3, e4, h⟩ := ob h
    refine ax_callV (As := [.ref (ad 23)]) (q := 25) (ci := 3) (n := 1) cx (kX3_joinAll l ad M  _ e4) gX3_isInCheapest_X3_joinAll rfl ⟨by decide, by decide⟩ rfl rfl ⟨rfl, rfl⟩ (by decide +kernel) rfl ⟨by decide, by decide⟩ rfl (Nat.le_of_ble_eq_true rfl) dX3_isInCheapest_12 ?_
    refine ax_aload_n cx 0 dX3_isInCheapest_15 rfl rfl ?_
    obtain ⟨t5, e6, h⟩ := ob h
    refine ax_callV (As := []) (q := 25) (ci := 3) (n := 0) cx (kX3_allTowns l ad t3  _ e6) gX3_isInCheapest_X3_allTowns rfl ⟨by decide, by decide⟩ rfl rfl ⟨rfl, rfl⟩ (by decide +kernel) rfl ⟨by decide, by decide⟩ rfl (Nat.le_of_ble_eq_true rfl) dX3_isInCheapest_16 ?_
    refine ax_istore_n (lv' := [(3, iV (t5)), (0, .ref (ad 25)), (1, .ref (ad 23)), (2, iV (x2))]) cx dX3_isInCheapest_19 rfl (by decide) rfl ?_
    refine ax_aload_n cx 1 dX3_isInCheapest_20 rfl rfl ?_
    refine ax_getf (q := 25) (ci := 3) (k := 2) (v := .ref (ad 8)) cx ⟨by decide, by decide⟩ rfl rfl hi_X3_isInCheapest_X3 (by decide) hl_X3_isInCheapest_19 rfl rfl dX3_isInCheapest_21 ?_
    refine ax_iload_n cx 0 dX3_isInCheapest_24 rfl rfl ?_
    refine ax_bipush (z := 36) cx dX3_isInCheapest_25 (by decide) ?_
    refine ax_imul cx dX3_isInCheapest_27 ?_
    refine ax_aload_n cx 1 dX3_isInCheapest_28 rfl rfl ?_
    refine ax_getf (q := 25) (ci := 3) (k := 0) (v := .ref (ad 7)) cx ⟨by decide, by decide⟩ rfl rfl hi_X3_isInCheapest_X3 (by decide) hl_X3_isInCheapest_9 rfl rfl dX3_isInCheapest_29 ?_
    refine ax_iconst cx dX3_isInCheapest_32 ?_
    refine ax_iald (n := 6) cx (by decide) rfl rfl ⟨by decide, by decide⟩ dX3_isInCheapest_33 ?_
    refine ax_iadd cx dX3_isInCheapest_34 ?_
    obtain ⟨g7, h⟩ := gd_some h
    refine ax_iald (n := 2304) cx (by decide) rfl rfl g7 dX3_isInCheapest_35 ?_
    refine ax_istore (lv' := [(4, iV (t3 8 ((t5 * 36) + (t3 7 (0 : Int).toNat)).toNat)), (3, iV (t5)), (0, .ref (ad 25)), (1, .ref (ad 23)), (2, iV (x2))]) cx dX3_isInCheapest_36 (by decide) rfl ?_
    refine ax_aload_n cx 3 dX3_isInCheapest_38 rfl rfl ?_
    refine ax_iload_n cx 4 dX3_isInCheapest_39 rfl rfl ?_
    obtain ⟨t8, e9, h⟩ := ob h
    refine ax_callV (As := [iV (x2)]) (q := 23) (ci := 2) (n := 1) cx (kX2_low l ad t3 x2 _ e9) gX3_isInCheapest_X2_low rfl ⟨by decide, by decide⟩ rfl rfl ⟨rfl, rfl⟩ (by decide +kernel) rfl ⟨by decide, by decide⟩ rfl (Nat.le_of_ble_eq_true rfl) dX3_isInCheapest_40 ?_
    refine ax_istore (lv' := [(5, iV (t8)), (4, iV (t3 8 ((t5 * 36) + (t3 7 (0 : Int).toNat)).toNat)), (3, iV (t5)), (0, .ref (ad 25)), (1, .ref (ad 23)), (2, iV (x2))]) cx dX3_isInCheapest_43 (by decide) rfl ?_
    refine ax_aload_n cx 4 dX3_isInCheapest_45 rfl rfl ?_
    refine ax_iload_n cx 5 dX3_isInCheapest_46 rfl rfl ?_
    obtain ⟨t10, e11, h⟩ := ob h
    refine ax_callV (As := [iV (x2)]) (q := 23) (ci := 2) (n := 1) cx (kX2_high l ad t3 x2 _ e11) gX3_isInCheapest_X2_high rfl ⟨by decide, by decide⟩ rfl rfl ⟨rfl, rfl⟩ (by decide +kernel) rfl ⟨by decide, by decide⟩ rfl (Nat.le_of_ble_eq_true rfl) dX3_isInCheapest_47 ?_
    refine ax_istore (lv' := [(6, iV (t10)), (5, iV (t8)), (4, iV (t3 8 ((t5 * 36) + (t3 7 (0 : Int).toNat)).toNat)), (3, iV (t5)), (0, .ref (ad 25)), (1, .ref (ad 23)), (2, iV (x2))]) cx dX3_isInCheapest_50 (by decide) rfl ?_
    refine ax_iconst cx dX3_isInCheapest_52 ?_
    refine ax_istore (lv' := [(7, iV (1)), (6, iV (t10)), (5, iV (t8)), (4, iV (t3 8 ((t5 * 36) + (t3 7 (0 : Int).toNat)).toNat)), (3, iV (t5)), (0, .ref (ad 25)), (1, .ref (ad 23)), (2, iV (x2))]) cx dX3_isInCheapest_53 (by decide) rfl ?_
    obtain ⟨t23, e24, h⟩ := ob h
    refine ax_lv cx [5, 6, 7, 4, 3, 2, 1, 0] rfl ?_
    cases t23 with
    | inl rr =>
      exact L55 FU t3 x2 t5 (t3 8 ((t5 * 36) + (t3 7 (0 : Int).toNat)).toNat) t8 t10 1 _ e24 (fun r2 e2 => by cases e2; cases h; exact ⟨rfl, rfl⟩) (fun o2 e2 => by cases e2)
    | inr o25 =>
      refine L55 FU t3 x2 t5 (t3 8 ((t5 * 36) + (t3 7 (0 : Int).toNat)).toNat) t8 t10 1 _ e24 (fun r2 e2 => by cases e2) (fun o2 e2 => ?_)
      cases e2
      refine ax_iconst cx dX3_isInCheapest_113 ?_
      cases h
      exact ax_zret cx dX3_isInCheapest_114 rfl (Or.inl rfl) ⟨rfl, rfl⟩
  · rw [if_neg c2] at h
    refine ax_iconst cx dX3_isInCheapest_8 ?_
    cases h
    exact ax_zret cx dX3_isInCheapest_9 rfl (Or.inl rfl) ⟨rfl, rfl⟩
def fX3_measureTowns_L2 : Nat → Mem → Int → Option (Mem)
  | 0, _, _ => none
  | n + 1, M, x2 =>
    gd (inR (x2)) (
    gd (inR (M 102 0)) (
    if M 102 0 ≤ x2 then (
      some (M))
    else (
      gd (inB (x2) 6) (
      Option.bind (fX2_measure M 9 (x2 * 36) (M 7 x2.toNat)) (fun t5 =>
      fX3_measureTowns_L2 n t5 (x2 + 1))))))
def fX3_measureTowns (M : Mem)  : Option (Mem) :=
    Option.bind (fX3_measureTowns_L2 FU M 0) (fun t8 =>
    some (t8))
abbrev rmX3_measureTowns : Room := { frames := 3, cells := 0, slots := 0, locals := 75 }
theorem hl_X3_measureTowns_15 : Cond.fieldLink RX3 15 "PlateauBench$Nets" "count" "I" ∈ wsX3_measureTowns := by decide +kernel
theorem hl_X3_measureTowns_26 : Cond.fieldLink RX3 26 "PlateauBench$Nets" "wayTo" "[I" ∈ wsX3_measureTowns := by decide +kernel
theorem hl_X3_measureTowns_9 : Cond.fieldLink RX3 9 "PlateauBench$Nets" "nodes" "[I" ∈ wsX3_measureTowns := by decide +kernel
theorem hi_X3_measureTowns_X3 : ∀ x ∈ u_ws RX3 TX3 7, x ∈ wsX3_measureTowns := by decide +kernel
set_option maxRecDepth 100000 in
set_option maxHeartbeats 4000000 in
theorem kX3_measureTowns (l : Launch) (ad : Nat → Nat) (M : Mem)  (T : Mem) (h : fX3_measureTowns M  = some T) : MX l yX3_measureTowns wsX3_measureTowns rmX3_measureTowns wC ad [.ref (ad 25), .ref (ad 23)] M none T := by
  refine MX.of (cc := cX3_measureTowns) (nL := 3) (rt := none) (own := RX3) (by decide +kernel) rfl rfl (Nat.le_of_ble_eq_true rfl) wC_ok (fun G cx => ?_)
  show G M 0 [(0, .ref (ad 25)), (1, .ref (ad 23))] []
  have L2 : ∀ (n : Nat) (M : Mem) (x2 : Int) (T7 : Mem), fX3_measureTowns_L2 n M x2 = some T7 → (G T7 34 [] []) → G M 2 [(0, .ref (ad 25)), (1, .ref (ad 23)), (2, iV (x2))] [] := by
    intro n
    induction n with
    | zero =>
      intro M x2 T7 h
      exact absurd h (by simp [fX3_measureTowns_L2])
    | succ n ih =>
      intro M x2 T7 h hJ
      rw [fX3_measureTowns_L2] at h
      refine ax_iload_n cx 2 dX3_measureTowns_2 rfl rfl ?_
      refine ax_aload_n cx 0 dX3_measureTowns_3 rfl rfl ?_
      refine ax_getf (q := 25) (ci := 3) (k := 1) (v := iV (M 102 0)) cx ⟨by decide, by decide⟩ rfl rfl hi_X3_measureTowns_X3 (by decide) hl_X3_measureTowns_15 rfl rfl dX3_measureTowns_4 ?_
      obtain ⟨g1, h⟩ := gd_some h
      obtain ⟨g2, h⟩ := gd_some h
      refine ax_icmp_ge cx 34 dX3_measureTowns_7 (by decide) g1 g2 (fun c3 => ?_) (fun c3 => ?_)
      · rw [if_pos c3] at h
        refine ax_lv cx [] rfl ?_
        cases h
        exact hJ
      · rw [if_neg c3] at h
        refine ax_aload_n cx 1 dX3_measureTowns_10 rfl rfl ?_
        refine ax_aload_n cx 0 dX3_measureTowns_11 rfl rfl ?_
        refine ax_getf (q := 25) (ci := 3) (k := 4) (v := .ref (ad 9)) cx ⟨by decide, by decide⟩ rfl rfl hi_X3_measureTowns_X3 (by decide) hl_X3_measureTowns_26 rfl rfl dX3_measureTowns_12 ?_
        refine ax_iload_n cx 2 dX3_measureTowns_15 rfl rfl ?_
        refine ax_bipush (z := 36) cx dX3_measureTowns_16 (by decide) ?_
        refine ax_imul cx dX3_measureTowns_18 ?_
        refine ax_aload_n cx 0 dX3_measureTowns_19 rfl rfl ?_
        refine ax_getf (q := 25) (ci := 3) (k := 0) (v := .ref (ad 7)) cx ⟨by decide, by decide⟩ rfl rfl hi_X3_measureTowns_X3 (by decide) hl_X3_measureTowns_9 rfl rfl dX3_measureTowns_20 ?_
        refine ax_iload_n cx 2 dX3_measureTowns_23 rfl rfl ?_
        obtain ⟨g4, h⟩ := gd_some h
        refine ax_iald (n := 6) cx (by decide) rfl rfl g4 dX3_measureTowns_24 ?_
        obtain ⟨t5, e6, h⟩ := ob h
        refine ax_callV (As := [.ref (ad 9), iV (x2 * 36), iV (M 7 x2.toNat)]) (q := 23) (ci := 2) (n := 3) cx (kX2_measure l ad M 9 (x2 * 36) (M 7 x2.toNat) _ e6) gX3_measureTowns_X2_measure rfl ⟨by decide, by decide⟩ rfl rfl ⟨rfl, rfl⟩ (by decide +kernel) rfl ⟨by decide, by decide⟩ rfl (Nat.le_of_ble_eq_true rfl) dX3_measureTowns_25 ?_
        refine ax_iinc (lv' := [(2, iV (x2 + 1)), (0, .ref (ad 25)), (1, .ref (ad 23))]) cx 2 dX3_measureTowns_28 rfl (by decide) rfl ?_
        refine ax_goto cx 2 dX3_measureTowns_31 (by decide) ?_
        refine ax_lv cx [1, 2, 0] rfl ?_
        exact ih _ _ _ h hJ
  unfold fX3_measureTowns at h
  refine ax_iconst cx dX3_measureTowns_0 ?_
  refine ax_istore_n (lv' := [(2, iV (0)), (0, .ref (ad 25)), (1, .ref (ad 23))]) cx dX3_measureTowns_1 rfl (by decide) rfl ?_
  obtain ⟨t8, e9, h⟩ := ob h
  refine ax_lv cx [1, 2, 0] rfl ?_
  have J10 : G t8 34 [] [] := by
    cases h
    exact ax_vret cx dX3_measureTowns_34 rfl ⟨rfl, rfl⟩
  exact L2 FU M 0 _ e9 J10
def fX3_hungOn_L5 : Nat → Mem → Int → Int → Int → Int → Option (Int)
  | 0, _, _, _, _, _ => none
  | n + 1, M, x1, x2, x3, x4 =>
    gd (inR (x4)) (
    gd (inR (M 102 0)) (
    if M 102 0 ≤ x4 then (
      some (x3))
    else (
      gd (inB ((x4 * 36) + x1) 216) (
      gd (inB ((x4 * 36) + x2) 216) (
      gd (inR (M 9 ((x4 * 36) + x1).toNat)) (
      gd (inR (M 9 ((x4 * 36) + x2).toNat)) (
      fX3_hungOn_L5 n M x1 x2 (x3 + (if M 9 ((x4 * 36) + x2).toNat < M 9 ((x4 * 36) + x1).toNat then M 9 ((x4 * 36) + x2).toNat else M 9 ((x4 * 36) + x1).toNat)) (x4 + 1))))))))
def fX3_hungOn (M : Mem) (x1 : Int) (x2 : Int) : Option (Int) :=
    Option.bind (fX3_hungOn_L5 FU M x1 x2 0 0) (fun t9 =>
    some (t9))
abbrev rmX3_hungOn : Room := { frames := 1, cells := 0, slots := 0, locals := 21 }
theorem hl_X3_hungOn_15 : Cond.fieldLink RX3 15 "PlateauBench$Nets" "count" "I" ∈ wsX3_hungOn := by decide +kernel
theorem hl_X3_hungOn_26 : Cond.fieldLink RX3 26 "PlateauBench$Nets" "wayTo" "[I" ∈ wsX3_hungOn := by decide +kernel
theorem hw_X3_hungOn_l76 : Cond.methodLink RX3 76 Lib.Math.min.name ∈ wsX3_hungOn := by decide +kernel
theorem hw_X3_hungOn_min1 : Cond.static Lib.Math.min.name ∈ wsX3_hungOn := by decide +kernel
theorem hw_X3_hungOn_math : Cond.initialized "java/lang/Math" ∈ wsX3_hungOn := by decide +kernel
theorem hw_X3_hungOn_min2 : Cond.code Lib.Math.min.name Lib.Math.min.code 2 (some .int) ∈ wsX3_hungOn := by decide +kernel
theorem hi_X3_hungOn_X3 : ∀ x ∈ u_ws RX3 TX3 7, x ∈ wsX3_hungOn := by decide +kernel
set_option maxRecDepth 100000 in
set_option maxHeartbeats 4000000 in
theorem kX3_hungOn (l : Launch) (ad : Nat → Nat) (M : Mem) (x1 : Int) (x2 : Int) (T : Int) (h : fX3_hungOn M x1 x2 = some T) : MX l yX3_hungOn wsX3_hungOn rmX3_hungOn wC ad [.ref (ad 25), iV (x1), iV (x2)] M (some (iV (T))) M := by
  refine MX.of (cc := cX3_hungOn) (nL := 5) (rt := (some .int)) (own := RX3) (by decide +kernel) rfl rfl (Nat.le_of_ble_eq_true rfl) wC_ok (fun G cx => ?_)
  show G M 0 [(0, .ref (ad 25)), (1, iV (x1)), (2, iV (x2))] []
  have L5 : ∀ (n : Nat) (x1 : Int) (x2 : Int) (x3 : Int) (x4 : Int) (T8 : Int), fX3_hungOn_L5 n M x1 x2 x3 x4 = some T8 → (G M 50 [(3, iV (T8))] []) → G M 5 [(0, .ref (ad 25)), (1, iV (x1)), (2, iV (x2)), (3, iV (x3)), (4, iV (x4))] [] := by
    intro n
    induction n with
    | zero =>
      intro x1 x2 x3 x4 T8 h
      exact absurd h (by simp [fX3_hungOn_L5])
    | succ n ih =>
      intro x1 x2 x3 x4 T8 h hJ
      rw [fX3_hungOn_L5] at h
      refine ax_iload cx 4 dX3_hungOn_5 rfl ?_
      refine ax_aload_n cx 0 dX3_hungOn_7 rfl rfl ?_
      refine ax_getf (q := 25) (ci := 3) (k := 1) (v := iV (M 102 0)) cx ⟨by decide, by decide⟩ rfl rfl hi_X3_hungOn_X3 (by decide) hl_X3_hungOn_15 rfl rfl dX3_hungOn_8 ?_
      obtain ⟨g1, h⟩ := gd_some h
      obtain ⟨g2, h⟩ := gd_some h
      refine ax_icmp_ge cx 50 dX3_hungOn_11 (by decide) g1 g2 (fun c3 => ?_) (fun c3 => ?_)
      · rw [if_pos c3] at h
        refine ax_lv cx [3] rfl ?_
        cases h
        exact hJ
      · rw [if_neg c3] at h
        refine ax_iload_n cx 3 dX3_hungOn_14 rfl rfl ?_
        refine ax_aload_n cx 0 dX3_hungOn_15 rfl rfl ?_
        refine ax_getf (q := 25) (ci := 3) (k := 4) (v := .ref (ad 9)) cx ⟨by decide, by decide⟩ rfl rfl hi_X3_hungOn_X3 (by decide) hl_X3_hungOn_26 rfl rfl dX3_hungOn_16 ?_
        refine ax_iload cx 4 dX3_hungOn_19 rfl ?_
        refine ax_bipush (z := 36) cx dX3_hungOn_21 (by decide) ?_
        refine ax_imul cx dX3_hungOn_23 ?_
        refine ax_iload_n cx 1 dX3_hungOn_24 rfl rfl ?_
        refine ax_iadd cx dX3_hungOn_25 ?_
        obtain ⟨g4, h⟩ := gd_some h
        refine ax_iald (n := 216) cx (by decide) rfl rfl g4 dX3_hungOn_26 ?_
        refine ax_aload_n cx 0 dX3_hungOn_27 rfl rfl ?_
        refine ax_getf (q := 25) (ci := 3) (k := 4) (v := .ref (ad 9)) cx ⟨by decide, by decide⟩ rfl rfl hi_X3_hungOn_X3 (by decide) hl_X3_hungOn_26 rfl rfl dX3_hungOn_28 ?_
        refine ax_iload cx 4 dX3_hungOn_31 rfl ?_
        refine ax_bipush (z := 36) cx dX3_hungOn_33 (by decide) ?_
        refine ax_imul cx dX3_hungOn_35 ?_
        refine ax_iload_n cx 2 dX3_hungOn_36 rfl rfl ?_
        refine ax_iadd cx dX3_hungOn_37 ?_
        obtain ⟨g5, h⟩ := gd_some h
        refine ax_iald (n := 216) cx (by decide) rfl rfl g5 dX3_hungOn_38 ?_
        obtain ⟨g6, h⟩ := gd_some h
        obtain ⟨g7, h⟩ := gd_some h
        refine ax_min cx g6 g7 hw_X3_hungOn_l76 hw_X3_hungOn_min1 hw_X3_hungOn_math hw_X3_hungOn_min2 (by decide) (Nat.le_of_ble_eq_true rfl) dX3_hungOn_39 ?_
        refine ax_iadd cx dX3_hungOn_42 ?_
        refine ax_istore_n (lv' := [(3, iV (x3 + (if M 9 ((x4 * 36) + x2).toNat < M 9 ((x4 * 36) + x1).toNat then M 9 ((x4 * 36) + x2).toNat else M 9 ((x4 * 36) + x1).toNat))), (0, .ref (ad 25)), (1, iV (x1)), (2, iV (x2)), (4, iV (x4))]) cx dX3_hungOn_43 rfl (by decide) rfl ?_
        refine ax_iinc (lv' := [(4, iV (x4 + 1)), (3, iV (x3 + (if M 9 ((x4 * 36) + x2).toNat < M 9 ((x4 * 36) + x1).toNat then M 9 ((x4 * 36) + x2).toNat else M 9 ((x4 * 36) + x1).toNat))), (0, .ref (ad 25)), (1, iV (x1)), (2, iV (x2))]) cx 4 dX3_hungOn_44 rfl (by decide) rfl ?_
        refine ax_goto cx 5 dX3_hungOn_47 (by decide) ?_
        refine ax_lv cx [2, 3, 4, 1, 0] rfl ?_
        exact ih _ _ _ _ _ h hJ
  unfold fX3_hungOn at h
  refine ax_iconst cx dX3_hungOn_0 ?_
  refine ax_istore_n (lv' := [(3, iV (0)), (0, .ref (ad 25)), (1, iV (x1)), (2, iV (x2))]) cx dX3_hungOn_1 rfl (by decide) rfl ?_
  refine ax_iconst cx dX3_hungOn_2 ?_
  refine ax_istore (lv' := [(4, iV (0)), (3, iV (0)), (0, .ref (ad 25)), (1, iV (x1)), (2, iV (x2))]) cx dX3_hungOn_3 (by decide) rfl ?_
  obtain ⟨t9, e10, h⟩ := ob h
  refine ax_lv cx [2, 3, 4, 1, 0] rfl ?_
  have J11 : G M 50 [(3, iV (t9))] [] := by
    refine ax_iload_n cx 0 dX3_hungOn_50 rfl rfl ?_
    cases h
    exact ax_iret cx dX3_hungOn_51 rfl ⟨rfl, rfl⟩
  exact L5 FU x1 x2 0 0 _ e10 J11
def fX3_cheapestOfShapes_L49 : Nat → Mem → Int → Int → Int → Option (Int)
  | 0, _, _, _, _ => none
  | n + 1, M, x2, x3, x4 =>
    gd (inR (x4)) (
    if 36 ≤ x4 then (
      some (x2))
    else (
      gd (inB (x4) 36) (
      Option.bind (fX3_hungOn M x3 x4) (fun t13 =>
      gd (inR (x2)) (
      gd (inR ((M 10 x4.toNat) + t13)) (
      fX3_cheapestOfShapes_L49 n M (if (M 10 x4.toNat) + t13 < x2 then (M 10 x4.toNat) + t13 else x2) x3 (x4 + 1)))))))
def fX3_cheapestOfShapes_L30 : Nat → Mem → Int → Int → Option (Int × Mem)
  | 0, _, _, _ => none
  | n + 1, M, x2, x3 =>
    gd (inR (x3)) (
    if 36 ≤ x3 then (
      some (x2, M))
    else (
      Option.bind (fX2_measure M 10 0 x3) (fun t8 =>
      Option.bind (fX3_cheapestOfShapes_L49 FU t8 x2 x3 x3) (fun t18 =>
      fX3_cheapestOfShapes_L30 n t8 t18 (x3 + 1)))))
def fX3_cheapestOfShapes (M : Mem)  : Option (Int × Mem) :=
    gd (inR (M 102 0)) (
    if M 102 0 ≤ 4 then (
      if 2 ≤ M 102 0 then (
        Option.bind (fX3_measureTowns M) (fun t4 =>
        Option.bind (fX3_cheapestOfShapes_L30 FU t4 1000000 0) (fun t22 =>
        some (t22.1, t22.2))))
      else (
        some (0, M)))
    else (
      some ((-1), M)))
abbrev rmX3_cheapestOfShapes : Room := { frames := 4, cells := 0, slots := 0, locals := 97 }
theorem hl_X3_cheapestOfShapes_15 : Cond.fieldLink RX3 15 "PlateauBench$Nets" "count" "I" ∈ wsX3_cheapestOfShapes := by decide +kernel
theorem hw_X3_cheapestOfShapes_c75 : Cond.constant RX3 75 (1000000) ∈ wsX3_cheapestOfShapes := by decide +kernel
theorem hl_X3_cheapestOfShapes_29 : Cond.fieldLink RX3 29 "PlateauBench$Nets" "row" "[I" ∈ wsX3_cheapestOfShapes := by decide +kernel
theorem hw_X3_cheapestOfShapes_l76 : Cond.methodLink RX3 76 Lib.Math.min.name ∈ wsX3_cheapestOfShapes := by decide +kernel
theorem hw_X3_cheapestOfShapes_min1 : Cond.static Lib.Math.min.name ∈ wsX3_cheapestOfShapes := by decide +kernel
theorem hw_X3_cheapestOfShapes_math : Cond.initialized "java/lang/Math" ∈ wsX3_cheapestOfShapes := by decide +kernel
theorem hw_X3_cheapestOfShapes_min2 : Cond.code Lib.Math.min.name Lib.Math.min.code 2 (some .int) ∈ wsX3_cheapestOfShapes := by decide +kernel
theorem hi_X3_cheapestOfShapes_X3 : ∀ x ∈ u_ws RX3 TX3 7, x ∈ wsX3_cheapestOfShapes := by decide +kernel
set_option maxRecDepth 100000 in
set_option maxHeartbeats 4000000 in
theorem kX3_cheapestOfShapes (l : Launch) (ad : Nat → Nat) (M : Mem)  (T : Int × Mem) (h : fX3_cheapestOfShapes M  = some T) : MX l yX3_cheapestOfShapes wsX3_cheapestOfShapes rmX3_cheapestOfShapes wC ad [.ref (ad 25), .ref (ad 23)] M (some (iV (T.1))) T.2 := by
  refine MX.of (cc := cX3_cheapestOfShapes) (nL := 5) (rt := (some .int)) (own := RX3) (by decide +kernel) rfl rfl (Nat.le_of_ble_eq_true rfl) wC_ok (fun G cx => ?_)
  show G M 0 [(0, .ref (ad 25)), (1, .ref (ad 23))] []
  have L49 : ∀ (n : Nat) (M : Mem) (x2 : Int) (x3 : Int) (x4 : Int) (T17 : Int), fX3_cheapestOfShapes_L49 n M x2 x3 x4 = some T17 → (G M 82 [(0, .ref (ad 25)), (1, .ref (ad 23)), (2, iV (T17)), (3, iV (x3))] []) → G M 49 [(0, .ref (ad 25)), (1, .ref (ad 23)), (2, iV (x2)), (3, iV (x3)), (4, iV (x4))] [] := by
    intro n
    induction n with
    | zero =>
      intro M x2 x3 x4 T17 h
      exact absurd h (by simp [fX3_cheapestOfShapes_L49])
    | succ n ih =>
      intro M x2 x3 x4 T17 h hJ
      rw [fX3_cheapestOfShapes_L49] at h
      refine ax_iload cx 4 dX3_cheapestOfShapes_49 rfl ?_
      refine ax_bipush (z := 36) cx dX3_cheapestOfShapes_51 (by decide) ?_
      obtain ⟨g10, h⟩ := gd_some h
      refine ax_icmp_ge cx 82 dX3_cheapestOfShapes_53 (by decide) g10 ⟨by decide, by decide⟩ (fun c11 => ?_) (fun c11 => ?_)
      · rw [if_pos c11] at h
        refine ax_lv cx [0, 1, 2, 3] rfl ?_
        cases h
        exact hJ
      · rw [if_neg c11] at h
        refine ax_iload_n cx 2 dX3_cheapestOfShapes_56 rfl rfl ?_
        refine ax_aload_n cx 0 dX3_cheapestOfShapes_57 rfl rfl ?_
        refine ax_getf (q := 25) (ci := 3) (k := 5) (v := .ref (ad 10)) cx ⟨by decide, by decide⟩ rfl rfl hi_X3_cheapestOfShapes_X3 (by decide) hl_X3_cheapestOfShapes_29 rfl rfl dX3_cheapestOfShapes_58 ?_
        refine ax_iload cx 4 dX3_cheapestOfShapes_61 rfl ?_
        obtain ⟨g12, h⟩ := gd_some h
        refine ax_iald (n := 36) cx (by decide) rfl rfl g12 dX3_cheapestOfShapes_63 ?_
        refine ax_aload_n cx 0 dX3_cheapestOfShapes_64 rfl rfl ?_
        refine ax_iload_n cx 3 dX3_cheapestOfShapes_65 rfl rfl ?_
        refine ax_iload cx 4 dX3_cheapestOfShapes_66 rfl ?_
        obtain ⟨t13, e14, h⟩ := ob h
        refine ax_callV (As := [iV (x3), iV (x4)]) (q := 25) (ci := 3) (n := 2) cx (kX3_hungOn l ad M x3 x4 _ e14) gX3_cheapestOfShapes_X3_hungOn rfl ⟨by decide, by decide⟩ rfl rfl ⟨rfl, rfl⟩ (by decide +kernel) rfl ⟨by decide, by decide⟩ rfl (Nat.le_of_ble_eq_true rfl) dX3_cheapestOfShapes_68 ?_
        refine ax_iadd cx dX3_cheapestOfShapes_71 ?_
        obtain ⟨g15, h⟩ := gd_some h
        obtain ⟨g16, h⟩ := gd_some h
        refine ax_min cx g15 g16 hw_X3_cheapestOfShapes_l76 hw_X3_cheapestOfShapes_min1 hw_X3_cheapestOfShapes_math hw_X3_cheapestOfShapes_min2 (by decide) (Nat.le_of_ble_eq_true rfl) dX3_cheapestOfShapes_72 ?_
        refine ax_istore_n (lv' := [(2, iV (if (M 10 x4.toNat) + t13 < x2 then (M 10 x4.toNat) + t13 else x2)), (0, .ref (ad 25)), (1, .ref (ad 23)), (3, iV (x3)), (4, iV (x4))]) cx dX3_cheapestOfShapes_75 rfl (by decide) rfl ?_
        refine ax_iinc (lv' := [(4, iV (x4 + 1)), (2, iV (if (M 10 x4.toNat) + t13 < x2 then (M 10 x4.toNat) + t13 else x2)), (0, .ref (ad 25)), (1, .ref (ad 23)), (3, iV (x3))]) cx 4 dX3_cheapestOfShapes_76 rfl (by decide) rfl ?_
        refine ax_goto cx 49 dX3_cheapestOfShapes_79 (by decide) ?_
        refine ax_lv cx [2, 3, 1, 4, 0] rfl ?_
        exact ih _ _ _ _ _ h hJ
  have L30 : ∀ (n : Nat) (M : Mem) (x2 : Int) (x3 : Int) (T21 : Int × Mem), fX3_cheapestOfShapes_L30 n M x2 x3 = some T21 → (G T21.2 88 [(2, iV (T21.1))] []) → G M 30 [(0, .ref (ad 25)), (1, .ref (ad 23)), (2, iV (x2)), (3, iV (x3))] [] := by
    intro n
    induction n with
    | zero =>
      intro M x2 x3 T21 h
      exact absurd h (by simp [fX3_cheapestOfShapes_L30])
    | succ n ih =>
      intro M x2 x3 T21 h hJ
      rw [fX3_cheapestOfShapes_L30] at h
      refine ax_iload_n cx 3 dX3_cheapestOfShapes_30 rfl rfl ?_
      refine ax_bipush (z := 36) cx dX3_cheapestOfShapes_31 (by decide) ?_
      obtain ⟨g6, h⟩ := gd_some h
      refine ax_icmp_ge cx 88 dX3_cheapestOfShapes_33 (by decide) g6 ⟨by decide, by decide⟩ (fun c7 => ?_) (fun c7 => ?_)
      · rw [if_pos c7] at h
        refine ax_lv cx [2] rfl ?_
        cases h
        exact hJ
      · rw [if_neg c7] at h
        refine ax_aload_n cx 1 dX3_cheapestOfShapes_36 rfl rfl ?_
        refine ax_aload_n cx 0 dX3_cheapestOfShapes_37 rfl rfl ?_
        refine ax_getf (q := 25) (ci := 3) (k := 5) (v := .ref (ad 10)) cx ⟨by decide, by decide⟩ rfl rfl hi_X3_cheapestOfShapes_X3 (by decide) hl_X3_cheapestOfShapes_29 rfl rfl dX3_cheapestOfShapes_38 ?_
        refine ax_iconst cx dX3_cheapestOfShapes_41 ?_
        refine ax_iload_n cx 3 dX3_cheapestOfShapes_42 rfl rfl ?_
        obtain ⟨t8, e9, h⟩ := ob h
        refine ax_callV (As := [.ref (ad 10), iV (0), iV (x3)]) (q := 23) (ci := 2) (n := 3) cx (kX2_measure l ad M 10 0 x3 _ e9) gX3_cheapestOfShapes_X2_measure rfl ⟨by decide, by decide⟩ rfl rfl ⟨rfl, rfl⟩ (by decide +kernel) rfl ⟨by decide, by decide⟩ rfl (Nat.le_of_ble_eq_true rfl) dX3_cheapestOfShapes_43 ?_
        refine ax_iload_n cx 3 dX3_cheapestOfShapes_46 rfl rfl ?_
        refine ax_istore (lv' := [(4, iV (x3)), (0, .ref (ad 25)), (1, .ref (ad 23)), (2, iV (x2)), (3, iV (x3))]) cx dX3_cheapestOfShapes_47 (by decide) rfl ?_
        obtain ⟨t18, e19, h⟩ := ob h
        refine ax_lv cx [1, 2, 3, 4, 0] rfl ?_
        have J20 : G t8 82 [(0, .ref (ad 25)), (1, .ref (ad 23)), (2, iV (t18)), (3, iV (x3))] [] := by
          refine ax_iinc (lv' := [(3, iV (x3 + 1)), (0, .ref (ad 25)), (1, .ref (ad 23)), (2, iV (t18))]) cx 3 dX3_cheapestOfShapes_82 rfl (by decide) rfl ?_
          refine ax_goto cx 30 dX3_cheapestOfShapes_85 (by decide) ?_
          refine ax_lv cx [1, 2, 3, 0] rfl ?_
          exact ih _ _ _ _ h hJ
        exact L49 FU t8 x2 x3 x3 _ e19 J20
  unfold fX3_cheapestOfShapes at h
  refine ax_aload_n cx 0 dX3_cheapestOfShapes_0 rfl rfl ?_
  refine ax_getf (q := 25) (ci := 3) (k := 1) (v := iV (M 102 0)) cx ⟨by decide, by decide⟩ rfl rfl hi_X3_cheapestOfShapes_X3 (by decide) hl_X3_cheapestOfShapes_15 rfl rfl dX3_cheapestOfShapes_1 ?_
  refine ax_iconst cx dX3_cheapestOfShapes_4 ?_
  obtain ⟨g1, h⟩ := gd_some h
  refine ax_icmp_le cx 10 dX3_cheapestOfShapes_5 (by decide) g1 ⟨by decide, by decide⟩ (fun c2 => ?_) (fun c2 => ?_)
  · rw [if_pos c2] at h
    refine ax_aload_n cx 0 dX3_cheapestOfShapes_10 rfl rfl ?_
    refine ax_getf (q := 25) (ci := 3) (k := 1) (v := iV (M 102 0)) cx ⟨by decide, by decide⟩ rfl rfl hi_X3_cheapestOfShapes_X3 (by decide) hl_X3_cheapestOfShapes_15 rfl rfl dX3_cheapestOfShapes_11 ?_
    refine ax_iconst cx dX3_cheapestOfShapes_14 ?_
    refine ax_icmp_ge cx 20 dX3_cheapestOfShapes_15 (by decide) g1 ⟨by decide, by decide⟩ (fun c3 => ?_) (fun c3 => ?_)
    · rw [if_pos c3] at h
      refine ax_aload_n cx 0 dX3_cheapestOfShapes_20 rfl rfl ?_
      refine ax_aload_n cx 1 dX3_cheapestOfShapes_21 rfl rfl ?_
      obtain ⟨t4, e5, h⟩ := ob h
      refine ax_callV (As := [.ref (ad 23)]) (q := 25) (ci := 3) (n := 1) cx (kX3_measureTowns l ad M  _ e5) gX3_cheapestOfShapes_X3_measureTowns rfl ⟨by decide, by decide⟩ rfl rfl ⟨rfl, rfl⟩ (by decide +kernel) rfl ⟨by decide, by decide⟩ rfl (Nat.le_of_ble_eq_true rfl) dX3_cheapestOfShapes_22 ?_
      refine ax_ldc (z := 1000000) cx dX3_cheapestOfShapes_25 hw_X3_cheapestOfShapes_c75 (by decide) ?_
      refine ax_istore_n (lv' := [(2, iV (1000000)), (0, .ref (ad 25)), (1, .ref (ad 23))]) cx dX3_cheapestOfShapes_27 rfl (by decide) rfl ?_
      refine ax_iconst cx dX3_cheapestOfShapes_28 ?_
      refine ax_istore_n (lv' := [(3, iV (0)), (2, iV (1000000)), (0, .ref (ad 25)), (1, .ref (ad 23))]) cx dX3_cheapestOfShapes_29 rfl (by decide) rfl ?_
      obtain ⟨t22, e23, h⟩ := ob h
      refine ax_lv cx [2, 3, 1, 0] rfl ?_
      have J24 : G t22.2 88 [(2, iV (t22.1))] [] := by
        refine ax_iload_n cx 0 dX3_cheapestOfShapes_88 rfl rfl ?_
        cases h
        exact ax_iret cx dX3_cheapestOfShapes_89 rfl ⟨rfl, rfl⟩
      exact L30 FU t4 1000000 0 _ e23 J24
    · rw [if_neg c3] at h
      refine ax_iconst cx dX3_cheapestOfShapes_18 ?_
      cases h
      exact ax_iret cx dX3_cheapestOfShapes_19 rfl ⟨rfl, rfl⟩
  · rw [if_neg c2] at h
    refine ax_iconst cx dX3_cheapestOfShapes_8 ?_
    cases h
    exact ax_iret cx dX3_cheapestOfShapes_9 rfl ⟨rfl, rfl⟩
def fX3_between (M : Mem) (x1 : Int) (x2 : Int) : Option (Int) :=
    gd (inB (x2) 6) (
    gd (inB ((x1 * 36) + (M 7 x2.toNat)) 216) (
    some (M 9 ((x1 * 36) + (M 7 x2.toNat)).toNat)))
abbrev rmX3_between : Room := { frames := 0, cells := 0, slots := 0, locals := 0 }
theorem hl_X3_between_26 : Cond.fieldLink RX3 26 "PlateauBench$Nets" "wayTo" "[I" ∈ wsX3_between := by decide +kernel
theorem hl_X3_between_9 : Cond.fieldLink RX3 9 "PlateauBench$Nets" "nodes" "[I" ∈ wsX3_between := by decide +kernel
theorem hi_X3_between_X3 : ∀ x ∈ u_ws RX3 TX3 7, x ∈ wsX3_between := by decide +kernel
set_option maxRecDepth 100000 in
set_option maxHeartbeats 4000000 in
theorem kX3_between (l : Launch) (ad : Nat → Nat) (M : Mem) (x1 : Int) (x2 : Int) (T : Int) (h : fX3_between M x1 x2 = some T) : MX l yX3_between wsX3_between rmX3_between wC ad [.ref (ad 25), iV (x1), iV (x2)] M (some (iV (T))) M := by
  refine MX.of (cc := cX3_between) (nL := 3) (rt := (some .int)) (own := RX3) (by decide +kernel) rfl rfl (Nat.le_of_ble_eq_true rfl) wC_ok (fun G cx => ?_)
  show G M 0 [(0, .ref (ad 25)), (1, iV (x1)), (2, iV (x2))] []
  unfold fX3_between at h
  refine ax_aload_n cx 0 dX3_between_0 rfl rfl ?_
  refine ax_getf (q := 25) (ci := 3) (k := 4) (v := .ref (ad 9)) cx ⟨by decide, by decide⟩ rfl rfl hi_X3_between_X3 (by decide) hl_X3_between_26 rfl rfl dX3_between_1 ?_
  refine ax_iload_n cx 1 dX3_between_4 rfl rfl ?_
  refine ax_bipush (z := 36) cx dX3_between_5 (by decide) ?_
  refine ax_imul cx dX3_between_7 ?_
  refine ax_aload_n cx 0 dX3_between_8 rfl rfl ?_
  refine ax_getf (q := 25) (ci := 3) (k := 0) (v := .ref (ad 7)) cx ⟨by decide, by decide⟩ rfl rfl hi_X3_between_X3 (by decide) hl_X3_between_9 rfl rfl dX3_between_9 ?_
  refine ax_iload_n cx 2 dX3_between_12 rfl rfl ?_
  obtain ⟨g1, h⟩ := gd_some h
  refine ax_iald (n := 6) cx (by decide) rfl rfl g1 dX3_between_13 ?_
  refine ax_iadd cx dX3_between_14 ?_
  obtain ⟨g2, h⟩ := gd_some h
  refine ax_iald (n := 216) cx (by decide) rfl rfl g2 dX3_between_15 ?_
  cases h
  exact ax_iret cx dX3_between_16 rfl ⟨rfl, rfl⟩
def fX3_nearestOutside_L4 : Nat → Mem → Int → Int → Option (Int)
  | 0, _, _, _ => none
  | n + 1, M, x1, x2 =>
    gd (inR (x2)) (
    gd (inR (M 102 0)) (
    if M 102 0 ≤ x2 then (
      some (x1))
    else (
      gd (inB (x2) 6) (
      gd (inR (M 11 x2.toNat)) (
      Option.bind (if M 11 x2.toNat ≤ 0 then (
        some (x1))
      else (
        gd (inB (x1) 6) (
        gd (inR (M 11 x1.toNat)) (
        if M 11 x1.toNat = 0 then (
          some (x2))
        else (
          gd (inB (x2) 6) (
          gd (inB (x1) 6) (
          if M 11 x1.toNat ≤ M 11 x2.toNat then (
            some (x1))
          else (
            some (x2))))))))) (fun t13 =>
      fX3_nearestOutside_L4 n M t13 (x2 + 1)))))))
def fX3_nearestOutside (M : Mem)  : Option (Int) :=
    Option.bind (fX3_nearestOutside_L4 FU M 0 0) (fun t17 =>
    some (t17))
abbrev rmX3_nearestOutside : Room := { frames := 0, cells := 0, slots := 0, locals := 0 }
theorem hl_X3_nearestOutside_15 : Cond.fieldLink RX3 15 "PlateauBench$Nets" "count" "I" ∈ wsX3_nearestOutside := by decide +kernel
theorem hl_X3_nearestOutside_32 : Cond.fieldLink RX3 32 "PlateauBench$Nets" "reach" "[I" ∈ wsX3_nearestOutside := by decide +kernel
theorem hi_X3_nearestOutside_X3 : ∀ x ∈ u_ws RX3 TX3 7, x ∈ wsX3_nearestOutside := by decide +kernel
set_option maxRecDepth 100000 in
set_option maxHeartbeats 4000000 in
theorem kX3_nearestOutside (l : Launch) (ad : Nat → Nat) (M : Mem)  (T : Int) (h : fX3_nearestOutside M  = some T) : MX l yX3_nearestOutside wsX3_nearestOutside rmX3_nearestOutside wC ad [.ref (ad 25)] M (some (iV (T))) M := by
  refine MX.of (cc := cX3_nearestOutside) (nL := 3) (rt := (some .int)) (own := RX3) (by decide +kernel) rfl rfl (Nat.le_of_ble_eq_true rfl) wC_ok (fun G cx => ?_)
  show G M 0 [(0, .ref (ad 25))] []
  have L4 : ∀ (n : Nat) (x1 : Int) (x2 : Int) (T16 : Int), fX3_nearestOutside_L4 n M x1 x2 = some T16 → (G M 53 [(1, iV (T16))] []) → G M 4 [(0, .ref (ad 25)), (1, iV (x1)), (2, iV (x2))] [] := by
    intro n
    induction n with
    | zero =>
      intro x1 x2 T16 h
      exact absurd h (by simp [fX3_nearestOutside_L4])
    | succ n ih =>
      intro x1 x2 T16 h hJ
      rw [fX3_nearestOutside_L4] at h
      refine ax_iload_n cx 2 dX3_nearestOutside_4 rfl rfl ?_
      refine ax_aload_n cx 0 dX3_nearestOutside_5 rfl rfl ?_
      refine ax_getf (q := 25) (ci := 3) (k := 1) (v := iV (M 102 0)) cx ⟨by decide, by decide⟩ rfl rfl hi_X3_nearestOutside_X3 (by decide) hl_X3_nearestOutside_15 rfl rfl dX3_nearestOutside_6 ?_
      obtain ⟨g1, h⟩ := gd_some h
      obtain ⟨g2, h⟩ := gd_some h
      refine ax_icmp_ge cx 53 dX3_nearestOutside_9 (by decide) g1 g2 (fun c3 => ?_) (fun c3 => ?_)
      · rw [if_pos c3] at h
        refine ax_lv cx [1] rfl ?_
        cases h
        exact hJ
      · rw [if_neg c3] at h
        refine ax_aload_n cx 0 dX3_nearestOutside_12 rfl rfl ?_
        refine ax_getf (q := 25) (ci := 3) (k := 6) (v := .ref (ad 11)) cx ⟨by decide, by decide⟩ rfl rfl hi_X3_nearestOutside_X3 (by decide) hl_X3_nearestOutside_32 rfl rfl dX3_nearestOutside_13 ?_
        refine ax_iload_n cx 2 dX3_nearestOutside_16 rfl rfl ?_
        obtain ⟨g4, h⟩ := gd_some h
        refine ax_iald (n := 6) cx (by decide) rfl rfl g4 dX3_nearestOutside_17 ?_
        obtain ⟨g5, h⟩ := gd_some h
        obtain ⟨t13, e15, h⟩ := ob h
        have J14 : G M 47 [(0, .ref (ad 25)), (1, iV (t13)), (2, iV (x2))] [] := by
          refine ax_iinc (lv' := [(2, iV (x2 + 1)), (0, .ref (ad 25)), (1, iV (t13))]) cx 2 dX3_nearestOutside_47 rfl (by decide) rfl ?_
          refine ax_goto cx 4 dX3_nearestOutside_50 (by decide) ?_
          refine ax_lv cx [1, 2, 0] rfl ?_
          exact ih _ _ _ h hJ
        clear h
        have h := e15
        clear e15
        refine ax_if_le cx 47 dX3_nearestOutside_18 (by decide) g5 (fun c6 => ?_) (fun c6 => ?_)
        · rw [if_pos c6] at h
          cases h
          exact J14
        · rw [if_neg c6] at h
          refine ax_aload_n cx 0 dX3_nearestOutside_21 rfl rfl ?_
          refine ax_getf (q := 25) (ci := 3) (k := 6) (v := .ref (ad 11)) cx ⟨by decide, by decide⟩ rfl rfl hi_X3_nearestOutside_X3 (by decide) hl_X3_nearestOutside_32 rfl rfl dX3_nearestOutside_22 ?_
          refine ax_iload_n cx 1 dX3_nearestOutside_25 rfl rfl ?_
          obtain ⟨g7, h⟩ := gd_some h
          refine ax_iald (n := 6) cx (by decide) rfl rfl g7 dX3_nearestOutside_26 ?_
          obtain ⟨g8, h⟩ := gd_some h
          refine ax_if_eq cx 45 dX3_nearestOutside_27 (by decide) g8 (fun c9 => ?_) (fun c9 => ?_)
          · rw [if_pos c9] at h
            refine ax_iload_n cx 2 dX3_nearestOutside_45 rfl rfl ?_
            refine ax_istore_n (lv' := [(1, iV (x2)), (0, .ref (ad 25)), (2, iV (x2))]) cx dX3_nearestOutside_46 rfl (by decide) rfl ?_
            refine ax_lv cx [1, 0, 2] rfl ?_
            cases h
            exact J14
          · rw [if_neg c9] at h
            refine ax_aload_n cx 0 dX3_nearestOutside_30 rfl rfl ?_
            refine ax_getf (q := 25) (ci := 3) (k := 6) (v := .ref (ad 11)) cx ⟨by decide, by decide⟩ rfl rfl hi_X3_nearestOutside_X3 (by decide) hl_X3_nearestOutside_32 rfl rfl dX3_nearestOutside_31 ?_
            refine ax_iload_n cx 2 dX3_nearestOutside_34 rfl rfl ?_
            obtain ⟨g10, h⟩ := gd_some h
            refine ax_iald (n := 6) cx (by decide) rfl rfl g10 dX3_nearestOutside_35 ?_
            refine ax_aload_n cx 0 dX3_nearestOutside_36 rfl rfl ?_
            refine ax_getf (q := 25) (ci := 3) (k := 6) (v := .ref (ad 11)) cx ⟨by decide, by decide⟩ rfl rfl hi_X3_nearestOutside_X3 (by decide) hl_X3_nearestOutside_32 rfl rfl dX3_nearestOutside_37 ?_
            refine ax_iload_n cx 1 dX3_nearestOutside_40 rfl rfl ?_
            obtain ⟨g11, h⟩ := gd_some h
            refine ax_iald (n := 6) cx (by decide) rfl rfl g11 dX3_nearestOutside_41 ?_
            refine ax_icmp_ge cx 47 dX3_nearestOutside_42 (by decide) g5 g8 (fun c12 => ?_) (fun c12 => ?_)
            · rw [if_pos c12] at h
              cases h
              exact J14
            · rw [if_neg c12] at h
              refine ax_iload_n cx 2 dX3_nearestOutside_45 rfl rfl ?_
              refine ax_istore_n (lv' := [(1, iV (x2)), (0, .ref (ad 25)), (2, iV (x2))]) cx dX3_nearestOutside_46 rfl (by decide) rfl ?_
              refine ax_lv cx [1, 0, 2] rfl ?_
              cases h
              exact J14
  unfold fX3_nearestOutside at h
  refine ax_iconst cx dX3_nearestOutside_0 ?_
  refine ax_istore_n (lv' := [(1, iV (0)), (0, .ref (ad 25))]) cx dX3_nearestOutside_1 rfl (by decide) rfl ?_
  refine ax_iconst cx dX3_nearestOutside_2 ?_
  refine ax_istore_n (lv' := [(2, iV (0)), (1, iV (0)), (0, .ref (ad 25))]) cx dX3_nearestOutside_3 rfl (by decide) rfl ?_
  obtain ⟨t17, e18, h⟩ := ob h
  refine ax_lv cx [2, 1, 0] rfl ?_
  have J19 : G M 53 [(1, iV (t17))] [] := by
    refine ax_iload_n cx 0 dX3_nearestOutside_53 rfl rfl ?_
    cases h
    exact ax_iret cx dX3_nearestOutside_54 rfl ⟨rfl, rfl⟩
  exact L4 FU 0 0 _ e18 J19
def fX3_cheapestPairs_L2 : Nat → Mem → Int → Option (Mem)
  | 0, _, _ => none
  | n + 1, M, x1 =>
    gd (inR (x1)) (
    gd (inR (M 102 0)) (
    if M 102 0 ≤ x1 then (
      some (M))
    else (
      Option.bind (fX3_between M 0 x1) (fun t4 =>
      gd (inB (x1) 6) (
      fX3_cheapestPairs_L2 n (wr M 11 x1.toNat t4) (x1 + 1))))))
def fX3_cheapestPairs_L57 : Nat → Mem → Int → Int → Int → Int → Option (Mem)
  | 0, _, _, _, _, _ => none
  | n + 1, M, x1, x2, x3, x4 =>
    gd (inR (x4)) (
    gd (inR (M 102 0)) (
    if M 102 0 ≤ x4 then (
      some (M))
    else (
      gd (inB (x4) 6) (
      Option.bind (fX3_between M x3 x4) (fun t21 =>
      gd (inR (M 11 x4.toNat)) (
      gd (inR (t21)) (
      gd (inB (x4) 6) (
      fX3_cheapestPairs_L57 n (wr M 11 x4.toNat (if t21 < M 11 x4.toNat then t21 else M 11 x4.toNat)) x1 x2 x3 (x4 + 1)))))))))
def fX3_cheapestPairs_L32 : Nat → Mem → Int → Int → Option (Int × Mem)
  | 0, _, _, _ => none
  | n + 1, M, x1, x2 =>
    gd (inR (x2)) (
    gd (inR (M 102 0)) (
    if M 102 0 ≤ x2 then (
      some (x1, M))
    else (
      Option.bind (fX3_nearestOutside M) (fun t14 =>
      gd (inB (t14) 6) (
      Option.bind (fX3_cheapestPairs_L57 FU M (x1 + (M 11 t14.toNat)) x2 t14 0) (fun t27 =>
      fX3_cheapestPairs_L32 n t27 (x1 + (M 11 t14.toNat)) (x2 + 1)))))))
def fX3_cheapestPairs (M : Mem)  : Option (Int × Mem) :=
    Option.bind (fX3_cheapestPairs_L2 FU M 0) (fun t8 =>
    Option.bind (fX3_cheapestPairs_L32 FU t8 0 1) (fun t31 =>
    some (t31.1, t31.2)))
abbrev rmX3_cheapestPairs : Room := { frames := 1, cells := 0, slots := 0, locals := 22 }
theorem hl_X3_cheapestPairs_15 : Cond.fieldLink RX3 15 "PlateauBench$Nets" "count" "I" ∈ wsX3_cheapestPairs := by decide +kernel
theorem hl_X3_cheapestPairs_32 : Cond.fieldLink RX3 32 "PlateauBench$Nets" "reach" "[I" ∈ wsX3_cheapestPairs := by decide +kernel
theorem hw_X3_cheapestPairs_l76 : Cond.methodLink RX3 76 Lib.Math.min.name ∈ wsX3_cheapestPairs := by decide +kernel
theorem hw_X3_cheapestPairs_min1 : Cond.static Lib.Math.min.name ∈ wsX3_cheapestPairs := by decide +kernel
theorem hw_X3_cheapestPairs_math : Cond.initialized "java/lang/Math" ∈ wsX3_cheapestPairs := by decide +kernel
theorem hw_X3_cheapestPairs_min2 : Cond.code Lib.Math.min.name Lib.Math.min.code 2 (some .int) ∈ wsX3_cheapestPairs := by decide +kernel
theorem hi_X3_cheapestPairs_X3 : ∀ x ∈ u_ws RX3 TX3 7, x ∈ wsX3_cheapestPairs := by decide +kernel
set_option maxRecDepth 100000 in
set_option maxHeartbeats 4000000 in
theorem kX3_cheapestPairs (l : Launch) (ad : Nat → Nat) (M : Mem)  (T : Int × Mem) (h : fX3_cheapestPairs M  = some T) : MX l yX3_cheapestPairs wsX3_cheapestPairs rmX3_cheapestPairs wC ad [.ref (ad 25)] M (some (iV (T.1))) T.2 := by
  refine MX.of (cc := cX3_cheapestPairs) (nL := 5) (rt := (some .int)) (own := RX3) (by decide +kernel) rfl rfl (Nat.le_of_ble_eq_true rfl) wC_ok (fun G cx => ?_)
  show G M 0 [(0, .ref (ad 25))] []
  have L2 : ∀ (n : Nat) (M : Mem) (x1 : Int) (T7 : Mem), fX3_cheapestPairs_L2 n M x1 = some T7 → (G T7 28 [(0, .ref (ad 25))] []) → G M 2 [(0, .ref (ad 25)), (1, iV (x1))] [] := by
    intro n
    induction n with
    | zero =>
      intro M x1 T7 h
      exact absurd h (by simp [fX3_cheapestPairs_L2])
    | succ n ih =>
      intro M x1 T7 h hJ
      rw [fX3_cheapestPairs_L2] at h
      refine ax_iload_n cx 1 dX3_cheapestPairs_2 rfl rfl ?_
      refine ax_aload_n cx 0 dX3_cheapestPairs_3 rfl rfl ?_
      refine ax_getf (q := 25) (ci := 3) (k := 1) (v := iV (M 102 0)) cx ⟨by decide, by decide⟩ rfl rfl hi_X3_cheapestPairs_X3 (by decide) hl_X3_cheapestPairs_15 rfl rfl dX3_cheapestPairs_4 ?_
      obtain ⟨g1, h⟩ := gd_some h
      obtain ⟨g2, h⟩ := gd_some h
      refine ax_icmp_ge cx 28 dX3_cheapestPairs_7 (by decide) g1 g2 (fun c3 => ?_) (fun c3 => ?_)
      · rw [if_pos c3] at h
        refine ax_lv cx [0] rfl ?_
        cases h
        exact hJ
      · rw [if_neg c3] at h
        refine ax_aload_n cx 0 dX3_cheapestPairs_10 rfl rfl ?_
        refine ax_getf (q := 25) (ci := 3) (k := 6) (v := .ref (ad 11)) cx ⟨by decide, by decide⟩ rfl rfl hi_X3_cheapestPairs_X3 (by decide) hl_X3_cheapestPairs_32 rfl rfl dX3_cheapestPairs_11 ?_
        refine ax_iload_n cx 1 dX3_cheapestPairs_14 rfl rfl ?_
        refine ax_aload_n cx 0 dX3_cheapestPairs_15 rfl rfl ?_
        refine ax_iconst cx dX3_cheapestPairs_16 ?_
        refine ax_iload_n cx 1 dX3_cheapestPairs_17 rfl rfl ?_
        obtain ⟨t4, e5, h⟩ := ob h
        refine ax_callV (As := [iV (0), iV (x1)]) (q := 25) (ci := 3) (n := 2) cx (kX3_between l ad M 0 x1 _ e5) gX3_cheapestPairs_X3_between rfl ⟨by decide, by decide⟩ rfl rfl ⟨rfl, rfl⟩ (by decide +kernel) rfl ⟨by decide, by decide⟩ rfl (Nat.le_of_ble_eq_true rfl) dX3_cheapestPairs_18 ?_
        obtain ⟨g6, h⟩ := gd_some h
        refine ax_iast (n := 6) cx (by decide) rfl rfl g6 dX3_cheapestPairs_21 ?_
        refine ax_iinc (lv' := [(1, iV (x1 + 1)), (0, .ref (ad 25))]) cx 1 dX3_cheapestPairs_22 rfl (by decide) rfl ?_
        refine ax_goto cx 2 dX3_cheapestPairs_25 (by decide) ?_
        refine ax_lv cx [1, 0] rfl ?_
        exact ih _ _ _ h hJ
  have L57 : ∀ (n : Nat) (M : Mem) (x1 : Int) (x2 : Int) (x3 : Int) (x4 : Int) (T26 : Mem), fX3_cheapestPairs_L57 n M x1 x2 x3 x4 = some T26 → (G T26 96 [(0, .ref (ad 25)), (1, iV (x1)), (2, iV (x2))] []) → G M 57 [(0, .ref (ad 25)), (1, iV (x1)), (2, iV (x2)), (3, iV (x3)), (4, iV (x4))] [] := by
    intro n
    induction n with
    | zero =>
      intro M x1 x2 x3 x4 T26 h
      exact absurd h (by simp [fX3_cheapestPairs_L57])
    | succ n ih =>
      intro M x1 x2 x3 x4 T26 h hJ
      rw [fX3_cheapestPairs_L57] at h
      refine ax_iload cx 4 dX3_cheapestPairs_57 rfl ?_
      refine ax_aload_n cx 0 dX3_cheapestPairs_59 rfl rfl ?_
      refine ax_getf (q := 25) (ci := 3) (k := 1) (v := iV (M 102 0)) cx ⟨by decide, by decide⟩ rfl rfl hi_X3_cheapestPairs_X3 (by decide) hl_X3_cheapestPairs_15 rfl rfl dX3_cheapestPairs_60 ?_
      obtain ⟨g17, h⟩ := gd_some h
      obtain ⟨g18, h⟩ := gd_some h
      refine ax_icmp_ge cx 96 dX3_cheapestPairs_63 (by decide) g17 g18 (fun c19 => ?_) (fun c19 => ?_)
      · rw [if_pos c19] at h
        refine ax_lv cx [0, 1, 2] rfl ?_
        cases h
        exact hJ
      · rw [if_neg c19] at h
        refine ax_aload_n cx 0 dX3_cheapestPairs_66 rfl rfl ?_
        refine ax_getf (q := 25) (ci := 3) (k := 6) (v := .ref (ad 11)) cx ⟨by decide, by decide⟩ rfl rfl hi_X3_cheapestPairs_X3 (by decide) hl_X3_cheapestPairs_32 rfl rfl dX3_cheapestPairs_67 ?_
        refine ax_iload cx 4 dX3_cheapestPairs_70 rfl ?_
        refine ax_aload_n cx 0 dX3_cheapestPairs_72 rfl rfl ?_
        refine ax_getf (q := 25) (ci := 3) (k := 6) (v := .ref (ad 11)) cx ⟨by decide, by decide⟩ rfl rfl hi_X3_cheapestPairs_X3 (by decide) hl_X3_cheapestPairs_32 rfl rfl dX3_cheapestPairs_73 ?_
        refine ax_iload cx 4 dX3_cheapestPairs_76 rfl ?_
        obtain ⟨g20, h⟩ := gd_some h
        refine ax_iald (n := 6) cx (by decide) rfl rfl g20 dX3_cheapestPairs_78 ?_
        refine ax_aload_n cx 0 dX3_cheapestPairs_79 rfl rfl ?_
        refine ax_iload_n cx 3 dX3_cheapestPairs_80 rfl rfl ?_
        refine ax_iload cx 4 dX3_cheapestPairs_81 rfl ?_
        obtain ⟨t21, e22, h⟩ := ob h
        refine ax_callV (As := [iV (x3), iV (x4)]) (q := 25) (ci := 3) (n := 2) cx (kX3_between l ad M x3 x4 _ e22) gX3_cheapestPairs_X3_between rfl ⟨by decide, by decide⟩ rfl rfl ⟨rfl, rfl⟩ (by decide +kernel) rfl ⟨by decide, by decide⟩ rfl (Nat.le_of_ble_eq_true rfl) dX3_cheapestPairs_83 ?_
        obtain ⟨g23, h⟩ := gd_some h
        obtain ⟨g24, h⟩ := gd_some h
        refine ax_min cx g23 g24 hw_X3_cheapestPairs_l76 hw_X3_cheapestPairs_min1 hw_X3_cheapestPairs_math hw_X3_cheapestPairs_min2 (by decide) (Nat.le_of_ble_eq_true rfl) dX3_cheapestPairs_86 ?_
        obtain ⟨g25, h⟩ := gd_some h
        refine ax_iast (n := 6) cx (by decide) rfl rfl g25 dX3_cheapestPairs_89 ?_
        refine ax_iinc (lv' := [(4, iV (x4 + 1)), (0, .ref (ad 25)), (1, iV (x1)), (2, iV (x2)), (3, iV (x3))]) cx 4 dX3_cheapestPairs_90 rfl (by decide) rfl ?_
        refine ax_goto cx 57 dX3_cheapestPairs_93 (by decide) ?_
        refine ax_lv cx [1, 2, 3, 4, 0] rfl ?_
        exact ih _ _ _ _ _ _ h hJ
  have L32 : ∀ (n : Nat) (M : Mem) (x1 : Int) (x2 : Int) (T30 : Int × Mem), fX3_cheapestPairs_L32 n M x1 x2 = some T30 → (G T30.2 102 [(1, iV (T30.1))] []) → G M 32 [(0, .ref (ad 25)), (1, iV (x1)), (2, iV (x2))] [] := by
    intro n
    induction n with
    | zero =>
      intro M x1 x2 T30 h
      exact absurd h (by simp [fX3_cheapestPairs_L32])
    | succ n ih =>
      intro M x1 x2 T30 h hJ
      rw [fX3_cheapestPairs_L32] at h
      refine ax_iload_n cx 2 dX3_cheapestPairs_32 rfl rfl ?_
      refine ax_aload_n cx 0 dX3_cheapestPairs_33 rfl rfl ?_
      refine ax_getf (q := 25) (ci := 3) (k := 1) (v := iV (M 102 0)) cx ⟨by decide, by decide⟩ rfl rfl hi_X3_cheapestPairs_X3 (by decide) hl_X3_cheapestPairs_15 rfl rfl dX3_cheapestPairs_34 ?_
      obtain ⟨g11, h⟩ := gd_some h
      obtain ⟨g12, h⟩ := gd_some h
      refine ax_icmp_ge cx 102 dX3_cheapestPairs_37 (by decide) g11 g12 (fun c13 => ?_) (fun c13 => ?_)
      · rw [if_pos c13] at h
        refine ax_lv cx [1] rfl ?_
        cases h
        exact hJ
      · rw [if_neg c13] at h
        refine ax_aload_n cx 0 dX3_cheapestPairs_40 rfl rfl ?_
        obtain ⟨t14, e15, h⟩ := ob h
        refine ax_callV (As := []) (q := 25) (ci := 3) (n := 0) cx (kX3_nearestOutside l ad M  _ e15) gX3_cheapestPairs_X3_nearestOutside rfl ⟨by decide, by decide⟩ rfl rfl ⟨rfl, rfl⟩ (by decide +kernel) rfl ⟨by decide, by decide⟩ rfl (Nat.le_of_ble_eq_true rfl) dX3_cheapestPairs_41 ?_
        refine ax_istore_n (lv' := [(3, iV (t14)), (0, .ref (ad 25)), (1, iV (x1)), (2, iV (x2))]) cx dX3_cheapestPairs_44 rfl (by decide) rfl ?_
        refine ax_iload_n cx 2 dX3_cheapestPairs_45 rfl rfl ?_
        refine ax_aload_n cx 1 dX3_cheapestPairs_46 rfl rfl ?_
        refine ax_getf (q := 25) (ci := 3) (k := 6) (v := .ref (ad 11)) cx ⟨by decide, by decide⟩ rfl rfl hi_X3_cheapestPairs_X3 (by decide) hl_X3_cheapestPairs_32 rfl rfl dX3_cheapestPairs_47 ?_
        refine ax_iload_n cx 0 dX3_cheapestPairs_50 rfl rfl ?_
        obtain ⟨g16, h⟩ := gd_some h
        refine ax_iald (n := 6) cx (by decide) rfl rfl g16 dX3_cheapestPairs_51 ?_
        refine ax_iadd cx dX3_cheapestPairs_52 ?_
        refine ax_istore_n (lv' := [(1, iV (x1 + (M 11 t14.toNat))), (3, iV (t14)), (0, .ref (ad 25)), (2, iV (x2))]) cx dX3_cheapestPairs_53 rfl (by decide) rfl ?_
        refine ax_iconst cx dX3_cheapestPairs_54 ?_
        refine ax_istore (lv' := [(4, iV (0)), (1, iV (x1 + (M 11 t14.toNat))), (3, iV (t14)), (0, .ref (ad 25)), (2, iV (x2))]) cx dX3_cheapestPairs_55 (by decide) rfl ?_
        obtain ⟨t27, e28, h⟩ := ob h
        refine ax_lv cx [3, 1, 4, 2, 0] rfl ?_
        have J29 : G t27 96 [(0, .ref (ad 25)), (1, iV (x1 + (M 11 t14.toNat))), (2, iV (x2))] [] := by
          refine ax_iinc (lv' := [(2, iV (x2 + 1)), (0, .ref (ad 25)), (1, iV (x1 + (M 11 t14.toNat)))]) cx 2 dX3_cheapestPairs_96 rfl (by decide) rfl ?_
          refine ax_goto cx 32 dX3_cheapestPairs_99 (by decide) ?_
          refine ax_lv cx [1, 2, 0] rfl ?_
          exact ih _ _ _ _ h hJ
        exact L57 FU M (x1 + (M 11 t14.toNat)) x2 t14 0 _ e28 J29
  unfold fX3_cheapestPairs at h
  refine ax_iconst cx dX3_cheapestPairs_0 ?_
  refine ax_istore_n (lv' := [(1, iV (0)), (0, .ref (ad 25))]) cx dX3_cheapestPairs_1 rfl (by decide) rfl ?_
  obtain ⟨t8, e9, h⟩ := ob h
  refine ax_lv cx [1, 0] rfl ?_
  have J10 : G t8 28 [(0, .ref (ad 25))] [] := by
    refine ax_iconst cx dX3_cheapestPairs_28 ?_
    refine ax_istore_n (lv' := [(1, iV (0)), (0, .ref (ad 25))]) cx dX3_cheapestPairs_29 rfl (by decide) rfl ?_
    refine ax_iconst cx dX3_cheapestPairs_30 ?_
    refine ax_istore_n (lv' := [(2, iV (1)), (1, iV (0)), (0, .ref (ad 25))]) cx dX3_cheapestPairs_31 rfl (by decide) rfl ?_
    obtain ⟨t31, e32, h⟩ := ob h
    refine ax_lv cx [2, 1, 0] rfl ?_
    have J33 : G t31.2 102 [(1, iV (t31.1))] [] := by
      refine ax_iload_n cx 0 dX3_cheapestPairs_102 rfl rfl ?_
      cases h
      exact ax_iret cx dX3_cheapestPairs_103 rfl ⟨rfl, rfl⟩
    exact L32 FU t8 0 1 _ e32 J33
  exact L2 FU M 0 _ e9 J10
def fX3_halfUp (M : Mem) (x0 : Int) : Option (Int) :=
    gd (0 ≤ x0 + 1 ∧ x0 + 1 < 2147483648) (
    some ((x0 + 1) / 2))
abbrev rmX3_halfUp : Room := { frames := 0, cells := 0, slots := 0, locals := 0 }
set_option maxRecDepth 100000 in
set_option maxHeartbeats 4000000 in
theorem kX3_halfUp (l : Launch) (ad : Nat → Nat) (M : Mem) (x0 : Int) (T : Int) (h : fX3_halfUp M x0 = some T) : MX l yX3_halfUp wsX3_halfUp rmX3_halfUp wC ad [iV (x0)] M (some (iV (T))) M := by
  refine MX.of (cc := cX3_halfUp) (nL := 1) (rt := (some .int)) (own := RX3) (by decide +kernel) rfl rfl (Nat.le_of_ble_eq_true rfl) wC_ok (fun G cx => ?_)
  show G M 0 [(0, iV (x0))] []
  unfold fX3_halfUp at h
  refine ax_iload_n cx 0 dX3_halfUp_0 rfl rfl ?_
  refine ax_iconst cx dX3_halfUp_1 ?_
  refine ax_iadd cx dX3_halfUp_2 ?_
  refine ax_iconst cx dX3_halfUp_3 ?_
  obtain ⟨g1, h⟩ := gd_some h
  refine ax_idiv cx dX3_halfUp_4 ⟨g1, by decide, by decide⟩ ?_
  cases h
  exact ax_iret cx dX3_halfUp_5 rfl ⟨rfl, rfl⟩
def fX3_farthestPair_L16 : Nat → Mem → Int → Int → Int → Option (Int)
  | 0, _, _, _, _ => none
  | n + 1, M, x1, x2, x3 =>
    gd (inR (x3)) (
    gd (inR (M 102 0)) (
    if M 102 0 ≤ x3 then (
      some (x1))
    else (
      Option.bind (fX3_between M x2 x3) (fun t7 =>
      gd (inR (x1)) (
      gd (inR (t7)) (
      fX3_farthestPair_L16 n M (if x1 < t7 then t7 else x1) x2 (x3 + 1)))))))
def fX3_farthestPair_L4 : Nat → Mem → Int → Int → Option (Int)
  | 0, _, _, _ => none
  | n + 1, M, x1, x2 =>
    gd (inR (x2)) (
    gd (inR (M 102 0)) (
    if M 102 0 ≤ x2 then (
      some (x1))
    else (
      Option.bind (fX3_farthestPair_L16 FU M x1 x2 (x2 + 1)) (fun t12 =>
      fX3_farthestPair_L4 n M t12 (x2 + 1)))))
def fX3_farthestPair (M : Mem)  : Option (Int) :=
    Option.bind (fX3_farthestPair_L4 FU M 0 0) (fun t16 =>
    some (t16))
abbrev rmX3_farthestPair : Room := { frames := 1, cells := 0, slots := 0, locals := 22 }
theorem hl_X3_farthestPair_15 : Cond.fieldLink RX3 15 "PlateauBench$Nets" "count" "I" ∈ wsX3_farthestPair := by decide +kernel
theorem hw_X3_farthestPair_l100 : Cond.methodLink RX3 100 Lib.Math.max.name ∈ wsX3_farthestPair := by decide +kernel
theorem hw_X3_farthestPair_max1 : Cond.static Lib.Math.max.name ∈ wsX3_farthestPair := by decide +kernel
theorem hw_X3_farthestPair_math : Cond.initialized "java/lang/Math" ∈ wsX3_farthestPair := by decide +kernel
theorem hw_X3_farthestPair_max2 : Cond.code Lib.Math.max.name Lib.Math.max.code 2 (some .int) ∈ wsX3_farthestPair := by decide +kernel
theorem hi_X3_farthestPair_X3 : ∀ x ∈ u_ws RX3 TX3 7, x ∈ wsX3_farthestPair := by decide +kernel
set_option maxRecDepth 100000 in
set_option maxHeartbeats 4000000 in
theorem kX3_farthestPair (l : Launch) (ad : Nat → Nat) (M : Mem)  (T : Int) (h : fX3_farthestPair M  = some T) : MX l yX3_farthestPair wsX3_farthestPair rmX3_farthestPair wC ad [.ref (ad 25)] M (some (iV (T))) M := by
  refine MX.of (cc := cX3_farthestPair) (nL := 4) (rt := (some .int)) (own := RX3) (by decide +kernel) rfl rfl (Nat.le_of_ble_eq_true rfl) wC_ok (fun G cx => ?_)
  show G M 0 [(0, .ref (ad 25))] []
  have L16 : ∀ (n : Nat) (x1 : Int) (x2 : Int) (x3 : Int) (T11 : Int), fX3_farthestPair_L16 n M x1 x2 x3 = some T11 → (G M 41 [(0, .ref (ad 25)), (1, iV (T11)), (2, iV (x2))] []) → G M 16 [(0, .ref (ad 25)), (1, iV (x1)), (2, iV (x2)), (3, iV (x3))] [] := by
    intro n
    induction n with
    | zero =>
      intro x1 x2 x3 T11 h
      exact absurd h (by simp [fX3_farthestPair_L16])
    | succ n ih =>
      intro x1 x2 x3 T11 h hJ
      rw [fX3_farthestPair_L16] at h
      refine ax_iload_n cx 3 dX3_farthestPair_16 rfl rfl ?_
      refine ax_aload_n cx 0 dX3_farthestPair_17 rfl rfl ?_
      refine ax_getf (q := 25) (ci := 3) (k := 1) (v := iV (M 102 0)) cx ⟨by decide, by decide⟩ rfl rfl hi_X3_farthestPair_X3 (by decide) hl_X3_farthestPair_15 rfl rfl dX3_farthestPair_18 ?_
      obtain ⟨g4, h⟩ := gd_some h
      obtain ⟨g5, h⟩ := gd_some h
      refine ax_icmp_ge cx 41 dX3_farthestPair_21 (by decide) g4 g5 (fun c6 => ?_) (fun c6 => ?_)
      · rw [if_pos c6] at h
        refine ax_lv cx [0, 1, 2] rfl ?_
        cases h
        exact hJ
      · rw [if_neg c6] at h
        refine ax_iload_n cx 1 dX3_farthestPair_24 rfl rfl ?_
        refine ax_aload_n cx 0 dX3_farthestPair_25 rfl rfl ?_
        refine ax_iload_n cx 2 dX3_farthestPair_26 rfl rfl ?_
        refine ax_iload_n cx 3 dX3_farthestPair_27 rfl rfl ?_
        obtain ⟨t7, e8, h⟩ := ob h
        refine ax_callV (As := [iV (x2), iV (x3)]) (q := 25) (ci := 3) (n := 2) cx (kX3_between l ad M x2 x3 _ e8) gX3_farthestPair_X3_between rfl ⟨by decide, by decide⟩ rfl rfl ⟨rfl, rfl⟩ (by decide +kernel) rfl ⟨by decide, by decide⟩ rfl (Nat.le_of_ble_eq_true rfl) dX3_farthestPair_28 ?_
        obtain ⟨g9, h⟩ := gd_some h
        obtain ⟨g10, h⟩ := gd_some h
        refine ax_max cx g9 g10 hw_X3_farthestPair_l100 hw_X3_farthestPair_max1 hw_X3_farthestPair_math hw_X3_farthestPair_max2 (by decide) (Nat.le_of_ble_eq_true rfl) dX3_farthestPair_31 ?_
        refine ax_istore_n (lv' := [(1, iV (if x1 < t7 then t7 else x1)), (0, .ref (ad 25)), (2, iV (x2)), (3, iV (x3))]) cx dX3_farthestPair_34 rfl (by decide) rfl ?_
        refine ax_iinc (lv' := [(3, iV (x3 + 1)), (1, iV (if x1 < t7 then t7 else x1)), (0, .ref (ad 25)), (2, iV (x2))]) cx 3 dX3_farthestPair_35 rfl (by decide) rfl ?_
        refine ax_goto cx 16 dX3_farthestPair_38 (by decide) ?_
        refine ax_lv cx [2, 1, 3, 0] rfl ?_
        exact ih _ _ _ _ h hJ
  have L4 : ∀ (n : Nat) (x1 : Int) (x2 : Int) (T15 : Int), fX3_farthestPair_L4 n M x1 x2 = some T15 → (G M 47 [(1, iV (T15))] []) → G M 4 [(0, .ref (ad 25)), (1, iV (x1)), (2, iV (x2))] [] := by
    intro n
    induction n with
    | zero =>
      intro x1 x2 T15 h
      exact absurd h (by simp [fX3_farthestPair_L4])
    | succ n ih =>
      intro x1 x2 T15 h hJ
      rw [fX3_farthestPair_L4] at h
      refine ax_iload_n cx 2 dX3_farthestPair_4 rfl rfl ?_
      refine ax_aload_n cx 0 dX3_farthestPair_5 rfl rfl ?_
      refine ax_getf (q := 25) (ci := 3) (k := 1) (v := iV (M 102 0)) cx ⟨by decide, by decide⟩ rfl rfl hi_X3_farthestPair_X3 (by decide) hl_X3_farthestPair_15 rfl rfl dX3_farthestPair_6 ?_
      obtain ⟨g1, h⟩ := gd_some h
      obtain ⟨g2, h⟩ := gd_some h
      refine ax_icmp_ge cx 47 dX3_farthestPair_9 (by decide) g1 g2 (fun c3 => ?_) (fun c3 => ?_)
      · rw [if_pos c3] at h
        refine ax_lv cx [1] rfl ?_
        cases h
        exact hJ
      · rw [if_neg c3] at h
        refine ax_iload_n cx 2 dX3_farthestPair_12 rfl rfl ?_
        refine ax_iconst cx dX3_farthestPair_13 ?_
        refine ax_iadd cx dX3_farthestPair_14 ?_
        refine ax_istore_n (lv' := [(3, iV (x2 + 1)), (0, .ref (ad 25)), (1, iV (x1)), (2, iV (x2))]) cx dX3_farthestPair_15 rfl (by decide) rfl ?_
        obtain ⟨t12, e13, h⟩ := ob h
        refine ax_lv cx [1, 2, 3, 0] rfl ?_
        have J14 : G M 41 [(0, .ref (ad 25)), (1, iV (t12)), (2, iV (x2))] [] := by
          refine ax_iinc (lv' := [(2, iV (x2 + 1)), (0, .ref (ad 25)), (1, iV (t12))]) cx 2 dX3_farthestPair_41 rfl (by decide) rfl ?_
          refine ax_goto cx 4 dX3_farthestPair_44 (by decide) ?_
          refine ax_lv cx [1, 2, 0] rfl ?_
          exact ih _ _ _ h hJ
        exact L16 FU x1 x2 (x2 + 1) _ e13 J14
  unfold fX3_farthestPair at h
  refine ax_iconst cx dX3_farthestPair_0 ?_
  refine ax_istore_n (lv' := [(1, iV (0)), (0, .ref (ad 25))]) cx dX3_farthestPair_1 rfl (by decide) rfl ?_
  refine ax_iconst cx dX3_farthestPair_2 ?_
  refine ax_istore_n (lv' := [(2, iV (0)), (1, iV (0)), (0, .ref (ad 25))]) cx dX3_farthestPair_3 rfl (by decide) rfl ?_
  obtain ⟨t16, e17, h⟩ := ob h
  refine ax_lv cx [2, 1, 0] rfl ?_
  have J18 : G M 47 [(1, iV (t16))] [] := by
    refine ax_iload_n cx 0 dX3_farthestPair_47 rfl rfl ?_
    cases h
    exact ax_iret cx dX3_farthestPair_48 rfl ⟨rfl, rfl⟩
  exact L4 FU 0 0 _ e17 J18
def fX3_farthestThree_L29 : Nat → Mem → Int → Int → Int → Int → Option (Int)
  | 0, _, _, _, _, _ => none
  | n + 1, M, x1, x2, x3, x4 =>
    gd (inR (x4)) (
    gd (inR (M 102 0)) (
    if M 102 0 ≤ x4 then (
      some (x1))
    else (
      Option.bind (fX3_between M x2 x3) (fun t10 =>
      Option.bind (fX3_between M x2 x4) (fun t12 =>
      Option.bind (fX3_between M x3 x4) (fun t14 =>
      gd (inR (x1)) (
      gd (inR ((t10 + t12) + t14)) (
      fX3_farthestThree_L29 n M (if x1 < (t10 + t12) + t14 then (t10 + t12) + t14 else x1) x2 x3 (x4 + 1)))))))))
def fX3_farthestThree_L16 : Nat → Mem → Int → Int → Int → Option (Int)
  | 0, _, _, _, _ => none
  | n + 1, M, x1, x2, x3 =>
    gd (inR (x3)) (
    gd (inR (M 102 0)) (
    if M 102 0 ≤ x3 then (
      some (x1))
    else (
      Option.bind (fX3_farthestThree_L29 FU M x1 x2 x3 (x3 + 1)) (fun t19 =>
      fX3_farthestThree_L16 n M t19 x2 (x3 + 1)))))
def fX3_farthestThree_L4 : Nat → Mem → Int → Int → Option (Int)
  | 0, _, _, _ => none
  | n + 1, M, x1, x2 =>
    gd (inR (x2)) (
    gd (inR (M 102 0)) (
    if M 102 0 ≤ x2 then (
      some (x1))
    else (
      Option.bind (fX3_farthestThree_L16 FU M x1 x2 (x2 + 1)) (fun t23 =>
      fX3_farthestThree_L4 n M t23 (x2 + 1)))))
def fX3_farthestThree (M : Mem)  : Option (Int) :=
    Option.bind (fX3_farthestThree_L4 FU M 0 0) (fun t27 =>
    some (t27))
abbrev rmX3_farthestThree : Room := { frames := 1, cells := 0, slots := 0, locals := 22 }
theorem hl_X3_farthestThree_15 : Cond.fieldLink RX3 15 "PlateauBench$Nets" "count" "I" ∈ wsX3_farthestThree := by decide +kernel
theorem hw_X3_farthestThree_l100 : Cond.methodLink RX3 100 Lib.Math.max.name ∈ wsX3_farthestThree := by decide +kernel
theorem hw_X3_farthestThree_max1 : Cond.static Lib.Math.max.name ∈ wsX3_farthestThree := by decide +kernel
theorem hw_X3_farthestThree_math : Cond.initialized "java/lang/Math" ∈ wsX3_farthestThree := by decide +kernel
theorem hw_X3_farthestThree_max2 : Cond.code Lib.Math.max.name Lib.Math.max.code 2 (some .int) ∈ wsX3_farthestThree := by decide +kernel
theorem hi_X3_farthestThree_X3 : ∀ x ∈ u_ws RX3 TX3 7, x ∈ wsX3_farthestThree := by decide +kernel
set_option maxRecDepth 100000 in
set_option maxHeartbeats 4000000 in
theorem kX3_farthestThree (l : Launch) (ad : Nat → Nat) (M : Mem)  (T : Int) (h : fX3_farthestThree M  = some T) : MX l yX3_farthestThree wsX3_farthestThree rmX3_farthestThree wC ad [.ref (ad 25)] M (some (iV (T))) M := by
  refine MX.of (cc := cX3_farthestThree) (nL := 5) (rt := (some .int)) (own := RX3) (by decide +kernel) rfl rfl (Nat.le_of_ble_eq_true rfl) wC_ok (fun G cx => ?_)
  show G M 0 [(0, .ref (ad 25))] []
  have L29 : ∀ (n : Nat) (x1 : Int) (x2 : Int) (x3 : Int) (x4 : Int) (T18 : Int), fX3_farthestThree_L29 n M x1 x2 x3 x4 = some T18 → (G M 71 [(0, .ref (ad 25)), (1, iV (T18)), (2, iV (x2)), (3, iV (x3))] []) → G M 29 [(0, .ref (ad 25)), (1, iV (x1)), (2, iV (x2)), (3, iV (x3)), (4, iV (x4))] [] := by
    intro n
    induction n with
    | zero =>
      intro x1 x2 x3 x4 T18 h
      exact absurd h (by simp [fX3_farthestThree_L29])
    | succ n ih =>
      intro x1 x2 x3 x4 T18 h hJ
      rw [fX3_farthestThree_L29] at h
      refine ax_iload cx 4 dX3_farthestThree_29 rfl ?_
      refine ax_aload_n cx 0 dX3_farthestThree_31 rfl rfl ?_
      refine ax_getf (q := 25) (ci := 3) (k := 1) (v := iV (M 102 0)) cx ⟨by decide, by decide⟩ rfl rfl hi_X3_farthestThree_X3 (by decide) hl_X3_farthestThree_15 rfl rfl dX3_farthestThree_32 ?_
      obtain ⟨g7, h⟩ := gd_some h
      obtain ⟨g8, h⟩ := gd_some h
      refine ax_icmp_ge cx 71 dX3_farthestThree_35 (by decide) g7 g8 (fun c9 => ?_) (fun c9 => ?_)
      · rw [if_pos c9] at h
        refine ax_lv cx [0, 1, 2, 3] rfl ?_
        cases h
        exact hJ
      · rw [if_neg c9] at h
        refine ax_iload_n cx 1 dX3_farthestThree_38 rfl rfl ?_
        refine ax_aload_n cx 0 dX3_farthestThree_39 rfl rfl ?_
        refine ax_iload_n cx 2 dX3_farthestThree_40 rfl rfl ?_
        refine ax_iload_n cx 3 dX3_farthestThree_41 rfl rfl ?_
        obtain ⟨t10, e11, h⟩ := ob h
        refine ax_callV (As := [iV (x2), iV (x3)]) (q := 25) (ci := 3) (n := 2) cx (kX3_between l ad M x2 x3 _ e11) gX3_farthestThree_X3_between rfl ⟨by decide, by decide⟩ rfl rfl ⟨rfl, rfl⟩ (by decide +kernel) rfl ⟨by decide, by decide⟩ rfl (Nat.le_of_ble_eq_true rfl) dX3_farthestThree_42 ?_
        refine ax_aload_n cx 0 dX3_farthestThree_45 rfl rfl ?_
        refine ax_iload_n cx 2 dX3_farthestThree_46 rfl rfl ?_
        refine ax_iload cx 4 dX3_farthestThree_47 rfl ?_
        obtain ⟨t12, e13, h⟩ := ob h
        refine ax_callV (As := [iV (x2), iV (x4)]) (q := 25) (ci := 3) (n := 2) cx (kX3_between l ad M x2 x4 _ e13) gX3_farthestThree_X3_between rfl ⟨by decide, by decide⟩ rfl rfl ⟨rfl, rfl⟩ (by decide +kernel) rfl ⟨by decide, by decide⟩ rfl (Nat.le_of_ble_eq_true rfl) dX3_farthestThree_49 ?_
        refine ax_iadd cx dX3_farthestThree_52 ?_
        refine ax_aload_n cx 0 dX3_farthestThree_53 rfl rfl ?_
        refine ax_iload_n cx 3 dX3_farthestThree_54 rfl rfl ?_
        refine ax_iload cx 4 dX3_farthestThree_55 rfl ?_
        obtain ⟨t14, e15, h⟩ := ob h
        refine ax_callV (As := [iV (x3), iV (x4)]) (q := 25) (ci := 3) (n := 2) cx (kX3_between l ad M x3 x4 _ e15) gX3_farthestThree_X3_between rfl ⟨by decide, by decide⟩ rfl rfl ⟨rfl, rfl⟩ (by decide +kernel) rfl ⟨by decide, by decide⟩ rfl (Nat.le_of_ble_eq_true rfl) dX3_farthestThree_57 ?_
        refine ax_iadd cx dX3_farthestThree_60 ?_
        obtain ⟨g16, h⟩ := gd_some h
        obtain ⟨g17, h⟩ := gd_some h
        refine ax_max cx g16 g17 hw_X3_farthestThree_l100 hw_X3_farthestThree_max1 hw_X3_farthestThree_math hw_X3_farthestThree_max2 (by decide) (Nat.le_of_ble_eq_true rfl) dX3_farthestThree_61 ?_
        refine ax_istore_n (lv' := [(1, iV (if x1 < (t10 + t12) + t14 then (t10 + t12) + t14 else x1)), (0, .ref (ad 25)), (2, iV (x2)), (3, iV (x3)), (4, iV (x4))]) cx dX3_farthestThree_64 rfl (by decide) rfl ?_
        refine ax_iinc (lv' := [(4, iV (x4 + 1)), (1, iV (if x1 < (t10 + t12) + t14 then (t10 + t12) + t14 else x1)), (0, .ref (ad 25)), (2, iV (x2)), (3, iV (x3))]) cx 4 dX3_farthestThree_65 rfl (by decide) rfl ?_
        refine ax_goto cx 29 dX3_farthestThree_68 (by decide) ?_
        refine ax_lv cx [2, 1, 3, 4, 0] rfl ?_
        exact ih _ _ _ _ _ h hJ
  have L16 : ∀ (n : Nat) (x1 : Int) (x2 : Int) (x3 : Int) (T22 : Int), fX3_farthestThree_L16 n M x1 x2 x3 = some T22 → (G M 77 [(0, .ref (ad 25)), (1, iV (T22)), (2, iV (x2))] []) → G M 16 [(0, .ref (ad 25)), (1, iV (x1)), (2, iV (x2)), (3, iV (x3))] [] := by
    intro n
    induction n with
    | zero =>
      intro x1 x2 x3 T22 h
      exact absurd h (by simp [fX3_farthestThree_L16])
    | succ n ih =>
      intro x1 x2 x3 T22 h hJ
      rw [fX3_farthestThree_L16] at h
      refine ax_iload_n cx 3 dX3_farthestThree_16 rfl rfl ?_
      refine ax_aload_n cx 0 dX3_farthestThree_17 rfl rfl ?_
      refine ax_getf (q := 25) (ci := 3) (k := 1) (v := iV (M 102 0)) cx ⟨by decide, by decide⟩ rfl rfl hi_X3_farthestThree_X3 (by decide) hl_X3_farthestThree_15 rfl rfl dX3_farthestThree_18 ?_
      obtain ⟨g4, h⟩ := gd_some h
      obtain ⟨g5, h⟩ := gd_some h
      refine ax_icmp_ge cx 77 dX3_farthestThree_21 (by decide) g4 g5 (fun c6 => ?_) (fun c6 => ?_)
      · rw [if_pos c6] at h
        refine ax_lv cx [0, 1, 2] rfl ?_
        cases h
        exact hJ
      · rw [if_neg c6] at h
        refine ax_iload_n cx 3 dX3_farthestThree_24 rfl rfl ?_
        refine ax_iconst cx dX3_farthestThree_25 ?_
        refine ax_iadd cx dX3_farthestThree_26 ?_
        refine ax_istore (lv' := [(4, iV (x3 + 1)), (0, .ref (ad 25)), (1, iV (x1)), (2, iV (x2)), (3, iV (x3))]) cx dX3_farthestThree_27 (by decide) rfl ?_
        obtain ⟨t19, e20, h⟩ := ob h
        refine ax_lv cx [1, 2, 3, 4, 0] rfl ?_
        have J21 : G M 71 [(0, .ref (ad 25)), (1, iV (t19)), (2, iV (x2)), (3, iV (x3))] [] := by
          refine ax_iinc (lv' := [(3, iV (x3 + 1)), (0, .ref (ad 25)), (1, iV (t19)), (2, iV (x2))]) cx 3 dX3_farthestThree_71 rfl (by decide) rfl ?_
          refine ax_goto cx 16 dX3_farthestThree_74 (by decide) ?_
          refine ax_lv cx [1, 2, 3, 0] rfl ?_
          exact ih _ _ _ _ h hJ
        exact L29 FU x1 x2 x3 (x3 + 1) _ e20 J21
  have L4 : ∀ (n : Nat) (x1 : Int) (x2 : Int) (T26 : Int), fX3_farthestThree_L4 n M x1 x2 = some T26 → (G M 83 [(1, iV (T26))] []) → G M 4 [(0, .ref (ad 25)), (1, iV (x1)), (2, iV (x2))] [] := by
    intro n
    induction n with
    | zero =>
      intro x1 x2 T26 h
      exact absurd h (by simp [fX3_farthestThree_L4])
    | succ n ih =>
      intro x1 x2 T26 h hJ
      rw [fX3_farthestThree_L4] at h
      refine ax_iload_n cx 2 dX3_farthestThree_4 rfl rfl ?_
      refine ax_aload_n cx 0 dX3_farthestThree_5 rfl rfl ?_
      refine ax_getf (q := 25) (ci := 3) (k := 1) (v := iV (M 102 0)) cx ⟨by decide, by decide⟩ rfl rfl hi_X3_farthestThree_X3 (by decide) hl_X3_farthestThree_15 rfl rfl dX3_farthestThree_6 ?_
      obtain ⟨g1, h⟩ := gd_some h
      obtain ⟨g2, h⟩ := gd_some h
      refine ax_icmp_ge cx 83 dX3_farthestThree_9 (by decide) g1 g2 (fun c3 => ?_) (fun c3 => ?_)
      · rw [if_pos c3] at h
        refine ax_lv cx [1] rfl ?_
        cases h
        exact hJ
      · rw [if_neg c3] at h
        refine ax_iload_n cx 2 dX3_farthestThree_12 rfl rfl ?_
        refine ax_iconst cx dX3_farthestThree_13 ?_
        refine ax_iadd cx dX3_farthestThree_14 ?_
        refine ax_istore_n (lv' := [(3, iV (x2 + 1)), (0, .ref (ad 25)), (1, iV (x1)), (2, iV (x2))]) cx dX3_farthestThree_15 rfl (by decide) rfl ?_
        obtain ⟨t23, e24, h⟩ := ob h
        refine ax_lv cx [1, 2, 3, 0] rfl ?_
        have J25 : G M 77 [(0, .ref (ad 25)), (1, iV (t23)), (2, iV (x2))] [] := by
          refine ax_iinc (lv' := [(2, iV (x2 + 1)), (0, .ref (ad 25)), (1, iV (t23))]) cx 2 dX3_farthestThree_77 rfl (by decide) rfl ?_
          refine ax_goto cx 4 dX3_farthestThree_80 (by decide) ?_
          refine ax_lv cx [1, 2, 0] rfl ?_
          exact ih _ _ _ h hJ
        exact L16 FU x1 x2 (x2 + 1) _ e24 J25
  unfold fX3_farthestThree at h
  refine ax_iconst cx dX3_farthestThree_0 ?_
  refine ax_istore_n (lv' := [(1, iV (0)), (0, .ref (ad 25))]) cx dX3_farthestThree_1 rfl (by decide) rfl ?_
  refine ax_iconst cx dX3_farthestThree_2 ?_
  refine ax_istore_n (lv' := [(2, iV (0)), (1, iV (0)), (0, .ref (ad 25))]) cx dX3_farthestThree_3 rfl (by decide) rfl ?_
  obtain ⟨t27, e28, h⟩ := ob h
  refine ax_lv cx [2, 1, 0] rfl ?_
  have J29 : G M 83 [(1, iV (t27))] [] := by
    refine ax_iload_n cx 0 dX3_farthestThree_83 rfl rfl ?_
    cases h
    exact ax_iret cx dX3_farthestThree_84 rfl ⟨rfl, rfl⟩
  exact L4 FU 0 0 _ e28 J29
def fX3_lowerBound (M : Mem)  : Option (Int × Mem) :=
    gd (inR (M 102 0)) (
    if 2 ≤ M 102 0 then (
      Option.bind (fX3_measureTowns M) (fun t3 =>
      Option.bind (fX3_cheapestPairs t3) (fun t5 =>
      Option.bind (fX3_halfUp t5.2 t5.1) (fun t7 =>
      Option.bind (fX3_farthestPair t5.2) (fun t9 =>
      Option.bind (fX3_farthestThree t5.2) (fun t11 =>
      Option.bind (fX3_halfUp t5.2 t11) (fun t13 =>
      gd (inR (t9)) (
      gd (inR (t13)) (
      gd (inR (t7)) (
      gd (inR (if t9 < t13 then t13 else t9)) (
      some (if t7 < if t9 < t13 then t13 else t9 then if t9 < t13 then t13 else t9 else t7, t5.2))))))))))))
    else (
      some (0, M)))
abbrev rmX3_lowerBound : Room := { frames := 4, cells := 0, slots := 0, locals := 97 }
theorem hl_X3_lowerBound_15 : Cond.fieldLink RX3 15 "PlateauBench$Nets" "count" "I" ∈ wsX3_lowerBound := by decide +kernel
theorem hw_X3_lowerBound_l100 : Cond.methodLink RX3 100 Lib.Math.max.name ∈ wsX3_lowerBound := by decide +kernel
theorem hw_X3_lowerBound_max1 : Cond.static Lib.Math.max.name ∈ wsX3_lowerBound := by decide +kernel
theorem hw_X3_lowerBound_math : Cond.initialized "java/lang/Math" ∈ wsX3_lowerBound := by decide +kernel
theorem hw_X3_lowerBound_max2 : Cond.code Lib.Math.max.name Lib.Math.max.code 2 (some .int) ∈ wsX3_lowerBound := by decide +kernel
theorem hi_X3_lowerBound_X3 : ∀ x ∈ u_ws RX3 TX3 7, x ∈ wsX3_lowerBound := by decide +kernel
set_option maxRecDepth 100000 in
set_option maxHeartbeats 4000000 in
theorem kX3_lowerBound (l : Launch) (ad : Nat → Nat) (M : Mem)  (T : Int × Mem) (h : fX3_lowerBound M  = some T) : MX l yX3_lowerBound wsX3_lowerBound rmX3_lowerBound wC ad [.ref (ad 25), .ref (ad 23)] M (some (iV (T.1))) T.2 := by
  refine MX.of (cc := cX3_lowerBound) (nL := 2) (rt := (some .int)) (own := RX3) (by decide +kernel) rfl rfl (Nat.le_of_ble_eq_true rfl) wC_ok (fun G cx => ?_)
  show G M 0 [(0, .ref (ad 25)), (1, .ref (ad 23))] []
  unfold fX3_lowerBound at h
  refine ax_aload_n cx 0 dX3_lowerBound_0 rfl rfl ?_
  refine ax_getf (q := 25) (ci := 3) (k := 1) (v := iV (M 102 0)) cx ⟨by decide, by decide⟩ rfl rfl hi_X3_lowerBound_X3 (by decide) hl_X3_lowerBound_15 rfl rfl dX3_lowerBound_1 ?_
  refine ax_iconst cx dX3_lowerBound_4 ?_
  obtain ⟨g1, h⟩ := gd_some h
  refine ax_icmp_ge cx 10 dX3_lowerBound_5 (by decide) g1 ⟨by decide, by decide⟩ (fun c2 => ?_) (fun c2 => ?_)
  · rw [if_pos c2] at h
    refine ax_aload_n cx 0 dX3_lowerBound_10 rfl rfl ?_
    refine ax_aload_n cx 1 dX3_lowerBound_11 rfl rfl ?_
    obtain ⟨t3, e4, h⟩ := ob h
    refine ax_callV (As := [.ref (ad 23)]) (q := 25) (ci := 3) (n := 1) cx (kX3_measureTowns l ad M  _ e4) gX3_lowerBound_X3_measureTowns rfl ⟨by decide, by decide⟩ rfl rfl ⟨rfl, rfl⟩ (by decide +kernel) rfl ⟨by decide, by decide⟩ rfl (Nat.le_of_ble_eq_true rfl) dX3_lowerBound_12 ?_
    refine ax_aload_n cx 0 dX3_lowerBound_15 rfl rfl ?_
    obtain ⟨t5, e6, h⟩ := ob h
    refine ax_callV (As := []) (q := 25) (ci := 3) (n := 0) cx (kX3_cheapestPairs l ad t3  _ e6) gX3_lowerBound_X3_cheapestPairs rfl ⟨by decide, by decide⟩ rfl rfl ⟨rfl, rfl⟩ (by decide +kernel) rfl ⟨by decide, by decide⟩ rfl (Nat.le_of_ble_eq_true rfl) dX3_lowerBound_16 ?_
    obtain ⟨t7, e8, h⟩ := ob h
    refine ax_callS (As := [iV (t5.1)]) (n := 1) cx (kX3_halfUp l ad t5.2 t5.1 _ e8) gX3_lowerBound_X3_halfUp rfl ⟨rfl, rfl⟩ (by decide +kernel) rfl ⟨by decide, by decide⟩ rfl (Nat.le_of_ble_eq_true rfl) dX3_lowerBound_19 ?_
    refine ax_aload_n cx 0 dX3_lowerBound_22 rfl rfl ?_
    obtain ⟨t9, e10, h⟩ := ob h
    refine ax_callV (As := []) (q := 25) (ci := 3) (n := 0) cx (kX3_farthestPair l ad t5.2  _ e10) gX3_lowerBound_X3_farthestPair rfl ⟨by decide, by decide⟩ rfl rfl ⟨rfl, rfl⟩ (by decide +kernel) rfl ⟨by decide, by decide⟩ rfl (Nat.le_of_ble_eq_true rfl) dX3_lowerBound_23 ?_
    refine ax_aload_n cx 0 dX3_lowerBound_26 rfl rfl ?_
    obtain ⟨t11, e12, h⟩ := ob h
    refine ax_callV (As := []) (q := 25) (ci := 3) (n := 0) cx (kX3_farthestThree l ad t5.2  _ e12) gX3_lowerBound_X3_farthestThree rfl ⟨by decide, by decide⟩ rfl rfl ⟨rfl, rfl⟩ (by decide +kernel) rfl ⟨by decide, by decide⟩ rfl (Nat.le_of_ble_eq_true rfl) dX3_lowerBound_27 ?_
    obtain ⟨t13, e14, h⟩ := ob h
    refine ax_callS (As := [iV (t11)]) (n := 1) cx (kX3_halfUp l ad t5.2 t11 _ e14) gX3_lowerBound_X3_halfUp rfl ⟨rfl, rfl⟩ (by decide +kernel) rfl ⟨by decide, by decide⟩ rfl (Nat.le_of_ble_eq_true rfl) dX3_lowerBound_30 ?_
    obtain ⟨g15, h⟩ := gd_some h
    obtain ⟨g16, h⟩ := gd_some h
    refine ax_max cx g15 g16 hw_X3_lowerBound_l100 hw_X3_lowerBound_max1 hw_X3_lowerBound_math hw_X3_lowerBound_max2 (by decide) (Nat.le_of_ble_eq_true rfl) dX3_lowerBound_33 ?_
    obtain ⟨g17, h⟩ := gd_some h
    obtain ⟨g18, h⟩ := gd_some h
    refine ax_max cx g17 g18 hw_X3_lowerBound_l100 hw_X3_lowerBound_max1 hw_X3_lowerBound_math hw_X3_lowerBound_max2 (by decide) (Nat.le_of_ble_eq_true rfl) dX3_lowerBound_36 ?_
    cases h
    exact ax_iret cx dX3_lowerBound_39 rfl ⟨rfl, rfl⟩
  · rw [if_neg c2] at h
    refine ax_iconst cx dX3_lowerBound_8 ?_
    cases h
    exact ax_iret cx dX3_lowerBound_9 rfl ⟨rfl, rfl⟩
