def fX0_change (M : Mem) (x1 : Int) (x2 : Int) : Option (Int × Mem) :=
    gd (inB (x1) 36) (
    gd (inB (x1) 36) (
    some (M 12 x1.toNat, (wr M 12 x1.toNat x2))))
abbrev rmX0_change : Room := { frames := 0, cells := 0, slots := 0, locals := 0 }
theorem hl_X0_change_9 : Cond.fieldLink RX0 9 "PlateauBench$Films" "pinned" "[I" ∈ wsX0_change := by decide +kernel
theorem hi_X0_change_X0 : ∀ x ∈ u_ws RX0 TX0 4, x ∈ wsX0_change := by decide +kernel
set_option maxRecDepth 100000 in
set_option maxHeartbeats 4000000 in
theorem kX0_change (l : Launch) (ad : Nat → Nat) (M : Mem) (x1 : Int) (x2 : Int) (T : Int × Mem) (h : fX0_change M x1 x2 = some T) : MX l yX0_change wsX0_change rmX0_change wC ad [.ref (ad 26), iV (x1), iV (x2)] M (some (iV (T.1))) T.2 := by
  refine MX.of (cc := cX0_change) (nL := 4) (rt := (some .int)) (own := RX0) (by decide +kernel) rfl rfl (Nat.le_of_ble_eq_true rfl) wC_ok (fun G cx => ?_)
  show G M 0 [(0, .ref (ad 26)), (1, iV (x1)), (2, iV (x2))] []
  unfold fX0_change at h
  refine ax_aload_n cx 0 dX0_change_0 rfl rfl ?_
  refine ax_getf (q := 26) (ci := 0) (k := 0) (v := .ref (ad 12)) cx ⟨by decide, by decide⟩ rfl rfl hi_X0_change_X0 (by decide) hl_X0_change_9 rfl rfl dX0_change_1 ?_
  refine ax_iload_n cx 1 dX0_change_4 rfl rfl ?_
  obtain ⟨g1, h⟩ := gd_some h
  refine ax_iald (n := 36) cx (by decide) rfl rfl g1 dX0_change_5 ?_
  refine ax_istore_n (lv' := [(3, iV (M 12 x1.toNat)), (0, .ref (ad 26)), (1, iV (x1)), (2, iV (x2))]) cx dX0_change_6 rfl (by decide) rfl ?_
  refine ax_aload_n cx 1 dX0_change_7 rfl rfl ?_
  refine ax_getf (q := 26) (ci := 0) (k := 0) (v := .ref (ad 12)) cx ⟨by decide, by decide⟩ rfl rfl hi_X0_change_X0 (by decide) hl_X0_change_9 rfl rfl dX0_change_8 ?_
  refine ax_iload_n cx 2 dX0_change_11 rfl rfl ?_
  refine ax_iload_n cx 3 dX0_change_12 rfl rfl ?_
  obtain ⟨g2, h⟩ := gd_some h
  refine ax_iast (n := 36) cx (by decide) rfl rfl g2 dX0_change_13 ?_
  refine ax_iload_n cx 0 dX0_change_14 rfl rfl ?_
  cases h
  exact ax_iret cx dX0_change_15 rfl ⟨rfl, rfl⟩
def fX0_has (M : Mem) (x0 : Int64) (x2 : Int) : Option (Int) :=
    Option.bind (if zlcmp ((llushr x0 x2) &&& 1) 0 = 0 then (
      some (0))
    else (
      some (1))) (fun t2 =>
    gd (t2 = 0 ∨ t2 = 1) (
    some (t2)))
abbrev rmX0_has : Room := { frames := 0, cells := 0, slots := 0, locals := 0 }
set_option maxRecDepth 100000 in
set_option maxHeartbeats 4000000 in
theorem kX0_has (l : Launch) (ad : Nat → Nat) (M : Mem) (x0 : Int64) (x2 : Int) (T : Int) (h : fX0_has M x0 x2 = some T) : MX l yX0_has wsX0_has rmX0_has wC ad [.long (x0), iV (x2)] M (some (iV (T))) M := by
  refine MX.of (cc := cX0_has) (nL := 3) (rt := (some .boolean)) (own := RX0) (by decide +kernel) rfl rfl (Nat.le_of_ble_eq_true rfl) wC_ok (fun G cx => ?_)
  show G M 0 [(0, .long (x0)), (2, iV (x2))] []
  unfold fX0_has at h
  refine ax_lload_n cx 0 dX0_has_0 rfl rfl ?_
  refine ax_iload_n cx 1 dX0_has_1 rfl rfl ?_
  refine ax_lushr cx dX0_has_2 ?_
  refine ax_lconst (v := 1) cx dX0_has_3 rfl ?_
  refine ax_land cx dX0_has_4 ?_
  refine ax_lconst (v := 0) cx dX0_has_5 rfl ?_
  refine ax_lcmp cx dX0_has_6 ?_
  obtain ⟨t2, e4, h⟩ := ob h
  have J3 : G M 15 [] [iV (t2)] := by
    obtain ⟨g5, h⟩ := gd_some h
    cases h
    exact ax_zret cx dX0_has_15 rfl g5 ⟨rfl, rfl⟩
  clear h
  have h := e4
  clear e4
  refine ax_if_eq cx 14 dX0_has_7 (by decide) (zlcmp_R _ _) (fun c1 => ?_) (fun c1 => ?_)
  · rw [if_pos c1] at h
    refine ax_iconst cx dX0_has_14 ?_
    refine ax_lv cx [] rfl ?_
    cases h
    exact J3
  · rw [if_neg c1] at h
    refine ax_iconst cx dX0_has_10 ?_
    refine ax_goto cx 15 dX0_has_11 (by decide) ?_
    refine ax_lv cx [] rfl ?_
    cases h
    exact J3
def fX0_isFilm_L2 : Nat → Mem → Int64 → Int → Option ((Int) ⊕ (Unit))
  | 0, _, _, _ => none
  | n + 1, M, x1, x3 =>
    gd (inR (x3)) (
    if 36 ≤ x3 then (
      some (.inr ()))
    else (
      gd (inB (x3) 36) (
      Option.bind (fX0_has M x1 x3) (fun t4 =>
      gd (inR (t4)) (
      Option.bind (if t4 = 0 then (
        some (1))
      else (
        some (2))) (fun t8 =>
      gd (inR (M 12 x3.toNat)) (
      gd (inR (t8)) (
      if M 12 x3.toNat = t8 then (
        some (.inl (0)))
      else (
        fX0_isFilm_L2 n M x1 (x3 + 1))))))))))
def fX0_isFilm (M : Mem) (x1 : Int64) : Option (Int) :=
    Option.bind (fX0_isFilm_L2 FU M x1 0) (fun t15 => t15.elim (fun rr => some rr) (fun o17 =>
    some (1)))
abbrev rmX0_isFilm : Room := { frames := 1, cells := 0, slots := 0, locals := 22 }
theorem hl_X0_isFilm_9 : Cond.fieldLink RX0 9 "PlateauBench$Films" "pinned" "[I" ∈ wsX0_isFilm := by decide +kernel
theorem hi_X0_isFilm_X0 : ∀ x ∈ u_ws RX0 TX0 4, x ∈ wsX0_isFilm := by decide +kernel
set_option maxRecDepth 100000 in
set_option maxHeartbeats 4000000 in
theorem kX0_isFilm (l : Launch) (ad : Nat → Nat) (M : Mem) (x1 : Int64) (T : Int) (h : fX0_isFilm M x1 = some T) : MX l yX0_isFilm wsX0_isFilm rmX0_isFilm wC ad [.ref (ad 26), .long (x1)] M (some (iV (T))) M := by
  refine MX.of (cc := cX0_isFilm) (nL := 4) (rt := (some .boolean)) (own := RX0) (by decide +kernel) rfl rfl (Nat.le_of_ble_eq_true rfl) wC_ok (fun G cx => ?_)
  show G M 0 [(0, .ref (ad 26)), (1, .long (x1))] []
  have L2 : ∀ (n : Nat) (x1 : Int64) (x3 : Int) (T14 : (Int) ⊕ (Unit)), fX0_isFilm_L2 n M x1 x3 = some T14 → (∀ rr, T14 = .inl rr → ((some (iV (rr)) : Option Value) = (some (iV (T)) : Option Value)) ∧ (M = M)) → (∀ T14o, T14 = .inr T14o → G M 38 [] []) → G M 2 [(0, .ref (ad 26)), (1, .long (x1)), (3, iV (x3))] [] := by
    intro n
    induction n with
    | zero =>
      intro x1 x3 T14 h
      exact absurd h (by simp [fX0_isFilm_L2])
    | succ n ih =>
      intro x1 x3 T14 h hR hJ
      rw [fX0_isFilm_L2] at h
      refine ax_iload_n cx 2 dX0_isFilm_2 rfl rfl ?_
      refine ax_bipush (z := 36) cx dX0_isFilm_3 (by decide) ?_
      obtain ⟨g1, h⟩ := gd_some h
      refine ax_icmp_ge cx 38 dX0_isFilm_5 (by decide) g1 ⟨by decide, by decide⟩ (fun c2 => ?_) (fun c2 => ?_)
      · rw [if_pos c2] at h
        refine ax_lv cx [] rfl ?_
        cases h
        exact hJ _ rfl
      · rw [if_neg c2] at h
        refine ax_aload_n cx 0 dX0_isFilm_8 rfl rfl ?_
        refine ax_getf (q := 26) (ci := 0) (k := 0) (v := .ref (ad 12)) cx ⟨by decide, by decide⟩ rfl rfl hi_X0_isFilm_X0 (by decide) hl_X0_isFilm_9 rfl rfl dX0_isFilm_9 ?_
        refine ax_iload_n cx 2 dX0_isFilm_12 rfl rfl ?_
        obtain ⟨g3, h⟩ := gd_some h
        refine ax_iald (n := 36) cx (by decide) rfl rfl g3 dX0_isFilm_13 ?_
        refine ax_lload_n cx 1 dX0_isFilm_14 rfl rfl ?_
        refine ax_iload_n cx 2 dX0_isFilm_15 rfl rfl ?_
        obtain ⟨t4, e5, h⟩ := ob h
        refine ax_callS (As := [.long (x1), iV (x3)]) (n := 2) cx (kX0_has l ad M x1 x3 _ e5) gX0_isFilm_X0_has rfl ⟨rfl, rfl⟩ (by decide +kernel) rfl ⟨by decide, by decide⟩ rfl (Nat.le_of_ble_eq_true rfl) dX0_isFilm_16 ?_
        obtain ⟨g6, h⟩ := gd_some h
        obtain ⟨t8, e10, h⟩ := ob h
        have J9 : G M 27 [(0, .ref (ad 26)), (1, .long (x1)), (3, iV (x3))] [iV (t8), iV (M 12 x3.toNat)] := by
          obtain ⟨g11, h⟩ := gd_some h
          obtain ⟨g12, h⟩ := gd_some h
          refine ax_icmp_ne cx 32 dX0_isFilm_27 (by decide) g11 g12 (fun c13 => ?_) (fun c13 => ?_)
          · rw [if_pos c13] at h
            refine ax_iconst cx dX0_isFilm_30 ?_
            cases h
            exact ax_zret cx dX0_isFilm_31 rfl (Or.inl rfl) (hR _ rfl)
          · rw [if_neg c13] at h
            refine ax_iinc (lv' := [(3, iV (x3 + 1)), (0, .ref (ad 26)), (1, .long (x1))]) cx 2 dX0_isFilm_32 rfl (by decide) rfl ?_
            refine ax_goto cx 2 dX0_isFilm_35 (by decide) ?_
            refine ax_lv cx [1, 2, 0] rfl ?_
            exact ih _ _ _ h hR hJ
        clear h
        have h := e10
        clear e10
        refine ax_if_eq cx 26 dX0_isFilm_19 (by decide) g6 (fun c7 => ?_) (fun c7 => ?_)
        · rw [if_pos c7] at h
          refine ax_iconst cx dX0_isFilm_26 ?_
          cases h
          exact J9
        · rw [if_neg c7] at h
          refine ax_iconst cx dX0_isFilm_22 ?_
          refine ax_goto cx 27 dX0_isFilm_23 (by decide) ?_
          cases h
          exact J9
  unfold fX0_isFilm at h
  refine ax_iconst cx dX0_isFilm_0 ?_
  refine ax_istore_n (lv' := [(3, iV (0)), (0, .ref (ad 26)), (1, .long (x1))]) cx dX0_isFilm_1 rfl (by decide) rfl ?_
  obtain ⟨t15, e16, h⟩ := ob h
  refine ax_lv cx [1, 2, 0] rfl ?_
  cases t15 with
  | inl rr =>
    exact L2 FU x1 0 _ e16 (fun r2 e2 => by cases e2; cases h; exact ⟨rfl, rfl⟩) (fun o2 e2 => by cases e2)
  | inr o17 =>
    refine L2 FU x1 0 _ e16 (fun r2 e2 => by cases e2) (fun o2 e2 => ?_)
    cases e2
    refine ax_iconst cx dX0_isFilm_38 ?_
    cases h
    exact ax_zret cx dX0_isFilm_39 rfl (Or.inr rfl) ⟨rfl, rfl⟩
def fX0_priceOf_L6 : Nat → Mem → Int64 → Int → Int → Option (Int)
  | 0, _, _, _, _ => none
  | n + 1, M, x2, x4, x5 =>
    gd (inR (x5)) (
    if 60 ≤ x5 then (
      some (x4))
    else (
      Option.bind (fX2_low M x5) (fun t3 =>
      Option.bind (fX0_has M x2 t3) (fun t5 =>
      Option.bind (fX2_high M x5) (fun t7 =>
      Option.bind (fX0_has M x2 t7) (fun t9 =>
      gd (inR (t5)) (
      gd (inR (t9)) (
      Option.bind (if t5 = t9 then (
        some (x4))
      else (
        Option.bind (fX2_price M x5) (fun t14 =>
        some (x4 + t14)))) (fun t16 =>
      fX0_priceOf_L6 n M x2 t16 (x5 + 1))))))))))
def fX0_priceOf (M : Mem) (x2 : Int64) : Option (Int) :=
    Option.bind (fX0_priceOf_L6 FU M x2 0 0) (fun t20 =>
    some (t20))
abbrev rmX0_priceOf : Room := { frames := 1, cells := 0, slots := 0, locals := 22 }
set_option maxRecDepth 100000 in
set_option maxHeartbeats 4000000 in
theorem kX0_priceOf (l : Launch) (ad : Nat → Nat) (M : Mem) (x2 : Int64) (T : Int) (h : fX0_priceOf M x2 = some T) : MX l yX0_priceOf wsX0_priceOf rmX0_priceOf wC ad [.ref (ad 26), .ref (ad 23), .long (x2)] M (some (iV (T))) M := by
  refine MX.of (cc := cX0_priceOf) (nL := 6) (rt := (some .int)) (own := RX0) (by decide +kernel) rfl rfl (Nat.le_of_ble_eq_true rfl) wC_ok (fun G cx => ?_)
  show G M 0 [(0, .ref (ad 26)), (1, .ref (ad 23)), (2, .long (x2))] []
  have L6 : ∀ (n : Nat) (x2 : Int64) (x4 : Int) (x5 : Int) (T19 : Int), fX0_priceOf_L6 n M x2 x4 x5 = some T19 → (G M 53 [(4, iV (T19))] []) → G M 6 [(1, .ref (ad 23)), (2, .long (x2)), (4, iV (x4)), (5, iV (x5))] [] := by
    intro n
    induction n with
    | zero =>
      intro x2 x4 x5 T19 h
      exact absurd h (by simp [fX0_priceOf_L6])
    | succ n ih =>
      intro x2 x4 x5 T19 h hJ
      rw [fX0_priceOf_L6] at h
      refine ax_iload cx 3 dX0_priceOf_6 rfl ?_
      refine ax_bipush (z := 60) cx dX0_priceOf_8 (by decide) ?_
      obtain ⟨g1, h⟩ := gd_some h
      refine ax_icmp_ge cx 53 dX0_priceOf_10 (by decide) g1 ⟨by decide, by decide⟩ (fun c2 => ?_) (fun c2 => ?_)
      · rw [if_pos c2] at h
        refine ax_lv cx [2] rfl ?_
        cases h
        exact hJ
      · rw [if_neg c2] at h
        refine ax_lload_n cx 1 dX0_priceOf_13 rfl rfl ?_
        refine ax_aload_n cx 0 dX0_priceOf_14 rfl rfl ?_
        refine ax_iload cx 3 dX0_priceOf_15 rfl ?_
        obtain ⟨t3, e4, h⟩ := ob h
        refine ax_callV (As := [iV (x5)]) (q := 23) (ci := 2) (n := 1) cx (kX2_low l ad M x5 _ e4) gX0_priceOf_X2_low rfl ⟨by decide, by decide⟩ rfl rfl ⟨rfl, rfl⟩ (by decide +kernel) rfl ⟨by decide, by decide⟩ rfl (Nat.le_of_ble_eq_true rfl) dX0_priceOf_17 ?_
        obtain ⟨t5, e6, h⟩ := ob h
        refine ax_callS (As := [.long (x2), iV (t3)]) (n := 2) cx (kX0_has l ad M x2 t3 _ e6) gX0_priceOf_X0_has rfl ⟨rfl, rfl⟩ (by decide +kernel) rfl ⟨by decide, by decide⟩ rfl (Nat.le_of_ble_eq_true rfl) dX0_priceOf_20 ?_
        refine ax_lload_n cx 1 dX0_priceOf_23 rfl rfl ?_
        refine ax_aload_n cx 0 dX0_priceOf_24 rfl rfl ?_
        refine ax_iload cx 3 dX0_priceOf_25 rfl ?_
        obtain ⟨t7, e8, h⟩ := ob h
        refine ax_callV (As := [iV (x5)]) (q := 23) (ci := 2) (n := 1) cx (kX2_high l ad M x5 _ e8) gX0_priceOf_X2_high rfl ⟨by decide, by decide⟩ rfl rfl ⟨rfl, rfl⟩ (by decide +kernel) rfl ⟨by decide, by decide⟩ rfl (Nat.le_of_ble_eq_true rfl) dX0_priceOf_27 ?_
        obtain ⟨t9, e10, h⟩ := ob h
        refine ax_callS (As := [.long (x2), iV (t7)]) (n := 2) cx (kX0_has l ad M x2 t7 _ e10) gX0_priceOf_X0_has rfl ⟨rfl, rfl⟩ (by decide +kernel) rfl ⟨by decide, by decide⟩ rfl (Nat.le_of_ble_eq_true rfl) dX0_priceOf_30 ?_
        obtain ⟨g11, h⟩ := gd_some h
        obtain ⟨g12, h⟩ := gd_some h
        obtain ⟨t16, e18, h⟩ := ob h
        have J17 : G M 47 [(1, .ref (ad 23)), (2, .long (x2)), (4, iV (t16)), (5, iV (x5))] [] := by
          refine ax_iinc (lv' := [(5, iV (x5 + 1)), (1, .ref (ad 23)), (2, .long (x2)), (4, iV (t16))]) cx 3 dX0_priceOf_47 rfl (by decide) rfl ?_
          refine ax_goto cx 6 dX0_priceOf_50 (by decide) ?_
          refine ax_lv cx [1, 2, 3, 0] rfl ?_
          exact ih _ _ _ _ h hJ
        clear h
        have h := e18
        clear e18
        refine ax_icmp_eq cx 47 dX0_priceOf_33 (by decide) g11 g12 (fun c13 => ?_) (fun c13 => ?_)
        · rw [if_pos c13] at h
          cases h
          exact J17
        · rw [if_neg c13] at h
          refine ax_iload cx 2 dX0_priceOf_36 rfl ?_
          refine ax_aload_n cx 0 dX0_priceOf_38 rfl rfl ?_
          refine ax_iload cx 3 dX0_priceOf_39 rfl ?_
          obtain ⟨t14, e15, h⟩ := ob h
          refine ax_callV (As := [iV (x5)]) (q := 23) (ci := 2) (n := 1) cx (kX2_price l ad M x5 _ e15) gX0_priceOf_X2_price rfl ⟨by decide, by decide⟩ rfl rfl ⟨rfl, rfl⟩ (by decide +kernel) rfl ⟨by decide, by decide⟩ rfl (Nat.le_of_ble_eq_true rfl) dX0_priceOf_41 ?_
          refine ax_iadd cx dX0_priceOf_44 ?_
          refine ax_istore (lv' := [(4, iV (x4 + t14)), (1, .ref (ad 23)), (2, .long (x2)), (5, iV (x5))]) cx dX0_priceOf_45 (by decide) rfl ?_
          refine ax_lv cx [1, 2, 0, 3] rfl ?_
          cases h
          exact J17
  unfold fX0_priceOf at h
  refine ax_iconst cx dX0_priceOf_0 ?_
  refine ax_istore (lv' := [(4, iV (0)), (0, .ref (ad 26)), (1, .ref (ad 23)), (2, .long (x2))]) cx dX0_priceOf_1 (by decide) rfl ?_
  refine ax_iconst cx dX0_priceOf_3 ?_
  refine ax_istore (lv' := [(5, iV (0)), (4, iV (0)), (0, .ref (ad 26)), (1, .ref (ad 23)), (2, .long (x2))]) cx dX0_priceOf_4 (by decide) rfl ?_
  obtain ⟨t20, e21, h⟩ := ob h
  refine ax_lv cx [3, 4, 1, 0] rfl ?_
  have J22 : G M 53 [(4, iV (t20))] [] := by
    refine ax_iload cx 0 dX0_priceOf_53 rfl ?_
    cases h
    exact ax_iret cx dX0_priceOf_55 rfl ⟨rfl, rfl⟩
  exact L6 FU x2 0 0 _ e21 J22
def fX0_leftFrom (M : Mem) (x2 : Int) (x3 : Int) : Option (Int) :=
    Option.bind (fX2_price M x2) (fun t1 =>
    Option.bind (fX2_low M x2) (fun t3 =>
    gd (inR (x3)) (
    gd (inR (t3)) (
    Option.bind (if x3 = t3 then (
      gd (inB (x2) 60) (
      some (-(M 13 x2.toNat))))
    else (
      gd (inB (x2) 60) (
      some (M 13 x2.toNat)))) (fun t10 =>
    some (t1 + t10))))))
abbrev rmX0_leftFrom : Room := { frames := 1, cells := 0, slots := 0, locals := 21 }
theorem hl_X0_leftFrom_15 : Cond.fieldLink RX0 15 "PlateauBench$Films" "flow" "[I" ∈ wsX0_leftFrom := by decide +kernel
theorem hi_X0_leftFrom_X0 : ∀ x ∈ u_ws RX0 TX0 4, x ∈ wsX0_leftFrom := by decide +kernel
set_option maxRecDepth 100000 in
set_option maxHeartbeats 4000000 in
theorem kX0_leftFrom (l : Launch) (ad : Nat → Nat) (M : Mem) (x2 : Int) (x3 : Int) (T : Int) (h : fX0_leftFrom M x2 x3 = some T) : MX l yX0_leftFrom wsX0_leftFrom rmX0_leftFrom wC ad [.ref (ad 26), .ref (ad 23), iV (x2), iV (x3)] M (some (iV (T))) M := by
  refine MX.of (cc := cX0_leftFrom) (nL := 4) (rt := (some .int)) (own := RX0) (by decide +kernel) rfl rfl (Nat.le_of_ble_eq_true rfl) wC_ok (fun G cx => ?_)
  show G M 0 [(0, .ref (ad 26)), (1, .ref (ad 23)), (2, iV (x2)), (3, iV (x3))] []
  unfold fX0_leftFrom at h
  refine ax_aload_n cx 1 dX0_leftFrom_0 rfl rfl ?_
  refine ax_iload_n cx 2 dX0_leftFrom_1 rfl rfl ?_
  obtain ⟨t1, e2, h⟩ := ob h
  refine ax_callV (As := [iV (x2)]) (q := 23) (ci := 2) (n := 1) cx (kX2_price l ad M x2 _ e2) gX0_leftFrom_X2_price rfl ⟨by decide, by decide⟩ rfl rfl ⟨rfl, rfl⟩ (by decide +kernel) rfl ⟨by decide, by decide⟩ rfl (Nat.le_of_ble_eq_true rfl) dX0_leftFrom_2 ?_
  refine ax_iload_n cx 3 dX0_leftFrom_5 rfl rfl ?_
  refine ax_aload_n cx 1 dX0_leftFrom_6 rfl rfl ?_
  refine ax_iload_n cx 2 dX0_leftFrom_7 rfl rfl ?_
  obtain ⟨t3, e4, h⟩ := ob h
  refine ax_callV (As := [iV (x2)]) (q := 23) (ci := 2) (n := 1) cx (kX2_low l ad M x2 _ e4) gX0_leftFrom_X2_low rfl ⟨by decide, by decide⟩ rfl rfl ⟨rfl, rfl⟩ (by decide +kernel) rfl ⟨by decide, by decide⟩ rfl (Nat.le_of_ble_eq_true rfl) dX0_leftFrom_8 ?_
  obtain ⟨g5, h⟩ := gd_some h
  obtain ⟨g6, h⟩ := gd_some h
  obtain ⟨t10, e12, h⟩ := ob h
  have J11 : G M 30 [] [iV (t10), iV (t1)] := by
    refine ax_iadd cx dX0_leftFrom_30 ?_
    cases h
    exact ax_iret cx dX0_leftFrom_31 rfl ⟨rfl, rfl⟩
  clear h
  have h := e12
  clear e12
  refine ax_icmp_ne cx 24 dX0_leftFrom_11 (by decide) g5 g6 (fun c7 => ?_) (fun c7 => ?_)
  · rw [if_pos c7] at h
    refine ax_aload_n cx 0 dX0_leftFrom_14 rfl rfl ?_
    refine ax_getf (q := 26) (ci := 0) (k := 1) (v := .ref (ad 13)) cx ⟨by decide, by decide⟩ rfl rfl hi_X0_leftFrom_X0 (by decide) hl_X0_leftFrom_15 rfl rfl dX0_leftFrom_15 ?_
    refine ax_iload_n cx 2 dX0_leftFrom_18 rfl rfl ?_
    obtain ⟨g8, h⟩ := gd_some h
    refine ax_iald (n := 60) cx (by decide) rfl rfl g8 dX0_leftFrom_19 ?_
    refine ax_ineg cx dX0_leftFrom_20 ?_
    refine ax_goto cx 30 dX0_leftFrom_21 (by decide) ?_
    refine ax_lv cx [] rfl ?_
    cases h
    exact J11
  · rw [if_neg c7] at h
    refine ax_aload_n cx 0 dX0_leftFrom_24 rfl rfl ?_
    refine ax_getf (q := 26) (ci := 0) (k := 1) (v := .ref (ad 13)) cx ⟨by decide, by decide⟩ rfl rfl hi_X0_leftFrom_X0 (by decide) hl_X0_leftFrom_15 rfl rfl dX0_leftFrom_25 ?_
    refine ax_iload_n cx 2 dX0_leftFrom_28 rfl rfl ?_
    obtain ⟨g9, h⟩ := gd_some h
    refine ax_iald (n := 60) cx (by decide) rfl rfl g9 dX0_leftFrom_29 ?_
    refine ax_lv cx [] rfl ?_
    cases h
    exact J11
def fX0_searchBeside_L7 : Nat → Mem → Int → Int → Int → Int → Option (Int × Mem)
  | 0, _, _, _, _, _ => none
  | n + 1, M, x2, x3, x5, x6 =>
    gd (inR (x6)) (
    if 4 ≤ x6 then (
      some (x5, M))
    else (
      Option.bind (fX2_beside M x3 x6) (fun t3 =>
      gd (inR (t3)) (
      Option.bind (if t3 = (-1) then (
        some (x5, M))
      else (
        Option.bind (fX2_otherEnd M t3 x3) (fun t7 =>
        gd (inR (x2)) (
        Option.bind (if x2 = 1 then (
          some (x3))
        else (
          some (t7))) (fun t11 =>
        Option.bind (fX0_leftFrom M t3 t11) (fun t14 =>
        gd (inB (t7) 36) (
        gd (inR (M 14 t7.toNat)) (
        if M 14 t7.toNat = (-1) then (
          gd (inR (t14)) (
          if t14 ≤ 0 then (
            some (x5, M))
          else (
            gd (inR (x5)) (
            if 36 ≤ x5 then (
              some (x5, M))
            else (
              gd (inB (t7) 36) (
              gd (inB (x5) 36) (
              some (x5 + 1, (wr (wr M 14 t7.toNat t3) 15 x5.toNat t7)))))))))
        else (
          some (x5, M)))))))))) (fun t25 =>
      fX0_searchBeside_L7 n t25.2 x2 x3 t25.1 (x6 + 1))))))
def fX0_searchBeside (M : Mem) (x2 : Int) (x3 : Int) (x4 : Int) : Option (Int × Mem) :=
    Option.bind (fX0_searchBeside_L7 FU M x2 x3 x4 0) (fun t29 =>
    some (t29.1, t29.2))
abbrev rmX0_searchBeside : Room := { frames := 2, cells := 0, slots := 0, locals := 44 }
theorem hl_X0_searchBeside_18 : Cond.fieldLink RX0 18 "PlateauBench$Films" "cameBy" "[I" ∈ wsX0_searchBeside := by decide +kernel
theorem hl_X0_searchBeside_21 : Cond.fieldLink RX0 21 "PlateauBench$Films" "queue" "[I" ∈ wsX0_searchBeside := by decide +kernel
theorem hi_X0_searchBeside_X0 : ∀ x ∈ u_ws RX0 TX0 4, x ∈ wsX0_searchBeside := by decide +kernel
set_option maxRecDepth 100000 in
set_option maxHeartbeats 4000000 in
theorem kX0_searchBeside (l : Launch) (ad : Nat → Nat) (M : Mem) (x2 : Int) (x3 : Int) (x4 : Int) (T : Int × Mem) (h : fX0_searchBeside M x2 x3 x4 = some T) : MX l yX0_searchBeside wsX0_searchBeside rmX0_searchBeside wC ad [.ref (ad 26), .ref (ad 23), iV (x2), iV (x3), iV (x4)] M (some (iV (T.1))) T.2 := by
  refine MX.of (cc := cX0_searchBeside) (nL := 10) (rt := (some .int)) (own := RX0) (by decide +kernel) rfl rfl (Nat.le_of_ble_eq_true rfl) wC_ok (fun G cx => ?_)
  show G M 0 [(0, .ref (ad 26)), (1, .ref (ad 23)), (2, iV (x2)), (3, iV (x3)), (4, iV (x4))] []
  have L7 : ∀ (n : Nat) (M : Mem) (x2 : Int) (x3 : Int) (x5 : Int) (x6 : Int) (T28 : Int × Mem), fX0_searchBeside_L7 n M x2 x3 x5 x6 = some T28 → (G T28.2 107 [(5, iV (T28.1))] []) → G M 7 [(0, .ref (ad 26)), (1, .ref (ad 23)), (2, iV (x2)), (3, iV (x3)), (5, iV (x5)), (6, iV (x6))] [] := by
    intro n
    induction n with
    | zero =>
      intro M x2 x3 x5 x6 T28 h
      exact absurd h (by simp [fX0_searchBeside_L7])
    | succ n ih =>
      intro M x2 x3 x5 x6 T28 h hJ
      rw [fX0_searchBeside_L7] at h
      refine ax_iload cx 5 dX0_searchBeside_7 rfl ?_
      refine ax_iconst cx dX0_searchBeside_9 ?_
      obtain ⟨g1, h⟩ := gd_some h
      refine ax_icmp_ge cx 107 dX0_searchBeside_10 (by decide) g1 ⟨by decide, by decide⟩ (fun c2 => ?_) (fun c2 => ?_)
      · rw [if_pos c2] at h
        refine ax_lv cx [4] rfl ?_
        cases h
        exact hJ
      · rw [if_neg c2] at h
        refine ax_aload_n cx 1 dX0_searchBeside_13 rfl rfl ?_
        refine ax_iload_n cx 3 dX0_searchBeside_14 rfl rfl ?_
        refine ax_iload cx 5 dX0_searchBeside_15 rfl ?_
        obtain ⟨t3, e4, h⟩ := ob h
        refine ax_callV (As := [iV (x3), iV (x6)]) (q := 23) (ci := 2) (n := 2) cx (kX2_beside l ad M x3 x6 _ e4) gX0_searchBeside_X2_beside rfl ⟨by decide, by decide⟩ rfl rfl ⟨rfl, rfl⟩ (by decide +kernel) rfl ⟨by decide, by decide⟩ rfl (Nat.le_of_ble_eq_true rfl) dX0_searchBeside_17 ?_
        refine ax_istore (lv' := [(7, iV (t3)), (0, .ref (ad 26)), (1, .ref (ad 23)), (2, iV (x2)), (3, iV (x3)), (5, iV (x5)), (6, iV (x6))]) cx dX0_searchBeside_20 (by decide) rfl ?_
        refine ax_iload cx 0 dX0_searchBeside_22 rfl ?_
        refine ax_iconst cx dX0_searchBeside_24 ?_
        obtain ⟨g5, h⟩ := gd_some h
        obtain ⟨t25, e27, h⟩ := ob h
        have J26 : G t25.2 101 [(0, .ref (ad 26)), (1, .ref (ad 23)), (2, iV (x2)), (3, iV (x3)), (5, iV (t25.1)), (6, iV (x6))] [] := by
          refine ax_iinc (lv' := [(6, iV (x6 + 1)), (0, .ref (ad 26)), (1, .ref (ad 23)), (2, iV (x2)), (3, iV (x3)), (5, iV (t25.1))]) cx 5 dX0_searchBeside_101 rfl (by decide) rfl ?_
          refine ax_goto cx 7 dX0_searchBeside_104 (by decide) ?_
          refine ax_lv cx [1, 2, 3, 4, 5, 0] rfl ?_
          exact ih _ _ _ _ _ _ h hJ
        clear h
        have h := e27
        clear e27
        refine ax_icmp_eq cx 101 dX0_searchBeside_25 (by decide) g5 ⟨by decide, by decide⟩ (fun c6 => ?_) (fun c6 => ?_)
        · rw [if_pos c6] at h
          refine ax_lv cx [1, 2, 3, 4, 5, 6] rfl ?_
          cases h
          exact J26
        · rw [if_neg c6] at h
          refine ax_aload_n cx 2 dX0_searchBeside_28 rfl rfl ?_
          refine ax_iload cx 0 dX0_searchBeside_29 rfl ?_
          refine ax_iload_n cx 4 dX0_searchBeside_31 rfl rfl ?_
          obtain ⟨t7, e8, h⟩ := ob h
          refine ax_callV (As := [iV (t3), iV (x3)]) (q := 23) (ci := 2) (n := 2) cx (kX2_otherEnd l ad M t3 x3 _ e8) gX0_searchBeside_X2_otherEnd rfl ⟨by decide, by decide⟩ rfl rfl ⟨rfl, rfl⟩ (by decide +kernel) rfl ⟨by decide, by decide⟩ rfl (Nat.le_of_ble_eq_true rfl) dX0_searchBeside_32 ?_
          refine ax_istore (lv' := [(8, iV (t7)), (7, iV (t3)), (0, .ref (ad 26)), (1, .ref (ad 23)), (2, iV (x2)), (3, iV (x3)), (5, iV (x5)), (6, iV (x6))]) cx dX0_searchBeside_35 (by decide) rfl ?_
          refine ax_aload_n cx 2 dX0_searchBeside_37 rfl rfl ?_
          refine ax_aload_n cx 3 dX0_searchBeside_38 rfl rfl ?_
          refine ax_iload cx 1 dX0_searchBeside_39 rfl ?_
          refine ax_iload_n cx 4 dX0_searchBeside_41 rfl rfl ?_
          refine ax_iconst cx dX0_searchBeside_42 ?_
          obtain ⟨g9, h⟩ := gd_some h
          obtain ⟨t11, e13, h⟩ := ob h
          have J12 : G M 52 [(0, .ref (ad 26)), (1, .ref (ad 23)), (2, iV (x2)), (3, iV (x3)), (5, iV (x5)), (6, iV (x6)), (7, iV (t3)), (8, iV (t7))] [iV (t11), iV (t3), .ref (ad 23), .ref (ad 26)] := by
            obtain ⟨t14, e15, h⟩ := ob h
            refine ax_callV (As := [.ref (ad 23), iV (t3), iV (t11)]) (q := 26) (ci := 0) (n := 3) cx (kX0_leftFrom l ad M t3 t11 _ e15) gX0_searchBeside_X0_leftFrom rfl ⟨by decide, by decide⟩ rfl rfl ⟨rfl, rfl⟩ (by decide +kernel) rfl ⟨by decide, by decide⟩ rfl (Nat.le_of_ble_eq_true rfl) dX0_searchBeside_52 ?_
            refine ax_istore (lv' := [(9, iV (t14)), (0, .ref (ad 26)), (1, .ref (ad 23)), (2, iV (x2)), (3, iV (x3)), (5, iV (x5)), (6, iV (x6)), (7, iV (t3)), (8, iV (t7))]) cx dX0_searchBeside_55 (by decide) rfl ?_
            refine ax_aload_n cx 1 dX0_searchBeside_57 rfl rfl ?_
            refine ax_getf (q := 26) (ci := 0) (k := 2) (v := .ref (ad 14)) cx ⟨by decide, by decide⟩ rfl rfl hi_X0_searchBeside_X0 (by decide) hl_X0_searchBeside_18 rfl rfl dX0_searchBeside_58 ?_
            refine ax_iload cx 8 dX0_searchBeside_61 rfl ?_
            obtain ⟨g16, h⟩ := gd_some h
            refine ax_iald (n := 36) cx (by decide) rfl rfl g16 dX0_searchBeside_63 ?_
            refine ax_iconst cx dX0_searchBeside_64 ?_
            obtain ⟨g17, h⟩ := gd_some h
            refine ax_icmp_ne cx 101 dX0_searchBeside_65 (by decide) g17 ⟨by decide, by decide⟩ (fun c18 => ?_) (fun c18 => ?_)
            · rw [if_pos c18] at h
              refine ax_iload cx 0 dX0_searchBeside_68 rfl ?_
              obtain ⟨g19, h⟩ := gd_some h
              refine ax_if_le cx 101 dX0_searchBeside_70 (by decide) g19 (fun c20 => ?_) (fun c20 => ?_)
              · rw [if_pos c20] at h
                refine ax_lv cx [1, 2, 3, 4, 5, 6] rfl ?_
                cases h
                exact J26
              · rw [if_neg c20] at h
                refine ax_iload cx 5 dX0_searchBeside_73 rfl ?_
                refine ax_bipush (z := 36) cx dX0_searchBeside_75 (by decide) ?_
                obtain ⟨g21, h⟩ := gd_some h
                refine ax_icmp_ge cx 101 dX0_searchBeside_77 (by decide) g21 ⟨by decide, by decide⟩ (fun c22 => ?_) (fun c22 => ?_)
                · rw [if_pos c22] at h
                  refine ax_lv cx [1, 2, 3, 4, 5, 6] rfl ?_
                  cases h
                  exact J26
                · rw [if_neg c22] at h
                  refine ax_aload_n cx 1 dX0_searchBeside_80 rfl rfl ?_
                  refine ax_getf (q := 26) (ci := 0) (k := 2) (v := .ref (ad 14)) cx ⟨by decide, by decide⟩ rfl rfl hi_X0_searchBeside_X0 (by decide) hl_X0_searchBeside_18 rfl rfl dX0_searchBeside_81 ?_
                  refine ax_iload cx 8 dX0_searchBeside_84 rfl ?_
                  refine ax_iload cx 7 dX0_searchBeside_86 rfl ?_
                  obtain ⟨g23, h⟩ := gd_some h
                  refine ax_iast (n := 36) cx (by decide) rfl rfl g23 dX0_searchBeside_88 ?_
                  refine ax_aload_n cx 1 dX0_searchBeside_89 rfl rfl ?_
                  refine ax_getf (q := 26) (ci := 0) (k := 3) (v := .ref (ad 15)) cx ⟨by decide, by decide⟩ rfl rfl hi_X0_searchBeside_X0 (by decide) hl_X0_searchBeside_21 rfl rfl dX0_searchBeside_90 ?_
                  refine ax_iload cx 5 dX0_searchBeside_93 rfl ?_
                  refine ax_iload cx 8 dX0_searchBeside_95 rfl ?_
                  obtain ⟨g24, h⟩ := gd_some h
                  refine ax_iast (n := 36) cx (by decide) rfl rfl g24 dX0_searchBeside_97 ?_
                  refine ax_iinc (lv' := [(5, iV (x5 + 1)), (9, iV (t14)), (0, .ref (ad 26)), (1, .ref (ad 23)), (2, iV (x2)), (3, iV (x3)), (6, iV (x6)), (7, iV (t3)), (8, iV (t7))]) cx 5 dX0_searchBeside_98 rfl (by decide) rfl ?_
                  refine ax_lv cx [2, 3, 4, 5, 0, 6] rfl ?_
                  cases h
                  exact J26
            · rw [if_neg c18] at h
              refine ax_lv cx [1, 2, 3, 4, 5, 6] rfl ?_
              cases h
              exact J26
          clear h
          have h := e13
          clear e13
          refine ax_icmp_ne cx 50 dX0_searchBeside_43 (by decide) g9 ⟨by decide, by decide⟩ (fun c10 => ?_) (fun c10 => ?_)
          · rw [if_pos c10] at h
            refine ax_iload_n cx 5 dX0_searchBeside_46 rfl rfl ?_
            refine ax_goto cx 52 dX0_searchBeside_47 (by decide) ?_
            refine ax_lv cx [2, 3, 4, 5, 6, 7, 1, 0] rfl ?_
            cases h
            exact J12
          · rw [if_neg c10] at h
            refine ax_iload cx 0 dX0_searchBeside_50 rfl ?_
            refine ax_lv cx [2, 3, 4, 5, 6, 7, 1, 0] rfl ?_
            cases h
            exact J12
  unfold fX0_searchBeside at h
  refine ax_iload cx 4 dX0_searchBeside_0 rfl ?_
  refine ax_istore (lv' := [(5, iV (x4)), (0, .ref (ad 26)), (1, .ref (ad 23)), (2, iV (x2)), (3, iV (x3)), (4, iV (x4))]) cx dX0_searchBeside_2 (by decide) rfl ?_
  refine ax_iconst cx dX0_searchBeside_4 ?_
  refine ax_istore (lv' := [(6, iV (0)), (5, iV (x4)), (0, .ref (ad 26)), (1, .ref (ad 23)), (2, iV (x2)), (3, iV (x3)), (4, iV (x4))]) cx dX0_searchBeside_5 (by decide) rfl ?_
  obtain ⟨t29, e30, h⟩ := ob h
  refine ax_lv cx [2, 3, 4, 5, 1, 0] rfl ?_
  have J31 : G t29.2 107 [(5, iV (t29.1))] [] := by
    refine ax_iload cx 0 dX0_searchBeside_107 rfl ?_
    cases h
    exact ax_iret cx dX0_searchBeside_109 rfl ⟨rfl, rfl⟩
  exact L7 FU M x2 x3 x4 0 _ e30 J31
def fX0_search_L5 : Nat → Mem → Int → Int → Int → Option (Int × Mem)
  | 0, _, _, _, _ => none
  | n + 1, M, x2, x3, x4 =>
    gd (inR (x4)) (
    if 36 ≤ x4 then (
      some (x3, M))
    else (
      gd (inB (x4) 36) (
      gd (inB (x4) 36) (
      gd (inR ((wr M 14 x4.toNat ((-1))) 12 x4.toNat)) (
      gd (inR (x2)) (
      Option.bind (if (wr M 14 x4.toNat ((-1))) 12 x4.toNat = x2 then (
        gd (inB (x4) 36) (
        gd (inB (x3) 36) (
        some (x3 + 1, (wr (wr (wr M 14 x4.toNat ((-1))) 14 x4.toNat ((-2))) 15 x3.toNat x4)))))
      else (
        some (x3, (wr M 14 x4.toNat ((-1)))))) (fun t10 =>
      fX0_search_L5 n t10.2 x2 t10.1 (x4 + 1))))))))
def fX0_search_L60 : Nat → Mem → Int → Int → Int → Option (Int × Mem)
  | 0, _, _, _, _ => none
  | n + 1, M, x2, x3, x4 =>
    gd (inR (x4)) (
    if 36 ≤ x4 then (
      some (x3, M))
    else (
      gd (inR (x3)) (
      if x3 ≤ x4 then (
        some (x3, M))
      else (
        gd (inB (x4) 36) (
        Option.bind (fX0_searchBeside M x2 (M 15 x4.toNat) x3) (fun t22 =>
        fX0_search_L60 n t22.2 x2 t22.1 (x4 + 1)))))))
def fX0_search (M : Mem) (x2 : Int) : Option (Int × Mem) :=
    Option.bind (fX0_search_L5 FU M x2 0 0) (fun t14 =>
    Option.bind (fX0_search_L60 FU t14.2 x2 t14.1 0) (fun t25 =>
    some (t25.1, t25.2)))
abbrev rmX0_search : Room := { frames := 3, cells := 0, slots := 0, locals := 73 }
theorem hl_X0_search_18 : Cond.fieldLink RX0 18 "PlateauBench$Films" "cameBy" "[I" ∈ wsX0_search := by decide +kernel
theorem hl_X0_search_9 : Cond.fieldLink RX0 9 "PlateauBench$Films" "pinned" "[I" ∈ wsX0_search := by decide +kernel
theorem hl_X0_search_21 : Cond.fieldLink RX0 21 "PlateauBench$Films" "queue" "[I" ∈ wsX0_search := by decide +kernel
theorem hi_X0_search_X0 : ∀ x ∈ u_ws RX0 TX0 4, x ∈ wsX0_search := by decide +kernel
set_option maxRecDepth 100000 in
set_option maxHeartbeats 4000000 in
theorem kX0_search (l : Launch) (ad : Nat → Nat) (M : Mem) (x2 : Int) (T : Int × Mem) (h : fX0_search M x2 = some T) : MX l yX0_search wsX0_search rmX0_search wC ad [.ref (ad 26), .ref (ad 23), iV (x2)] M (some (iV (T.1))) T.2 := by
  refine MX.of (cc := cX0_search) (nL := 5) (rt := (some .int)) (own := RX0) (by decide +kernel) rfl rfl (Nat.le_of_ble_eq_true rfl) wC_ok (fun G cx => ?_)
  show G M 0 [(0, .ref (ad 26)), (1, .ref (ad 23)), (2, iV (x2))] []
  have L5 : ∀ (n : Nat) (M : Mem) (x2 : Int) (x3 : Int) (x4 : Int) (T13 : Int × Mem), fX0_search_L5 n M x2 x3 x4 = some T13 → (G T13.2 57 [(0, .ref (ad 26)), (1, .ref (ad 23)), (2, iV (x2)), (3, iV (T13.1))] []) → G M 5 [(0, .ref (ad 26)), (1, .ref (ad 23)), (2, iV (x2)), (3, iV (x3)), (4, iV (x4))] [] := by
    intro n
    induction n with
    | zero =>
      intro M x2 x3 x4 T13 h
      exact absurd h (by simp [fX0_search_L5])
    | succ n ih =>
      intro M x2 x3 x4 T13 h hJ
      rw [fX0_search_L5] at h
      refine ax_iload cx 4 dX0_search_5 rfl ?_
      refine ax_bipush (z := 36) cx dX0_search_7 (by decide) ?_
      obtain ⟨g1, h⟩ := gd_some h
      refine ax_icmp_ge cx 57 dX0_search_9 (by decide) g1 ⟨by decide, by decide⟩ (fun c2 => ?_) (fun c2 => ?_)
      · rw [if_pos c2] at h
        refine ax_lv cx [0, 1, 2, 3] rfl ?_
        cases h
        exact hJ
      · rw [if_neg c2] at h
        refine ax_aload_n cx 0 dX0_search_12 rfl rfl ?_
        refine ax_getf (q := 26) (ci := 0) (k := 2) (v := .ref (ad 14)) cx ⟨by decide, by decide⟩ rfl rfl hi_X0_search_X0 (by decide) hl_X0_search_18 rfl rfl dX0_search_13 ?_
        refine ax_iload cx 4 dX0_search_16 rfl ?_
        refine ax_iconst cx dX0_search_18 ?_
        obtain ⟨g3, h⟩ := gd_some h
        refine ax_iast (n := 36) cx (by decide) rfl rfl g3 dX0_search_19 ?_
        refine ax_aload_n cx 0 dX0_search_20 rfl rfl ?_
        refine ax_getf (q := 26) (ci := 0) (k := 0) (v := .ref (ad 12)) cx ⟨by decide, by decide⟩ rfl rfl hi_X0_search_X0 (by decide) hl_X0_search_9 rfl rfl dX0_search_21 ?_
        refine ax_iload cx 4 dX0_search_24 rfl ?_
        obtain ⟨g4, h⟩ := gd_some h
        refine ax_iald (n := 36) cx (by decide) rfl rfl g4 dX0_search_26 ?_
        refine ax_iload_n cx 2 dX0_search_27 rfl rfl ?_
        obtain ⟨g5, h⟩ := gd_some h
        obtain ⟨g6, h⟩ := gd_some h
        obtain ⟨t10, e12, h⟩ := ob h
        have J11 : G t10.2 51 [(0, .ref (ad 26)), (1, .ref (ad 23)), (2, iV (x2)), (3, iV (t10.1)), (4, iV (x4))] [] := by
          refine ax_iinc (lv' := [(4, iV (x4 + 1)), (0, .ref (ad 26)), (1, .ref (ad 23)), (2, iV (x2)), (3, iV (t10.1))]) cx 4 dX0_search_51 rfl (by decide) rfl ?_
          refine ax_goto cx 5 dX0_search_54 (by decide) ?_
          refine ax_lv cx [1, 2, 3, 4, 0] rfl ?_
          exact ih _ _ _ _ _ h hJ
        clear h
        have h := e12
        clear e12
        refine ax_icmp_ne cx 51 dX0_search_28 (by decide) g5 g6 (fun c7 => ?_) (fun c7 => ?_)
        · rw [if_pos c7] at h
          refine ax_aload_n cx 0 dX0_search_31 rfl rfl ?_
          refine ax_getf (q := 26) (ci := 0) (k := 2) (v := .ref (ad 14)) cx ⟨by decide, by decide⟩ rfl rfl hi_X0_search_X0 (by decide) hl_X0_search_18 rfl rfl dX0_search_32 ?_
          refine ax_iload cx 4 dX0_search_35 rfl ?_
          refine ax_bipush (z := (-2)) cx dX0_search_37 (by decide) ?_
          obtain ⟨g8, h⟩ := gd_some h
          refine ax_iast (n := 36) cx (by decide) rfl rfl g8 dX0_search_39 ?_
          refine ax_aload_n cx 0 dX0_search_40 rfl rfl ?_
          refine ax_getf (q := 26) (ci := 0) (k := 3) (v := .ref (ad 15)) cx ⟨by decide, by decide⟩ rfl rfl hi_X0_search_X0 (by decide) hl_X0_search_21 rfl rfl dX0_search_41 ?_
          refine ax_iload_n cx 3 dX0_search_44 rfl rfl ?_
          refine ax_iload cx 4 dX0_search_45 rfl ?_
          obtain ⟨g9, h⟩ := gd_some h
          refine ax_iast (n := 36) cx (by decide) rfl rfl g9 dX0_search_47 ?_
          refine ax_iinc (lv' := [(3, iV (x3 + 1)), (0, .ref (ad 26)), (1, .ref (ad 23)), (2, iV (x2)), (4, iV (x4))]) cx 3 dX0_search_48 rfl (by decide) rfl ?_
          refine ax_lv cx [1, 2, 3, 0, 4] rfl ?_
          cases h
          exact J11
        · rw [if_neg c7] at h
          cases h
          exact J11
  have L60 : ∀ (n : Nat) (M : Mem) (x2 : Int) (x3 : Int) (x4 : Int) (T24 : Int × Mem), fX0_search_L60 n M x2 x3 x4 = some T24 → (G T24.2 94 [(3, iV (T24.1))] []) → G M 60 [(0, .ref (ad 26)), (1, .ref (ad 23)), (2, iV (x2)), (3, iV (x3)), (4, iV (x4))] [] := by
    intro n
    induction n with
    | zero =>
      intro M x2 x3 x4 T24 h
      exact absurd h (by simp [fX0_search_L60])
    | succ n ih =>
      intro M x2 x3 x4 T24 h hJ
      rw [fX0_search_L60] at h
      refine ax_iload cx 4 dX0_search_60 rfl ?_
      refine ax_bipush (z := 36) cx dX0_search_62 (by decide) ?_
      obtain ⟨g17, h⟩ := gd_some h
      refine ax_icmp_ge cx 94 dX0_search_64 (by decide) g17 ⟨by decide, by decide⟩ (fun c18 => ?_) (fun c18 => ?_)
      · rw [if_pos c18] at h
        refine ax_lv cx [3] rfl ?_
        cases h
        exact hJ
      · rw [if_neg c18] at h
        refine ax_iload cx 4 dX0_search_67 rfl ?_
        refine ax_iload_n cx 3 dX0_search_69 rfl rfl ?_
        obtain ⟨g19, h⟩ := gd_some h
        refine ax_icmp_ge cx 94 dX0_search_70 (by decide) g17 g19 (fun c20 => ?_) (fun c20 => ?_)
        · rw [if_pos c20] at h
          refine ax_lv cx [3] rfl ?_
          cases h
          exact hJ
        · rw [if_neg c20] at h
          refine ax_aload_n cx 0 dX0_search_73 rfl rfl ?_
          refine ax_aload_n cx 1 dX0_search_74 rfl rfl ?_
          refine ax_iload_n cx 2 dX0_search_75 rfl rfl ?_
          refine ax_aload_n cx 0 dX0_search_76 rfl rfl ?_
          refine ax_getf (q := 26) (ci := 0) (k := 3) (v := .ref (ad 15)) cx ⟨by decide, by decide⟩ rfl rfl hi_X0_search_X0 (by decide) hl_X0_search_21 rfl rfl dX0_search_77 ?_
          refine ax_iload cx 4 dX0_search_80 rfl ?_
          obtain ⟨g21, h⟩ := gd_some h
          refine ax_iald (n := 36) cx (by decide) rfl rfl g21 dX0_search_82 ?_
          refine ax_iload_n cx 3 dX0_search_83 rfl rfl ?_
          obtain ⟨t22, e23, h⟩ := ob h
          refine ax_callV (As := [.ref (ad 23), iV (x2), iV (M 15 x4.toNat), iV (x3)]) (q := 26) (ci := 0) (n := 4) cx (kX0_searchBeside l ad M x2 (M 15 x4.toNat) x3 _ e23) gX0_search_X0_searchBeside rfl ⟨by decide, by decide⟩ rfl rfl ⟨rfl, rfl⟩ (by decide +kernel) rfl ⟨by decide, by decide⟩ rfl (Nat.le_of_ble_eq_true rfl) dX0_search_84 ?_
          refine ax_istore_n (lv' := [(3, iV (t22.1)), (0, .ref (ad 26)), (1, .ref (ad 23)), (2, iV (x2)), (4, iV (x4))]) cx dX0_search_87 rfl (by decide) rfl ?_
          refine ax_iinc (lv' := [(4, iV (x4 + 1)), (3, iV (t22.1)), (0, .ref (ad 26)), (1, .ref (ad 23)), (2, iV (x2))]) cx 4 dX0_search_88 rfl (by decide) rfl ?_
          refine ax_goto cx 60 dX0_search_91 (by decide) ?_
          refine ax_lv cx [2, 3, 4, 1, 0] rfl ?_
          exact ih _ _ _ _ _ h hJ
  unfold fX0_search at h
  refine ax_iconst cx dX0_search_0 ?_
  refine ax_istore_n (lv' := [(3, iV (0)), (0, .ref (ad 26)), (1, .ref (ad 23)), (2, iV (x2))]) cx dX0_search_1 rfl (by decide) rfl ?_
  refine ax_iconst cx dX0_search_2 ?_
  refine ax_istore (lv' := [(4, iV (0)), (3, iV (0)), (0, .ref (ad 26)), (1, .ref (ad 23)), (2, iV (x2))]) cx dX0_search_3 (by decide) rfl ?_
  obtain ⟨t14, e15, h⟩ := ob h
  refine ax_lv cx [2, 3, 4, 1, 0] rfl ?_
  have J16 : G t14.2 57 [(0, .ref (ad 26)), (1, .ref (ad 23)), (2, iV (x2)), (3, iV (t14.1))] [] := by
    refine ax_iconst cx dX0_search_57 ?_
    refine ax_istore (lv' := [(4, iV (0)), (0, .ref (ad 26)), (1, .ref (ad 23)), (2, iV (x2)), (3, iV (t14.1))]) cx dX0_search_58 (by decide) rfl ?_
    obtain ⟨t25, e26, h⟩ := ob h
    refine ax_lv cx [1, 2, 3, 4, 0] rfl ?_
    have J27 : G t25.2 94 [(3, iV (t25.1))] [] := by
      refine ax_iload_n cx 0 dX0_search_94 rfl rfl ?_
      cases h
      exact ax_iret cx dX0_search_95 rfl ⟨rfl, rfl⟩
    exact L60 FU t14.2 x2 t14.1 0 _ e26 J27
  exact L5 FU M x2 0 0 _ e15 J16
def fX0_nearestOutside_L2 : Nat → Mem → Int → Int → Option ((Int) ⊕ (Unit))
  | 0, _, _, _ => none
  | n + 1, M, x1, x2 =>
    gd (inR (x2)) (
    if 36 ≤ x2 then (
      some (.inr ()))
    else (
      gd (inR (x1)) (
      if x1 ≤ x2 then (
        some (.inr ()))
      else (
        gd (inB (x2) 36) (
        gd (inB (M 15 x2.toNat) 36) (
        gd (inR (M 12 (M 15 x2.toNat).toNat)) (
        if M 12 (M 15 x2.toNat).toNat = 2 then (
          gd (inB (x2) 36) (
          some (.inl (M 15 x2.toNat))))
        else (
          fX0_nearestOutside_L2 n M x1 (x2 + 1)))))))))
def fX0_nearestOutside (M : Mem) (x1 : Int) : Option (Int) :=
    Option.bind (fX0_nearestOutside_L2 FU M x1 0) (fun t11 => t11.elim (fun rr => some rr) (fun o13 =>
    some ((-1))))
abbrev rmX0_nearestOutside : Room := { frames := 0, cells := 0, slots := 0, locals := 0 }
theorem hl_X0_nearestOutside_9 : Cond.fieldLink RX0 9 "PlateauBench$Films" "pinned" "[I" ∈ wsX0_nearestOutside := by decide +kernel
theorem hl_X0_nearestOutside_21 : Cond.fieldLink RX0 21 "PlateauBench$Films" "queue" "[I" ∈ wsX0_nearestOutside := by decide +kernel
theorem hi_X0_nearestOutside_X0 : ∀ x ∈ u_ws RX0 TX0 4, x ∈ wsX0_nearestOutside := by decide +kernel
set_option maxRecDepth 100000 in
set_option maxHeartbeats 4000000 in
theorem kX0_nearestOutside (l : Launch) (ad : Nat → Nat) (M : Mem) (x1 : Int) (T : Int) (h : fX0_nearestOutside M x1 = some T) : MX l yX0_nearestOutside wsX0_nearestOutside rmX0_nearestOutside wC ad [.ref (ad 26), iV (x1)] M (some (iV (T))) M := by
  refine MX.of (cc := cX0_nearestOutside) (nL := 3) (rt := (some .int)) (own := RX0) (by decide +kernel) rfl rfl (Nat.le_of_ble_eq_true rfl) wC_ok (fun G cx => ?_)
  show G M 0 [(0, .ref (ad 26)), (1, iV (x1))] []
  have L2 : ∀ (n : Nat) (x1 : Int) (x2 : Int) (T10 : (Int) ⊕ (Unit)), fX0_nearestOutside_L2 n M x1 x2 = some T10 → (∀ rr, T10 = .inl rr → ((some (iV (rr)) : Option Value) = (some (iV (T)) : Option Value)) ∧ (M = M)) → (∀ T10o, T10 = .inr T10o → G M 41 [] []) → G M 2 [(0, .ref (ad 26)), (1, iV (x1)), (2, iV (x2))] [] := by
    intro n
    induction n with
    | zero =>
      intro x1 x2 T10 h
      exact absurd h (by simp [fX0_nearestOutside_L2])
    | succ n ih =>
      intro x1 x2 T10 h hR hJ
      rw [fX0_nearestOutside_L2] at h
      refine ax_iload_n cx 2 dX0_nearestOutside_2 rfl rfl ?_
      refine ax_bipush (z := 36) cx dX0_nearestOutside_3 (by decide) ?_
      obtain ⟨g1, h⟩ := gd_some h
      refine ax_icmp_ge cx 41 dX0_nearestOutside_5 (by decide) g1 ⟨by decide, by decide⟩ (fun c2 => ?_) (fun c2 => ?_)
      · rw [if_pos c2] at h
        refine ax_lv cx [] rfl ?_
        cases h
        exact hJ _ rfl
      · rw [if_neg c2] at h
        refine ax_iload_n cx 2 dX0_nearestOutside_8 rfl rfl ?_
        refine ax_iload_n cx 1 dX0_nearestOutside_9 rfl rfl ?_
        obtain ⟨g3, h⟩ := gd_some h
        refine ax_icmp_ge cx 41 dX0_nearestOutside_10 (by decide) g1 g3 (fun c4 => ?_) (fun c4 => ?_)
        · rw [if_pos c4] at h
          refine ax_lv cx [] rfl ?_
          cases h
          exact hJ _ rfl
        · rw [if_neg c4] at h
          refine ax_aload_n cx 0 dX0_nearestOutside_13 rfl rfl ?_
          refine ax_getf (q := 26) (ci := 0) (k := 0) (v := .ref (ad 12)) cx ⟨by decide, by decide⟩ rfl rfl hi_X0_nearestOutside_X0 (by decide) hl_X0_nearestOutside_9 rfl rfl dX0_nearestOutside_14 ?_
          refine ax_aload_n cx 0 dX0_nearestOutside_17 rfl rfl ?_
          refine ax_getf (q := 26) (ci := 0) (k := 3) (v := .ref (ad 15)) cx ⟨by decide, by decide⟩ rfl rfl hi_X0_nearestOutside_X0 (by decide) hl_X0_nearestOutside_21 rfl rfl dX0_nearestOutside_18 ?_
          refine ax_iload_n cx 2 dX0_nearestOutside_21 rfl rfl ?_
          obtain ⟨g5, h⟩ := gd_some h
          refine ax_iald (n := 36) cx (by decide) rfl rfl g5 dX0_nearestOutside_22 ?_
          obtain ⟨g6, h⟩ := gd_some h
          refine ax_iald (n := 36) cx (by decide) rfl rfl g6 dX0_nearestOutside_23 ?_
          refine ax_iconst cx dX0_nearestOutside_24 ?_
          obtain ⟨g7, h⟩ := gd_some h
          refine ax_icmp_ne cx 35 dX0_nearestOutside_25 (by decide) g7 ⟨by decide, by decide⟩ (fun c8 => ?_) (fun c8 => ?_)
          · rw [if_pos c8] at h
            refine ax_aload_n cx 0 dX0_nearestOutside_28 rfl rfl ?_
            refine ax_getf (q := 26) (ci := 0) (k := 3) (v := .ref (ad 15)) cx ⟨by decide, by decide⟩ rfl rfl hi_X0_nearestOutside_X0 (by decide) hl_X0_nearestOutside_21 rfl rfl dX0_nearestOutside_29 ?_
            refine ax_iload_n cx 2 dX0_nearestOutside_32 rfl rfl ?_
            obtain ⟨g9, h⟩ := gd_some h
            refine ax_iald (n := 36) cx (by decide) rfl rfl g9 dX0_nearestOutside_33 ?_
            cases h
            exact ax_iret cx dX0_nearestOutside_34 rfl (hR _ rfl)
          · rw [if_neg c8] at h
            refine ax_iinc (lv' := [(2, iV (x2 + 1)), (0, .ref (ad 26)), (1, iV (x1))]) cx 2 dX0_nearestOutside_35 rfl (by decide) rfl ?_
            refine ax_goto cx 2 dX0_nearestOutside_38 (by decide) ?_
            refine ax_lv cx [1, 2, 0] rfl ?_
            exact ih _ _ _ h hR hJ
  unfold fX0_nearestOutside at h
  refine ax_iconst cx dX0_nearestOutside_0 ?_
  refine ax_istore_n (lv' := [(2, iV (0)), (0, .ref (ad 26)), (1, iV (x1))]) cx dX0_nearestOutside_1 rfl (by decide) rfl ?_
  obtain ⟨t11, e12, h⟩ := ob h
  refine ax_lv cx [1, 2, 0] rfl ?_
  cases t11 with
  | inl rr =>
    exact L2 FU x1 0 _ e12 (fun r2 e2 => by cases e2; cases h; exact ⟨rfl, rfl⟩) (fun o2 e2 => by cases e2)
  | inr o13 =>
    refine L2 FU x1 0 _ e12 (fun r2 e2 => by cases e2) (fun o2 e2 => ?_)
    cases e2
    refine ax_iconst cx dX0_nearestOutside_41 ?_
    cases h
    exact ax_iret cx dX0_nearestOutside_42 rfl ⟨rfl, rfl⟩
def fX0_mostAlong_L9 : Nat → Mem → Int → Int → Int → Option (Int)
  | 0, _, _, _, _ => none
  | n + 1, M, x3, x4, x5 =>
    gd (inR (x5)) (
    if 36 ≤ x5 then (
      some (x3))
    else (
      gd (inB (x4) 36) (
      gd (inR (M 14 x4.toNat)) (
      if M 14 x4.toNat < 0 then (
        some (x3))
      else (
        gd (inB (x4) 36) (
        Option.bind (fX2_otherEnd M (M 14 x4.toNat) x4) (fun t7 =>
        Option.bind (fX0_leftFrom M (M 14 x4.toNat) t7) (fun t9 =>
        gd (inR (x3)) (
        gd (inR (t9)) (
        fX0_mostAlong_L9 n M (if t9 < x3 then t9 else x3) t7 (x5 + 1)))))))))))
def fX0_mostAlong (M : Mem) (x2 : Int) : Option (Int) :=
    Option.bind (fX0_mostAlong_L9 FU M 1000000 x2 0) (fun t14 =>
    some (t14))
abbrev rmX0_mostAlong : Room := { frames := 2, cells := 0, slots := 0, locals := 44 }
theorem hw_X0_mostAlong_c81 : Cond.constant RX0 81 (1000000) ∈ wsX0_mostAlong := by decide +kernel
theorem hl_X0_mostAlong_18 : Cond.fieldLink RX0 18 "PlateauBench$Films" "cameBy" "[I" ∈ wsX0_mostAlong := by decide +kernel
theorem hw_X0_mostAlong_l82 : Cond.methodLink RX0 82 Lib.Math.min.name ∈ wsX0_mostAlong := by decide +kernel
theorem hw_X0_mostAlong_min1 : Cond.static Lib.Math.min.name ∈ wsX0_mostAlong := by decide +kernel
theorem hw_X0_mostAlong_math : Cond.initialized "java/lang/Math" ∈ wsX0_mostAlong := by decide +kernel
theorem hw_X0_mostAlong_min2 : Cond.code Lib.Math.min.name Lib.Math.min.code 2 (some .int) ∈ wsX0_mostAlong := by decide +kernel
theorem hi_X0_mostAlong_X0 : ∀ x ∈ u_ws RX0 TX0 4, x ∈ wsX0_mostAlong := by decide +kernel
set_option maxRecDepth 100000 in
set_option maxHeartbeats 4000000 in
theorem kX0_mostAlong (l : Launch) (ad : Nat → Nat) (M : Mem) (x2 : Int) (T : Int) (h : fX0_mostAlong M x2 = some T) : MX l yX0_mostAlong wsX0_mostAlong rmX0_mostAlong wC ad [.ref (ad 26), .ref (ad 23), iV (x2)] M (some (iV (T))) M := by
  refine MX.of (cc := cX0_mostAlong) (nL := 7) (rt := (some .int)) (own := RX0) (by decide +kernel) rfl rfl (Nat.le_of_ble_eq_true rfl) wC_ok (fun G cx => ?_)
  show G M 0 [(0, .ref (ad 26)), (1, .ref (ad 23)), (2, iV (x2))] []
  have L9 : ∀ (n : Nat) (x3 : Int) (x4 : Int) (x5 : Int) (T13 : Int), fX0_mostAlong_L9 n M x3 x4 x5 = some T13 → (G M 65 [(3, iV (T13))] []) → G M 9 [(0, .ref (ad 26)), (1, .ref (ad 23)), (3, iV (x3)), (4, iV (x4)), (5, iV (x5))] [] := by
    intro n
    induction n with
    | zero =>
      intro x3 x4 x5 T13 h
      exact absurd h (by simp [fX0_mostAlong_L9])
    | succ n ih =>
      intro x3 x4 x5 T13 h hJ
      rw [fX0_mostAlong_L9] at h
      refine ax_iload cx 4 dX0_mostAlong_9 rfl ?_
      refine ax_bipush (z := 36) cx dX0_mostAlong_11 (by decide) ?_
      obtain ⟨g1, h⟩ := gd_some h
      refine ax_icmp_ge cx 65 dX0_mostAlong_13 (by decide) g1 ⟨by decide, by decide⟩ (fun c2 => ?_) (fun c2 => ?_)
      · rw [if_pos c2] at h
        refine ax_lv cx [2] rfl ?_
        cases h
        exact hJ
      · rw [if_neg c2] at h
        refine ax_aload_n cx 0 dX0_mostAlong_16 rfl rfl ?_
        refine ax_getf (q := 26) (ci := 0) (k := 2) (v := .ref (ad 14)) cx ⟨by decide, by decide⟩ rfl rfl hi_X0_mostAlong_X0 (by decide) hl_X0_mostAlong_18 rfl rfl dX0_mostAlong_17 ?_
        refine ax_iload cx 3 dX0_mostAlong_20 rfl ?_
        obtain ⟨g3, h⟩ := gd_some h
        refine ax_iald (n := 36) cx (by decide) rfl rfl g3 dX0_mostAlong_22 ?_
        obtain ⟨g4, h⟩ := gd_some h
        refine ax_if_lt cx 65 dX0_mostAlong_23 (by decide) g4 (fun c5 => ?_) (fun c5 => ?_)
        · rw [if_pos c5] at h
          refine ax_lv cx [2] rfl ?_
          cases h
          exact hJ
        · rw [if_neg c5] at h
          refine ax_aload_n cx 0 dX0_mostAlong_26 rfl rfl ?_
          refine ax_getf (q := 26) (ci := 0) (k := 2) (v := .ref (ad 14)) cx ⟨by decide, by decide⟩ rfl rfl hi_X0_mostAlong_X0 (by decide) hl_X0_mostAlong_18 rfl rfl dX0_mostAlong_27 ?_
          refine ax_iload cx 3 dX0_mostAlong_30 rfl ?_
          obtain ⟨g6, h⟩ := gd_some h
          refine ax_iald (n := 36) cx (by decide) rfl rfl g6 dX0_mostAlong_32 ?_
          refine ax_istore (lv' := [(6, iV (M 14 x4.toNat)), (0, .ref (ad 26)), (1, .ref (ad 23)), (3, iV (x3)), (4, iV (x4)), (5, iV (x5))]) cx dX0_mostAlong_33 (by decide) rfl ?_
          refine ax_aload_n cx 2 dX0_mostAlong_35 rfl rfl ?_
          refine ax_iload cx 0 dX0_mostAlong_36 rfl ?_
          refine ax_iload cx 4 dX0_mostAlong_38 rfl ?_
          obtain ⟨t7, e8, h⟩ := ob h
          refine ax_callV (As := [iV (M 14 x4.toNat), iV (x4)]) (q := 23) (ci := 2) (n := 2) cx (kX2_otherEnd l ad M (M 14 x4.toNat) x4 _ e8) gX0_mostAlong_X2_otherEnd rfl ⟨by decide, by decide⟩ rfl rfl ⟨rfl, rfl⟩ (by decide +kernel) rfl ⟨by decide, by decide⟩ rfl (Nat.le_of_ble_eq_true rfl) dX0_mostAlong_40 ?_
          refine ax_istore (lv' := [(4, iV (t7)), (6, iV (M 14 x4.toNat)), (0, .ref (ad 26)), (1, .ref (ad 23)), (3, iV (x3)), (5, iV (x5))]) cx dX0_mostAlong_43 (by decide) rfl ?_
          refine ax_iload_n cx 4 dX0_mostAlong_45 rfl rfl ?_
          refine ax_aload_n cx 2 dX0_mostAlong_46 rfl rfl ?_
          refine ax_aload_n cx 3 dX0_mostAlong_47 rfl rfl ?_
          refine ax_iload cx 1 dX0_mostAlong_48 rfl ?_
          refine ax_iload cx 0 dX0_mostAlong_50 rfl ?_
          obtain ⟨t9, e10, h⟩ := ob h
          refine ax_callV (As := [.ref (ad 23), iV (M 14 x4.toNat), iV (t7)]) (q := 26) (ci := 0) (n := 3) cx (kX0_leftFrom l ad M (M 14 x4.toNat) t7 _ e10) gX0_mostAlong_X0_leftFrom rfl ⟨by decide, by decide⟩ rfl rfl ⟨rfl, rfl⟩ (by decide +kernel) rfl ⟨by decide, by decide⟩ rfl (Nat.le_of_ble_eq_true rfl) dX0_mostAlong_52 ?_
          obtain ⟨g11, h⟩ := gd_some h
          obtain ⟨g12, h⟩ := gd_some h
          refine ax_min cx g11 g12 hw_X0_mostAlong_l82 hw_X0_mostAlong_min1 hw_X0_mostAlong_math hw_X0_mostAlong_min2 (by decide) (Nat.le_of_ble_eq_true rfl) dX0_mostAlong_55 ?_
          refine ax_istore_n (lv' := [(3, iV (if t9 < x3 then t9 else x3)), (4, iV (t7)), (6, iV (M 14 x4.toNat)), (0, .ref (ad 26)), (1, .ref (ad 23)), (5, iV (x5))]) cx dX0_mostAlong_58 rfl (by decide) rfl ?_
          refine ax_iinc (lv' := [(5, iV (x5 + 1)), (3, iV (if t9 < x3 then t9 else x3)), (4, iV (t7)), (6, iV (M 14 x4.toNat)), (0, .ref (ad 26)), (1, .ref (ad 23))]) cx 5 dX0_mostAlong_59 rfl (by decide) rfl ?_
          refine ax_goto cx 9 dX0_mostAlong_62 (by decide) ?_
          refine ax_lv cx [4, 5, 1, 2, 0] rfl ?_
          exact ih _ _ _ _ h hJ
  unfold fX0_mostAlong at h
  refine ax_ldc (z := 1000000) cx dX0_mostAlong_0 hw_X0_mostAlong_c81 (by decide) ?_
  refine ax_istore_n (lv' := [(3, iV (1000000)), (0, .ref (ad 26)), (1, .ref (ad 23)), (2, iV (x2))]) cx dX0_mostAlong_2 rfl (by decide) rfl ?_
  refine ax_iload_n cx 3 dX0_mostAlong_3 rfl rfl ?_
  refine ax_istore (lv' := [(4, iV (x2)), (3, iV (1000000)), (0, .ref (ad 26)), (1, .ref (ad 23)), (2, iV (x2))]) cx dX0_mostAlong_4 (by decide) rfl ?_
  refine ax_iconst cx dX0_mostAlong_6 ?_
  refine ax_istore (lv' := [(5, iV (0)), (4, iV (x2)), (3, iV (1000000)), (0, .ref (ad 26)), (1, .ref (ad 23)), (2, iV (x2))]) cx dX0_mostAlong_7 (by decide) rfl ?_
  obtain ⟨t14, e15, h⟩ := ob h
  refine ax_lv cx [3, 4, 2, 1, 0] rfl ?_
  have J16 : G M 65 [(3, iV (t14))] [] := by
    refine ax_iload_n cx 0 dX0_mostAlong_65 rfl rfl ?_
    cases h
    exact ax_iret cx dX0_mostAlong_66 rfl ⟨rfl, rfl⟩
  exact L9 FU 1000000 x2 0 _ e15 J16
def fX0_push_L6 : Nat → Mem → Int → Int → Int → Option (Mem)
  | 0, _, _, _, _ => none
  | n + 1, M, x3, x4, x5 =>
    gd (inR (x5)) (
    if 36 ≤ x5 then (
      some (M))
    else (
      gd (inB (x4) 36) (
      gd (inR (M 14 x4.toNat)) (
      if M 14 x4.toNat < 0 then (
        some (M))
      else (
        gd (inB (x4) 36) (
        Option.bind (fX2_otherEnd M (M 14 x4.toNat) x4) (fun t7 =>
        gd (inB (M 14 x4.toNat) 60) (
        Option.bind (fX2_low M (M 14 x4.toNat)) (fun t10 =>
        gd (inR (t7)) (
        gd (inR (t10)) (
        Option.bind (if t7 = t10 then (
          some (x3))
        else (
          some (-x3))) (fun t15 =>
        gd (inB (M 14 x4.toNat) 60) (
        fX0_push_L6 n (wr M 13 (M 14 x4.toNat).toNat ((M 13 (M 14 x4.toNat).toNat) + t15)) x3 t7 (x5 + 1))))))))))))))
def fX0_push (M : Mem) (x2 : Int) (x3 : Int) : Option (Mem) :=
    Option.bind (fX0_push_L6 FU M x3 x2 0) (fun t20 =>
    some (t20))
abbrev rmX0_push : Room := { frames := 1, cells := 0, slots := 0, locals := 22 }
theorem hl_X0_push_18 : Cond.fieldLink RX0 18 "PlateauBench$Films" "cameBy" "[I" ∈ wsX0_push := by decide +kernel
theorem hl_X0_push_15 : Cond.fieldLink RX0 15 "PlateauBench$Films" "flow" "[I" ∈ wsX0_push := by decide +kernel
theorem hi_X0_push_X0 : ∀ x ∈ u_ws RX0 TX0 4, x ∈ wsX0_push := by decide +kernel
set_option maxRecDepth 100000 in
set_option maxHeartbeats 4000000 in
theorem kX0_push (l : Launch) (ad : Nat → Nat) (M : Mem) (x2 : Int) (x3 : Int) (T : Mem) (h : fX0_push M x2 x3 = some T) : MX l yX0_push wsX0_push rmX0_push wC ad [.ref (ad 26), .ref (ad 23), iV (x2), iV (x3)] M none T := by
  refine MX.of (cc := cX0_push) (nL := 7) (rt := none) (own := RX0) (by decide +kernel) rfl rfl (Nat.le_of_ble_eq_true rfl) wC_ok (fun G cx => ?_)
  show G M 0 [(0, .ref (ad 26)), (1, .ref (ad 23)), (2, iV (x2)), (3, iV (x3))] []
  have L6 : ∀ (n : Nat) (M : Mem) (x3 : Int) (x4 : Int) (x5 : Int) (T19 : Mem), fX0_push_L6 n M x3 x4 x5 = some T19 → (G T19 75 [] []) → G M 6 [(0, .ref (ad 26)), (1, .ref (ad 23)), (3, iV (x3)), (4, iV (x4)), (5, iV (x5))] [] := by
    intro n
    induction n with
    | zero =>
      intro M x3 x4 x5 T19 h
      exact absurd h (by simp [fX0_push_L6])
    | succ n ih =>
      intro M x3 x4 x5 T19 h hJ
      rw [fX0_push_L6] at h
      refine ax_iload cx 4 dX0_push_6 rfl ?_
      refine ax_bipush (z := 36) cx dX0_push_8 (by decide) ?_
      obtain ⟨g1, h⟩ := gd_some h
      refine ax_icmp_ge cx 75 dX0_push_10 (by decide) g1 ⟨by decide, by decide⟩ (fun c2 => ?_) (fun c2 => ?_)
      · rw [if_pos c2] at h
        refine ax_lv cx [] rfl ?_
        cases h
        exact hJ
      · rw [if_neg c2] at h
        refine ax_aload_n cx 0 dX0_push_13 rfl rfl ?_
        refine ax_getf (q := 26) (ci := 0) (k := 2) (v := .ref (ad 14)) cx ⟨by decide, by decide⟩ rfl rfl hi_X0_push_X0 (by decide) hl_X0_push_18 rfl rfl dX0_push_14 ?_
        refine ax_iload cx 3 dX0_push_17 rfl ?_
        obtain ⟨g3, h⟩ := gd_some h
        refine ax_iald (n := 36) cx (by decide) rfl rfl g3 dX0_push_19 ?_
        obtain ⟨g4, h⟩ := gd_some h
        refine ax_if_lt cx 75 dX0_push_20 (by decide) g4 (fun c5 => ?_) (fun c5 => ?_)
        · rw [if_pos c5] at h
          refine ax_lv cx [] rfl ?_
          cases h
          exact hJ
        · rw [if_neg c5] at h
          refine ax_aload_n cx 0 dX0_push_23 rfl rfl ?_
          refine ax_getf (q := 26) (ci := 0) (k := 2) (v := .ref (ad 14)) cx ⟨by decide, by decide⟩ rfl rfl hi_X0_push_X0 (by decide) hl_X0_push_18 rfl rfl dX0_push_24 ?_
          refine ax_iload cx 3 dX0_push_27 rfl ?_
          obtain ⟨g6, h⟩ := gd_some h
          refine ax_iald (n := 36) cx (by decide) rfl rfl g6 dX0_push_29 ?_
          refine ax_istore (lv' := [(6, iV (M 14 x4.toNat)), (0, .ref (ad 26)), (1, .ref (ad 23)), (3, iV (x3)), (4, iV (x4)), (5, iV (x5))]) cx dX0_push_30 (by decide) rfl ?_
          refine ax_aload_n cx 2 dX0_push_32 rfl rfl ?_
          refine ax_iload cx 0 dX0_push_33 rfl ?_
          refine ax_iload cx 4 dX0_push_35 rfl ?_
          obtain ⟨t7, e8, h⟩ := ob h
          refine ax_callV (As := [iV (M 14 x4.toNat), iV (x4)]) (q := 23) (ci := 2) (n := 2) cx (kX2_otherEnd l ad M (M 14 x4.toNat) x4 _ e8) gX0_push_X2_otherEnd rfl ⟨by decide, by decide⟩ rfl rfl ⟨rfl, rfl⟩ (by decide +kernel) rfl ⟨by decide, by decide⟩ rfl (Nat.le_of_ble_eq_true rfl) dX0_push_37 ?_
          refine ax_istore (lv' := [(4, iV (t7)), (6, iV (M 14 x4.toNat)), (0, .ref (ad 26)), (1, .ref (ad 23)), (3, iV (x3)), (5, iV (x5))]) cx dX0_push_40 (by decide) rfl ?_
          refine ax_aload_n cx 2 dX0_push_42 rfl rfl ?_
          refine ax_getf (q := 26) (ci := 0) (k := 1) (v := .ref (ad 13)) cx ⟨by decide, by decide⟩ rfl rfl hi_X0_push_X0 (by decide) hl_X0_push_15 rfl rfl dX0_push_43 ?_
          refine ax_iload cx 1 dX0_push_46 rfl ?_
          refine ax_dup2 cx dX0_push_48 rfl rfl ?_
          obtain ⟨g9, h⟩ := gd_some h
          refine ax_iald (n := 60) cx (by decide) rfl rfl g9 dX0_push_49 ?_
          refine ax_iload cx 0 dX0_push_50 rfl ?_
          refine ax_aload_n cx 3 dX0_push_52 rfl rfl ?_
          refine ax_iload cx 1 dX0_push_53 rfl ?_
          obtain ⟨t10, e11, h⟩ := ob h
          refine ax_callV (As := [iV (M 14 x4.toNat)]) (q := 23) (ci := 2) (n := 1) cx (kX2_low l ad M (M 14 x4.toNat) _ e11) gX0_push_X2_low rfl ⟨by decide, by decide⟩ rfl rfl ⟨rfl, rfl⟩ (by decide +kernel) rfl ⟨by decide, by decide⟩ rfl (Nat.le_of_ble_eq_true rfl) dX0_push_55 ?_
          obtain ⟨g12, h⟩ := gd_some h
          obtain ⟨g13, h⟩ := gd_some h
          obtain ⟨t15, e17, h⟩ := ob h
          have J16 : G M 67 [(0, .ref (ad 26)), (1, .ref (ad 23)), (3, iV (x3)), (4, iV (t7)), (5, iV (x5))] [iV (t15), iV (M 13 (M 14 x4.toNat).toNat), iV (M 14 x4.toNat), .ref (ad 13)] := by
            refine ax_iadd cx dX0_push_67 ?_
            obtain ⟨g18, h⟩ := gd_some h
            refine ax_iast (n := 60) cx (by decide) rfl rfl g18 dX0_push_68 ?_
            refine ax_iinc (lv' := [(5, iV (x5 + 1)), (0, .ref (ad 26)), (1, .ref (ad 23)), (3, iV (x3)), (4, iV (t7))]) cx 4 dX0_push_69 rfl (by decide) rfl ?_
            refine ax_goto cx 6 dX0_push_72 (by decide) ?_
            refine ax_lv cx [1, 2, 3, 4, 0] rfl ?_
            exact ih _ _ _ _ _ h hJ
          clear h
          have h := e17
          clear e17
          refine ax_icmp_ne cx 65 dX0_push_58 (by decide) g12 g13 (fun c14 => ?_) (fun c14 => ?_)
          · rw [if_pos c14] at h
            refine ax_iload_n cx 4 dX0_push_61 rfl rfl ?_
            refine ax_goto cx 67 dX0_push_62 (by decide) ?_
            refine ax_lv cx [2, 3, 4, 0, 5] rfl ?_
            cases h
            exact J16
          · rw [if_neg c14] at h
            refine ax_iload_n cx 4 dX0_push_65 rfl rfl ?_
            refine ax_ineg cx dX0_push_66 ?_
            refine ax_lv cx [2, 3, 4, 0, 5] rfl ?_
            cases h
            exact J16
  unfold fX0_push at h
  refine ax_iload_n cx 2 dX0_push_0 rfl rfl ?_
  refine ax_istore (lv' := [(4, iV (x2)), (0, .ref (ad 26)), (1, .ref (ad 23)), (2, iV (x2)), (3, iV (x3))]) cx dX0_push_1 (by decide) rfl ?_
  refine ax_iconst cx dX0_push_3 ?_
  refine ax_istore (lv' := [(5, iV (0)), (4, iV (x2)), (0, .ref (ad 26)), (1, .ref (ad 23)), (2, iV (x2)), (3, iV (x3))]) cx dX0_push_4 (by decide) rfl ?_
  obtain ⟨t20, e21, h⟩ := ob h
  refine ax_lv cx [2, 3, 5, 1, 0] rfl ?_
  have J22 : G t20 75 [] [] := by
    cases h
    exact ax_vret cx dX0_push_75 rfl ⟨rfl, rfl⟩
  exact L6 FU M x3 x2 0 _ e21 J22
def fX0_fillField_L2 : Nat → Mem → Int → Option (Mem)
  | 0, _, _ => none
  | n + 1, M, x2 =>
    gd (inR (x2)) (
    if 60 ≤ x2 then (
      some (M))
    else (
      gd (inB (x2) 60) (
      fX0_fillField_L2 n (wr M 13 x2.toNat 0) (x2 + 1))))
def fX0_fillField_L25 : Nat → Mem → Int → Int → Option (Mem)
  | 0, _, _, _ => none
  | n + 1, M, x2, x3 =>
    gd (inR (x3)) (
    if 4000 ≤ x3 then (
      some (M))
    else (
      gd (inR (x2)) (
      if x2 = 0 then (
        some (M))
      else (
        Option.bind (fX0_search M 1) (fun t12 =>
        Option.bind (fX0_nearestOutside t12.2 t12.1) (fun t14 =>
        gd (inR (t14)) (
        Option.bind (if t14 = (-1) then (
          some (0))
        else (
          some (1))) (fun t18 =>
        gd (inR (t18)) (
        Option.bind (if t18 = 0 then (
          some (t12.2))
        else (
          Option.bind (fX0_mostAlong t12.2 t14) (fun t23 =>
          Option.bind (fX0_push t12.2 t14 t23) (fun t25 =>
          some (t25))))) (fun t27 =>
        fX0_fillField_L25 n t27 t18 (x3 + 1)))))))))))
def fX0_fillField (M : Mem)  : Option (Mem) :=
    Option.bind (fX0_fillField_L2 FU M 0) (fun t5 =>
    Option.bind (fX0_fillField_L25 FU t5 1 0) (fun t31 =>
    some (t31)))
abbrev rmX0_fillField : Room := { frames := 4, cells := 0, slots := 0, locals := 97 }
theorem hl_X0_fillField_15 : Cond.fieldLink RX0 15 "PlateauBench$Films" "flow" "[I" ∈ wsX0_fillField := by decide +kernel
theorem hi_X0_fillField_X0 : ∀ x ∈ u_ws RX0 TX0 4, x ∈ wsX0_fillField := by decide +kernel
set_option maxRecDepth 100000 in
set_option maxHeartbeats 4000000 in
theorem kX0_fillField (l : Launch) (ad : Nat → Nat) (M : Mem)  (T : Mem) (h : fX0_fillField M  = some T) : MX l yX0_fillField wsX0_fillField rmX0_fillField wC ad [.ref (ad 26), .ref (ad 23)] M none T := by
  refine MX.of (cc := cX0_fillField) (nL := 5) (rt := none) (own := RX0) (by decide +kernel) rfl rfl (Nat.le_of_ble_eq_true rfl) wC_ok (fun G cx => ?_)
  show G M 0 [(0, .ref (ad 26)), (1, .ref (ad 23))] []
  have L2 : ∀ (n : Nat) (M : Mem) (x2 : Int) (T4 : Mem), fX0_fillField_L2 n M x2 = some T4 → (G T4 21 [(0, .ref (ad 26)), (1, .ref (ad 23))] []) → G M 2 [(0, .ref (ad 26)), (1, .ref (ad 23)), (2, iV (x2))] [] := by
    intro n
    induction n with
    | zero =>
      intro M x2 T4 h
      exact absurd h (by simp [fX0_fillField_L2])
    | succ n ih =>
      intro M x2 T4 h hJ
      rw [fX0_fillField_L2] at h
      refine ax_iload_n cx 2 dX0_fillField_2 rfl rfl ?_
      refine ax_bipush (z := 60) cx dX0_fillField_3 (by decide) ?_
      obtain ⟨g1, h⟩ := gd_some h
      refine ax_icmp_ge cx 21 dX0_fillField_5 (by decide) g1 ⟨by decide, by decide⟩ (fun c2 => ?_) (fun c2 => ?_)
      · rw [if_pos c2] at h
        refine ax_lv cx [0, 1] rfl ?_
        cases h
        exact hJ
      · rw [if_neg c2] at h
        refine ax_aload_n cx 0 dX0_fillField_8 rfl rfl ?_
        refine ax_getf (q := 26) (ci := 0) (k := 1) (v := .ref (ad 13)) cx ⟨by decide, by decide⟩ rfl rfl hi_X0_fillField_X0 (by decide) hl_X0_fillField_15 rfl rfl dX0_fillField_9 ?_
        refine ax_iload_n cx 2 dX0_fillField_12 rfl rfl ?_
        refine ax_iconst cx dX0_fillField_13 ?_
        obtain ⟨g3, h⟩ := gd_some h
        refine ax_iast (n := 60) cx (by decide) rfl rfl g3 dX0_fillField_14 ?_
        refine ax_iinc (lv' := [(2, iV (x2 + 1)), (0, .ref (ad 26)), (1, .ref (ad 23))]) cx 2 dX0_fillField_15 rfl (by decide) rfl ?_
        refine ax_goto cx 2 dX0_fillField_18 (by decide) ?_
        refine ax_lv cx [1, 2, 0] rfl ?_
        exact ih _ _ _ h hJ
  have L25 : ∀ (n : Nat) (M : Mem) (x2 : Int) (x3 : Int) (T30 : Mem), fX0_fillField_L25 n M x2 x3 = some T30 → (G T30 84 [] []) → G M 25 [(0, .ref (ad 26)), (1, .ref (ad 23)), (2, iV (x2)), (3, iV (x3))] [] := by
    intro n
    induction n with
    | zero =>
      intro M x2 x3 T30 h
      exact absurd h (by simp [fX0_fillField_L25])
    | succ n ih =>
      intro M x2 x3 T30 h hJ
      rw [fX0_fillField_L25] at h
      refine ax_iload_n cx 3 dX0_fillField_25 rfl rfl ?_
      refine ax_sipush (z := 4000) cx dX0_fillField_26 (by decide) ?_
      obtain ⟨g8, h⟩ := gd_some h
      refine ax_icmp_ge cx 84 dX0_fillField_29 (by decide) g8 ⟨by decide, by decide⟩ (fun c9 => ?_) (fun c9 => ?_)
      · rw [if_pos c9] at h
        refine ax_lv cx [] rfl ?_
        cases h
        exact hJ
      · rw [if_neg c9] at h
        refine ax_iload_n cx 2 dX0_fillField_32 rfl rfl ?_
        obtain ⟨g10, h⟩ := gd_some h
        refine ax_if_eq cx 84 dX0_fillField_33 (by decide) g10 (fun c11 => ?_) (fun c11 => ?_)
        · rw [if_pos c11] at h
          refine ax_lv cx [] rfl ?_
          cases h
          exact hJ
        · rw [if_neg c11] at h
          refine ax_aload_n cx 0 dX0_fillField_36 rfl rfl ?_
          refine ax_aload_n cx 0 dX0_fillField_37 rfl rfl ?_
          refine ax_aload_n cx 1 dX0_fillField_38 rfl rfl ?_
          refine ax_iconst cx dX0_fillField_39 ?_
          obtain ⟨t12, e13, h⟩ := ob h
          refine ax_callV (As := [.ref (ad 23), iV (1)]) (q := 26) (ci := 0) (n := 2) cx (kX0_search l ad M 1 _ e13) gX0_fillField_X0_search rfl ⟨by decide, by decide⟩ rfl rfl ⟨rfl, rfl⟩ (by decide +kernel) rfl ⟨by decide, by decide⟩ rfl (Nat.le_of_ble_eq_true rfl) dX0_fillField_40 ?_
          obtain ⟨t14, e15, h⟩ := ob h
          refine ax_callV (As := [iV (t12.1)]) (q := 26) (ci := 0) (n := 1) cx (kX0_nearestOutside l ad t12.2 t12.1 _ e15) gX0_fillField_X0_nearestOutside rfl ⟨by decide, by decide⟩ rfl rfl ⟨rfl, rfl⟩ (by decide +kernel) rfl ⟨by decide, by decide⟩ rfl (Nat.le_of_ble_eq_true rfl) dX0_fillField_43 ?_
          refine ax_istore (lv' := [(4, iV (t14)), (0, .ref (ad 26)), (1, .ref (ad 23)), (2, iV (x2)), (3, iV (x3))]) cx dX0_fillField_46 (by decide) rfl ?_
          refine ax_iload cx 0 dX0_fillField_48 rfl ?_
          refine ax_iconst cx dX0_fillField_50 ?_
          obtain ⟨g16, h⟩ := gd_some h
          obtain ⟨t18, e20, h⟩ := ob h
          have J19 : G t12.2 59 [(0, .ref (ad 26)), (1, .ref (ad 23)), (3, iV (x3)), (4, iV (t14))] [iV (t18)] := by
            refine ax_istore_n (lv' := [(2, iV (t18)), (0, .ref (ad 26)), (1, .ref (ad 23)), (3, iV (x3)), (4, iV (t14))]) cx dX0_fillField_59 rfl (by decide) rfl ?_
            refine ax_iload_n cx 0 dX0_fillField_60 rfl rfl ?_
            obtain ⟨g21, h⟩ := gd_some h
            obtain ⟨t27, e29, h⟩ := ob h
            have J28 : G t27 78 [(0, .ref (ad 26)), (1, .ref (ad 23)), (2, iV (t18)), (3, iV (x3))] [] := by
              refine ax_iinc (lv' := [(3, iV (x3 + 1)), (0, .ref (ad 26)), (1, .ref (ad 23)), (2, iV (t18))]) cx 3 dX0_fillField_78 rfl (by decide) rfl ?_
              refine ax_goto cx 25 dX0_fillField_81 (by decide) ?_
              refine ax_lv cx [1, 2, 3, 0] rfl ?_
              exact ih _ _ _ _ h hJ
            clear h
            have h := e29
            clear e29
            refine ax_if_eq cx 78 dX0_fillField_61 (by decide) g21 (fun c22 => ?_) (fun c22 => ?_)
            · rw [if_pos c22] at h
              refine ax_lv cx [1, 2, 0, 3] rfl ?_
              cases h
              exact J28
            · rw [if_neg c22] at h
              refine ax_aload_n cx 1 dX0_fillField_64 rfl rfl ?_
              refine ax_aload_n cx 2 dX0_fillField_65 rfl rfl ?_
              refine ax_iload cx 4 dX0_fillField_66 rfl ?_
              refine ax_aload_n cx 1 dX0_fillField_68 rfl rfl ?_
              refine ax_aload_n cx 2 dX0_fillField_69 rfl rfl ?_
              refine ax_iload cx 4 dX0_fillField_70 rfl ?_
              obtain ⟨t23, e24, h⟩ := ob h
              refine ax_callV (As := [.ref (ad 23), iV (t14)]) (q := 26) (ci := 0) (n := 2) cx (kX0_mostAlong l ad t12.2 t14 _ e24) gX0_fillField_X0_mostAlong rfl ⟨by decide, by decide⟩ rfl rfl ⟨rfl, rfl⟩ (by decide +kernel) rfl ⟨by decide, by decide⟩ rfl (Nat.le_of_ble_eq_true rfl) dX0_fillField_72 ?_
              obtain ⟨t25, e26, h⟩ := ob h
              refine ax_callV (As := [.ref (ad 23), iV (t14), iV (t23)]) (q := 26) (ci := 0) (n := 3) cx (kX0_push l ad t12.2 t14 t23 _ e26) gX0_fillField_X0_push rfl ⟨by decide, by decide⟩ rfl rfl ⟨rfl, rfl⟩ (by decide +kernel) rfl ⟨by decide, by decide⟩ rfl (Nat.le_of_ble_eq_true rfl) dX0_fillField_75 ?_
              refine ax_lv cx [1, 2, 0, 3] rfl ?_
              cases h
              exact J28
          clear h
          have h := e20
          clear e20
          refine ax_icmp_eq cx 58 dX0_fillField_51 (by decide) g16 ⟨by decide, by decide⟩ (fun c17 => ?_) (fun c17 => ?_)
          · rw [if_pos c17] at h
            refine ax_iconst cx dX0_fillField_58 ?_
            refine ax_lv cx [1, 2, 4, 0] rfl ?_
            cases h
            exact J19
          · rw [if_neg c17] at h
            refine ax_iconst cx dX0_fillField_54 ?_
            refine ax_goto cx 59 dX0_fillField_55 (by decide) ?_
            refine ax_lv cx [1, 2, 4, 0] rfl ?_
            cases h
            exact J19
  unfold fX0_fillField at h
  refine ax_iconst cx dX0_fillField_0 ?_
  refine ax_istore_n (lv' := [(2, iV (0)), (0, .ref (ad 26)), (1, .ref (ad 23))]) cx dX0_fillField_1 rfl (by decide) rfl ?_
  obtain ⟨t5, e6, h⟩ := ob h
  refine ax_lv cx [1, 2, 0] rfl ?_
  have J7 : G t5 21 [(0, .ref (ad 26)), (1, .ref (ad 23))] [] := by
    refine ax_iconst cx dX0_fillField_21 ?_
    refine ax_istore_n (lv' := [(2, iV (1)), (0, .ref (ad 26)), (1, .ref (ad 23))]) cx dX0_fillField_22 rfl (by decide) rfl ?_
    refine ax_iconst cx dX0_fillField_23 ?_
    refine ax_istore_n (lv' := [(3, iV (0)), (2, iV (1)), (0, .ref (ad 26)), (1, .ref (ad 23))]) cx dX0_fillField_24 rfl (by decide) rfl ?_
    obtain ⟨t31, e32, h⟩ := ob h
    refine ax_lv cx [2, 3, 1, 0] rfl ?_
    have J33 : G t31 84 [] [] := by
      cases h
      exact ax_vret cx dX0_fillField_84 rfl ⟨rfl, rfl⟩
    exact L25 FU t5 1 0 _ e32 J33
  exact L2 FU M 0 _ e6 J7
def fX0_reached_L4 : Nat → Mem → Int64 → Int → Option (Int64)
  | 0, _, _, _ => none
  | n + 1, M, x1, x3 =>
    gd (inR (x3)) (
    if 36 ≤ x3 then (
      some (x1))
    else (
      gd (inB (x3) 36) (
      gd (inR (M 14 x3.toNat)) (
      Option.bind (if M 14 x3.toNat = (-1) then (
        some (x1))
      else (
        some (x1 ||| (llshl 1 x3)))) (fun t6 =>
      fX0_reached_L4 n M t6 (x3 + 1))))))
def fX0_reached (M : Mem)  : Option (Int64) :=
    Option.bind (fX0_reached_L4 FU M 0 0) (fun t10 =>
    some (t10))
abbrev rmX0_reached : Room := { frames := 0, cells := 0, slots := 0, locals := 0 }
theorem hl_X0_reached_18 : Cond.fieldLink RX0 18 "PlateauBench$Films" "cameBy" "[I" ∈ wsX0_reached := by decide +kernel
theorem hi_X0_reached_X0 : ∀ x ∈ u_ws RX0 TX0 4, x ∈ wsX0_reached := by decide +kernel
set_option maxRecDepth 100000 in
set_option maxHeartbeats 4000000 in
theorem kX0_reached (l : Launch) (ad : Nat → Nat) (M : Mem)  (T : Int64) (h : fX0_reached M  = some T) : MX l yX0_reached wsX0_reached rmX0_reached wC ad [.ref (ad 26)] M (some (.long (T))) M := by
  refine MX.of (cc := cX0_reached) (nL := 4) (rt := (some .long)) (own := RX0) (by decide +kernel) rfl rfl (Nat.le_of_ble_eq_true rfl) wC_ok (fun G cx => ?_)
  show G M 0 [(0, .ref (ad 26))] []
  have L4 : ∀ (n : Nat) (x1 : Int64) (x3 : Int) (T9 : Int64), fX0_reached_L4 n M x1 x3 = some T9 → (G M 32 [(1, .long (T9))] []) → G M 4 [(0, .ref (ad 26)), (1, .long (x1)), (3, iV (x3))] [] := by
    intro n
    induction n with
    | zero =>
      intro x1 x3 T9 h
      exact absurd h (by simp [fX0_reached_L4])
    | succ n ih =>
      intro x1 x3 T9 h hJ
      rw [fX0_reached_L4] at h
      refine ax_iload_n cx 2 dX0_reached_4 rfl rfl ?_
      refine ax_bipush (z := 36) cx dX0_reached_5 (by decide) ?_
      obtain ⟨g1, h⟩ := gd_some h
      refine ax_icmp_ge cx 32 dX0_reached_7 (by decide) g1 ⟨by decide, by decide⟩ (fun c2 => ?_) (fun c2 => ?_)
      · rw [if_pos c2] at h
        refine ax_lv cx [1] rfl ?_
        cases h
        exact hJ
      · rw [if_neg c2] at h
        refine ax_aload_n cx 0 dX0_reached_10 rfl rfl ?_
        refine ax_getf (q := 26) (ci := 0) (k := 2) (v := .ref (ad 14)) cx ⟨by decide, by decide⟩ rfl rfl hi_X0_reached_X0 (by decide) hl_X0_reached_18 rfl rfl dX0_reached_11 ?_
        refine ax_iload_n cx 2 dX0_reached_14 rfl rfl ?_
        obtain ⟨g3, h⟩ := gd_some h
        refine ax_iald (n := 36) cx (by decide) rfl rfl g3 dX0_reached_15 ?_
        refine ax_iconst cx dX0_reached_16 ?_
        obtain ⟨g4, h⟩ := gd_some h
        obtain ⟨t6, e8, h⟩ := ob h
        have J7 : G M 26 [(0, .ref (ad 26)), (1, .long (t6)), (3, iV (x3))] [] := by
          refine ax_iinc (lv' := [(3, iV (x3 + 1)), (0, .ref (ad 26)), (1, .long (t6))]) cx 2 dX0_reached_26 rfl (by decide) rfl ?_
          refine ax_goto cx 4 dX0_reached_29 (by decide) ?_
          refine ax_lv cx [1, 2, 0] rfl ?_
          exact ih _ _ _ h hJ
        clear h
        have h := e8
        clear e8
        refine ax_icmp_eq cx 26 dX0_reached_17 (by decide) g4 ⟨by decide, by decide⟩ (fun c5 => ?_) (fun c5 => ?_)
        · rw [if_pos c5] at h
          cases h
          exact J7
        · rw [if_neg c5] at h
          refine ax_lload_n cx 1 dX0_reached_20 rfl rfl ?_
          refine ax_lconst (v := 1) cx dX0_reached_21 rfl ?_
          refine ax_iload_n cx 2 dX0_reached_22 rfl rfl ?_
          refine ax_lshl cx dX0_reached_23 ?_
          refine ax_lor cx dX0_reached_24 ?_
          refine ax_lstore_n (lv' := [(1, .long (x1 ||| (llshl 1 x3))), (0, .ref (ad 26)), (3, iV (x3))]) cx dX0_reached_25 rfl (by decide) rfl ?_
          refine ax_lv cx [1, 0, 2] rfl ?_
          cases h
          exact J7
  unfold fX0_reached at h
  refine ax_lconst (v := 0) cx dX0_reached_0 rfl ?_
  refine ax_lstore_n (lv' := [(1, .long (0)), (0, .ref (ad 26))]) cx dX0_reached_1 rfl (by decide) rfl ?_
  refine ax_iconst cx dX0_reached_2 ?_
  refine ax_istore_n (lv' := [(3, iV (0)), (1, .long (0)), (0, .ref (ad 26))]) cx dX0_reached_3 rfl (by decide) rfl ?_
  obtain ⟨t10, e11, h⟩ := ob h
  refine ax_lv cx [2, 1, 0] rfl ?_
  have J12 : G M 32 [(1, .long (t10))] [] := by
    refine ax_lload_n cx 0 dX0_reached_32 rfl rfl ?_
    cases h
    exact ax_lret cx dX0_reached_33 rfl ⟨rfl, rfl⟩
  exact L4 FU 0 0 _ e11 J12
def fX0_smallest (M : Mem)  : Option (Int64 × Mem) :=
    Option.bind (fX0_fillField M) (fun t1 =>
    Option.bind (fX0_search t1 1) (fun t3 =>
    Option.bind (fX0_reached t3.2) (fun t5 =>
    some (t5, t3.2))))
abbrev rmX0_smallest : Room := { frames := 5, cells := 0, slots := 0, locals := 121 }
set_option maxRecDepth 100000 in
set_option maxHeartbeats 4000000 in
theorem kX0_smallest (l : Launch) (ad : Nat → Nat) (M : Mem)  (T : Int64 × Mem) (h : fX0_smallest M  = some T) : MX l yX0_smallest wsX0_smallest rmX0_smallest wC ad [.ref (ad 26), .ref (ad 23)] M (some (.long (T.1))) T.2 := by
  refine MX.of (cc := cX0_smallest) (nL := 2) (rt := (some .long)) (own := RX0) (by decide +kernel) rfl rfl (Nat.le_of_ble_eq_true rfl) wC_ok (fun G cx => ?_)
  show G M 0 [(0, .ref (ad 26)), (1, .ref (ad 23))] []
  unfold fX0_smallest at h
  refine ax_aload_n cx 0 dX0_smallest_0 rfl rfl ?_
  refine ax_aload_n cx 1 dX0_smallest_1 rfl rfl ?_
  obtain ⟨t1, e2, h⟩ := ob h
  refine ax_callV (As := [.ref (ad 23)]) (q := 26) (ci := 0) (n := 1) cx (kX0_fillField l ad M  _ e2) gX0_smallest_X0_fillField rfl ⟨by decide, by decide⟩ rfl rfl ⟨rfl, rfl⟩ (by decide +kernel) rfl ⟨by decide, by decide⟩ rfl (Nat.le_of_ble_eq_true rfl) dX0_smallest_2 ?_
  refine ax_aload_n cx 0 dX0_smallest_5 rfl rfl ?_
  refine ax_aload_n cx 1 dX0_smallest_6 rfl rfl ?_
  refine ax_iconst cx dX0_smallest_7 ?_
  obtain ⟨t3, e4, h⟩ := ob h
  refine ax_callV (As := [.ref (ad 23), iV (1)]) (q := 26) (ci := 0) (n := 2) cx (kX0_search l ad t1 1 _ e4) gX0_smallest_X0_search rfl ⟨by decide, by decide⟩ rfl rfl ⟨rfl, rfl⟩ (by decide +kernel) rfl ⟨by decide, by decide⟩ rfl (Nat.le_of_ble_eq_true rfl) dX0_smallest_8 ?_
  refine ax_pop cx dX0_smallest_11 rfl ?_
  refine ax_aload_n cx 0 dX0_smallest_12 rfl rfl ?_
  obtain ⟨t5, e6, h⟩ := ob h
  refine ax_callV (As := []) (q := 26) (ci := 0) (n := 0) cx (kX0_reached l ad t3.2  _ e6) gX0_smallest_X0_reached rfl ⟨by decide, by decide⟩ rfl rfl ⟨rfl, rfl⟩ (by decide +kernel) rfl ⟨by decide, by decide⟩ rfl (Nat.le_of_ble_eq_true rfl) dX0_smallest_13 ?_
  cases h
  exact ax_lret cx dX0_smallest_16 rfl ⟨rfl, rfl⟩
def fX0_greatest (M : Mem)  : Option (Int64 × Mem) :=
    Option.bind (fX0_fillField M) (fun t1 =>
    Option.bind (fX0_search t1 2) (fun t3 =>
    Option.bind (fX0_reached t3.2) (fun t5 =>
    some (68719476735 &&& (t5 ^^^ ((-1))), t3.2))))
abbrev rmX0_greatest : Room := { frames := 5, cells := 0, slots := 0, locals := 121 }
theorem hw_X0_greatest_k52 : Cond.constantLong RX0 52 (68719476735) ∈ wsX0_greatest := by decide +kernel
theorem hw_X0_greatest_k54 : Cond.constantLong RX0 54 (-1) ∈ wsX0_greatest := by decide +kernel
set_option maxRecDepth 100000 in
set_option maxHeartbeats 4000000 in
theorem kX0_greatest (l : Launch) (ad : Nat → Nat) (M : Mem)  (T : Int64 × Mem) (h : fX0_greatest M  = some T) : MX l yX0_greatest wsX0_greatest rmX0_greatest wC ad [.ref (ad 26), .ref (ad 23)] M (some (.long (T.1))) T.2 := by
  refine MX.of (cc := cX0_greatest) (nL := 2) (rt := (some .long)) (own := RX0) (by decide +kernel) rfl rfl (Nat.le_of_ble_eq_true rfl) wC_ok (fun G cx => ?_)
  show G M 0 [(0, .ref (ad 26)), (1, .ref (ad 23))] []
  unfold fX0_greatest at h
  refine ax_aload_n cx 0 dX0_greatest_0 rfl rfl ?_
  refine ax_aload_n cx 1 dX0_greatest_1 rfl rfl ?_
  obtain ⟨t1, e2, h⟩ := ob h
  refine ax_callV (As := [.ref (ad 23)]) (q := 26) (ci := 0) (n := 1) cx (kX0_fillField l ad M  _ e2) gX0_greatest_X0_fillField rfl ⟨by decide, by decide⟩ rfl rfl ⟨rfl, rfl⟩ (by decide +kernel) rfl ⟨by decide, by decide⟩ rfl (Nat.le_of_ble_eq_true rfl) dX0_greatest_2 ?_
  refine ax_aload_n cx 0 dX0_greatest_5 rfl rfl ?_
  refine ax_aload_n cx 1 dX0_greatest_6 rfl rfl ?_
  refine ax_iconst cx dX0_greatest_7 ?_
  obtain ⟨t3, e4, h⟩ := ob h
  refine ax_callV (As := [.ref (ad 23), iV (2)]) (q := 26) (ci := 0) (n := 2) cx (kX0_search l ad t1 2 _ e4) gX0_greatest_X0_search rfl ⟨by decide, by decide⟩ rfl rfl ⟨rfl, rfl⟩ (by decide +kernel) rfl ⟨by decide, by decide⟩ rfl (Nat.le_of_ble_eq_true rfl) dX0_greatest_8 ?_
  refine ax_pop cx dX0_greatest_11 rfl ?_
  refine ax_ldc2 (v := 68719476735) cx dX0_greatest_12 hw_X0_greatest_k52 ?_
  refine ax_aload_n cx 0 dX0_greatest_15 rfl rfl ?_
  obtain ⟨t5, e6, h⟩ := ob h
  refine ax_callV (As := []) (q := 26) (ci := 0) (n := 0) cx (kX0_reached l ad t3.2  _ e6) gX0_greatest_X0_reached rfl ⟨by decide, by decide⟩ rfl rfl ⟨rfl, rfl⟩ (by decide +kernel) rfl ⟨by decide, by decide⟩ rfl (Nat.le_of_ble_eq_true rfl) dX0_greatest_16 ?_
  refine ax_ldc2 (v := -1) cx dX0_greatest_19 hw_X0_greatest_k54 ?_
  refine ax_lxor cx dX0_greatest_22 ?_
  refine ax_land cx dX0_greatest_23 ?_
  cases h
  exact ax_lret cx dX0_greatest_24 rfl ⟨rfl, rfl⟩
def fX0_proved_L9 : Nat → Mem → Int → Int → Option (Int)
  | 0, _, _, _ => none
  | n + 1, M, x2, x3 =>
    gd (inR (x3)) (
    if 60 ≤ x3 then (
      some (x2))
    else (
      Option.bind (fX2_low M x3) (fun t5 =>
      gd (inB (t5) 36) (
      gd (inR (M 12 t5.toNat)) (
      Option.bind (if M 12 t5.toNat = 1 then (
        gd (inB (x3) 60) (
        some (x2 + (M 13 x3.toNat))))
      else (
        some (x2))) (fun t11 =>
      Option.bind (fX2_high M x3) (fun t14 =>
      gd (inB (t14) 36) (
      gd (inR (M 12 t14.toNat)) (
      Option.bind (if M 12 t14.toNat = 1 then (
        gd (inB (x3) 60) (
        some (t11 - (M 13 x3.toNat))))
      else (
        some (t11))) (fun t20 =>
      fX0_proved_L9 n M t20 (x3 + 1)))))))))))
def fX0_proved (M : Mem)  : Option (Int × Mem) :=
    Option.bind (fX0_fillField M) (fun t1 =>
    Option.bind (fX0_proved_L9 FU t1 0 0) (fun t24 =>
    some (t24, t1)))
abbrev rmX0_proved : Room := { frames := 5, cells := 0, slots := 0, locals := 121 }
theorem hl_X0_proved_9 : Cond.fieldLink RX0 9 "PlateauBench$Films" "pinned" "[I" ∈ wsX0_proved := by decide +kernel
theorem hl_X0_proved_15 : Cond.fieldLink RX0 15 "PlateauBench$Films" "flow" "[I" ∈ wsX0_proved := by decide +kernel
theorem hi_X0_proved_X0 : ∀ x ∈ u_ws RX0 TX0 4, x ∈ wsX0_proved := by decide +kernel
set_option maxRecDepth 100000 in
set_option maxHeartbeats 4000000 in
theorem kX0_proved (l : Launch) (ad : Nat → Nat) (M : Mem)  (T : Int × Mem) (h : fX0_proved M  = some T) : MX l yX0_proved wsX0_proved rmX0_proved wC ad [.ref (ad 26), .ref (ad 23)] M (some (iV (T.1))) T.2 := by
  refine MX.of (cc := cX0_proved) (nL := 4) (rt := (some .int)) (own := RX0) (by decide +kernel) rfl rfl (Nat.le_of_ble_eq_true rfl) wC_ok (fun G cx => ?_)
  show G M 0 [(0, .ref (ad 26)), (1, .ref (ad 23))] []
  have L9 : ∀ (n : Nat) (M : Mem) (x2 : Int) (x3 : Int) (T23 : Int), fX0_proved_L9 n M x2 x3 = some T23 → (G M 67 [(2, iV (T23))] []) → G M 9 [(0, .ref (ad 26)), (1, .ref (ad 23)), (2, iV (x2)), (3, iV (x3))] [] := by
    intro n
    induction n with
    | zero =>
      intro M x2 x3 T23 h
      exact absurd h (by simp [fX0_proved_L9])
    | succ n ih =>
      intro M x2 x3 T23 h hJ
      rw [fX0_proved_L9] at h
      refine ax_iload_n cx 3 dX0_proved_9 rfl rfl ?_
      refine ax_bipush (z := 60) cx dX0_proved_10 (by decide) ?_
      obtain ⟨g3, h⟩ := gd_some h
      refine ax_icmp_ge cx 67 dX0_proved_12 (by decide) g3 ⟨by decide, by decide⟩ (fun c4 => ?_) (fun c4 => ?_)
      · rw [if_pos c4] at h
        refine ax_lv cx [2] rfl ?_
        cases h
        exact hJ
      · rw [if_neg c4] at h
        refine ax_aload_n cx 0 dX0_proved_15 rfl rfl ?_
        refine ax_getf (q := 26) (ci := 0) (k := 0) (v := .ref (ad 12)) cx ⟨by decide, by decide⟩ rfl rfl hi_X0_proved_X0 (by decide) hl_X0_proved_9 rfl rfl dX0_proved_16 ?_
        refine ax_aload_n cx 1 dX0_proved_19 rfl rfl ?_
        refine ax_iload_n cx 3 dX0_proved_20 rfl rfl ?_
        obtain ⟨t5, e6, h⟩ := ob h
        refine ax_callV (As := [iV (x3)]) (q := 23) (ci := 2) (n := 1) cx (kX2_low l ad M x3 _ e6) gX0_proved_X2_low rfl ⟨by decide, by decide⟩ rfl rfl ⟨rfl, rfl⟩ (by decide +kernel) rfl ⟨by decide, by decide⟩ rfl (Nat.le_of_ble_eq_true rfl) dX0_proved_21 ?_
        obtain ⟨g7, h⟩ := gd_some h
        refine ax_iald (n := 36) cx (by decide) rfl rfl g7 dX0_proved_24 ?_
        refine ax_iconst cx dX0_proved_25 ?_
        obtain ⟨g8, h⟩ := gd_some h
        obtain ⟨t11, e13, h⟩ := ob h
        have J12 : G M 38 [(0, .ref (ad 26)), (1, .ref (ad 23)), (2, iV (t11)), (3, iV (x3))] [] := by
          refine ax_aload_n cx 0 dX0_proved_38 rfl rfl ?_
          refine ax_getf (q := 26) (ci := 0) (k := 0) (v := .ref (ad 12)) cx ⟨by decide, by decide⟩ rfl rfl hi_X0_proved_X0 (by decide) hl_X0_proved_9 rfl rfl dX0_proved_39 ?_
          refine ax_aload_n cx 1 dX0_proved_42 rfl rfl ?_
          refine ax_iload_n cx 3 dX0_proved_43 rfl rfl ?_
          obtain ⟨t14, e15, h⟩ := ob h
          refine ax_callV (As := [iV (x3)]) (q := 23) (ci := 2) (n := 1) cx (kX2_high l ad M x3 _ e15) gX0_proved_X2_high rfl ⟨by decide, by decide⟩ rfl rfl ⟨rfl, rfl⟩ (by decide +kernel) rfl ⟨by decide, by decide⟩ rfl (Nat.le_of_ble_eq_true rfl) dX0_proved_44 ?_
          obtain ⟨g16, h⟩ := gd_some h
          refine ax_iald (n := 36) cx (by decide) rfl rfl g16 dX0_proved_47 ?_
          refine ax_iconst cx dX0_proved_48 ?_
          obtain ⟨g17, h⟩ := gd_some h
          obtain ⟨t20, e22, h⟩ := ob h
          have J21 : G M 61 [(0, .ref (ad 26)), (1, .ref (ad 23)), (2, iV (t20)), (3, iV (x3))] [] := by
            refine ax_iinc (lv' := [(3, iV (x3 + 1)), (0, .ref (ad 26)), (1, .ref (ad 23)), (2, iV (t20))]) cx 3 dX0_proved_61 rfl (by decide) rfl ?_
            refine ax_goto cx 9 dX0_proved_64 (by decide) ?_
            refine ax_lv cx [1, 2, 3, 0] rfl ?_
            exact ih _ _ _ _ h hJ
          clear h
          have h := e22
          clear e22
          refine ax_icmp_ne cx 61 dX0_proved_49 (by decide) g17 ⟨by decide, by decide⟩ (fun c18 => ?_) (fun c18 => ?_)
          · rw [if_pos c18] at h
            refine ax_iload_n cx 2 dX0_proved_52 rfl rfl ?_
            refine ax_aload_n cx 0 dX0_proved_53 rfl rfl ?_
            refine ax_getf (q := 26) (ci := 0) (k := 1) (v := .ref (ad 13)) cx ⟨by decide, by decide⟩ rfl rfl hi_X0_proved_X0 (by decide) hl_X0_proved_15 rfl rfl dX0_proved_54 ?_
            refine ax_iload_n cx 3 dX0_proved_57 rfl rfl ?_
            obtain ⟨g19, h⟩ := gd_some h
            refine ax_iald (n := 60) cx (by decide) rfl rfl g19 dX0_proved_58 ?_
            refine ax_isub cx dX0_proved_59 ?_
            refine ax_istore_n (lv' := [(2, iV (t11 - (M 13 x3.toNat))), (0, .ref (ad 26)), (1, .ref (ad 23)), (3, iV (x3))]) cx dX0_proved_60 rfl (by decide) rfl ?_
            refine ax_lv cx [1, 2, 0, 3] rfl ?_
            cases h
            exact J21
          · rw [if_neg c18] at h
            cases h
            exact J21
        clear h
        have h := e13
        clear e13
        refine ax_icmp_ne cx 38 dX0_proved_26 (by decide) g8 ⟨by decide, by decide⟩ (fun c9 => ?_) (fun c9 => ?_)
        · rw [if_pos c9] at h
          refine ax_iload_n cx 2 dX0_proved_29 rfl rfl ?_
          refine ax_aload_n cx 0 dX0_proved_30 rfl rfl ?_
          refine ax_getf (q := 26) (ci := 0) (k := 1) (v := .ref (ad 13)) cx ⟨by decide, by decide⟩ rfl rfl hi_X0_proved_X0 (by decide) hl_X0_proved_15 rfl rfl dX0_proved_31 ?_
          refine ax_iload_n cx 3 dX0_proved_34 rfl rfl ?_
          obtain ⟨g10, h⟩ := gd_some h
          refine ax_iald (n := 60) cx (by decide) rfl rfl g10 dX0_proved_35 ?_
          refine ax_iadd cx dX0_proved_36 ?_
          refine ax_istore_n (lv' := [(2, iV (x2 + (M 13 x3.toNat))), (0, .ref (ad 26)), (1, .ref (ad 23)), (3, iV (x3))]) cx dX0_proved_37 rfl (by decide) rfl ?_
          refine ax_lv cx [1, 2, 0, 3] rfl ?_
          cases h
          exact J12
        · rw [if_neg c9] at h
          cases h
          exact J12
  unfold fX0_proved at h
  refine ax_aload_n cx 0 dX0_proved_0 rfl rfl ?_
  refine ax_aload_n cx 1 dX0_proved_1 rfl rfl ?_
  obtain ⟨t1, e2, h⟩ := ob h
  refine ax_callV (As := [.ref (ad 23)]) (q := 26) (ci := 0) (n := 1) cx (kX0_fillField l ad M  _ e2) gX0_proved_X0_fillField rfl ⟨by decide, by decide⟩ rfl rfl ⟨rfl, rfl⟩ (by decide +kernel) rfl ⟨by decide, by decide⟩ rfl (Nat.le_of_ble_eq_true rfl) dX0_proved_2 ?_
  refine ax_iconst cx dX0_proved_5 ?_
  refine ax_istore_n (lv' := [(2, iV (0)), (0, .ref (ad 26)), (1, .ref (ad 23))]) cx dX0_proved_6 rfl (by decide) rfl ?_
  refine ax_iconst cx dX0_proved_7 ?_
  refine ax_istore_n (lv' := [(3, iV (0)), (2, iV (0)), (0, .ref (ad 26)), (1, .ref (ad 23))]) cx dX0_proved_8 rfl (by decide) rfl ?_
  obtain ⟨t24, e25, h⟩ := ob h
  refine ax_lv cx [2, 3, 1, 0] rfl ?_
  have J26 : G t1 67 [(2, iV (t24))] [] := by
    refine ax_iload_n cx 0 dX0_proved_67 rfl rfl ?_
    cases h
    exact ax_iret cx dX0_proved_68 rfl ⟨rfl, rfl⟩
  exact L9 FU t1 0 0 _ e25 J26
