def fX4_cheapest (M : Mem) (x2 : Int) (x3 : Int) : Option (Int × Mem) :=
    Option.bind (fX2_measure M 5 0 x2) (fun t1 =>
    gd (inB (x3) 36) (
    some (t1 5 x3.toNat, t1)))
abbrev rmX4_cheapest : Room := { frames := 3, cells := 0, slots := 0, locals := 75 }
theorem hl_X4_cheapest_9 : Cond.fieldLink RX4 9 "PlateauBench$TwoWays" "row" "[I" ∈ wsX4_cheapest := by decide +kernel
theorem hi_X4_cheapest_X4 : ∀ x ∈ u_ws RX4 TX4 2, x ∈ wsX4_cheapest := by decide +kernel
set_option maxRecDepth 100000 in
set_option maxHeartbeats 4000000 in
theorem kX4_cheapest (l : Launch) (ad : Nat → Nat) (M : Mem) (x2 : Int) (x3 : Int) (T : Int × Mem) (h : fX4_cheapest M x2 x3 = some T) : MX l yX4_cheapest wsX4_cheapest rmX4_cheapest wC ad [.ref (ad 24), .ref (ad 23), iV (x2), iV (x3)] M (some (iV (T.1))) T.2 := by
  refine MX.of (cc := cX4_cheapest) (nL := 4) (rt := (some .int)) (own := RX4) (by decide +kernel) rfl rfl (Nat.le_of_ble_eq_true rfl) wC_ok (fun G cx => ?_)
  show G M 0 [(0, .ref (ad 24)), (1, .ref (ad 23)), (2, iV (x2)), (3, iV (x3))] []
  unfold fX4_cheapest at h
  refine ax_aload_n cx 1 dX4_cheapest_0 rfl rfl ?_
  refine ax_aload_n cx 0 dX4_cheapest_1 rfl rfl ?_
  refine ax_getf (q := 24) (ci := 4) (k := 0) (v := .ref (ad 5)) cx ⟨by decide, by decide⟩ rfl rfl hi_X4_cheapest_X4 (by decide) hl_X4_cheapest_9 rfl rfl dX4_cheapest_2 ?_
  refine ax_iconst cx dX4_cheapest_5 ?_
  refine ax_iload_n cx 2 dX4_cheapest_6 rfl rfl ?_
  obtain ⟨t1, e2, h⟩ := ob h
  refine ax_callV (As := [.ref (ad 5), iV (0), iV (x2)]) (q := 23) (ci := 2) (n := 3) cx (kX2_measure l ad M 5 0 x2 _ e2) gX4_cheapest_X2_measure rfl ⟨by decide, by decide⟩ rfl rfl ⟨rfl, rfl⟩ (by decide +kernel) rfl ⟨by decide, by decide⟩ rfl (Nat.le_of_ble_eq_true rfl) dX4_cheapest_7 ?_
  refine ax_aload_n cx 0 dX4_cheapest_10 rfl rfl ?_
  refine ax_getf (q := 24) (ci := 4) (k := 0) (v := .ref (ad 5)) cx ⟨by decide, by decide⟩ rfl rfl hi_X4_cheapest_X4 (by decide) hl_X4_cheapest_9 rfl rfl dX4_cheapest_11 ?_
  refine ax_iload_n cx 3 dX4_cheapest_14 rfl rfl ?_
  obtain ⟨g3, h⟩ := gd_some h
  refine ax_iald (n := 36) cx (by decide) rfl rfl g3 dX4_cheapest_15 ?_
  cases h
  exact ax_iret cx dX4_cheapest_16 rfl ⟨rfl, rfl⟩
def fX4_stepBack_L2 : Nat → Mem → Int → Int → Option ((Int × Mem) ⊕ (Mem))
  | 0, _, _, _ => none
  | n + 1, M, x2, x3 =>
    gd (inR (x3)) (
    if 4 ≤ x3 then (
      some (.inr (M)))
    else (
      Option.bind (fX2_beside M x2 x3) (fun t3 =>
      gd (inR (t3)) (
      if t3 = (-1) then (
        fX4_stepBack_L2 n M x2 (x3 + 1))
      else (
        Option.bind (fX2_otherEnd M t3 x2) (fun t7 =>
        gd (inB (t7) 36) (
        Option.bind (fX2_price M t3) (fun t10 =>
        gd (inB (x2) 36) (
        gd (inR ((M 5 t7.toNat) + t10)) (
        gd (inR (M 5 x2.toNat)) (
        if (M 5 t7.toNat) + t10 = M 5 x2.toNat then (
          Option.bind (if x2 ≤ t7 then (
            some ((-1)))
          else (
            some (1))) (fun t17 =>
          gd (inB (t3) 60) (
          some (.inl (t7, (wr M 6 t3.toNat t17))))))
        else (
          fX4_stepBack_L2 n M x2 (x3 + 1)))))))))))))
def fX4_stepBack (M : Mem) (x2 : Int) : Option (Int × Mem) :=
    Option.bind (fX4_stepBack_L2 FU M x2 0) (fun t22 => t22.elim (fun rr => some rr) (fun o24 =>
    some (x2, o24)))
abbrev rmX4_stepBack : Room := { frames := 1, cells := 0, slots := 0, locals := 22 }
theorem hl_X4_stepBack_9 : Cond.fieldLink RX4 9 "PlateauBench$TwoWays" "row" "[I" ∈ wsX4_stepBack := by decide +kernel
theorem hl_X4_stepBack_15 : Cond.fieldLink RX4 15 "PlateauBench$TwoWays" "taken" "[I" ∈ wsX4_stepBack := by decide +kernel
theorem hi_X4_stepBack_X4 : ∀ x ∈ u_ws RX4 TX4 2, x ∈ wsX4_stepBack := by decide +kernel
set_option maxRecDepth 100000 in
set_option maxHeartbeats 4000000 in
theorem kX4_stepBack (l : Launch) (ad : Nat → Nat) (M : Mem) (x2 : Int) (T : Int × Mem) (h : fX4_stepBack M x2 = some T) : MX l yX4_stepBack wsX4_stepBack rmX4_stepBack wC ad [.ref (ad 24), .ref (ad 23), iV (x2)] M (some (iV (T.1))) T.2 := by
  refine MX.of (cc := cX4_stepBack) (nL := 6) (rt := (some .int)) (own := RX4) (by decide +kernel) rfl rfl (Nat.le_of_ble_eq_true rfl) wC_ok (fun G cx => ?_)
  show G M 0 [(0, .ref (ad 24)), (1, .ref (ad 23)), (2, iV (x2))] []
  have L2 : ∀ (n : Nat) (M : Mem) (x2 : Int) (x3 : Int) (T21 : (Int × Mem) ⊕ (Mem)), fX4_stepBack_L2 n M x2 x3 = some T21 → (∀ rr, T21 = .inl rr → ((some (iV (rr.1)) : Option Value) = (some (iV (T.1)) : Option Value)) ∧ (rr.2 = T.2)) → (∀ T21o, T21 = .inr T21o → G T21o 80 [(2, iV (x2))] []) → G M 2 [(0, .ref (ad 24)), (1, .ref (ad 23)), (2, iV (x2)), (3, iV (x3))] [] := by
    intro n
    induction n with
    | zero =>
      intro M x2 x3 T21 h
      exact absurd h (by simp [fX4_stepBack_L2])
    | succ n ih =>
      intro M x2 x3 T21 h hR hJ
      rw [fX4_stepBack_L2] at h
      refine ax_iload_n cx 3 dX4_stepBack_2 rfl rfl ?_
      refine ax_iconst cx dX4_stepBack_3 ?_
      obtain ⟨g1, h⟩ := gd_some h
      refine ax_icmp_ge cx 80 dX4_stepBack_4 (by decide) g1 ⟨by decide, by decide⟩ (fun c2 => ?_) (fun c2 => ?_)
      · rw [if_pos c2] at h
        refine ax_lv cx [2] rfl ?_
        cases h
        exact hJ _ rfl
      · rw [if_neg c2] at h
        refine ax_aload_n cx 1 dX4_stepBack_7 rfl rfl ?_
        refine ax_iload_n cx 2 dX4_stepBack_8 rfl rfl ?_
        refine ax_iload_n cx 3 dX4_stepBack_9 rfl rfl ?_
        obtain ⟨t3, e4, h⟩ := ob h
        refine ax_callV (As := [iV (x2), iV (x3)]) (q := 23) (ci := 2) (n := 2) cx (kX2_beside l ad M x2 x3 _ e4) gX4_stepBack_X2_beside rfl ⟨by decide, by decide⟩ rfl rfl ⟨rfl, rfl⟩ (by decide +kernel) rfl ⟨by decide, by decide⟩ rfl (Nat.le_of_ble_eq_true rfl) dX4_stepBack_10 ?_
        refine ax_istore (lv' := [(4, iV (t3)), (0, .ref (ad 24)), (1, .ref (ad 23)), (2, iV (x2)), (3, iV (x3))]) cx dX4_stepBack_13 (by decide) rfl ?_
        refine ax_iload cx 0 dX4_stepBack_15 rfl ?_
        refine ax_iconst cx dX4_stepBack_17 ?_
        obtain ⟨g5, h⟩ := gd_some h
        refine ax_icmp_eq cx 74 dX4_stepBack_18 (by decide) g5 ⟨by decide, by decide⟩ (fun c6 => ?_) (fun c6 => ?_)
        · rw [if_pos c6] at h
          refine ax_iinc (lv' := [(3, iV (x3 + 1)), (4, iV (t3)), (0, .ref (ad 24)), (1, .ref (ad 23)), (2, iV (x2))]) cx 4 dX4_stepBack_74 rfl (by decide) rfl ?_
          refine ax_goto cx 2 dX4_stepBack_77 (by decide) ?_
          refine ax_lv cx [2, 3, 4, 0] rfl ?_
          exact ih _ _ _ _ h hR hJ
        · rw [if_neg c6] at h
          refine ax_aload_n cx 2 dX4_stepBack_21 rfl rfl ?_
          refine ax_iload cx 0 dX4_stepBack_22 rfl ?_
          refine ax_iload_n cx 3 dX4_stepBack_24 rfl rfl ?_
          obtain ⟨t7, e8, h⟩ := ob h
          refine ax_callV (As := [iV (t3), iV (x2)]) (q := 23) (ci := 2) (n := 2) cx (kX2_otherEnd l ad M t3 x2 _ e8) gX4_stepBack_X2_otherEnd rfl ⟨by decide, by decide⟩ rfl rfl ⟨rfl, rfl⟩ (by decide +kernel) rfl ⟨by decide, by decide⟩ rfl (Nat.le_of_ble_eq_true rfl) dX4_stepBack_25 ?_
          refine ax_istore (lv' := [(5, iV (t7)), (4, iV (t3)), (0, .ref (ad 24)), (1, .ref (ad 23)), (2, iV (x2)), (3, iV (x3))]) cx dX4_stepBack_28 (by decide) rfl ?_
          refine ax_aload_n cx 2 dX4_stepBack_30 rfl rfl ?_
          refine ax_getf (q := 24) (ci := 4) (k := 0) (v := .ref (ad 5)) cx ⟨by decide, by decide⟩ rfl rfl hi_X4_stepBack_X4 (by decide) hl_X4_stepBack_9 rfl rfl dX4_stepBack_31 ?_
          refine ax_iload cx 0 dX4_stepBack_34 rfl ?_
          obtain ⟨g9, h⟩ := gd_some h
          refine ax_iald (n := 36) cx (by decide) rfl rfl g9 dX4_stepBack_36 ?_
          refine ax_aload_n cx 3 dX4_stepBack_37 rfl rfl ?_
          refine ax_iload cx 1 dX4_stepBack_38 rfl ?_
          obtain ⟨t10, e11, h⟩ := ob h
          refine ax_callV (As := [iV (t3)]) (q := 23) (ci := 2) (n := 1) cx (kX2_price l ad M t3 _ e11) gX4_stepBack_X2_price rfl ⟨by decide, by decide⟩ rfl rfl ⟨rfl, rfl⟩ (by decide +kernel) rfl ⟨by decide, by decide⟩ rfl (Nat.le_of_ble_eq_true rfl) dX4_stepBack_40 ?_
          refine ax_iadd cx dX4_stepBack_43 ?_
          refine ax_aload_n cx 2 dX4_stepBack_44 rfl rfl ?_
          refine ax_getf (q := 24) (ci := 4) (k := 0) (v := .ref (ad 5)) cx ⟨by decide, by decide⟩ rfl rfl hi_X4_stepBack_X4 (by decide) hl_X4_stepBack_9 rfl rfl dX4_stepBack_45 ?_
          refine ax_iload_n cx 4 dX4_stepBack_48 rfl rfl ?_
          obtain ⟨g12, h⟩ := gd_some h
          refine ax_iald (n := 36) cx (by decide) rfl rfl g12 dX4_stepBack_49 ?_
          obtain ⟨g13, h⟩ := gd_some h
          obtain ⟨g14, h⟩ := gd_some h
          refine ax_icmp_ne cx 74 dX4_stepBack_50 (by decide) g13 g14 (fun c15 => ?_) (fun c15 => ?_)
          · rw [if_pos c15] at h
            refine ax_aload_n cx 2 dX4_stepBack_53 rfl rfl ?_
            refine ax_getf (q := 24) (ci := 4) (k := 1) (v := .ref (ad 6)) cx ⟨by decide, by decide⟩ rfl rfl hi_X4_stepBack_X4 (by decide) hl_X4_stepBack_15 rfl rfl dX4_stepBack_54 ?_
            refine ax_iload cx 1 dX4_stepBack_57 rfl ?_
            refine ax_iload cx 0 dX4_stepBack_59 rfl ?_
            refine ax_iload_n cx 4 dX4_stepBack_61 rfl rfl ?_
            obtain ⟨t17, e19, h⟩ := ob h
            have J18 : G M 70 [(5, iV (t7))] [iV (t17), iV (t3), .ref (ad 6)] := by
              obtain ⟨g20, h⟩ := gd_some h
              refine ax_iast (n := 60) cx (by decide) rfl rfl g20 dX4_stepBack_70 ?_
              refine ax_iload cx 0 dX4_stepBack_71 rfl ?_
              cases h
              exact ax_iret cx dX4_stepBack_73 rfl (hR _ rfl)
            clear h
            have h := e19
            clear e19
            refine ax_icmp_ge cx 69 dX4_stepBack_62 (by decide) ⟨by have := g9.1; omega, by have := g9.2; omega⟩ ⟨by have := g12.1; omega, by have := g12.2; omega⟩ (fun c16 => ?_) (fun c16 => ?_)
            · rw [if_pos c16] at h
              refine ax_iconst cx dX4_stepBack_69 ?_
              refine ax_lv cx [0] rfl ?_
              cases h
              exact J18
            · rw [if_neg c16] at h
              refine ax_iconst cx dX4_stepBack_65 ?_
              refine ax_goto cx 70 dX4_stepBack_66 (by decide) ?_
              refine ax_lv cx [0] rfl ?_
              cases h
              exact J18
          · rw [if_neg c15] at h
            refine ax_iinc (lv' := [(3, iV (x3 + 1)), (5, iV (t7)), (4, iV (t3)), (0, .ref (ad 24)), (1, .ref (ad 23)), (2, iV (x2))]) cx 5 dX4_stepBack_74 rfl (by decide) rfl ?_
            refine ax_goto cx 2 dX4_stepBack_77 (by decide) ?_
            refine ax_lv cx [3, 4, 5, 0] rfl ?_
            exact ih _ _ _ _ h hR hJ
  unfold fX4_stepBack at h
  refine ax_iconst cx dX4_stepBack_0 ?_
  refine ax_istore_n (lv' := [(3, iV (0)), (0, .ref (ad 24)), (1, .ref (ad 23)), (2, iV (x2))]) cx dX4_stepBack_1 rfl (by decide) rfl ?_
  obtain ⟨t22, e23, h⟩ := ob h
  refine ax_lv cx [1, 2, 3, 0] rfl ?_
  cases t22 with
  | inl rr =>
    exact L2 FU M x2 0 _ e23 (fun r2 e2 => by cases e2; cases h; exact ⟨rfl, rfl⟩) (fun o2 e2 => by cases e2)
  | inr o24 =>
    refine L2 FU M x2 0 _ e23 (fun r2 e2 => by cases e2) (fun o2 e2 => ?_)
    cases e2
    refine ax_iload_n cx 0 dX4_stepBack_80 rfl rfl ?_
    cases h
    exact ax_iret cx dX4_stepBack_81 rfl ⟨rfl, rfl⟩
def fX4_takeWayBack_L2 : Nat → Mem → Int → Int → Option (Mem)
  | 0, _, _, _ => none
  | n + 1, M, x2, x3 =>
    gd (inR (x3)) (
    if 60 ≤ x3 then (
      some (M))
    else (
      gd (inB (x3) 60) (
      fX4_takeWayBack_L2 n (wr M 6 x3.toNat 0) x2 (x3 + 1))))
def fX4_takeWayBack_L26 : Nat → Mem → Int → Int → Option (Mem)
  | 0, _, _, _ => none
  | n + 1, M, x3, x4 =>
    gd (inR (x4)) (
    if 36 ≤ x4 then (
      some (M))
    else (
      gd (inB (x3) 36) (
      gd (inR (M 5 x3.toNat)) (
      if M 5 x3.toNat ≤ 0 then (
        some (M))
      else (
        Option.bind (fX4_stepBack M x3) (fun t13 =>
        fX4_takeWayBack_L26 n t13.2 t13.1 (x4 + 1)))))))
def fX4_takeWayBack (M : Mem) (x2 : Int) : Option (Mem) :=
    Option.bind (fX4_takeWayBack_L2 FU M x2 0) (fun t5 =>
    Option.bind (fX4_takeWayBack_L26 FU t5 x2 0) (fun t16 =>
    some (t16)))
abbrev rmX4_takeWayBack : Room := { frames := 2, cells := 0, slots := 0, locals := 47 }
theorem hl_X4_takeWayBack_15 : Cond.fieldLink RX4 15 "PlateauBench$TwoWays" "taken" "[I" ∈ wsX4_takeWayBack := by decide +kernel
theorem hl_X4_takeWayBack_9 : Cond.fieldLink RX4 9 "PlateauBench$TwoWays" "row" "[I" ∈ wsX4_takeWayBack := by decide +kernel
theorem hi_X4_takeWayBack_X4 : ∀ x ∈ u_ws RX4 TX4 2, x ∈ wsX4_takeWayBack := by decide +kernel
set_option maxRecDepth 100000 in
set_option maxHeartbeats 4000000 in
theorem kX4_takeWayBack (l : Launch) (ad : Nat → Nat) (M : Mem) (x2 : Int) (T : Mem) (h : fX4_takeWayBack M x2 = some T) : MX l yX4_takeWayBack wsX4_takeWayBack rmX4_takeWayBack wC ad [.ref (ad 24), .ref (ad 23), iV (x2)] M none T := by
  refine MX.of (cc := cX4_takeWayBack) (nL := 5) (rt := none) (own := RX4) (by decide +kernel) rfl rfl (Nat.le_of_ble_eq_true rfl) wC_ok (fun G cx => ?_)
  show G M 0 [(0, .ref (ad 24)), (1, .ref (ad 23)), (2, iV (x2))] []
  have L2 : ∀ (n : Nat) (M : Mem) (x2 : Int) (x3 : Int) (T4 : Mem), fX4_takeWayBack_L2 n M x2 x3 = some T4 → (G T4 21 [(0, .ref (ad 24)), (1, .ref (ad 23)), (2, iV (x2))] []) → G M 2 [(0, .ref (ad 24)), (1, .ref (ad 23)), (2, iV (x2)), (3, iV (x3))] [] := by
    intro n
    induction n with
    | zero =>
      intro M x2 x3 T4 h
      exact absurd h (by simp [fX4_takeWayBack_L2])
    | succ n ih =>
      intro M x2 x3 T4 h hJ
      rw [fX4_takeWayBack_L2] at h
      refine ax_iload_n cx 3 dX4_takeWayBack_2 rfl rfl ?_
      refine ax_bipush (z := 60) cx dX4_takeWayBack_3 (by decide) ?_
      obtain ⟨g1, h⟩ := gd_some h
      refine ax_icmp_ge cx 21 dX4_takeWayBack_5 (by decide) g1 ⟨by decide, by decide⟩ (fun c2 => ?_) (fun c2 => ?_)
      · rw [if_pos c2] at h
        refine ax_lv cx [0, 1, 2] rfl ?_
        cases h
        exact hJ
      · rw [if_neg c2] at h
        refine ax_aload_n cx 0 dX4_takeWayBack_8 rfl rfl ?_
        refine ax_getf (q := 24) (ci := 4) (k := 1) (v := .ref (ad 6)) cx ⟨by decide, by decide⟩ rfl rfl hi_X4_takeWayBack_X4 (by decide) hl_X4_takeWayBack_15 rfl rfl dX4_takeWayBack_9 ?_
        refine ax_iload_n cx 3 dX4_takeWayBack_12 rfl rfl ?_
        refine ax_iconst cx dX4_takeWayBack_13 ?_
        obtain ⟨g3, h⟩ := gd_some h
        refine ax_iast (n := 60) cx (by decide) rfl rfl g3 dX4_takeWayBack_14 ?_
        refine ax_iinc (lv' := [(3, iV (x3 + 1)), (0, .ref (ad 24)), (1, .ref (ad 23)), (2, iV (x2))]) cx 3 dX4_takeWayBack_15 rfl (by decide) rfl ?_
        refine ax_goto cx 2 dX4_takeWayBack_18 (by decide) ?_
        refine ax_lv cx [1, 2, 3, 0] rfl ?_
        exact ih _ _ _ _ h hJ
  have L26 : ∀ (n : Nat) (M : Mem) (x3 : Int) (x4 : Int) (T15 : Mem), fX4_takeWayBack_L26 n M x3 x4 = some T15 → (G T15 55 [] []) → G M 26 [(0, .ref (ad 24)), (1, .ref (ad 23)), (3, iV (x3)), (4, iV (x4))] [] := by
    intro n
    induction n with
    | zero =>
      intro M x3 x4 T15 h
      exact absurd h (by simp [fX4_takeWayBack_L26])
    | succ n ih =>
      intro M x3 x4 T15 h hJ
      rw [fX4_takeWayBack_L26] at h
      refine ax_iload cx 3 dX4_takeWayBack_26 rfl ?_
      refine ax_bipush (z := 36) cx dX4_takeWayBack_28 (by decide) ?_
      obtain ⟨g8, h⟩ := gd_some h
      refine ax_icmp_ge cx 55 dX4_takeWayBack_30 (by decide) g8 ⟨by decide, by decide⟩ (fun c9 => ?_) (fun c9 => ?_)
      · rw [if_pos c9] at h
        refine ax_lv cx [] rfl ?_
        cases h
        exact hJ
      · rw [if_neg c9] at h
        refine ax_aload_n cx 0 dX4_takeWayBack_33 rfl rfl ?_
        refine ax_getf (q := 24) (ci := 4) (k := 0) (v := .ref (ad 5)) cx ⟨by decide, by decide⟩ rfl rfl hi_X4_takeWayBack_X4 (by decide) hl_X4_takeWayBack_9 rfl rfl dX4_takeWayBack_34 ?_
        refine ax_iload_n cx 2 dX4_takeWayBack_37 rfl rfl ?_
        obtain ⟨g10, h⟩ := gd_some h
        refine ax_iald (n := 36) cx (by decide) rfl rfl g10 dX4_takeWayBack_38 ?_
        obtain ⟨g11, h⟩ := gd_some h
        refine ax_if_le cx 55 dX4_takeWayBack_39 (by decide) g11 (fun c12 => ?_) (fun c12 => ?_)
        · rw [if_pos c12] at h
          refine ax_lv cx [] rfl ?_
          cases h
          exact hJ
        · rw [if_neg c12] at h
          refine ax_aload_n cx 0 dX4_takeWayBack_42 rfl rfl ?_
          refine ax_aload_n cx 1 dX4_takeWayBack_43 rfl rfl ?_
          refine ax_iload_n cx 2 dX4_takeWayBack_44 rfl rfl ?_
          obtain ⟨t13, e14, h⟩ := ob h
          refine ax_callV (As := [.ref (ad 23), iV (x3)]) (q := 24) (ci := 4) (n := 2) cx (kX4_stepBack l ad M x3 _ e14) gX4_takeWayBack_X4_stepBack rfl ⟨by decide, by decide⟩ rfl rfl ⟨rfl, rfl⟩ (by decide +kernel) rfl ⟨by decide, by decide⟩ rfl (Nat.le_of_ble_eq_true rfl) dX4_takeWayBack_45 ?_
          refine ax_istore_n (lv' := [(3, iV (t13.1)), (0, .ref (ad 24)), (1, .ref (ad 23)), (4, iV (x4))]) cx dX4_takeWayBack_48 rfl (by decide) rfl ?_
          refine ax_iinc (lv' := [(4, iV (x4 + 1)), (3, iV (t13.1)), (0, .ref (ad 24)), (1, .ref (ad 23))]) cx 3 dX4_takeWayBack_49 rfl (by decide) rfl ?_
          refine ax_goto cx 26 dX4_takeWayBack_52 (by decide) ?_
          refine ax_lv cx [2, 3, 1, 0] rfl ?_
          exact ih _ _ _ _ h hJ
  unfold fX4_takeWayBack at h
  refine ax_iconst cx dX4_takeWayBack_0 ?_
  refine ax_istore_n (lv' := [(3, iV (0)), (0, .ref (ad 24)), (1, .ref (ad 23)), (2, iV (x2))]) cx dX4_takeWayBack_1 rfl (by decide) rfl ?_
  obtain ⟨t5, e6, h⟩ := ob h
  refine ax_lv cx [1, 2, 3, 0] rfl ?_
  have J7 : G t5 21 [(0, .ref (ad 24)), (1, .ref (ad 23)), (2, iV (x2))] [] := by
    refine ax_iload_n cx 2 dX4_takeWayBack_21 rfl rfl ?_
    refine ax_istore_n (lv' := [(3, iV (x2)), (0, .ref (ad 24)), (1, .ref (ad 23)), (2, iV (x2))]) cx dX4_takeWayBack_22 rfl (by decide) rfl ?_
    refine ax_iconst cx dX4_takeWayBack_23 ?_
    refine ax_istore (lv' := [(4, iV (0)), (3, iV (x2)), (0, .ref (ad 24)), (1, .ref (ad 23)), (2, iV (x2))]) cx dX4_takeWayBack_24 (by decide) rfl ?_
    obtain ⟨t16, e17, h⟩ := ob h
    refine ax_lv cx [2, 3, 1, 0] rfl ?_
    have J18 : G t16 55 [] [] := by
      cases h
      exact ax_vret cx dX4_takeWayBack_55 rfl ⟨rfl, rfl⟩
    exact L26 FU t5 x2 0 _ e17 J18
  exact L2 FU M x2 0 _ e6 J7
def fX4_lower (M : Mem) (x2 : Int) (x3 : Int) (x4 : Int) : Option (Int × Mem) :=
    gd (inR (x3)) (
    gd (inR (x4)) (
    Option.bind (if x4 ≤ x3 then (
      gd (inB (x2) 60) (
      some (-(M 6 x2.toNat))))
    else (
      gd (inB (x2) 60) (
      some (M 6 x2.toNat)))) (fun t6 =>
    gd (inR (t6)) (
    if 0 < t6 then (
      some (0, M))
    else (
      gd (inB (x3) 36) (
      gd (inR (M 5 x3.toNat)) (
      if M 5 x3.toNat = 1000000 then (
        some (0, M))
      else (
        gd (inB (x3) 36) (
        Option.bind (if 0 ≤ t6 then (
          Option.bind (fX2_price M x2) (fun t16 =>
          some (t16)))
        else (
          Option.bind (fX2_price M x2) (fun t18 =>
          some (-t18)))) (fun t20 =>
        gd (inB (x4) 36) (
        gd (inR ((M 5 x3.toNat) + t20)) (
        gd (inR (M 5 x4.toNat)) (
        if (M 5 x3.toNat) + t20 < M 5 x4.toNat then (
          gd (inB (x4) 36) (
          some (1, (wr M 5 x4.toNat ((M 5 x3.toNat) + t20)))))
        else (
          some (0, M)))))))))))))))
abbrev rmX4_lower : Room := { frames := 1, cells := 0, slots := 0, locals := 21 }
theorem hl_X4_lower_15 : Cond.fieldLink RX4 15 "PlateauBench$TwoWays" "taken" "[I" ∈ wsX4_lower := by decide +kernel
theorem hl_X4_lower_9 : Cond.fieldLink RX4 9 "PlateauBench$TwoWays" "row" "[I" ∈ wsX4_lower := by decide +kernel
theorem hw_X4_lower_c50 : Cond.constant RX4 50 (1000000) ∈ wsX4_lower := by decide +kernel
theorem hi_X4_lower_X4 : ∀ x ∈ u_ws RX4 TX4 2, x ∈ wsX4_lower := by decide +kernel
set_option maxRecDepth 100000 in
set_option maxHeartbeats 4000000 in
theorem kX4_lower (l : Launch) (ad : Nat → Nat) (M : Mem) (x2 : Int) (x3 : Int) (x4 : Int) (T : Int × Mem) (h : fX4_lower M x2 x3 x4 = some T) : MX l yX4_lower wsX4_lower rmX4_lower wC ad [.ref (ad 24), .ref (ad 23), iV (x2), iV (x3), iV (x4)] M (some (iV (T.1))) T.2 := by
  refine MX.of (cc := cX4_lower) (nL := 7) (rt := (some .boolean)) (own := RX4) (by decide +kernel) rfl rfl (Nat.le_of_ble_eq_true rfl) wC_ok (fun G cx => ?_)
  show G M 0 [(0, .ref (ad 24)), (1, .ref (ad 23)), (2, iV (x2)), (3, iV (x3)), (4, iV (x4))] []
  unfold fX4_lower at h
  refine ax_iload_n cx 3 dX4_lower_0 rfl rfl ?_
  refine ax_iload cx 4 dX4_lower_1 rfl ?_
  obtain ⟨g1, h⟩ := gd_some h
  obtain ⟨g2, h⟩ := gd_some h
  obtain ⟨t6, e8, h⟩ := ob h
  have J7 : G M 22 [(0, .ref (ad 24)), (1, .ref (ad 23)), (2, iV (x2)), (3, iV (x3)), (4, iV (x4))] [iV (t6)] := by
    refine ax_istore (lv' := [(5, iV (t6)), (0, .ref (ad 24)), (1, .ref (ad 23)), (2, iV (x2)), (3, iV (x3)), (4, iV (x4))]) cx dX4_lower_22 (by decide) rfl ?_
    refine ax_iload cx 0 dX4_lower_24 rfl ?_
    obtain ⟨g9, h⟩ := gd_some h
    refine ax_if_gt cx 40 dX4_lower_26 (by decide) g9 (fun c10 => ?_) (fun c10 => ?_)
    · rw [if_pos c10] at h
      refine ax_iconst cx dX4_lower_40 ?_
      cases h
      exact ax_zret cx dX4_lower_41 rfl (Or.inl rfl) ⟨rfl, rfl⟩
    · rw [if_neg c10] at h
      refine ax_aload_n cx 1 dX4_lower_29 rfl rfl ?_
      refine ax_getf (q := 24) (ci := 4) (k := 0) (v := .ref (ad 5)) cx ⟨by decide, by decide⟩ rfl rfl hi_X4_lower_X4 (by decide) hl_X4_lower_9 rfl rfl dX4_lower_30 ?_
      refine ax_iload_n cx 4 dX4_lower_33 rfl rfl ?_
      obtain ⟨g11, h⟩ := gd_some h
      refine ax_iald (n := 36) cx (by decide) rfl rfl g11 dX4_lower_34 ?_
      refine ax_ldc (z := 1000000) cx dX4_lower_35 hw_X4_lower_c50 (by decide) ?_
      obtain ⟨g12, h⟩ := gd_some h
      refine ax_icmp_ne cx 42 dX4_lower_37 (by decide) g12 ⟨by decide, by decide⟩ (fun c13 => ?_) (fun c13 => ?_)
      · rw [if_pos c13] at h
        refine ax_iconst cx dX4_lower_40 ?_
        cases h
        exact ax_zret cx dX4_lower_41 rfl (Or.inl rfl) ⟨rfl, rfl⟩
      · rw [if_neg c13] at h
        refine ax_aload_n cx 1 dX4_lower_42 rfl rfl ?_
        refine ax_getf (q := 24) (ci := 4) (k := 0) (v := .ref (ad 5)) cx ⟨by decide, by decide⟩ rfl rfl hi_X4_lower_X4 (by decide) hl_X4_lower_9 rfl rfl dX4_lower_43 ?_
        refine ax_iload_n cx 4 dX4_lower_46 rfl rfl ?_
        obtain ⟨g14, h⟩ := gd_some h
        refine ax_iald (n := 36) cx (by decide) rfl rfl g14 dX4_lower_47 ?_
        refine ax_iload cx 0 dX4_lower_48 rfl ?_
        obtain ⟨t20, e22, h⟩ := ob h
        have J21 : G M 67 [(0, .ref (ad 24)), (4, iV (x4))] [iV (t20), iV (M 5 x3.toNat)] := by
          refine ax_iadd cx dX4_lower_67 ?_
          refine ax_istore (lv' := [(6, iV ((M 5 x3.toNat) + t20)), (0, .ref (ad 24)), (4, iV (x4))]) cx dX4_lower_68 (by decide) rfl ?_
          refine ax_iload cx 0 dX4_lower_70 rfl ?_
          refine ax_aload_n cx 1 dX4_lower_72 rfl rfl ?_
          refine ax_getf (q := 24) (ci := 4) (k := 0) (v := .ref (ad 5)) cx ⟨by decide, by decide⟩ rfl rfl hi_X4_lower_X4 (by decide) hl_X4_lower_9 rfl rfl dX4_lower_73 ?_
          refine ax_iload cx 2 dX4_lower_76 rfl ?_
          obtain ⟨g23, h⟩ := gd_some h
          refine ax_iald (n := 36) cx (by decide) rfl rfl g23 dX4_lower_78 ?_
          obtain ⟨g24, h⟩ := gd_some h
          obtain ⟨g25, h⟩ := gd_some h
          refine ax_icmp_lt cx 84 dX4_lower_79 (by decide) g24 g25 (fun c26 => ?_) (fun c26 => ?_)
          · rw [if_pos c26] at h
            refine ax_aload_n cx 1 dX4_lower_84 rfl rfl ?_
            refine ax_getf (q := 24) (ci := 4) (k := 0) (v := .ref (ad 5)) cx ⟨by decide, by decide⟩ rfl rfl hi_X4_lower_X4 (by decide) hl_X4_lower_9 rfl rfl dX4_lower_85 ?_
            refine ax_iload cx 2 dX4_lower_88 rfl ?_
            refine ax_iload cx 0 dX4_lower_90 rfl ?_
            obtain ⟨g27, h⟩ := gd_some h
            refine ax_iast (n := 36) cx (by decide) rfl rfl g27 dX4_lower_92 ?_
            refine ax_iconst cx dX4_lower_93 ?_
            cases h
            exact ax_zret cx dX4_lower_94 rfl (Or.inr rfl) ⟨rfl, rfl⟩
          · rw [if_neg c26] at h
            refine ax_iconst cx dX4_lower_82 ?_
            cases h
            exact ax_zret cx dX4_lower_83 rfl (Or.inl rfl) ⟨rfl, rfl⟩
        clear h
        have h := e22
        clear e22
        refine ax_if_ge cx 62 dX4_lower_50 (by decide) g9 (fun c15 => ?_) (fun c15 => ?_)
        · rw [if_pos c15] at h
          refine ax_aload_n cx 2 dX4_lower_62 rfl rfl ?_
          refine ax_iload_n cx 3 dX4_lower_63 rfl rfl ?_
          obtain ⟨t16, e17, h⟩ := ob h
          refine ax_callV (As := [iV (x2)]) (q := 23) (ci := 2) (n := 1) cx (kX2_price l ad M x2 _ e17) gX4_lower_X2_price rfl ⟨by decide, by decide⟩ rfl rfl ⟨rfl, rfl⟩ (by decide +kernel) rfl ⟨by decide, by decide⟩ rfl (Nat.le_of_ble_eq_true rfl) dX4_lower_64 ?_
          refine ax_lv cx [1, 5] rfl ?_
          cases h
          exact J21
        · rw [if_neg c15] at h
          refine ax_aload_n cx 2 dX4_lower_53 rfl rfl ?_
          refine ax_iload_n cx 3 dX4_lower_54 rfl rfl ?_
          obtain ⟨t18, e19, h⟩ := ob h
          refine ax_callV (As := [iV (x2)]) (q := 23) (ci := 2) (n := 1) cx (kX2_price l ad M x2 _ e19) gX4_lower_X2_price rfl ⟨by decide, by decide⟩ rfl rfl ⟨rfl, rfl⟩ (by decide +kernel) rfl ⟨by decide, by decide⟩ rfl (Nat.le_of_ble_eq_true rfl) dX4_lower_55 ?_
          refine ax_ineg cx dX4_lower_58 ?_
          refine ax_goto cx 67 dX4_lower_59 (by decide) ?_
          refine ax_lv cx [1, 5] rfl ?_
          cases h
          exact J21
  clear h
  have h := e8
  clear e8
  refine ax_icmp_ge cx 15 dX4_lower_3 (by decide) g1 g2 (fun c3 => ?_) (fun c3 => ?_)
  · rw [if_pos c3] at h
    refine ax_aload_n cx 0 dX4_lower_15 rfl rfl ?_
    refine ax_getf (q := 24) (ci := 4) (k := 1) (v := .ref (ad 6)) cx ⟨by decide, by decide⟩ rfl rfl hi_X4_lower_X4 (by decide) hl_X4_lower_15 rfl rfl dX4_lower_16 ?_
    refine ax_iload_n cx 2 dX4_lower_19 rfl rfl ?_
    obtain ⟨g4, h⟩ := gd_some h
    refine ax_iald (n := 60) cx (by decide) rfl rfl g4 dX4_lower_20 ?_
    refine ax_ineg cx dX4_lower_21 ?_
    cases h
    exact J7
  · rw [if_neg c3] at h
    refine ax_aload_n cx 0 dX4_lower_6 rfl rfl ?_
    refine ax_getf (q := 24) (ci := 4) (k := 1) (v := .ref (ad 6)) cx ⟨by decide, by decide⟩ rfl rfl hi_X4_lower_X4 (by decide) hl_X4_lower_15 rfl rfl dX4_lower_7 ?_
    refine ax_iload_n cx 2 dX4_lower_10 rfl rfl ?_
    obtain ⟨g5, h⟩ := gd_some h
    refine ax_iald (n := 60) cx (by decide) rfl rfl g5 dX4_lower_11 ?_
    refine ax_goto cx 22 dX4_lower_12 (by decide) ?_
    cases h
    exact J7
def fX4_measureBesideTaken_L2 : Nat → Mem → Int → Int → Option (Mem)
  | 0, _, _, _ => none
  | n + 1, M, x2, x3 =>
    gd (inR (x3)) (
    if 36 ≤ x3 then (
      some (M))
    else (
      gd (inR (x2)) (
      Option.bind (if x3 = x2 then (
        some (0))
      else (
        some (1000000))) (fun t5 =>
      gd (inB (x3) 36) (
      fX4_measureBesideTaken_L2 n (wr M 5 x3.toNat t5) x2 (x3 + 1))))))
def fX4_measureBesideTaken_L52 : Nat → Mem → Int → Int → Int → Option (Int × Mem)
  | 0, _, _, _, _ => none
  | n + 1, M, x3, x4, x5 =>
    gd (inR (x5)) (
    if 60 ≤ x5 then (
      some (x3, M))
    else (
      Option.bind (fX2_low M x5) (fun t19 =>
      Option.bind (fX2_high M x5) (fun t21 =>
      Option.bind (fX4_lower M x5 t19 t21) (fun t23 =>
      Option.bind (fX4_lower t23.2 x5 t21 t19) (fun t25 =>
      fX4_measureBesideTaken_L52 n t25.2 (zor (zor x3 t23.1) t25.1) x4 (x5 + 1)))))))
def fX4_measureBesideTaken_L36 : Nat → Mem → Int → Int → Option (Mem)
  | 0, _, _, _ => none
  | n + 1, M, x3, x4 =>
    gd (inR (x4)) (
    if 36 ≤ x4 then (
      some (M))
    else (
      gd (inR (x3)) (
      if x3 = 0 then (
        some (M))
      else (
        Option.bind (fX4_measureBesideTaken_L52 FU M 0 x4 0) (fun t28 =>
        fX4_measureBesideTaken_L36 n t28.2 t28.1 (x4 + 1))))))
def fX4_measureBesideTaken (M : Mem) (x2 : Int) : Option (Mem) :=
    Option.bind (fX4_measureBesideTaken_L2 FU M x2 0) (fun t10 =>
    Option.bind (fX4_measureBesideTaken_L36 FU t10 1 0) (fun t32 =>
    some (t32)))
abbrev rmX4_measureBesideTaken : Room := { frames := 2, cells := 0, slots := 0, locals := 47 }
theorem hl_X4_measureBesideTaken_9 : Cond.fieldLink RX4 9 "PlateauBench$TwoWays" "row" "[I" ∈ wsX4_measureBesideTaken := by decide +kernel
theorem hw_X4_measureBesideTaken_c50 : Cond.constant RX4 50 (1000000) ∈ wsX4_measureBesideTaken := by decide +kernel
theorem hi_X4_measureBesideTaken_X4 : ∀ x ∈ u_ws RX4 TX4 2, x ∈ wsX4_measureBesideTaken := by decide +kernel
set_option maxRecDepth 100000 in
set_option maxHeartbeats 4000000 in
theorem kX4_measureBesideTaken (l : Launch) (ad : Nat → Nat) (M : Mem) (x2 : Int) (T : Mem) (h : fX4_measureBesideTaken M x2 = some T) : MX l yX4_measureBesideTaken wsX4_measureBesideTaken rmX4_measureBesideTaken wC ad [.ref (ad 24), .ref (ad 23), iV (x2)] M none T := by
  refine MX.of (cc := cX4_measureBesideTaken) (nL := 8) (rt := none) (own := RX4) (by decide +kernel) rfl rfl (Nat.le_of_ble_eq_true rfl) wC_ok (fun G cx => ?_)
  show G M 0 [(0, .ref (ad 24)), (1, .ref (ad 23)), (2, iV (x2))] []
  have L2 : ∀ (n : Nat) (M : Mem) (x2 : Int) (x3 : Int) (T9 : Mem), fX4_measureBesideTaken_L2 n M x2 x3 = some T9 → (G T9 31 [(0, .ref (ad 24)), (1, .ref (ad 23))] []) → G M 2 [(0, .ref (ad 24)), (1, .ref (ad 23)), (2, iV (x2)), (3, iV (x3))] [] := by
    intro n
    induction n with
    | zero =>
      intro M x2 x3 T9 h
      exact absurd h (by simp [fX4_measureBesideTaken_L2])
    | succ n ih =>
      intro M x2 x3 T9 h hJ
      rw [fX4_measureBesideTaken_L2] at h
      refine ax_iload_n cx 3 dX4_measureBesideTaken_2 rfl rfl ?_
      refine ax_bipush (z := 36) cx dX4_measureBesideTaken_3 (by decide) ?_
      obtain ⟨g1, h⟩ := gd_some h
      refine ax_icmp_ge cx 31 dX4_measureBesideTaken_5 (by decide) g1 ⟨by decide, by decide⟩ (fun c2 => ?_) (fun c2 => ?_)
      · rw [if_pos c2] at h
        refine ax_lv cx [0, 1] rfl ?_
        cases h
        exact hJ
      · rw [if_neg c2] at h
        refine ax_aload_n cx 0 dX4_measureBesideTaken_8 rfl rfl ?_
        refine ax_getf (q := 24) (ci := 4) (k := 0) (v := .ref (ad 5)) cx ⟨by decide, by decide⟩ rfl rfl hi_X4_measureBesideTaken_X4 (by decide) hl_X4_measureBesideTaken_9 rfl rfl dX4_measureBesideTaken_9 ?_
        refine ax_iload_n cx 3 dX4_measureBesideTaken_12 rfl rfl ?_
        refine ax_iload_n cx 3 dX4_measureBesideTaken_13 rfl rfl ?_
        refine ax_iload_n cx 2 dX4_measureBesideTaken_14 rfl rfl ?_
        obtain ⟨g3, h⟩ := gd_some h
        obtain ⟨t5, e7, h⟩ := ob h
        have J6 : G M 24 [(0, .ref (ad 24)), (1, .ref (ad 23)), (2, iV (x2)), (3, iV (x3))] [iV (t5), iV (x3), .ref (ad 5)] := by
          obtain ⟨g8, h⟩ := gd_some h
          refine ax_iast (n := 36) cx (by decide) rfl rfl g8 dX4_measureBesideTaken_24 ?_
          refine ax_iinc (lv' := [(3, iV (x3 + 1)), (0, .ref (ad 24)), (1, .ref (ad 23)), (2, iV (x2))]) cx 3 dX4_measureBesideTaken_25 rfl (by decide) rfl ?_
          refine ax_goto cx 2 dX4_measureBesideTaken_28 (by decide) ?_
          refine ax_lv cx [1, 2, 3, 0] rfl ?_
          exact ih _ _ _ _ h hJ
        clear h
        have h := e7
        clear e7
        refine ax_icmp_ne cx 22 dX4_measureBesideTaken_15 (by decide) g1 g3 (fun c4 => ?_) (fun c4 => ?_)
        · rw [if_pos c4] at h
          refine ax_iconst cx dX4_measureBesideTaken_18 ?_
          refine ax_goto cx 24 dX4_measureBesideTaken_19 (by decide) ?_
          cases h
          exact J6
        · rw [if_neg c4] at h
          refine ax_ldc (z := 1000000) cx dX4_measureBesideTaken_22 hw_X4_measureBesideTaken_c50 (by decide) ?_
          cases h
          exact J6
  have L52 : ∀ (n : Nat) (M : Mem) (x3 : Int) (x4 : Int) (x5 : Int) (T27 : Int × Mem), fX4_measureBesideTaken_L52 n M x3 x4 x5 = some T27 → (G T27.2 109 [(0, .ref (ad 24)), (1, .ref (ad 23)), (3, iV (T27.1)), (4, iV (x4))] []) → G M 52 [(0, .ref (ad 24)), (1, .ref (ad 23)), (3, iV (x3)), (4, iV (x4)), (5, iV (x5))] [] := by
    intro n
    induction n with
    | zero =>
      intro M x3 x4 x5 T27 h
      exact absurd h (by simp [fX4_measureBesideTaken_L52])
    | succ n ih =>
      intro M x3 x4 x5 T27 h hJ
      rw [fX4_measureBesideTaken_L52] at h
      refine ax_iload cx 4 dX4_measureBesideTaken_52 rfl ?_
      refine ax_bipush (z := 60) cx dX4_measureBesideTaken_54 (by decide) ?_
      obtain ⟨g17, h⟩ := gd_some h
      refine ax_icmp_ge cx 109 dX4_measureBesideTaken_56 (by decide) g17 ⟨by decide, by decide⟩ (fun c18 => ?_) (fun c18 => ?_)
      · rw [if_pos c18] at h
        refine ax_lv cx [0, 1, 2, 3] rfl ?_
        cases h
        exact hJ
      · rw [if_neg c18] at h
        refine ax_aload_n cx 1 dX4_measureBesideTaken_59 rfl rfl ?_
        refine ax_iload cx 4 dX4_measureBesideTaken_60 rfl ?_
        obtain ⟨t19, e20, h⟩ := ob h
        refine ax_callV (As := [iV (x5)]) (q := 23) (ci := 2) (n := 1) cx (kX2_low l ad M x5 _ e20) gX4_measureBesideTaken_X2_low rfl ⟨by decide, by decide⟩ rfl rfl ⟨rfl, rfl⟩ (by decide +kernel) rfl ⟨by decide, by decide⟩ rfl (Nat.le_of_ble_eq_true rfl) dX4_measureBesideTaken_62 ?_
        refine ax_istore (lv' := [(6, iV (t19)), (0, .ref (ad 24)), (1, .ref (ad 23)), (3, iV (x3)), (4, iV (x4)), (5, iV (x5))]) cx dX4_measureBesideTaken_65 (by decide) rfl ?_
        refine ax_aload_n cx 2 dX4_measureBesideTaken_67 rfl rfl ?_
        refine ax_iload cx 5 dX4_measureBesideTaken_68 rfl ?_
        obtain ⟨t21, e22, h⟩ := ob h
        refine ax_callV (As := [iV (x5)]) (q := 23) (ci := 2) (n := 1) cx (kX2_high l ad M x5 _ e22) gX4_measureBesideTaken_X2_high rfl ⟨by decide, by decide⟩ rfl rfl ⟨rfl, rfl⟩ (by decide +kernel) rfl ⟨by decide, by decide⟩ rfl (Nat.le_of_ble_eq_true rfl) dX4_measureBesideTaken_70 ?_
        refine ax_istore (lv' := [(7, iV (t21)), (6, iV (t19)), (0, .ref (ad 24)), (1, .ref (ad 23)), (3, iV (x3)), (4, iV (x4)), (5, iV (x5))]) cx dX4_measureBesideTaken_73 (by decide) rfl ?_
        refine ax_iload_n cx 4 dX4_measureBesideTaken_75 rfl rfl ?_
        refine ax_aload_n cx 2 dX4_measureBesideTaken_76 rfl rfl ?_
        refine ax_aload_n cx 3 dX4_measureBesideTaken_77 rfl rfl ?_
        refine ax_iload cx 6 dX4_measureBesideTaken_78 rfl ?_
        refine ax_iload cx 1 dX4_measureBesideTaken_80 rfl ?_
        refine ax_iload cx 0 dX4_measureBesideTaken_82 rfl ?_
        obtain ⟨t23, e24, h⟩ := ob h
        refine ax_callV (As := [.ref (ad 23), iV (x5), iV (t19), iV (t21)]) (q := 24) (ci := 4) (n := 4) cx (kX4_lower l ad M x5 t19 t21 _ e24) gX4_measureBesideTaken_X4_lower rfl ⟨by decide, by decide⟩ rfl rfl ⟨rfl, rfl⟩ (by decide +kernel) rfl ⟨by decide, by decide⟩ rfl (Nat.le_of_ble_eq_true rfl) dX4_measureBesideTaken_84 ?_
        refine ax_ior cx dX4_measureBesideTaken_87 ?_
        refine ax_istore_n (lv' := [(3, iV (zor x3 t23.1)), (7, iV (t21)), (6, iV (t19)), (0, .ref (ad 24)), (1, .ref (ad 23)), (4, iV (x4)), (5, iV (x5))]) cx dX4_measureBesideTaken_88 rfl (by decide) rfl ?_
        refine ax_iload_n cx 0 dX4_measureBesideTaken_89 rfl rfl ?_
        refine ax_aload_n cx 3 dX4_measureBesideTaken_90 rfl rfl ?_
        refine ax_aload_n cx 4 dX4_measureBesideTaken_91 rfl rfl ?_
        refine ax_iload cx 6 dX4_measureBesideTaken_92 rfl ?_
        refine ax_iload cx 1 dX4_measureBesideTaken_94 rfl ?_
        refine ax_iload cx 2 dX4_measureBesideTaken_96 rfl ?_
        obtain ⟨t25, e26, h⟩ := ob h
        refine ax_callV (As := [.ref (ad 23), iV (x5), iV (t21), iV (t19)]) (q := 24) (ci := 4) (n := 4) cx (kX4_lower l ad t23.2 x5 t21 t19 _ e26) gX4_measureBesideTaken_X4_lower rfl ⟨by decide, by decide⟩ rfl rfl ⟨rfl, rfl⟩ (by decide +kernel) rfl ⟨by decide, by decide⟩ rfl (Nat.le_of_ble_eq_true rfl) dX4_measureBesideTaken_98 ?_
        refine ax_ior cx dX4_measureBesideTaken_101 ?_
        refine ax_istore_n (lv' := [(3, iV (zor (zor x3 t23.1) t25.1)), (7, iV (t21)), (6, iV (t19)), (0, .ref (ad 24)), (1, .ref (ad 23)), (4, iV (x4)), (5, iV (x5))]) cx dX4_measureBesideTaken_102 rfl (by decide) rfl ?_
        refine ax_iinc (lv' := [(5, iV (x5 + 1)), (3, iV (zor (zor x3 t23.1) t25.1)), (7, iV (t21)), (6, iV (t19)), (0, .ref (ad 24)), (1, .ref (ad 23)), (4, iV (x4))]) cx 6 dX4_measureBesideTaken_103 rfl (by decide) rfl ?_
        refine ax_goto cx 52 dX4_measureBesideTaken_106 (by decide) ?_
        refine ax_lv cx [4, 5, 1, 6, 0] rfl ?_
        exact ih _ _ _ _ _ h hJ
  have L36 : ∀ (n : Nat) (M : Mem) (x3 : Int) (x4 : Int) (T31 : Mem), fX4_measureBesideTaken_L36 n M x3 x4 = some T31 → (G T31 115 [] []) → G M 36 [(0, .ref (ad 24)), (1, .ref (ad 23)), (3, iV (x3)), (4, iV (x4))] [] := by
    intro n
    induction n with
    | zero =>
      intro M x3 x4 T31 h
      exact absurd h (by simp [fX4_measureBesideTaken_L36])
    | succ n ih =>
      intro M x3 x4 T31 h hJ
      rw [fX4_measureBesideTaken_L36] at h
      refine ax_iload cx 3 dX4_measureBesideTaken_36 rfl ?_
      refine ax_bipush (z := 36) cx dX4_measureBesideTaken_38 (by decide) ?_
      obtain ⟨g13, h⟩ := gd_some h
      refine ax_icmp_ge cx 115 dX4_measureBesideTaken_40 (by decide) g13 ⟨by decide, by decide⟩ (fun c14 => ?_) (fun c14 => ?_)
      · rw [if_pos c14] at h
        refine ax_lv cx [] rfl ?_
        cases h
        exact hJ
      · rw [if_neg c14] at h
        refine ax_iload_n cx 2 dX4_measureBesideTaken_43 rfl rfl ?_
        obtain ⟨g15, h⟩ := gd_some h
        refine ax_if_eq cx 115 dX4_measureBesideTaken_44 (by decide) g15 (fun c16 => ?_) (fun c16 => ?_)
        · rw [if_pos c16] at h
          refine ax_lv cx [] rfl ?_
          cases h
          exact hJ
        · rw [if_neg c16] at h
          refine ax_iconst cx dX4_measureBesideTaken_47 ?_
          refine ax_istore_n (lv' := [(3, iV (0)), (0, .ref (ad 24)), (1, .ref (ad 23)), (4, iV (x4))]) cx dX4_measureBesideTaken_48 rfl (by decide) rfl ?_
          refine ax_iconst cx dX4_measureBesideTaken_49 ?_
          refine ax_istore (lv' := [(5, iV (0)), (3, iV (0)), (0, .ref (ad 24)), (1, .ref (ad 23)), (4, iV (x4))]) cx dX4_measureBesideTaken_50 (by decide) rfl ?_
          obtain ⟨t28, e29, h⟩ := ob h
          refine ax_lv cx [2, 3, 1, 4, 0] rfl ?_
          have J30 : G t28.2 109 [(0, .ref (ad 24)), (1, .ref (ad 23)), (3, iV (t28.1)), (4, iV (x4))] [] := by
            refine ax_iinc (lv' := [(4, iV (x4 + 1)), (0, .ref (ad 24)), (1, .ref (ad 23)), (3, iV (t28.1))]) cx 3 dX4_measureBesideTaken_109 rfl (by decide) rfl ?_
            refine ax_goto cx 36 dX4_measureBesideTaken_112 (by decide) ?_
            refine ax_lv cx [1, 2, 3, 0] rfl ?_
            exact ih _ _ _ _ h hJ
          exact L52 FU M 0 x4 0 _ e29 J30
  unfold fX4_measureBesideTaken at h
  refine ax_iconst cx dX4_measureBesideTaken_0 ?_
  refine ax_istore_n (lv' := [(3, iV (0)), (0, .ref (ad 24)), (1, .ref (ad 23)), (2, iV (x2))]) cx dX4_measureBesideTaken_1 rfl (by decide) rfl ?_
  obtain ⟨t10, e11, h⟩ := ob h
  refine ax_lv cx [1, 2, 3, 0] rfl ?_
  have J12 : G t10 31 [(0, .ref (ad 24)), (1, .ref (ad 23))] [] := by
    refine ax_iconst cx dX4_measureBesideTaken_31 ?_
    refine ax_istore_n (lv' := [(3, iV (1)), (0, .ref (ad 24)), (1, .ref (ad 23))]) cx dX4_measureBesideTaken_32 rfl (by decide) rfl ?_
    refine ax_iconst cx dX4_measureBesideTaken_33 ?_
    refine ax_istore (lv' := [(4, iV (0)), (3, iV (1)), (0, .ref (ad 24)), (1, .ref (ad 23))]) cx dX4_measureBesideTaken_34 (by decide) rfl ?_
    obtain ⟨t32, e33, h⟩ := ob h
    refine ax_lv cx [2, 3, 1, 0] rfl ?_
    have J34 : G t32 115 [] [] := by
      cases h
      exact ax_vret cx dX4_measureBesideTaken_115 rfl ⟨rfl, rfl⟩
    exact L36 FU t10 1 0 _ e33 J34
  exact L2 FU M x2 0 _ e11 J12
def fX4_cheapestPair (M : Mem) (x2 : Int) (x3 : Int) : Option (Int × Mem) :=
    Option.bind (fX4_cheapest M x2 x3) (fun t1 =>
    Option.bind (fX4_takeWayBack t1.2 x3) (fun t3 =>
    Option.bind (fX4_measureBesideTaken t3 x2) (fun t5 =>
    gd (inB (x3) 36) (
    some (t1.1 + (t5 5 x3.toNat), t5)))))
abbrev rmX4_cheapestPair : Room := { frames := 4, cells := 0, slots := 0, locals := 98 }
theorem hl_X4_cheapestPair_9 : Cond.fieldLink RX4 9 "PlateauBench$TwoWays" "row" "[I" ∈ wsX4_cheapestPair := by decide +kernel
theorem hi_X4_cheapestPair_X4 : ∀ x ∈ u_ws RX4 TX4 2, x ∈ wsX4_cheapestPair := by decide +kernel
set_option maxRecDepth 100000 in
set_option maxHeartbeats 4000000 in
theorem kX4_cheapestPair (l : Launch) (ad : Nat → Nat) (M : Mem) (x2 : Int) (x3 : Int) (T : Int × Mem) (h : fX4_cheapestPair M x2 x3 = some T) : MX l yX4_cheapestPair wsX4_cheapestPair rmX4_cheapestPair wC ad [.ref (ad 24), .ref (ad 23), iV (x2), iV (x3)] M (some (iV (T.1))) T.2 := by
  refine MX.of (cc := cX4_cheapestPair) (nL := 5) (rt := (some .int)) (own := RX4) (by decide +kernel) rfl rfl (Nat.le_of_ble_eq_true rfl) wC_ok (fun G cx => ?_)
  show G M 0 [(0, .ref (ad 24)), (1, .ref (ad 23)), (2, iV (x2)), (3, iV (x3))] []
  unfold fX4_cheapestPair at h
  refine ax_aload_n cx 0 dX4_cheapestPair_0 rfl rfl ?_
  refine ax_aload_n cx 1 dX4_cheapestPair_1 rfl rfl ?_
  refine ax_iload_n cx 2 dX4_cheapestPair_2 rfl rfl ?_
  refine ax_iload_n cx 3 dX4_cheapestPair_3 rfl rfl ?_
  obtain ⟨t1, e2, h⟩ := ob h
  refine ax_callV (As := [.ref (ad 23), iV (x2), iV (x3)]) (q := 24) (ci := 4) (n := 3) cx (kX4_cheapest l ad M x2 x3 _ e2) gX4_cheapestPair_X4_cheapest rfl ⟨by decide, by decide⟩ rfl rfl ⟨rfl, rfl⟩ (by decide +kernel) rfl ⟨by decide, by decide⟩ rfl (Nat.le_of_ble_eq_true rfl) dX4_cheapestPair_4 ?_
  refine ax_istore (lv' := [(4, iV (t1.1)), (0, .ref (ad 24)), (1, .ref (ad 23)), (2, iV (x2)), (3, iV (x3))]) cx dX4_cheapestPair_7 (by decide) rfl ?_
  refine ax_aload_n cx 1 dX4_cheapestPair_9 rfl rfl ?_
  refine ax_aload_n cx 2 dX4_cheapestPair_10 rfl rfl ?_
  refine ax_iload_n cx 4 dX4_cheapestPair_11 rfl rfl ?_
  obtain ⟨t3, e4, h⟩ := ob h
  refine ax_callV (As := [.ref (ad 23), iV (x3)]) (q := 24) (ci := 4) (n := 2) cx (kX4_takeWayBack l ad t1.2 x3 _ e4) gX4_cheapestPair_X4_takeWayBack rfl ⟨by decide, by decide⟩ rfl rfl ⟨rfl, rfl⟩ (by decide +kernel) rfl ⟨by decide, by decide⟩ rfl (Nat.le_of_ble_eq_true rfl) dX4_cheapestPair_12 ?_
  refine ax_aload_n cx 1 dX4_cheapestPair_15 rfl rfl ?_
  refine ax_aload_n cx 2 dX4_cheapestPair_16 rfl rfl ?_
  refine ax_iload_n cx 3 dX4_cheapestPair_17 rfl rfl ?_
  obtain ⟨t5, e6, h⟩ := ob h
  refine ax_callV (As := [.ref (ad 23), iV (x2)]) (q := 24) (ci := 4) (n := 2) cx (kX4_measureBesideTaken l ad t3 x2 _ e6) gX4_cheapestPair_X4_measureBesideTaken rfl ⟨by decide, by decide⟩ rfl rfl ⟨rfl, rfl⟩ (by decide +kernel) rfl ⟨by decide, by decide⟩ rfl (Nat.le_of_ble_eq_true rfl) dX4_cheapestPair_18 ?_
  refine ax_iload cx 0 dX4_cheapestPair_21 rfl ?_
  refine ax_aload_n cx 1 dX4_cheapestPair_23 rfl rfl ?_
  refine ax_getf (q := 24) (ci := 4) (k := 0) (v := .ref (ad 5)) cx ⟨by decide, by decide⟩ rfl rfl hi_X4_cheapestPair_X4 (by decide) hl_X4_cheapestPair_9 rfl rfl dX4_cheapestPair_24 ?_
  refine ax_iload_n cx 4 dX4_cheapestPair_27 rfl rfl ?_
  obtain ⟨g7, h⟩ := gd_some h
  refine ax_iald (n := 36) cx (by decide) rfl rfl g7 dX4_cheapestPair_28 ?_
  refine ax_iadd cx dX4_cheapestPair_29 ?_
  cases h
  exact ax_iret cx dX4_cheapestPair_30 rfl ⟨rfl, rfl⟩
