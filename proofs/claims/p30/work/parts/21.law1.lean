def fL_isRefused (M : Mem) (x0 : Int) : Option (Int) :=
    gd (inR (x0)) (
    Option.bind (if x0 = (-2000000001) then (
      some (1))
    else (
      if x0 = (-2000000002) then (
        some (1))
      else (
        if x0 = (-2000000003) then (
          some (1))
        else (
          some (0))))) (fun t5 =>
    gd (t5 = 0 ∨ t5 = 1) (
    some (t5))))
abbrev rmL_isRefused : Room := { frames := 0, cells := 0, slots := 0, locals := 0 }
theorem hw_L_isRefused_c21 : Cond.constant RL 21 (-2000000001) ∈ wsL_isRefused := by decide +kernel
theorem hw_L_isRefused_c15 : Cond.constant RL 15 (-2000000002) ∈ wsL_isRefused := by decide +kernel
theorem hw_L_isRefused_c34 : Cond.constant RL 34 (-2000000003) ∈ wsL_isRefused := by decide +kernel
set_option maxRecDepth 100000 in
set_option maxHeartbeats 4000000 in
theorem kL_isRefused (l : Launch) (hl : l.stackTraces = false) (ad : Nat → Nat) (M : Mem) (x0 : Int) (T : Int) (h : fL_isRefused M x0 = some T) : HK l yL_isRefused wsL_isRefused rmL_isRefused ad [iV (x0)] 0 M (some (iV (T))) M := by
  refine HK.of (cc := cL_isRefused) (nL := 1) (rt := (some .boolean)) (own := RL) (by decide +kernel) rfl rfl (Nat.le_of_ble_eq_true rfl) ⟨Nat.le_of_ble_eq_true rfl, Nat.le_of_ble_eq_true rfl⟩ (fun G cx => ?_)
  show G (0, M) 0 [(0, iV (x0))] []
  unfold fL_isRefused at h
  refine bx_iload_n cx 0 dL_isRefused_0 rfl rfl ?_
  refine bx_ldc (z := (-2000000001)) cx dL_isRefused_1 hw_L_isRefused_c21 (by decide) ?_
  obtain ⟨g1, h⟩ := gd_some h
  obtain ⟨t5, e7, h⟩ := ob h
  have J6 : G (0, M) 23 [] [iV (t5)] := by
    obtain ⟨g8, h⟩ := gd_some h
    cases h
    exact bx_zret cx dL_isRefused_23 rfl g8 (Nat.le_of_ble_eq_true rfl) ⟨rfl, rfl⟩
  clear h
  have h := e7
  clear e7
  refine bx_icmp_eq cx 18 dL_isRefused_3 (by decide) g1 ⟨by decide, by decide⟩ (fun c2 => ?_) (fun c2 => ?_)
  · rw [if_pos c2] at h
    refine bx_iconst cx dL_isRefused_18 ?_
    refine bx_goto cx 23 dL_isRefused_19 (by decide) ?_
    refine bx_lv cx [] rfl ?_
    cases h
    exact J6
  · rw [if_neg c2] at h
    refine bx_iload_n cx 0 dL_isRefused_6 rfl rfl ?_
    refine bx_ldc (z := (-2000000002)) cx dL_isRefused_7 hw_L_isRefused_c15 (by decide) ?_
    refine bx_icmp_eq cx 18 dL_isRefused_9 (by decide) g1 ⟨by decide, by decide⟩ (fun c3 => ?_) (fun c3 => ?_)
    · rw [if_pos c3] at h
      refine bx_iconst cx dL_isRefused_18 ?_
      refine bx_goto cx 23 dL_isRefused_19 (by decide) ?_
      refine bx_lv cx [] rfl ?_
      cases h
      exact J6
    · rw [if_neg c3] at h
      refine bx_iload_n cx 0 dL_isRefused_12 rfl rfl ?_
      refine bx_ldc (z := (-2000000003)) cx dL_isRefused_13 hw_L_isRefused_c34 (by decide) ?_
      refine bx_icmp_ne cx 22 dL_isRefused_15 (by decide) g1 ⟨by decide, by decide⟩ (fun c4 => ?_) (fun c4 => ?_)
      · rw [if_pos c4] at h
        refine bx_iconst cx dL_isRefused_18 ?_
        refine bx_goto cx 23 dL_isRefused_19 (by decide) ?_
        refine bx_lv cx [] rfl ?_
        cases h
        exact J6
      · rw [if_neg c4] at h
        refine bx_iconst cx dL_isRefused_22 ?_
        refine bx_lv cx [] rfl ?_
        cases h
        exact J6
def fL_mix_L8 : Nat → Mem → Int64 → Int → Option (Int64)
  | 0, _, _, _ => none
  | n + 1, M, x2, x4 =>
    gd (inR (x4)) (
    if 60 ≤ x4 then (
      some (x2))
    else (
      Option.bind (fL_edge M x4) (fun t3 =>
      fL_mix_L8 n M ((31 * x2) + ((Int32.ofInt t3).toInt64)) (x4 + 1))))
def fL_mix_L38 : Nat → Mem → Int64 → Int → Option (Int64)
  | 0, _, _, _ => none
  | n + 1, M, x2, x4 =>
    gd (inR (x4)) (
    if 36 ≤ x4 then (
      some (x2))
    else (
      Option.bind (fL_bubbleAt M x4) (fun t11 =>
      fL_mix_L38 n M ((37 * x2) + ((Int32.ofInt t11).toInt64)) (x4 + 1))))
def fL_mix_L68 : Nat → Mem → Int64 → Int → Option (Int64)
  | 0, _, _, _ => none
  | n + 1, M, x2, x4 =>
    gd (inR (x4)) (
    gd (inR (M 21 (0 : Int).toNat)) (
    if M 21 (0 : Int).toNat ≤ x4 then (
      some (x2))
    else (
      Option.bind (fL_townAt M x4) (fun t20 =>
      fL_mix_L68 n M ((41 * x2) + ((Int32.ofInt t20).toInt64)) (x4 + 1)))))
def fL_mix_L99 : Nat → Mem → Int64 → Int → Option (Int64 × Mem)
  | 0, _, _, _ => none
  | n + 1, M, x2, x4 =>
    gd (inR (x4)) (
    if 8 ≤ x4 then (
      some (x2, M))
    else (
      Option.bind (fL_bubble M x4 4) (fun t28 =>
      fL_mix_L99 n t28.2 ((43 * x2) + ((Int32.ofInt t28.1).toInt64)) (x4 + 1))))
def fL_mix (M : Mem)  : Option (Int64 × Mem) :=
    Option.bind (fL_mix_L8 FU M ((Int32.ofInt (M 21 (0 : Int).toNat)).toInt64) 0) (fun t6 =>
    Option.bind (fL_mix_L38 FU M t6 0) (fun t14 =>
    Option.bind (fL_mix_L68 FU M t14 0) (fun t23 =>
    Option.bind (fL_mix_L99 FU M t23 0) (fun t31 =>
    Option.bind (fL_energy t31.2 2) (fun t34 =>
    Option.bind (fL_energy t34.2 3) (fun t36 =>
    Option.bind (fX5_side t36.2 0) (fun t38 =>
    Option.bind (fX5_side t38.2 1) (fun t40 =>
    Option.bind (tL_townAt t40.2 (t40.2 21 (0 : Int).toNat)) (fun t42 =>
    some ((((((47 * t31.1) + ((Int32.ofInt t34.1).toInt64)) + (3 * ((Int32.ofInt t36.1).toInt64))) + (5 * t38.1)) + (7 * t40.1)) + (11 * ((Int32.ofInt t42).toInt64)), t40.2))))))))))
abbrev rmL_mix : Room := { frames := 9, cells := 1, slots := 6, locals := 190 }
theorem hw_L_mix_k84 : Cond.constantLong RL 84 (31) ∈ wsL_mix := by decide +kernel
theorem hw_L_mix_k89 : Cond.constantLong RL 89 (37) ∈ wsL_mix := by decide +kernel
theorem hw_L_mix_k93 : Cond.constantLong RL 93 (41) ∈ wsL_mix := by decide +kernel
theorem hw_L_mix_k97 : Cond.constantLong RL 97 (43) ∈ wsL_mix := by decide +kernel
theorem hw_L_mix_k102 : Cond.constantLong RL 102 (47) ∈ wsL_mix := by decide +kernel
theorem hw_L_mix_k106 : Cond.constantLong RL 106 (3) ∈ wsL_mix := by decide +kernel
theorem hw_L_mix_k108 : Cond.constantLong RL 108 (5) ∈ wsL_mix := by decide +kernel
theorem hw_L_mix_k114 : Cond.constantLong RL 114 (7) ∈ wsL_mix := by decide +kernel
theorem hw_L_mix_k116 : Cond.constantLong RL 116 (11) ∈ wsL_mix := by decide +kernel
set_option maxRecDepth 100000 in
set_option maxHeartbeats 4000000 in
theorem kL_mix (l : Launch) (hl : l.stackTraces = false) (ad : Nat → Nat) (M : Mem)  (T : Int64 × Mem) (h : fL_mix M  = some T) : HK l yL_mix wsL_mix rmL_mix ad [.ref (ad 28), .ref (ad 21)] 1 M (some (.long (T.1))) T.2 := by
  refine HK.of (cc := cL_mix) (nL := 5) (rt := (some .long)) (own := RL) (by decide +kernel) rfl rfl (Nat.le_of_ble_eq_true rfl) ⟨Nat.le_of_ble_eq_true rfl, Nat.le_of_ble_eq_true rfl⟩ (fun G cx => ?_)
  show G (0, M) 0 [(0, .ref (ad 28)), (1, .ref (ad 21))] []
  have L8 : ∀ (n : Nat) (M : Mem) (x2 : Int64) (x4 : Int) (T5 : Int64), fL_mix_L8 n M x2 x4 = some T5 → (G (0, M) 35 [(0, .ref (ad 28)), (1, .ref (ad 21)), (2, .long (T5))] []) → G (0, M) 8 [(0, .ref (ad 28)), (1, .ref (ad 21)), (2, .long (x2)), (4, iV (x4))] [] := by
    intro n
    induction n with
    | zero =>
      intro M x2 x4 T5 h
      exact absurd h (by simp [fL_mix_L8])
    | succ n ih =>
      intro M x2 x4 T5 h hJ
      rw [fL_mix_L8] at h
      refine bx_iload cx 3 dL_mix_8 rfl ?_
      refine bx_bipush (z := 60) cx dL_mix_10 (by decide) ?_
      obtain ⟨g1, h⟩ := gd_some h
      refine bx_icmp_ge cx 35 dL_mix_12 (by decide) g1 ⟨by decide, by decide⟩ (fun c2 => ?_) (fun c2 => ?_)
      · rw [if_pos c2] at h
        refine bx_lv cx [0, 1, 2] rfl ?_
        cases h
        exact hJ
      · rw [if_neg c2] at h
        refine bx_ldc2 (v := 31) cx dL_mix_15 hw_L_mix_k84 ?_
        refine bx_lload_n cx 2 dL_mix_18 rfl rfl ?_
        refine bx_lmul cx dL_mix_19 ?_
        refine bx_aload_n cx 0 dL_mix_20 rfl rfl ?_
        refine bx_iload cx 3 dL_mix_21 rfl ?_
        obtain ⟨t3, e4, h⟩ := ob h
        refine bx_callHW (As := [.ref (ad 28), iV (x4)]) (n := 2) (kk := 0) (st := [.long (31 * x2)]) cx (kL_edge l hl ad M x4 _ e4) (Nat.le_of_ble_eq_true rfl) gL_mix_L_edge rfl ⟨rfl, rfl⟩ (by decide +kernel) rfl ⟨by decide, by decide⟩ rfl (Nat.le_of_ble_eq_true rfl) dL_mix_23 ?_
        refine bx_i2l cx dL_mix_26 ?_
        refine bx_ladd cx dL_mix_27 ?_
        refine bx_lstore_n (lv' := [(2, .long ((31 * x2) + ((Int32.ofInt t3).toInt64))), (0, .ref (ad 28)), (1, .ref (ad 21)), (4, iV (x4))]) cx dL_mix_28 rfl (by decide) rfl ?_
        refine bx_iinc (lv' := [(4, iV (x4 + 1)), (2, .long ((31 * x2) + ((Int32.ofInt t3).toInt64))), (0, .ref (ad 28)), (1, .ref (ad 21))]) cx 3 dL_mix_29 rfl (by decide) rfl ?_
        refine bx_goto cx 8 dL_mix_32 (by decide) ?_
        refine bx_lv cx [2, 3, 1, 0] rfl ?_
        exact ih _ _ _ _ h hJ
  have L38 : ∀ (n : Nat) (M : Mem) (x2 : Int64) (x4 : Int) (T13 : Int64), fL_mix_L38 n M x2 x4 = some T13 → (G (0, M) 65 [(0, .ref (ad 28)), (1, .ref (ad 21)), (2, .long (T13))] []) → G (0, M) 38 [(0, .ref (ad 28)), (1, .ref (ad 21)), (2, .long (x2)), (4, iV (x4))] [] := by
    intro n
    induction n with
    | zero =>
      intro M x2 x4 T13 h
      exact absurd h (by simp [fL_mix_L38])
    | succ n ih =>
      intro M x2 x4 T13 h hJ
      rw [fL_mix_L38] at h
      refine bx_iload cx 3 dL_mix_38 rfl ?_
      refine bx_bipush (z := 36) cx dL_mix_40 (by decide) ?_
      obtain ⟨g9, h⟩ := gd_some h
      refine bx_icmp_ge cx 65 dL_mix_42 (by decide) g9 ⟨by decide, by decide⟩ (fun c10 => ?_) (fun c10 => ?_)
      · rw [if_pos c10] at h
        refine bx_lv cx [0, 1, 2] rfl ?_
        cases h
        exact hJ
      · rw [if_neg c10] at h
        refine bx_ldc2 (v := 37) cx dL_mix_45 hw_L_mix_k89 ?_
        refine bx_lload_n cx 2 dL_mix_48 rfl rfl ?_
        refine bx_lmul cx dL_mix_49 ?_
        refine bx_aload_n cx 0 dL_mix_50 rfl rfl ?_
        refine bx_iload cx 3 dL_mix_51 rfl ?_
        obtain ⟨t11, e12, h⟩ := ob h
        refine bx_callHW (As := [.ref (ad 28), iV (x4)]) (n := 2) (kk := 0) (st := [.long (37 * x2)]) cx (kL_bubbleAt l hl ad M x4 _ e12) (Nat.le_of_ble_eq_true rfl) gL_mix_L_bubbleAt rfl ⟨rfl, rfl⟩ (by decide +kernel) rfl ⟨by decide, by decide⟩ rfl (Nat.le_of_ble_eq_true rfl) dL_mix_53 ?_
        refine bx_i2l cx dL_mix_56 ?_
        refine bx_ladd cx dL_mix_57 ?_
        refine bx_lstore_n (lv' := [(2, .long ((37 * x2) + ((Int32.ofInt t11).toInt64))), (0, .ref (ad 28)), (1, .ref (ad 21)), (4, iV (x4))]) cx dL_mix_58 rfl (by decide) rfl ?_
        refine bx_iinc (lv' := [(4, iV (x4 + 1)), (2, .long ((37 * x2) + ((Int32.ofInt t11).toInt64))), (0, .ref (ad 28)), (1, .ref (ad 21))]) cx 3 dL_mix_59 rfl (by decide) rfl ?_
        refine bx_goto cx 38 dL_mix_62 (by decide) ?_
        refine bx_lv cx [2, 3, 1, 0] rfl ?_
        exact ih _ _ _ _ h hJ
  have L68 : ∀ (n : Nat) (M : Mem) (x2 : Int64) (x4 : Int) (T22 : Int64), fL_mix_L68 n M x2 x4 = some T22 → (G (0, M) 96 [(0, .ref (ad 28)), (1, .ref (ad 21)), (2, .long (T22))] []) → G (0, M) 68 [(0, .ref (ad 28)), (1, .ref (ad 21)), (2, .long (x2)), (4, iV (x4))] [] := by
    intro n
    induction n with
    | zero =>
      intro M x2 x4 T22 h
      exact absurd h (by simp [fL_mix_L68])
    | succ n ih =>
      intro M x2 x4 T22 h hJ
      rw [fL_mix_L68] at h
      refine bx_iload cx 3 dL_mix_68 rfl ?_
      refine bx_aload_n cx 1 dL_mix_70 rfl rfl ?_
      refine bx_iconst cx dL_mix_71 ?_
      refine bx_iald (n := 1) cx (by decide) rfl rfl ⟨by decide, by decide⟩ dL_mix_72 ?_
      obtain ⟨g17, h⟩ := gd_some h
      obtain ⟨g18, h⟩ := gd_some h
      refine bx_icmp_ge cx 96 dL_mix_73 (by decide) g17 g18 (fun c19 => ?_) (fun c19 => ?_)
      · rw [if_pos c19] at h
        refine bx_lv cx [0, 1, 2] rfl ?_
        cases h
        exact hJ
      · rw [if_neg c19] at h
        refine bx_ldc2 (v := 41) cx dL_mix_76 hw_L_mix_k93 ?_
        refine bx_lload_n cx 2 dL_mix_79 rfl rfl ?_
        refine bx_lmul cx dL_mix_80 ?_
        refine bx_aload_n cx 0 dL_mix_81 rfl rfl ?_
        refine bx_iload cx 3 dL_mix_82 rfl ?_
        obtain ⟨t20, e21, h⟩ := ob h
        refine bx_callHW (As := [.ref (ad 28), iV (x4)]) (n := 2) (kk := 0) (st := [.long (41 * x2)]) cx (kL_townAt l hl ad M x4 _ e21) (Nat.le_of_ble_eq_true rfl) gL_mix_L_townAt rfl ⟨rfl, rfl⟩ (by decide +kernel) rfl ⟨by decide, by decide⟩ rfl (Nat.le_of_ble_eq_true rfl) dL_mix_84 ?_
        refine bx_i2l cx dL_mix_87 ?_
        refine bx_ladd cx dL_mix_88 ?_
        refine bx_lstore_n (lv' := [(2, .long ((41 * x2) + ((Int32.ofInt t20).toInt64))), (0, .ref (ad 28)), (1, .ref (ad 21)), (4, iV (x4))]) cx dL_mix_89 rfl (by decide) rfl ?_
        refine bx_iinc (lv' := [(4, iV (x4 + 1)), (2, .long ((41 * x2) + ((Int32.ofInt t20).toInt64))), (0, .ref (ad 28)), (1, .ref (ad 21))]) cx 3 dL_mix_90 rfl (by decide) rfl ?_
        refine bx_goto cx 68 dL_mix_93 (by decide) ?_
        refine bx_lv cx [2, 3, 1, 0] rfl ?_
        exact ih _ _ _ _ h hJ
  have L99 : ∀ (n : Nat) (M : Mem) (x2 : Int64) (x4 : Int) (T30 : Int64 × Mem), fL_mix_L99 n M x2 x4 = some T30 → (G (0, T30.2) 127 [(0, .ref (ad 28)), (1, .ref (ad 21)), (2, .long (T30.1))] []) → G (0, M) 99 [(0, .ref (ad 28)), (1, .ref (ad 21)), (2, .long (x2)), (4, iV (x4))] [] := by
    intro n
    induction n with
    | zero =>
      intro M x2 x4 T30 h
      exact absurd h (by simp [fL_mix_L99])
    | succ n ih =>
      intro M x2 x4 T30 h hJ
      rw [fL_mix_L99] at h
      refine bx_iload cx 3 dL_mix_99 rfl ?_
      refine bx_bipush (z := 8) cx dL_mix_101 (by decide) ?_
      obtain ⟨g26, h⟩ := gd_some h
      refine bx_icmp_ge cx 127 dL_mix_103 (by decide) g26 ⟨by decide, by decide⟩ (fun c27 => ?_) (fun c27 => ?_)
      · rw [if_pos c27] at h
        refine bx_lv cx [0, 1, 2] rfl ?_
        cases h
        exact hJ
      · rw [if_neg c27] at h
        refine bx_ldc2 (v := 43) cx dL_mix_106 hw_L_mix_k97 ?_
        refine bx_lload_n cx 2 dL_mix_109 rfl rfl ?_
        refine bx_lmul cx dL_mix_110 ?_
        refine bx_aload_n cx 0 dL_mix_111 rfl rfl ?_
        refine bx_iload cx 3 dL_mix_112 rfl ?_
        refine bx_iconst cx dL_mix_114 ?_
        obtain ⟨t28, e29, h⟩ := ob h
        refine bx_callHW (As := [.ref (ad 28), iV (x4), iV (4)]) (n := 3) (kk := 0) (st := [.long (43 * x2)]) cx (kL_bubble l hl ad M x4 4 _ e29) (Nat.le_of_ble_eq_true rfl) gL_mix_L_bubble rfl ⟨rfl, rfl⟩ (by decide +kernel) rfl ⟨by decide, by decide⟩ rfl (Nat.le_of_ble_eq_true rfl) dL_mix_115 ?_
        refine bx_i2l cx dL_mix_118 ?_
        refine bx_ladd cx dL_mix_119 ?_
        refine bx_lstore_n (lv' := [(2, .long ((43 * x2) + ((Int32.ofInt t28.1).toInt64))), (0, .ref (ad 28)), (1, .ref (ad 21)), (4, iV (x4))]) cx dL_mix_120 rfl (by decide) rfl ?_
        refine bx_iinc (lv' := [(4, iV (x4 + 1)), (2, .long ((43 * x2) + ((Int32.ofInt t28.1).toInt64))), (0, .ref (ad 28)), (1, .ref (ad 21))]) cx 3 dL_mix_121 rfl (by decide) rfl ?_
        refine bx_goto cx 99 dL_mix_124 (by decide) ?_
        refine bx_lv cx [2, 3, 1, 0] rfl ?_
        exact ih _ _ _ _ h hJ
  unfold fL_mix at h
  refine bx_aload_n cx 1 dL_mix_0 rfl rfl ?_
  refine bx_iconst cx dL_mix_1 ?_
  refine bx_iald (n := 1) cx (by decide) rfl rfl ⟨by decide, by decide⟩ dL_mix_2 ?_
  refine bx_i2l cx dL_mix_3 ?_
  refine bx_lstore_n (lv' := [(2, .long ((Int32.ofInt (M 21 (0 : Int).toNat)).toInt64)), (0, .ref (ad 28)), (1, .ref (ad 21))]) cx dL_mix_4 rfl (by decide) rfl ?_
  refine bx_iconst cx dL_mix_5 ?_
  refine bx_istore (lv' := [(4, iV (0)), (2, .long ((Int32.ofInt (M 21 (0 : Int).toNat)).toInt64)), (0, .ref (ad 28)), (1, .ref (ad 21))]) cx dL_mix_6 (by decide) rfl ?_
  obtain ⟨t6, e7, h⟩ := ob h
  refine bx_lv cx [2, 3, 1, 0] rfl ?_
  have J8 : G (0, M) 35 [(0, .ref (ad 28)), (1, .ref (ad 21)), (2, .long (t6))] [] := by
    refine bx_iconst cx dL_mix_35 ?_
    refine bx_istore (lv' := [(4, iV (0)), (0, .ref (ad 28)), (1, .ref (ad 21)), (2, .long (t6))]) cx dL_mix_36 (by decide) rfl ?_
    obtain ⟨t14, e15, h⟩ := ob h
    refine bx_lv cx [1, 2, 3, 0] rfl ?_
    have J16 : G (0, M) 65 [(0, .ref (ad 28)), (1, .ref (ad 21)), (2, .long (t14))] [] := by
      refine bx_iconst cx dL_mix_65 ?_
      refine bx_istore (lv' := [(4, iV (0)), (0, .ref (ad 28)), (1, .ref (ad 21)), (2, .long (t14))]) cx dL_mix_66 (by decide) rfl ?_
      obtain ⟨t23, e24, h⟩ := ob h
      refine bx_lv cx [1, 2, 3, 0] rfl ?_
      have J25 : G (0, M) 96 [(0, .ref (ad 28)), (1, .ref (ad 21)), (2, .long (t23))] [] := by
        refine bx_iconst cx dL_mix_96 ?_
        refine bx_istore (lv' := [(4, iV (0)), (0, .ref (ad 28)), (1, .ref (ad 21)), (2, .long (t23))]) cx dL_mix_97 (by decide) rfl ?_
        obtain ⟨t31, e32, h⟩ := ob h
        refine bx_lv cx [1, 2, 3, 0] rfl ?_
        have J33 : G (0, t31.2) 127 [(0, .ref (ad 28)), (1, .ref (ad 21)), (2, .long (t31.1))] [] := by
          refine bx_ldc2 (v := 47) cx dL_mix_127 hw_L_mix_k102 ?_
          refine bx_lload_n cx 2 dL_mix_130 rfl rfl ?_
          refine bx_lmul cx dL_mix_131 ?_
          refine bx_aload_n cx 0 dL_mix_132 rfl rfl ?_
          refine bx_iconst cx dL_mix_133 ?_
          obtain ⟨t34, e35, h⟩ := ob h
          refine bx_callHW (As := [.ref (ad 28), iV (2)]) (n := 2) (kk := 0) (st := [.long (47 * t31.1)]) cx (kL_energy l hl ad t31.2 2 _ e35) (Nat.le_of_ble_eq_true rfl) gL_mix_L_energy rfl ⟨rfl, rfl⟩ (by decide +kernel) rfl ⟨by decide, by decide⟩ rfl (Nat.le_of_ble_eq_true rfl) dL_mix_134 ?_
          refine bx_i2l cx dL_mix_137 ?_
          refine bx_ladd cx dL_mix_138 ?_
          refine bx_ldc2 (v := 3) cx dL_mix_139 hw_L_mix_k106 ?_
          refine bx_aload_n cx 0 dL_mix_142 rfl rfl ?_
          refine bx_iconst cx dL_mix_143 ?_
          obtain ⟨t36, e37, h⟩ := ob h
          refine bx_callHW (As := [.ref (ad 28), iV (3)]) (n := 2) (kk := 0) (st := [.long (3), .long ((47 * t31.1) + ((Int32.ofInt t34.1).toInt64))]) cx (kL_energy l hl ad t34.2 3 _ e37) (Nat.le_of_ble_eq_true rfl) gL_mix_L_energy rfl ⟨rfl, rfl⟩ (by decide +kernel) rfl ⟨by decide, by decide⟩ rfl (Nat.le_of_ble_eq_true rfl) dL_mix_144 ?_
          refine bx_i2l cx dL_mix_147 ?_
          refine bx_lmul cx dL_mix_148 ?_
          refine bx_ladd cx dL_mix_149 ?_
          refine bx_ldc2 (v := 5) cx dL_mix_150 hw_L_mix_k108 ?_
          refine bx_aload_n cx 0 dL_mix_153 rfl rfl ?_
          refine bx_iconst cx dL_mix_154 ?_
          obtain ⟨t38, e39, h⟩ := ob h
          refine bx_callC (As := [iV (0)]) (n := 1) (st := [.long (5), .long (((47 * t31.1) + ((Int32.ofInt t34.1).toInt64)) + (3 * ((Int32.ofInt t36.1).toInt64)))]) cx (kX5_side l ad t36.2 0 _ e39) (Nat.le_of_ble_eq_true rfl) gL_mix_X5_side rfl ⟨rfl, rfl⟩ (by decide +kernel) rfl ⟨by decide, by decide⟩ rfl (Nat.le_of_ble_eq_true rfl) dL_mix_155 ?_
          refine bx_lmul cx dL_mix_158 ?_
          refine bx_ladd cx dL_mix_159 ?_
          refine bx_ldc2 (v := 7) cx dL_mix_160 hw_L_mix_k114 ?_
          refine bx_aload_n cx 0 dL_mix_163 rfl rfl ?_
          refine bx_iconst cx dL_mix_164 ?_
          obtain ⟨t40, e41, h⟩ := ob h
          refine bx_callC (As := [iV (1)]) (n := 1) (st := [.long (7), .long ((((47 * t31.1) + ((Int32.ofInt t34.1).toInt64)) + (3 * ((Int32.ofInt t36.1).toInt64))) + (5 * t38.1))]) cx (kX5_side l ad t38.2 1 _ e41) (Nat.le_of_ble_eq_true rfl) gL_mix_X5_side rfl ⟨rfl, rfl⟩ (by decide +kernel) rfl ⟨by decide, by decide⟩ rfl (Nat.le_of_ble_eq_true rfl) dL_mix_165 ?_
          refine bx_lmul cx dL_mix_168 ?_
          refine bx_ladd cx dL_mix_169 ?_
          refine bx_ldc2 (v := 11) cx dL_mix_170 hw_L_mix_k116 ?_
          refine bx_aload_n cx 0 dL_mix_173 rfl rfl ?_
          refine bx_aload_n cx 1 dL_mix_174 rfl rfl ?_
          refine bx_iconst cx dL_mix_175 ?_
          refine bx_iald (n := 1) cx (by decide) rfl rfl ⟨by decide, by decide⟩ dL_mix_176 ?_
          obtain ⟨t42, e43, h⟩ := ob h
          refine bx_callHW (As := [.ref (ad 28), iV (t40.2 21 (0 : Int).toNat)]) (n := 2) (kk := 1) (st := [.long (11), .long (((((47 * t31.1) + ((Int32.ofInt t34.1).toInt64)) + (3 * ((Int32.ofInt t36.1).toInt64))) + (5 * t38.1)) + (7 * t40.1))]) cx (tL_townAt_k l hl ad t40.2 (t40.2 21 (0 : Int).toNat) _ e43) (Nat.le_of_ble_eq_true rfl) gL_mix_L_townAt rfl ⟨rfl, rfl⟩ (by decide +kernel) rfl ⟨by decide, by decide⟩ rfl (Nat.le_of_ble_eq_true rfl) dL_mix_177 ?_
          refine bx_i2l cx dL_mix_180 ?_
          refine bx_lmul cx dL_mix_181 ?_
          refine bx_ladd cx dL_mix_182 ?_
          cases h
          exact bx_lret cx dL_mix_183 rfl (Nat.le_of_ble_eq_true rfl) ⟨rfl, rfl⟩
        exact L99 FU M t23 0 _ e32 J33
      exact L68 FU M t14 0 _ e24 J25
    exact L38 FU M t6 0 _ e15 J16
  exact L8 FU M ((Int32.ofInt (M 21 (0 : Int).toNat)).toInt64) 0 _ e7 J8
def fL_isFoam_L33 : Nat → Mem → Int → Int → Int → Int → Int → Int → Int → Int → Option (Int × Int × Int)
  | 0, _, _, _, _, _, _, _, _, _ => none
  | n + 1, M, x1, x2, x3, x4, x5, x6, x7, x8 =>
    gd (inR (x8)) (
    if 8 ≤ x8 then (
      some (x4, x6, x7))
    else (
      Option.bind (fL_wall M x5 x8) (fun t7 =>
      gd (inR (t7)) (
      Option.bind (if t7 ≤ 0 then (
        some (0))
      else (
        some (1))) (fun t11 =>
      gd (inR (x4)) (
      Option.bind (if x4 = 0 then (
        some (0))
      else (
        Option.bind (fL_wall M x8 x5) (fun t16 =>
        gd (inR (t16)) (
        if t7 = t16 then (
          gd (inR (x5)) (
          if x8 = x5 then (
            if t7 = 0 then (
              some (1))
            else (
              some (0)))
          else (
            some (1))))
        else (
          some (0)))))) (fun t23 =>
      fL_isFoam_L33 n M x1 x2 x3 t23 x5 (x6 + t7) (x7 + t11) (x8 + 1))))))))
def fL_isFoam_L12 : Nat → Mem → Int → Int → Int → Int → Int → Option (Int × Int × Int × Mem)
  | 0, _, _, _, _, _, _ => none
  | n + 1, M, x1, x2, x3, x4, x5 =>
    gd (inR (x5)) (
    if 8 ≤ x5 then (
      some (x1, x2, x4, M))
    else (
      gd (inR (x4)) (
      if x4 = 0 then (
        some (x1, x2, x4, M))
      else (
        Option.bind (fL_isFoam_L33 FU M x1 x2 x3 x4 x5 0 0 0) (fun t27 =>
        Option.bind (fL_bubble M x5 0) (fun t30 =>
        Option.bind (fL_bubble t30.2 x5 1) (fun t32 =>
        gd (inR (t27.1)) (
        Option.bind (if t27.1 = 0 then (
          some (0, t32.2))
        else (
          Option.bind (fL_bubble t32.2 x5 2) (fun t36 =>
          gd (inR (t27.2.1)) (
          gd (inR (t36.1)) (
          if t27.2.1 = t36.1 then (
            Option.bind (fL_bubble t36.2 x5 3) (fun t41 =>
            gd (inR (t27.2.2)) (
            gd (inR (t41.1)) (
            if t27.2.2 = t41.1 then (
              gd (inR (t32.1)) (
              gd (inR (t30.1)) (
              if t30.1 < t32.1 then (
                some (0, t41.2))
              else (
                Option.bind (if t32.1 ≤ 0 then (
                  some (0))
                else (
                  some (1))) (fun t50 =>
                Option.bind (if t30.1 ≤ 0 then (
                  some (0))
                else (
                  some (1))) (fun t54 =>
                gd (inR (t50)) (
                gd (inR (t54)) (
                if t50 = t54 then (
                  some (1, t41.2))
                else (
                  some (0, t41.2))))))))))
            else (
              some (0, t41.2))))))
          else (
            some (0, t36.2))))))) (fun t60 =>
        fL_isFoam_L12 n t60.2 (x1 + t27.2.1) (x2 + t30.1) x3 t60.1 (x5 + 1))))))))))
def fL_isFoam_L218 : Nat → Mem → Int → Int → Int → Int → Int → Option (Int)
  | 0, _, _, _, _, _, _ => none
  | n + 1, M, x1, x2, x3, x4, x5 =>
    gd (inR (x5)) (
    if 5 ≤ x5 then (
      some (x3))
    else (
      Option.bind (fL_corners M x5) (fun t69 =>
      fL_isFoam_L218 n M x1 x2 (x3 + t69) x4 (x5 + 1))))
def fL_isFoam (M : Mem)  : Option (Int × Mem) :=
    Option.bind (fL_isFoam_L12 FU M 0 0 0 1 0) (fun t64 =>
    Option.bind (fL_isFoam_L218 FU t64.2.2.2 t64.1 t64.2.1 0 t64.2.2.1 1) (fun t72 =>
    Option.bind (fL_energy t64.2.2.2 0) (fun t75 =>
    Option.bind (fL_energy t75.2 1) (fun t77 =>
    Option.bind (fX5_rests t77.2) (fun t79 =>
    gd (inR (t64.2.2.1)) (
    Option.bind (if t64.2.2.1 = 0 then (
      some (0, t79.2))
    else (
      gd (inR (t64.1)) (
      gd (inR (2 * t75.1)) (
      if t64.1 = 2 * t75.1 then (
        gd (inR (t64.2.1)) (
        if t64.2.1 = 36 then (
          gd (inR (t72)) (
          if t72 = 25 then (
            Option.bind (fL_energy t79.2 4) (fun t90 =>
            gd (inR (t90.1)) (
            if t90.1 = 0 then (
              gd (inR (t77.1)) (
              gd (inR (t75.1)) (
              if t75.1 < t77.1 then (
                some (0, t90.2))
              else (
                gd (inR (t79.1)) (
                if t79.1 < 0 then (
                  some (0, t90.2))
                else (
                  Option.bind (if t79.1 ≤ 0 then (
                    some (0))
                  else (
                    some (1))) (fun t100 =>
                  Option.bind (if t75.1 ≤ t77.1 then (
                    some (0))
                  else (
                    some (1))) (fun t104 =>
                  gd (inR (t100)) (
                  gd (inR (t104)) (
                  if t100 = t104 then (
                    Option.bind (fL_energy t90.2 3) (fun t110 =>
                    gd (inR (t110.1)) (
                    if t110.1 < 0 then (
                      some (0, t110.2))
                    else (
                      some (1, t110.2)))))
                  else (
                    some (0, t90.2))))))))))))
            else (
              some (0, t90.2)))))
          else (
            some (0, t79.2))))
        else (
          some (0, t79.2))))
      else (
        some (0, t79.2)))))) (fun t114 =>
    gd (t114.1 = 0 ∨ t114.1 = 1) (
    some (t114.1, t114.2)))))))))
abbrev rmL_isFoam : Room := { frames := 9, cells := 0, slots := 0, locals := 190 }
set_option maxRecDepth 100000 in
set_option maxHeartbeats 4000000 in
theorem kL_isFoam (l : Launch) (hl : l.stackTraces = false) (ad : Nat → Nat) (M : Mem)  (T : Int × Mem) (h : fL_isFoam M  = some T) : HK l yL_isFoam wsL_isFoam rmL_isFoam ad [.ref (ad 28)] 0 M (some (iV (T.1))) T.2 := by
  refine HK.of (cc := cL_isFoam) (nL := 10) (rt := (some .boolean)) (own := RL) (by decide +kernel) rfl rfl (Nat.le_of_ble_eq_true rfl) ⟨Nat.le_of_ble_eq_true rfl, Nat.le_of_ble_eq_true rfl⟩ (fun G cx => ?_)
  show G (0, M) 0 [(0, .ref (ad 28))] []
  have L33 : ∀ (n : Nat) (M : Mem) (x1 : Int) (x2 : Int) (x3 : Int) (x4 : Int) (x5 : Int) (x6 : Int) (x7 : Int) (x8 : Int) (T26 : Int × Int × Int), fL_isFoam_L33 n M x1 x2 x3 x4 x5 x6 x7 x8 = some T26 → (G (0, M) 115 [(0, .ref (ad 28)), (1, iV (x1)), (2, iV (x2)), (3, iV (x3)), (4, iV (T26.1)), (5, iV (x5)), (6, iV (T26.2.1)), (7, iV (T26.2.2))] []) → G (0, M) 33 [(0, .ref (ad 28)), (1, iV (x1)), (2, iV (x2)), (3, iV (x3)), (4, iV (x4)), (5, iV (x5)), (6, iV (x6)), (7, iV (x7)), (8, iV (x8))] [] := by
    intro n
    induction n with
    | zero =>
      intro M x1 x2 x3 x4 x5 x6 x7 x8 T26 h
      exact absurd h (by simp [fL_isFoam_L33])
    | succ n ih =>
      intro M x1 x2 x3 x4 x5 x6 x7 x8 T26 h hJ
      rw [fL_isFoam_L33] at h
      refine bx_iload cx 8 dL_isFoam_33 rfl ?_
      refine bx_bipush (z := 8) cx dL_isFoam_35 (by decide) ?_
      obtain ⟨g5, h⟩ := gd_some h
      refine bx_icmp_ge cx 115 dL_isFoam_37 (by decide) g5 ⟨by decide, by decide⟩ (fun c6 => ?_) (fun c6 => ?_)
      · rw [if_pos c6] at h
        refine bx_lv cx [0, 1, 2, 3, 4, 5, 6, 7] rfl ?_
        cases h
        exact hJ
      · rw [if_neg c6] at h
        refine bx_aload_n cx 0 dL_isFoam_40 rfl rfl ?_
        refine bx_iload cx 5 dL_isFoam_41 rfl ?_
        refine bx_iload cx 8 dL_isFoam_43 rfl ?_
        obtain ⟨t7, e8, h⟩ := ob h
        refine bx_callHW (As := [.ref (ad 28), iV (x5), iV (x8)]) (n := 3) (kk := 0) (st := []) cx (kL_wall l hl ad M x5 x8 _ e8) (Nat.le_of_ble_eq_true rfl) gL_isFoam_L_wall rfl ⟨rfl, rfl⟩ (by decide +kernel) rfl ⟨by decide, by decide⟩ rfl (Nat.le_of_ble_eq_true rfl) dL_isFoam_45 ?_
        refine bx_istore (lv' := [(9, iV (t7)), (0, .ref (ad 28)), (1, iV (x1)), (2, iV (x2)), (3, iV (x3)), (4, iV (x4)), (5, iV (x5)), (6, iV (x6)), (7, iV (x7)), (8, iV (x8))]) cx dL_isFoam_48 (by decide) rfl ?_
        refine bx_iload cx 7 dL_isFoam_50 rfl ?_
        refine bx_iload cx 0 dL_isFoam_52 rfl ?_
        refine bx_iadd cx dL_isFoam_54 ?_
        refine bx_istore (lv' := [(6, iV (x6 + t7)), (9, iV (t7)), (0, .ref (ad 28)), (1, iV (x1)), (2, iV (x2)), (3, iV (x3)), (4, iV (x4)), (5, iV (x5)), (7, iV (x7)), (8, iV (x8))]) cx dL_isFoam_55 (by decide) rfl ?_
        refine bx_iload cx 8 dL_isFoam_57 rfl ?_
        refine bx_iload cx 1 dL_isFoam_59 rfl ?_
        obtain ⟨g9, h⟩ := gd_some h
        obtain ⟨t11, e13, h⟩ := ob h
        have J12 : G (0, M) 69 [(0, .ref (ad 28)), (1, iV (x1)), (2, iV (x2)), (3, iV (x3)), (4, iV (x4)), (5, iV (x5)), (6, iV (x6 + t7)), (8, iV (x8)), (9, iV (t7))] [iV (t11), iV (x7)] := by
          refine bx_iadd cx dL_isFoam_69 ?_
          refine bx_istore (lv' := [(7, iV (x7 + t11)), (0, .ref (ad 28)), (1, iV (x1)), (2, iV (x2)), (3, iV (x3)), (4, iV (x4)), (5, iV (x5)), (6, iV (x6 + t7)), (8, iV (x8)), (9, iV (t7))]) cx dL_isFoam_70 (by decide) rfl ?_
          refine bx_iload cx 5 dL_isFoam_72 rfl ?_
          obtain ⟨g14, h⟩ := gd_some h
          obtain ⟨t23, e25, h⟩ := ob h
          have J24 : G (0, M) 107 [(0, .ref (ad 28)), (1, iV (x1)), (2, iV (x2)), (3, iV (x3)), (5, iV (x5)), (6, iV (x6 + t7)), (7, iV (x7 + t11)), (8, iV (x8))] [iV (t23)] := by
            refine bx_istore (lv' := [(4, iV (t23)), (0, .ref (ad 28)), (1, iV (x1)), (2, iV (x2)), (3, iV (x3)), (5, iV (x5)), (6, iV (x6 + t7)), (7, iV (x7 + t11)), (8, iV (x8))]) cx dL_isFoam_107 (by decide) rfl ?_
            refine bx_iinc (lv' := [(8, iV (x8 + 1)), (4, iV (t23)), (0, .ref (ad 28)), (1, iV (x1)), (2, iV (x2)), (3, iV (x3)), (5, iV (x5)), (6, iV (x6 + t7)), (7, iV (x7 + t11))]) cx 8 dL_isFoam_109 rfl (by decide) rfl ?_
            refine bx_goto cx 33 dL_isFoam_112 (by decide) ?_
            refine bx_lv cx [2, 3, 4, 5, 1, 6, 7, 8, 0] rfl ?_
            exact ih _ _ _ _ _ _ _ _ _ _ h hJ
          clear h
          have h := e25
          clear e25
          refine bx_if_eq cx 106 dL_isFoam_74 (by decide) g14 (fun c15 => ?_) (fun c15 => ?_)
          · rw [if_pos c15] at h
            refine bx_iconst cx dL_isFoam_106 ?_
            refine bx_lv cx [1, 2, 3, 4, 6, 7, 0, 8] rfl ?_
            cases h
            exact J24
          · rw [if_neg c15] at h
            refine bx_iload cx 9 dL_isFoam_77 rfl ?_
            refine bx_aload_n cx 1 dL_isFoam_79 rfl rfl ?_
            refine bx_iload cx 8 dL_isFoam_80 rfl ?_
            refine bx_iload cx 6 dL_isFoam_82 rfl ?_
            obtain ⟨t16, e17, h⟩ := ob h
            refine bx_callHW (As := [.ref (ad 28), iV (x8), iV (x5)]) (n := 3) (kk := 0) (st := [iV (t7)]) cx (kL_wall l hl ad M x8 x5 _ e17) (Nat.le_of_ble_eq_true rfl) gL_isFoam_L_wall rfl ⟨rfl, rfl⟩ (by decide +kernel) rfl ⟨by decide, by decide⟩ rfl (Nat.le_of_ble_eq_true rfl) dL_isFoam_84 ?_
            obtain ⟨g18, h⟩ := gd_some h
            refine bx_icmp_ne cx 106 dL_isFoam_87 (by decide) g9 g18 (fun c19 => ?_) (fun c19 => ?_)
            · rw [if_pos c19] at h
              refine bx_iload cx 8 dL_isFoam_90 rfl ?_
              refine bx_iload cx 6 dL_isFoam_92 rfl ?_
              obtain ⟨g20, h⟩ := gd_some h
              refine bx_icmp_ne cx 102 dL_isFoam_94 (by decide) g5 g20 (fun c21 => ?_) (fun c21 => ?_)
              · rw [if_pos c21] at h
                refine bx_iload cx 9 dL_isFoam_97 rfl ?_
                refine bx_if_ne cx 106 dL_isFoam_99 (by decide) g9 (fun c22 => ?_) (fun c22 => ?_)
                · rw [if_pos c22] at h
                  refine bx_iconst cx dL_isFoam_102 ?_
                  refine bx_goto cx 107 dL_isFoam_103 (by decide) ?_
                  refine bx_lv cx [1, 2, 3, 4, 6, 7, 0, 8] rfl ?_
                  cases h
                  exact J24
                · rw [if_neg c22] at h
                  refine bx_iconst cx dL_isFoam_106 ?_
                  refine bx_lv cx [1, 2, 3, 4, 6, 7, 0, 8] rfl ?_
                  cases h
                  exact J24
              · rw [if_neg c21] at h
                refine bx_iconst cx dL_isFoam_102 ?_
                refine bx_goto cx 107 dL_isFoam_103 (by decide) ?_
                refine bx_lv cx [1, 2, 3, 4, 6, 7, 0, 8] rfl ?_
                cases h
                exact J24
            · rw [if_neg c19] at h
              refine bx_iconst cx dL_isFoam_106 ?_
              refine bx_lv cx [1, 2, 3, 4, 6, 7, 0, 8] rfl ?_
              cases h
              exact J24
        clear h
        have h := e13
        clear e13
        refine bx_if_le cx 68 dL_isFoam_61 (by decide) g9 (fun c10 => ?_) (fun c10 => ?_)
        · rw [if_pos c10] at h
          refine bx_iconst cx dL_isFoam_68 ?_
          refine bx_lv cx [2, 3, 4, 5, 6, 7, 0, 9, 1] rfl ?_
          cases h
          exact J12
        · rw [if_neg c10] at h
          refine bx_iconst cx dL_isFoam_64 ?_
          refine bx_goto cx 69 dL_isFoam_65 (by decide) ?_
          refine bx_lv cx [2, 3, 4, 5, 6, 7, 0, 9, 1] rfl ?_
          cases h
          exact J12
  have L12 : ∀ (n : Nat) (M : Mem) (x1 : Int) (x2 : Int) (x3 : Int) (x4 : Int) (x5 : Int) (T63 : Int × Int × Int × Mem), fL_isFoam_L12 n M x1 x2 x3 x4 x5 = some T63 → (G (0, T63.2.2.2) 215 [(0, .ref (ad 28)), (1, iV (T63.1)), (2, iV (T63.2.1)), (3, iV (x3)), (4, iV (T63.2.2.1))] []) → G (0, M) 12 [(0, .ref (ad 28)), (1, iV (x1)), (2, iV (x2)), (3, iV (x3)), (4, iV (x4)), (5, iV (x5))] [] := by
    intro n
    induction n with
    | zero =>
      intro M x1 x2 x3 x4 x5 T63 h
      exact absurd h (by simp [fL_isFoam_L12])
    | succ n ih =>
      intro M x1 x2 x3 x4 x5 T63 h hJ
      rw [fL_isFoam_L12] at h
      refine bx_iload cx 5 dL_isFoam_12 rfl ?_
      refine bx_bipush (z := 8) cx dL_isFoam_14 (by decide) ?_
      obtain ⟨g1, h⟩ := gd_some h
      refine bx_icmp_ge cx 215 dL_isFoam_16 (by decide) g1 ⟨by decide, by decide⟩ (fun c2 => ?_) (fun c2 => ?_)
      · rw [if_pos c2] at h
        refine bx_lv cx [0, 1, 2, 3, 4] rfl ?_
        cases h
        exact hJ
      · rw [if_neg c2] at h
        refine bx_iload cx 4 dL_isFoam_19 rfl ?_
        obtain ⟨g3, h⟩ := gd_some h
        refine bx_if_eq cx 215 dL_isFoam_21 (by decide) g3 (fun c4 => ?_) (fun c4 => ?_)
        · rw [if_pos c4] at h
          refine bx_lv cx [0, 1, 2, 3, 4] rfl ?_
          cases h
          exact hJ
        · rw [if_neg c4] at h
          refine bx_iconst cx dL_isFoam_24 ?_
          refine bx_istore (lv' := [(6, iV (0)), (0, .ref (ad 28)), (1, iV (x1)), (2, iV (x2)), (3, iV (x3)), (4, iV (x4)), (5, iV (x5))]) cx dL_isFoam_25 (by decide) rfl ?_
          refine bx_iconst cx dL_isFoam_27 ?_
          refine bx_istore (lv' := [(7, iV (0)), (6, iV (0)), (0, .ref (ad 28)), (1, iV (x1)), (2, iV (x2)), (3, iV (x3)), (4, iV (x4)), (5, iV (x5))]) cx dL_isFoam_28 (by decide) rfl ?_
          refine bx_iconst cx dL_isFoam_30 ?_
          refine bx_istore (lv' := [(8, iV (0)), (7, iV (0)), (6, iV (0)), (0, .ref (ad 28)), (1, iV (x1)), (2, iV (x2)), (3, iV (x3)), (4, iV (x4)), (5, iV (x5))]) cx dL_isFoam_31 (by decide) rfl ?_
          obtain ⟨t27, e28, h⟩ := ob h
          refine bx_lv cx [3, 4, 5, 6, 7, 8, 2, 1, 0] rfl ?_
          have J29 : G (0, M) 115 [(0, .ref (ad 28)), (1, iV (x1)), (2, iV (x2)), (3, iV (x3)), (4, iV (t27.1)), (5, iV (x5)), (6, iV (t27.2.1)), (7, iV (t27.2.2))] [] := by
            refine bx_aload_n cx 0 dL_isFoam_115 rfl rfl ?_
            refine bx_iload cx 5 dL_isFoam_116 rfl ?_
            refine bx_iconst cx dL_isFoam_118 ?_
            obtain ⟨t30, e31, h⟩ := ob h
            refine bx_callHW (As := [.ref (ad 28), iV (x5), iV (0)]) (n := 3) (kk := 0) (st := []) cx (kL_bubble l hl ad M x5 0 _ e31) (Nat.le_of_ble_eq_true rfl) gL_isFoam_L_bubble rfl ⟨rfl, rfl⟩ (by decide +kernel) rfl ⟨by decide, by decide⟩ rfl (Nat.le_of_ble_eq_true rfl) dL_isFoam_119 ?_
            refine bx_istore (lv' := [(8, iV (t30.1)), (0, .ref (ad 28)), (1, iV (x1)), (2, iV (x2)), (3, iV (x3)), (4, iV (t27.1)), (5, iV (x5)), (6, iV (t27.2.1)), (7, iV (t27.2.2))]) cx dL_isFoam_122 (by decide) rfl ?_
            refine bx_aload_n cx 1 dL_isFoam_124 rfl rfl ?_
            refine bx_iload cx 6 dL_isFoam_125 rfl ?_
            refine bx_iconst cx dL_isFoam_127 ?_
            obtain ⟨t32, e33, h⟩ := ob h
            refine bx_callHW (As := [.ref (ad 28), iV (x5), iV (1)]) (n := 3) (kk := 0) (st := []) cx (kL_bubble l hl ad t30.2 x5 1 _ e33) (Nat.le_of_ble_eq_true rfl) gL_isFoam_L_bubble rfl ⟨rfl, rfl⟩ (by decide +kernel) rfl ⟨by decide, by decide⟩ rfl (Nat.le_of_ble_eq_true rfl) dL_isFoam_128 ?_
            refine bx_istore (lv' := [(9, iV (t32.1)), (8, iV (t30.1)), (0, .ref (ad 28)), (1, iV (x1)), (2, iV (x2)), (3, iV (x3)), (4, iV (t27.1)), (5, iV (x5)), (6, iV (t27.2.1)), (7, iV (t27.2.2))]) cx dL_isFoam_131 (by decide) rfl ?_
            refine bx_iload_n cx 3 dL_isFoam_133 rfl rfl ?_
            refine bx_iload cx 8 dL_isFoam_134 rfl ?_
            refine bx_iadd cx dL_isFoam_136 ?_
            refine bx_istore_n (lv' := [(1, iV (x1 + t27.2.1)), (9, iV (t32.1)), (8, iV (t30.1)), (0, .ref (ad 28)), (2, iV (x2)), (3, iV (x3)), (4, iV (t27.1)), (5, iV (x5)), (6, iV (t27.2.1)), (7, iV (t27.2.2))]) cx dL_isFoam_137 rfl (by decide) rfl ?_
            refine bx_iload_n cx 4 dL_isFoam_138 rfl rfl ?_
            refine bx_iload cx 2 dL_isFoam_139 rfl ?_
            refine bx_iadd cx dL_isFoam_141 ?_
            refine bx_istore_n (lv' := [(2, iV (x2 + t30.1)), (1, iV (x1 + t27.2.1)), (9, iV (t32.1)), (8, iV (t30.1)), (0, .ref (ad 28)), (3, iV (x3)), (4, iV (t27.1)), (5, iV (x5)), (6, iV (t27.2.1)), (7, iV (t27.2.2))]) cx dL_isFoam_142 rfl (by decide) rfl ?_
            refine bx_iload cx 6 dL_isFoam_143 rfl ?_
            obtain ⟨g34, h⟩ := gd_some h
            obtain ⟨t60, e62, h⟩ := ob h
            have J61 : G (0, t60.2) 207 [(0, .ref (ad 28)), (1, iV (x1 + t27.2.1)), (2, iV (x2 + t30.1)), (3, iV (x3)), (5, iV (x5))] [iV (t60.1)] := by
              refine bx_istore (lv' := [(4, iV (t60.1)), (0, .ref (ad 28)), (1, iV (x1 + t27.2.1)), (2, iV (x2 + t30.1)), (3, iV (x3)), (5, iV (x5))]) cx dL_isFoam_207 (by decide) rfl ?_
              refine bx_iinc (lv' := [(5, iV (x5 + 1)), (4, iV (t60.1)), (0, .ref (ad 28)), (1, iV (x1 + t27.2.1)), (2, iV (x2 + t30.1)), (3, iV (x3))]) cx 5 dL_isFoam_209 rfl (by decide) rfl ?_
              refine bx_goto cx 12 dL_isFoam_212 (by decide) ?_
              refine bx_lv cx [2, 3, 4, 5, 1, 0] rfl ?_
              exact ih _ _ _ _ _ _ _ h hJ
            clear h
            have h := e62
            clear e62
            refine bx_if_eq cx 206 dL_isFoam_145 (by decide) g34 (fun c35 => ?_) (fun c35 => ?_)
            · rw [if_pos c35] at h
              refine bx_iconst cx dL_isFoam_206 ?_
              refine bx_lv cx [4, 1, 0, 5, 7] rfl ?_
              cases h
              exact J61
            · rw [if_neg c35] at h
              refine bx_iload cx 8 dL_isFoam_148 rfl ?_
              refine bx_aload_n cx 4 dL_isFoam_150 rfl rfl ?_
              refine bx_iload cx 7 dL_isFoam_151 rfl ?_
              refine bx_iconst cx dL_isFoam_153 ?_
              obtain ⟨t36, e37, h⟩ := ob h
              refine bx_callHW (As := [.ref (ad 28), iV (x5), iV (2)]) (n := 3) (kk := 0) (st := [iV (t27.2.1)]) cx (kL_bubble l hl ad t32.2 x5 2 _ e37) (Nat.le_of_ble_eq_true rfl) gL_isFoam_L_bubble rfl ⟨rfl, rfl⟩ (by decide +kernel) rfl ⟨by decide, by decide⟩ rfl (Nat.le_of_ble_eq_true rfl) dL_isFoam_154 ?_
              obtain ⟨g38, h⟩ := gd_some h
              obtain ⟨g39, h⟩ := gd_some h
              refine bx_icmp_ne cx 206 dL_isFoam_157 (by decide) g38 g39 (fun c40 => ?_) (fun c40 => ?_)
              · rw [if_pos c40] at h
                refine bx_iload cx 9 dL_isFoam_160 rfl ?_
                refine bx_aload_n cx 4 dL_isFoam_162 rfl rfl ?_
                refine bx_iload cx 7 dL_isFoam_163 rfl ?_
                refine bx_iconst cx dL_isFoam_165 ?_
                obtain ⟨t41, e42, h⟩ := ob h
                refine bx_callHW (As := [.ref (ad 28), iV (x5), iV (3)]) (n := 3) (kk := 0) (st := [iV (t27.2.2)]) cx (kL_bubble l hl ad t36.2 x5 3 _ e42) (Nat.le_of_ble_eq_true rfl) gL_isFoam_L_bubble rfl ⟨rfl, rfl⟩ (by decide +kernel) rfl ⟨by decide, by decide⟩ rfl (Nat.le_of_ble_eq_true rfl) dL_isFoam_166 ?_
                obtain ⟨g43, h⟩ := gd_some h
                obtain ⟨g44, h⟩ := gd_some h
                refine bx_icmp_ne cx 206 dL_isFoam_169 (by decide) g43 g44 (fun c45 => ?_) (fun c45 => ?_)
                · rw [if_pos c45] at h
                  refine bx_iload cx 2 dL_isFoam_172 rfl ?_
                  refine bx_iload cx 3 dL_isFoam_174 rfl ?_
                  obtain ⟨g46, h⟩ := gd_some h
                  obtain ⟨g47, h⟩ := gd_some h
                  refine bx_icmp_gt cx 206 dL_isFoam_176 (by decide) g46 g47 (fun c48 => ?_) (fun c48 => ?_)
                  · rw [if_pos c48] at h
                    refine bx_iconst cx dL_isFoam_206 ?_
                    refine bx_lv cx [4, 1, 0, 5, 7] rfl ?_
                    cases h
                    exact J61
                  · rw [if_neg c48] at h
                    refine bx_iload cx 2 dL_isFoam_179 rfl ?_
                    obtain ⟨t50, e52, h⟩ := ob h
                    have J51 : G (0, t41.2) 189 [(0, .ref (ad 28)), (1, iV (x1 + t27.2.1)), (2, iV (x2 + t30.1)), (3, iV (x3)), (5, iV (x5)), (8, iV (t30.1))] [iV (t50)] := by
                      refine bx_iload cx 5 dL_isFoam_189 rfl ?_
                      obtain ⟨t54, e56, h⟩ := ob h
                      have J55 : G (0, t41.2) 199 [(0, .ref (ad 28)), (1, iV (x1 + t27.2.1)), (2, iV (x2 + t30.1)), (3, iV (x3)), (5, iV (x5))] [iV (t54), iV (t50)] := by
                        obtain ⟨g57, h⟩ := gd_some h
                        obtain ⟨g58, h⟩ := gd_some h
                        refine bx_icmp_ne cx 206 dL_isFoam_199 (by decide) g57 g58 (fun c59 => ?_) (fun c59 => ?_)
                        · rw [if_pos c59] at h
                          refine bx_iconst cx dL_isFoam_202 ?_
                          refine bx_goto cx 207 dL_isFoam_203 (by decide) ?_
                          cases h
                          exact J61
                        · rw [if_neg c59] at h
                          refine bx_iconst cx dL_isFoam_206 ?_
                          cases h
                          exact J61
                      clear h
                      have h := e56
                      clear e56
                      refine bx_if_le cx 198 dL_isFoam_191 (by decide) g47 (fun c53 => ?_) (fun c53 => ?_)
                      · rw [if_pos c53] at h
                        refine bx_iconst cx dL_isFoam_198 ?_
                        refine bx_lv cx [0, 1, 2, 3, 4] rfl ?_
                        cases h
                        exact J55
                      · rw [if_neg c53] at h
                        refine bx_iconst cx dL_isFoam_194 ?_
                        refine bx_goto cx 199 dL_isFoam_195 (by decide) ?_
                        refine bx_lv cx [0, 1, 2, 3, 4] rfl ?_
                        cases h
                        exact J55
                    clear h
                    have h := e52
                    clear e52
                    refine bx_if_le cx 188 dL_isFoam_181 (by decide) g46 (fun c49 => ?_) (fun c49 => ?_)
                    · rw [if_pos c49] at h
                      refine bx_iconst cx dL_isFoam_188 ?_
                      refine bx_lv cx [4, 1, 0, 5, 7, 3] rfl ?_
                      cases h
                      exact J51
                    · rw [if_neg c49] at h
                      refine bx_iconst cx dL_isFoam_184 ?_
                      refine bx_goto cx 189 dL_isFoam_185 (by decide) ?_
                      refine bx_lv cx [4, 1, 0, 5, 7, 3] rfl ?_
                      cases h
                      exact J51
                · rw [if_neg c45] at h
                  refine bx_iconst cx dL_isFoam_206 ?_
                  refine bx_lv cx [4, 1, 0, 5, 7] rfl ?_
                  cases h
                  exact J61
              · rw [if_neg c40] at h
                refine bx_iconst cx dL_isFoam_206 ?_
                refine bx_lv cx [4, 1, 0, 5, 7] rfl ?_
                cases h
                exact J61
          exact L33 FU M x1 x2 x3 x4 x5 0 0 0 _ e28 J29
  have L218 : ∀ (n : Nat) (M : Mem) (x1 : Int) (x2 : Int) (x3 : Int) (x4 : Int) (x5 : Int) (T71 : Int), fL_isFoam_L218 n M x1 x2 x3 x4 x5 = some T71 → (G (0, M) 239 [(0, .ref (ad 28)), (1, iV (x1)), (2, iV (x2)), (3, iV (T71)), (4, iV (x4))] []) → G (0, M) 218 [(0, .ref (ad 28)), (1, iV (x1)), (2, iV (x2)), (3, iV (x3)), (4, iV (x4)), (5, iV (x5))] [] := by
    intro n
    induction n with
    | zero =>
      intro M x1 x2 x3 x4 x5 T71 h
      exact absurd h (by simp [fL_isFoam_L218])
    | succ n ih =>
      intro M x1 x2 x3 x4 x5 T71 h hJ
      rw [fL_isFoam_L218] at h
      refine bx_iload cx 5 dL_isFoam_218 rfl ?_
      refine bx_iconst cx dL_isFoam_220 ?_
      obtain ⟨g67, h⟩ := gd_some h
      refine bx_icmp_ge cx 239 dL_isFoam_221 (by decide) g67 ⟨by decide, by decide⟩ (fun c68 => ?_) (fun c68 => ?_)
      · rw [if_pos c68] at h
        refine bx_lv cx [0, 1, 2, 3, 4] rfl ?_
        cases h
        exact hJ
      · rw [if_neg c68] at h
        refine bx_iload_n cx 3 dL_isFoam_224 rfl rfl ?_
        refine bx_aload_n cx 0 dL_isFoam_225 rfl rfl ?_
        refine bx_iload cx 5 dL_isFoam_226 rfl ?_
        obtain ⟨t69, e70, h⟩ := ob h
        refine bx_callHW (As := [.ref (ad 28), iV (x5)]) (n := 2) (kk := 0) (st := [iV (x3)]) cx (kL_corners l hl ad M x5 _ e70) (Nat.le_of_ble_eq_true rfl) gL_isFoam_L_corners rfl ⟨rfl, rfl⟩ (by decide +kernel) rfl ⟨by decide, by decide⟩ rfl (Nat.le_of_ble_eq_true rfl) dL_isFoam_228 ?_
        refine bx_iadd cx dL_isFoam_231 ?_
        refine bx_istore_n (lv' := [(3, iV (x3 + t69)), (0, .ref (ad 28)), (1, iV (x1)), (2, iV (x2)), (4, iV (x4)), (5, iV (x5))]) cx dL_isFoam_232 rfl (by decide) rfl ?_
        refine bx_iinc (lv' := [(5, iV (x5 + 1)), (3, iV (x3 + t69)), (0, .ref (ad 28)), (1, iV (x1)), (2, iV (x2)), (4, iV (x4))]) cx 5 dL_isFoam_233 rfl (by decide) rfl ?_
        refine bx_goto cx 218 dL_isFoam_236 (by decide) ?_
        refine bx_lv cx [2, 3, 4, 1, 5, 0] rfl ?_
        exact ih _ _ _ _ _ _ _ h hJ
  unfold fL_isFoam at h
  refine bx_iconst cx dL_isFoam_0 ?_
  refine bx_istore_n (lv' := [(1, iV (0)), (0, .ref (ad 28))]) cx dL_isFoam_1 rfl (by decide) rfl ?_
  refine bx_iconst cx dL_isFoam_2 ?_
  refine bx_istore_n (lv' := [(2, iV (0)), (1, iV (0)), (0, .ref (ad 28))]) cx dL_isFoam_3 rfl (by decide) rfl ?_
  refine bx_iconst cx dL_isFoam_4 ?_
  refine bx_istore_n (lv' := [(3, iV (0)), (2, iV (0)), (1, iV (0)), (0, .ref (ad 28))]) cx dL_isFoam_5 rfl (by decide) rfl ?_
  refine bx_iconst cx dL_isFoam_6 ?_
  refine bx_istore (lv' := [(4, iV (1)), (3, iV (0)), (2, iV (0)), (1, iV (0)), (0, .ref (ad 28))]) cx dL_isFoam_7 (by decide) rfl ?_
  refine bx_iconst cx dL_isFoam_9 ?_
  refine bx_istore (lv' := [(5, iV (0)), (4, iV (1)), (3, iV (0)), (2, iV (0)), (1, iV (0)), (0, .ref (ad 28))]) cx dL_isFoam_10 (by decide) rfl ?_
  obtain ⟨t64, e65, h⟩ := ob h
  refine bx_lv cx [5, 4, 3, 2, 1, 0] rfl ?_
  have J66 : G (0, t64.2.2.2) 215 [(0, .ref (ad 28)), (1, iV (t64.1)), (2, iV (t64.2.1)), (3, iV (0)), (4, iV (t64.2.2.1))] [] := by
    refine bx_iconst cx dL_isFoam_215 ?_
    refine bx_istore (lv' := [(5, iV (1)), (0, .ref (ad 28)), (1, iV (t64.1)), (2, iV (t64.2.1)), (3, iV (0)), (4, iV (t64.2.2.1))]) cx dL_isFoam_216 (by decide) rfl ?_
    obtain ⟨t72, e73, h⟩ := ob h
    refine bx_lv cx [1, 2, 3, 4, 5, 0] rfl ?_
    have J74 : G (0, t64.2.2.2) 239 [(0, .ref (ad 28)), (1, iV (t64.1)), (2, iV (t64.2.1)), (3, iV (t72)), (4, iV (t64.2.2.1))] [] := by
      refine bx_aload_n cx 0 dL_isFoam_239 rfl rfl ?_
      refine bx_iconst cx dL_isFoam_240 ?_
      obtain ⟨t75, e76, h⟩ := ob h
      refine bx_callHW (As := [.ref (ad 28), iV (0)]) (n := 2) (kk := 0) (st := []) cx (kL_energy l hl ad t64.2.2.2 0 _ e76) (Nat.le_of_ble_eq_true rfl) gL_isFoam_L_energy rfl ⟨rfl, rfl⟩ (by decide +kernel) rfl ⟨by decide, by decide⟩ rfl (Nat.le_of_ble_eq_true rfl) dL_isFoam_241 ?_
      refine bx_istore (lv' := [(5, iV (t75.1)), (0, .ref (ad 28)), (1, iV (t64.1)), (2, iV (t64.2.1)), (3, iV (t72)), (4, iV (t64.2.2.1))]) cx dL_isFoam_244 (by decide) rfl ?_
      refine bx_aload_n cx 1 dL_isFoam_246 rfl rfl ?_
      refine bx_iconst cx dL_isFoam_247 ?_
      obtain ⟨t77, e78, h⟩ := ob h
      refine bx_callHW (As := [.ref (ad 28), iV (1)]) (n := 2) (kk := 0) (st := []) cx (kL_energy l hl ad t75.2 1 _ e78) (Nat.le_of_ble_eq_true rfl) gL_isFoam_L_energy rfl ⟨rfl, rfl⟩ (by decide +kernel) rfl ⟨by decide, by decide⟩ rfl (Nat.le_of_ble_eq_true rfl) dL_isFoam_248 ?_
      refine bx_istore (lv' := [(6, iV (t77.1)), (5, iV (t75.1)), (0, .ref (ad 28)), (1, iV (t64.1)), (2, iV (t64.2.1)), (3, iV (t72)), (4, iV (t64.2.2.1))]) cx dL_isFoam_251 (by decide) rfl ?_
      refine bx_aload_n cx 2 dL_isFoam_253 rfl rfl ?_
      obtain ⟨t79, e80, h⟩ := ob h
      refine bx_callC (As := []) (n := 0) (st := []) cx (kX5_rests l ad t77.2  _ e80) (Nat.le_of_ble_eq_true rfl) gL_isFoam_X5_rests rfl ⟨rfl, rfl⟩ (by decide +kernel) rfl ⟨by decide, by decide⟩ rfl (Nat.le_of_ble_eq_true rfl) dL_isFoam_254 ?_
      refine bx_istore (lv' := [(7, iV (t79.1)), (6, iV (t77.1)), (5, iV (t75.1)), (0, .ref (ad 28)), (1, iV (t64.1)), (2, iV (t64.2.1)), (3, iV (t72)), (4, iV (t64.2.2.1))]) cx dL_isFoam_257 (by decide) rfl ?_
      refine bx_iload cx 7 dL_isFoam_259 rfl ?_
      obtain ⟨g81, h⟩ := gd_some h
      obtain ⟨t114, e116, h⟩ := ob h
      have J115 : G (0, t114.2) 342 [] [iV (t114.1)] := by
        obtain ⟨g117, h⟩ := gd_some h
        cases h
        exact bx_zret cx dL_isFoam_342 rfl g117 (Nat.le_of_ble_eq_true rfl) ⟨rfl, rfl⟩
      clear h
      have h := e116
      clear e116
      refine bx_if_eq cx 341 dL_isFoam_261 (by decide) g81 (fun c82 => ?_) (fun c82 => ?_)
      · rw [if_pos c82] at h
        refine bx_iconst cx dL_isFoam_341 ?_
        refine bx_lv cx [] rfl ?_
        cases h
        exact J115
      · rw [if_neg c82] at h
        refine bx_iload_n cx 4 dL_isFoam_264 rfl rfl ?_
        refine bx_iconst cx dL_isFoam_265 ?_
        refine bx_iload cx 2 dL_isFoam_266 rfl ?_
        refine bx_imul cx dL_isFoam_268 ?_
        obtain ⟨g83, h⟩ := gd_some h
        obtain ⟨g84, h⟩ := gd_some h
        refine bx_icmp_ne cx 341 dL_isFoam_269 (by decide) g83 g84 (fun c85 => ?_) (fun c85 => ?_)
        · rw [if_pos c85] at h
          refine bx_iload_n cx 5 dL_isFoam_272 rfl rfl ?_
          refine bx_bipush (z := 36) cx dL_isFoam_273 (by decide) ?_
          obtain ⟨g86, h⟩ := gd_some h
          refine bx_icmp_ne cx 341 dL_isFoam_275 (by decide) g86 ⟨by decide, by decide⟩ (fun c87 => ?_) (fun c87 => ?_)
          · rw [if_pos c87] at h
            refine bx_iload_n cx 6 dL_isFoam_278 rfl rfl ?_
            refine bx_bipush (z := 25) cx dL_isFoam_279 (by decide) ?_
            obtain ⟨g88, h⟩ := gd_some h
            refine bx_icmp_ne cx 341 dL_isFoam_281 (by decide) g88 ⟨by decide, by decide⟩ (fun c89 => ?_) (fun c89 => ?_)
            · rw [if_pos c89] at h
              refine bx_aload_n cx 3 dL_isFoam_284 rfl rfl ?_
              refine bx_iconst cx dL_isFoam_285 ?_
              obtain ⟨t90, e91, h⟩ := ob h
              refine bx_callHW (As := [.ref (ad 28), iV (4)]) (n := 2) (kk := 0) (st := []) cx (kL_energy l hl ad t79.2 4 _ e91) (Nat.le_of_ble_eq_true rfl) gL_isFoam_L_energy rfl ⟨rfl, rfl⟩ (by decide +kernel) rfl ⟨by decide, by decide⟩ rfl (Nat.le_of_ble_eq_true rfl) dL_isFoam_286 ?_
              obtain ⟨g92, h⟩ := gd_some h
              refine bx_if_ne cx 341 dL_isFoam_289 (by decide) g92 (fun c93 => ?_) (fun c93 => ?_)
              · rw [if_pos c93] at h
                refine bx_iload cx 1 dL_isFoam_292 rfl ?_
                refine bx_iload cx 2 dL_isFoam_294 rfl ?_
                obtain ⟨g94, h⟩ := gd_some h
                obtain ⟨g95, h⟩ := gd_some h
                refine bx_icmp_gt cx 341 dL_isFoam_296 (by decide) g94 g95 (fun c96 => ?_) (fun c96 => ?_)
                · rw [if_pos c96] at h
                  refine bx_iconst cx dL_isFoam_341 ?_
                  refine bx_lv cx [] rfl ?_
                  cases h
                  exact J115
                · rw [if_neg c96] at h
                  refine bx_iload cx 0 dL_isFoam_299 rfl ?_
                  obtain ⟨g97, h⟩ := gd_some h
                  refine bx_if_lt cx 341 dL_isFoam_301 (by decide) g97 (fun c98 => ?_) (fun c98 => ?_)
                  · rw [if_pos c98] at h
                    refine bx_iconst cx dL_isFoam_341 ?_
                    refine bx_lv cx [] rfl ?_
                    cases h
                    exact J115
                  · rw [if_neg c98] at h
                    refine bx_iload cx 0 dL_isFoam_304 rfl ?_
                    obtain ⟨t100, e102, h⟩ := ob h
                    have J101 : G (0, t90.2) 314 [(0, .ref (ad 28)), (5, iV (t75.1)), (6, iV (t77.1))] [iV (t100)] := by
                      refine bx_iload cx 2 dL_isFoam_314 rfl ?_
                      refine bx_iload cx 1 dL_isFoam_316 rfl ?_
                      obtain ⟨t104, e106, h⟩ := ob h
                      have J105 : G (0, t90.2) 326 [(0, .ref (ad 28))] [iV (t104), iV (t100)] := by
                        obtain ⟨g107, h⟩ := gd_some h
                        obtain ⟨g108, h⟩ := gd_some h
                        refine bx_icmp_ne cx 341 dL_isFoam_326 (by decide) g107 g108 (fun c109 => ?_) (fun c109 => ?_)
                        · rw [if_pos c109] at h
                          refine bx_aload_n cx 0 dL_isFoam_329 rfl rfl ?_
                          refine bx_iconst cx dL_isFoam_330 ?_
                          obtain ⟨t110, e111, h⟩ := ob h
                          refine bx_callHW (As := [.ref (ad 28), iV (3)]) (n := 2) (kk := 0) (st := []) cx (kL_energy l hl ad t90.2 3 _ e111) (Nat.le_of_ble_eq_true rfl) gL_isFoam_L_energy rfl ⟨rfl, rfl⟩ (by decide +kernel) rfl ⟨by decide, by decide⟩ rfl (Nat.le_of_ble_eq_true rfl) dL_isFoam_331 ?_
                          obtain ⟨g112, h⟩ := gd_some h
                          refine bx_if_lt cx 341 dL_isFoam_334 (by decide) g112 (fun c113 => ?_) (fun c113 => ?_)
                          · rw [if_pos c113] at h
                            refine bx_iconst cx dL_isFoam_341 ?_
                            refine bx_lv cx [] rfl ?_
                            cases h
                            exact J115
                          · rw [if_neg c113] at h
                            refine bx_iconst cx dL_isFoam_337 ?_
                            refine bx_goto cx 342 dL_isFoam_338 (by decide) ?_
                            refine bx_lv cx [] rfl ?_
                            cases h
                            exact J115
                        · rw [if_neg c109] at h
                          refine bx_iconst cx dL_isFoam_341 ?_
                          refine bx_lv cx [] rfl ?_
                          cases h
                          exact J115
                      clear h
                      have h := e106
                      clear e106
                      refine bx_icmp_ge cx 325 dL_isFoam_318 (by decide) g94 g95 (fun c103 => ?_) (fun c103 => ?_)
                      · rw [if_pos c103] at h
                        refine bx_iconst cx dL_isFoam_325 ?_
                        refine bx_lv cx [0] rfl ?_
                        cases h
                        exact J105
                      · rw [if_neg c103] at h
                        refine bx_iconst cx dL_isFoam_321 ?_
                        refine bx_goto cx 326 dL_isFoam_322 (by decide) ?_
                        refine bx_lv cx [0] rfl ?_
                        cases h
                        exact J105
                    clear h
                    have h := e102
                    clear e102
                    refine bx_if_le cx 313 dL_isFoam_306 (by decide) g97 (fun c99 => ?_) (fun c99 => ?_)
                    · rw [if_pos c99] at h
                      refine bx_iconst cx dL_isFoam_313 ?_
                      refine bx_lv cx [3, 2, 1] rfl ?_
                      cases h
                      exact J101
                    · rw [if_neg c99] at h
                      refine bx_iconst cx dL_isFoam_309 ?_
                      refine bx_goto cx 314 dL_isFoam_310 (by decide) ?_
                      refine bx_lv cx [3, 2, 1] rfl ?_
                      cases h
                      exact J101
              · rw [if_neg c93] at h
                refine bx_iconst cx dL_isFoam_341 ?_
                refine bx_lv cx [] rfl ?_
                cases h
                exact J115
            · rw [if_neg c89] at h
              refine bx_iconst cx dL_isFoam_341 ?_
              refine bx_lv cx [] rfl ?_
              cases h
              exact J115
          · rw [if_neg c87] at h
            refine bx_iconst cx dL_isFoam_341 ?_
            refine bx_lv cx [] rfl ?_
            cases h
            exact J115
        · rw [if_neg c85] at h
          refine bx_iconst cx dL_isFoam_341 ?_
          refine bx_lv cx [] rfl ?_
          cases h
          exact J115
    exact L218 FU t64.2.2.2 t64.1 t64.2.1 0 t64.2.2.1 1 _ e73 J74
  exact L12 FU M 0 0 0 1 0 _ e65 J66
def fL_areFilms_L81 : Nat → Mem → Int → Int → Int64 → Int64 → Int → Int64 → Int64 → Int → Option (Int64 × Int64)
  | 0, _, _, _, _, _, _, _, _, _ => none
  | n + 1, M, x2, x3, x4, x6, x8, x9, x11, x13 =>
    gd (inR (x13)) (
    if 36 ≤ x13 then (
      some (x9, x11))
    else (
      gd (inB (x13) 37) (
      gd (inR (M 22 x13.toNat)) (
      Option.bind (if M 22 x13.toNat = 1 then (
        some (llshl 1 x13))
      else (
        some (0))) (fun t30 =>
      gd (inB (x13) 37) (
      Option.bind (if M 22 x13.toNat = 2 then (
        some (llshl 1 x13))
      else (
        some (0))) (fun t35 =>
      fL_areFilms_L81 n M x2 x3 x4 x6 x8 (x9 ||| t30) (x11 ||| t35) (x13 + 1))))))))
def fL_areFilms_L139 : Nat → Mem → Int → Int → Int64 → Int64 → Int → Int64 → Int64 → Int → Option (Int)
  | 0, _, _, _, _, _, _, _, _, _ => none
  | n + 1, M, x2, x3, x4, x6, x8, x9, x11, x13 =>
    gd (inR (x13)) (
    if 36 ≤ x13 then (
      some (x8))
    else (
      gd (inR (x8)) (
      if x8 = 0 then (
        some (x8))
      else (
        Option.bind (fL_costOf M (x4 ||| (llshl 1 x13))) (fun t46 =>
        Option.bind (fL_costOf M (x6 &&& ((llshl 1 x13) ^^^ ((-1))))) (fun t48 =>
        gd (inR (t46)) (
        Option.bind (if t46 = (-1) then (
          if zlcmp ((llshr x11 x13) &&& 1) 1 = 0 then (
            gd (inR (t48)) (
            if t48 = (-1) then (
              if zlcmp ((llshr x9 x13) &&& 1) 1 = 0 then (
                some (1))
              else (
                some (0)))
            else (
              gd (inR (x3)) (
              if t48 < x3 then (
                some (0))
              else (
                some (1))))))
          else (
            some (0)))
        else (
          gd (inR (x3)) (
          if t46 < x3 then (
            some (0))
          else (
            gd (inR (t48)) (
            if t48 = (-1) then (
              if zlcmp ((llshr x9 x13) &&& 1) 1 = 0 then (
                some (1))
              else (
                some (0)))
            else (
              if t48 < x3 then (
                some (0))
              else (
                some (1)))))))) (fun t64 =>
        fL_areFilms_L139 n M x2 x3 x4 x6 t64 x9 x11 (x13 + 1)))))))))
def fL_areFilms (M : Mem) (x2 : Int) : Option (Int × Mem) :=
    Option.bind (fX5_film M) (fun t1 =>
    Option.bind (fX5_side t1.2 0) (fun t3 =>
    Option.bind (fX5_side t3.2 1) (fun t5 =>
    Option.bind (fX5_proof t5.2) (fun t7 =>
    gd (inR (t1.1)) (
    gd (inR (t7.1)) (
    Option.bind (if t1.1 = t7.1 then (
      if t1.1 < 0 then (
        some (0))
      else (
        Option.bind (fL_costOf t7.2 t3.1) (fun t13 =>
        gd (inR (t13)) (
        if t13 = t1.1 then (
          Option.bind (fL_costOf t7.2 t5.1) (fun t17 =>
          gd (inR (t17)) (
          if t17 = t1.1 then (
            if zlcmp (t3.1 &&& (t5.1 ^^^ ((-1)))) 0 = 0 then (
              some (1))
            else (
              some (0)))
          else (
            some (0)))))
        else (
          some (0))))))
    else (
      some (0))) (fun t22 =>
    Option.bind (fL_areFilms_L81 FU t7.2 x2 t1.1 t3.1 t5.1 t22 0 0 0) (fun t39 =>
    Option.bind (fL_areFilms_L139 FU t7.2 x2 t1.1 t3.1 t5.1 t22 t39.1 t39.2 0) (fun t68 =>
    Option.bind (fL_costOf t7.2 (((((((Int32.ofInt x2).toInt64) * 6364136223) ^^^ (llshl ((Int32.ofInt x2).toInt64) 7)) &&& 68719476735) &&& (t39.2 ^^^ ((-1)))) ||| t39.1)) (fun t71 =>
    gd (inR (t68)) (
    Option.bind (if t68 = 0 then (
      some (0))
    else (
      gd (inR (t71)) (
      if t71 < t1.1 then (
        some (0))
      else (
        if zlcmp t39.1 0 = 0 then (
          if t1.1 = 0 then (
            some (1))
          else (
            some (0)))
        else (
          if zlcmp t39.2 0 = 0 then (
            if t1.1 = 0 then (
              some (1))
            else (
              some (0)))
          else (
            some (1))))))) (fun t81 =>
    gd (t81 = 0 ∨ t81 = 1) (
    some (t81, t7.2))))))))))))))
abbrev rmL_areFilms : Room := { frames := 8, cells := 0, slots := 0, locals := 164 }
theorem hw_L_areFilms_k146 : Cond.constantLong RL 146 (-1) ∈ wsL_areFilms := by decide +kernel
theorem hw_L_areFilms_k148 : Cond.constantLong RL 148 (6364136223) ∈ wsL_areFilms := by decide +kernel
theorem hw_L_areFilms_k150 : Cond.constantLong RL 150 (68719476735) ∈ wsL_areFilms := by decide +kernel
set_option maxRecDepth 100000 in
set_option maxHeartbeats 4000000 in
theorem kL_areFilms (l : Launch) (hl : l.stackTraces = false) (ad : Nat → Nat) (M : Mem) (x2 : Int) (T : Int × Mem) (h : fL_areFilms M x2 = some T) : HK l yL_areFilms wsL_areFilms rmL_areFilms ad [.ref (ad 28), .ref (ad 22), iV (x2)] 0 M (some (iV (T.1))) T.2 := by
  refine HK.of (cc := cL_areFilms) (nL := 16) (rt := (some .boolean)) (own := RL) (by decide +kernel) rfl rfl (Nat.le_of_ble_eq_true rfl) ⟨Nat.le_of_ble_eq_true rfl, Nat.le_of_ble_eq_true rfl⟩ (fun G cx => ?_)
  show G (0, M) 0 [(0, .ref (ad 28)), (1, .ref (ad 22)), (2, iV (x2))] []
  have L81 : ∀ (n : Nat) (M : Mem) (x2 : Int) (x3 : Int) (x4 : Int64) (x6 : Int64) (x8 : Int) (x9 : Int64) (x11 : Int64) (x13 : Int) (T38 : Int64 × Int64), fL_areFilms_L81 n M x2 x3 x4 x6 x8 x9 x11 x13 = some T38 → (G (0, M) 136 [(0, .ref (ad 28)), (2, iV (x2)), (3, iV (x3)), (4, .long (x4)), (6, .long (x6)), (8, iV (x8)), (9, .long (T38.1)), (11, .long (T38.2))] []) → G (0, M) 81 [(0, .ref (ad 28)), (1, .ref (ad 22)), (2, iV (x2)), (3, iV (x3)), (4, .long (x4)), (6, .long (x6)), (8, iV (x8)), (9, .long (x9)), (11, .long (x11)), (13, iV (x13))] [] := by
    intro n
    induction n with
    | zero =>
      intro M x2 x3 x4 x6 x8 x9 x11 x13 T38 h
      exact absurd h (by simp [fL_areFilms_L81])
    | succ n ih =>
      intro M x2 x3 x4 x6 x8 x9 x11 x13 T38 h hJ
      rw [fL_areFilms_L81] at h
      refine bx_iload cx 9 dL_areFilms_81 rfl ?_
      refine bx_bipush (z := 36) cx dL_areFilms_83 (by decide) ?_
      obtain ⟨g25, h⟩ := gd_some h
      refine bx_icmp_ge cx 136 dL_areFilms_85 (by decide) g25 ⟨by decide, by decide⟩ (fun c26 => ?_) (fun c26 => ?_)
      · rw [if_pos c26] at h
        refine bx_lv cx [0, 2, 3, 4, 5, 6, 7, 8] rfl ?_
        cases h
        exact hJ
      · rw [if_neg c26] at h
        refine bx_lload cx 7 dL_areFilms_88 rfl ?_
        refine bx_aload_n cx 1 dL_areFilms_90 rfl rfl ?_
        refine bx_iload cx 9 dL_areFilms_91 rfl ?_
        obtain ⟨g27, h⟩ := gd_some h
        refine bx_iald (n := 37) cx (by decide) rfl rfl g27 dL_areFilms_93 ?_
        refine bx_iconst cx dL_areFilms_94 ?_
        obtain ⟨g28, h⟩ := gd_some h
        obtain ⟨t30, e32, h⟩ := ob h
        have J31 : G (0, M) 106 [(0, .ref (ad 28)), (1, .ref (ad 22)), (2, iV (x2)), (3, iV (x3)), (4, .long (x4)), (6, .long (x6)), (8, iV (x8)), (11, .long (x11)), (13, iV (x13))] [.long (t30), .long (x9)] := by
          refine bx_lor cx dL_areFilms_106 ?_
          refine bx_lstore (lv' := [(9, .long (x9 ||| t30)), (0, .ref (ad 28)), (1, .ref (ad 22)), (2, iV (x2)), (3, iV (x3)), (4, .long (x4)), (6, .long (x6)), (8, iV (x8)), (11, .long (x11)), (13, iV (x13))]) cx dL_areFilms_107 (by decide) rfl ?_
          refine bx_lload cx 8 dL_areFilms_109 rfl ?_
          refine bx_aload_n cx 2 dL_areFilms_111 rfl rfl ?_
          refine bx_iload cx 9 dL_areFilms_112 rfl ?_
          obtain ⟨g33, h⟩ := gd_some h
          refine bx_iald (n := 37) cx (by decide) rfl rfl g33 dL_areFilms_114 ?_
          refine bx_iconst cx dL_areFilms_115 ?_
          obtain ⟨t35, e37, h⟩ := ob h
          have J36 : G (0, M) 127 [(0, .ref (ad 28)), (1, .ref (ad 22)), (2, iV (x2)), (3, iV (x3)), (4, .long (x4)), (6, .long (x6)), (8, iV (x8)), (9, .long (x9 ||| t30)), (13, iV (x13))] [.long (t35), .long (x11)] := by
            refine bx_lor cx dL_areFilms_127 ?_
            refine bx_lstore (lv' := [(11, .long (x11 ||| t35)), (0, .ref (ad 28)), (1, .ref (ad 22)), (2, iV (x2)), (3, iV (x3)), (4, .long (x4)), (6, .long (x6)), (8, iV (x8)), (9, .long (x9 ||| t30)), (13, iV (x13))]) cx dL_areFilms_128 (by decide) rfl ?_
            refine bx_iinc (lv' := [(13, iV (x13 + 1)), (11, .long (x11 ||| t35)), (0, .ref (ad 28)), (1, .ref (ad 22)), (2, iV (x2)), (3, iV (x3)), (4, .long (x4)), (6, .long (x6)), (8, iV (x8)), (9, .long (x9 ||| t30))]) cx 9 dL_areFilms_130 rfl (by decide) rfl ?_
            refine bx_goto cx 81 dL_areFilms_133 (by decide) ?_
            refine bx_lv cx [2, 3, 4, 5, 6, 7, 8, 9, 1, 0] rfl ?_
            exact ih _ _ _ _ _ _ _ _ _ _ h hJ
          clear h
          have h := e37
          clear e37
          refine bx_icmp_ne cx 126 dL_areFilms_116 (by decide) g28 ⟨by decide, by decide⟩ (fun c34 => ?_) (fun c34 => ?_)
          · rw [if_pos c34] at h
            refine bx_lconst (v := 1) cx dL_areFilms_119 rfl ?_
            refine bx_iload cx 9 dL_areFilms_120 rfl ?_
            refine bx_lshl cx dL_areFilms_122 ?_
            refine bx_goto cx 127 dL_areFilms_123 (by decide) ?_
            refine bx_lv cx [1, 2, 3, 4, 5, 6, 7, 0, 9] rfl ?_
            cases h
            exact J36
          · rw [if_neg c34] at h
            refine bx_lconst (v := 0) cx dL_areFilms_126 rfl ?_
            refine bx_lv cx [1, 2, 3, 4, 5, 6, 7, 0, 9] rfl ?_
            cases h
            exact J36
        clear h
        have h := e32
        clear e32
        refine bx_icmp_ne cx 105 dL_areFilms_95 (by decide) g28 ⟨by decide, by decide⟩ (fun c29 => ?_) (fun c29 => ?_)
        · rw [if_pos c29] at h
          refine bx_lconst (v := 1) cx dL_areFilms_98 rfl ?_
          refine bx_iload cx 9 dL_areFilms_99 rfl ?_
          refine bx_lshl cx dL_areFilms_101 ?_
          refine bx_goto cx 106 dL_areFilms_102 (by decide) ?_
          refine bx_lv cx [0, 1, 2, 3, 4, 5, 6, 8, 9] rfl ?_
          cases h
          exact J31
        · rw [if_neg c29] at h
          refine bx_lconst (v := 0) cx dL_areFilms_105 rfl ?_
          refine bx_lv cx [0, 1, 2, 3, 4, 5, 6, 8, 9] rfl ?_
          cases h
          exact J31
  have L139 : ∀ (n : Nat) (M : Mem) (x2 : Int) (x3 : Int) (x4 : Int64) (x6 : Int64) (x8 : Int) (x9 : Int64) (x11 : Int64) (x13 : Int) (T67 : Int), fL_areFilms_L139 n M x2 x3 x4 x6 x8 x9 x11 x13 = some T67 → (G (0, M) 248 [(0, .ref (ad 28)), (2, iV (x2)), (3, iV (x3)), (8, iV (T67)), (9, .long (x9)), (11, .long (x11))] []) → G (0, M) 139 [(0, .ref (ad 28)), (2, iV (x2)), (3, iV (x3)), (4, .long (x4)), (6, .long (x6)), (8, iV (x8)), (9, .long (x9)), (11, .long (x11)), (13, iV (x13))] [] := by
    intro n
    induction n with
    | zero =>
      intro M x2 x3 x4 x6 x8 x9 x11 x13 T67 h
      exact absurd h (by simp [fL_areFilms_L139])
    | succ n ih =>
      intro M x2 x3 x4 x6 x8 x9 x11 x13 T67 h hJ
      rw [fL_areFilms_L139] at h
      refine bx_iload cx 8 dL_areFilms_139 rfl ?_
      refine bx_bipush (z := 36) cx dL_areFilms_141 (by decide) ?_
      obtain ⟨g42, h⟩ := gd_some h
      refine bx_icmp_ge cx 248 dL_areFilms_143 (by decide) g42 ⟨by decide, by decide⟩ (fun c43 => ?_) (fun c43 => ?_)
      · rw [if_pos c43] at h
        refine bx_lv cx [0, 1, 2, 5, 6, 7] rfl ?_
        cases h
        exact hJ
      · rw [if_neg c43] at h
        refine bx_iload cx 5 dL_areFilms_146 rfl ?_
        obtain ⟨g44, h⟩ := gd_some h
        refine bx_if_eq cx 248 dL_areFilms_148 (by decide) g44 (fun c45 => ?_) (fun c45 => ?_)
        · rw [if_pos c45] at h
          refine bx_lv cx [0, 1, 2, 5, 6, 7] rfl ?_
          cases h
          exact hJ
        · rw [if_neg c45] at h
          refine bx_aload_n cx 0 dL_areFilms_151 rfl rfl ?_
          refine bx_lload cx 3 dL_areFilms_152 rfl ?_
          refine bx_lconst (v := 1) cx dL_areFilms_154 rfl ?_
          refine bx_iload cx 8 dL_areFilms_155 rfl ?_
          refine bx_lshl cx dL_areFilms_157 ?_
          refine bx_lor cx dL_areFilms_158 ?_
          obtain ⟨t46, e47, h⟩ := ob h
          refine bx_callHW (As := [.ref (ad 28), .long (x4 ||| (llshl 1 x13))]) (n := 2) (kk := 0) (st := []) cx (kL_costOf l hl ad M (x4 ||| (llshl 1 x13)) _ e47) (Nat.le_of_ble_eq_true rfl) gL_areFilms_L_costOf rfl ⟨rfl, rfl⟩ (by decide +kernel) rfl ⟨by decide, by decide⟩ rfl (Nat.le_of_ble_eq_true rfl) dL_areFilms_159 ?_
          refine bx_istore (lv' := [(14, iV (t46)), (0, .ref (ad 28)), (2, iV (x2)), (3, iV (x3)), (4, .long (x4)), (6, .long (x6)), (8, iV (x8)), (9, .long (x9)), (11, .long (x11)), (13, iV (x13))]) cx dL_areFilms_162 (by decide) rfl ?_
          refine bx_aload_n cx 1 dL_areFilms_164 rfl rfl ?_
          refine bx_lload cx 5 dL_areFilms_165 rfl ?_
          refine bx_lconst (v := 1) cx dL_areFilms_167 rfl ?_
          refine bx_iload cx 9 dL_areFilms_168 rfl ?_
          refine bx_lshl cx dL_areFilms_170 ?_
          refine bx_ldc2 (v := -1) cx dL_areFilms_171 hw_L_areFilms_k146 ?_
          refine bx_lxor cx dL_areFilms_174 ?_
          refine bx_land cx dL_areFilms_175 ?_
          obtain ⟨t48, e49, h⟩ := ob h
          refine bx_callHW (As := [.ref (ad 28), .long (x6 &&& ((llshl 1 x13) ^^^ ((-1))))]) (n := 2) (kk := 0) (st := []) cx (kL_costOf l hl ad M (x6 &&& ((llshl 1 x13) ^^^ ((-1)))) _ e49) (Nat.le_of_ble_eq_true rfl) gL_areFilms_L_costOf rfl ⟨rfl, rfl⟩ (by decide +kernel) rfl ⟨by decide, by decide⟩ rfl (Nat.le_of_ble_eq_true rfl) dL_areFilms_176 ?_
          refine bx_istore (lv' := [(15, iV (t48)), (14, iV (t46)), (0, .ref (ad 28)), (2, iV (x2)), (3, iV (x3)), (4, .long (x4)), (6, .long (x6)), (8, iV (x8)), (9, .long (x9)), (11, .long (x11)), (13, iV (x13))]) cx dL_areFilms_179 (by decide) rfl ?_
          refine bx_iload cx 1 dL_areFilms_181 rfl ?_
          refine bx_iconst cx dL_areFilms_183 ?_
          obtain ⟨g50, h⟩ := gd_some h
          obtain ⟨t64, e66, h⟩ := ob h
          have J65 : G (0, M) 240 [(0, .ref (ad 28)), (2, iV (x2)), (3, iV (x3)), (4, .long (x4)), (6, .long (x6)), (9, .long (x9)), (11, .long (x11)), (13, iV (x13))] [iV (t64)] := by
            refine bx_istore (lv' := [(8, iV (t64)), (0, .ref (ad 28)), (2, iV (x2)), (3, iV (x3)), (4, .long (x4)), (6, .long (x6)), (9, .long (x9)), (11, .long (x11)), (13, iV (x13))]) cx dL_areFilms_240 (by decide) rfl ?_
            refine bx_iinc (lv' := [(13, iV (x13 + 1)), (8, iV (t64)), (0, .ref (ad 28)), (2, iV (x2)), (3, iV (x3)), (4, .long (x4)), (6, .long (x6)), (9, .long (x9)), (11, .long (x11))]) cx 8 dL_areFilms_242 rfl (by decide) rfl ?_
            refine bx_goto cx 139 dL_areFilms_245 (by decide) ?_
            refine bx_lv cx [2, 3, 4, 5, 6, 1, 7, 8, 0] rfl ?_
            exact ih _ _ _ _ _ _ _ _ _ _ h hJ
          clear h
          have h := e66
          clear e66
          refine bx_icmp_ne cx 202 dL_areFilms_184 (by decide) g50 ⟨by decide, by decide⟩ (fun c51 => ?_) (fun c51 => ?_)
          · rw [if_pos c51] at h
            refine bx_lload cx 9 dL_areFilms_187 rfl ?_
            refine bx_iload cx 10 dL_areFilms_189 rfl ?_
            refine bx_lshr cx dL_areFilms_191 ?_
            refine bx_lconst (v := 1) cx dL_areFilms_192 rfl ?_
            refine bx_land cx dL_areFilms_193 ?_
            refine bx_lconst (v := 1) cx dL_areFilms_194 rfl ?_
            refine bx_lcmp cx dL_areFilms_195 ?_
            refine bx_if_ne cx 239 dL_areFilms_196 (by decide) (zlcmp_R _ _) (fun c52 => ?_) (fun c52 => ?_)
            · rw [if_pos c52] at h
              refine bx_goto cx 208 dL_areFilms_199 (by decide) ?_
              refine bx_iload cx 0 dL_areFilms_208 rfl ?_
              refine bx_iconst cx dL_areFilms_210 ?_
              obtain ⟨g53, h⟩ := gd_some h
              refine bx_icmp_ne cx 229 dL_areFilms_211 (by decide) g53 ⟨by decide, by decide⟩ (fun c54 => ?_) (fun c54 => ?_)
              · rw [if_pos c54] at h
                refine bx_lload cx 8 dL_areFilms_214 rfl ?_
                refine bx_iload cx 10 dL_areFilms_216 rfl ?_
                refine bx_lshr cx dL_areFilms_218 ?_
                refine bx_lconst (v := 1) cx dL_areFilms_219 rfl ?_
                refine bx_land cx dL_areFilms_220 ?_
                refine bx_lconst (v := 1) cx dL_areFilms_221 rfl ?_
                refine bx_lcmp cx dL_areFilms_222 ?_
                refine bx_if_ne cx 239 dL_areFilms_223 (by decide) (zlcmp_R _ _) (fun c55 => ?_) (fun c55 => ?_)
                · rw [if_pos c55] at h
                  refine bx_goto cx 235 dL_areFilms_226 (by decide) ?_
                  refine bx_iconst cx dL_areFilms_235 ?_
                  refine bx_goto cx 240 dL_areFilms_236 (by decide) ?_
                  refine bx_lv cx [2, 3, 4, 5, 6, 8, 9, 10] rfl ?_
                  cases h
                  exact J65
                · rw [if_neg c55] at h
                  refine bx_iconst cx dL_areFilms_239 ?_
                  refine bx_lv cx [2, 3, 4, 5, 6, 8, 9, 10] rfl ?_
                  cases h
                  exact J65
              · rw [if_neg c54] at h
                refine bx_iload cx 0 dL_areFilms_229 rfl ?_
                refine bx_iload_n cx 4 dL_areFilms_231 rfl rfl ?_
                obtain ⟨g56, h⟩ := gd_some h
                refine bx_icmp_lt cx 239 dL_areFilms_232 (by decide) g53 g56 (fun c57 => ?_) (fun c57 => ?_)
                · rw [if_pos c57] at h
                  refine bx_iconst cx dL_areFilms_239 ?_
                  refine bx_lv cx [2, 3, 4, 5, 6, 8, 9, 10] rfl ?_
                  cases h
                  exact J65
                · rw [if_neg c57] at h
                  refine bx_iconst cx dL_areFilms_235 ?_
                  refine bx_goto cx 240 dL_areFilms_236 (by decide) ?_
                  refine bx_lv cx [2, 3, 4, 5, 6, 8, 9, 10] rfl ?_
                  cases h
                  exact J65
            · rw [if_neg c52] at h
              refine bx_iconst cx dL_areFilms_239 ?_
              refine bx_lv cx [2, 3, 4, 5, 6, 8, 9, 10] rfl ?_
              cases h
              exact J65
          · rw [if_neg c51] at h
            refine bx_iload cx 1 dL_areFilms_202 rfl ?_
            refine bx_iload_n cx 4 dL_areFilms_204 rfl rfl ?_
            obtain ⟨g58, h⟩ := gd_some h
            refine bx_icmp_lt cx 239 dL_areFilms_205 (by decide) g50 g58 (fun c59 => ?_) (fun c59 => ?_)
            · rw [if_pos c59] at h
              refine bx_iconst cx dL_areFilms_239 ?_
              refine bx_lv cx [2, 3, 4, 5, 6, 8, 9, 10] rfl ?_
              cases h
              exact J65
            · rw [if_neg c59] at h
              refine bx_iload cx 0 dL_areFilms_208 rfl ?_
              refine bx_iconst cx dL_areFilms_210 ?_
              obtain ⟨g60, h⟩ := gd_some h
              refine bx_icmp_ne cx 229 dL_areFilms_211 (by decide) g60 ⟨by decide, by decide⟩ (fun c61 => ?_) (fun c61 => ?_)
              · rw [if_pos c61] at h
                refine bx_lload cx 8 dL_areFilms_214 rfl ?_
                refine bx_iload cx 10 dL_areFilms_216 rfl ?_
                refine bx_lshr cx dL_areFilms_218 ?_
                refine bx_lconst (v := 1) cx dL_areFilms_219 rfl ?_
                refine bx_land cx dL_areFilms_220 ?_
                refine bx_lconst (v := 1) cx dL_areFilms_221 rfl ?_
                refine bx_lcmp cx dL_areFilms_222 ?_
                refine bx_if_ne cx 239 dL_areFilms_223 (by decide) (zlcmp_R _ _) (fun c62 => ?_) (fun c62 => ?_)
                · rw [if_pos c62] at h
                  refine bx_goto cx 235 dL_areFilms_226 (by decide) ?_
                  refine bx_iconst cx dL_areFilms_235 ?_
                  refine bx_goto cx 240 dL_areFilms_236 (by decide) ?_
                  refine bx_lv cx [2, 3, 4, 5, 6, 8, 9, 10] rfl ?_
                  cases h
                  exact J65
                · rw [if_neg c62] at h
                  refine bx_iconst cx dL_areFilms_239 ?_
                  refine bx_lv cx [2, 3, 4, 5, 6, 8, 9, 10] rfl ?_
                  cases h
                  exact J65
              · rw [if_neg c61] at h
                refine bx_iload cx 0 dL_areFilms_229 rfl ?_
                refine bx_iload_n cx 4 dL_areFilms_231 rfl rfl ?_
                refine bx_icmp_lt cx 239 dL_areFilms_232 (by decide) g60 g58 (fun c63 => ?_) (fun c63 => ?_)
                · rw [if_pos c63] at h
                  refine bx_iconst cx dL_areFilms_239 ?_
                  refine bx_lv cx [2, 3, 4, 5, 6, 8, 9, 10] rfl ?_
                  cases h
                  exact J65
                · rw [if_neg c63] at h
                  refine bx_iconst cx dL_areFilms_235 ?_
                  refine bx_goto cx 240 dL_areFilms_236 (by decide) ?_
                  refine bx_lv cx [2, 3, 4, 5, 6, 8, 9, 10] rfl ?_
                  cases h
                  exact J65
  unfold fL_areFilms at h
  refine bx_aload_n cx 0 dL_areFilms_0 rfl rfl ?_
  obtain ⟨t1, e2, h⟩ := ob h
  refine bx_callC (As := []) (n := 0) (st := []) cx (kX5_film l ad M  _ e2) (Nat.le_of_ble_eq_true rfl) gL_areFilms_X5_film rfl ⟨rfl, rfl⟩ (by decide +kernel) rfl ⟨by decide, by decide⟩ rfl (Nat.le_of_ble_eq_true rfl) dL_areFilms_1 ?_
  refine bx_istore_n (lv' := [(3, iV (t1.1)), (0, .ref (ad 28)), (1, .ref (ad 22)), (2, iV (x2))]) cx dL_areFilms_4 rfl (by decide) rfl ?_
  refine bx_aload_n cx 1 dL_areFilms_5 rfl rfl ?_
  refine bx_iconst cx dL_areFilms_6 ?_
  obtain ⟨t3, e4, h⟩ := ob h
  refine bx_callC (As := [iV (0)]) (n := 1) (st := []) cx (kX5_side l ad t1.2 0 _ e4) (Nat.le_of_ble_eq_true rfl) gL_areFilms_X5_side rfl ⟨rfl, rfl⟩ (by decide +kernel) rfl ⟨by decide, by decide⟩ rfl (Nat.le_of_ble_eq_true rfl) dL_areFilms_7 ?_
  refine bx_lstore (lv' := [(4, .long (t3.1)), (3, iV (t1.1)), (0, .ref (ad 28)), (1, .ref (ad 22)), (2, iV (x2))]) cx dL_areFilms_10 (by decide) rfl ?_
  refine bx_aload_n cx 2 dL_areFilms_12 rfl rfl ?_
  refine bx_iconst cx dL_areFilms_13 ?_
  obtain ⟨t5, e6, h⟩ := ob h
  refine bx_callC (As := [iV (1)]) (n := 1) (st := []) cx (kX5_side l ad t3.2 1 _ e6) (Nat.le_of_ble_eq_true rfl) gL_areFilms_X5_side rfl ⟨rfl, rfl⟩ (by decide +kernel) rfl ⟨by decide, by decide⟩ rfl (Nat.le_of_ble_eq_true rfl) dL_areFilms_14 ?_
  refine bx_lstore (lv' := [(6, .long (t5.1)), (4, .long (t3.1)), (3, iV (t1.1)), (0, .ref (ad 28)), (1, .ref (ad 22)), (2, iV (x2))]) cx dL_areFilms_17 (by decide) rfl ?_
  refine bx_iload_n cx 2 dL_areFilms_19 rfl rfl ?_
  refine bx_aload_n cx 3 dL_areFilms_20 rfl rfl ?_
  obtain ⟨t7, e8, h⟩ := ob h
  refine bx_callC (As := []) (n := 0) (st := [iV (t1.1)]) cx (kX5_proof l ad t5.2  _ e8) (Nat.le_of_ble_eq_true rfl) gL_areFilms_X5_proof rfl ⟨rfl, rfl⟩ (by decide +kernel) rfl ⟨by decide, by decide⟩ rfl (Nat.le_of_ble_eq_true rfl) dL_areFilms_21 ?_
  obtain ⟨g9, h⟩ := gd_some h
  obtain ⟨g10, h⟩ := gd_some h
  obtain ⟨t22, e24, h⟩ := ob h
  have J23 : G (0, t7.2) 70 [(0, .ref (ad 28)), (1, .ref (ad 22)), (2, iV (x2)), (3, iV (t1.1)), (4, .long (t3.1)), (6, .long (t5.1))] [iV (t22)] := by
    refine bx_istore (lv' := [(8, iV (t22)), (0, .ref (ad 28)), (1, .ref (ad 22)), (2, iV (x2)), (3, iV (t1.1)), (4, .long (t3.1)), (6, .long (t5.1))]) cx dL_areFilms_70 (by decide) rfl ?_
    refine bx_lconst (v := 0) cx dL_areFilms_72 rfl ?_
    refine bx_lstore (lv' := [(9, .long (0)), (8, iV (t22)), (0, .ref (ad 28)), (1, .ref (ad 22)), (2, iV (x2)), (3, iV (t1.1)), (4, .long (t3.1)), (6, .long (t5.1))]) cx dL_areFilms_73 (by decide) rfl ?_
    refine bx_lconst (v := 0) cx dL_areFilms_75 rfl ?_
    refine bx_lstore (lv' := [(11, .long (0)), (9, .long (0)), (8, iV (t22)), (0, .ref (ad 28)), (1, .ref (ad 22)), (2, iV (x2)), (3, iV (t1.1)), (4, .long (t3.1)), (6, .long (t5.1))]) cx dL_areFilms_76 (by decide) rfl ?_
    refine bx_iconst cx dL_areFilms_78 ?_
    refine bx_istore (lv' := [(13, iV (0)), (11, .long (0)), (9, .long (0)), (8, iV (t22)), (0, .ref (ad 28)), (1, .ref (ad 22)), (2, iV (x2)), (3, iV (t1.1)), (4, .long (t3.1)), (6, .long (t5.1))]) cx dL_areFilms_79 (by decide) rfl ?_
    obtain ⟨t39, e40, h⟩ := ob h
    refine bx_lv cx [4, 5, 6, 7, 8, 9, 3, 2, 1, 0] rfl ?_
    have J41 : G (0, t7.2) 136 [(0, .ref (ad 28)), (2, iV (x2)), (3, iV (t1.1)), (4, .long (t3.1)), (6, .long (t5.1)), (8, iV (t22)), (9, .long (t39.1)), (11, .long (t39.2))] [] := by
      refine bx_iconst cx dL_areFilms_136 ?_
      refine bx_istore (lv' := [(13, iV (0)), (0, .ref (ad 28)), (2, iV (x2)), (3, iV (t1.1)), (4, .long (t3.1)), (6, .long (t5.1)), (8, iV (t22)), (9, .long (t39.1)), (11, .long (t39.2))]) cx dL_areFilms_137 (by decide) rfl ?_
      obtain ⟨t68, e69, h⟩ := ob h
      refine bx_lv cx [1, 2, 3, 4, 5, 6, 7, 8, 0] rfl ?_
      have J70 : G (0, t7.2) 248 [(0, .ref (ad 28)), (2, iV (x2)), (3, iV (t1.1)), (8, iV (t68)), (9, .long (t39.1)), (11, .long (t39.2))] [] := by
        refine bx_iload_n cx 1 dL_areFilms_248 rfl rfl ?_
        refine bx_i2l cx dL_areFilms_249 ?_
        refine bx_ldc2 (v := 6364136223) cx dL_areFilms_250 hw_L_areFilms_k148 ?_
        refine bx_lmul cx dL_areFilms_253 ?_
        refine bx_iload_n cx 1 dL_areFilms_254 rfl rfl ?_
        refine bx_i2l cx dL_areFilms_255 ?_
        refine bx_bipush (z := 7) cx dL_areFilms_256 (by decide) ?_
        refine bx_lshl cx dL_areFilms_258 ?_
        refine bx_lxor cx dL_areFilms_259 ?_
        refine bx_ldc2 (v := 68719476735) cx dL_areFilms_260 hw_L_areFilms_k150 ?_
        refine bx_land cx dL_areFilms_263 ?_
        refine bx_lstore (lv' := [(13, .long (((((Int32.ofInt x2).toInt64) * 6364136223) ^^^ (llshl ((Int32.ofInt x2).toInt64) 7)) &&& 68719476735)), (0, .ref (ad 28)), (2, iV (x2)), (3, iV (t1.1)), (8, iV (t68)), (9, .long (t39.1)), (11, .long (t39.2))]) cx dL_areFilms_264 (by decide) rfl ?_
        refine bx_aload_n cx 1 dL_areFilms_266 rfl rfl ?_
        refine bx_lload cx 0 dL_areFilms_267 rfl ?_
        refine bx_lload cx 6 dL_areFilms_269 rfl ?_
        refine bx_ldc2 (v := -1) cx dL_areFilms_271 hw_L_areFilms_k146 ?_
        refine bx_lxor cx dL_areFilms_274 ?_
        refine bx_land cx dL_areFilms_275 ?_
        refine bx_lload cx 5 dL_areFilms_276 rfl ?_
        refine bx_lor cx dL_areFilms_278 ?_
        obtain ⟨t71, e72, h⟩ := ob h
        refine bx_callHW (As := [.ref (ad 28), .long (((((((Int32.ofInt x2).toInt64) * 6364136223) ^^^ (llshl ((Int32.ofInt x2).toInt64) 7)) &&& 68719476735) &&& (t39.2 ^^^ ((-1)))) ||| t39.1)]) (n := 2) (kk := 0) (st := []) cx (kL_costOf l hl ad t7.2 (((((((Int32.ofInt x2).toInt64) * 6364136223) ^^^ (llshl ((Int32.ofInt x2).toInt64) 7)) &&& 68719476735) &&& (t39.2 ^^^ ((-1)))) ||| t39.1) _ e72) (Nat.le_of_ble_eq_true rfl) gL_areFilms_L_costOf rfl ⟨rfl, rfl⟩ (by decide +kernel) rfl ⟨by decide, by decide⟩ rfl (Nat.le_of_ble_eq_true rfl) dL_areFilms_279 ?_
        refine bx_istore (lv' := [(15, iV (t71)), (13, .long (((((Int32.ofInt x2).toInt64) * 6364136223) ^^^ (llshl ((Int32.ofInt x2).toInt64) 7)) &&& 68719476735)), (0, .ref (ad 28)), (2, iV (x2)), (3, iV (t1.1)), (8, iV (t68)), (9, .long (t39.1)), (11, .long (t39.2))]) cx dL_areFilms_282 (by decide) rfl ?_
        refine bx_iload cx 5 dL_areFilms_284 rfl ?_
        obtain ⟨g73, h⟩ := gd_some h
        obtain ⟨t81, e83, h⟩ := ob h
        have J82 : G (0, t7.2) 318 [] [iV (t81)] := by
          obtain ⟨g84, h⟩ := gd_some h
          cases h
          exact bx_zret cx dL_areFilms_318 rfl g84 (Nat.le_of_ble_eq_true rfl) ⟨rfl, rfl⟩
        clear h
        have h := e83
        clear e83
        refine bx_if_eq cx 317 dL_areFilms_286 (by decide) g73 (fun c74 => ?_) (fun c74 => ?_)
        · rw [if_pos c74] at h
          refine bx_iconst cx dL_areFilms_317 ?_
          refine bx_lv cx [] rfl ?_
          cases h
          exact J82
        · rw [if_neg c74] at h
          refine bx_iload cx 0 dL_areFilms_289 rfl ?_
          refine bx_iload_n cx 4 dL_areFilms_291 rfl rfl ?_
          obtain ⟨g75, h⟩ := gd_some h
          refine bx_icmp_lt cx 317 dL_areFilms_292 (by decide) g75 g9 (fun c76 => ?_) (fun c76 => ?_)
          · rw [if_pos c76] at h
            refine bx_iconst cx dL_areFilms_317 ?_
            refine bx_lv cx [] rfl ?_
            cases h
            exact J82
          · rw [if_neg c76] at h
            refine bx_lload cx 6 dL_areFilms_295 rfl ?_
            refine bx_lconst (v := 0) cx dL_areFilms_297 rfl ?_
            refine bx_lcmp cx dL_areFilms_298 ?_
            refine bx_if_eq cx 309 dL_areFilms_299 (by decide) (zlcmp_R _ _) (fun c77 => ?_) (fun c77 => ?_)
            · rw [if_pos c77] at h
              refine bx_iload_n cx 4 dL_areFilms_309 rfl rfl ?_
              refine bx_if_ne cx 317 dL_areFilms_310 (by decide) g9 (fun c78 => ?_) (fun c78 => ?_)
              · rw [if_pos c78] at h
                refine bx_iconst cx dL_areFilms_313 ?_
                refine bx_goto cx 318 dL_areFilms_314 (by decide) ?_
                refine bx_lv cx [] rfl ?_
                cases h
                exact J82
              · rw [if_neg c78] at h
                refine bx_iconst cx dL_areFilms_317 ?_
                refine bx_lv cx [] rfl ?_
                cases h
                exact J82
            · rw [if_neg c77] at h
              refine bx_lload cx 7 dL_areFilms_302 rfl ?_
              refine bx_lconst (v := 0) cx dL_areFilms_304 rfl ?_
              refine bx_lcmp cx dL_areFilms_305 ?_
              refine bx_if_ne cx 313 dL_areFilms_306 (by decide) (zlcmp_R _ _) (fun c79 => ?_) (fun c79 => ?_)
              · rw [if_pos c79] at h
                refine bx_iload_n cx 4 dL_areFilms_309 rfl rfl ?_
                refine bx_if_ne cx 317 dL_areFilms_310 (by decide) g9 (fun c80 => ?_) (fun c80 => ?_)
                · rw [if_pos c80] at h
                  refine bx_iconst cx dL_areFilms_313 ?_
                  refine bx_goto cx 318 dL_areFilms_314 (by decide) ?_
                  refine bx_lv cx [] rfl ?_
                  cases h
                  exact J82
                · rw [if_neg c80] at h
                  refine bx_iconst cx dL_areFilms_317 ?_
                  refine bx_lv cx [] rfl ?_
                  cases h
                  exact J82
              · rw [if_neg c79] at h
                refine bx_iconst cx dL_areFilms_313 ?_
                refine bx_goto cx 318 dL_areFilms_314 (by decide) ?_
                refine bx_lv cx [] rfl ?_
                cases h
                exact J82
      exact L139 FU t7.2 x2 t1.1 t3.1 t5.1 t22 t39.1 t39.2 0 _ e69 J70
    exact L81 FU t7.2 x2 t1.1 t3.1 t5.1 t22 0 0 0 _ e40 J41
  clear h
  have h := e24
  clear e24
  refine bx_icmp_ne cx 69 dL_areFilms_24 (by decide) g9 g10 (fun c11 => ?_) (fun c11 => ?_)
  · rw [if_pos c11] at h
    refine bx_iload_n cx 2 dL_areFilms_27 rfl rfl ?_
    refine bx_if_lt cx 69 dL_areFilms_28 (by decide) g9 (fun c12 => ?_) (fun c12 => ?_)
    · rw [if_pos c12] at h
      refine bx_iconst cx dL_areFilms_69 ?_
      refine bx_lv cx [3, 4, 5, 2, 1, 0] rfl ?_
      cases h
      exact J23
    · rw [if_neg c12] at h
      refine bx_aload_n cx 3 dL_areFilms_31 rfl rfl ?_
      refine bx_lload cx 1 dL_areFilms_32 rfl ?_
      obtain ⟨t13, e14, h⟩ := ob h
      refine bx_callHW (As := [.ref (ad 28), .long (t3.1)]) (n := 2) (kk := 0) (st := []) cx (kL_costOf l hl ad t7.2 t3.1 _ e14) (Nat.le_of_ble_eq_true rfl) gL_areFilms_L_costOf rfl ⟨rfl, rfl⟩ (by decide +kernel) rfl ⟨by decide, by decide⟩ rfl (Nat.le_of_ble_eq_true rfl) dL_areFilms_34 ?_
      refine bx_iload_n cx 2 dL_areFilms_37 rfl rfl ?_
      obtain ⟨g15, h⟩ := gd_some h
      refine bx_icmp_ne cx 69 dL_areFilms_38 (by decide) g15 g9 (fun c16 => ?_) (fun c16 => ?_)
      · rw [if_pos c16] at h
        refine bx_aload_n cx 3 dL_areFilms_41 rfl rfl ?_
        refine bx_lload cx 0 dL_areFilms_42 rfl ?_
        obtain ⟨t17, e18, h⟩ := ob h
        refine bx_callHW (As := [.ref (ad 28), .long (t5.1)]) (n := 2) (kk := 0) (st := []) cx (kL_costOf l hl ad t7.2 t5.1 _ e18) (Nat.le_of_ble_eq_true rfl) gL_areFilms_L_costOf rfl ⟨rfl, rfl⟩ (by decide +kernel) rfl ⟨by decide, by decide⟩ rfl (Nat.le_of_ble_eq_true rfl) dL_areFilms_44 ?_
        refine bx_iload_n cx 2 dL_areFilms_47 rfl rfl ?_
        obtain ⟨g19, h⟩ := gd_some h
        refine bx_icmp_ne cx 69 dL_areFilms_48 (by decide) g19 g9 (fun c20 => ?_) (fun c20 => ?_)
        · rw [if_pos c20] at h
          refine bx_lload cx 1 dL_areFilms_51 rfl ?_
          refine bx_lload cx 0 dL_areFilms_53 rfl ?_
          refine bx_ldc2 (v := -1) cx dL_areFilms_55 hw_L_areFilms_k146 ?_
          refine bx_lxor cx dL_areFilms_58 ?_
          refine bx_land cx dL_areFilms_59 ?_
          refine bx_lconst (v := 0) cx dL_areFilms_60 rfl ?_
          refine bx_lcmp cx dL_areFilms_61 ?_
          refine bx_if_ne cx 69 dL_areFilms_62 (by decide) (zlcmp_R _ _) (fun c21 => ?_) (fun c21 => ?_)
          · rw [if_pos c21] at h
            refine bx_iconst cx dL_areFilms_65 ?_
            refine bx_goto cx 70 dL_areFilms_66 (by decide) ?_
            refine bx_lv cx [3, 4, 5, 2, 1, 0] rfl ?_
            cases h
            exact J23
          · rw [if_neg c21] at h
            refine bx_iconst cx dL_areFilms_69 ?_
            refine bx_lv cx [3, 4, 5, 2, 1, 0] rfl ?_
            cases h
            exact J23
        · rw [if_neg c20] at h
          refine bx_iconst cx dL_areFilms_69 ?_
          refine bx_lv cx [3, 4, 5, 2, 1, 0] rfl ?_
          cases h
          exact J23
      · rw [if_neg c16] at h
        refine bx_iconst cx dL_areFilms_69 ?_
        refine bx_lv cx [3, 4, 5, 2, 1, 0] rfl ?_
        cases h
        exact J23
  · rw [if_neg c11] at h
    refine bx_iconst cx dL_areFilms_69 ?_
    refine bx_lv cx [3, 4, 5, 2, 1, 0] rfl ?_
    cases h
    exact J23
