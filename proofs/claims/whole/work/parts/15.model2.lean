def fX6_oneWay_L2 : Nat → Mem → Int → Int → Int → Option (Mem)
  | 0, _, _, _, _ => none
  | n + 1, M, x1, x2, x3 =>
    gd (inR (x3)) (
    if 36 ≤ x3 then (
      some (M))
    else (
      gd (inR (x1)) (
      Option.bind (if x3 = x1 then (
        some (0))
      else (
        some (1000000000))) (fun t5 =>
      gd (inB (x3) 36) (
      gd (inB (x3) 36) (
      fX6_oneWay_L2 n (wr (wr M 6 x3.toNat t5) 10 x3.toNat ((-1))) x1 x2 (x3 + 1)))))))
def fX6_oneWay_L49 : Nat → Mem → Int → Int → Int → Int → Option (Mem)
  | 0, _, _, _, _, _ => none
  | n + 1, M, x1, x2, x3, x4 =>
    gd (inR (x4)) (
    if 120 ≤ x4 then (
      some (M))
    else (
      gd (0 ≤ x4 ∧ x4 < 2147483648) (
      gd (0 ≤ x4 ∧ x4 < 2147483648) (
      gd (inR (x4 % 2)) (
      Option.bind (if x4 % 2 = 0 then (
        Option.bind (fX6_first M (x4 / 2)) (fun t22 =>
        some (t22)))
      else (
        Option.bind (fX6_second M (x4 / 2)) (fun t24 =>
        some (t24)))) (fun t26 =>
      gd (0 ≤ x4 ∧ x4 < 2147483648) (
      Option.bind (if x4 % 2 = 0 then (
        Option.bind (fX6_second M (x4 / 2)) (fun t31 =>
        some (t31)))
      else (
        Option.bind (fX6_first M (x4 / 2)) (fun t33 =>
        some (t33)))) (fun t35 =>
      gd (0 ≤ x4 ∧ x4 < 2147483648) (
      Option.bind (if x4 % 2 = 0 then (
        some (1))
      else (
        some (0))) (fun t40 =>
      Option.bind (fX6_stepCost M (x4 / 2) t40) (fun t43 =>
      gd (inB (t26) 36) (
      gd (inR (M 6 t26.toNat)) (
      Option.bind (if 1000000000 ≤ M 6 t26.toNat then (
        some (M))
      else (
        gd (inR (t43)) (
        if 1000000000 ≤ t43 then (
          some (M))
        else (
          gd (inB (t26) 36) (
          gd (inB (t35) 36) (
          gd (inR ((M 6 t26.toNat) + t43)) (
          gd (inR (M 6 t35.toNat)) (
          if M 6 t35.toNat ≤ (M 6 t26.toNat) + t43 then (
            some (M))
          else (
            gd (inB (t26) 36) (
            gd (inB (t35) 36) (
            gd (inB (t35) 36) (
            some ((wr (wr M 6 t35.toNat ((M 6 t26.toNat) + t43)) 10 t35.toNat x4)))))))))))))) (fun t58 =>
      fX6_oneWay_L49 n t58 x1 x2 x3 (x4 + 1)))))))))))))))
def fX6_oneWay_L40 : Nat → Mem → Int → Int → Int → Option (Mem)
  | 0, _, _, _, _ => none
  | n + 1, M, x1, x2, x3 =>
    gd (inR (x3)) (
    if 36 ≤ x3 then (
      some (M))
    else (
      Option.bind (fX6_oneWay_L49 FU M x1 x2 x3 0) (fun t62 =>
      fX6_oneWay_L40 n t62 x1 x2 (x3 + 1))))
def fX6_oneWay_L205 : Nat → Mem → Int → Int → Int → Option (Mem)
  | 0, _, _, _, _ => none
  | n + 1, M, x1, x2, x3 =>
    gd (inR (x3)) (
    gd (inR (x1)) (
    if x3 = x1 then (
      some (M))
    else (
      gd (inB (x3) 36) (
      gd (0 ≤ M 10 x3.toNat ∧ M 10 x3.toNat < 2147483648) (
      gd (inB ((M 10 x3.toNat) / 2) 60) (
      gd (0 ≤ M 10 x3.toNat ∧ M 10 x3.toNat < 2147483648) (
      gd (inR ((M 10 x3.toNat) % 2)) (
      Option.bind (if (M 10 x3.toNat) % 2 = 0 then (
        some (1))
      else (
        some ((-1)))) (fun t78 =>
      gd (inB ((M 10 x3.toNat) / 2) 60) (
      gd (0 ≤ M 10 x3.toNat ∧ M 10 x3.toNat < 2147483648) (
      Option.bind (if (M 10 x3.toNat) % 2 = 0 then (
        gd (0 ≤ M 10 x3.toNat ∧ M 10 x3.toNat < 2147483648) (
        Option.bind (fX6_first (wr M 9 ((M 10 x3.toNat) / 2).toNat ((M 9 ((M 10 x3.toNat) / 2).toNat) + t78)) ((M 10 x3.toNat) / 2)) (fun t85 =>
        some (t85))))
      else (
        gd (0 ≤ M 10 x3.toNat ∧ M 10 x3.toNat < 2147483648) (
        Option.bind (fX6_second (wr M 9 ((M 10 x3.toNat) / 2).toNat ((M 9 ((M 10 x3.toNat) / 2).toNat) + t78)) ((M 10 x3.toNat) / 2)) (fun t88 =>
        some (t88))))) (fun t90 =>
      fX6_oneWay_L205 n (wr M 9 ((M 10 x3.toNat) / 2).toNat ((M 9 ((M 10 x3.toNat) / 2).toNat) + t78)) x1 x2 t90))))))))))))
def fX6_oneWay (M : Mem) (x1 : Int) (x2 : Int) : Option (Int × Mem) :=
    Option.bind (fX6_oneWay_L2 FU M x1 x2 0) (fun t11 =>
    Option.bind (fX6_oneWay_L40 FU t11 x1 x2 0) (fun t66 =>
    Option.bind (fX6_oneWay_L205 FU t66 x1 x2 x2) (fun t94 =>
    gd (inB (x2) 36) (
    some (t94 6 x2.toNat, t94)))))
abbrev rmX6_oneWay : Room := { frames := 2, cells := 0, slots := 0, locals := 43 }
theorem hl_X6_oneWay_29 : Cond.fieldLink RX6 29 "PlateauBenchModel" "far" "[I" ∈ wsX6_oneWay := by decide +kernel
theorem hw_X6_oneWay_c85 : Cond.constant RX6 85 (1000000000) ∈ wsX6_oneWay := by decide +kernel
theorem hl_X6_oneWay_41 : Cond.fieldLink RX6 41 "PlateauBenchModel" "came" "[I" ∈ wsX6_oneWay := by decide +kernel
theorem hl_X6_oneWay_38 : Cond.fieldLink RX6 38 "PlateauBenchModel" "flow" "[I" ∈ wsX6_oneWay := by decide +kernel
theorem hi_X6_oneWay_X6 : ∀ x ∈ u_ws RX6 TX6 19, x ∈ wsX6_oneWay := by decide +kernel
set_option maxRecDepth 100000 in
set_option maxHeartbeats 4000000 in
theorem kX6_oneWay (l : Launch) (ad : Nat → Nat) (M : Mem) (x1 : Int) (x2 : Int) (T : Int × Mem) (h : fX6_oneWay M x1 x2 = some T) : MX l yX6_oneWay wsX6_oneWay rmX6_oneWay wM ad [.ref (ad 14), iV (x1), iV (x2)] M (some (iV (T.1))) T.2 := by
  refine MX.of (cc := cX6_oneWay) (nL := 9) (rt := (some .int)) (own := RX6) (by decide +kernel) rfl rfl (Nat.le_of_ble_eq_true rfl) wM_ok (fun G cx => ?_)
  show G M 0 [(0, .ref (ad 14)), (1, iV (x1)), (2, iV (x2))] []
  have L2 : ∀ (n : Nat) (M : Mem) (x1 : Int) (x2 : Int) (x3 : Int) (T10 : Mem), fX6_oneWay_L2 n M x1 x2 x3 = some T10 → (G T10 38 [(0, .ref (ad 14)), (1, iV (x1)), (2, iV (x2))] []) → G M 2 [(0, .ref (ad 14)), (1, iV (x1)), (2, iV (x2)), (3, iV (x3))] [] := by
    intro n
    induction n with
    | zero =>
      intro M x1 x2 x3 T10 h
      exact absurd h (by simp [fX6_oneWay_L2])
    | succ n ih =>
      intro M x1 x2 x3 T10 h hJ
      rw [fX6_oneWay_L2] at h
      refine ax_iload_n cx 3 dX6_oneWay_2 rfl rfl ?_
      refine ax_bipush (z := 36) cx dX6_oneWay_3 (by decide) ?_
      obtain ⟨g1, h⟩ := gd_some h
      refine ax_icmp_ge cx 38 dX6_oneWay_5 (by decide) g1 ⟨by decide, by decide⟩ (fun c2 => ?_) (fun c2 => ?_)
      · rw [if_pos c2] at h
        refine ax_lv cx [0, 1, 2] rfl ?_
        cases h
        exact hJ
      · rw [if_neg c2] at h
        refine ax_aload_n cx 0 dX6_oneWay_8 rfl rfl ?_
        refine ax_getf (q := 14) (ci := 6) (k := 10) (v := .ref (ad 6)) cx ⟨by decide, by decide⟩ rfl rfl hi_X6_oneWay_X6 (by decide) hl_X6_oneWay_29 rfl rfl dX6_oneWay_9 ?_
        refine ax_iload_n cx 3 dX6_oneWay_12 rfl rfl ?_
        refine ax_iload_n cx 3 dX6_oneWay_13 rfl rfl ?_
        refine ax_iload_n cx 1 dX6_oneWay_14 rfl rfl ?_
        obtain ⟨g3, h⟩ := gd_some h
        obtain ⟨t5, e7, h⟩ := ob h
        have J6 : G M 24 [(0, .ref (ad 14)), (1, iV (x1)), (2, iV (x2)), (3, iV (x3))] [iV (t5), iV (x3), .ref (ad 6)] := by
          obtain ⟨g8, h⟩ := gd_some h
          refine ax_iast (n := 36) cx (by decide) rfl rfl g8 dX6_oneWay_24 ?_
          refine ax_aload_n cx 0 dX6_oneWay_25 rfl rfl ?_
          refine ax_getf (q := 14) (ci := 6) (k := 14) (v := .ref (ad 10)) cx ⟨by decide, by decide⟩ rfl rfl hi_X6_oneWay_X6 (by decide) hl_X6_oneWay_41 rfl rfl dX6_oneWay_26 ?_
          refine ax_iload_n cx 3 dX6_oneWay_29 rfl rfl ?_
          refine ax_iconst cx dX6_oneWay_30 ?_
          obtain ⟨g9, h⟩ := gd_some h
          refine ax_iast (n := 36) cx (by decide) rfl rfl g9 dX6_oneWay_31 ?_
          refine ax_iinc (lv' := [(3, iV (x3 + 1)), (0, .ref (ad 14)), (1, iV (x1)), (2, iV (x2))]) cx 3 dX6_oneWay_32 rfl (by decide) rfl ?_
          refine ax_goto cx 2 dX6_oneWay_35 (by decide) ?_
          refine ax_lv cx [1, 2, 3, 0] rfl ?_
          exact ih _ _ _ _ _ h hJ
        clear h
        have h := e7
        clear e7
        refine ax_icmp_ne cx 22 dX6_oneWay_15 (by decide) g1 g3 (fun c4 => ?_) (fun c4 => ?_)
        · rw [if_pos c4] at h
          refine ax_iconst cx dX6_oneWay_18 ?_
          refine ax_goto cx 24 dX6_oneWay_19 (by decide) ?_
          cases h
          exact J6
        · rw [if_neg c4] at h
          refine ax_ldc (z := 1000000000) cx dX6_oneWay_22 hw_X6_oneWay_c85 (by decide) ?_
          cases h
          exact J6
  have L49 : ∀ (n : Nat) (M : Mem) (x1 : Int) (x2 : Int) (x3 : Int) (x4 : Int) (T61 : Mem), fX6_oneWay_L49 n M x1 x2 x3 x4 = some T61 → (G T61 197 [(0, .ref (ad 14)), (1, iV (x1)), (2, iV (x2)), (3, iV (x3))] []) → G M 49 [(0, .ref (ad 14)), (1, iV (x1)), (2, iV (x2)), (3, iV (x3)), (4, iV (x4))] [] := by
    intro n
    induction n with
    | zero =>
      intro M x1 x2 x3 x4 T61 h
      exact absurd h (by simp [fX6_oneWay_L49])
    | succ n ih =>
      intro M x1 x2 x3 x4 T61 h hJ
      rw [fX6_oneWay_L49] at h
      refine ax_iload cx 4 dX6_oneWay_49 rfl ?_
      refine ax_bipush (z := 120) cx dX6_oneWay_51 (by decide) ?_
      obtain ⟨g16, h⟩ := gd_some h
      refine ax_icmp_ge cx 197 dX6_oneWay_53 (by decide) g16 ⟨by decide, by decide⟩ (fun c17 => ?_) (fun c17 => ?_)
      · rw [if_pos c17] at h
        refine ax_lv cx [0, 1, 2, 3] rfl ?_
        cases h
        exact hJ
      · rw [if_neg c17] at h
        refine ax_iload cx 4 dX6_oneWay_56 rfl ?_
        refine ax_iconst cx dX6_oneWay_58 ?_
        obtain ⟨g18, h⟩ := gd_some h
        refine ax_idiv cx dX6_oneWay_59 ⟨g18, by decide, by decide⟩ ?_
        refine ax_istore (lv' := [(5, iV (x4 / 2)), (0, .ref (ad 14)), (1, iV (x1)), (2, iV (x2)), (3, iV (x3)), (4, iV (x4))]) cx dX6_oneWay_60 (by decide) rfl ?_
        refine ax_iload cx 5 dX6_oneWay_62 rfl ?_
        refine ax_iconst cx dX6_oneWay_64 ?_
        obtain ⟨g19, h⟩ := gd_some h
        refine ax_irem cx dX6_oneWay_65 ⟨g19, by decide, by decide⟩ ?_
        obtain ⟨g20, h⟩ := gd_some h
        obtain ⟨t26, e28, h⟩ := ob h
        have J27 : G M 82 [(0, .ref (ad 14)), (1, iV (x1)), (2, iV (x2)), (3, iV (x3)), (4, iV (x4)), (5, iV (x4 / 2))] [iV (t26)] := by
          refine ax_istore (lv' := [(6, iV (t26)), (0, .ref (ad 14)), (1, iV (x1)), (2, iV (x2)), (3, iV (x3)), (4, iV (x4)), (5, iV (x4 / 2))]) cx dX6_oneWay_82 (by decide) rfl ?_
          refine ax_iload cx 5 dX6_oneWay_84 rfl ?_
          refine ax_iconst cx dX6_oneWay_86 ?_
          obtain ⟨g29, h⟩ := gd_some h
          refine ax_irem cx dX6_oneWay_87 ⟨g29, by decide, by decide⟩ ?_
          obtain ⟨t35, e37, h⟩ := ob h
          have J36 : G M 104 [(0, .ref (ad 14)), (1, iV (x1)), (2, iV (x2)), (3, iV (x3)), (4, iV (x4)), (5, iV (x4 / 2)), (6, iV (t26))] [iV (t35)] := by
            refine ax_istore (lv' := [(7, iV (t35)), (0, .ref (ad 14)), (1, iV (x1)), (2, iV (x2)), (3, iV (x3)), (4, iV (x4)), (5, iV (x4 / 2)), (6, iV (t26))]) cx dX6_oneWay_104 (by decide) rfl ?_
            refine ax_aload_n cx 1 dX6_oneWay_106 rfl rfl ?_
            refine ax_iload cx 6 dX6_oneWay_107 rfl ?_
            refine ax_iload cx 5 dX6_oneWay_109 rfl ?_
            refine ax_iconst cx dX6_oneWay_111 ?_
            obtain ⟨g38, h⟩ := gd_some h
            refine ax_irem cx dX6_oneWay_112 ⟨g38, by decide, by decide⟩ ?_
            obtain ⟨t40, e42, h⟩ := ob h
            have J41 : G M 121 [(0, .ref (ad 14)), (1, iV (x1)), (2, iV (x2)), (3, iV (x3)), (4, iV (x4)), (6, iV (t26)), (7, iV (t35))] [iV (t40), iV (x4 / 2), .ref (ad 14)] := by
              obtain ⟨t43, e44, h⟩ := ob h
              refine ax_callV (As := [iV (x4 / 2), iV (t40)]) (q := 14) (ci := 6) (n := 2) cx (kX6_stepCost l ad M (x4 / 2) t40 _ e44) gX6_oneWay_X6_stepCost rfl ⟨by decide, by decide⟩ rfl rfl ⟨rfl, rfl⟩ (by decide +kernel) rfl ⟨by decide, by decide⟩ rfl (Nat.le_of_ble_eq_true rfl) dX6_oneWay_121 ?_
              refine ax_istore (lv' := [(8, iV (t43)), (0, .ref (ad 14)), (1, iV (x1)), (2, iV (x2)), (3, iV (x3)), (4, iV (x4)), (6, iV (t26)), (7, iV (t35))]) cx dX6_oneWay_124 (by decide) rfl ?_
              refine ax_aload_n cx 1 dX6_oneWay_126 rfl rfl ?_
              refine ax_getf (q := 14) (ci := 6) (k := 10) (v := .ref (ad 6)) cx ⟨by decide, by decide⟩ rfl rfl hi_X6_oneWay_X6 (by decide) hl_X6_oneWay_29 rfl rfl dX6_oneWay_127 ?_
              refine ax_iload cx 6 dX6_oneWay_130 rfl ?_
              obtain ⟨g45, h⟩ := gd_some h
              refine ax_iald (n := 36) cx (by decide) rfl rfl g45 dX6_oneWay_132 ?_
              refine ax_ldc (z := 1000000000) cx dX6_oneWay_133 hw_X6_oneWay_c85 (by decide) ?_
              obtain ⟨g46, h⟩ := gd_some h
              obtain ⟨t58, e60, h⟩ := ob h
              have J59 : G t58 191 [(0, .ref (ad 14)), (1, iV (x1)), (2, iV (x2)), (3, iV (x3)), (4, iV (x4))] [] := by
                refine ax_iinc (lv' := [(4, iV (x4 + 1)), (0, .ref (ad 14)), (1, iV (x1)), (2, iV (x2)), (3, iV (x3))]) cx 4 dX6_oneWay_191 rfl (by decide) rfl ?_
                refine ax_goto cx 49 dX6_oneWay_194 (by decide) ?_
                refine ax_lv cx [1, 2, 3, 4, 0] rfl ?_
                exact ih _ _ _ _ _ _ h hJ
              clear h
              have h := e60
              clear e60
              refine ax_icmp_ge cx 191 dX6_oneWay_135 (by decide) g46 ⟨by decide, by decide⟩ (fun c47 => ?_) (fun c47 => ?_)
              · rw [if_pos c47] at h
                refine ax_lv cx [1, 2, 3, 4, 5] rfl ?_
                cases h
                exact J59
              · rw [if_neg c47] at h
                refine ax_iload cx 0 dX6_oneWay_138 rfl ?_
                refine ax_ldc (z := 1000000000) cx dX6_oneWay_140 hw_X6_oneWay_c85 (by decide) ?_
                obtain ⟨g48, h⟩ := gd_some h
                refine ax_icmp_ge cx 191 dX6_oneWay_142 (by decide) g48 ⟨by decide, by decide⟩ (fun c49 => ?_) (fun c49 => ?_)
                · rw [if_pos c49] at h
                  refine ax_lv cx [1, 2, 3, 4, 5] rfl ?_
                  cases h
                  exact J59
                · rw [if_neg c49] at h
                  refine ax_aload_n cx 1 dX6_oneWay_145 rfl rfl ?_
                  refine ax_getf (q := 14) (ci := 6) (k := 10) (v := .ref (ad 6)) cx ⟨by decide, by decide⟩ rfl rfl hi_X6_oneWay_X6 (by decide) hl_X6_oneWay_29 rfl rfl dX6_oneWay_146 ?_
                  refine ax_iload cx 6 dX6_oneWay_149 rfl ?_
                  obtain ⟨g50, h⟩ := gd_some h
                  refine ax_iald (n := 36) cx (by decide) rfl rfl g50 dX6_oneWay_151 ?_
                  refine ax_iload cx 0 dX6_oneWay_152 rfl ?_
                  refine ax_iadd cx dX6_oneWay_154 ?_
                  refine ax_aload_n cx 1 dX6_oneWay_155 rfl rfl ?_
                  refine ax_getf (q := 14) (ci := 6) (k := 10) (v := .ref (ad 6)) cx ⟨by decide, by decide⟩ rfl rfl hi_X6_oneWay_X6 (by decide) hl_X6_oneWay_29 rfl rfl dX6_oneWay_156 ?_
                  refine ax_iload cx 7 dX6_oneWay_159 rfl ?_
                  obtain ⟨g51, h⟩ := gd_some h
                  refine ax_iald (n := 36) cx (by decide) rfl rfl g51 dX6_oneWay_161 ?_
                  obtain ⟨g52, h⟩ := gd_some h
                  obtain ⟨g53, h⟩ := gd_some h
                  refine ax_icmp_ge cx 191 dX6_oneWay_162 (by decide) g52 g53 (fun c54 => ?_) (fun c54 => ?_)
                  · rw [if_pos c54] at h
                    refine ax_lv cx [1, 2, 3, 4, 5] rfl ?_
                    cases h
                    exact J59
                  · rw [if_neg c54] at h
                    refine ax_aload_n cx 1 dX6_oneWay_165 rfl rfl ?_
                    refine ax_getf (q := 14) (ci := 6) (k := 10) (v := .ref (ad 6)) cx ⟨by decide, by decide⟩ rfl rfl hi_X6_oneWay_X6 (by decide) hl_X6_oneWay_29 rfl rfl dX6_oneWay_166 ?_
                    refine ax_iload cx 7 dX6_oneWay_169 rfl ?_
                    refine ax_aload_n cx 1 dX6_oneWay_171 rfl rfl ?_
                    refine ax_getf (q := 14) (ci := 6) (k := 10) (v := .ref (ad 6)) cx ⟨by decide, by decide⟩ rfl rfl hi_X6_oneWay_X6 (by decide) hl_X6_oneWay_29 rfl rfl dX6_oneWay_172 ?_
                    refine ax_iload cx 6 dX6_oneWay_175 rfl ?_
                    obtain ⟨g55, h⟩ := gd_some h
                    refine ax_iald (n := 36) cx (by decide) rfl rfl g55 dX6_oneWay_177 ?_
                    refine ax_iload cx 0 dX6_oneWay_178 rfl ?_
                    refine ax_iadd cx dX6_oneWay_180 ?_
                    obtain ⟨g56, h⟩ := gd_some h
                    refine ax_iast (n := 36) cx (by decide) rfl rfl g56 dX6_oneWay_181 ?_
                    refine ax_aload_n cx 1 dX6_oneWay_182 rfl rfl ?_
                    refine ax_getf (q := 14) (ci := 6) (k := 14) (v := .ref (ad 10)) cx ⟨by decide, by decide⟩ rfl rfl hi_X6_oneWay_X6 (by decide) hl_X6_oneWay_41 rfl rfl dX6_oneWay_183 ?_
                    refine ax_iload cx 7 dX6_oneWay_186 rfl ?_
                    refine ax_iload cx 5 dX6_oneWay_188 rfl ?_
                    obtain ⟨g57, h⟩ := gd_some h
                    refine ax_iast (n := 36) cx (by decide) rfl rfl g57 dX6_oneWay_190 ?_
                    refine ax_lv cx [1, 2, 3, 4, 5] rfl ?_
                    cases h
                    exact J59
            clear h
            have h := e42
            clear e42
            refine ax_if_ne cx 120 dX6_oneWay_113 (by decide) g20 (fun c39 => ?_) (fun c39 => ?_)
            · rw [if_pos c39] at h
              refine ax_iconst cx dX6_oneWay_116 ?_
              refine ax_goto cx 121 dX6_oneWay_117 (by decide) ?_
              refine ax_lv cx [1, 2, 3, 4, 5, 7, 0] rfl ?_
              cases h
              exact J41
            · rw [if_neg c39] at h
              refine ax_iconst cx dX6_oneWay_120 ?_
              refine ax_lv cx [1, 2, 3, 4, 5, 7, 0] rfl ?_
              cases h
              exact J41
          clear h
          have h := e37
          clear e37
          refine ax_if_ne cx 99 dX6_oneWay_88 (by decide) g20 (fun c30 => ?_) (fun c30 => ?_)
          · rw [if_pos c30] at h
            refine ax_iload cx 6 dX6_oneWay_91 rfl ?_
            obtain ⟨t31, e32, h⟩ := ob h
            refine ax_callS (As := [iV (x4 / 2)]) (n := 1) cx (kX6_second l ad M (x4 / 2) _ e32) gX6_oneWay_X6_second rfl ⟨rfl, rfl⟩ (by decide +kernel) rfl ⟨by decide, by decide⟩ rfl (Nat.le_of_ble_eq_true rfl) dX6_oneWay_93 ?_
            refine ax_goto cx 104 dX6_oneWay_96 (by decide) ?_
            refine ax_lv cx [1, 2, 3, 4, 5, 6, 0] rfl ?_
            cases h
            exact J36
          · rw [if_neg c30] at h
            refine ax_iload cx 6 dX6_oneWay_99 rfl ?_
            obtain ⟨t33, e34, h⟩ := ob h
            refine ax_callS (As := [iV (x4 / 2)]) (n := 1) cx (kX6_first l ad M (x4 / 2) _ e34) gX6_oneWay_X6_first rfl ⟨rfl, rfl⟩ (by decide +kernel) rfl ⟨by decide, by decide⟩ rfl (Nat.le_of_ble_eq_true rfl) dX6_oneWay_101 ?_
            refine ax_lv cx [1, 2, 3, 4, 5, 6, 0] rfl ?_
            cases h
            exact J36
        clear h
        have h := e28
        clear e28
        refine ax_if_ne cx 77 dX6_oneWay_66 (by decide) g20 (fun c21 => ?_) (fun c21 => ?_)
        · rw [if_pos c21] at h
          refine ax_iload cx 0 dX6_oneWay_69 rfl ?_
          obtain ⟨t22, e23, h⟩ := ob h
          refine ax_callS (As := [iV (x4 / 2)]) (n := 1) cx (kX6_first l ad M (x4 / 2) _ e23) gX6_oneWay_X6_first rfl ⟨rfl, rfl⟩ (by decide +kernel) rfl ⟨by decide, by decide⟩ rfl (Nat.le_of_ble_eq_true rfl) dX6_oneWay_71 ?_
          refine ax_goto cx 82 dX6_oneWay_74 (by decide) ?_
          refine ax_lv cx [1, 2, 3, 4, 5, 0] rfl ?_
          cases h
          exact J27
        · rw [if_neg c21] at h
          refine ax_iload cx 0 dX6_oneWay_77 rfl ?_
          obtain ⟨t24, e25, h⟩ := ob h
          refine ax_callS (As := [iV (x4 / 2)]) (n := 1) cx (kX6_second l ad M (x4 / 2) _ e25) gX6_oneWay_X6_second rfl ⟨rfl, rfl⟩ (by decide +kernel) rfl ⟨by decide, by decide⟩ rfl (Nat.le_of_ble_eq_true rfl) dX6_oneWay_79 ?_
          refine ax_lv cx [1, 2, 3, 4, 5, 0] rfl ?_
          cases h
          exact J27
  have L40 : ∀ (n : Nat) (M : Mem) (x1 : Int) (x2 : Int) (x3 : Int) (T65 : Mem), fX6_oneWay_L40 n M x1 x2 x3 = some T65 → (G T65 203 [(0, .ref (ad 14)), (1, iV (x1)), (2, iV (x2))] []) → G M 40 [(0, .ref (ad 14)), (1, iV (x1)), (2, iV (x2)), (3, iV (x3))] [] := by
    intro n
    induction n with
    | zero =>
      intro M x1 x2 x3 T65 h
      exact absurd h (by simp [fX6_oneWay_L40])
    | succ n ih =>
      intro M x1 x2 x3 T65 h hJ
      rw [fX6_oneWay_L40] at h
      refine ax_iload_n cx 3 dX6_oneWay_40 rfl rfl ?_
      refine ax_bipush (z := 36) cx dX6_oneWay_41 (by decide) ?_
      obtain ⟨g14, h⟩ := gd_some h
      refine ax_icmp_ge cx 203 dX6_oneWay_43 (by decide) g14 ⟨by decide, by decide⟩ (fun c15 => ?_) (fun c15 => ?_)
      · rw [if_pos c15] at h
        refine ax_lv cx [0, 1, 2] rfl ?_
        cases h
        exact hJ
      · rw [if_neg c15] at h
        refine ax_iconst cx dX6_oneWay_46 ?_
        refine ax_istore (lv' := [(4, iV (0)), (0, .ref (ad 14)), (1, iV (x1)), (2, iV (x2)), (3, iV (x3))]) cx dX6_oneWay_47 (by decide) rfl ?_
        obtain ⟨t62, e63, h⟩ := ob h
        refine ax_lv cx [1, 2, 3, 4, 0] rfl ?_
        have J64 : G t62 197 [(0, .ref (ad 14)), (1, iV (x1)), (2, iV (x2)), (3, iV (x3))] [] := by
          refine ax_iinc (lv' := [(3, iV (x3 + 1)), (0, .ref (ad 14)), (1, iV (x1)), (2, iV (x2))]) cx 3 dX6_oneWay_197 rfl (by decide) rfl ?_
          refine ax_goto cx 40 dX6_oneWay_200 (by decide) ?_
          refine ax_lv cx [1, 2, 3, 0] rfl ?_
          exact ih _ _ _ _ _ h hJ
        exact L49 FU M x1 x2 x3 0 _ e63 J64
  have L205 : ∀ (n : Nat) (M : Mem) (x1 : Int) (x2 : Int) (x3 : Int) (T93 : Mem), fX6_oneWay_L205 n M x1 x2 x3 = some T93 → (G T93 270 [(0, .ref (ad 14)), (2, iV (x2))] []) → G M 205 [(0, .ref (ad 14)), (1, iV (x1)), (2, iV (x2)), (3, iV (x3))] [] := by
    intro n
    induction n with
    | zero =>
      intro M x1 x2 x3 T93 h
      exact absurd h (by simp [fX6_oneWay_L205])
    | succ n ih =>
      intro M x1 x2 x3 T93 h hJ
      rw [fX6_oneWay_L205] at h
      refine ax_iload_n cx 3 dX6_oneWay_205 rfl rfl ?_
      refine ax_iload_n cx 1 dX6_oneWay_206 rfl rfl ?_
      obtain ⟨g69, h⟩ := gd_some h
      obtain ⟨g70, h⟩ := gd_some h
      refine ax_icmp_eq cx 270 dX6_oneWay_207 (by decide) g69 g70 (fun c71 => ?_) (fun c71 => ?_)
      · rw [if_pos c71] at h
        refine ax_lv cx [0, 2] rfl ?_
        cases h
        exact hJ
      · rw [if_neg c71] at h
        refine ax_aload_n cx 0 dX6_oneWay_210 rfl rfl ?_
        refine ax_getf (q := 14) (ci := 6) (k := 14) (v := .ref (ad 10)) cx ⟨by decide, by decide⟩ rfl rfl hi_X6_oneWay_X6 (by decide) hl_X6_oneWay_41 rfl rfl dX6_oneWay_211 ?_
        refine ax_iload_n cx 3 dX6_oneWay_214 rfl rfl ?_
        obtain ⟨g72, h⟩ := gd_some h
        refine ax_iald (n := 36) cx (by decide) rfl rfl g72 dX6_oneWay_215 ?_
        refine ax_istore (lv' := [(4, iV (M 10 x3.toNat)), (0, .ref (ad 14)), (1, iV (x1)), (2, iV (x2)), (3, iV (x3))]) cx dX6_oneWay_216 (by decide) rfl ?_
        refine ax_aload_n cx 1 dX6_oneWay_218 rfl rfl ?_
        refine ax_getf (q := 14) (ci := 6) (k := 13) (v := .ref (ad 9)) cx ⟨by decide, by decide⟩ rfl rfl hi_X6_oneWay_X6 (by decide) hl_X6_oneWay_38 rfl rfl dX6_oneWay_219 ?_
        refine ax_iload cx 0 dX6_oneWay_222 rfl ?_
        refine ax_iconst cx dX6_oneWay_224 ?_
        obtain ⟨g73, h⟩ := gd_some h
        refine ax_idiv cx dX6_oneWay_225 ⟨g73, by decide, by decide⟩ ?_
        refine ax_dup2 cx dX6_oneWay_226 rfl rfl ?_
        obtain ⟨g74, h⟩ := gd_some h
        refine ax_iald (n := 60) cx (by decide) rfl rfl g74 dX6_oneWay_227 ?_
        refine ax_iload cx 0 dX6_oneWay_228 rfl ?_
        refine ax_iconst cx dX6_oneWay_230 ?_
        obtain ⟨g75, h⟩ := gd_some h
        refine ax_irem cx dX6_oneWay_231 ⟨g75, by decide, by decide⟩ ?_
        obtain ⟨g76, h⟩ := gd_some h
        obtain ⟨t78, e80, h⟩ := ob h
        have J79 : G M 240 [(0, .ref (ad 14)), (1, iV (x1)), (2, iV (x2)), (4, iV (M 10 x3.toNat))] [iV (t78), iV (M 9 ((M 10 x3.toNat) / 2).toNat), iV ((M 10 x3.toNat) / 2), .ref (ad 9)] := by
          refine ax_iadd cx dX6_oneWay_240 ?_
          obtain ⟨g81, h⟩ := gd_some h
          refine ax_iast (n := 60) cx (by decide) rfl rfl g81 dX6_oneWay_241 ?_
          refine ax_iload cx 3 dX6_oneWay_242 rfl ?_
          refine ax_iconst cx dX6_oneWay_244 ?_
          obtain ⟨g82, h⟩ := gd_some h
          refine ax_irem cx dX6_oneWay_245 ⟨g82, by decide, by decide⟩ ?_
          obtain ⟨t90, e92, h⟩ := ob h
          have J91 : G (wr M 9 ((M 10 x3.toNat) / 2).toNat ((M 9 ((M 10 x3.toNat) / 2).toNat) + t78)) 266 [(0, .ref (ad 14)), (1, iV (x1)), (2, iV (x2))] [iV (t90)] := by
            refine ax_istore_n (lv' := [(3, iV (t90)), (0, .ref (ad 14)), (1, iV (x1)), (2, iV (x2))]) cx dX6_oneWay_266 rfl (by decide) rfl ?_
            refine ax_goto cx 205 dX6_oneWay_267 (by decide) ?_
            refine ax_lv cx [1, 2, 3, 0] rfl ?_
            exact ih _ _ _ _ _ h hJ
          clear h
          have h := e92
          clear e92
          refine ax_if_ne cx 259 dX6_oneWay_246 (by decide) g76 (fun c83 => ?_) (fun c83 => ?_)
          · rw [if_pos c83] at h
            refine ax_iload cx 3 dX6_oneWay_249 rfl ?_
            refine ax_iconst cx dX6_oneWay_251 ?_
            obtain ⟨g84, h⟩ := gd_some h
            refine ax_idiv cx dX6_oneWay_252 ⟨g84, by decide, by decide⟩ ?_
            obtain ⟨t85, e86, h⟩ := ob h
            refine ax_callS (As := [iV ((M 10 x3.toNat) / 2)]) (n := 1) cx (kX6_first l ad (wr M 9 ((M 10 x3.toNat) / 2).toNat ((M 9 ((M 10 x3.toNat) / 2).toNat) + t78)) ((M 10 x3.toNat) / 2) _ e86) gX6_oneWay_X6_first rfl ⟨rfl, rfl⟩ (by decide +kernel) rfl ⟨by decide, by decide⟩ rfl (Nat.le_of_ble_eq_true rfl) dX6_oneWay_253 ?_
            refine ax_goto cx 266 dX6_oneWay_256 (by decide) ?_
            refine ax_lv cx [0, 1, 2] rfl ?_
            cases h
            exact J91
          · rw [if_neg c83] at h
            refine ax_iload cx 3 dX6_oneWay_259 rfl ?_
            refine ax_iconst cx dX6_oneWay_261 ?_
            obtain ⟨g87, h⟩ := gd_some h
            refine ax_idiv cx dX6_oneWay_262 ⟨g87, by decide, by decide⟩ ?_
            obtain ⟨t88, e89, h⟩ := ob h
            refine ax_callS (As := [iV ((M 10 x3.toNat) / 2)]) (n := 1) cx (kX6_second l ad (wr M 9 ((M 10 x3.toNat) / 2).toNat ((M 9 ((M 10 x3.toNat) / 2).toNat) + t78)) ((M 10 x3.toNat) / 2) _ e89) gX6_oneWay_X6_second rfl ⟨rfl, rfl⟩ (by decide +kernel) rfl ⟨by decide, by decide⟩ rfl (Nat.le_of_ble_eq_true rfl) dX6_oneWay_263 ?_
            refine ax_lv cx [0, 1, 2] rfl ?_
            cases h
            exact J91
        clear h
        have h := e80
        clear e80
        refine ax_if_ne cx 239 dX6_oneWay_232 (by decide) g76 (fun c77 => ?_) (fun c77 => ?_)
        · rw [if_pos c77] at h
          refine ax_iconst cx dX6_oneWay_235 ?_
          refine ax_goto cx 240 dX6_oneWay_236 (by decide) ?_
          refine ax_lv cx [1, 2, 3, 0] rfl ?_
          cases h
          exact J79
        · rw [if_neg c77] at h
          refine ax_iconst cx dX6_oneWay_239 ?_
          refine ax_lv cx [1, 2, 3, 0] rfl ?_
          cases h
          exact J79
  unfold fX6_oneWay at h
  refine ax_iconst cx dX6_oneWay_0 ?_
  refine ax_istore_n (lv' := [(3, iV (0)), (0, .ref (ad 14)), (1, iV (x1)), (2, iV (x2))]) cx dX6_oneWay_1 rfl (by decide) rfl ?_
  obtain ⟨t11, e12, h⟩ := ob h
  refine ax_lv cx [1, 2, 3, 0] rfl ?_
  have J13 : G t11 38 [(0, .ref (ad 14)), (1, iV (x1)), (2, iV (x2))] [] := by
    refine ax_iconst cx dX6_oneWay_38 ?_
    refine ax_istore_n (lv' := [(3, iV (0)), (0, .ref (ad 14)), (1, iV (x1)), (2, iV (x2))]) cx dX6_oneWay_39 rfl (by decide) rfl ?_
    obtain ⟨t66, e67, h⟩ := ob h
    refine ax_lv cx [1, 2, 3, 0] rfl ?_
    have J68 : G t66 203 [(0, .ref (ad 14)), (1, iV (x1)), (2, iV (x2))] [] := by
      refine ax_iload_n cx 2 dX6_oneWay_203 rfl rfl ?_
      refine ax_istore_n (lv' := [(3, iV (x2)), (0, .ref (ad 14)), (1, iV (x1)), (2, iV (x2))]) cx dX6_oneWay_204 rfl (by decide) rfl ?_
      obtain ⟨t94, e95, h⟩ := ob h
      refine ax_lv cx [1, 2, 3, 0] rfl ?_
      have J96 : G t94 270 [(0, .ref (ad 14)), (2, iV (x2))] [] := by
        refine ax_aload_n cx 0 dX6_oneWay_270 rfl rfl ?_
        refine ax_getf (q := 14) (ci := 6) (k := 10) (v := .ref (ad 6)) cx ⟨by decide, by decide⟩ rfl rfl hi_X6_oneWay_X6 (by decide) hl_X6_oneWay_29 rfl rfl dX6_oneWay_271 ?_
        refine ax_iload_n cx 1 dX6_oneWay_274 rfl rfl ?_
        obtain ⟨g97, h⟩ := gd_some h
        refine ax_iald (n := 36) cx (by decide) rfl rfl g97 dX6_oneWay_275 ?_
        cases h
        exact ax_iret cx dX6_oneWay_276 rfl ⟨rfl, rfl⟩
      exact L205 FU t66 x1 x2 x2 _ e95 J96
    exact L40 FU t11 x1 x2 0 _ e67 J68
  exact L2 FU M x1 x2 0 _ e12 J13
def fX6_twoWays_L39 : Nat → Mem → Int → Int → Int → Option (Mem)
  | 0, _, _, _, _ => none
  | n + 1, M, x1, x2, x3 =>
    gd (inR (x3)) (
    if 60 ≤ x3 then (
      some (M))
    else (
      gd (inB (x3) 60) (
      fX6_twoWays_L39 n (wr M 9 x3.toNat 0) x1 x2 (x3 + 1))))
def fX6_twoWays (M : Mem) (x1 : Int) (x2 : Int) : Option (Int × Mem) :=
    Option.bind (fX6_isNode M x1) (fun t1 =>
    gd (inR (t1)) (
    Option.bind (if t1 = 0 then (
      some (1))
    else (
      Option.bind (fX6_isNode M x2) (fun t5 =>
      gd (inR (t5)) (
      if t5 = 0 then (
        some (1))
      else (
        gd (inR (x1)) (
        gd (inR (x2)) (
        if x1 = x2 then (
          some (2))
        else (
          some (0))))))))) (fun t12 =>
    Option.bind (fX6_refused M t12) (fun t15 =>
    gd (inR (t15.1)) (
    if t15.1 = 0 then (
      Option.bind (fX6_twoWays_L39 FU t15.2 x1 x2 0) (fun t23 =>
      Option.bind (fX6_oneWay t23 x1 x2) (fun t26 =>
      Option.bind (fX6_oneWay t26.2 x1 x2) (fun t28 =>
      some (t26.1 + t28.1, t28.2)))))
    else (
      some (0, t15.2)))))))
abbrev rmX6_twoWays : Room := { frames := 3, cells := 0, slots := 0, locals := 71 }
theorem hl_X6_twoWays_38 : Cond.fieldLink RX6 38 "PlateauBenchModel" "flow" "[I" ∈ wsX6_twoWays := by decide +kernel
theorem hi_X6_twoWays_X6 : ∀ x ∈ u_ws RX6 TX6 19, x ∈ wsX6_twoWays := by decide +kernel
set_option maxRecDepth 100000 in
set_option maxHeartbeats 4000000 in
theorem kX6_twoWays (l : Launch) (ad : Nat → Nat) (M : Mem) (x1 : Int) (x2 : Int) (T : Int × Mem) (h : fX6_twoWays M x1 x2 = some T) : MX l yX6_twoWays wsX6_twoWays rmX6_twoWays wM ad [.ref (ad 14), iV (x1), iV (x2)] M (some (iV (T.1))) T.2 := by
  refine MX.of (cc := cX6_twoWays) (nL := 4) (rt := (some .int)) (own := RX6) (by decide +kernel) rfl rfl (Nat.le_of_ble_eq_true rfl) wM_ok (fun G cx => ?_)
  show G M 0 [(0, .ref (ad 14)), (1, iV (x1)), (2, iV (x2))] []
  have L39 : ∀ (n : Nat) (M : Mem) (x1 : Int) (x2 : Int) (x3 : Int) (T22 : Mem), fX6_twoWays_L39 n M x1 x2 x3 = some T22 → (G T22 58 [(0, .ref (ad 14)), (1, iV (x1)), (2, iV (x2))] []) → G M 39 [(0, .ref (ad 14)), (1, iV (x1)), (2, iV (x2)), (3, iV (x3))] [] := by
    intro n
    induction n with
    | zero =>
      intro M x1 x2 x3 T22 h
      exact absurd h (by simp [fX6_twoWays_L39])
    | succ n ih =>
      intro M x1 x2 x3 T22 h hJ
      rw [fX6_twoWays_L39] at h
      refine ax_iload_n cx 3 dX6_twoWays_39 rfl rfl ?_
      refine ax_bipush (z := 60) cx dX6_twoWays_40 (by decide) ?_
      obtain ⟨g19, h⟩ := gd_some h
      refine ax_icmp_ge cx 58 dX6_twoWays_42 (by decide) g19 ⟨by decide, by decide⟩ (fun c20 => ?_) (fun c20 => ?_)
      · rw [if_pos c20] at h
        refine ax_lv cx [0, 1, 2] rfl ?_
        cases h
        exact hJ
      · rw [if_neg c20] at h
        refine ax_aload_n cx 0 dX6_twoWays_45 rfl rfl ?_
        refine ax_getf (q := 14) (ci := 6) (k := 13) (v := .ref (ad 9)) cx ⟨by decide, by decide⟩ rfl rfl hi_X6_twoWays_X6 (by decide) hl_X6_twoWays_38 rfl rfl dX6_twoWays_46 ?_
        refine ax_iload_n cx 3 dX6_twoWays_49 rfl rfl ?_
        refine ax_iconst cx dX6_twoWays_50 ?_
        obtain ⟨g21, h⟩ := gd_some h
        refine ax_iast (n := 60) cx (by decide) rfl rfl g21 dX6_twoWays_51 ?_
        refine ax_iinc (lv' := [(3, iV (x3 + 1)), (0, .ref (ad 14)), (1, iV (x1)), (2, iV (x2))]) cx 3 dX6_twoWays_52 rfl (by decide) rfl ?_
        refine ax_goto cx 39 dX6_twoWays_55 (by decide) ?_
        refine ax_lv cx [1, 2, 3, 0] rfl ?_
        exact ih _ _ _ _ _ h hJ
  unfold fX6_twoWays at h
  refine ax_aload_n cx 0 dX6_twoWays_0 rfl rfl ?_
  refine ax_iload_n cx 1 dX6_twoWays_1 rfl rfl ?_
  obtain ⟨t1, e2, h⟩ := ob h
  refine ax_callS (As := [iV (x1)]) (n := 1) cx (kX6_isNode l ad M x1 _ e2) gX6_twoWays_X6_isNode rfl ⟨rfl, rfl⟩ (by decide +kernel) rfl ⟨by decide, by decide⟩ rfl (Nat.le_of_ble_eq_true rfl) dX6_twoWays_2 ?_
  obtain ⟨g3, h⟩ := gd_some h
  obtain ⟨t12, e14, h⟩ := ob h
  have J13 : G M 29 [(0, .ref (ad 14)), (1, iV (x1)), (2, iV (x2))] [iV (t12), .ref (ad 14)] := by
    obtain ⟨t15, e16, h⟩ := ob h
    refine ax_callV (As := [iV (t12)]) (q := 14) (ci := 6) (n := 1) cx (kX6_refused l ad M t12 _ e16) gX6_twoWays_X6_refused rfl ⟨by decide, by decide⟩ rfl rfl ⟨rfl, rfl⟩ (by decide +kernel) rfl ⟨by decide, by decide⟩ rfl (Nat.le_of_ble_eq_true rfl) dX6_twoWays_29 ?_
    obtain ⟨g17, h⟩ := gd_some h
    refine ax_if_eq cx 37 dX6_twoWays_32 (by decide) g17 (fun c18 => ?_) (fun c18 => ?_)
    · rw [if_pos c18] at h
      refine ax_iconst cx dX6_twoWays_37 ?_
      refine ax_istore_n (lv' := [(3, iV (0)), (0, .ref (ad 14)), (1, iV (x1)), (2, iV (x2))]) cx dX6_twoWays_38 rfl (by decide) rfl ?_
      obtain ⟨t23, e24, h⟩ := ob h
      refine ax_lv cx [1, 2, 3, 0] rfl ?_
      have J25 : G t23 58 [(0, .ref (ad 14)), (1, iV (x1)), (2, iV (x2))] [] := by
        refine ax_aload_n cx 0 dX6_twoWays_58 rfl rfl ?_
        refine ax_iload_n cx 1 dX6_twoWays_59 rfl rfl ?_
        refine ax_iload_n cx 2 dX6_twoWays_60 rfl rfl ?_
        obtain ⟨t26, e27, h⟩ := ob h
        refine ax_callV (As := [iV (x1), iV (x2)]) (q := 14) (ci := 6) (n := 2) cx (kX6_oneWay l ad t23 x1 x2 _ e27) gX6_twoWays_X6_oneWay rfl ⟨by decide, by decide⟩ rfl rfl ⟨rfl, rfl⟩ (by decide +kernel) rfl ⟨by decide, by decide⟩ rfl (Nat.le_of_ble_eq_true rfl) dX6_twoWays_61 ?_
        refine ax_istore_n (lv' := [(3, iV (t26.1)), (0, .ref (ad 14)), (1, iV (x1)), (2, iV (x2))]) cx dX6_twoWays_64 rfl (by decide) rfl ?_
        refine ax_iload_n cx 0 dX6_twoWays_65 rfl rfl ?_
        refine ax_aload_n cx 1 dX6_twoWays_66 rfl rfl ?_
        refine ax_iload_n cx 2 dX6_twoWays_67 rfl rfl ?_
        refine ax_iload_n cx 3 dX6_twoWays_68 rfl rfl ?_
        obtain ⟨t28, e29, h⟩ := ob h
        refine ax_callV (As := [iV (x1), iV (x2)]) (q := 14) (ci := 6) (n := 2) cx (kX6_oneWay l ad t26.2 x1 x2 _ e29) gX6_twoWays_X6_oneWay rfl ⟨by decide, by decide⟩ rfl rfl ⟨rfl, rfl⟩ (by decide +kernel) rfl ⟨by decide, by decide⟩ rfl (Nat.le_of_ble_eq_true rfl) dX6_twoWays_69 ?_
        refine ax_iadd cx dX6_twoWays_72 ?_
        cases h
        exact ax_iret cx dX6_twoWays_73 rfl ⟨rfl, rfl⟩
      exact L39 FU t15.2 x1 x2 0 _ e24 J25
    · rw [if_neg c18] at h
      refine ax_iconst cx dX6_twoWays_35 ?_
      cases h
      exact ax_iret cx dX6_twoWays_36 rfl ⟨rfl, rfl⟩
  clear h
  have h := e14
  clear e14
  refine ax_if_eq cx 15 dX6_twoWays_5 (by decide) g3 (fun c4 => ?_) (fun c4 => ?_)
  · rw [if_pos c4] at h
    refine ax_iconst cx dX6_twoWays_15 ?_
    refine ax_goto cx 29 dX6_twoWays_16 (by decide) ?_
    cases h
    exact J13
  · rw [if_neg c4] at h
    refine ax_iload_n cx 2 dX6_twoWays_8 rfl rfl ?_
    obtain ⟨t5, e6, h⟩ := ob h
    refine ax_callS (As := [iV (x2)]) (n := 1) cx (kX6_isNode l ad M x2 _ e6) gX6_twoWays_X6_isNode rfl ⟨rfl, rfl⟩ (by decide +kernel) rfl ⟨by decide, by decide⟩ rfl (Nat.le_of_ble_eq_true rfl) dX6_twoWays_9 ?_
    obtain ⟨g7, h⟩ := gd_some h
    refine ax_if_ne cx 19 dX6_twoWays_12 (by decide) g7 (fun c8 => ?_) (fun c8 => ?_)
    · rw [if_pos c8] at h
      refine ax_iconst cx dX6_twoWays_15 ?_
      refine ax_goto cx 29 dX6_twoWays_16 (by decide) ?_
      cases h
      exact J13
    · rw [if_neg c8] at h
      refine ax_iload_n cx 1 dX6_twoWays_19 rfl rfl ?_
      refine ax_iload_n cx 2 dX6_twoWays_20 rfl rfl ?_
      obtain ⟨g9, h⟩ := gd_some h
      obtain ⟨g10, h⟩ := gd_some h
      refine ax_icmp_ne cx 28 dX6_twoWays_21 (by decide) g9 g10 (fun c11 => ?_) (fun c11 => ?_)
      · rw [if_pos c11] at h
        refine ax_iconst cx dX6_twoWays_24 ?_
        refine ax_goto cx 29 dX6_twoWays_25 (by decide) ?_
        cases h
        exact J13
      · rw [if_neg c11] at h
        refine ax_iconst cx dX6_twoWays_28 ?_
        cases h
        exact J13
def fX6_pin (M : Mem) (x1 : Int) (x2 : Int) : Option (Int × Mem) :=
    Option.bind (fX6_isNode M x1) (fun t1 =>
    gd (inR (t1)) (
    Option.bind (if t1 = 0 then (
      some (1))
    else (
      Option.bind (fX6_in M x2 0 2) (fun t5 =>
      gd (inR (t5)) (
      if t5 = 0 then (
        some (2))
      else (
        some (0)))))) (fun t9 =>
    Option.bind (fX6_refused M t9) (fun t12 =>
    gd (inR (t12.1)) (
    if t12.1 = 0 then (
      gd (inB (x1) 36) (
      gd (inB (x1) 36) (
      some (t12.2 3 x1.toNat, (wr t12.2 3 x1.toNat x2)))))
    else (
      some (0, t12.2)))))))
abbrev rmX6_pin : Room := { frames := 2, cells := 0, slots := 0, locals := 42 }
theorem hl_X6_pin_19 : Cond.fieldLink RX6 19 "PlateauBenchModel" "pins" "[I" ∈ wsX6_pin := by decide +kernel
theorem hi_X6_pin_X6 : ∀ x ∈ u_ws RX6 TX6 19, x ∈ wsX6_pin := by decide +kernel
set_option maxRecDepth 100000 in
set_option maxHeartbeats 4000000 in
theorem kX6_pin (l : Launch) (ad : Nat → Nat) (M : Mem) (x1 : Int) (x2 : Int) (T : Int × Mem) (h : fX6_pin M x1 x2 = some T) : MX l yX6_pin wsX6_pin rmX6_pin wM ad [.ref (ad 14), iV (x1), iV (x2)] M (some (iV (T.1))) T.2 := by
  refine MX.of (cc := cX6_pin) (nL := 4) (rt := (some .int)) (own := RX6) (by decide +kernel) rfl rfl (Nat.le_of_ble_eq_true rfl) wM_ok (fun G cx => ?_)
  show G M 0 [(0, .ref (ad 14)), (1, iV (x1)), (2, iV (x2))] []
  unfold fX6_pin at h
  refine ax_aload_n cx 0 dX6_pin_0 rfl rfl ?_
  refine ax_iload_n cx 1 dX6_pin_1 rfl rfl ?_
  obtain ⟨t1, e2, h⟩ := ob h
  refine ax_callS (As := [iV (x1)]) (n := 1) cx (kX6_isNode l ad M x1 _ e2) gX6_pin_X6_isNode rfl ⟨rfl, rfl⟩ (by decide +kernel) rfl ⟨by decide, by decide⟩ rfl (Nat.le_of_ble_eq_true rfl) dX6_pin_2 ?_
  obtain ⟨g3, h⟩ := gd_some h
  obtain ⟨t9, e11, h⟩ := ob h
  have J10 : G M 26 [(0, .ref (ad 14)), (1, iV (x1)), (2, iV (x2))] [iV (t9), .ref (ad 14)] := by
    obtain ⟨t12, e13, h⟩ := ob h
    refine ax_callV (As := [iV (t9)]) (q := 14) (ci := 6) (n := 1) cx (kX6_refused l ad M t9 _ e13) gX6_pin_X6_refused rfl ⟨by decide, by decide⟩ rfl rfl ⟨rfl, rfl⟩ (by decide +kernel) rfl ⟨by decide, by decide⟩ rfl (Nat.le_of_ble_eq_true rfl) dX6_pin_26 ?_
    obtain ⟨g14, h⟩ := gd_some h
    refine ax_if_eq cx 34 dX6_pin_29 (by decide) g14 (fun c15 => ?_) (fun c15 => ?_)
    · rw [if_pos c15] at h
      refine ax_aload_n cx 0 dX6_pin_34 rfl rfl ?_
      refine ax_getf (q := 14) (ci := 6) (k := 5) (v := .ref (ad 3)) cx ⟨by decide, by decide⟩ rfl rfl hi_X6_pin_X6 (by decide) hl_X6_pin_19 rfl rfl dX6_pin_35 ?_
      refine ax_iload_n cx 1 dX6_pin_38 rfl rfl ?_
      obtain ⟨g16, h⟩ := gd_some h
      refine ax_iald (n := 36) cx (by decide) rfl rfl g16 dX6_pin_39 ?_
      refine ax_istore_n (lv' := [(3, iV (t12.2 3 x1.toNat)), (0, .ref (ad 14)), (1, iV (x1)), (2, iV (x2))]) cx dX6_pin_40 rfl (by decide) rfl ?_
      refine ax_aload_n cx 1 dX6_pin_41 rfl rfl ?_
      refine ax_getf (q := 14) (ci := 6) (k := 5) (v := .ref (ad 3)) cx ⟨by decide, by decide⟩ rfl rfl hi_X6_pin_X6 (by decide) hl_X6_pin_19 rfl rfl dX6_pin_42 ?_
      refine ax_iload_n cx 2 dX6_pin_45 rfl rfl ?_
      refine ax_iload_n cx 3 dX6_pin_46 rfl rfl ?_
      obtain ⟨g17, h⟩ := gd_some h
      refine ax_iast (n := 36) cx (by decide) rfl rfl g17 dX6_pin_47 ?_
      refine ax_iload_n cx 0 dX6_pin_48 rfl rfl ?_
      cases h
      exact ax_iret cx dX6_pin_49 rfl ⟨rfl, rfl⟩
    · rw [if_neg c15] at h
      refine ax_iconst cx dX6_pin_32 ?_
      cases h
      exact ax_iret cx dX6_pin_33 rfl ⟨rfl, rfl⟩
  clear h
  have h := e11
  clear e11
  refine ax_if_ne cx 12 dX6_pin_5 (by decide) g3 (fun c4 => ?_) (fun c4 => ?_)
  · rw [if_pos c4] at h
    refine ax_iconst cx dX6_pin_8 ?_
    refine ax_goto cx 26 dX6_pin_9 (by decide) ?_
    cases h
    exact J10
  · rw [if_neg c4] at h
    refine ax_iload_n cx 2 dX6_pin_12 rfl rfl ?_
    refine ax_iconst cx dX6_pin_13 ?_
    refine ax_iconst cx dX6_pin_14 ?_
    obtain ⟨t5, e6, h⟩ := ob h
    refine ax_callS (As := [iV (x2), iV (0), iV (2)]) (n := 3) cx (kX6_in l ad M x2 0 2 _ e6) gX6_pin_X6_in rfl ⟨rfl, rfl⟩ (by decide +kernel) rfl ⟨by decide, by decide⟩ rfl (Nat.le_of_ble_eq_true rfl) dX6_pin_15 ?_
    obtain ⟨g7, h⟩ := gd_some h
    refine ax_if_eq cx 25 dX6_pin_18 (by decide) g7 (fun c8 => ?_) (fun c8 => ?_)
    · rw [if_pos c8] at h
      refine ax_iconst cx dX6_pin_25 ?_
      cases h
      exact J10
    · rw [if_neg c8] at h
      refine ax_iconst cx dX6_pin_21 ?_
      refine ax_goto cx 26 dX6_pin_22 (by decide) ?_
      cases h
      exact J10
def fX6_rest (M : Mem) (x1 : Int) (x2 : Int) : Option (Int) :=
    gd (inR (x2)) (
    Option.bind (if x2 = 0 then (
      Option.bind (fX6_costOfEdge M x1) (fun t3 =>
      gd (inB (x1) 60) (
      some (t3 + (M 9 x1.toNat)))))
    else (
      Option.bind (fX6_costOfEdge M x1) (fun t6 =>
      gd (inB (x1) 60) (
      some (t6 - (M 9 x1.toNat)))))) (fun t9 =>
    some (t9)))
abbrev rmX6_rest : Room := { frames := 1, cells := 0, slots := 0, locals := 21 }
theorem hl_X6_rest_38 : Cond.fieldLink RX6 38 "PlateauBenchModel" "flow" "[I" ∈ wsX6_rest := by decide +kernel
theorem hi_X6_rest_X6 : ∀ x ∈ u_ws RX6 TX6 19, x ∈ wsX6_rest := by decide +kernel
set_option maxRecDepth 100000 in
set_option maxHeartbeats 4000000 in
theorem kX6_rest (l : Launch) (ad : Nat → Nat) (M : Mem) (x1 : Int) (x2 : Int) (T : Int) (h : fX6_rest M x1 x2 = some T) : MX l yX6_rest wsX6_rest rmX6_rest wM ad [.ref (ad 14), iV (x1), iV (x2)] M (some (iV (T))) M := by
  refine MX.of (cc := cX6_rest) (nL := 3) (rt := (some .int)) (own := RX6) (by decide +kernel) rfl rfl (Nat.le_of_ble_eq_true rfl) wM_ok (fun G cx => ?_)
  show G M 0 [(0, .ref (ad 14)), (1, iV (x1)), (2, iV (x2))] []
  unfold fX6_rest at h
  refine ax_iload_n cx 2 dX6_rest_0 rfl rfl ?_
  obtain ⟨g1, h⟩ := gd_some h
  obtain ⟨t9, e11, h⟩ := ob h
  have J10 : G M 31 [] [iV (t9)] := by
    cases h
    exact ax_iret cx dX6_rest_31 rfl ⟨rfl, rfl⟩
  clear h
  have h := e11
  clear e11
  refine ax_if_eq cx 19 dX6_rest_1 (by decide) g1 (fun c2 => ?_) (fun c2 => ?_)
  · rw [if_pos c2] at h
    refine ax_aload_n cx 0 dX6_rest_19 rfl rfl ?_
    refine ax_iload_n cx 1 dX6_rest_20 rfl rfl ?_
    obtain ⟨t3, e4, h⟩ := ob h
    refine ax_callV (As := [iV (x1)]) (q := 14) (ci := 6) (n := 1) cx (kX6_costOfEdge l ad M x1 _ e4) gX6_rest_X6_costOfEdge rfl ⟨by decide, by decide⟩ rfl rfl ⟨rfl, rfl⟩ (by decide +kernel) rfl ⟨by decide, by decide⟩ rfl (Nat.le_of_ble_eq_true rfl) dX6_rest_21 ?_
    refine ax_aload_n cx 0 dX6_rest_24 rfl rfl ?_
    refine ax_getf (q := 14) (ci := 6) (k := 13) (v := .ref (ad 9)) cx ⟨by decide, by decide⟩ rfl rfl hi_X6_rest_X6 (by decide) hl_X6_rest_38 rfl rfl dX6_rest_25 ?_
    refine ax_iload_n cx 1 dX6_rest_28 rfl rfl ?_
    obtain ⟨g5, h⟩ := gd_some h
    refine ax_iald (n := 60) cx (by decide) rfl rfl g5 dX6_rest_29 ?_
    refine ax_iadd cx dX6_rest_30 ?_
    refine ax_lv cx [] rfl ?_
    cases h
    exact J10
  · rw [if_neg c2] at h
    refine ax_aload_n cx 0 dX6_rest_4 rfl rfl ?_
    refine ax_iload_n cx 1 dX6_rest_5 rfl rfl ?_
    obtain ⟨t6, e7, h⟩ := ob h
    refine ax_callV (As := [iV (x1)]) (q := 14) (ci := 6) (n := 1) cx (kX6_costOfEdge l ad M x1 _ e7) gX6_rest_X6_costOfEdge rfl ⟨by decide, by decide⟩ rfl rfl ⟨rfl, rfl⟩ (by decide +kernel) rfl ⟨by decide, by decide⟩ rfl (Nat.le_of_ble_eq_true rfl) dX6_rest_6 ?_
    refine ax_aload_n cx 0 dX6_rest_9 rfl rfl ?_
    refine ax_getf (q := 14) (ci := 6) (k := 13) (v := .ref (ad 9)) cx ⟨by decide, by decide⟩ rfl rfl hi_X6_rest_X6 (by decide) hl_X6_rest_38 rfl rfl dX6_rest_10 ?_
    refine ax_iload_n cx 1 dX6_rest_13 rfl rfl ?_
    obtain ⟨g8, h⟩ := gd_some h
    refine ax_iald (n := 60) cx (by decide) rfl rfl g8 dX6_rest_14 ?_
    refine ax_isub cx dX6_rest_15 ?_
    refine ax_goto cx 31 dX6_rest_16 (by decide) ?_
    refine ax_lv cx [] rfl ?_
    cases h
    exact J10
def fX6_reach_L2 : Nat → Mem → Int → Int → Int → Option (Mem)
  | 0, _, _, _, _ => none
  | n + 1, M, x1, x2, x3 =>
    gd (inR (x3)) (
    if 36 ≤ x3 then (
      some (M))
    else (
      gd (inB (x3) 36) (
      gd (inR (M 3 x3.toNat)) (
      gd (inR (x1)) (
      Option.bind (if M 3 x3.toNat = x1 then (
        some (1))
      else (
        some (0))) (fun t7 =>
      gd (inB (x3) 36) (
      gd (t7 = 0 ∨ t7 = 1) (
      gd (inB (x3) 36) (
      fX6_reach_L2 n (wr (wr M 11 x3.toNat t7) 10 x3.toNat ((-1))) x1 x2 (x3 + 1))))))))))
def fX6_reach_L53 : Nat → Mem → Int → Int → Int → Option (Int × Mem)
  | 0, _, _, _, _ => none
  | n + 1, M, x2, x3, x4 =>
    gd (inR (x4)) (
    if 120 ≤ x4 then (
      some (x3, M))
    else (
      gd (0 ≤ x4 ∧ x4 < 2147483648) (
      gd (inR (x4 % 2)) (
      Option.bind (if x4 % 2 = 0 then (
        some (1))
      else (
        some (0))) (fun t24 =>
      gd (inR (t24)) (
      Option.bind (if t24 = 0 then (
        gd (0 ≤ x4 ∧ x4 < 2147483648) (
        Option.bind (fX6_second M (x4 / 2)) (fun t30 =>
        some (t30))))
      else (
        gd (0 ≤ x4 ∧ x4 < 2147483648) (
        Option.bind (fX6_first M (x4 / 2)) (fun t33 =>
        some (t33))))) (fun t35 =>
      Option.bind (if t24 = 0 then (
        gd (0 ≤ x4 ∧ x4 < 2147483648) (
        Option.bind (fX6_first M (x4 / 2)) (fun t40 =>
        some (t40))))
      else (
        gd (0 ≤ x4 ∧ x4 < 2147483648) (
        Option.bind (fX6_second M (x4 / 2)) (fun t43 =>
        some (t43))))) (fun t45 =>
      gd (inB (t35) 36) (
      gd (inR (M 11 t35.toNat)) (
      Option.bind (if M 11 t35.toNat = 0 then (
        some (0))
      else (
        gd (inB (t45) 36) (
        gd (inR (M 11 t45.toNat)) (
        if M 11 t45.toNat = 0 then (
          gd (0 ≤ x4 ∧ x4 < 2147483648) (
          gd (inR (x2)) (
          Option.bind (if t24 = x2 then (
            some (1))
          else (
            some (0))) (fun t57 =>
          Option.bind (fX6_rest M (x4 / 2) t57) (fun t60 =>
          gd (inR (t60)) (
          if t60 ≤ 0 then (
            some (0))
          else (
            some (1))))))))
        else (
          some (0)))))) (fun t64 =>
      gd (inR (t64)) (
      Option.bind (if t64 = 0 then (
        some (x3, M))
      else (
        gd (inB (t45) 36) (
        gd (inB (t45) 36) (
        some (1, (wr (wr M 11 t45.toNat 1) 10 t45.toNat x4)))))) (fun t71 =>
      fX6_reach_L53 n t71.2 x2 t71.1 (x4 + 1))))))))))))))
def fX6_reach_L44 : Nat → Mem → Int → Int → Option (Mem)
  | 0, _, _, _ => none
  | n + 1, M, x2, x3 =>
    gd (inR (x3)) (
    if x3 = 0 then (
      some (M))
    else (
      Option.bind (fX6_reach_L53 FU M x2 0 0) (fun t75 =>
      fX6_reach_L44 n t75.2 x2 t75.1)))
def fX6_reach (M : Mem) (x1 : Int) (x2 : Int) : Option (Mem) :=
    Option.bind (fX6_reach_L2 FU M x1 x2 0) (fun t14 =>
    Option.bind (fX6_reach_L44 FU t14 x2 1) (fun t79 =>
    some (t79)))
abbrev rmX6_reach : Room := { frames := 2, cells := 0, slots := 0, locals := 43 }
theorem hl_X6_reach_44 : Cond.fieldLink RX6 44 "PlateauBenchModel" "isReached" "[Z" ∈ wsX6_reach := by decide +kernel
theorem hl_X6_reach_19 : Cond.fieldLink RX6 19 "PlateauBenchModel" "pins" "[I" ∈ wsX6_reach := by decide +kernel
theorem hl_X6_reach_41 : Cond.fieldLink RX6 41 "PlateauBenchModel" "came" "[I" ∈ wsX6_reach := by decide +kernel
theorem hi_X6_reach_X6 : ∀ x ∈ u_ws RX6 TX6 19, x ∈ wsX6_reach := by decide +kernel
set_option maxRecDepth 100000 in
set_option maxHeartbeats 4000000 in
theorem kX6_reach (l : Launch) (ad : Nat → Nat) (M : Mem) (x1 : Int) (x2 : Int) (T : Mem) (h : fX6_reach M x1 x2 = some T) : MX l yX6_reach wsX6_reach rmX6_reach wM ad [.ref (ad 14), iV (x1), iV (x2)] M none T := by
  refine MX.of (cc := cX6_reach) (nL := 9) (rt := none) (own := RX6) (by decide +kernel) rfl rfl (Nat.le_of_ble_eq_true rfl) wM_ok (fun G cx => ?_)
  show G M 0 [(0, .ref (ad 14)), (1, iV (x1)), (2, iV (x2))] []
  have L2 : ∀ (n : Nat) (M : Mem) (x1 : Int) (x2 : Int) (x3 : Int) (T13 : Mem), fX6_reach_L2 n M x1 x2 x3 = some T13 → (G T13 42 [(0, .ref (ad 14)), (2, iV (x2))] []) → G M 2 [(0, .ref (ad 14)), (1, iV (x1)), (2, iV (x2)), (3, iV (x3))] [] := by
    intro n
    induction n with
    | zero =>
      intro M x1 x2 x3 T13 h
      exact absurd h (by simp [fX6_reach_L2])
    | succ n ih =>
      intro M x1 x2 x3 T13 h hJ
      rw [fX6_reach_L2] at h
      refine ax_iload_n cx 3 dX6_reach_2 rfl rfl ?_
      refine ax_bipush (z := 36) cx dX6_reach_3 (by decide) ?_
      obtain ⟨g1, h⟩ := gd_some h
      refine ax_icmp_ge cx 42 dX6_reach_5 (by decide) g1 ⟨by decide, by decide⟩ (fun c2 => ?_) (fun c2 => ?_)
      · rw [if_pos c2] at h
        refine ax_lv cx [0, 2] rfl ?_
        cases h
        exact hJ
      · rw [if_neg c2] at h
        refine ax_aload_n cx 0 dX6_reach_8 rfl rfl ?_
        refine ax_getf (q := 14) (ci := 6) (k := 15) (v := .ref (ad 11)) cx ⟨by decide, by decide⟩ rfl rfl hi_X6_reach_X6 (by decide) hl_X6_reach_44 rfl rfl dX6_reach_9 ?_
        refine ax_iload_n cx 3 dX6_reach_12 rfl rfl ?_
        refine ax_aload_n cx 0 dX6_reach_13 rfl rfl ?_
        refine ax_getf (q := 14) (ci := 6) (k := 5) (v := .ref (ad 3)) cx ⟨by decide, by decide⟩ rfl rfl hi_X6_reach_X6 (by decide) hl_X6_reach_19 rfl rfl dX6_reach_14 ?_
        refine ax_iload_n cx 3 dX6_reach_17 rfl rfl ?_
        obtain ⟨g3, h⟩ := gd_some h
        refine ax_iald (n := 36) cx (by decide) rfl rfl g3 dX6_reach_18 ?_
        refine ax_iload_n cx 1 dX6_reach_19 rfl rfl ?_
        obtain ⟨g4, h⟩ := gd_some h
        obtain ⟨g5, h⟩ := gd_some h
        obtain ⟨t7, e9, h⟩ := ob h
        have J8 : G M 28 [(0, .ref (ad 14)), (1, iV (x1)), (2, iV (x2)), (3, iV (x3))] [iV (t7), iV (x3), .ref (ad 11)] := by
          obtain ⟨g10, h⟩ := gd_some h
          obtain ⟨g11, h⟩ := gd_some h
          refine ax_zast (n := 36) cx (by decide) rfl rfl g10 g11 dX6_reach_28 ?_
          refine ax_aload_n cx 0 dX6_reach_29 rfl rfl ?_
          refine ax_getf (q := 14) (ci := 6) (k := 14) (v := .ref (ad 10)) cx ⟨by decide, by decide⟩ rfl rfl hi_X6_reach_X6 (by decide) hl_X6_reach_41 rfl rfl dX6_reach_30 ?_
          refine ax_iload_n cx 3 dX6_reach_33 rfl rfl ?_
          refine ax_iconst cx dX6_reach_34 ?_
          obtain ⟨g12, h⟩ := gd_some h
          refine ax_iast (n := 36) cx (by decide) rfl rfl g12 dX6_reach_35 ?_
          refine ax_iinc (lv' := [(3, iV (x3 + 1)), (0, .ref (ad 14)), (1, iV (x1)), (2, iV (x2))]) cx 3 dX6_reach_36 rfl (by decide) rfl ?_
          refine ax_goto cx 2 dX6_reach_39 (by decide) ?_
          refine ax_lv cx [1, 2, 3, 0] rfl ?_
          exact ih _ _ _ _ _ h hJ
        clear h
        have h := e9
        clear e9
        refine ax_icmp_ne cx 27 dX6_reach_20 (by decide) g4 g5 (fun c6 => ?_) (fun c6 => ?_)
        · rw [if_pos c6] at h
          refine ax_iconst cx dX6_reach_23 ?_
          refine ax_goto cx 28 dX6_reach_24 (by decide) ?_
          cases h
          exact J8
        · rw [if_neg c6] at h
          refine ax_iconst cx dX6_reach_27 ?_
          cases h
          exact J8
  have L53 : ∀ (n : Nat) (M : Mem) (x2 : Int) (x3 : Int) (x4 : Int) (T74 : Int × Mem), fX6_reach_L53 n M x2 x3 x4 = some T74 → (G T74.2 201 [(0, .ref (ad 14)), (2, iV (x2)), (3, iV (T74.1))] []) → G M 53 [(0, .ref (ad 14)), (2, iV (x2)), (3, iV (x3)), (4, iV (x4))] [] := by
    intro n
    induction n with
    | zero =>
      intro M x2 x3 x4 T74 h
      exact absurd h (by simp [fX6_reach_L53])
    | succ n ih =>
      intro M x2 x3 x4 T74 h hJ
      rw [fX6_reach_L53] at h
      refine ax_iload cx 3 dX6_reach_53 rfl ?_
      refine ax_bipush (z := 120) cx dX6_reach_55 (by decide) ?_
      obtain ⟨g19, h⟩ := gd_some h
      refine ax_icmp_ge cx 201 dX6_reach_57 (by decide) g19 ⟨by decide, by decide⟩ (fun c20 => ?_) (fun c20 => ?_)
      · rw [if_pos c20] at h
        refine ax_lv cx [0, 1, 2] rfl ?_
        cases h
        exact hJ
      · rw [if_neg c20] at h
        refine ax_iload cx 3 dX6_reach_60 rfl ?_
        refine ax_iconst cx dX6_reach_62 ?_
        obtain ⟨g21, h⟩ := gd_some h
        refine ax_irem cx dX6_reach_63 ⟨g21, by decide, by decide⟩ ?_
        obtain ⟨g22, h⟩ := gd_some h
        obtain ⟨t24, e26, h⟩ := ob h
        have J25 : G M 72 [(0, .ref (ad 14)), (2, iV (x2)), (3, iV (x3)), (4, iV (x4))] [iV (t24)] := by
          refine ax_istore (lv' := [(5, iV (t24)), (0, .ref (ad 14)), (2, iV (x2)), (3, iV (x3)), (4, iV (x4))]) cx dX6_reach_72 (by decide) rfl ?_
          refine ax_iload cx 0 dX6_reach_74 rfl ?_
          obtain ⟨g27, h⟩ := gd_some h
          obtain ⟨t35, e37, h⟩ := ob h
          have J36 : G M 96 [(0, .ref (ad 14)), (2, iV (x2)), (3, iV (x3)), (4, iV (x4)), (5, iV (t24))] [iV (t35)] := by
            refine ax_istore (lv' := [(6, iV (t35)), (0, .ref (ad 14)), (2, iV (x2)), (3, iV (x3)), (4, iV (x4)), (5, iV (t24))]) cx dX6_reach_96 (by decide) rfl ?_
            refine ax_iload cx 5 dX6_reach_98 rfl ?_
            obtain ⟨t45, e47, h⟩ := ob h
            have J46 : G M 120 [(0, .ref (ad 14)), (2, iV (x2)), (3, iV (x3)), (4, iV (x4)), (5, iV (t24)), (6, iV (t35))] [iV (t45)] := by
              refine ax_istore (lv' := [(7, iV (t45)), (0, .ref (ad 14)), (2, iV (x2)), (3, iV (x3)), (4, iV (x4)), (5, iV (t24)), (6, iV (t35))]) cx dX6_reach_120 (by decide) rfl ?_
              refine ax_aload_n cx 1 dX6_reach_122 rfl rfl ?_
              refine ax_getf (q := 14) (ci := 6) (k := 15) (v := .ref (ad 11)) cx ⟨by decide, by decide⟩ rfl rfl hi_X6_reach_X6 (by decide) hl_X6_reach_44 rfl rfl dX6_reach_123 ?_
              refine ax_iload cx 6 dX6_reach_126 rfl ?_
              obtain ⟨g48, h⟩ := gd_some h
              refine ax_zald (n := 36) cx (by decide) rfl rfl g48 dX6_reach_128 ?_
              obtain ⟨g49, h⟩ := gd_some h
              obtain ⟨t64, e66, h⟩ := ob h
              have J65 : G M 169 [(0, .ref (ad 14)), (2, iV (x2)), (3, iV (x3)), (4, iV (x4)), (7, iV (t45))] [iV (t64)] := by
                refine ax_istore (lv' := [(8, iV (t64)), (0, .ref (ad 14)), (2, iV (x2)), (3, iV (x3)), (4, iV (x4)), (7, iV (t45))]) cx dX6_reach_169 (by decide) rfl ?_
                refine ax_iload cx 0 dX6_reach_171 rfl ?_
                obtain ⟨g67, h⟩ := gd_some h
                obtain ⟨t71, e73, h⟩ := ob h
                have J72 : G t71.2 195 [(0, .ref (ad 14)), (2, iV (x2)), (3, iV (t71.1)), (4, iV (x4))] [] := by
                  refine ax_iinc (lv' := [(4, iV (x4 + 1)), (0, .ref (ad 14)), (2, iV (x2)), (3, iV (t71.1))]) cx 3 dX6_reach_195 rfl (by decide) rfl ?_
                  refine ax_goto cx 53 dX6_reach_198 (by decide) ?_
                  refine ax_lv cx [1, 2, 3, 0] rfl ?_
                  exact ih _ _ _ _ _ h hJ
                clear h
                have h := e73
                clear e73
                refine ax_if_eq cx 195 dX6_reach_173 (by decide) g67 (fun c68 => ?_) (fun c68 => ?_)
                · rw [if_pos c68] at h
                  refine ax_lv cx [1, 2, 3, 4] rfl ?_
                  cases h
                  exact J72
                · rw [if_neg c68] at h
                  refine ax_aload_n cx 1 dX6_reach_176 rfl rfl ?_
                  refine ax_getf (q := 14) (ci := 6) (k := 15) (v := .ref (ad 11)) cx ⟨by decide, by decide⟩ rfl rfl hi_X6_reach_X6 (by decide) hl_X6_reach_44 rfl rfl dX6_reach_177 ?_
                  refine ax_iload cx 5 dX6_reach_180 rfl ?_
                  refine ax_iconst cx dX6_reach_182 ?_
                  obtain ⟨g69, h⟩ := gd_some h
                  refine ax_zast (n := 36) cx (by decide) rfl rfl g69 (Or.inr rfl) dX6_reach_183 ?_
                  refine ax_aload_n cx 1 dX6_reach_184 rfl rfl ?_
                  refine ax_getf (q := 14) (ci := 6) (k := 14) (v := .ref (ad 10)) cx ⟨by decide, by decide⟩ rfl rfl hi_X6_reach_X6 (by decide) hl_X6_reach_41 rfl rfl dX6_reach_185 ?_
                  refine ax_iload cx 5 dX6_reach_188 rfl ?_
                  refine ax_iload cx 4 dX6_reach_190 rfl ?_
                  obtain ⟨g70, h⟩ := gd_some h
                  refine ax_iast (n := 36) cx (by decide) rfl rfl g70 dX6_reach_192 ?_
                  refine ax_iconst cx dX6_reach_193 ?_
                  refine ax_istore_n (lv' := [(3, iV (1)), (8, iV (t64)), (0, .ref (ad 14)), (2, iV (x2)), (4, iV (x4)), (7, iV (t45))]) cx dX6_reach_194 rfl (by decide) rfl ?_
                  refine ax_lv cx [2, 3, 0, 4] rfl ?_
                  cases h
                  exact J72
              clear h
              have h := e66
              clear e66
              refine ax_if_eq cx 168 dX6_reach_129 (by decide) g49 (fun c50 => ?_) (fun c50 => ?_)
              · rw [if_pos c50] at h
                refine ax_iconst cx dX6_reach_168 ?_
                refine ax_lv cx [1, 2, 3, 4, 0] rfl ?_
                cases h
                exact J65
              · rw [if_neg c50] at h
                refine ax_aload_n cx 1 dX6_reach_132 rfl rfl ?_
                refine ax_getf (q := 14) (ci := 6) (k := 15) (v := .ref (ad 11)) cx ⟨by decide, by decide⟩ rfl rfl hi_X6_reach_X6 (by decide) hl_X6_reach_44 rfl rfl dX6_reach_133 ?_
                refine ax_iload cx 0 dX6_reach_136 rfl ?_
                obtain ⟨g51, h⟩ := gd_some h
                refine ax_zald (n := 36) cx (by decide) rfl rfl g51 dX6_reach_138 ?_
                obtain ⟨g52, h⟩ := gd_some h
                refine ax_if_ne cx 168 dX6_reach_139 (by decide) g52 (fun c53 => ?_) (fun c53 => ?_)
                · rw [if_pos c53] at h
                  refine ax_aload_n cx 1 dX6_reach_142 rfl rfl ?_
                  refine ax_iload cx 4 dX6_reach_143 rfl ?_
                  refine ax_iconst cx dX6_reach_145 ?_
                  obtain ⟨g54, h⟩ := gd_some h
                  refine ax_idiv cx dX6_reach_146 ⟨g54, by decide, by decide⟩ ?_
                  refine ax_iload cx 5 dX6_reach_147 rfl ?_
                  refine ax_iload_n cx 2 dX6_reach_149 rfl rfl ?_
                  obtain ⟨g55, h⟩ := gd_some h
                  obtain ⟨t57, e59, h⟩ := ob h
                  have J58 : G M 158 [(0, .ref (ad 14)), (2, iV (x2)), (3, iV (x3)), (4, iV (x4)), (7, iV (t45))] [iV (t57), iV (x4 / 2), .ref (ad 14)] := by
                    obtain ⟨t60, e61, h⟩ := ob h
                    refine ax_callV (As := [iV (x4 / 2), iV (t57)]) (q := 14) (ci := 6) (n := 2) cx (kX6_rest l ad M (x4 / 2) t57 _ e61) gX6_reach_X6_rest rfl ⟨by decide, by decide⟩ rfl rfl ⟨rfl, rfl⟩ (by decide +kernel) rfl ⟨by decide, by decide⟩ rfl (Nat.le_of_ble_eq_true rfl) dX6_reach_158 ?_
                    obtain ⟨g62, h⟩ := gd_some h
                    refine ax_if_le cx 168 dX6_reach_161 (by decide) g62 (fun c63 => ?_) (fun c63 => ?_)
                    · rw [if_pos c63] at h
                      refine ax_iconst cx dX6_reach_168 ?_
                      cases h
                      exact J65
                    · rw [if_neg c63] at h
                      refine ax_iconst cx dX6_reach_164 ?_
                      refine ax_goto cx 169 dX6_reach_165 (by decide) ?_
                      cases h
                      exact J65
                  clear h
                  have h := e59
                  clear e59
                  refine ax_icmp_ne cx 157 dX6_reach_150 (by decide) g27 g55 (fun c56 => ?_) (fun c56 => ?_)
                  · rw [if_pos c56] at h
                    refine ax_iconst cx dX6_reach_153 ?_
                    refine ax_goto cx 158 dX6_reach_154 (by decide) ?_
                    refine ax_lv cx [1, 2, 3, 4, 0] rfl ?_
                    cases h
                    exact J58
                  · rw [if_neg c56] at h
                    refine ax_iconst cx dX6_reach_157 ?_
                    refine ax_lv cx [1, 2, 3, 4, 0] rfl ?_
                    cases h
                    exact J58
                · rw [if_neg c53] at h
                  refine ax_iconst cx dX6_reach_168 ?_
                  refine ax_lv cx [1, 2, 3, 4, 0] rfl ?_
                  cases h
                  exact J65
            clear h
            have h := e47
            clear e47
            refine ax_if_eq cx 113 dX6_reach_100 (by decide) g27 (fun c38 => ?_) (fun c38 => ?_)
            · rw [if_pos c38] at h
              refine ax_iload cx 4 dX6_reach_113 rfl ?_
              refine ax_iconst cx dX6_reach_115 ?_
              obtain ⟨g39, h⟩ := gd_some h
              refine ax_idiv cx dX6_reach_116 ⟨g39, by decide, by decide⟩ ?_
              obtain ⟨t40, e41, h⟩ := ob h
              refine ax_callS (As := [iV (x4 / 2)]) (n := 1) cx (kX6_first l ad M (x4 / 2) _ e41) gX6_reach_X6_first rfl ⟨rfl, rfl⟩ (by decide +kernel) rfl ⟨by decide, by decide⟩ rfl (Nat.le_of_ble_eq_true rfl) dX6_reach_117 ?_
              refine ax_lv cx [1, 2, 3, 4, 5, 0] rfl ?_
              cases h
              exact J46
            · rw [if_neg c38] at h
              refine ax_iload cx 4 dX6_reach_103 rfl ?_
              refine ax_iconst cx dX6_reach_105 ?_
              obtain ⟨g42, h⟩ := gd_some h
              refine ax_idiv cx dX6_reach_106 ⟨g42, by decide, by decide⟩ ?_
              obtain ⟨t43, e44, h⟩ := ob h
              refine ax_callS (As := [iV (x4 / 2)]) (n := 1) cx (kX6_second l ad M (x4 / 2) _ e44) gX6_reach_X6_second rfl ⟨rfl, rfl⟩ (by decide +kernel) rfl ⟨by decide, by decide⟩ rfl (Nat.le_of_ble_eq_true rfl) dX6_reach_107 ?_
              refine ax_goto cx 120 dX6_reach_110 (by decide) ?_
              refine ax_lv cx [1, 2, 3, 4, 5, 0] rfl ?_
              cases h
              exact J46
          clear h
          have h := e37
          clear e37
          refine ax_if_eq cx 89 dX6_reach_76 (by decide) g27 (fun c28 => ?_) (fun c28 => ?_)
          · rw [if_pos c28] at h
            refine ax_iload cx 4 dX6_reach_89 rfl ?_
            refine ax_iconst cx dX6_reach_91 ?_
            obtain ⟨g29, h⟩ := gd_some h
            refine ax_idiv cx dX6_reach_92 ⟨g29, by decide, by decide⟩ ?_
            obtain ⟨t30, e31, h⟩ := ob h
            refine ax_callS (As := [iV (x4 / 2)]) (n := 1) cx (kX6_second l ad M (x4 / 2) _ e31) gX6_reach_X6_second rfl ⟨rfl, rfl⟩ (by decide +kernel) rfl ⟨by decide, by decide⟩ rfl (Nat.le_of_ble_eq_true rfl) dX6_reach_93 ?_
            refine ax_lv cx [1, 2, 3, 4, 0] rfl ?_
            cases h
            exact J36
          · rw [if_neg c28] at h
            refine ax_iload cx 4 dX6_reach_79 rfl ?_
            refine ax_iconst cx dX6_reach_81 ?_
            obtain ⟨g32, h⟩ := gd_some h
            refine ax_idiv cx dX6_reach_82 ⟨g32, by decide, by decide⟩ ?_
            obtain ⟨t33, e34, h⟩ := ob h
            refine ax_callS (As := [iV (x4 / 2)]) (n := 1) cx (kX6_first l ad M (x4 / 2) _ e34) gX6_reach_X6_first rfl ⟨rfl, rfl⟩ (by decide +kernel) rfl ⟨by decide, by decide⟩ rfl (Nat.le_of_ble_eq_true rfl) dX6_reach_83 ?_
            refine ax_goto cx 96 dX6_reach_86 (by decide) ?_
            refine ax_lv cx [1, 2, 3, 4, 0] rfl ?_
            cases h
            exact J36
        clear h
        have h := e26
        clear e26
        refine ax_if_ne cx 71 dX6_reach_64 (by decide) g22 (fun c23 => ?_) (fun c23 => ?_)
        · rw [if_pos c23] at h
          refine ax_iconst cx dX6_reach_67 ?_
          refine ax_goto cx 72 dX6_reach_68 (by decide) ?_
          cases h
          exact J25
        · rw [if_neg c23] at h
          refine ax_iconst cx dX6_reach_71 ?_
          cases h
          exact J25
  have L44 : ∀ (n : Nat) (M : Mem) (x2 : Int) (x3 : Int) (T78 : Mem), fX6_reach_L44 n M x2 x3 = some T78 → (G T78 204 [] []) → G M 44 [(0, .ref (ad 14)), (2, iV (x2)), (3, iV (x3))] [] := by
    intro n
    induction n with
    | zero =>
      intro M x2 x3 T78 h
      exact absurd h (by simp [fX6_reach_L44])
    | succ n ih =>
      intro M x2 x3 T78 h hJ
      rw [fX6_reach_L44] at h
      refine ax_iload_n cx 2 dX6_reach_44 rfl rfl ?_
      obtain ⟨g17, h⟩ := gd_some h
      refine ax_if_eq cx 204 dX6_reach_45 (by decide) g17 (fun c18 => ?_) (fun c18 => ?_)
      · rw [if_pos c18] at h
        refine ax_lv cx [] rfl ?_
        cases h
        exact hJ
      · rw [if_neg c18] at h
        refine ax_iconst cx dX6_reach_48 ?_
        refine ax_istore_n (lv' := [(3, iV (0)), (0, .ref (ad 14)), (2, iV (x2))]) cx dX6_reach_49 rfl (by decide) rfl ?_
        refine ax_iconst cx dX6_reach_50 ?_
        refine ax_istore (lv' := [(4, iV (0)), (3, iV (0)), (0, .ref (ad 14)), (2, iV (x2))]) cx dX6_reach_51 (by decide) rfl ?_
        obtain ⟨t75, e76, h⟩ := ob h
        refine ax_lv cx [2, 3, 1, 0] rfl ?_
        have J77 : G t75.2 201 [(0, .ref (ad 14)), (2, iV (x2)), (3, iV (t75.1))] [] := by
          refine ax_goto cx 44 dX6_reach_201 (by decide) ?_
          exact ih _ _ _ _ h hJ
        exact L53 FU M x2 0 0 _ e76 J77
  unfold fX6_reach at h
  refine ax_iconst cx dX6_reach_0 ?_
  refine ax_istore_n (lv' := [(3, iV (0)), (0, .ref (ad 14)), (1, iV (x1)), (2, iV (x2))]) cx dX6_reach_1 rfl (by decide) rfl ?_
  obtain ⟨t14, e15, h⟩ := ob h
  refine ax_lv cx [1, 2, 3, 0] rfl ?_
  have J16 : G t14 42 [(0, .ref (ad 14)), (2, iV (x2))] [] := by
    refine ax_iconst cx dX6_reach_42 ?_
    refine ax_istore_n (lv' := [(3, iV (1)), (0, .ref (ad 14)), (2, iV (x2))]) cx dX6_reach_43 rfl (by decide) rfl ?_
    obtain ⟨t79, e80, h⟩ := ob h
    refine ax_lv cx [1, 2, 0] rfl ?_
    have J81 : G t79 204 [] [] := by
      cases h
      exact ax_vret cx dX6_reach_204 rfl ⟨rfl, rfl⟩
    exact L44 FU t14 x2 1 _ e80 J81
  exact L2 FU M x1 x2 0 _ e15 J16
def fX6_reachedOutside_L4 : Nat → Mem → Int → Int → Option (Int)
  | 0, _, _, _ => none
  | n + 1, M, x1, x2 =>
    gd (inR (x2)) (
    if 36 ≤ x2 then (
      some (x1))
    else (
      gd (inB (x2) 36) (
      gd (inR (M 11 x2.toNat)) (
      Option.bind (if M 11 x2.toNat = 0 then (
        some (x1))
      else (
        gd (inB (x2) 36) (
        gd (inR (M 3 x2.toNat)) (
        if M 3 x2.toNat = 2 then (
          some (x2))
        else (
          some (x1)))))) (fun t9 =>
      fX6_reachedOutside_L4 n M t9 (x2 + 1))))))
def fX6_reachedOutside (M : Mem)  : Option (Int) :=
    Option.bind (fX6_reachedOutside_L4 FU M ((-1)) 0) (fun t13 =>
    some (t13))
abbrev rmX6_reachedOutside : Room := { frames := 0, cells := 0, slots := 0, locals := 0 }
theorem hl_X6_reachedOutside_44 : Cond.fieldLink RX6 44 "PlateauBenchModel" "isReached" "[Z" ∈ wsX6_reachedOutside := by decide +kernel
theorem hl_X6_reachedOutside_19 : Cond.fieldLink RX6 19 "PlateauBenchModel" "pins" "[I" ∈ wsX6_reachedOutside := by decide +kernel
theorem hi_X6_reachedOutside_X6 : ∀ x ∈ u_ws RX6 TX6 19, x ∈ wsX6_reachedOutside := by decide +kernel
set_option maxRecDepth 100000 in
set_option maxHeartbeats 4000000 in
theorem kX6_reachedOutside (l : Launch) (ad : Nat → Nat) (M : Mem)  (T : Int) (h : fX6_reachedOutside M  = some T) : MX l yX6_reachedOutside wsX6_reachedOutside rmX6_reachedOutside wM ad [.ref (ad 14)] M (some (iV (T))) M := by
  refine MX.of (cc := cX6_reachedOutside) (nL := 3) (rt := (some .int)) (own := RX6) (by decide +kernel) rfl rfl (Nat.le_of_ble_eq_true rfl) wM_ok (fun G cx => ?_)
  show G M 0 [(0, .ref (ad 14))] []
  have L4 : ∀ (n : Nat) (x1 : Int) (x2 : Int) (T12 : Int), fX6_reachedOutside_L4 n M x1 x2 = some T12 → (G M 41 [(1, iV (T12))] []) → G M 4 [(0, .ref (ad 14)), (1, iV (x1)), (2, iV (x2))] [] := by
    intro n
    induction n with
    | zero =>
      intro x1 x2 T12 h
      exact absurd h (by simp [fX6_reachedOutside_L4])
    | succ n ih =>
      intro x1 x2 T12 h hJ
      rw [fX6_reachedOutside_L4] at h
      refine ax_iload_n cx 2 dX6_reachedOutside_4 rfl rfl ?_
      refine ax_bipush (z := 36) cx dX6_reachedOutside_5 (by decide) ?_
      obtain ⟨g1, h⟩ := gd_some h
      refine ax_icmp_ge cx 41 dX6_reachedOutside_7 (by decide) g1 ⟨by decide, by decide⟩ (fun c2 => ?_) (fun c2 => ?_)
      · rw [if_pos c2] at h
        refine ax_lv cx [1] rfl ?_
        cases h
        exact hJ
      · rw [if_neg c2] at h
        refine ax_aload_n cx 0 dX6_reachedOutside_10 rfl rfl ?_
        refine ax_getf (q := 14) (ci := 6) (k := 15) (v := .ref (ad 11)) cx ⟨by decide, by decide⟩ rfl rfl hi_X6_reachedOutside_X6 (by decide) hl_X6_reachedOutside_44 rfl rfl dX6_reachedOutside_11 ?_
        refine ax_iload_n cx 2 dX6_reachedOutside_14 rfl rfl ?_
        obtain ⟨g3, h⟩ := gd_some h
        refine ax_zald (n := 36) cx (by decide) rfl rfl g3 dX6_reachedOutside_15 ?_
        obtain ⟨g4, h⟩ := gd_some h
        obtain ⟨t9, e11, h⟩ := ob h
        have J10 : G M 34 [(0, .ref (ad 14)), (2, iV (x2))] [iV (t9)] := by
          refine ax_istore_n (lv' := [(1, iV (t9)), (0, .ref (ad 14)), (2, iV (x2))]) cx dX6_reachedOutside_34 rfl (by decide) rfl ?_
          refine ax_iinc (lv' := [(2, iV (x2 + 1)), (1, iV (t9)), (0, .ref (ad 14))]) cx 2 dX6_reachedOutside_35 rfl (by decide) rfl ?_
          refine ax_goto cx 4 dX6_reachedOutside_38 (by decide) ?_
          refine ax_lv cx [2, 1, 0] rfl ?_
          exact ih _ _ _ h hJ
        clear h
        have h := e11
        clear e11
        refine ax_if_eq cx 33 dX6_reachedOutside_16 (by decide) g4 (fun c5 => ?_) (fun c5 => ?_)
        · rw [if_pos c5] at h
          refine ax_iload_n cx 1 dX6_reachedOutside_33 rfl rfl ?_
          refine ax_lv cx [0, 2] rfl ?_
          cases h
          exact J10
        · rw [if_neg c5] at h
          refine ax_aload_n cx 0 dX6_reachedOutside_19 rfl rfl ?_
          refine ax_getf (q := 14) (ci := 6) (k := 5) (v := .ref (ad 3)) cx ⟨by decide, by decide⟩ rfl rfl hi_X6_reachedOutside_X6 (by decide) hl_X6_reachedOutside_19 rfl rfl dX6_reachedOutside_20 ?_
          refine ax_iload_n cx 2 dX6_reachedOutside_23 rfl rfl ?_
          obtain ⟨g6, h⟩ := gd_some h
          refine ax_iald (n := 36) cx (by decide) rfl rfl g6 dX6_reachedOutside_24 ?_
          refine ax_iconst cx dX6_reachedOutside_25 ?_
          obtain ⟨g7, h⟩ := gd_some h
          refine ax_icmp_ne cx 33 dX6_reachedOutside_26 (by decide) g7 ⟨by decide, by decide⟩ (fun c8 => ?_) (fun c8 => ?_)
          · rw [if_pos c8] at h
            refine ax_iload_n cx 2 dX6_reachedOutside_29 rfl rfl ?_
            refine ax_goto cx 34 dX6_reachedOutside_30 (by decide) ?_
            refine ax_lv cx [0, 2] rfl ?_
            cases h
            exact J10
          · rw [if_neg c8] at h
            refine ax_iload_n cx 1 dX6_reachedOutside_33 rfl rfl ?_
            refine ax_lv cx [0, 2] rfl ?_
            cases h
            exact J10
  unfold fX6_reachedOutside at h
  refine ax_iconst cx dX6_reachedOutside_0 ?_
  refine ax_istore_n (lv' := [(1, iV ((-1))), (0, .ref (ad 14))]) cx dX6_reachedOutside_1 rfl (by decide) rfl ?_
  refine ax_iconst cx dX6_reachedOutside_2 ?_
  refine ax_istore_n (lv' := [(2, iV (0)), (1, iV ((-1))), (0, .ref (ad 14))]) cx dX6_reachedOutside_3 rfl (by decide) rfl ?_
  obtain ⟨t13, e14, h⟩ := ob h
  refine ax_lv cx [2, 1, 0] rfl ?_
  have J15 : G M 41 [(1, iV (t13))] [] := by
    refine ax_iload_n cx 0 dX6_reachedOutside_41 rfl rfl ?_
    cases h
    exact ax_iret cx dX6_reachedOutside_42 rfl ⟨rfl, rfl⟩
  exact L4 FU ((-1)) 0 _ e14 J15
def fX6_push_L2 : Nat → Mem → Int → Option (Mem)
  | 0, _, _ => none
  | n + 1, M, x2 =>
    gd (inB (x2) 36) (
    gd (inR (M 10 x2.toNat)) (
    if M 10 x2.toNat = (-1) then (
      some (M))
    else (
      gd (inB (x2) 36) (
      gd (0 ≤ M 10 x2.toNat ∧ M 10 x2.toNat < 2147483648) (
      gd (inB ((M 10 x2.toNat) / 2) 60) (
      gd (0 ≤ M 10 x2.toNat ∧ M 10 x2.toNat < 2147483648) (
      gd (inR ((M 10 x2.toNat) % 2)) (
      Option.bind (if (M 10 x2.toNat) % 2 = 0 then (
        some (1))
      else (
        some ((-1)))) (fun t10 =>
      gd (inB ((M 10 x2.toNat) / 2) 60) (
      gd (0 ≤ M 10 x2.toNat ∧ M 10 x2.toNat < 2147483648) (
      Option.bind (if (M 10 x2.toNat) % 2 = 0 then (
        gd (0 ≤ M 10 x2.toNat ∧ M 10 x2.toNat < 2147483648) (
        Option.bind (fX6_first (wr M 9 ((M 10 x2.toNat) / 2).toNat ((M 9 ((M 10 x2.toNat) / 2).toNat) + t10)) ((M 10 x2.toNat) / 2)) (fun t17 =>
        some (t17))))
      else (
        gd (0 ≤ M 10 x2.toNat ∧ M 10 x2.toNat < 2147483648) (
        Option.bind (fX6_second (wr M 9 ((M 10 x2.toNat) / 2).toNat ((M 9 ((M 10 x2.toNat) / 2).toNat) + t10)) ((M 10 x2.toNat) / 2)) (fun t20 =>
        some (t20))))) (fun t22 =>
      fX6_push_L2 n (wr M 9 ((M 10 x2.toNat) / 2).toNat ((M 9 ((M 10 x2.toNat) / 2).toNat) + t10)) t22))))))))))))
def fX6_push (M : Mem) (x1 : Int) : Option (Mem) :=
    Option.bind (fX6_push_L2 FU M x1) (fun t26 =>
    some (t26))
abbrev rmX6_push : Room := { frames := 2, cells := 0, slots := 0, locals := 40 }
theorem hl_X6_push_41 : Cond.fieldLink RX6 41 "PlateauBenchModel" "came" "[I" ∈ wsX6_push := by decide +kernel
theorem hl_X6_push_38 : Cond.fieldLink RX6 38 "PlateauBenchModel" "flow" "[I" ∈ wsX6_push := by decide +kernel
theorem hi_X6_push_X6 : ∀ x ∈ u_ws RX6 TX6 19, x ∈ wsX6_push := by decide +kernel
set_option maxRecDepth 100000 in
set_option maxHeartbeats 4000000 in
theorem kX6_push (l : Launch) (ad : Nat → Nat) (M : Mem) (x1 : Int) (T : Mem) (h : fX6_push M x1 = some T) : MX l yX6_push wsX6_push rmX6_push wM ad [.ref (ad 14), iV (x1)] M none T := by
  refine MX.of (cc := cX6_push) (nL := 4) (rt := none) (own := RX6) (by decide +kernel) rfl rfl (Nat.le_of_ble_eq_true rfl) wM_ok (fun G cx => ?_)
  show G M 0 [(0, .ref (ad 14)), (1, iV (x1))] []
  have L2 : ∀ (n : Nat) (M : Mem) (x2 : Int) (T25 : Mem), fX6_push_L2 n M x2 = some T25 → (G T25 66 [] []) → G M 2 [(0, .ref (ad 14)), (2, iV (x2))] [] := by
    intro n
    induction n with
    | zero =>
      intro M x2 T25 h
      exact absurd h (by simp [fX6_push_L2])
    | succ n ih =>
      intro M x2 T25 h hJ
      rw [fX6_push_L2] at h
      refine ax_aload_n cx 0 dX6_push_2 rfl rfl ?_
      refine ax_getf (q := 14) (ci := 6) (k := 14) (v := .ref (ad 10)) cx ⟨by decide, by decide⟩ rfl rfl hi_X6_push_X6 (by decide) hl_X6_push_41 rfl rfl dX6_push_3 ?_
      refine ax_iload_n cx 1 dX6_push_6 rfl rfl ?_
      obtain ⟨g1, h⟩ := gd_some h
      refine ax_iald (n := 36) cx (by decide) rfl rfl g1 dX6_push_7 ?_
      refine ax_iconst cx dX6_push_8 ?_
      obtain ⟨g2, h⟩ := gd_some h
      refine ax_icmp_eq cx 66 dX6_push_9 (by decide) g2 ⟨by decide, by decide⟩ (fun c3 => ?_) (fun c3 => ?_)
      · rw [if_pos c3] at h
        refine ax_lv cx [] rfl ?_
        cases h
        exact hJ
      · rw [if_neg c3] at h
        refine ax_aload_n cx 0 dX6_push_12 rfl rfl ?_
        refine ax_getf (q := 14) (ci := 6) (k := 14) (v := .ref (ad 10)) cx ⟨by decide, by decide⟩ rfl rfl hi_X6_push_X6 (by decide) hl_X6_push_41 rfl rfl dX6_push_13 ?_
        refine ax_iload_n cx 1 dX6_push_16 rfl rfl ?_
        obtain ⟨g4, h⟩ := gd_some h
        refine ax_iald (n := 36) cx (by decide) rfl rfl g4 dX6_push_17 ?_
        refine ax_istore_n (lv' := [(3, iV (M 10 x2.toNat)), (0, .ref (ad 14)), (2, iV (x2))]) cx dX6_push_18 rfl (by decide) rfl ?_
        refine ax_aload_n cx 1 dX6_push_19 rfl rfl ?_
        refine ax_getf (q := 14) (ci := 6) (k := 13) (v := .ref (ad 9)) cx ⟨by decide, by decide⟩ rfl rfl hi_X6_push_X6 (by decide) hl_X6_push_38 rfl rfl dX6_push_20 ?_
        refine ax_iload_n cx 0 dX6_push_23 rfl rfl ?_
        refine ax_iconst cx dX6_push_24 ?_
        obtain ⟨g5, h⟩ := gd_some h
        refine ax_idiv cx dX6_push_25 ⟨g5, by decide, by decide⟩ ?_
        refine ax_dup2 cx dX6_push_26 rfl rfl ?_
        obtain ⟨g6, h⟩ := gd_some h
        refine ax_iald (n := 60) cx (by decide) rfl rfl g6 dX6_push_27 ?_
        refine ax_iload_n cx 0 dX6_push_28 rfl rfl ?_
        refine ax_iconst cx dX6_push_29 ?_
        obtain ⟨g7, h⟩ := gd_some h
        refine ax_irem cx dX6_push_30 ⟨g7, by decide, by decide⟩ ?_
        obtain ⟨g8, h⟩ := gd_some h
        obtain ⟨t10, e12, h⟩ := ob h
        have J11 : G M 39 [(0, .ref (ad 14)), (3, iV (M 10 x2.toNat))] [iV (t10), iV (M 9 ((M 10 x2.toNat) / 2).toNat), iV ((M 10 x2.toNat) / 2), .ref (ad 9)] := by
          refine ax_iadd cx dX6_push_39 ?_
          obtain ⟨g13, h⟩ := gd_some h
          refine ax_iast (n := 60) cx (by decide) rfl rfl g13 dX6_push_40 ?_
          refine ax_iload_n cx 1 dX6_push_41 rfl rfl ?_
          refine ax_iconst cx dX6_push_42 ?_
          obtain ⟨g14, h⟩ := gd_some h
          refine ax_irem cx dX6_push_43 ⟨g14, by decide, by decide⟩ ?_
          obtain ⟨t22, e24, h⟩ := ob h
          have J23 : G (wr M 9 ((M 10 x2.toNat) / 2).toNat ((M 9 ((M 10 x2.toNat) / 2).toNat) + t10)) 62 [(0, .ref (ad 14))] [iV (t22)] := by
            refine ax_istore_n (lv' := [(2, iV (t22)), (0, .ref (ad 14))]) cx dX6_push_62 rfl (by decide) rfl ?_
            refine ax_goto cx 2 dX6_push_63 (by decide) ?_
            refine ax_lv cx [1, 0] rfl ?_
            exact ih _ _ _ h hJ
          clear h
          have h := e24
          clear e24
          refine ax_if_ne cx 56 dX6_push_44 (by decide) g8 (fun c15 => ?_) (fun c15 => ?_)
          · rw [if_pos c15] at h
            refine ax_iload_n cx 1 dX6_push_47 rfl rfl ?_
            refine ax_iconst cx dX6_push_48 ?_
            obtain ⟨g16, h⟩ := gd_some h
            refine ax_idiv cx dX6_push_49 ⟨g16, by decide, by decide⟩ ?_
            obtain ⟨t17, e18, h⟩ := ob h
            refine ax_callS (As := [iV ((M 10 x2.toNat) / 2)]) (n := 1) cx (kX6_first l ad (wr M 9 ((M 10 x2.toNat) / 2).toNat ((M 9 ((M 10 x2.toNat) / 2).toNat) + t10)) ((M 10 x2.toNat) / 2) _ e18) gX6_push_X6_first rfl ⟨rfl, rfl⟩ (by decide +kernel) rfl ⟨by decide, by decide⟩ rfl (Nat.le_of_ble_eq_true rfl) dX6_push_50 ?_
            refine ax_goto cx 62 dX6_push_53 (by decide) ?_
            refine ax_lv cx [0] rfl ?_
            cases h
            exact J23
          · rw [if_neg c15] at h
            refine ax_iload_n cx 1 dX6_push_56 rfl rfl ?_
            refine ax_iconst cx dX6_push_57 ?_
            obtain ⟨g19, h⟩ := gd_some h
            refine ax_idiv cx dX6_push_58 ⟨g19, by decide, by decide⟩ ?_
            obtain ⟨t20, e21, h⟩ := ob h
            refine ax_callS (As := [iV ((M 10 x2.toNat) / 2)]) (n := 1) cx (kX6_second l ad (wr M 9 ((M 10 x2.toNat) / 2).toNat ((M 9 ((M 10 x2.toNat) / 2).toNat) + t10)) ((M 10 x2.toNat) / 2) _ e21) gX6_push_X6_second rfl ⟨rfl, rfl⟩ (by decide +kernel) rfl ⟨by decide, by decide⟩ rfl (Nat.le_of_ble_eq_true rfl) dX6_push_59 ?_
            refine ax_lv cx [0] rfl ?_
            cases h
            exact J23
        clear h
        have h := e12
        clear e12
        refine ax_if_ne cx 38 dX6_push_31 (by decide) g8 (fun c9 => ?_) (fun c9 => ?_)
        · rw [if_pos c9] at h
          refine ax_iconst cx dX6_push_34 ?_
          refine ax_goto cx 39 dX6_push_35 (by decide) ?_
          refine ax_lv cx [1, 0] rfl ?_
          cases h
          exact J11
        · rw [if_neg c9] at h
          refine ax_iconst cx dX6_push_38 ?_
          refine ax_lv cx [1, 0] rfl ?_
          cases h
          exact J11
  unfold fX6_push at h
  refine ax_iload_n cx 1 dX6_push_0 rfl rfl ?_
  refine ax_istore_n (lv' := [(2, iV (x1)), (0, .ref (ad 14)), (1, iV (x1))]) cx dX6_push_1 rfl (by decide) rfl ?_
  obtain ⟨t26, e27, h⟩ := ob h
  refine ax_lv cx [1, 0] rfl ?_
  have J28 : G t26 66 [] [] := by
    cases h
    exact ax_vret cx dX6_push_66 rfl ⟨rfl, rfl⟩
  exact L2 FU M x1 _ e27 J28
def fX6_greatestFlow_L2 : Nat → Mem → Int → Option (Mem)
  | 0, _, _ => none
  | n + 1, M, x1 =>
    gd (inR (x1)) (
    if 60 ≤ x1 then (
      some (M))
    else (
      gd (inB (x1) 60) (
      fX6_greatestFlow_L2 n (wr M 9 x1.toNat 0) (x1 + 1))))
def fX6_greatestFlow_L34 : Nat → Mem → Int → Int → Option (Int × Mem)
  | 0, _, _, _ => none
  | n + 1, M, x1, x2 =>
    gd (inR (x2)) (
    if x2 = (-1) then (
      some (x1, M))
    else (
      Option.bind (fX6_push M x2) (fun t14 =>
      Option.bind (fX6_reach t14 1 1) (fun t16 =>
      Option.bind (fX6_reachedOutside t16) (fun t18 =>
      fX6_greatestFlow_L34 n t16 (x1 + 1) t18)))))
def fX6_greatestFlow (M : Mem)  : Option (Int × Mem) :=
    Option.bind (fX6_greatestFlow_L2 FU M 0) (fun t5 =>
    Option.bind (fX6_reach t5 1 1) (fun t8 =>
    Option.bind (fX6_reachedOutside t8) (fun t10 =>
    Option.bind (fX6_greatestFlow_L34 FU t8 0 t10) (fun t21 =>
    some (t21.1, t21.2)))))
abbrev rmX6_greatestFlow : Room := { frames := 3, cells := 0, slots := 0, locals := 71 }
theorem hl_X6_greatestFlow_38 : Cond.fieldLink RX6 38 "PlateauBenchModel" "flow" "[I" ∈ wsX6_greatestFlow := by decide +kernel
theorem hi_X6_greatestFlow_X6 : ∀ x ∈ u_ws RX6 TX6 19, x ∈ wsX6_greatestFlow := by decide +kernel
set_option maxRecDepth 100000 in
set_option maxHeartbeats 4000000 in
theorem kX6_greatestFlow (l : Launch) (ad : Nat → Nat) (M : Mem)  (T : Int × Mem) (h : fX6_greatestFlow M  = some T) : MX l yX6_greatestFlow wsX6_greatestFlow rmX6_greatestFlow wM ad [.ref (ad 14)] M (some (iV (T.1))) T.2 := by
  refine MX.of (cc := cX6_greatestFlow) (nL := 3) (rt := (some .int)) (own := RX6) (by decide +kernel) rfl rfl (Nat.le_of_ble_eq_true rfl) wM_ok (fun G cx => ?_)
  show G M 0 [(0, .ref (ad 14))] []
  have L2 : ∀ (n : Nat) (M : Mem) (x1 : Int) (T4 : Mem), fX6_greatestFlow_L2 n M x1 = some T4 → (G T4 21 [(0, .ref (ad 14))] []) → G M 2 [(0, .ref (ad 14)), (1, iV (x1))] [] := by
    intro n
    induction n with
    | zero =>
      intro M x1 T4 h
      exact absurd h (by simp [fX6_greatestFlow_L2])
    | succ n ih =>
      intro M x1 T4 h hJ
      rw [fX6_greatestFlow_L2] at h
      refine ax_iload_n cx 1 dX6_greatestFlow_2 rfl rfl ?_
      refine ax_bipush (z := 60) cx dX6_greatestFlow_3 (by decide) ?_
      obtain ⟨g1, h⟩ := gd_some h
      refine ax_icmp_ge cx 21 dX6_greatestFlow_5 (by decide) g1 ⟨by decide, by decide⟩ (fun c2 => ?_) (fun c2 => ?_)
      · rw [if_pos c2] at h
        refine ax_lv cx [0] rfl ?_
        cases h
        exact hJ
      · rw [if_neg c2] at h
        refine ax_aload_n cx 0 dX6_greatestFlow_8 rfl rfl ?_
        refine ax_getf (q := 14) (ci := 6) (k := 13) (v := .ref (ad 9)) cx ⟨by decide, by decide⟩ rfl rfl hi_X6_greatestFlow_X6 (by decide) hl_X6_greatestFlow_38 rfl rfl dX6_greatestFlow_9 ?_
        refine ax_iload_n cx 1 dX6_greatestFlow_12 rfl rfl ?_
        refine ax_iconst cx dX6_greatestFlow_13 ?_
        obtain ⟨g3, h⟩ := gd_some h
        refine ax_iast (n := 60) cx (by decide) rfl rfl g3 dX6_greatestFlow_14 ?_
        refine ax_iinc (lv' := [(1, iV (x1 + 1)), (0, .ref (ad 14))]) cx 1 dX6_greatestFlow_15 rfl (by decide) rfl ?_
        refine ax_goto cx 2 dX6_greatestFlow_18 (by decide) ?_
        refine ax_lv cx [1, 0] rfl ?_
        exact ih _ _ _ h hJ
  have L34 : ∀ (n : Nat) (M : Mem) (x1 : Int) (x2 : Int) (T20 : Int × Mem), fX6_greatestFlow_L34 n M x1 x2 = some T20 → (G T20.2 61 [(1, iV (T20.1))] []) → G M 34 [(0, .ref (ad 14)), (1, iV (x1)), (2, iV (x2))] [] := by
    intro n
    induction n with
    | zero =>
      intro M x1 x2 T20 h
      exact absurd h (by simp [fX6_greatestFlow_L34])
    | succ n ih =>
      intro M x1 x2 T20 h hJ
      rw [fX6_greatestFlow_L34] at h
      refine ax_iload_n cx 2 dX6_greatestFlow_34 rfl rfl ?_
      refine ax_iconst cx dX6_greatestFlow_35 ?_
      obtain ⟨g12, h⟩ := gd_some h
      refine ax_icmp_eq cx 61 dX6_greatestFlow_36 (by decide) g12 ⟨by decide, by decide⟩ (fun c13 => ?_) (fun c13 => ?_)
      · rw [if_pos c13] at h
        refine ax_lv cx [1] rfl ?_
        cases h
        exact hJ
      · rw [if_neg c13] at h
        refine ax_aload_n cx 0 dX6_greatestFlow_39 rfl rfl ?_
        refine ax_iload_n cx 2 dX6_greatestFlow_40 rfl rfl ?_
        obtain ⟨t14, e15, h⟩ := ob h
        refine ax_callV (As := [iV (x2)]) (q := 14) (ci := 6) (n := 1) cx (kX6_push l ad M x2 _ e15) gX6_greatestFlow_X6_push rfl ⟨by decide, by decide⟩ rfl rfl ⟨rfl, rfl⟩ (by decide +kernel) rfl ⟨by decide, by decide⟩ rfl (Nat.le_of_ble_eq_true rfl) dX6_greatestFlow_41 ?_
        refine ax_iinc (lv' := [(1, iV (x1 + 1)), (0, .ref (ad 14)), (2, iV (x2))]) cx 1 dX6_greatestFlow_44 rfl (by decide) rfl ?_
        refine ax_aload_n cx 1 dX6_greatestFlow_47 rfl rfl ?_
        refine ax_iconst cx dX6_greatestFlow_48 ?_
        refine ax_iconst cx dX6_greatestFlow_49 ?_
        obtain ⟨t16, e17, h⟩ := ob h
        refine ax_callV (As := [iV (1), iV (1)]) (q := 14) (ci := 6) (n := 2) cx (kX6_reach l ad t14 1 1 _ e17) gX6_greatestFlow_X6_reach rfl ⟨by decide, by decide⟩ rfl rfl ⟨rfl, rfl⟩ (by decide +kernel) rfl ⟨by decide, by decide⟩ rfl (Nat.le_of_ble_eq_true rfl) dX6_greatestFlow_50 ?_
        refine ax_aload_n cx 1 dX6_greatestFlow_53 rfl rfl ?_
        obtain ⟨t18, e19, h⟩ := ob h
        refine ax_callV (As := []) (q := 14) (ci := 6) (n := 0) cx (kX6_reachedOutside l ad t16  _ e19) gX6_greatestFlow_X6_reachedOutside rfl ⟨by decide, by decide⟩ rfl rfl ⟨rfl, rfl⟩ (by decide +kernel) rfl ⟨by decide, by decide⟩ rfl (Nat.le_of_ble_eq_true rfl) dX6_greatestFlow_54 ?_
        refine ax_istore_n (lv' := [(2, iV (t18)), (1, iV (x1 + 1)), (0, .ref (ad 14))]) cx dX6_greatestFlow_57 rfl (by decide) rfl ?_
        refine ax_goto cx 34 dX6_greatestFlow_58 (by decide) ?_
        refine ax_lv cx [2, 1, 0] rfl ?_
        exact ih _ _ _ _ h hJ
  unfold fX6_greatestFlow at h
  refine ax_iconst cx dX6_greatestFlow_0 ?_
  refine ax_istore_n (lv' := [(1, iV (0)), (0, .ref (ad 14))]) cx dX6_greatestFlow_1 rfl (by decide) rfl ?_
  obtain ⟨t5, e6, h⟩ := ob h
  refine ax_lv cx [1, 0] rfl ?_
  have J7 : G t5 21 [(0, .ref (ad 14))] [] := by
    refine ax_iconst cx dX6_greatestFlow_21 ?_
    refine ax_istore_n (lv' := [(1, iV (0)), (0, .ref (ad 14))]) cx dX6_greatestFlow_22 rfl (by decide) rfl ?_
    refine ax_aload_n cx 1 dX6_greatestFlow_23 rfl rfl ?_
    refine ax_iconst cx dX6_greatestFlow_24 ?_
    refine ax_iconst cx dX6_greatestFlow_25 ?_
    obtain ⟨t8, e9, h⟩ := ob h
    refine ax_callV (As := [iV (1), iV (1)]) (q := 14) (ci := 6) (n := 2) cx (kX6_reach l ad t5 1 1 _ e9) gX6_greatestFlow_X6_reach rfl ⟨by decide, by decide⟩ rfl rfl ⟨rfl, rfl⟩ (by decide +kernel) rfl ⟨by decide, by decide⟩ rfl (Nat.le_of_ble_eq_true rfl) dX6_greatestFlow_26 ?_
    refine ax_aload_n cx 1 dX6_greatestFlow_29 rfl rfl ?_
    obtain ⟨t10, e11, h⟩ := ob h
    refine ax_callV (As := []) (q := 14) (ci := 6) (n := 0) cx (kX6_reachedOutside l ad t8  _ e11) gX6_greatestFlow_X6_reachedOutside rfl ⟨by decide, by decide⟩ rfl rfl ⟨rfl, rfl⟩ (by decide +kernel) rfl ⟨by decide, by decide⟩ rfl (Nat.le_of_ble_eq_true rfl) dX6_greatestFlow_30 ?_
    refine ax_istore_n (lv' := [(2, iV (t10)), (1, iV (0)), (0, .ref (ad 14))]) cx dX6_greatestFlow_33 rfl (by decide) rfl ?_
    obtain ⟨t21, e22, h⟩ := ob h
    refine ax_lv cx [2, 1, 0] rfl ?_
    have J23 : G t21.2 61 [(1, iV (t21.1))] [] := by
      refine ax_iload_n cx 0 dX6_greatestFlow_61 rfl rfl ?_
      cases h
      exact ax_iret cx dX6_greatestFlow_62 rfl ⟨rfl, rfl⟩
    exact L34 FU t8 0 t10 _ e22 J23
  exact L2 FU M 0 _ e6 J7
def fX6_film (M : Mem)  : Option (Int × Mem) :=
    Option.bind (fX6_greatestFlow (wr M 100 0 0)) (fun t1 =>
    some (t1.1, t1.2))
abbrev rmX6_film : Room := { frames := 4, cells := 0, slots := 0, locals := 93 }
theorem hl_X6_film_57 : Cond.fieldLink RX6 57 "PlateauBenchModel" "thrown" "I" ∈ wsX6_film := by decide +kernel
theorem hi_X6_film_X6 : ∀ x ∈ u_ws RX6 TX6 19, x ∈ wsX6_film := by decide +kernel
set_option maxRecDepth 100000 in
set_option maxHeartbeats 4000000 in
theorem kX6_film (l : Launch) (ad : Nat → Nat) (M : Mem)  (T : Int × Mem) (h : fX6_film M  = some T) : MX l yX6_film wsX6_film rmX6_film wM ad [.ref (ad 14)] M (some (iV (T.1))) T.2 := by
  refine MX.of (cc := cX6_film) (nL := 1) (rt := (some .int)) (own := RX6) (by decide +kernel) rfl rfl (Nat.le_of_ble_eq_true rfl) wM_ok (fun G cx => ?_)
  show G M 0 [(0, .ref (ad 14))] []
  unfold fX6_film at h
  refine ax_aload_n cx 0 dX6_film_0 rfl rfl ?_
  refine ax_iconst cx dX6_film_1 ?_
  refine ax_putf (q := 14) (ci := 6) (k := 0) (f := 100) (ty := .int) cx ⟨by decide, by decide⟩ rfl rfl hi_X6_film_X6 tyX6 tyX6_ok nmX6 (by decide) hl_X6_film_57 rfl (by decide +kernel) (by decide +kernel) rfl rfl (Nat.le_of_ble_eq_true rfl) (by decide) rfl (putM_100 ad _ _) dX6_film_2 ?_
  refine ax_aload_n cx 0 dX6_film_5 rfl rfl ?_
  obtain ⟨t1, e2, h⟩ := ob h
  refine ax_callV (As := []) (q := 14) (ci := 6) (n := 0) cx (kX6_greatestFlow l ad (wr M 100 0 0)  _ e2) gX6_film_X6_greatestFlow rfl ⟨by decide, by decide⟩ rfl rfl ⟨rfl, rfl⟩ (by decide +kernel) rfl ⟨by decide, by decide⟩ rfl (Nat.le_of_ble_eq_true rfl) dX6_film_6 ?_
  cases h
  exact ax_iret cx dX6_film_9 rfl ⟨rfl, rfl⟩
def fX6_proof (M : Mem)  : Option (Int × Mem) :=
    Option.bind (fX6_greatestFlow (wr M 100 0 0)) (fun t1 =>
    some (t1.1, t1.2))
abbrev rmX6_proof : Room := { frames := 4, cells := 0, slots := 0, locals := 93 }
theorem hl_X6_proof_57 : Cond.fieldLink RX6 57 "PlateauBenchModel" "thrown" "I" ∈ wsX6_proof := by decide +kernel
theorem hi_X6_proof_X6 : ∀ x ∈ u_ws RX6 TX6 19, x ∈ wsX6_proof := by decide +kernel
set_option maxRecDepth 100000 in
set_option maxHeartbeats 4000000 in
theorem kX6_proof (l : Launch) (ad : Nat → Nat) (M : Mem)  (T : Int × Mem) (h : fX6_proof M  = some T) : MX l yX6_proof wsX6_proof rmX6_proof wM ad [.ref (ad 14)] M (some (iV (T.1))) T.2 := by
  refine MX.of (cc := cX6_proof) (nL := 1) (rt := (some .int)) (own := RX6) (by decide +kernel) rfl rfl (Nat.le_of_ble_eq_true rfl) wM_ok (fun G cx => ?_)
  show G M 0 [(0, .ref (ad 14))] []
  unfold fX6_proof at h
  refine ax_aload_n cx 0 dX6_proof_0 rfl rfl ?_
  refine ax_iconst cx dX6_proof_1 ?_
  refine ax_putf (q := 14) (ci := 6) (k := 0) (f := 100) (ty := .int) cx ⟨by decide, by decide⟩ rfl rfl hi_X6_proof_X6 tyX6 tyX6_ok nmX6 (by decide) hl_X6_proof_57 rfl (by decide +kernel) (by decide +kernel) rfl rfl (Nat.le_of_ble_eq_true rfl) (by decide) rfl (putM_100 ad _ _) dX6_proof_2 ?_
  refine ax_aload_n cx 0 dX6_proof_5 rfl rfl ?_
  obtain ⟨t1, e2, h⟩ := ob h
  refine ax_callV (As := []) (q := 14) (ci := 6) (n := 0) cx (kX6_greatestFlow l ad (wr M 100 0 0)  _ e2) gX6_proof_X6_greatestFlow rfl ⟨by decide, by decide⟩ rfl rfl ⟨rfl, rfl⟩ (by decide +kernel) rfl ⟨by decide, by decide⟩ rfl (Nat.le_of_ble_eq_true rfl) dX6_proof_6 ?_
  cases h
  exact ax_iret cx dX6_proof_9 rfl ⟨rfl, rfl⟩
def fX6_side_L37 : Nat → Mem → Int → Int64 → Int → Option (Int64)
  | 0, _, _, _, _ => none
  | n + 1, M, x1, x2, x4 =>
    gd (inR (x4)) (
    if 36 ≤ x4 then (
      some (x2))
    else (
      gd (inB (x4) 36) (
      gd (inR (M 11 x4.toNat)) (
      gd (inR (x1)) (
      Option.bind (if M 11 x4.toNat = x1 then (
        some (0))
      else (
        some (llshl 1 x4))) (fun t20 =>
      fX6_side_L37 n M x1 (x2 ||| t20) (x4 + 1)))))))
def fX6_side (M : Mem) (x1 : Int) : Option (Int64 × Mem) :=
    Option.bind (fX6_greatestFlow (wr M 100 0 0)) (fun t1 =>
    gd (inR (x1)) (
    Option.bind (if x1 = 0 then (
      some (1))
    else (
      some (2))) (fun t5 =>
    Option.bind (if x1 = 0 then (
      some (1))
    else (
      some (0))) (fun t9 =>
    Option.bind (fX6_reach t1.2 t5 t9) (fun t12 =>
    Option.bind (fX6_side_L37 FU t12 x1 0 0) (fun t24 =>
    some (t24, t12)))))))
abbrev rmX6_side : Room := { frames := 4, cells := 0, slots := 0, locals := 93 }
theorem hl_X6_side_57 : Cond.fieldLink RX6 57 "PlateauBenchModel" "thrown" "I" ∈ wsX6_side := by decide +kernel
theorem hl_X6_side_44 : Cond.fieldLink RX6 44 "PlateauBenchModel" "isReached" "[Z" ∈ wsX6_side := by decide +kernel
theorem hi_X6_side_X6 : ∀ x ∈ u_ws RX6 TX6 19, x ∈ wsX6_side := by decide +kernel
set_option maxRecDepth 100000 in
set_option maxHeartbeats 4000000 in
theorem kX6_side (l : Launch) (ad : Nat → Nat) (M : Mem) (x1 : Int) (T : Int64 × Mem) (h : fX6_side M x1 = some T) : MX l yX6_side wsX6_side rmX6_side wM ad [.ref (ad 14), iV (x1)] M (some (.long (T.1))) T.2 := by
  refine MX.of (cc := cX6_side) (nL := 5) (rt := (some .long)) (own := RX6) (by decide +kernel) rfl rfl (Nat.le_of_ble_eq_true rfl) wM_ok (fun G cx => ?_)
  show G M 0 [(0, .ref (ad 14)), (1, iV (x1))] []
  have L37 : ∀ (n : Nat) (M : Mem) (x1 : Int) (x2 : Int64) (x4 : Int) (T23 : Int64), fX6_side_L37 n M x1 x2 x4 = some T23 → (G M 72 [(2, .long (T23))] []) → G M 37 [(0, .ref (ad 14)), (1, iV (x1)), (2, .long (x2)), (4, iV (x4))] [] := by
    intro n
    induction n with
    | zero =>
      intro M x1 x2 x4 T23 h
      exact absurd h (by simp [fX6_side_L37])
    | succ n ih =>
      intro M x1 x2 x4 T23 h hJ
      rw [fX6_side_L37] at h
      refine ax_iload cx 3 dX6_side_37 rfl ?_
      refine ax_bipush (z := 36) cx dX6_side_39 (by decide) ?_
      obtain ⟨g14, h⟩ := gd_some h
      refine ax_icmp_ge cx 72 dX6_side_41 (by decide) g14 ⟨by decide, by decide⟩ (fun c15 => ?_) (fun c15 => ?_)
      · rw [if_pos c15] at h
        refine ax_lv cx [2] rfl ?_
        cases h
        exact hJ
      · rw [if_neg c15] at h
        refine ax_lload_n cx 2 dX6_side_44 rfl rfl ?_
        refine ax_aload_n cx 0 dX6_side_45 rfl rfl ?_
        refine ax_getf (q := 14) (ci := 6) (k := 15) (v := .ref (ad 11)) cx ⟨by decide, by decide⟩ rfl rfl hi_X6_side_X6 (by decide) hl_X6_side_44 rfl rfl dX6_side_46 ?_
        refine ax_iload cx 3 dX6_side_49 rfl ?_
        obtain ⟨g16, h⟩ := gd_some h
        refine ax_zald (n := 36) cx (by decide) rfl rfl g16 dX6_side_51 ?_
        refine ax_iload_n cx 1 dX6_side_52 rfl rfl ?_
        obtain ⟨g17, h⟩ := gd_some h
        obtain ⟨g18, h⟩ := gd_some h
        obtain ⟨t20, e22, h⟩ := ob h
        have J21 : G M 64 [(0, .ref (ad 14)), (1, iV (x1)), (4, iV (x4))] [.long (t20), .long (x2)] := by
          refine ax_lor cx dX6_side_64 ?_
          refine ax_lstore_n (lv' := [(2, .long (x2 ||| t20)), (0, .ref (ad 14)), (1, iV (x1)), (4, iV (x4))]) cx dX6_side_65 rfl (by decide) rfl ?_
          refine ax_iinc (lv' := [(4, iV (x4 + 1)), (2, .long (x2 ||| t20)), (0, .ref (ad 14)), (1, iV (x1))]) cx 3 dX6_side_66 rfl (by decide) rfl ?_
          refine ax_goto cx 37 dX6_side_69 (by decide) ?_
          refine ax_lv cx [2, 3, 1, 0] rfl ?_
          exact ih _ _ _ _ _ h hJ
        clear h
        have h := e22
        clear e22
        refine ax_icmp_eq cx 63 dX6_side_53 (by decide) g17 g18 (fun c19 => ?_) (fun c19 => ?_)
        · rw [if_pos c19] at h
          refine ax_lconst (v := 0) cx dX6_side_63 rfl ?_
          refine ax_lv cx [0, 1, 3] rfl ?_
          cases h
          exact J21
        · rw [if_neg c19] at h
          refine ax_lconst (v := 1) cx dX6_side_56 rfl ?_
          refine ax_iload cx 3 dX6_side_57 rfl ?_
          refine ax_lshl cx dX6_side_59 ?_
          refine ax_goto cx 64 dX6_side_60 (by decide) ?_
          refine ax_lv cx [0, 1, 3] rfl ?_
          cases h
          exact J21
  unfold fX6_side at h
  refine ax_aload_n cx 0 dX6_side_0 rfl rfl ?_
  refine ax_iconst cx dX6_side_1 ?_
  refine ax_putf (q := 14) (ci := 6) (k := 0) (f := 100) (ty := .int) cx ⟨by decide, by decide⟩ rfl rfl hi_X6_side_X6 tyX6 tyX6_ok nmX6 (by decide) hl_X6_side_57 rfl (by decide +kernel) (by decide +kernel) rfl rfl (Nat.le_of_ble_eq_true rfl) (by decide) rfl (putM_100 ad _ _) dX6_side_2 ?_
  refine ax_aload_n cx 0 dX6_side_5 rfl rfl ?_
  obtain ⟨t1, e2, h⟩ := ob h
  refine ax_callV (As := []) (q := 14) (ci := 6) (n := 0) cx (kX6_greatestFlow l ad (wr M 100 0 0)  _ e2) gX6_side_X6_greatestFlow rfl ⟨by decide, by decide⟩ rfl rfl ⟨rfl, rfl⟩ (by decide +kernel) rfl ⟨by decide, by decide⟩ rfl (Nat.le_of_ble_eq_true rfl) dX6_side_6 ?_
  refine ax_pop cx dX6_side_9 rfl ?_
  refine ax_aload_n cx 0 dX6_side_10 rfl rfl ?_
  refine ax_iload_n cx 1 dX6_side_11 rfl rfl ?_
  obtain ⟨g3, h⟩ := gd_some h
  obtain ⟨t5, e7, h⟩ := ob h
  have J6 : G t1.2 20 [(0, .ref (ad 14)), (1, iV (x1))] [iV (t5), .ref (ad 14)] := by
    refine ax_iload_n cx 1 dX6_side_20 rfl rfl ?_
    obtain ⟨t9, e11, h⟩ := ob h
    have J10 : G t1.2 29 [(0, .ref (ad 14)), (1, iV (x1))] [iV (t9), iV (t5), .ref (ad 14)] := by
      obtain ⟨t12, e13, h⟩ := ob h
      refine ax_callV (As := [iV (t5), iV (t9)]) (q := 14) (ci := 6) (n := 2) cx (kX6_reach l ad t1.2 t5 t9 _ e13) gX6_side_X6_reach rfl ⟨by decide, by decide⟩ rfl rfl ⟨rfl, rfl⟩ (by decide +kernel) rfl ⟨by decide, by decide⟩ rfl (Nat.le_of_ble_eq_true rfl) dX6_side_29 ?_
      refine ax_lconst (v := 0) cx dX6_side_32 rfl ?_
      refine ax_lstore_n (lv' := [(2, .long (0)), (0, .ref (ad 14)), (1, iV (x1))]) cx dX6_side_33 rfl (by decide) rfl ?_
      refine ax_iconst cx dX6_side_34 ?_
      refine ax_istore (lv' := [(4, iV (0)), (2, .long (0)), (0, .ref (ad 14)), (1, iV (x1))]) cx dX6_side_35 (by decide) rfl ?_
      obtain ⟨t24, e25, h⟩ := ob h
      refine ax_lv cx [2, 3, 1, 0] rfl ?_
      have J26 : G t12 72 [(2, .long (t24))] [] := by
        refine ax_lload_n cx 0 dX6_side_72 rfl rfl ?_
        cases h
        exact ax_lret cx dX6_side_73 rfl ⟨rfl, rfl⟩
      exact L37 FU t12 x1 0 0 _ e25 J26
    clear h
    have h := e11
    clear e11
    refine ax_if_ne cx 28 dX6_side_21 (by decide) g3 (fun c8 => ?_) (fun c8 => ?_)
    · rw [if_pos c8] at h
      refine ax_iconst cx dX6_side_24 ?_
      refine ax_goto cx 29 dX6_side_25 (by decide) ?_
      cases h
      exact J10
    · rw [if_neg c8] at h
      refine ax_iconst cx dX6_side_28 ?_
      cases h
      exact J10
  clear h
  have h := e7
  clear e7
  refine ax_if_eq cx 19 dX6_side_12 (by decide) g3 (fun c4 => ?_) (fun c4 => ?_)
  · rw [if_pos c4] at h
    refine ax_iconst cx dX6_side_19 ?_
    cases h
    exact J6
  · rw [if_neg c4] at h
    refine ax_iconst cx dX6_side_15 ?_
    refine ax_goto cx 20 dX6_side_16 (by decide) ?_
    cases h
    exact J6
def fX6_costOf_L33 : Nat → Mem → Int64 → Int → Int → Option (Int)
  | 0, _, _, _, _ => none
  | n + 1, M, x1, x3, x4 =>
    gd (inR (x4)) (
    if 36 ≤ x4 then (
      some (x3))
    else (
      Option.bind (if zlcmp ((llshr x1 x4) &&& 1) 1 = 0 then (
        some (1))
      else (
        some (0))) (fun t13 =>
      gd (inR (x3)) (
      Option.bind (if x3 = 0 then (
        some (0))
      else (
        gd (inB (x4) 36) (
        gd (inR (t13)) (
        Option.bind (if t13 = 0 then (
          some (1))
        else (
          some (2))) (fun t21 =>
        gd (inR (M 3 x4.toNat)) (
        gd (inR (t21)) (
        if M 3 x4.toNat = t21 then (
          some (0))
        else (
          some (1))))))))) (fun t27 =>
      fX6_costOf_L33 n M x1 t27 (x4 + 1))))))
def fX6_costOf_L100 : Nat → Mem → Int64 → Int → Int → Int → Option (Int)
  | 0, _, _, _, _, _ => none
  | n + 1, M, x1, x3, x4, x5 =>
    gd (inR (x5)) (
    if 60 ≤ x5 then (
      some (x4))
    else (
      Option.bind (fX6_first M x5) (fun t36 =>
      Option.bind (fX6_second M x5) (fun t38 =>
      Option.bind (if zlcmp ((llshr x1 t36) &&& 1) ((llshr x1 t38) &&& 1) = 0 then (
        some (0))
      else (
        Option.bind (fX6_costOfEdge M x5) (fun t41 =>
        some (t41)))) (fun t43 =>
      fX6_costOf_L100 n M x1 x3 (x4 + t43) (x5 + 1))))))
def fX6_costOf (M : Mem) (x1 : Int64) : Option (Int × Mem) :=
    Option.bind (if zlcmp x1 0 < 0 then (
      some (1))
    else (
      if 0 ≤ zlcmp x1 68719476736 then (
        some (1))
      else (
        some (0)))) (fun t3 =>
    Option.bind (fX6_refused M t3) (fun t6 =>
    gd (inR (t6.1)) (
    if t6.1 = 0 then (
      Option.bind (fX6_costOf_L33 FU t6.2 x1 1 0) (fun t31 =>
      Option.bind (fX6_costOf_L100 FU t6.2 x1 t31 0 0) (fun t47 =>
      gd (inR (t31)) (
      Option.bind (if t31 = 0 then (
        some ((-1)))
      else (
        some (t47))) (fun t52 =>
      some (t52, t6.2))))))
    else (
      some (0, t6.2)))))
abbrev rmX6_costOf : Room := { frames := 2, cells := 0, slots := 0, locals := 40 }
theorem hw_X6_costOf_k144 : Cond.constantLong RX6 144 (68719476736) ∈ wsX6_costOf := by decide +kernel
theorem hl_X6_costOf_19 : Cond.fieldLink RX6 19 "PlateauBenchModel" "pins" "[I" ∈ wsX6_costOf := by decide +kernel
theorem hi_X6_costOf_X6 : ∀ x ∈ u_ws RX6 TX6 19, x ∈ wsX6_costOf := by decide +kernel
set_option maxRecDepth 100000 in
set_option maxHeartbeats 4000000 in
theorem kX6_costOf (l : Launch) (ad : Nat → Nat) (M : Mem) (x1 : Int64) (T : Int × Mem) (h : fX6_costOf M x1 = some T) : MX l yX6_costOf wsX6_costOf rmX6_costOf wM ad [.ref (ad 14), .long (x1)] M (some (iV (T.1))) T.2 := by
  refine MX.of (cc := cX6_costOf) (nL := 6) (rt := (some .int)) (own := RX6) (by decide +kernel) rfl rfl (Nat.le_of_ble_eq_true rfl) wM_ok (fun G cx => ?_)
  show G M 0 [(0, .ref (ad 14)), (1, .long (x1))] []
  have L33 : ∀ (n : Nat) (M : Mem) (x1 : Int64) (x3 : Int) (x4 : Int) (T30 : Int), fX6_costOf_L33 n M x1 x3 x4 = some T30 → (G M 94 [(0, .ref (ad 14)), (1, .long (x1)), (3, iV (T30))] []) → G M 33 [(0, .ref (ad 14)), (1, .long (x1)), (3, iV (x3)), (4, iV (x4))] [] := by
    intro n
    induction n with
    | zero =>
      intro M x1 x3 x4 T30 h
      exact absurd h (by simp [fX6_costOf_L33])
    | succ n ih =>
      intro M x1 x3 x4 T30 h hJ
      rw [fX6_costOf_L33] at h
      refine ax_iload cx 3 dX6_costOf_33 rfl ?_
      refine ax_bipush (z := 36) cx dX6_costOf_35 (by decide) ?_
      obtain ⟨g10, h⟩ := gd_some h
      refine ax_icmp_ge cx 94 dX6_costOf_37 (by decide) g10 ⟨by decide, by decide⟩ (fun c11 => ?_) (fun c11 => ?_)
      · rw [if_pos c11] at h
        refine ax_lv cx [0, 1, 2] rfl ?_
        cases h
        exact hJ
      · rw [if_neg c11] at h
        refine ax_lload_n cx 1 dX6_costOf_40 rfl rfl ?_
        refine ax_iload cx 3 dX6_costOf_41 rfl ?_
        refine ax_lshr cx dX6_costOf_43 ?_
        refine ax_lconst (v := 1) cx dX6_costOf_44 rfl ?_
        refine ax_land cx dX6_costOf_45 ?_
        refine ax_lconst (v := 1) cx dX6_costOf_46 rfl ?_
        refine ax_lcmp cx dX6_costOf_47 ?_
        obtain ⟨t13, e15, h⟩ := ob h
        have J14 : G M 56 [(0, .ref (ad 14)), (1, .long (x1)), (3, iV (x3)), (4, iV (x4))] [iV (t13)] := by
          refine ax_istore (lv' := [(5, iV (t13)), (0, .ref (ad 14)), (1, .long (x1)), (3, iV (x3)), (4, iV (x4))]) cx dX6_costOf_56 (by decide) rfl ?_
          refine ax_iload_n cx 3 dX6_costOf_58 rfl rfl ?_
          obtain ⟨g16, h⟩ := gd_some h
          obtain ⟨t27, e29, h⟩ := ob h
          have J28 : G M 87 [(0, .ref (ad 14)), (1, .long (x1)), (4, iV (x4))] [iV (t27)] := by
            refine ax_istore_n (lv' := [(3, iV (t27)), (0, .ref (ad 14)), (1, .long (x1)), (4, iV (x4))]) cx dX6_costOf_87 rfl (by decide) rfl ?_
            refine ax_iinc (lv' := [(4, iV (x4 + 1)), (3, iV (t27)), (0, .ref (ad 14)), (1, .long (x1))]) cx 3 dX6_costOf_88 rfl (by decide) rfl ?_
            refine ax_goto cx 33 dX6_costOf_91 (by decide) ?_
            refine ax_lv cx [2, 3, 1, 0] rfl ?_
            exact ih _ _ _ _ _ h hJ
          clear h
          have h := e29
          clear e29
          refine ax_if_eq cx 86 dX6_costOf_59 (by decide) g16 (fun c17 => ?_) (fun c17 => ?_)
          · rw [if_pos c17] at h
            refine ax_iconst cx dX6_costOf_86 ?_
            refine ax_lv cx [1, 2, 4] rfl ?_
            cases h
            exact J28
          · rw [if_neg c17] at h
            refine ax_aload_n cx 1 dX6_costOf_62 rfl rfl ?_
            refine ax_getf (q := 14) (ci := 6) (k := 5) (v := .ref (ad 3)) cx ⟨by decide, by decide⟩ rfl rfl hi_X6_costOf_X6 (by decide) hl_X6_costOf_19 rfl rfl dX6_costOf_63 ?_
            refine ax_iload cx 4 dX6_costOf_66 rfl ?_
            obtain ⟨g18, h⟩ := gd_some h
            refine ax_iald (n := 36) cx (by decide) rfl rfl g18 dX6_costOf_68 ?_
            refine ax_iload cx 0 dX6_costOf_69 rfl ?_
            obtain ⟨g19, h⟩ := gd_some h
            obtain ⟨t21, e23, h⟩ := ob h
            have J22 : G M 79 [(0, .ref (ad 14)), (1, .long (x1)), (4, iV (x4))] [iV (t21), iV (M 3 x4.toNat)] := by
              obtain ⟨g24, h⟩ := gd_some h
              obtain ⟨g25, h⟩ := gd_some h
              refine ax_icmp_eq cx 86 dX6_costOf_79 (by decide) g24 g25 (fun c26 => ?_) (fun c26 => ?_)
              · rw [if_pos c26] at h
                refine ax_iconst cx dX6_costOf_86 ?_
                cases h
                exact J28
              · rw [if_neg c26] at h
                refine ax_iconst cx dX6_costOf_82 ?_
                refine ax_goto cx 87 dX6_costOf_83 (by decide) ?_
                cases h
                exact J28
            clear h
            have h := e23
            clear e23
            refine ax_if_eq cx 78 dX6_costOf_71 (by decide) g19 (fun c20 => ?_) (fun c20 => ?_)
            · rw [if_pos c20] at h
              refine ax_iconst cx dX6_costOf_78 ?_
              refine ax_lv cx [1, 2, 4] rfl ?_
              cases h
              exact J22
            · rw [if_neg c20] at h
              refine ax_iconst cx dX6_costOf_74 ?_
              refine ax_goto cx 79 dX6_costOf_75 (by decide) ?_
              refine ax_lv cx [1, 2, 4] rfl ?_
              cases h
              exact J22
        clear h
        have h := e15
        clear e15
        refine ax_if_ne cx 55 dX6_costOf_48 (by decide) (zlcmp_R _ _) (fun c12 => ?_) (fun c12 => ?_)
        · rw [if_pos c12] at h
          refine ax_iconst cx dX6_costOf_51 ?_
          refine ax_goto cx 56 dX6_costOf_52 (by decide) ?_
          cases h
          exact J14
        · rw [if_neg c12] at h
          refine ax_iconst cx dX6_costOf_55 ?_
          cases h
          exact J14
  have L100 : ∀ (n : Nat) (M : Mem) (x1 : Int64) (x3 : Int) (x4 : Int) (x5 : Int) (T46 : Int), fX6_costOf_L100 n M x1 x3 x4 x5 = some T46 → (G M 150 [(3, iV (x3)), (4, iV (T46))] []) → G M 100 [(0, .ref (ad 14)), (1, .long (x1)), (3, iV (x3)), (4, iV (x4)), (5, iV (x5))] [] := by
    intro n
    induction n with
    | zero =>
      intro M x1 x3 x4 x5 T46 h
      exact absurd h (by simp [fX6_costOf_L100])
    | succ n ih =>
      intro M x1 x3 x4 x5 T46 h hJ
      rw [fX6_costOf_L100] at h
      refine ax_iload cx 4 dX6_costOf_100 rfl ?_
      refine ax_bipush (z := 60) cx dX6_costOf_102 (by decide) ?_
      obtain ⟨g34, h⟩ := gd_some h
      refine ax_icmp_ge cx 150 dX6_costOf_104 (by decide) g34 ⟨by decide, by decide⟩ (fun c35 => ?_) (fun c35 => ?_)
      · rw [if_pos c35] at h
        refine ax_lv cx [2, 3] rfl ?_
        cases h
        exact hJ
      · rw [if_neg c35] at h
        refine ax_iload cx 3 dX6_costOf_107 rfl ?_
        refine ax_lload_n cx 1 dX6_costOf_109 rfl rfl ?_
        refine ax_iload cx 4 dX6_costOf_110 rfl ?_
        obtain ⟨t36, e37, h⟩ := ob h
        refine ax_callS (As := [iV (x5)]) (n := 1) cx (kX6_first l ad M x5 _ e37) gX6_costOf_X6_first rfl ⟨rfl, rfl⟩ (by decide +kernel) rfl ⟨by decide, by decide⟩ rfl (Nat.le_of_ble_eq_true rfl) dX6_costOf_112 ?_
        refine ax_lshr cx dX6_costOf_115 ?_
        refine ax_lconst (v := 1) cx dX6_costOf_116 rfl ?_
        refine ax_land cx dX6_costOf_117 ?_
        refine ax_lload_n cx 1 dX6_costOf_118 rfl rfl ?_
        refine ax_iload cx 4 dX6_costOf_119 rfl ?_
        obtain ⟨t38, e39, h⟩ := ob h
        refine ax_callS (As := [iV (x5)]) (n := 1) cx (kX6_second l ad M x5 _ e39) gX6_costOf_X6_second rfl ⟨rfl, rfl⟩ (by decide +kernel) rfl ⟨by decide, by decide⟩ rfl (Nat.le_of_ble_eq_true rfl) dX6_costOf_121 ?_
        refine ax_lshr cx dX6_costOf_124 ?_
        refine ax_lconst (v := 1) cx dX6_costOf_125 rfl ?_
        refine ax_land cx dX6_costOf_126 ?_
        refine ax_lcmp cx dX6_costOf_127 ?_
        obtain ⟨t43, e45, h⟩ := ob h
        have J44 : G M 141 [(0, .ref (ad 14)), (1, .long (x1)), (3, iV (x3)), (5, iV (x5))] [iV (t43), iV (x4)] := by
          refine ax_iadd cx dX6_costOf_141 ?_
          refine ax_istore (lv' := [(4, iV (x4 + t43)), (0, .ref (ad 14)), (1, .long (x1)), (3, iV (x3)), (5, iV (x5))]) cx dX6_costOf_142 (by decide) rfl ?_
          refine ax_iinc (lv' := [(5, iV (x5 + 1)), (4, iV (x4 + t43)), (0, .ref (ad 14)), (1, .long (x1)), (3, iV (x3))]) cx 4 dX6_costOf_144 rfl (by decide) rfl ?_
          refine ax_goto cx 100 dX6_costOf_147 (by decide) ?_
          refine ax_lv cx [2, 3, 4, 1, 0] rfl ?_
          exact ih _ _ _ _ _ _ h hJ
        clear h
        have h := e45
        clear e45
        refine ax_if_eq cx 140 dX6_costOf_128 (by decide) (zlcmp_R _ _) (fun c40 => ?_) (fun c40 => ?_)
        · rw [if_pos c40] at h
          refine ax_iconst cx dX6_costOf_140 ?_
          refine ax_lv cx [0, 1, 2, 4] rfl ?_
          cases h
          exact J44
        · rw [if_neg c40] at h
          refine ax_aload_n cx 0 dX6_costOf_131 rfl rfl ?_
          refine ax_iload cx 4 dX6_costOf_132 rfl ?_
          obtain ⟨t41, e42, h⟩ := ob h
          refine ax_callV (As := [iV (x5)]) (q := 14) (ci := 6) (n := 1) cx (kX6_costOfEdge l ad M x5 _ e42) gX6_costOf_X6_costOfEdge rfl ⟨by decide, by decide⟩ rfl rfl ⟨rfl, rfl⟩ (by decide +kernel) rfl ⟨by decide, by decide⟩ rfl (Nat.le_of_ble_eq_true rfl) dX6_costOf_134 ?_
          refine ax_goto cx 141 dX6_costOf_137 (by decide) ?_
          refine ax_lv cx [0, 1, 2, 4] rfl ?_
          cases h
          exact J44
  unfold fX6_costOf at h
  refine ax_aload_n cx 0 dX6_costOf_0 rfl rfl ?_
  refine ax_lload_n cx 1 dX6_costOf_1 rfl rfl ?_
  refine ax_lconst (v := 0) cx dX6_costOf_2 rfl ?_
  refine ax_lcmp cx dX6_costOf_3 ?_
  obtain ⟨t3, e5, h⟩ := ob h
  have J4 : G M 20 [(0, .ref (ad 14)), (1, .long (x1))] [iV (t3), .ref (ad 14)] := by
    obtain ⟨t6, e7, h⟩ := ob h
    refine ax_callV (As := [iV (t3)]) (q := 14) (ci := 6) (n := 1) cx (kX6_refused l ad M t3 _ e7) gX6_costOf_X6_refused rfl ⟨by decide, by decide⟩ rfl rfl ⟨rfl, rfl⟩ (by decide +kernel) rfl ⟨by decide, by decide⟩ rfl (Nat.le_of_ble_eq_true rfl) dX6_costOf_20 ?_
    obtain ⟨g8, h⟩ := gd_some h
    refine ax_if_eq cx 28 dX6_costOf_23 (by decide) g8 (fun c9 => ?_) (fun c9 => ?_)
    · rw [if_pos c9] at h
      refine ax_iconst cx dX6_costOf_28 ?_
      refine ax_istore_n (lv' := [(3, iV (1)), (0, .ref (ad 14)), (1, .long (x1))]) cx dX6_costOf_29 rfl (by decide) rfl ?_
      refine ax_iconst cx dX6_costOf_30 ?_
      refine ax_istore (lv' := [(4, iV (0)), (3, iV (1)), (0, .ref (ad 14)), (1, .long (x1))]) cx dX6_costOf_31 (by decide) rfl ?_
      obtain ⟨t31, e32, h⟩ := ob h
      refine ax_lv cx [2, 3, 1, 0] rfl ?_
      have J33 : G t6.2 94 [(0, .ref (ad 14)), (1, .long (x1)), (3, iV (t31))] [] := by
        refine ax_iconst cx dX6_costOf_94 ?_
        refine ax_istore (lv' := [(4, iV (0)), (0, .ref (ad 14)), (1, .long (x1)), (3, iV (t31))]) cx dX6_costOf_95 (by decide) rfl ?_
        refine ax_iconst cx dX6_costOf_97 ?_
        refine ax_istore (lv' := [(5, iV (0)), (4, iV (0)), (0, .ref (ad 14)), (1, .long (x1)), (3, iV (t31))]) cx dX6_costOf_98 (by decide) rfl ?_
        obtain ⟨t47, e48, h⟩ := ob h
        refine ax_lv cx [2, 3, 4, 1, 0] rfl ?_
        have J49 : G t6.2 150 [(3, iV (t31)), (4, iV (t47))] [] := by
          refine ax_iload_n cx 0 dX6_costOf_150 rfl rfl ?_
          obtain ⟨g50, h⟩ := gd_some h
          obtain ⟨t52, e54, h⟩ := ob h
          have J53 : G t6.2 160 [] [iV (t52)] := by
            cases h
            exact ax_iret cx dX6_costOf_160 rfl ⟨rfl, rfl⟩
          clear h
          have h := e54
          clear e54
          refine ax_if_eq cx 159 dX6_costOf_151 (by decide) g50 (fun c51 => ?_) (fun c51 => ?_)
          · rw [if_pos c51] at h
            refine ax_iconst cx dX6_costOf_159 ?_
            refine ax_lv cx [] rfl ?_
            cases h
            exact J53
          · rw [if_neg c51] at h
            refine ax_iload cx 1 dX6_costOf_154 rfl ?_
            refine ax_goto cx 160 dX6_costOf_156 (by decide) ?_
            refine ax_lv cx [] rfl ?_
            cases h
            exact J53
        exact L100 FU t6.2 x1 t31 0 0 _ e48 J49
      exact L33 FU t6.2 x1 1 0 _ e32 J33
    · rw [if_neg c9] at h
      refine ax_iconst cx dX6_costOf_26 ?_
      cases h
      exact ax_iret cx dX6_costOf_27 rfl ⟨rfl, rfl⟩
  clear h
  have h := e5
  clear e5
  refine ax_if_lt cx 19 dX6_costOf_4 (by decide) (zlcmp_R _ _) (fun c1 => ?_) (fun c1 => ?_)
  · rw [if_pos c1] at h
    refine ax_iconst cx dX6_costOf_19 ?_
    cases h
    exact J4
  · rw [if_neg c1] at h
    refine ax_lload_n cx 1 dX6_costOf_7 rfl rfl ?_
    refine ax_ldc2 (v := 68719476736) cx dX6_costOf_8 hw_X6_costOf_k144 ?_
    refine ax_lcmp cx dX6_costOf_11 ?_
    refine ax_if_ge cx 19 dX6_costOf_12 (by decide) (zlcmp_R _ _) (fun c2 => ?_) (fun c2 => ?_)
    · rw [if_pos c2] at h
      refine ax_iconst cx dX6_costOf_19 ?_
      cases h
      exact J4
    · rw [if_neg c2] at h
      refine ax_iconst cx dX6_costOf_15 ?_
      refine ax_goto cx 20 dX6_costOf_16 (by decide) ?_
      cases h
      exact J4
def fX6_pull (M : Mem) (x1 : Int) (x2 : Int) : Option (Int × Mem) :=
    Option.bind (fX6_isNode M x1) (fun t1 =>
    gd (inR (t1)) (
    Option.bind (if t1 = 0 then (
      some (1))
    else (
      Option.bind (fX6_isBubble M x2) (fun t5 =>
      gd (inR (t5)) (
      if t5 = 0 then (
        some (1))
      else (
        some (0)))))) (fun t9 =>
    Option.bind (fX6_refused M t9) (fun t12 =>
    gd (inR (t12.1)) (
    if t12.1 = 0 then (
      gd (inB (x1) 36) (
      Option.bind (fX6_energyNow t12.2) (fun t17 =>
      gd (inB (x1) 36) (
      Option.bind (fX6_energyNow (wr t12.2 4 x1.toNat x2)) (fun t20 =>
      some (t12.2 4 x1.toNat, (wr (wr t12.2 4 x1.toNat x2) 102 0 (((wr t12.2 4 x1.toNat x2) 102 0) + (t20 - t17)))))))))
    else (
      some (0, t12.2)))))))
abbrev rmX6_pull : Room := { frames := 3, cells := 0, slots := 0, locals := 62 }
theorem hl_X6_pull_22 : Cond.fieldLink RX6 22 "PlateauBenchModel" "bubbles" "[I" ∈ wsX6_pull := by decide +kernel
theorem hl_X6_pull_76 : Cond.fieldLink RX6 76 "PlateauBenchModel" "work" "I" ∈ wsX6_pull := by decide +kernel
theorem hi_X6_pull_X6 : ∀ x ∈ u_ws RX6 TX6 19, x ∈ wsX6_pull := by decide +kernel
set_option maxRecDepth 100000 in
set_option maxHeartbeats 4000000 in
theorem kX6_pull (l : Launch) (ad : Nat → Nat) (M : Mem) (x1 : Int) (x2 : Int) (T : Int × Mem) (h : fX6_pull M x1 x2 = some T) : MX l yX6_pull wsX6_pull rmX6_pull wM ad [.ref (ad 14), iV (x1), iV (x2)] M (some (iV (T.1))) T.2 := by
  refine MX.of (cc := cX6_pull) (nL := 5) (rt := (some .int)) (own := RX6) (by decide +kernel) rfl rfl (Nat.le_of_ble_eq_true rfl) wM_ok (fun G cx => ?_)
  show G M 0 [(0, .ref (ad 14)), (1, iV (x1)), (2, iV (x2))] []
  unfold fX6_pull at h
  refine ax_aload_n cx 0 dX6_pull_0 rfl rfl ?_
  refine ax_iload_n cx 1 dX6_pull_1 rfl rfl ?_
  obtain ⟨t1, e2, h⟩ := ob h
  refine ax_callS (As := [iV (x1)]) (n := 1) cx (kX6_isNode l ad M x1 _ e2) gX6_pull_X6_isNode rfl ⟨rfl, rfl⟩ (by decide +kernel) rfl ⟨by decide, by decide⟩ rfl (Nat.le_of_ble_eq_true rfl) dX6_pull_2 ?_
  obtain ⟨g3, h⟩ := gd_some h
  obtain ⟨t9, e11, h⟩ := ob h
  have J10 : G M 20 [(0, .ref (ad 14)), (1, iV (x1)), (2, iV (x2))] [iV (t9), .ref (ad 14)] := by
    obtain ⟨t12, e13, h⟩ := ob h
    refine ax_callV (As := [iV (t9)]) (q := 14) (ci := 6) (n := 1) cx (kX6_refused l ad M t9 _ e13) gX6_pull_X6_refused rfl ⟨by decide, by decide⟩ rfl rfl ⟨rfl, rfl⟩ (by decide +kernel) rfl ⟨by decide, by decide⟩ rfl (Nat.le_of_ble_eq_true rfl) dX6_pull_20 ?_
    obtain ⟨g14, h⟩ := gd_some h
    refine ax_if_eq cx 28 dX6_pull_23 (by decide) g14 (fun c15 => ?_) (fun c15 => ?_)
    · rw [if_pos c15] at h
      refine ax_aload_n cx 0 dX6_pull_28 rfl rfl ?_
      refine ax_getf (q := 14) (ci := 6) (k := 6) (v := .ref (ad 4)) cx ⟨by decide, by decide⟩ rfl rfl hi_X6_pull_X6 (by decide) hl_X6_pull_22 rfl rfl dX6_pull_29 ?_
      refine ax_iload_n cx 1 dX6_pull_32 rfl rfl ?_
      obtain ⟨g16, h⟩ := gd_some h
      refine ax_iald (n := 36) cx (by decide) rfl rfl g16 dX6_pull_33 ?_
      refine ax_istore_n (lv' := [(3, iV (t12.2 4 x1.toNat)), (0, .ref (ad 14)), (1, iV (x1)), (2, iV (x2))]) cx dX6_pull_34 rfl (by decide) rfl ?_
      refine ax_aload_n cx 1 dX6_pull_35 rfl rfl ?_
      obtain ⟨t17, e18, h⟩ := ob h
      refine ax_callV (As := []) (q := 14) (ci := 6) (n := 0) cx (kX6_energyNow l ad t12.2  _ e18) gX6_pull_X6_energyNow rfl ⟨by decide, by decide⟩ rfl rfl ⟨rfl, rfl⟩ (by decide +kernel) rfl ⟨by decide, by decide⟩ rfl (Nat.le_of_ble_eq_true rfl) dX6_pull_36 ?_
      refine ax_istore (lv' := [(4, iV (t17)), (3, iV (t12.2 4 x1.toNat)), (0, .ref (ad 14)), (1, iV (x1)), (2, iV (x2))]) cx dX6_pull_39 (by decide) rfl ?_
      refine ax_aload_n cx 2 dX6_pull_41 rfl rfl ?_
      refine ax_getf (q := 14) (ci := 6) (k := 6) (v := .ref (ad 4)) cx ⟨by decide, by decide⟩ rfl rfl hi_X6_pull_X6 (by decide) hl_X6_pull_22 rfl rfl dX6_pull_42 ?_
      refine ax_iload_n cx 3 dX6_pull_45 rfl rfl ?_
      refine ax_iload_n cx 4 dX6_pull_46 rfl rfl ?_
      obtain ⟨g19, h⟩ := gd_some h
      refine ax_iast (n := 36) cx (by decide) rfl rfl g19 dX6_pull_47 ?_
      refine ax_aload_n cx 2 dX6_pull_48 rfl rfl ?_
      refine ax_dup cx dX6_pull_49 rfl ?_
      refine ax_getf (q := 14) (ci := 6) (k := 8) (v := iV ((wr t12.2 4 x1.toNat x2) 102 0)) cx ⟨by decide, by decide⟩ rfl rfl hi_X6_pull_X6 (by decide) hl_X6_pull_76 rfl rfl dX6_pull_50 ?_
      refine ax_aload_n cx 2 dX6_pull_53 rfl rfl ?_
      obtain ⟨t20, e21, h⟩ := ob h
      refine ax_callV (As := []) (q := 14) (ci := 6) (n := 0) cx (kX6_energyNow l ad (wr t12.2 4 x1.toNat x2)  _ e21) gX6_pull_X6_energyNow rfl ⟨by decide, by decide⟩ rfl rfl ⟨rfl, rfl⟩ (by decide +kernel) rfl ⟨by decide, by decide⟩ rfl (Nat.le_of_ble_eq_true rfl) dX6_pull_54 ?_
      refine ax_iload cx 0 dX6_pull_57 rfl ?_
      refine ax_isub cx dX6_pull_59 ?_
      refine ax_iadd cx dX6_pull_60 ?_
      refine ax_putf (q := 14) (ci := 6) (k := 8) (f := 102) (ty := .int) cx ⟨by decide, by decide⟩ rfl rfl hi_X6_pull_X6 tyX6 tyX6_ok nmX6 (by decide) hl_X6_pull_76 rfl (by decide +kernel) (by decide +kernel) rfl rfl (Nat.le_of_ble_eq_true rfl) (by decide) rfl (putM_102 ad _ _) dX6_pull_61 ?_
      refine ax_iload_n cx 1 dX6_pull_64 rfl rfl ?_
      cases h
      exact ax_iret cx dX6_pull_65 rfl ⟨rfl, rfl⟩
    · rw [if_neg c15] at h
      refine ax_iconst cx dX6_pull_26 ?_
      cases h
      exact ax_iret cx dX6_pull_27 rfl ⟨rfl, rfl⟩
  clear h
  have h := e11
  clear e11
  refine ax_if_eq cx 19 dX6_pull_5 (by decide) g3 (fun c4 => ?_) (fun c4 => ?_)
  · rw [if_pos c4] at h
    refine ax_iconst cx dX6_pull_19 ?_
    cases h
    exact J10
  · rw [if_neg c4] at h
    refine ax_iload_n cx 2 dX6_pull_8 rfl rfl ?_
    obtain ⟨t5, e6, h⟩ := ob h
    refine ax_callS (As := [iV (x2)]) (n := 1) cx (kX6_isBubble l ad M x2 _ e6) gX6_pull_X6_isBubble rfl ⟨rfl, rfl⟩ (by decide +kernel) rfl ⟨by decide, by decide⟩ rfl (Nat.le_of_ble_eq_true rfl) dX6_pull_9 ?_
    obtain ⟨g7, h⟩ := gd_some h
    refine ax_if_eq cx 19 dX6_pull_12 (by decide) g7 (fun c8 => ?_) (fun c8 => ?_)
    · rw [if_pos c8] at h
      refine ax_iconst cx dX6_pull_19 ?_
      cases h
      exact J10
    · rw [if_neg c8] at h
      refine ax_iconst cx dX6_pull_15 ?_
      refine ax_goto cx 20 dX6_pull_16 (by decide) ?_
      cases h
      exact J10
def fX6_hold (M : Mem) (x1 : Int) (x2 : Int) : Option (Int × Mem) :=
    Option.bind (fX6_isBubble M x1) (fun t1 =>
    gd (inR (t1)) (
    Option.bind (if t1 = 0 then (
      some (1))
    else (
      some (0))) (fun t5 =>
    Option.bind (fX6_refused M t5) (fun t8 =>
    gd (inR (t8.1)) (
    if t8.1 = 0 then (
      gd (inB (x1) 8) (
      gd (inB (x1) 8) (
      gd (x2 = 0 ∨ x2 = 1) (
      gd (t8.2 5 x1.toNat = 0 ∨ t8.2 5 x1.toNat = 1) (
      some (t8.2 5 x1.toNat, (wr t8.2 5 x1.toNat x2)))))))
    else (
      some (0, t8.2)))))))
abbrev rmX6_hold : Room := { frames := 2, cells := 0, slots := 0, locals := 42 }
theorem hl_X6_hold_25 : Cond.fieldLink RX6 25 "PlateauBenchModel" "isHeld" "[Z" ∈ wsX6_hold := by decide +kernel
theorem hi_X6_hold_X6 : ∀ x ∈ u_ws RX6 TX6 19, x ∈ wsX6_hold := by decide +kernel
set_option maxRecDepth 100000 in
set_option maxHeartbeats 4000000 in
theorem kX6_hold (l : Launch) (ad : Nat → Nat) (M : Mem) (x1 : Int) (x2 : Int) (T : Int × Mem) (h : fX6_hold M x1 x2 = some T) : MX l yX6_hold wsX6_hold rmX6_hold wM ad [.ref (ad 14), iV (x1), iV (x2)] M (some (iV (T.1))) T.2 := by
  refine MX.of (cc := cX6_hold) (nL := 4) (rt := (some .boolean)) (own := RX6) (by decide +kernel) rfl rfl (Nat.le_of_ble_eq_true rfl) wM_ok (fun G cx => ?_)
  show G M 0 [(0, .ref (ad 14)), (1, iV (x1)), (2, iV (x2))] []
  unfold fX6_hold at h
  refine ax_aload_n cx 0 dX6_hold_0 rfl rfl ?_
  refine ax_iload_n cx 1 dX6_hold_1 rfl rfl ?_
  obtain ⟨t1, e2, h⟩ := ob h
  refine ax_callS (As := [iV (x1)]) (n := 1) cx (kX6_isBubble l ad M x1 _ e2) gX6_hold_X6_isBubble rfl ⟨rfl, rfl⟩ (by decide +kernel) rfl ⟨by decide, by decide⟩ rfl (Nat.le_of_ble_eq_true rfl) dX6_hold_2 ?_
  obtain ⟨g3, h⟩ := gd_some h
  obtain ⟨t5, e7, h⟩ := ob h
  have J6 : G M 13 [(0, .ref (ad 14)), (1, iV (x1)), (2, iV (x2))] [iV (t5), .ref (ad 14)] := by
    obtain ⟨t8, e9, h⟩ := ob h
    refine ax_callV (As := [iV (t5)]) (q := 14) (ci := 6) (n := 1) cx (kX6_refused l ad M t5 _ e9) gX6_hold_X6_refused rfl ⟨by decide, by decide⟩ rfl rfl ⟨rfl, rfl⟩ (by decide +kernel) rfl ⟨by decide, by decide⟩ rfl (Nat.le_of_ble_eq_true rfl) dX6_hold_13 ?_
    obtain ⟨g10, h⟩ := gd_some h
    refine ax_if_eq cx 21 dX6_hold_16 (by decide) g10 (fun c11 => ?_) (fun c11 => ?_)
    · rw [if_pos c11] at h
      refine ax_aload_n cx 0 dX6_hold_21 rfl rfl ?_
      refine ax_getf (q := 14) (ci := 6) (k := 7) (v := .ref (ad 5)) cx ⟨by decide, by decide⟩ rfl rfl hi_X6_hold_X6 (by decide) hl_X6_hold_25 rfl rfl dX6_hold_22 ?_
      refine ax_iload_n cx 1 dX6_hold_25 rfl rfl ?_
      obtain ⟨g12, h⟩ := gd_some h
      refine ax_zald (n := 8) cx (by decide) rfl rfl g12 dX6_hold_26 ?_
      refine ax_istore_n (lv' := [(3, iV (t8.2 5 x1.toNat)), (0, .ref (ad 14)), (1, iV (x1)), (2, iV (x2))]) cx dX6_hold_27 rfl (by decide) rfl ?_
      refine ax_aload_n cx 1 dX6_hold_28 rfl rfl ?_
      refine ax_getf (q := 14) (ci := 6) (k := 7) (v := .ref (ad 5)) cx ⟨by decide, by decide⟩ rfl rfl hi_X6_hold_X6 (by decide) hl_X6_hold_25 rfl rfl dX6_hold_29 ?_
      refine ax_iload_n cx 2 dX6_hold_32 rfl rfl ?_
      refine ax_iload_n cx 3 dX6_hold_33 rfl rfl ?_
      obtain ⟨g13, h⟩ := gd_some h
      obtain ⟨g14, h⟩ := gd_some h
      refine ax_zast (n := 8) cx (by decide) rfl rfl g13 g14 dX6_hold_34 ?_
      refine ax_iload_n cx 0 dX6_hold_35 rfl rfl ?_
      obtain ⟨g15, h⟩ := gd_some h
      cases h
      exact ax_zret cx dX6_hold_36 rfl g15 ⟨rfl, rfl⟩
    · rw [if_neg c11] at h
      refine ax_iconst cx dX6_hold_19 ?_
      cases h
      exact ax_zret cx dX6_hold_20 rfl (Or.inl rfl) ⟨rfl, rfl⟩
  clear h
  have h := e7
  clear e7
  refine ax_if_eq cx 12 dX6_hold_5 (by decide) g3 (fun c4 => ?_) (fun c4 => ?_)
  · rw [if_pos c4] at h
    refine ax_iconst cx dX6_hold_12 ?_
    cases h
    exact J6
  · rw [if_neg c4] at h
    refine ax_iconst cx dX6_hold_8 ?_
    refine ax_goto cx 13 dX6_hold_9 (by decide) ?_
    cases h
    exact J6
def fX6_wallsOf_L5 : Nat → Mem → Int → Int → Int → Int → Option (Int)
  | 0, _, _, _, _, _ => none
  | n + 1, M, x1, x2, x3, x4 =>
    gd (inR (x4)) (
    if 60 ≤ x4 then (
      some (x3))
    else (
      Option.bind (fX6_first M x4) (fun t3 =>
      gd (inR (t3)) (
      gd (inR (x1)) (
      Option.bind (if t3 = x1 then (
        Option.bind (fX6_second M x4) (fun t8 =>
        some (t8)))
      else (
        Option.bind (fX6_second M x4) (fun t10 =>
        gd (inR (t10)) (
        if t10 = x1 then (
          Option.bind (fX6_first M x4) (fun t14 =>
          some (t14)))
        else (
          some ((-1))))))) (fun t16 =>
      gd (inR (t16)) (
      Option.bind (if t16 = (-1) then (
        some (0))
      else (
        gd (inB (t16) 36) (
        gd (inR (M 4 t16.toNat)) (
        gd (inR (x2)) (
        if M 4 t16.toNat = x2 then (
          some (0))
        else (
          Option.bind (fX6_costOfEdge M x4) (fun t25 =>
          some (t25)))))))) (fun t27 =>
      fX6_wallsOf_L5 n M x1 x2 (x3 + t27) (x4 + 1)))))))))
def fX6_wallsOf (M : Mem) (x1 : Int) (x2 : Int) : Option (Int) :=
    Option.bind (fX6_wallsOf_L5 FU M x1 x2 0 0) (fun t31 =>
    some (t31))
abbrev rmX6_wallsOf : Room := { frames := 2, cells := 0, slots := 0, locals := 40 }
theorem hl_X6_wallsOf_22 : Cond.fieldLink RX6 22 "PlateauBenchModel" "bubbles" "[I" ∈ wsX6_wallsOf := by decide +kernel
theorem hi_X6_wallsOf_X6 : ∀ x ∈ u_ws RX6 TX6 19, x ∈ wsX6_wallsOf := by decide +kernel
set_option maxRecDepth 100000 in
set_option maxHeartbeats 4000000 in
theorem kX6_wallsOf (l : Launch) (ad : Nat → Nat) (M : Mem) (x1 : Int) (x2 : Int) (T : Int) (h : fX6_wallsOf M x1 x2 = some T) : MX l yX6_wallsOf wsX6_wallsOf rmX6_wallsOf wM ad [.ref (ad 14), iV (x1), iV (x2)] M (some (iV (T))) M := by
  refine MX.of (cc := cX6_wallsOf) (nL := 6) (rt := (some .int)) (own := RX6) (by decide +kernel) rfl rfl (Nat.le_of_ble_eq_true rfl) wM_ok (fun G cx => ?_)
  show G M 0 [(0, .ref (ad 14)), (1, iV (x1)), (2, iV (x2))] []
  have L5 : ∀ (n : Nat) (x1 : Int) (x2 : Int) (x3 : Int) (x4 : Int) (T30 : Int), fX6_wallsOf_L5 n M x1 x2 x3 x4 = some T30 → (G M 85 [(3, iV (T30))] []) → G M 5 [(0, .ref (ad 14)), (1, iV (x1)), (2, iV (x2)), (3, iV (x3)), (4, iV (x4))] [] := by
    intro n
    induction n with
    | zero =>
      intro x1 x2 x3 x4 T30 h
      exact absurd h (by simp [fX6_wallsOf_L5])
    | succ n ih =>
      intro x1 x2 x3 x4 T30 h hJ
      rw [fX6_wallsOf_L5] at h
      refine ax_iload cx 4 dX6_wallsOf_5 rfl ?_
      refine ax_bipush (z := 60) cx dX6_wallsOf_7 (by decide) ?_
      obtain ⟨g1, h⟩ := gd_some h
      refine ax_icmp_ge cx 85 dX6_wallsOf_9 (by decide) g1 ⟨by decide, by decide⟩ (fun c2 => ?_) (fun c2 => ?_)
      · rw [if_pos c2] at h
        refine ax_lv cx [3] rfl ?_
        cases h
        exact hJ
      · rw [if_neg c2] at h
        refine ax_iload cx 4 dX6_wallsOf_12 rfl ?_
        obtain ⟨t3, e4, h⟩ := ob h
        refine ax_callS (As := [iV (x4)]) (n := 1) cx (kX6_first l ad M x4 _ e4) gX6_wallsOf_X6_first rfl ⟨rfl, rfl⟩ (by decide +kernel) rfl ⟨by decide, by decide⟩ rfl (Nat.le_of_ble_eq_true rfl) dX6_wallsOf_14 ?_
        refine ax_iload_n cx 1 dX6_wallsOf_17 rfl rfl ?_
        obtain ⟨g5, h⟩ := gd_some h
        obtain ⟨g6, h⟩ := gd_some h
        obtain ⟨t16, e18, h⟩ := ob h
        have J17 : G M 47 [(0, .ref (ad 14)), (1, iV (x1)), (2, iV (x2)), (3, iV (x3)), (4, iV (x4))] [iV (t16)] := by
          refine ax_istore (lv' := [(5, iV (t16)), (0, .ref (ad 14)), (1, iV (x1)), (2, iV (x2)), (3, iV (x3)), (4, iV (x4))]) cx dX6_wallsOf_47 (by decide) rfl ?_
          refine ax_iload_n cx 4 dX6_wallsOf_49 rfl rfl ?_
          refine ax_iload cx 0 dX6_wallsOf_50 rfl ?_
          refine ax_iconst cx dX6_wallsOf_52 ?_
          obtain ⟨g19, h⟩ := gd_some h
          obtain ⟨t27, e29, h⟩ := ob h
          have J28 : G M 77 [(0, .ref (ad 14)), (1, iV (x1)), (2, iV (x2)), (4, iV (x4))] [iV (t27), iV (x3)] := by
            refine ax_iadd cx dX6_wallsOf_77 ?_
            refine ax_istore_n (lv' := [(3, iV (x3 + t27)), (0, .ref (ad 14)), (1, iV (x1)), (2, iV (x2)), (4, iV (x4))]) cx dX6_wallsOf_78 rfl (by decide) rfl ?_
            refine ax_iinc (lv' := [(4, iV (x4 + 1)), (3, iV (x3 + t27)), (0, .ref (ad 14)), (1, iV (x1)), (2, iV (x2))]) cx 4 dX6_wallsOf_79 rfl (by decide) rfl ?_
            refine ax_goto cx 5 dX6_wallsOf_82 (by decide) ?_
            refine ax_lv cx [2, 3, 4, 1, 0] rfl ?_
            exact ih _ _ _ _ _ h hJ
          clear h
          have h := e29
          clear e29
          refine ax_icmp_eq cx 76 dX6_wallsOf_53 (by decide) g19 ⟨by decide, by decide⟩ (fun c20 => ?_) (fun c20 => ?_)
          · rw [if_pos c20] at h
            refine ax_iconst cx dX6_wallsOf_76 ?_
            refine ax_lv cx [1, 2, 3, 5] rfl ?_
            cases h
            exact J28
          · rw [if_neg c20] at h
            refine ax_aload_n cx 1 dX6_wallsOf_56 rfl rfl ?_
            refine ax_getf (q := 14) (ci := 6) (k := 6) (v := .ref (ad 4)) cx ⟨by decide, by decide⟩ rfl rfl hi_X6_wallsOf_X6 (by decide) hl_X6_wallsOf_22 rfl rfl dX6_wallsOf_57 ?_
            refine ax_iload cx 0 dX6_wallsOf_60 rfl ?_
            obtain ⟨g21, h⟩ := gd_some h
            refine ax_iald (n := 36) cx (by decide) rfl rfl g21 dX6_wallsOf_62 ?_
            refine ax_iload_n cx 3 dX6_wallsOf_63 rfl rfl ?_
            obtain ⟨g22, h⟩ := gd_some h
            obtain ⟨g23, h⟩ := gd_some h
            refine ax_icmp_eq cx 76 dX6_wallsOf_64 (by decide) g22 g23 (fun c24 => ?_) (fun c24 => ?_)
            · rw [if_pos c24] at h
              refine ax_iconst cx dX6_wallsOf_76 ?_
              refine ax_lv cx [1, 2, 3, 5] rfl ?_
              cases h
              exact J28
            · rw [if_neg c24] at h
              refine ax_aload_n cx 1 dX6_wallsOf_67 rfl rfl ?_
              refine ax_iload cx 5 dX6_wallsOf_68 rfl ?_
              obtain ⟨t25, e26, h⟩ := ob h
              refine ax_callV (As := [iV (x4)]) (q := 14) (ci := 6) (n := 1) cx (kX6_costOfEdge l ad M x4 _ e26) gX6_wallsOf_X6_costOfEdge rfl ⟨by decide, by decide⟩ rfl rfl ⟨rfl, rfl⟩ (by decide +kernel) rfl ⟨by decide, by decide⟩ rfl (Nat.le_of_ble_eq_true rfl) dX6_wallsOf_70 ?_
              refine ax_goto cx 77 dX6_wallsOf_73 (by decide) ?_
              refine ax_lv cx [1, 2, 3, 5] rfl ?_
              cases h
              exact J28
        clear h
        have h := e18
        clear e18
        refine ax_icmp_ne cx 29 dX6_wallsOf_18 (by decide) g5 g6 (fun c7 => ?_) (fun c7 => ?_)
        · rw [if_pos c7] at h
          refine ax_iload cx 4 dX6_wallsOf_21 rfl ?_
          obtain ⟨t8, e9, h⟩ := ob h
          refine ax_callS (As := [iV (x4)]) (n := 1) cx (kX6_second l ad M x4 _ e9) gX6_wallsOf_X6_second rfl ⟨rfl, rfl⟩ (by decide +kernel) rfl ⟨by decide, by decide⟩ rfl (Nat.le_of_ble_eq_true rfl) dX6_wallsOf_23 ?_
          refine ax_goto cx 47 dX6_wallsOf_26 (by decide) ?_
          cases h
          exact J17
        · rw [if_neg c7] at h
          refine ax_iload cx 4 dX6_wallsOf_29 rfl ?_
          obtain ⟨t10, e11, h⟩ := ob h
          refine ax_callS (As := [iV (x4)]) (n := 1) cx (kX6_second l ad M x4 _ e11) gX6_wallsOf_X6_second rfl ⟨rfl, rfl⟩ (by decide +kernel) rfl ⟨by decide, by decide⟩ rfl (Nat.le_of_ble_eq_true rfl) dX6_wallsOf_31 ?_
          refine ax_iload_n cx 1 dX6_wallsOf_34 rfl rfl ?_
          obtain ⟨g12, h⟩ := gd_some h
          refine ax_icmp_ne cx 46 dX6_wallsOf_35 (by decide) g12 g6 (fun c13 => ?_) (fun c13 => ?_)
          · rw [if_pos c13] at h
            refine ax_iload cx 4 dX6_wallsOf_38 rfl ?_
            obtain ⟨t14, e15, h⟩ := ob h
            refine ax_callS (As := [iV (x4)]) (n := 1) cx (kX6_first l ad M x4 _ e15) gX6_wallsOf_X6_first rfl ⟨rfl, rfl⟩ (by decide +kernel) rfl ⟨by decide, by decide⟩ rfl (Nat.le_of_ble_eq_true rfl) dX6_wallsOf_40 ?_
            refine ax_goto cx 47 dX6_wallsOf_43 (by decide) ?_
            cases h
            exact J17
          · rw [if_neg c13] at h
            refine ax_iconst cx dX6_wallsOf_46 ?_
            cases h
            exact J17
  unfold fX6_wallsOf at h
  refine ax_iconst cx dX6_wallsOf_0 ?_
  refine ax_istore_n (lv' := [(3, iV (0)), (0, .ref (ad 14)), (1, iV (x1)), (2, iV (x2))]) cx dX6_wallsOf_1 rfl (by decide) rfl ?_
  refine ax_iconst cx dX6_wallsOf_2 ?_
  refine ax_istore (lv' := [(4, iV (0)), (3, iV (0)), (0, .ref (ad 14)), (1, iV (x1)), (2, iV (x2))]) cx dX6_wallsOf_3 (by decide) rfl ?_
  obtain ⟨t31, e32, h⟩ := ob h
  refine ax_lv cx [2, 3, 4, 1, 0] rfl ?_
  have J33 : G M 85 [(3, iV (t31))] [] := by
    refine ax_iload_n cx 0 dX6_wallsOf_85 rfl rfl ?_
    cases h
    exact ax_iret cx dX6_wallsOf_86 rfl ⟨rfl, rfl⟩
  exact L5 FU x1 x2 0 0 _ e32 J33
def fX6_isBeside_L5 : Nat → Mem → Int → Int → Int → Int → Option (Int)
  | 0, _, _, _, _, _ => none
  | n + 1, M, x1, x2, x3, x4 =>
    gd (inR (x4)) (
    if 60 ≤ x4 then (
      some (x3))
    else (
      Option.bind (fX6_first M x4) (fun t3 =>
      gd (inR (t3)) (
      gd (inR (x1)) (
      Option.bind (if t3 = x1 then (
        Option.bind (fX6_second M x4) (fun t8 =>
        some (t8)))
      else (
        Option.bind (fX6_second M x4) (fun t10 =>
        gd (inR (t10)) (
        if t10 = x1 then (
          Option.bind (fX6_first M x4) (fun t14 =>
          some (t14)))
        else (
          some ((-1))))))) (fun t16 =>
      gd (inR (x3)) (
      Option.bind (if x3 = 0 then (
        gd (inR (t16)) (
        if t16 = (-1) then (
          some (0))
        else (
          gd (inB (t16) 36) (
          gd (inR (M 4 t16.toNat)) (
          gd (inR (x2)) (
          if M 4 t16.toNat = x2 then (
            some (1))
          else (
            some (0))))))))
      else (
        some (1))) (fun t27 =>
      fX6_isBeside_L5 n M x1 x2 t27 (x4 + 1)))))))))
def fX6_isBeside (M : Mem) (x1 : Int) (x2 : Int) : Option (Int) :=
    Option.bind (fX6_isBeside_L5 FU M x1 x2 0 0) (fun t31 =>
    gd (t31 = 0 ∨ t31 = 1) (
    some (t31)))
abbrev rmX6_isBeside : Room := { frames := 2, cells := 0, slots := 0, locals := 40 }
theorem hl_X6_isBeside_22 : Cond.fieldLink RX6 22 "PlateauBenchModel" "bubbles" "[I" ∈ wsX6_isBeside := by decide +kernel
theorem hi_X6_isBeside_X6 : ∀ x ∈ u_ws RX6 TX6 19, x ∈ wsX6_isBeside := by decide +kernel
set_option maxRecDepth 100000 in
set_option maxHeartbeats 4000000 in
theorem kX6_isBeside (l : Launch) (ad : Nat → Nat) (M : Mem) (x1 : Int) (x2 : Int) (T : Int) (h : fX6_isBeside M x1 x2 = some T) : MX l yX6_isBeside wsX6_isBeside rmX6_isBeside wM ad [.ref (ad 14), iV (x1), iV (x2)] M (some (iV (T))) M := by
  refine MX.of (cc := cX6_isBeside) (nL := 6) (rt := (some .boolean)) (own := RX6) (by decide +kernel) rfl rfl (Nat.le_of_ble_eq_true rfl) wM_ok (fun G cx => ?_)
  show G M 0 [(0, .ref (ad 14)), (1, iV (x1)), (2, iV (x2))] []
  have L5 : ∀ (n : Nat) (x1 : Int) (x2 : Int) (x3 : Int) (x4 : Int) (T30 : Int), fX6_isBeside_L5 n M x1 x2 x3 x4 = some T30 → (G M 82 [(3, iV (T30))] []) → G M 5 [(0, .ref (ad 14)), (1, iV (x1)), (2, iV (x2)), (3, iV (x3)), (4, iV (x4))] [] := by
    intro n
    induction n with
    | zero =>
      intro x1 x2 x3 x4 T30 h
      exact absurd h (by simp [fX6_isBeside_L5])
    | succ n ih =>
      intro x1 x2 x3 x4 T30 h hJ
      rw [fX6_isBeside_L5] at h
      refine ax_iload cx 4 dX6_isBeside_5 rfl ?_
      refine ax_bipush (z := 60) cx dX6_isBeside_7 (by decide) ?_
      obtain ⟨g1, h⟩ := gd_some h
      refine ax_icmp_ge cx 82 dX6_isBeside_9 (by decide) g1 ⟨by decide, by decide⟩ (fun c2 => ?_) (fun c2 => ?_)
      · rw [if_pos c2] at h
        refine ax_lv cx [3] rfl ?_
        cases h
        exact hJ
      · rw [if_neg c2] at h
        refine ax_iload cx 4 dX6_isBeside_12 rfl ?_
        obtain ⟨t3, e4, h⟩ := ob h
        refine ax_callS (As := [iV (x4)]) (n := 1) cx (kX6_first l ad M x4 _ e4) gX6_isBeside_X6_first rfl ⟨rfl, rfl⟩ (by decide +kernel) rfl ⟨by decide, by decide⟩ rfl (Nat.le_of_ble_eq_true rfl) dX6_isBeside_14 ?_
        refine ax_iload_n cx 1 dX6_isBeside_17 rfl rfl ?_
        obtain ⟨g5, h⟩ := gd_some h
        obtain ⟨g6, h⟩ := gd_some h
        obtain ⟨t16, e18, h⟩ := ob h
        have J17 : G M 47 [(0, .ref (ad 14)), (1, iV (x1)), (2, iV (x2)), (3, iV (x3)), (4, iV (x4))] [iV (t16)] := by
          refine ax_istore (lv' := [(5, iV (t16)), (0, .ref (ad 14)), (1, iV (x1)), (2, iV (x2)), (3, iV (x3)), (4, iV (x4))]) cx dX6_isBeside_47 (by decide) rfl ?_
          refine ax_iload_n cx 4 dX6_isBeside_49 rfl rfl ?_
          obtain ⟨g19, h⟩ := gd_some h
          obtain ⟨t27, e29, h⟩ := ob h
          have J28 : G M 75 [(0, .ref (ad 14)), (1, iV (x1)), (2, iV (x2)), (4, iV (x4))] [iV (t27)] := by
            refine ax_istore_n (lv' := [(3, iV (t27)), (0, .ref (ad 14)), (1, iV (x1)), (2, iV (x2)), (4, iV (x4))]) cx dX6_isBeside_75 rfl (by decide) rfl ?_
            refine ax_iinc (lv' := [(4, iV (x4 + 1)), (3, iV (t27)), (0, .ref (ad 14)), (1, iV (x1)), (2, iV (x2))]) cx 4 dX6_isBeside_76 rfl (by decide) rfl ?_
            refine ax_goto cx 5 dX6_isBeside_79 (by decide) ?_
            refine ax_lv cx [2, 3, 4, 1, 0] rfl ?_
            exact ih _ _ _ _ _ h hJ
          clear h
          have h := e29
          clear e29
          refine ax_if_ne cx 70 dX6_isBeside_50 (by decide) g19 (fun c20 => ?_) (fun c20 => ?_)
          · rw [if_pos c20] at h
            refine ax_iload cx 0 dX6_isBeside_53 rfl ?_
            refine ax_iconst cx dX6_isBeside_55 ?_
            obtain ⟨g21, h⟩ := gd_some h
            refine ax_icmp_eq cx 74 dX6_isBeside_56 (by decide) g21 ⟨by decide, by decide⟩ (fun c22 => ?_) (fun c22 => ?_)
            · rw [if_pos c22] at h
              refine ax_iconst cx dX6_isBeside_74 ?_
              refine ax_lv cx [1, 2, 3, 5] rfl ?_
              cases h
              exact J28
            · rw [if_neg c22] at h
              refine ax_aload_n cx 1 dX6_isBeside_59 rfl rfl ?_
              refine ax_getf (q := 14) (ci := 6) (k := 6) (v := .ref (ad 4)) cx ⟨by decide, by decide⟩ rfl rfl hi_X6_isBeside_X6 (by decide) hl_X6_isBeside_22 rfl rfl dX6_isBeside_60 ?_
              refine ax_iload cx 0 dX6_isBeside_63 rfl ?_
              obtain ⟨g23, h⟩ := gd_some h
              refine ax_iald (n := 36) cx (by decide) rfl rfl g23 dX6_isBeside_65 ?_
              refine ax_iload_n cx 3 dX6_isBeside_66 rfl rfl ?_
              obtain ⟨g24, h⟩ := gd_some h
              obtain ⟨g25, h⟩ := gd_some h
              refine ax_icmp_ne cx 74 dX6_isBeside_67 (by decide) g24 g25 (fun c26 => ?_) (fun c26 => ?_)
              · rw [if_pos c26] at h
                refine ax_iconst cx dX6_isBeside_70 ?_
                refine ax_goto cx 75 dX6_isBeside_71 (by decide) ?_
                refine ax_lv cx [1, 2, 3, 5] rfl ?_
                cases h
                exact J28
              · rw [if_neg c26] at h
                refine ax_iconst cx dX6_isBeside_74 ?_
                refine ax_lv cx [1, 2, 3, 5] rfl ?_
                cases h
                exact J28
          · rw [if_neg c20] at h
            refine ax_iconst cx dX6_isBeside_70 ?_
            refine ax_goto cx 75 dX6_isBeside_71 (by decide) ?_
            refine ax_lv cx [1, 2, 3, 5] rfl ?_
            cases h
            exact J28
        clear h
        have h := e18
        clear e18
        refine ax_icmp_ne cx 29 dX6_isBeside_18 (by decide) g5 g6 (fun c7 => ?_) (fun c7 => ?_)
        · rw [if_pos c7] at h
          refine ax_iload cx 4 dX6_isBeside_21 rfl ?_
          obtain ⟨t8, e9, h⟩ := ob h
          refine ax_callS (As := [iV (x4)]) (n := 1) cx (kX6_second l ad M x4 _ e9) gX6_isBeside_X6_second rfl ⟨rfl, rfl⟩ (by decide +kernel) rfl ⟨by decide, by decide⟩ rfl (Nat.le_of_ble_eq_true rfl) dX6_isBeside_23 ?_
          refine ax_goto cx 47 dX6_isBeside_26 (by decide) ?_
          cases h
          exact J17
        · rw [if_neg c7] at h
          refine ax_iload cx 4 dX6_isBeside_29 rfl ?_
          obtain ⟨t10, e11, h⟩ := ob h
          refine ax_callS (As := [iV (x4)]) (n := 1) cx (kX6_second l ad M x4 _ e11) gX6_isBeside_X6_second rfl ⟨rfl, rfl⟩ (by decide +kernel) rfl ⟨by decide, by decide⟩ rfl (Nat.le_of_ble_eq_true rfl) dX6_isBeside_31 ?_
          refine ax_iload_n cx 1 dX6_isBeside_34 rfl rfl ?_
          obtain ⟨g12, h⟩ := gd_some h
          refine ax_icmp_ne cx 46 dX6_isBeside_35 (by decide) g12 g6 (fun c13 => ?_) (fun c13 => ?_)
          · rw [if_pos c13] at h
            refine ax_iload cx 4 dX6_isBeside_38 rfl ?_
            obtain ⟨t14, e15, h⟩ := ob h
            refine ax_callS (As := [iV (x4)]) (n := 1) cx (kX6_first l ad M x4 _ e15) gX6_isBeside_X6_first rfl ⟨rfl, rfl⟩ (by decide +kernel) rfl ⟨by decide, by decide⟩ rfl (Nat.le_of_ble_eq_true rfl) dX6_isBeside_40 ?_
            refine ax_goto cx 47 dX6_isBeside_43 (by decide) ?_
            cases h
            exact J17
          · rw [if_neg c13] at h
            refine ax_iconst cx dX6_isBeside_46 ?_
            cases h
            exact J17
  unfold fX6_isBeside at h
  refine ax_iconst cx dX6_isBeside_0 ?_
  refine ax_istore_n (lv' := [(3, iV (0)), (0, .ref (ad 14)), (1, iV (x1)), (2, iV (x2))]) cx dX6_isBeside_1 rfl (by decide) rfl ?_
  refine ax_iconst cx dX6_isBeside_2 ?_
  refine ax_istore (lv' := [(4, iV (0)), (3, iV (0)), (0, .ref (ad 14)), (1, iV (x1)), (2, iV (x2))]) cx dX6_isBeside_3 (by decide) rfl ?_
  obtain ⟨t31, e32, h⟩ := ob h
  refine ax_lv cx [2, 3, 4, 1, 0] rfl ?_
  have J33 : G M 82 [(3, iV (t31))] [] := by
    refine ax_iload_n cx 0 dX6_isBeside_82 rfl rfl ?_
    obtain ⟨g34, h⟩ := gd_some h
    cases h
    exact ax_zret cx dX6_isBeside_83 rfl g34 ⟨rfl, rfl⟩
  exact L5 FU x1 x2 0 0 _ e32 J33
def fX6_bestFor_L20 : Nat → Mem → Int → Int → Int → Int → Int → Option (Int)
  | 0, _, _, _, _, _, _ => none
  | n + 1, M, x1, x2, x3, x4, x5 =>
    gd (inR (x5)) (
    if 8 ≤ x5 then (
      some (x3))
    else (
      gd (inB (x2) 8) (
      gd (inR (M 5 x2.toNat)) (
      if M 5 x2.toNat = 0 then (
        gd (inB (x5) 8) (
        gd (inR (M 5 x5.toNat)) (
        Option.bind (if M 5 x5.toNat = 0 then (
          Option.bind (fX6_isBeside M x1 x5) (fun t12 =>
          gd (inR (t12)) (
          if t12 = 0 then (
            some (0))
          else (
            some (1)))))
        else (
          some (0))) (fun t16 =>
        gd (inR (t16)) (
        Option.bind (if t16 = 0 then (
          some (1000000000))
        else (
          Option.bind (fX6_wallsOf M x1 x5) (fun t21 =>
          some (t21)))) (fun t23 =>
        gd (inR (t23)) (
        gd (inR (x4)) (
        Option.bind (if x4 ≤ t23 then (
          some (x3))
        else (
          some (x5))) (fun t29 =>
        Option.bind (if x4 ≤ t23 then (
          some (x4))
        else (
          some (t23))) (fun t33 =>
        fX6_bestFor_L20 n M x1 x2 t29 t33 (x5 + 1)))))))))))
      else (
        some (x3))))))
def fX6_bestFor (M : Mem) (x1 : Int) : Option (Int) :=
    gd (inB (x1) 36) (
    Option.bind (fX6_wallsOf M x1 (M 4 x1.toNat)) (fun t2 =>
    Option.bind (fX6_bestFor_L20 FU M x1 (M 4 x1.toNat) (M 4 x1.toNat) t2 0) (fun t37 =>
    some (t37))))
abbrev rmX6_bestFor : Room := { frames := 3, cells := 0, slots := 0, locals := 65 }
theorem hl_X6_bestFor_22 : Cond.fieldLink RX6 22 "PlateauBenchModel" "bubbles" "[I" ∈ wsX6_bestFor := by decide +kernel
theorem hl_X6_bestFor_25 : Cond.fieldLink RX6 25 "PlateauBenchModel" "isHeld" "[Z" ∈ wsX6_bestFor := by decide +kernel
theorem hw_X6_bestFor_c85 : Cond.constant RX6 85 (1000000000) ∈ wsX6_bestFor := by decide +kernel
theorem hi_X6_bestFor_X6 : ∀ x ∈ u_ws RX6 TX6 19, x ∈ wsX6_bestFor := by decide +kernel
set_option maxRecDepth 100000 in
set_option maxHeartbeats 4000000 in
theorem kX6_bestFor (l : Launch) (ad : Nat → Nat) (M : Mem) (x1 : Int) (T : Int) (h : fX6_bestFor M x1 = some T) : MX l yX6_bestFor wsX6_bestFor rmX6_bestFor wM ad [.ref (ad 14), iV (x1)] M (some (iV (T))) M := by
  refine MX.of (cc := cX6_bestFor) (nL := 8) (rt := (some .int)) (own := RX6) (by decide +kernel) rfl rfl (Nat.le_of_ble_eq_true rfl) wM_ok (fun G cx => ?_)
  show G M 0 [(0, .ref (ad 14)), (1, iV (x1))] []
  have L20 : ∀ (n : Nat) (x1 : Int) (x2 : Int) (x3 : Int) (x4 : Int) (x5 : Int) (T36 : Int), fX6_bestFor_L20 n M x1 x2 x3 x4 x5 = some T36 → (G M 118 [(3, iV (T36))] []) → G M 20 [(0, .ref (ad 14)), (1, iV (x1)), (2, iV (x2)), (3, iV (x3)), (4, iV (x4)), (5, iV (x5))] [] := by
    intro n
    induction n with
    | zero =>
      intro x1 x2 x3 x4 x5 T36 h
      exact absurd h (by simp [fX6_bestFor_L20])
    | succ n ih =>
      intro x1 x2 x3 x4 x5 T36 h hJ
      rw [fX6_bestFor_L20] at h
      refine ax_iload cx 5 dX6_bestFor_20 rfl ?_
      refine ax_bipush (z := 8) cx dX6_bestFor_22 (by decide) ?_
      obtain ⟨g4, h⟩ := gd_some h
      refine ax_icmp_ge cx 118 dX6_bestFor_24 (by decide) g4 ⟨by decide, by decide⟩ (fun c5 => ?_) (fun c5 => ?_)
      · rw [if_pos c5] at h
        refine ax_lv cx [3] rfl ?_
        cases h
        exact hJ
      · rw [if_neg c5] at h
        refine ax_aload_n cx 0 dX6_bestFor_27 rfl rfl ?_
        refine ax_getf (q := 14) (ci := 6) (k := 7) (v := .ref (ad 5)) cx ⟨by decide, by decide⟩ rfl rfl hi_X6_bestFor_X6 (by decide) hl_X6_bestFor_25 rfl rfl dX6_bestFor_28 ?_
        refine ax_iload_n cx 2 dX6_bestFor_31 rfl rfl ?_
        obtain ⟨g6, h⟩ := gd_some h
        refine ax_zald (n := 8) cx (by decide) rfl rfl g6 dX6_bestFor_32 ?_
        obtain ⟨g7, h⟩ := gd_some h
        refine ax_if_ne cx 118 dX6_bestFor_33 (by decide) g7 (fun c8 => ?_) (fun c8 => ?_)
        · rw [if_pos c8] at h
          refine ax_aload_n cx 0 dX6_bestFor_36 rfl rfl ?_
          refine ax_getf (q := 14) (ci := 6) (k := 7) (v := .ref (ad 5)) cx ⟨by decide, by decide⟩ rfl rfl hi_X6_bestFor_X6 (by decide) hl_X6_bestFor_25 rfl rfl dX6_bestFor_37 ?_
          refine ax_iload cx 5 dX6_bestFor_40 rfl ?_
          obtain ⟨g9, h⟩ := gd_some h
          refine ax_zald (n := 8) cx (by decide) rfl rfl g9 dX6_bestFor_42 ?_
          obtain ⟨g10, h⟩ := gd_some h
          obtain ⟨t16, e18, h⟩ := ob h
          have J17 : G M 61 [(0, .ref (ad 14)), (1, iV (x1)), (2, iV (x2)), (3, iV (x3)), (4, iV (x4)), (5, iV (x5))] [iV (t16)] := by
            refine ax_istore (lv' := [(6, iV (t16)), (0, .ref (ad 14)), (1, iV (x1)), (2, iV (x2)), (3, iV (x3)), (4, iV (x4)), (5, iV (x5))]) cx dX6_bestFor_61 (by decide) rfl ?_
            refine ax_iload cx 0 dX6_bestFor_63 rfl ?_
            obtain ⟨g19, h⟩ := gd_some h
            obtain ⟨t23, e25, h⟩ := ob h
            have J24 : G M 80 [(0, .ref (ad 14)), (1, iV (x1)), (2, iV (x2)), (3, iV (x3)), (4, iV (x4)), (5, iV (x5))] [iV (t23)] := by
              refine ax_istore (lv' := [(7, iV (t23)), (0, .ref (ad 14)), (1, iV (x1)), (2, iV (x2)), (3, iV (x3)), (4, iV (x4)), (5, iV (x5))]) cx dX6_bestFor_80 (by decide) rfl ?_
              refine ax_iload cx 0 dX6_bestFor_82 rfl ?_
              refine ax_iload cx 5 dX6_bestFor_84 rfl ?_
              obtain ⟨g26, h⟩ := gd_some h
              obtain ⟨g27, h⟩ := gd_some h
              obtain ⟨t29, e31, h⟩ := ob h
              have J30 : G M 95 [(0, .ref (ad 14)), (1, iV (x1)), (2, iV (x2)), (4, iV (x4)), (5, iV (x5)), (7, iV (t23))] [iV (t29)] := by
                refine ax_istore_n (lv' := [(3, iV (t29)), (0, .ref (ad 14)), (1, iV (x1)), (2, iV (x2)), (4, iV (x4)), (5, iV (x5)), (7, iV (t23))]) cx dX6_bestFor_95 rfl (by decide) rfl ?_
                refine ax_iload cx 6 dX6_bestFor_96 rfl ?_
                refine ax_iload cx 4 dX6_bestFor_98 rfl ?_
                obtain ⟨t33, e35, h⟩ := ob h
                have J34 : G M 110 [(0, .ref (ad 14)), (1, iV (x1)), (2, iV (x2)), (3, iV (t29)), (5, iV (x5))] [iV (t33)] := by
                  refine ax_istore (lv' := [(4, iV (t33)), (0, .ref (ad 14)), (1, iV (x1)), (2, iV (x2)), (3, iV (t29)), (5, iV (x5))]) cx dX6_bestFor_110 (by decide) rfl ?_
                  refine ax_iinc (lv' := [(5, iV (x5 + 1)), (4, iV (t33)), (0, .ref (ad 14)), (1, iV (x1)), (2, iV (x2)), (3, iV (t29))]) cx 5 dX6_bestFor_112 rfl (by decide) rfl ?_
                  refine ax_goto cx 20 dX6_bestFor_115 (by decide) ?_
                  refine ax_lv cx [2, 3, 4, 5, 1, 0] rfl ?_
                  exact ih _ _ _ _ _ _ h hJ
                clear h
                have h := e35
                clear e35
                refine ax_icmp_ge cx 108 dX6_bestFor_100 (by decide) g26 g27 (fun c32 => ?_) (fun c32 => ?_)
                · rw [if_pos c32] at h
                  refine ax_iload cx 4 dX6_bestFor_108 rfl ?_
                  refine ax_lv cx [1, 2, 3, 0, 5] rfl ?_
                  cases h
                  exact J34
                · rw [if_neg c32] at h
                  refine ax_iload cx 6 dX6_bestFor_103 rfl ?_
                  refine ax_goto cx 110 dX6_bestFor_105 (by decide) ?_
                  refine ax_lv cx [1, 2, 3, 0, 5] rfl ?_
                  cases h
                  exact J34
              clear h
              have h := e31
              clear e31
              refine ax_icmp_ge cx 94 dX6_bestFor_86 (by decide) g26 g27 (fun c28 => ?_) (fun c28 => ?_)
              · rw [if_pos c28] at h
                refine ax_iload_n cx 4 dX6_bestFor_94 rfl rfl ?_
                refine ax_lv cx [1, 2, 3, 5, 6, 0] rfl ?_
                cases h
                exact J30
              · rw [if_neg c28] at h
                refine ax_iload cx 6 dX6_bestFor_89 rfl ?_
                refine ax_goto cx 95 dX6_bestFor_91 (by decide) ?_
                refine ax_lv cx [1, 2, 3, 5, 6, 0] rfl ?_
                cases h
                exact J30
            clear h
            have h := e25
            clear e25
            refine ax_if_eq cx 78 dX6_bestFor_65 (by decide) g19 (fun c20 => ?_) (fun c20 => ?_)
            · rw [if_pos c20] at h
              refine ax_ldc (z := 1000000000) cx dX6_bestFor_78 hw_X6_bestFor_c85 (by decide) ?_
              refine ax_lv cx [1, 2, 3, 4, 5, 6] rfl ?_
              cases h
              exact J24
            · rw [if_neg c20] at h
              refine ax_aload_n cx 1 dX6_bestFor_68 rfl rfl ?_
              refine ax_iload_n cx 2 dX6_bestFor_69 rfl rfl ?_
              refine ax_iload cx 6 dX6_bestFor_70 rfl ?_
              obtain ⟨t21, e22, h⟩ := ob h
              refine ax_callV (As := [iV (x1), iV (x5)]) (q := 14) (ci := 6) (n := 2) cx (kX6_wallsOf l ad M x1 x5 _ e22) gX6_bestFor_X6_wallsOf rfl ⟨by decide, by decide⟩ rfl rfl ⟨rfl, rfl⟩ (by decide +kernel) rfl ⟨by decide, by decide⟩ rfl (Nat.le_of_ble_eq_true rfl) dX6_bestFor_72 ?_
              refine ax_goto cx 80 dX6_bestFor_75 (by decide) ?_
              refine ax_lv cx [1, 2, 3, 4, 5, 6] rfl ?_
              cases h
              exact J24
          clear h
          have h := e18
          clear e18
          refine ax_if_ne cx 60 dX6_bestFor_43 (by decide) g10 (fun c11 => ?_) (fun c11 => ?_)
          · rw [if_pos c11] at h
            refine ax_aload_n cx 0 dX6_bestFor_46 rfl rfl ?_
            refine ax_iload_n cx 1 dX6_bestFor_47 rfl rfl ?_
            refine ax_iload cx 5 dX6_bestFor_48 rfl ?_
            obtain ⟨t12, e13, h⟩ := ob h
            refine ax_callV (As := [iV (x1), iV (x5)]) (q := 14) (ci := 6) (n := 2) cx (kX6_isBeside l ad M x1 x5 _ e13) gX6_bestFor_X6_isBeside rfl ⟨by decide, by decide⟩ rfl rfl ⟨rfl, rfl⟩ (by decide +kernel) rfl ⟨by decide, by decide⟩ rfl (Nat.le_of_ble_eq_true rfl) dX6_bestFor_50 ?_
            obtain ⟨g14, h⟩ := gd_some h
            refine ax_if_eq cx 60 dX6_bestFor_53 (by decide) g14 (fun c15 => ?_) (fun c15 => ?_)
            · rw [if_pos c15] at h
              refine ax_iconst cx dX6_bestFor_60 ?_
              cases h
              exact J17
            · rw [if_neg c15] at h
              refine ax_iconst cx dX6_bestFor_56 ?_
              refine ax_goto cx 61 dX6_bestFor_57 (by decide) ?_
              cases h
              exact J17
          · rw [if_neg c11] at h
            refine ax_iconst cx dX6_bestFor_60 ?_
            cases h
            exact J17
        · rw [if_neg c8] at h
          refine ax_lv cx [3] rfl ?_
          cases h
          exact hJ
  unfold fX6_bestFor at h
  refine ax_aload_n cx 0 dX6_bestFor_0 rfl rfl ?_
  refine ax_getf (q := 14) (ci := 6) (k := 6) (v := .ref (ad 4)) cx ⟨by decide, by decide⟩ rfl rfl hi_X6_bestFor_X6 (by decide) hl_X6_bestFor_22 rfl rfl dX6_bestFor_1 ?_
  refine ax_iload_n cx 1 dX6_bestFor_4 rfl rfl ?_
  obtain ⟨g1, h⟩ := gd_some h
  refine ax_iald (n := 36) cx (by decide) rfl rfl g1 dX6_bestFor_5 ?_
  refine ax_istore_n (lv' := [(2, iV (M 4 x1.toNat)), (0, .ref (ad 14)), (1, iV (x1))]) cx dX6_bestFor_6 rfl (by decide) rfl ?_
  refine ax_iload_n cx 0 dX6_bestFor_7 rfl rfl ?_
  refine ax_istore_n (lv' := [(3, iV (M 4 x1.toNat)), (2, iV (M 4 x1.toNat)), (0, .ref (ad 14)), (1, iV (x1))]) cx dX6_bestFor_8 rfl (by decide) rfl ?_
  refine ax_aload_n cx 2 dX6_bestFor_9 rfl rfl ?_
  refine ax_iload_n cx 3 dX6_bestFor_10 rfl rfl ?_
  refine ax_iload_n cx 1 dX6_bestFor_11 rfl rfl ?_
  obtain ⟨t2, e3, h⟩ := ob h
  refine ax_callV (As := [iV (x1), iV (M 4 x1.toNat)]) (q := 14) (ci := 6) (n := 2) cx (kX6_wallsOf l ad M x1 (M 4 x1.toNat) _ e3) gX6_bestFor_X6_wallsOf rfl ⟨by decide, by decide⟩ rfl rfl ⟨rfl, rfl⟩ (by decide +kernel) rfl ⟨by decide, by decide⟩ rfl (Nat.le_of_ble_eq_true rfl) dX6_bestFor_12 ?_
  refine ax_istore (lv' := [(4, iV (t2)), (3, iV (M 4 x1.toNat)), (2, iV (M 4 x1.toNat)), (0, .ref (ad 14)), (1, iV (x1))]) cx dX6_bestFor_15 (by decide) rfl ?_
  refine ax_iconst cx dX6_bestFor_17 ?_
  refine ax_istore (lv' := [(5, iV (0)), (4, iV (t2)), (3, iV (M 4 x1.toNat)), (2, iV (M 4 x1.toNat)), (0, .ref (ad 14)), (1, iV (x1))]) cx dX6_bestFor_18 (by decide) rfl ?_
  obtain ⟨t37, e38, h⟩ := ob h
  refine ax_lv cx [4, 5, 3, 2, 1, 0] rfl ?_
  have J39 : G M 118 [(3, iV (t37))] [] := by
    refine ax_iload_n cx 0 dX6_bestFor_118 rfl rfl ?_
    cases h
    exact ax_iret cx dX6_bestFor_119 rfl ⟨rfl, rfl⟩
  exact L20 FU x1 (M 4 x1.toNat) (M 4 x1.toNat) t2 0 _ e38 J39
def fX6_breath_L4 : Nat → Mem → Int → Int → Option (Int × Mem)
  | 0, _, _, _ => none
  | n + 1, M, x1, x2 =>
    gd (inR (x2)) (
    if 36 ≤ x2 then (
      some (x1, M))
    else (
      Option.bind (fX6_bestFor M x2) (fun t3 =>
      gd (inB (x2) 36) (
      gd (inR (t3)) (
      gd (inR (M 4 x2.toNat)) (
      Option.bind (if t3 = M 4 x2.toNat then (
        some (0))
      else (
        some (1))) (fun t9 =>
      gd (inB (x2) 36) (
      fX6_breath_L4 n (wr M 4 x2.toNat t3) (x1 + t9) (x2 + 1)))))))))
def fX6_breath (M : Mem)  : Option (Int × Mem) :=
    Option.bind (fX6_breath_L4 FU M 0 0) (fun t14 =>
    some (t14.1, t14.2))
abbrev rmX6_breath : Room := { frames := 4, cells := 0, slots := 0, locals := 92 }
theorem hl_X6_breath_22 : Cond.fieldLink RX6 22 "PlateauBenchModel" "bubbles" "[I" ∈ wsX6_breath := by decide +kernel
theorem hi_X6_breath_X6 : ∀ x ∈ u_ws RX6 TX6 19, x ∈ wsX6_breath := by decide +kernel
set_option maxRecDepth 100000 in
set_option maxHeartbeats 4000000 in
theorem kX6_breath (l : Launch) (ad : Nat → Nat) (M : Mem)  (T : Int × Mem) (h : fX6_breath M  = some T) : MX l yX6_breath wsX6_breath rmX6_breath wM ad [.ref (ad 14)] M (some (iV (T.1))) T.2 := by
  refine MX.of (cc := cX6_breath) (nL := 4) (rt := (some .int)) (own := RX6) (by decide +kernel) rfl rfl (Nat.le_of_ble_eq_true rfl) wM_ok (fun G cx => ?_)
  show G M 0 [(0, .ref (ad 14))] []
  have L4 : ∀ (n : Nat) (M : Mem) (x1 : Int) (x2 : Int) (T13 : Int × Mem), fX6_breath_L4 n M x1 x2 = some T13 → (G T13.2 47 [(1, iV (T13.1))] []) → G M 4 [(0, .ref (ad 14)), (1, iV (x1)), (2, iV (x2))] [] := by
    intro n
    induction n with
    | zero =>
      intro M x1 x2 T13 h
      exact absurd h (by simp [fX6_breath_L4])
    | succ n ih =>
      intro M x1 x2 T13 h hJ
      rw [fX6_breath_L4] at h
      refine ax_iload_n cx 2 dX6_breath_4 rfl rfl ?_
      refine ax_bipush (z := 36) cx dX6_breath_5 (by decide) ?_
      obtain ⟨g1, h⟩ := gd_some h
      refine ax_icmp_ge cx 47 dX6_breath_7 (by decide) g1 ⟨by decide, by decide⟩ (fun c2 => ?_) (fun c2 => ?_)
      · rw [if_pos c2] at h
        refine ax_lv cx [1] rfl ?_
        cases h
        exact hJ
      · rw [if_neg c2] at h
        refine ax_aload_n cx 0 dX6_breath_10 rfl rfl ?_
        refine ax_iload_n cx 2 dX6_breath_11 rfl rfl ?_
        obtain ⟨t3, e4, h⟩ := ob h
        refine ax_callV (As := [iV (x2)]) (q := 14) (ci := 6) (n := 1) cx (kX6_bestFor l ad M x2 _ e4) gX6_breath_X6_bestFor rfl ⟨by decide, by decide⟩ rfl rfl ⟨rfl, rfl⟩ (by decide +kernel) rfl ⟨by decide, by decide⟩ rfl (Nat.le_of_ble_eq_true rfl) dX6_breath_12 ?_
        refine ax_istore_n (lv' := [(3, iV (t3)), (0, .ref (ad 14)), (1, iV (x1)), (2, iV (x2))]) cx dX6_breath_15 rfl (by decide) rfl ?_
        refine ax_iload_n cx 2 dX6_breath_16 rfl rfl ?_
        refine ax_iload_n cx 0 dX6_breath_17 rfl rfl ?_
        refine ax_aload_n cx 1 dX6_breath_18 rfl rfl ?_
        refine ax_getf (q := 14) (ci := 6) (k := 6) (v := .ref (ad 4)) cx ⟨by decide, by decide⟩ rfl rfl hi_X6_breath_X6 (by decide) hl_X6_breath_22 rfl rfl dX6_breath_19 ?_
        refine ax_iload_n cx 3 dX6_breath_22 rfl rfl ?_
        obtain ⟨g5, h⟩ := gd_some h
        refine ax_iald (n := 36) cx (by decide) rfl rfl g5 dX6_breath_23 ?_
        obtain ⟨g6, h⟩ := gd_some h
        obtain ⟨g7, h⟩ := gd_some h
        obtain ⟨t9, e11, h⟩ := ob h
        have J10 : G M 32 [(0, .ref (ad 14)), (2, iV (x2)), (3, iV (t3))] [iV (t9), iV (x1)] := by
          refine ax_iadd cx dX6_breath_32 ?_
          refine ax_istore_n (lv' := [(1, iV (x1 + t9)), (0, .ref (ad 14)), (2, iV (x2)), (3, iV (t3))]) cx dX6_breath_33 rfl (by decide) rfl ?_
          refine ax_aload_n cx 1 dX6_breath_34 rfl rfl ?_
          refine ax_getf (q := 14) (ci := 6) (k := 6) (v := .ref (ad 4)) cx ⟨by decide, by decide⟩ rfl rfl hi_X6_breath_X6 (by decide) hl_X6_breath_22 rfl rfl dX6_breath_35 ?_
          refine ax_iload_n cx 2 dX6_breath_38 rfl rfl ?_
          refine ax_iload_n cx 3 dX6_breath_39 rfl rfl ?_
          obtain ⟨g12, h⟩ := gd_some h
          refine ax_iast (n := 36) cx (by decide) rfl rfl g12 dX6_breath_40 ?_
          refine ax_iinc (lv' := [(2, iV (x2 + 1)), (1, iV (x1 + t9)), (0, .ref (ad 14)), (3, iV (t3))]) cx 2 dX6_breath_41 rfl (by decide) rfl ?_
          refine ax_goto cx 4 dX6_breath_44 (by decide) ?_
          refine ax_lv cx [2, 1, 0] rfl ?_
          exact ih _ _ _ _ h hJ
        clear h
        have h := e11
        clear e11
        refine ax_icmp_ne cx 31 dX6_breath_24 (by decide) g6 g7 (fun c8 => ?_) (fun c8 => ?_)
        · rw [if_pos c8] at h
          refine ax_iconst cx dX6_breath_27 ?_
          refine ax_goto cx 32 dX6_breath_28 (by decide) ?_
          refine ax_lv cx [1, 3, 0] rfl ?_
          cases h
          exact J10
        · rw [if_neg c8] at h
          refine ax_iconst cx dX6_breath_31 ?_
          refine ax_lv cx [1, 3, 0] rfl ?_
          cases h
          exact J10
  unfold fX6_breath at h
  refine ax_iconst cx dX6_breath_0 ?_
  refine ax_istore_n (lv' := [(1, iV (0)), (0, .ref (ad 14))]) cx dX6_breath_1 rfl (by decide) rfl ?_
  refine ax_iconst cx dX6_breath_2 ?_
  refine ax_istore_n (lv' := [(2, iV (0)), (1, iV (0)), (0, .ref (ad 14))]) cx dX6_breath_3 rfl (by decide) rfl ?_
  obtain ⟨t14, e15, h⟩ := ob h
  refine ax_lv cx [2, 1, 0] rfl ?_
  have J16 : G t14.2 47 [(1, iV (t14.1))] [] := by
    refine ax_iload_n cx 0 dX6_breath_47 rfl rfl ?_
    cases h
    exact ax_iret cx dX6_breath_48 rfl ⟨rfl, rfl⟩
  exact L4 FU M 0 0 _ e15 J16
def fX6_breathe_L34 : Nat → Mem → Int → Int → Int → Int → Option (Int × Mem)
  | 0, _, _, _, _, _ => none
  | n + 1, M, x1, x2, x3, x4 =>
    gd (inR (x4)) (
    gd (inR (x1)) (
    if x1 ≤ x4 then (
      some (x3, M))
    else (
      Option.bind (fX6_breath M) (fun t17 =>
      fX6_breathe_L34 n t17.2 x1 x2 (x3 + t17.1) (x4 + 1)))))
def fX6_breathe (M : Mem) (x1 : Int) : Option (Int × Mem) :=
    Option.bind (fX6_in M x1 1 100) (fun t1 =>
    gd (inR (t1)) (
    Option.bind (if t1 = 0 then (
      some (1))
    else (
      some (0))) (fun t5 =>
    Option.bind (fX6_refused M t5) (fun t8 =>
    gd (inR (t8.1)) (
    if t8.1 = 0 then (
      Option.bind (fX6_energyNow t8.2) (fun t12 =>
      Option.bind (fX6_breathe_L34 FU t8.2 x1 t12 0 0) (fun t20 =>
      Option.bind (fX6_energyNow t20.2) (fun t23 =>
      some (t20.1, (wr t20.2 103 0 ((t20.2 103 0) + (t12 - t23))))))))
    else (
      some (0, t8.2)))))))
abbrev rmX6_breathe : Room := { frames := 5, cells := 0, slots := 0, locals := 115 }
theorem hl_X6_breathe_162 : Cond.fieldLink RX6 162 "PlateauBenchModel" "lost" "I" ∈ wsX6_breathe := by decide +kernel
theorem hi_X6_breathe_X6 : ∀ x ∈ u_ws RX6 TX6 19, x ∈ wsX6_breathe := by decide +kernel
set_option maxRecDepth 100000 in
set_option maxHeartbeats 4000000 in
theorem kX6_breathe (l : Launch) (ad : Nat → Nat) (M : Mem) (x1 : Int) (T : Int × Mem) (h : fX6_breathe M x1 = some T) : MX l yX6_breathe wsX6_breathe rmX6_breathe wM ad [.ref (ad 14), iV (x1)] M (some (iV (T.1))) T.2 := by
  refine MX.of (cc := cX6_breathe) (nL := 5) (rt := (some .int)) (own := RX6) (by decide +kernel) rfl rfl (Nat.le_of_ble_eq_true rfl) wM_ok (fun G cx => ?_)
  show G M 0 [(0, .ref (ad 14)), (1, iV (x1))] []
  have L34 : ∀ (n : Nat) (M : Mem) (x1 : Int) (x2 : Int) (x3 : Int) (x4 : Int) (T19 : Int × Mem), fX6_breathe_L34 n M x1 x2 x3 x4 = some T19 → (G T19.2 53 [(0, .ref (ad 14)), (2, iV (x2)), (3, iV (T19.1))] []) → G M 34 [(0, .ref (ad 14)), (1, iV (x1)), (2, iV (x2)), (3, iV (x3)), (4, iV (x4))] [] := by
    intro n
    induction n with
    | zero =>
      intro M x1 x2 x3 x4 T19 h
      exact absurd h (by simp [fX6_breathe_L34])
    | succ n ih =>
      intro M x1 x2 x3 x4 T19 h hJ
      rw [fX6_breathe_L34] at h
      refine ax_iload cx 4 dX6_breathe_34 rfl ?_
      refine ax_iload_n cx 1 dX6_breathe_36 rfl rfl ?_
      obtain ⟨g14, h⟩ := gd_some h
      obtain ⟨g15, h⟩ := gd_some h
      refine ax_icmp_ge cx 53 dX6_breathe_37 (by decide) g14 g15 (fun c16 => ?_) (fun c16 => ?_)
      · rw [if_pos c16] at h
        refine ax_lv cx [0, 2, 3] rfl ?_
        cases h
        exact hJ
      · rw [if_neg c16] at h
        refine ax_iload_n cx 3 dX6_breathe_40 rfl rfl ?_
        refine ax_aload_n cx 0 dX6_breathe_41 rfl rfl ?_
        obtain ⟨t17, e18, h⟩ := ob h
        refine ax_callV (As := []) (q := 14) (ci := 6) (n := 0) cx (kX6_breath l ad M  _ e18) gX6_breathe_X6_breath rfl ⟨by decide, by decide⟩ rfl rfl ⟨rfl, rfl⟩ (by decide +kernel) rfl ⟨by decide, by decide⟩ rfl (Nat.le_of_ble_eq_true rfl) dX6_breathe_42 ?_
        refine ax_iadd cx dX6_breathe_45 ?_
        refine ax_istore_n (lv' := [(3, iV (x3 + t17.1)), (0, .ref (ad 14)), (1, iV (x1)), (2, iV (x2)), (4, iV (x4))]) cx dX6_breathe_46 rfl (by decide) rfl ?_
        refine ax_iinc (lv' := [(4, iV (x4 + 1)), (3, iV (x3 + t17.1)), (0, .ref (ad 14)), (1, iV (x1)), (2, iV (x2))]) cx 4 dX6_breathe_47 rfl (by decide) rfl ?_
        refine ax_goto cx 34 dX6_breathe_50 (by decide) ?_
        refine ax_lv cx [2, 3, 4, 1, 0] rfl ?_
        exact ih _ _ _ _ _ _ h hJ
  unfold fX6_breathe at h
  refine ax_aload_n cx 0 dX6_breathe_0 rfl rfl ?_
  refine ax_iload_n cx 1 dX6_breathe_1 rfl rfl ?_
  refine ax_iconst cx dX6_breathe_2 ?_
  refine ax_bipush (z := 100) cx dX6_breathe_3 (by decide) ?_
  obtain ⟨t1, e2, h⟩ := ob h
  refine ax_callS (As := [iV (x1), iV (1), iV (100)]) (n := 3) cx (kX6_in l ad M x1 1 100 _ e2) gX6_breathe_X6_in rfl ⟨rfl, rfl⟩ (by decide +kernel) rfl ⟨by decide, by decide⟩ rfl (Nat.le_of_ble_eq_true rfl) dX6_breathe_5 ?_
  obtain ⟨g3, h⟩ := gd_some h
  obtain ⟨t5, e7, h⟩ := ob h
  have J6 : G M 16 [(0, .ref (ad 14)), (1, iV (x1))] [iV (t5), .ref (ad 14)] := by
    obtain ⟨t8, e9, h⟩ := ob h
    refine ax_callV (As := [iV (t5)]) (q := 14) (ci := 6) (n := 1) cx (kX6_refused l ad M t5 _ e9) gX6_breathe_X6_refused rfl ⟨by decide, by decide⟩ rfl rfl ⟨rfl, rfl⟩ (by decide +kernel) rfl ⟨by decide, by decide⟩ rfl (Nat.le_of_ble_eq_true rfl) dX6_breathe_16 ?_
    obtain ⟨g10, h⟩ := gd_some h
    refine ax_if_eq cx 24 dX6_breathe_19 (by decide) g10 (fun c11 => ?_) (fun c11 => ?_)
    · rw [if_pos c11] at h
      refine ax_aload_n cx 0 dX6_breathe_24 rfl rfl ?_
      obtain ⟨t12, e13, h⟩ := ob h
      refine ax_callV (As := []) (q := 14) (ci := 6) (n := 0) cx (kX6_energyNow l ad t8.2  _ e13) gX6_breathe_X6_energyNow rfl ⟨by decide, by decide⟩ rfl rfl ⟨rfl, rfl⟩ (by decide +kernel) rfl ⟨by decide, by decide⟩ rfl (Nat.le_of_ble_eq_true rfl) dX6_breathe_25 ?_
      refine ax_istore_n (lv' := [(2, iV (t12)), (0, .ref (ad 14)), (1, iV (x1))]) cx dX6_breathe_28 rfl (by decide) rfl ?_
      refine ax_iconst cx dX6_breathe_29 ?_
      refine ax_istore_n (lv' := [(3, iV (0)), (2, iV (t12)), (0, .ref (ad 14)), (1, iV (x1))]) cx dX6_breathe_30 rfl (by decide) rfl ?_
      refine ax_iconst cx dX6_breathe_31 ?_
      refine ax_istore (lv' := [(4, iV (0)), (3, iV (0)), (2, iV (t12)), (0, .ref (ad 14)), (1, iV (x1))]) cx dX6_breathe_32 (by decide) rfl ?_
      obtain ⟨t20, e21, h⟩ := ob h
      refine ax_lv cx [3, 4, 2, 1, 0] rfl ?_
      have J22 : G t20.2 53 [(0, .ref (ad 14)), (2, iV (t12)), (3, iV (t20.1))] [] := by
        refine ax_aload_n cx 0 dX6_breathe_53 rfl rfl ?_
        refine ax_dup cx dX6_breathe_54 rfl ?_
        refine ax_getf (q := 14) (ci := 6) (k := 9) (v := iV (t20.2 103 0)) cx ⟨by decide, by decide⟩ rfl rfl hi_X6_breathe_X6 (by decide) hl_X6_breathe_162 rfl rfl dX6_breathe_55 ?_
        refine ax_iload_n cx 1 dX6_breathe_58 rfl rfl ?_
        refine ax_aload_n cx 0 dX6_breathe_59 rfl rfl ?_
        obtain ⟨t23, e24, h⟩ := ob h
        refine ax_callV (As := []) (q := 14) (ci := 6) (n := 0) cx (kX6_energyNow l ad t20.2  _ e24) gX6_breathe_X6_energyNow rfl ⟨by decide, by decide⟩ rfl rfl ⟨rfl, rfl⟩ (by decide +kernel) rfl ⟨by decide, by decide⟩ rfl (Nat.le_of_ble_eq_true rfl) dX6_breathe_60 ?_
        refine ax_isub cx dX6_breathe_63 ?_
        refine ax_iadd cx dX6_breathe_64 ?_
        refine ax_putf (q := 14) (ci := 6) (k := 9) (f := 103) (ty := .int) cx ⟨by decide, by decide⟩ rfl rfl hi_X6_breathe_X6 tyX6 tyX6_ok nmX6 (by decide) hl_X6_breathe_162 rfl (by decide +kernel) (by decide +kernel) rfl rfl (Nat.le_of_ble_eq_true rfl) (by decide) rfl (putM_103 ad _ _) dX6_breathe_65 ?_
        refine ax_iload_n cx 2 dX6_breathe_68 rfl rfl ?_
        cases h
        exact ax_iret cx dX6_breathe_69 rfl ⟨rfl, rfl⟩
      exact L34 FU t8.2 x1 t12 0 0 _ e21 J22
    · rw [if_neg c11] at h
      refine ax_iconst cx dX6_breathe_22 ?_
      cases h
      exact ax_iret cx dX6_breathe_23 rfl ⟨rfl, rfl⟩
  clear h
  have h := e7
  clear e7
  refine ax_if_eq cx 15 dX6_breathe_8 (by decide) g3 (fun c4 => ?_) (fun c4 => ?_)
  · rw [if_pos c4] at h
    refine ax_iconst cx dX6_breathe_15 ?_
    cases h
    exact J6
  · rw [if_neg c4] at h
    refine ax_iconst cx dX6_breathe_11 ?_
    refine ax_goto cx 16 dX6_breathe_12 (by decide) ?_
    cases h
    exact J6
def fX6_bubbleAt (M : Mem) (x1 : Int) : Option (Int × Mem) :=
    Option.bind (fX6_isNode M x1) (fun t1 =>
    gd (inR (t1)) (
    Option.bind (if t1 = 0 then (
      some (1))
    else (
      some (0))) (fun t5 =>
    Option.bind (fX6_refused M t5) (fun t8 =>
    gd (inR (t8.1)) (
    Option.bind (if t8.1 = 0 then (
      gd (inB (x1) 36) (
      some (t8.2 4 x1.toNat)))
    else (
      some (0))) (fun t13 =>
    some (t13, t8.2)))))))
abbrev rmX6_bubbleAt : Room := { frames := 2, cells := 0, slots := 0, locals := 42 }
theorem hl_X6_bubbleAt_22 : Cond.fieldLink RX6 22 "PlateauBenchModel" "bubbles" "[I" ∈ wsX6_bubbleAt := by decide +kernel
theorem hi_X6_bubbleAt_X6 : ∀ x ∈ u_ws RX6 TX6 19, x ∈ wsX6_bubbleAt := by decide +kernel
set_option maxRecDepth 100000 in
set_option maxHeartbeats 4000000 in
theorem kX6_bubbleAt (l : Launch) (ad : Nat → Nat) (M : Mem) (x1 : Int) (T : Int × Mem) (h : fX6_bubbleAt M x1 = some T) : MX l yX6_bubbleAt wsX6_bubbleAt rmX6_bubbleAt wM ad [.ref (ad 14), iV (x1)] M (some (iV (T.1))) T.2 := by
  refine MX.of (cc := cX6_bubbleAt) (nL := 2) (rt := (some .int)) (own := RX6) (by decide +kernel) rfl rfl (Nat.le_of_ble_eq_true rfl) wM_ok (fun G cx => ?_)
  show G M 0 [(0, .ref (ad 14)), (1, iV (x1))] []
  unfold fX6_bubbleAt at h
  refine ax_aload_n cx 0 dX6_bubbleAt_0 rfl rfl ?_
  refine ax_iload_n cx 1 dX6_bubbleAt_1 rfl rfl ?_
  obtain ⟨t1, e2, h⟩ := ob h
  refine ax_callS (As := [iV (x1)]) (n := 1) cx (kX6_isNode l ad M x1 _ e2) gX6_bubbleAt_X6_isNode rfl ⟨rfl, rfl⟩ (by decide +kernel) rfl ⟨by decide, by decide⟩ rfl (Nat.le_of_ble_eq_true rfl) dX6_bubbleAt_2 ?_
  obtain ⟨g3, h⟩ := gd_some h
  obtain ⟨t5, e7, h⟩ := ob h
  have J6 : G M 13 [(0, .ref (ad 14)), (1, iV (x1))] [iV (t5), .ref (ad 14)] := by
    obtain ⟨t8, e9, h⟩ := ob h
    refine ax_callV (As := [iV (t5)]) (q := 14) (ci := 6) (n := 1) cx (kX6_refused l ad M t5 _ e9) gX6_bubbleAt_X6_refused rfl ⟨by decide, by decide⟩ rfl rfl ⟨rfl, rfl⟩ (by decide +kernel) rfl ⟨by decide, by decide⟩ rfl (Nat.le_of_ble_eq_true rfl) dX6_bubbleAt_13 ?_
    obtain ⟨g10, h⟩ := gd_some h
    obtain ⟨t13, e15, h⟩ := ob h
    have J14 : G t8.2 29 [] [iV (t13)] := by
      cases h
      exact ax_iret cx dX6_bubbleAt_29 rfl ⟨rfl, rfl⟩
    clear h
    have h := e15
    clear e15
    refine ax_if_eq cx 23 dX6_bubbleAt_16 (by decide) g10 (fun c11 => ?_) (fun c11 => ?_)
    · rw [if_pos c11] at h
      refine ax_aload_n cx 0 dX6_bubbleAt_23 rfl rfl ?_
      refine ax_getf (q := 14) (ci := 6) (k := 6) (v := .ref (ad 4)) cx ⟨by decide, by decide⟩ rfl rfl hi_X6_bubbleAt_X6 (by decide) hl_X6_bubbleAt_22 rfl rfl dX6_bubbleAt_24 ?_
      refine ax_iload_n cx 1 dX6_bubbleAt_27 rfl rfl ?_
      obtain ⟨g12, h⟩ := gd_some h
      refine ax_iald (n := 36) cx (by decide) rfl rfl g12 dX6_bubbleAt_28 ?_
      refine ax_lv cx [] rfl ?_
      cases h
      exact J14
    · rw [if_neg c11] at h
      refine ax_iconst cx dX6_bubbleAt_19 ?_
      refine ax_goto cx 29 dX6_bubbleAt_20 (by decide) ?_
      refine ax_lv cx [] rfl ?_
      cases h
      exact J14
  clear h
  have h := e7
  clear e7
  refine ax_if_eq cx 12 dX6_bubbleAt_5 (by decide) g3 (fun c4 => ?_) (fun c4 => ?_)
  · rw [if_pos c4] at h
    refine ax_iconst cx dX6_bubbleAt_12 ?_
    cases h
    exact J6
  · rw [if_neg c4] at h
    refine ax_iconst cx dX6_bubbleAt_8 ?_
    refine ax_goto cx 13 dX6_bubbleAt_9 (by decide) ?_
    cases h
    exact J6
def fX6_nodesOf_L4 : Nat → Mem → Int → Int → Int → Option (Int)
  | 0, _, _, _, _ => none
  | n + 1, M, x1, x2, x3 =>
    gd (inR (x3)) (
    if 36 ≤ x3 then (
      some (x2))
    else (
      gd (inB (x3) 36) (
      gd (inR (M 4 x3.toNat)) (
      gd (inR (x1)) (
      Option.bind (if M 4 x3.toNat = x1 then (
        some (1))
      else (
        some (0))) (fun t7 =>
      fX6_nodesOf_L4 n M x1 (x2 + t7) (x3 + 1)))))))
def fX6_nodesOf (M : Mem) (x1 : Int) : Option (Int) :=
    Option.bind (fX6_nodesOf_L4 FU M x1 0 0) (fun t11 =>
    some (t11))
abbrev rmX6_nodesOf : Room := { frames := 0, cells := 0, slots := 0, locals := 0 }
theorem hl_X6_nodesOf_22 : Cond.fieldLink RX6 22 "PlateauBenchModel" "bubbles" "[I" ∈ wsX6_nodesOf := by decide +kernel
theorem hi_X6_nodesOf_X6 : ∀ x ∈ u_ws RX6 TX6 19, x ∈ wsX6_nodesOf := by decide +kernel
set_option maxRecDepth 100000 in
set_option maxHeartbeats 4000000 in
theorem kX6_nodesOf (l : Launch) (ad : Nat → Nat) (M : Mem) (x1 : Int) (T : Int) (h : fX6_nodesOf M x1 = some T) : MX l yX6_nodesOf wsX6_nodesOf rmX6_nodesOf wM ad [.ref (ad 14), iV (x1)] M (some (iV (T))) M := by
  refine MX.of (cc := cX6_nodesOf) (nL := 4) (rt := (some .int)) (own := RX6) (by decide +kernel) rfl rfl (Nat.le_of_ble_eq_true rfl) wM_ok (fun G cx => ?_)
  show G M 0 [(0, .ref (ad 14)), (1, iV (x1))] []
  have L4 : ∀ (n : Nat) (x1 : Int) (x2 : Int) (x3 : Int) (T10 : Int), fX6_nodesOf_L4 n M x1 x2 x3 = some T10 → (G M 34 [(2, iV (T10))] []) → G M 4 [(0, .ref (ad 14)), (1, iV (x1)), (2, iV (x2)), (3, iV (x3))] [] := by
    intro n
    induction n with
    | zero =>
      intro x1 x2 x3 T10 h
      exact absurd h (by simp [fX6_nodesOf_L4])
    | succ n ih =>
      intro x1 x2 x3 T10 h hJ
      rw [fX6_nodesOf_L4] at h
      refine ax_iload_n cx 3 dX6_nodesOf_4 rfl rfl ?_
      refine ax_bipush (z := 36) cx dX6_nodesOf_5 (by decide) ?_
      obtain ⟨g1, h⟩ := gd_some h
      refine ax_icmp_ge cx 34 dX6_nodesOf_7 (by decide) g1 ⟨by decide, by decide⟩ (fun c2 => ?_) (fun c2 => ?_)
      · rw [if_pos c2] at h
        refine ax_lv cx [2] rfl ?_
        cases h
        exact hJ
      · rw [if_neg c2] at h
        refine ax_iload_n cx 2 dX6_nodesOf_10 rfl rfl ?_
        refine ax_aload_n cx 0 dX6_nodesOf_11 rfl rfl ?_
        refine ax_getf (q := 14) (ci := 6) (k := 6) (v := .ref (ad 4)) cx ⟨by decide, by decide⟩ rfl rfl hi_X6_nodesOf_X6 (by decide) hl_X6_nodesOf_22 rfl rfl dX6_nodesOf_12 ?_
        refine ax_iload_n cx 3 dX6_nodesOf_15 rfl rfl ?_
        obtain ⟨g3, h⟩ := gd_some h
        refine ax_iald (n := 36) cx (by decide) rfl rfl g3 dX6_nodesOf_16 ?_
        refine ax_iload_n cx 1 dX6_nodesOf_17 rfl rfl ?_
        obtain ⟨g4, h⟩ := gd_some h
        obtain ⟨g5, h⟩ := gd_some h
        obtain ⟨t7, e9, h⟩ := ob h
        have J8 : G M 26 [(0, .ref (ad 14)), (1, iV (x1)), (3, iV (x3))] [iV (t7), iV (x2)] := by
          refine ax_iadd cx dX6_nodesOf_26 ?_
          refine ax_istore_n (lv' := [(2, iV (x2 + t7)), (0, .ref (ad 14)), (1, iV (x1)), (3, iV (x3))]) cx dX6_nodesOf_27 rfl (by decide) rfl ?_
          refine ax_iinc (lv' := [(3, iV (x3 + 1)), (2, iV (x2 + t7)), (0, .ref (ad 14)), (1, iV (x1))]) cx 3 dX6_nodesOf_28 rfl (by decide) rfl ?_
          refine ax_goto cx 4 dX6_nodesOf_31 (by decide) ?_
          refine ax_lv cx [2, 3, 1, 0] rfl ?_
          exact ih _ _ _ _ h hJ
        clear h
        have h := e9
        clear e9
        refine ax_icmp_ne cx 25 dX6_nodesOf_18 (by decide) g4 g5 (fun c6 => ?_) (fun c6 => ?_)
        · rw [if_pos c6] at h
          refine ax_iconst cx dX6_nodesOf_21 ?_
          refine ax_goto cx 26 dX6_nodesOf_22 (by decide) ?_
          refine ax_lv cx [0, 1, 3] rfl ?_
          cases h
          exact J8
        · rw [if_neg c6] at h
          refine ax_iconst cx dX6_nodesOf_25 ?_
          refine ax_lv cx [0, 1, 3] rfl ?_
          cases h
          exact J8
  unfold fX6_nodesOf at h
  refine ax_iconst cx dX6_nodesOf_0 ?_
  refine ax_istore_n (lv' := [(2, iV (0)), (0, .ref (ad 14)), (1, iV (x1))]) cx dX6_nodesOf_1 rfl (by decide) rfl ?_
  refine ax_iconst cx dX6_nodesOf_2 ?_
  refine ax_istore_n (lv' := [(3, iV (0)), (2, iV (0)), (0, .ref (ad 14)), (1, iV (x1))]) cx dX6_nodesOf_3 rfl (by decide) rfl ?_
  obtain ⟨t11, e12, h⟩ := ob h
  refine ax_lv cx [2, 3, 1, 0] rfl ?_
  have J13 : G M 34 [(2, iV (t11))] [] := by
    refine ax_iload_n cx 0 dX6_nodesOf_34 rfl rfl ?_
    cases h
    exact ax_iret cx dX6_nodesOf_35 rfl ⟨rfl, rfl⟩
  exact L4 FU x1 0 0 _ e12 J13
def fX6_piecesOf_L2 : Nat → Mem → Int → Int → Option (Mem)
  | 0, _, _, _ => none
  | n + 1, M, x1, x2 =>
    gd (inR (x2)) (
    if 36 ≤ x2 then (
      some (M))
    else (
      gd (inB (x2) 36) (
      fX6_piecesOf_L2 n (wr M 13 x2.toNat x2) x1 (x2 + 1))))
def fX6_piecesOf_L31 : Nat → Mem → Int → Int → Int → Option (Mem)
  | 0, _, _, _, _ => none
  | n + 1, M, x1, x2, x3 =>
    gd (inR (x3)) (
    if 60 ≤ x3 then (
      some (M))
    else (
      Option.bind (fX6_first M x3) (fun t12 =>
      Option.bind (fX6_second M x3) (fun t14 =>
      gd (inB (t12) 36) (
      gd (inR (M 4 t12.toNat)) (
      gd (inR (x1)) (
      Option.bind (if M 4 t12.toNat = x1 then (
        gd (inB (t14) 36) (
        gd (inR (M 4 t14.toNat)) (
        if M 4 t14.toNat = x1 then (
          gd (inB (t12) 36) (
          gd (inB (t14) 36) (
          gd (inR (M 13 t12.toNat)) (
          gd (inR (M 13 t14.toNat)) (
          Option.bind (if M 13 t14.toNat ≤ M 13 t12.toNat then (
            gd (inB (t14) 36) (
            some (M 13 t14.toNat)))
          else (
            gd (inB (t12) 36) (
            some (M 13 t12.toNat)))) (fun t30 =>
          gd (inB (t12) 36) (
          gd (inB (t14) 36) (
          some ((wr (wr M 13 t12.toNat t30) 13 t14.toNat t30))))))))))
        else (
          some (M)))))
      else (
        some (M))) (fun t35 =>
      fX6_piecesOf_L31 n t35 x1 x2 (x3 + 1)))))))))
def fX6_piecesOf_L23 : Nat → Mem → Int → Int → Option (Mem)
  | 0, _, _, _ => none
  | n + 1, M, x1, x2 =>
    gd (inR (x2)) (
    if 36 ≤ x2 then (
      some (M))
    else (
      Option.bind (fX6_piecesOf_L31 FU M x1 x2 0) (fun t39 =>
      fX6_piecesOf_L23 n t39 x1 (x2 + 1))))
def fX6_piecesOf_L141 : Nat → Mem → Int → Int → Int → Option (Int)
  | 0, _, _, _, _ => none
  | n + 1, M, x1, x2, x3 =>
    gd (inR (x3)) (
    if 36 ≤ x3 then (
      some (x2))
    else (
      gd (inB (x3) 36) (
      gd (inR (M 4 x3.toNat)) (
      gd (inR (x1)) (
      Option.bind (if M 4 x3.toNat = x1 then (
        gd (inB (x3) 36) (
        gd (inR (M 13 x3.toNat)) (
        if M 13 x3.toNat = x3 then (
          some (1))
        else (
          some (0)))))
      else (
        some (0))) (fun t55 =>
      fX6_piecesOf_L141 n M x1 (x2 + t55) (x3 + 1)))))))
def fX6_piecesOf (M : Mem) (x1 : Int) : Option (Int × Mem) :=
    Option.bind (fX6_piecesOf_L2 FU M x1 0) (fun t5 =>
    Option.bind (fX6_piecesOf_L23 FU t5 x1 0) (fun t43 =>
    Option.bind (fX6_piecesOf_L141 FU t43 x1 0 0) (fun t59 =>
    some (t59, t43))))
abbrev rmX6_piecesOf : Room := { frames := 2, cells := 0, slots := 0, locals := 40 }
theorem hl_X6_piecesOf_50 : Cond.fieldLink RX6 50 "PlateauBenchModel" "pieces" "[I" ∈ wsX6_piecesOf := by decide +kernel
theorem hl_X6_piecesOf_22 : Cond.fieldLink RX6 22 "PlateauBenchModel" "bubbles" "[I" ∈ wsX6_piecesOf := by decide +kernel
theorem hi_X6_piecesOf_X6 : ∀ x ∈ u_ws RX6 TX6 19, x ∈ wsX6_piecesOf := by decide +kernel
set_option maxRecDepth 100000 in
set_option maxHeartbeats 4000000 in
theorem kX6_piecesOf (l : Launch) (ad : Nat → Nat) (M : Mem) (x1 : Int) (T : Int × Mem) (h : fX6_piecesOf M x1 = some T) : MX l yX6_piecesOf wsX6_piecesOf rmX6_piecesOf wM ad [.ref (ad 14), iV (x1)] M (some (iV (T.1))) T.2 := by
  refine MX.of (cc := cX6_piecesOf) (nL := 7) (rt := (some .int)) (own := RX6) (by decide +kernel) rfl rfl (Nat.le_of_ble_eq_true rfl) wM_ok (fun G cx => ?_)
  show G M 0 [(0, .ref (ad 14)), (1, iV (x1))] []
  have L2 : ∀ (n : Nat) (M : Mem) (x1 : Int) (x2 : Int) (T4 : Mem), fX6_piecesOf_L2 n M x1 x2 = some T4 → (G T4 21 [(0, .ref (ad 14)), (1, iV (x1))] []) → G M 2 [(0, .ref (ad 14)), (1, iV (x1)), (2, iV (x2))] [] := by
    intro n
    induction n with
    | zero =>
      intro M x1 x2 T4 h
      exact absurd h (by simp [fX6_piecesOf_L2])
    | succ n ih =>
      intro M x1 x2 T4 h hJ
      rw [fX6_piecesOf_L2] at h
      refine ax_iload_n cx 2 dX6_piecesOf_2 rfl rfl ?_
      refine ax_bipush (z := 36) cx dX6_piecesOf_3 (by decide) ?_
      obtain ⟨g1, h⟩ := gd_some h
      refine ax_icmp_ge cx 21 dX6_piecesOf_5 (by decide) g1 ⟨by decide, by decide⟩ (fun c2 => ?_) (fun c2 => ?_)
      · rw [if_pos c2] at h
        refine ax_lv cx [0, 1] rfl ?_
        cases h
        exact hJ
      · rw [if_neg c2] at h
        refine ax_aload_n cx 0 dX6_piecesOf_8 rfl rfl ?_
        refine ax_getf (q := 14) (ci := 6) (k := 17) (v := .ref (ad 13)) cx ⟨by decide, by decide⟩ rfl rfl hi_X6_piecesOf_X6 (by decide) hl_X6_piecesOf_50 rfl rfl dX6_piecesOf_9 ?_
        refine ax_iload_n cx 2 dX6_piecesOf_12 rfl rfl ?_
        refine ax_iload_n cx 2 dX6_piecesOf_13 rfl rfl ?_
        obtain ⟨g3, h⟩ := gd_some h
        refine ax_iast (n := 36) cx (by decide) rfl rfl g3 dX6_piecesOf_14 ?_
        refine ax_iinc (lv' := [(2, iV (x2 + 1)), (0, .ref (ad 14)), (1, iV (x1))]) cx 2 dX6_piecesOf_15 rfl (by decide) rfl ?_
        refine ax_goto cx 2 dX6_piecesOf_18 (by decide) ?_
        refine ax_lv cx [1, 2, 0] rfl ?_
        exact ih _ _ _ _ h hJ
  have L31 : ∀ (n : Nat) (M : Mem) (x1 : Int) (x2 : Int) (x3 : Int) (T38 : Mem), fX6_piecesOf_L31 n M x1 x2 x3 = some T38 → (G T38 131 [(0, .ref (ad 14)), (1, iV (x1)), (2, iV (x2))] []) → G M 31 [(0, .ref (ad 14)), (1, iV (x1)), (2, iV (x2)), (3, iV (x3))] [] := by
    intro n
    induction n with
    | zero =>
      intro M x1 x2 x3 T38 h
      exact absurd h (by simp [fX6_piecesOf_L31])
    | succ n ih =>
      intro M x1 x2 x3 T38 h hJ
      rw [fX6_piecesOf_L31] at h
      refine ax_iload_n cx 3 dX6_piecesOf_31 rfl rfl ?_
      refine ax_bipush (z := 60) cx dX6_piecesOf_32 (by decide) ?_
      obtain ⟨g10, h⟩ := gd_some h
      refine ax_icmp_ge cx 131 dX6_piecesOf_34 (by decide) g10 ⟨by decide, by decide⟩ (fun c11 => ?_) (fun c11 => ?_)
      · rw [if_pos c11] at h
        refine ax_lv cx [0, 1, 2] rfl ?_
        cases h
        exact hJ
      · rw [if_neg c11] at h
        refine ax_iload_n cx 3 dX6_piecesOf_37 rfl rfl ?_
        obtain ⟨t12, e13, h⟩ := ob h
        refine ax_callS (As := [iV (x3)]) (n := 1) cx (kX6_first l ad M x3 _ e13) gX6_piecesOf_X6_first rfl ⟨rfl, rfl⟩ (by decide +kernel) rfl ⟨by decide, by decide⟩ rfl (Nat.le_of_ble_eq_true rfl) dX6_piecesOf_38 ?_
        refine ax_istore (lv' := [(4, iV (t12)), (0, .ref (ad 14)), (1, iV (x1)), (2, iV (x2)), (3, iV (x3))]) cx dX6_piecesOf_41 (by decide) rfl ?_
        refine ax_iload_n cx 4 dX6_piecesOf_43 rfl rfl ?_
        obtain ⟨t14, e15, h⟩ := ob h
        refine ax_callS (As := [iV (x3)]) (n := 1) cx (kX6_second l ad M x3 _ e15) gX6_piecesOf_X6_second rfl ⟨rfl, rfl⟩ (by decide +kernel) rfl ⟨by decide, by decide⟩ rfl (Nat.le_of_ble_eq_true rfl) dX6_piecesOf_44 ?_
        refine ax_istore (lv' := [(5, iV (t14)), (4, iV (t12)), (0, .ref (ad 14)), (1, iV (x1)), (2, iV (x2)), (3, iV (x3))]) cx dX6_piecesOf_47 (by decide) rfl ?_
        refine ax_aload_n cx 2 dX6_piecesOf_49 rfl rfl ?_
        refine ax_getf (q := 14) (ci := 6) (k := 6) (v := .ref (ad 4)) cx ⟨by decide, by decide⟩ rfl rfl hi_X6_piecesOf_X6 (by decide) hl_X6_piecesOf_22 rfl rfl dX6_piecesOf_50 ?_
        refine ax_iload cx 1 dX6_piecesOf_53 rfl ?_
        obtain ⟨g16, h⟩ := gd_some h
        refine ax_iald (n := 36) cx (by decide) rfl rfl g16 dX6_piecesOf_55 ?_
        refine ax_iload_n cx 3 dX6_piecesOf_56 rfl rfl ?_
        obtain ⟨g17, h⟩ := gd_some h
        obtain ⟨g18, h⟩ := gd_some h
        obtain ⟨t35, e37, h⟩ := ob h
        have J36 : G t35 125 [(0, .ref (ad 14)), (1, iV (x1)), (2, iV (x2)), (3, iV (x3))] [] := by
          refine ax_iinc (lv' := [(3, iV (x3 + 1)), (0, .ref (ad 14)), (1, iV (x1)), (2, iV (x2))]) cx 3 dX6_piecesOf_125 rfl (by decide) rfl ?_
          refine ax_goto cx 31 dX6_piecesOf_128 (by decide) ?_
          refine ax_lv cx [1, 2, 3, 0] rfl ?_
          exact ih _ _ _ _ _ h hJ
        clear h
        have h := e37
        clear e37
        refine ax_icmp_ne cx 125 dX6_piecesOf_57 (by decide) g17 g18 (fun c19 => ?_) (fun c19 => ?_)
        · rw [if_pos c19] at h
          refine ax_aload_n cx 2 dX6_piecesOf_60 rfl rfl ?_
          refine ax_getf (q := 14) (ci := 6) (k := 6) (v := .ref (ad 4)) cx ⟨by decide, by decide⟩ rfl rfl hi_X6_piecesOf_X6 (by decide) hl_X6_piecesOf_22 rfl rfl dX6_piecesOf_61 ?_
          refine ax_iload cx 0 dX6_piecesOf_64 rfl ?_
          obtain ⟨g20, h⟩ := gd_some h
          refine ax_iald (n := 36) cx (by decide) rfl rfl g20 dX6_piecesOf_66 ?_
          refine ax_iload_n cx 3 dX6_piecesOf_67 rfl rfl ?_
          obtain ⟨g21, h⟩ := gd_some h
          refine ax_icmp_ne cx 125 dX6_piecesOf_68 (by decide) g21 g18 (fun c22 => ?_) (fun c22 => ?_)
          · rw [if_pos c22] at h
            refine ax_aload_n cx 2 dX6_piecesOf_71 rfl rfl ?_
            refine ax_getf (q := 14) (ci := 6) (k := 17) (v := .ref (ad 13)) cx ⟨by decide, by decide⟩ rfl rfl hi_X6_piecesOf_X6 (by decide) hl_X6_piecesOf_50 rfl rfl dX6_piecesOf_72 ?_
            refine ax_iload cx 1 dX6_piecesOf_75 rfl ?_
            obtain ⟨g23, h⟩ := gd_some h
            refine ax_iald (n := 36) cx (by decide) rfl rfl g23 dX6_piecesOf_77 ?_
            refine ax_aload_n cx 2 dX6_piecesOf_78 rfl rfl ?_
            refine ax_getf (q := 14) (ci := 6) (k := 17) (v := .ref (ad 13)) cx ⟨by decide, by decide⟩ rfl rfl hi_X6_piecesOf_X6 (by decide) hl_X6_piecesOf_50 rfl rfl dX6_piecesOf_79 ?_
            refine ax_iload cx 0 dX6_piecesOf_82 rfl ?_
            obtain ⟨g24, h⟩ := gd_some h
            refine ax_iald (n := 36) cx (by decide) rfl rfl g24 dX6_piecesOf_84 ?_
            obtain ⟨g25, h⟩ := gd_some h
            obtain ⟨g26, h⟩ := gd_some h
            obtain ⟨t30, e32, h⟩ := ob h
            have J31 : G M 105 [(0, .ref (ad 14)), (1, iV (x1)), (2, iV (x2)), (3, iV (x3)), (4, iV (t12)), (5, iV (t14))] [iV (t30)] := by
              refine ax_istore (lv' := [(6, iV (t30)), (0, .ref (ad 14)), (1, iV (x1)), (2, iV (x2)), (3, iV (x3)), (4, iV (t12)), (5, iV (t14))]) cx dX6_piecesOf_105 (by decide) rfl ?_
              refine ax_aload_n cx 1 dX6_piecesOf_107 rfl rfl ?_
              refine ax_getf (q := 14) (ci := 6) (k := 17) (v := .ref (ad 13)) cx ⟨by decide, by decide⟩ rfl rfl hi_X6_piecesOf_X6 (by decide) hl_X6_piecesOf_50 rfl rfl dX6_piecesOf_108 ?_
              refine ax_iload cx 5 dX6_piecesOf_111 rfl ?_
              refine ax_iload cx 0 dX6_piecesOf_113 rfl ?_
              obtain ⟨g33, h⟩ := gd_some h
              refine ax_iast (n := 36) cx (by decide) rfl rfl g33 dX6_piecesOf_115 ?_
              refine ax_aload_n cx 1 dX6_piecesOf_116 rfl rfl ?_
              refine ax_getf (q := 14) (ci := 6) (k := 17) (v := .ref (ad 13)) cx ⟨by decide, by decide⟩ rfl rfl hi_X6_piecesOf_X6 (by decide) hl_X6_piecesOf_50 rfl rfl dX6_piecesOf_117 ?_
              refine ax_iload cx 6 dX6_piecesOf_120 rfl ?_
              refine ax_iload cx 0 dX6_piecesOf_122 rfl ?_
              obtain ⟨g34, h⟩ := gd_some h
              refine ax_iast (n := 36) cx (by decide) rfl rfl g34 dX6_piecesOf_124 ?_
              refine ax_lv cx [1, 2, 3, 4] rfl ?_
              cases h
              exact J36
            clear h
            have h := e32
            clear e32
            refine ax_icmp_ge cx 98 dX6_piecesOf_85 (by decide) g25 g26 (fun c27 => ?_) (fun c27 => ?_)
            · rw [if_pos c27] at h
              refine ax_aload_n cx 2 dX6_piecesOf_98 rfl rfl ?_
              refine ax_getf (q := 14) (ci := 6) (k := 17) (v := .ref (ad 13)) cx ⟨by decide, by decide⟩ rfl rfl hi_X6_piecesOf_X6 (by decide) hl_X6_piecesOf_50 rfl rfl dX6_piecesOf_99 ?_
              refine ax_iload cx 0 dX6_piecesOf_102 rfl ?_
              obtain ⟨g28, h⟩ := gd_some h
              refine ax_iald (n := 36) cx (by decide) rfl rfl g28 dX6_piecesOf_104 ?_
              refine ax_lv cx [2, 3, 4, 5, 1, 0] rfl ?_
              cases h
              exact J31
            · rw [if_neg c27] at h
              refine ax_aload_n cx 2 dX6_piecesOf_88 rfl rfl ?_
              refine ax_getf (q := 14) (ci := 6) (k := 17) (v := .ref (ad 13)) cx ⟨by decide, by decide⟩ rfl rfl hi_X6_piecesOf_X6 (by decide) hl_X6_piecesOf_50 rfl rfl dX6_piecesOf_89 ?_
              refine ax_iload cx 1 dX6_piecesOf_92 rfl ?_
              obtain ⟨g29, h⟩ := gd_some h
              refine ax_iald (n := 36) cx (by decide) rfl rfl g29 dX6_piecesOf_94 ?_
              refine ax_goto cx 105 dX6_piecesOf_95 (by decide) ?_
              refine ax_lv cx [2, 3, 4, 5, 1, 0] rfl ?_
              cases h
              exact J31
          · rw [if_neg c22] at h
            refine ax_lv cx [2, 3, 4, 5] rfl ?_
            cases h
            exact J36
        · rw [if_neg c19] at h
          refine ax_lv cx [2, 3, 4, 5] rfl ?_
          cases h
          exact J36
  have L23 : ∀ (n : Nat) (M : Mem) (x1 : Int) (x2 : Int) (T42 : Mem), fX6_piecesOf_L23 n M x1 x2 = some T42 → (G T42 137 [(0, .ref (ad 14)), (1, iV (x1))] []) → G M 23 [(0, .ref (ad 14)), (1, iV (x1)), (2, iV (x2))] [] := by
    intro n
    induction n with
    | zero =>
      intro M x1 x2 T42 h
      exact absurd h (by simp [fX6_piecesOf_L23])
    | succ n ih =>
      intro M x1 x2 T42 h hJ
      rw [fX6_piecesOf_L23] at h
      refine ax_iload_n cx 2 dX6_piecesOf_23 rfl rfl ?_
      refine ax_bipush (z := 36) cx dX6_piecesOf_24 (by decide) ?_
      obtain ⟨g8, h⟩ := gd_some h
      refine ax_icmp_ge cx 137 dX6_piecesOf_26 (by decide) g8 ⟨by decide, by decide⟩ (fun c9 => ?_) (fun c9 => ?_)
      · rw [if_pos c9] at h
        refine ax_lv cx [0, 1] rfl ?_
        cases h
        exact hJ
      · rw [if_neg c9] at h
        refine ax_iconst cx dX6_piecesOf_29 ?_
        refine ax_istore_n (lv' := [(3, iV (0)), (0, .ref (ad 14)), (1, iV (x1)), (2, iV (x2))]) cx dX6_piecesOf_30 rfl (by decide) rfl ?_
        obtain ⟨t39, e40, h⟩ := ob h
        refine ax_lv cx [1, 2, 3, 0] rfl ?_
        have J41 : G t39 131 [(0, .ref (ad 14)), (1, iV (x1)), (2, iV (x2))] [] := by
          refine ax_iinc (lv' := [(2, iV (x2 + 1)), (0, .ref (ad 14)), (1, iV (x1))]) cx 2 dX6_piecesOf_131 rfl (by decide) rfl ?_
          refine ax_goto cx 23 dX6_piecesOf_134 (by decide) ?_
          refine ax_lv cx [1, 2, 0] rfl ?_
          exact ih _ _ _ _ h hJ
        exact L31 FU M x1 x2 0 _ e40 J41
  have L141 : ∀ (n : Nat) (M : Mem) (x1 : Int) (x2 : Int) (x3 : Int) (T58 : Int), fX6_piecesOf_L141 n M x1 x2 x3 = some T58 → (G M 181 [(2, iV (T58))] []) → G M 141 [(0, .ref (ad 14)), (1, iV (x1)), (2, iV (x2)), (3, iV (x3))] [] := by
    intro n
    induction n with
    | zero =>
      intro M x1 x2 x3 T58 h
      exact absurd h (by simp [fX6_piecesOf_L141])
    | succ n ih =>
      intro M x1 x2 x3 T58 h hJ
      rw [fX6_piecesOf_L141] at h
      refine ax_iload_n cx 3 dX6_piecesOf_141 rfl rfl ?_
      refine ax_bipush (z := 36) cx dX6_piecesOf_142 (by decide) ?_
      obtain ⟨g46, h⟩ := gd_some h
      refine ax_icmp_ge cx 181 dX6_piecesOf_144 (by decide) g46 ⟨by decide, by decide⟩ (fun c47 => ?_) (fun c47 => ?_)
      · rw [if_pos c47] at h
        refine ax_lv cx [2] rfl ?_
        cases h
        exact hJ
      · rw [if_neg c47] at h
        refine ax_iload_n cx 2 dX6_piecesOf_147 rfl rfl ?_
        refine ax_aload_n cx 0 dX6_piecesOf_148 rfl rfl ?_
        refine ax_getf (q := 14) (ci := 6) (k := 6) (v := .ref (ad 4)) cx ⟨by decide, by decide⟩ rfl rfl hi_X6_piecesOf_X6 (by decide) hl_X6_piecesOf_22 rfl rfl dX6_piecesOf_149 ?_
        refine ax_iload_n cx 3 dX6_piecesOf_152 rfl rfl ?_
        obtain ⟨g48, h⟩ := gd_some h
        refine ax_iald (n := 36) cx (by decide) rfl rfl g48 dX6_piecesOf_153 ?_
        refine ax_iload_n cx 1 dX6_piecesOf_154 rfl rfl ?_
        obtain ⟨g49, h⟩ := gd_some h
        obtain ⟨g50, h⟩ := gd_some h
        obtain ⟨t55, e57, h⟩ := ob h
        have J56 : G M 173 [(0, .ref (ad 14)), (1, iV (x1)), (3, iV (x3))] [iV (t55), iV (x2)] := by
          refine ax_iadd cx dX6_piecesOf_173 ?_
          refine ax_istore_n (lv' := [(2, iV (x2 + t55)), (0, .ref (ad 14)), (1, iV (x1)), (3, iV (x3))]) cx dX6_piecesOf_174 rfl (by decide) rfl ?_
          refine ax_iinc (lv' := [(3, iV (x3 + 1)), (2, iV (x2 + t55)), (0, .ref (ad 14)), (1, iV (x1))]) cx 3 dX6_piecesOf_175 rfl (by decide) rfl ?_
          refine ax_goto cx 141 dX6_piecesOf_178 (by decide) ?_
          refine ax_lv cx [2, 3, 1, 0] rfl ?_
          exact ih _ _ _ _ _ h hJ
        clear h
        have h := e57
        clear e57
        refine ax_icmp_ne cx 172 dX6_piecesOf_155 (by decide) g49 g50 (fun c51 => ?_) (fun c51 => ?_)
        · rw [if_pos c51] at h
          refine ax_aload_n cx 0 dX6_piecesOf_158 rfl rfl ?_
          refine ax_getf (q := 14) (ci := 6) (k := 17) (v := .ref (ad 13)) cx ⟨by decide, by decide⟩ rfl rfl hi_X6_piecesOf_X6 (by decide) hl_X6_piecesOf_50 rfl rfl dX6_piecesOf_159 ?_
          refine ax_iload_n cx 3 dX6_piecesOf_162 rfl rfl ?_
          obtain ⟨g52, h⟩ := gd_some h
          refine ax_iald (n := 36) cx (by decide) rfl rfl g52 dX6_piecesOf_163 ?_
          refine ax_iload_n cx 3 dX6_piecesOf_164 rfl rfl ?_
          obtain ⟨g53, h⟩ := gd_some h
          refine ax_icmp_ne cx 172 dX6_piecesOf_165 (by decide) g53 ⟨by have := g52.1; omega, by have := g52.2; omega⟩ (fun c54 => ?_) (fun c54 => ?_)
          · rw [if_pos c54] at h
            refine ax_iconst cx dX6_piecesOf_168 ?_
            refine ax_goto cx 173 dX6_piecesOf_169 (by decide) ?_
            refine ax_lv cx [0, 1, 3] rfl ?_
            cases h
            exact J56
          · rw [if_neg c54] at h
            refine ax_iconst cx dX6_piecesOf_172 ?_
            refine ax_lv cx [0, 1, 3] rfl ?_
            cases h
            exact J56
        · rw [if_neg c51] at h
          refine ax_iconst cx dX6_piecesOf_172 ?_
          refine ax_lv cx [0, 1, 3] rfl ?_
          cases h
          exact J56
  unfold fX6_piecesOf at h
  refine ax_iconst cx dX6_piecesOf_0 ?_
  refine ax_istore_n (lv' := [(2, iV (0)), (0, .ref (ad 14)), (1, iV (x1))]) cx dX6_piecesOf_1 rfl (by decide) rfl ?_
  obtain ⟨t5, e6, h⟩ := ob h
  refine ax_lv cx [1, 2, 0] rfl ?_
  have J7 : G t5 21 [(0, .ref (ad 14)), (1, iV (x1))] [] := by
    refine ax_iconst cx dX6_piecesOf_21 ?_
    refine ax_istore_n (lv' := [(2, iV (0)), (0, .ref (ad 14)), (1, iV (x1))]) cx dX6_piecesOf_22 rfl (by decide) rfl ?_
    obtain ⟨t43, e44, h⟩ := ob h
    refine ax_lv cx [1, 2, 0] rfl ?_
    have J45 : G t43 137 [(0, .ref (ad 14)), (1, iV (x1))] [] := by
      refine ax_iconst cx dX6_piecesOf_137 ?_
      refine ax_istore_n (lv' := [(2, iV (0)), (0, .ref (ad 14)), (1, iV (x1))]) cx dX6_piecesOf_138 rfl (by decide) rfl ?_
      refine ax_iconst cx dX6_piecesOf_139 ?_
      refine ax_istore_n (lv' := [(3, iV (0)), (2, iV (0)), (0, .ref (ad 14)), (1, iV (x1))]) cx dX6_piecesOf_140 rfl (by decide) rfl ?_
      obtain ⟨t59, e60, h⟩ := ob h
      refine ax_lv cx [2, 3, 1, 0] rfl ?_
      have J61 : G t43 181 [(2, iV (t59))] [] := by
        refine ax_iload_n cx 0 dX6_piecesOf_181 rfl rfl ?_
        cases h
        exact ax_iret cx dX6_piecesOf_182 rfl ⟨rfl, rfl⟩
      exact L141 FU t43 x1 0 0 _ e60 J61
    exact L23 FU t5 x1 0 _ e44 J45
  exact L2 FU M x1 0 _ e6 J7
def fX6_wallBetween_L5 : Nat → Mem → Int → Int → Int → Int → Option (Int)
  | 0, _, _, _, _, _ => none
  | n + 1, M, x1, x2, x3, x4 =>
    gd (inR (x4)) (
    if 60 ≤ x4 then (
      some (x3))
    else (
      Option.bind (fX6_first M x4) (fun t3 =>
      gd (inB (t3) 36) (
      Option.bind (fX6_second M x4) (fun t6 =>
      gd (inB (t6) 36) (
      gd (inR (x1)) (
      gd (inR (x2)) (
      Option.bind (if x1 = x2 then (
        some (0))
      else (
        gd (inR (M 4 t3.toNat)) (
        if M 4 t3.toNat = x1 then (
          gd (inR (M 4 t6.toNat)) (
          if M 4 t6.toNat = x2 then (
            Option.bind (fX6_costOfEdge M x4) (fun t16 =>
            some (t16)))
          else (
            if M 4 t3.toNat = x2 then (
              if M 4 t6.toNat = x1 then (
                Option.bind (fX6_costOfEdge M x4) (fun t20 =>
                some (t20)))
              else (
                some (0)))
            else (
              some (0)))))
        else (
          if M 4 t3.toNat = x2 then (
            gd (inR (M 4 t6.toNat)) (
            if M 4 t6.toNat = x1 then (
              Option.bind (fX6_costOfEdge M x4) (fun t25 =>
              some (t25)))
            else (
              some (0))))
          else (
            some (0)))))) (fun t27 =>
      fX6_wallBetween_L5 n M x1 x2 (x3 + t27) (x4 + 1))))))))))
def fX6_wallBetween (M : Mem) (x1 : Int) (x2 : Int) : Option (Int) :=
    Option.bind (fX6_wallBetween_L5 FU M x1 x2 0 0) (fun t31 =>
    some (t31))
abbrev rmX6_wallBetween : Room := { frames := 2, cells := 0, slots := 0, locals := 40 }
theorem hl_X6_wallBetween_22 : Cond.fieldLink RX6 22 "PlateauBenchModel" "bubbles" "[I" ∈ wsX6_wallBetween := by decide +kernel
theorem hi_X6_wallBetween_X6 : ∀ x ∈ u_ws RX6 TX6 19, x ∈ wsX6_wallBetween := by decide +kernel
set_option maxRecDepth 100000 in
set_option maxHeartbeats 4000000 in
theorem kX6_wallBetween (l : Launch) (ad : Nat → Nat) (M : Mem) (x1 : Int) (x2 : Int) (T : Int) (h : fX6_wallBetween M x1 x2 = some T) : MX l yX6_wallBetween wsX6_wallBetween rmX6_wallBetween wM ad [.ref (ad 14), iV (x1), iV (x2)] M (some (iV (T))) M := by
  refine MX.of (cc := cX6_wallBetween) (nL := 7) (rt := (some .int)) (own := RX6) (by decide +kernel) rfl rfl (Nat.le_of_ble_eq_true rfl) wM_ok (fun G cx => ?_)
  show G M 0 [(0, .ref (ad 14)), (1, iV (x1)), (2, iV (x2))] []
  have L5 : ∀ (n : Nat) (x1 : Int) (x2 : Int) (x3 : Int) (x4 : Int) (T30 : Int), fX6_wallBetween_L5 n M x1 x2 x3 x4 = some T30 → (G M 84 [(3, iV (T30))] []) → G M 5 [(0, .ref (ad 14)), (1, iV (x1)), (2, iV (x2)), (3, iV (x3)), (4, iV (x4))] [] := by
    intro n
    induction n with
    | zero =>
      intro x1 x2 x3 x4 T30 h
      exact absurd h (by simp [fX6_wallBetween_L5])
    | succ n ih =>
      intro x1 x2 x3 x4 T30 h hJ
      rw [fX6_wallBetween_L5] at h
      refine ax_iload cx 4 dX6_wallBetween_5 rfl ?_
      refine ax_bipush (z := 60) cx dX6_wallBetween_7 (by decide) ?_
      obtain ⟨g1, h⟩ := gd_some h
      refine ax_icmp_ge cx 84 dX6_wallBetween_9 (by decide) g1 ⟨by decide, by decide⟩ (fun c2 => ?_) (fun c2 => ?_)
      · rw [if_pos c2] at h
        refine ax_lv cx [3] rfl ?_
        cases h
        exact hJ
      · rw [if_neg c2] at h
        refine ax_aload_n cx 0 dX6_wallBetween_12 rfl rfl ?_
        refine ax_getf (q := 14) (ci := 6) (k := 6) (v := .ref (ad 4)) cx ⟨by decide, by decide⟩ rfl rfl hi_X6_wallBetween_X6 (by decide) hl_X6_wallBetween_22 rfl rfl dX6_wallBetween_13 ?_
        refine ax_iload cx 4 dX6_wallBetween_16 rfl ?_
        obtain ⟨t3, e4, h⟩ := ob h
        refine ax_callS (As := [iV (x4)]) (n := 1) cx (kX6_first l ad M x4 _ e4) gX6_wallBetween_X6_first rfl ⟨rfl, rfl⟩ (by decide +kernel) rfl ⟨by decide, by decide⟩ rfl (Nat.le_of_ble_eq_true rfl) dX6_wallBetween_18 ?_
        obtain ⟨g5, h⟩ := gd_some h
        refine ax_iald (n := 36) cx (by decide) rfl rfl g5 dX6_wallBetween_21 ?_
        refine ax_istore (lv' := [(5, iV (M 4 t3.toNat)), (0, .ref (ad 14)), (1, iV (x1)), (2, iV (x2)), (3, iV (x3)), (4, iV (x4))]) cx dX6_wallBetween_22 (by decide) rfl ?_
        refine ax_aload_n cx 1 dX6_wallBetween_24 rfl rfl ?_
        refine ax_getf (q := 14) (ci := 6) (k := 6) (v := .ref (ad 4)) cx ⟨by decide, by decide⟩ rfl rfl hi_X6_wallBetween_X6 (by decide) hl_X6_wallBetween_22 rfl rfl dX6_wallBetween_25 ?_
        refine ax_iload cx 5 dX6_wallBetween_28 rfl ?_
        obtain ⟨t6, e7, h⟩ := ob h
        refine ax_callS (As := [iV (x4)]) (n := 1) cx (kX6_second l ad M x4 _ e7) gX6_wallBetween_X6_second rfl ⟨rfl, rfl⟩ (by decide +kernel) rfl ⟨by decide, by decide⟩ rfl (Nat.le_of_ble_eq_true rfl) dX6_wallBetween_30 ?_
        obtain ⟨g8, h⟩ := gd_some h
        refine ax_iald (n := 36) cx (by decide) rfl rfl g8 dX6_wallBetween_33 ?_
        refine ax_istore (lv' := [(6, iV (M 4 t6.toNat)), (5, iV (M 4 t3.toNat)), (0, .ref (ad 14)), (1, iV (x1)), (2, iV (x2)), (3, iV (x3)), (4, iV (x4))]) cx dX6_wallBetween_34 (by decide) rfl ?_
        refine ax_iload_n cx 5 dX6_wallBetween_36 rfl rfl ?_
        refine ax_iload_n cx 3 dX6_wallBetween_37 rfl rfl ?_
        refine ax_iload_n cx 4 dX6_wallBetween_38 rfl rfl ?_
        obtain ⟨g9, h⟩ := gd_some h
        obtain ⟨g10, h⟩ := gd_some h
        obtain ⟨t27, e29, h⟩ := ob h
        have J28 : G M 76 [(0, .ref (ad 14)), (1, iV (x1)), (2, iV (x2)), (4, iV (x4))] [iV (t27), iV (x3)] := by
          refine ax_iadd cx dX6_wallBetween_76 ?_
          refine ax_istore_n (lv' := [(3, iV (x3 + t27)), (0, .ref (ad 14)), (1, iV (x1)), (2, iV (x2)), (4, iV (x4))]) cx dX6_wallBetween_77 rfl (by decide) rfl ?_
          refine ax_iinc (lv' := [(4, iV (x4 + 1)), (3, iV (x3 + t27)), (0, .ref (ad 14)), (1, iV (x1)), (2, iV (x2))]) cx 4 dX6_wallBetween_78 rfl (by decide) rfl ?_
          refine ax_goto cx 5 dX6_wallBetween_81 (by decide) ?_
          refine ax_lv cx [2, 3, 4, 1, 0] rfl ?_
          exact ih _ _ _ _ _ h hJ
        clear h
        have h := e29
        clear e29
        refine ax_icmp_eq cx 75 dX6_wallBetween_39 (by decide) g9 g10 (fun c11 => ?_) (fun c11 => ?_)
        · rw [if_pos c11] at h
          refine ax_iconst cx dX6_wallBetween_75 ?_
          refine ax_lv cx [2, 3, 4, 6] rfl ?_
          cases h
          exact J28
        · rw [if_neg c11] at h
          refine ax_iload cx 1 dX6_wallBetween_42 rfl ?_
          refine ax_iload_n cx 3 dX6_wallBetween_44 rfl rfl ?_
          obtain ⟨g12, h⟩ := gd_some h
          refine ax_icmp_ne cx 54 dX6_wallBetween_45 (by decide) g12 g9 (fun c13 => ?_) (fun c13 => ?_)
          · rw [if_pos c13] at h
            refine ax_iload cx 0 dX6_wallBetween_48 rfl ?_
            refine ax_iload_n cx 4 dX6_wallBetween_50 rfl rfl ?_
            obtain ⟨g14, h⟩ := gd_some h
            refine ax_icmp_eq cx 66 dX6_wallBetween_51 (by decide) g14 g10 (fun c15 => ?_) (fun c15 => ?_)
            · rw [if_pos c15] at h
              refine ax_aload_n cx 2 dX6_wallBetween_66 rfl rfl ?_
              refine ax_iload cx 6 dX6_wallBetween_67 rfl ?_
              obtain ⟨t16, e17, h⟩ := ob h
              refine ax_callV (As := [iV (x4)]) (q := 14) (ci := 6) (n := 1) cx (kX6_costOfEdge l ad M x4 _ e17) gX6_wallBetween_X6_costOfEdge rfl ⟨by decide, by decide⟩ rfl rfl ⟨rfl, rfl⟩ (by decide +kernel) rfl ⟨by decide, by decide⟩ rfl (Nat.le_of_ble_eq_true rfl) dX6_wallBetween_69 ?_
              refine ax_goto cx 76 dX6_wallBetween_72 (by decide) ?_
              refine ax_lv cx [2, 3, 4, 6] rfl ?_
              cases h
              exact J28
            · rw [if_neg c15] at h
              refine ax_iload cx 1 dX6_wallBetween_54 rfl ?_
              refine ax_iload_n cx 4 dX6_wallBetween_56 rfl rfl ?_
              refine ax_icmp_ne cx 75 dX6_wallBetween_57 (by decide) g12 g10 (fun c18 => ?_) (fun c18 => ?_)
              · rw [if_pos c18] at h
                refine ax_iload cx 0 dX6_wallBetween_60 rfl ?_
                refine ax_iload_n cx 3 dX6_wallBetween_62 rfl rfl ?_
                refine ax_icmp_ne cx 75 dX6_wallBetween_63 (by decide) g14 g9 (fun c19 => ?_) (fun c19 => ?_)
                · rw [if_pos c19] at h
                  refine ax_aload_n cx 2 dX6_wallBetween_66 rfl rfl ?_
                  refine ax_iload cx 6 dX6_wallBetween_67 rfl ?_
                  obtain ⟨t20, e21, h⟩ := ob h
                  refine ax_callV (As := [iV (x4)]) (q := 14) (ci := 6) (n := 1) cx (kX6_costOfEdge l ad M x4 _ e21) gX6_wallBetween_X6_costOfEdge rfl ⟨by decide, by decide⟩ rfl rfl ⟨rfl, rfl⟩ (by decide +kernel) rfl ⟨by decide, by decide⟩ rfl (Nat.le_of_ble_eq_true rfl) dX6_wallBetween_69 ?_
                  refine ax_goto cx 76 dX6_wallBetween_72 (by decide) ?_
                  refine ax_lv cx [2, 3, 4, 6] rfl ?_
                  cases h
                  exact J28
                · rw [if_neg c19] at h
                  refine ax_iconst cx dX6_wallBetween_75 ?_
                  refine ax_lv cx [2, 3, 4, 6] rfl ?_
                  cases h
                  exact J28
              · rw [if_neg c18] at h
                refine ax_iconst cx dX6_wallBetween_75 ?_
                refine ax_lv cx [2, 3, 4, 6] rfl ?_
                cases h
                exact J28
          · rw [if_neg c13] at h
            refine ax_iload cx 1 dX6_wallBetween_54 rfl ?_
            refine ax_iload_n cx 4 dX6_wallBetween_56 rfl rfl ?_
            refine ax_icmp_ne cx 75 dX6_wallBetween_57 (by decide) g12 g10 (fun c22 => ?_) (fun c22 => ?_)
            · rw [if_pos c22] at h
              refine ax_iload cx 0 dX6_wallBetween_60 rfl ?_
              refine ax_iload_n cx 3 dX6_wallBetween_62 rfl rfl ?_
              obtain ⟨g23, h⟩ := gd_some h
              refine ax_icmp_ne cx 75 dX6_wallBetween_63 (by decide) g23 g9 (fun c24 => ?_) (fun c24 => ?_)
              · rw [if_pos c24] at h
                refine ax_aload_n cx 2 dX6_wallBetween_66 rfl rfl ?_
                refine ax_iload cx 6 dX6_wallBetween_67 rfl ?_
                obtain ⟨t25, e26, h⟩ := ob h
                refine ax_callV (As := [iV (x4)]) (q := 14) (ci := 6) (n := 1) cx (kX6_costOfEdge l ad M x4 _ e26) gX6_wallBetween_X6_costOfEdge rfl ⟨by decide, by decide⟩ rfl rfl ⟨rfl, rfl⟩ (by decide +kernel) rfl ⟨by decide, by decide⟩ rfl (Nat.le_of_ble_eq_true rfl) dX6_wallBetween_69 ?_
                refine ax_goto cx 76 dX6_wallBetween_72 (by decide) ?_
                refine ax_lv cx [2, 3, 4, 6] rfl ?_
                cases h
                exact J28
              · rw [if_neg c24] at h
                refine ax_iconst cx dX6_wallBetween_75 ?_
                refine ax_lv cx [2, 3, 4, 6] rfl ?_
                cases h
                exact J28
            · rw [if_neg c22] at h
              refine ax_iconst cx dX6_wallBetween_75 ?_
              refine ax_lv cx [2, 3, 4, 6] rfl ?_
              cases h
              exact J28
  unfold fX6_wallBetween at h
  refine ax_iconst cx dX6_wallBetween_0 ?_
  refine ax_istore_n (lv' := [(3, iV (0)), (0, .ref (ad 14)), (1, iV (x1)), (2, iV (x2))]) cx dX6_wallBetween_1 rfl (by decide) rfl ?_
  refine ax_iconst cx dX6_wallBetween_2 ?_
  refine ax_istore (lv' := [(4, iV (0)), (3, iV (0)), (0, .ref (ad 14)), (1, iV (x1)), (2, iV (x2))]) cx dX6_wallBetween_3 (by decide) rfl ?_
  obtain ⟨t31, e32, h⟩ := ob h
  refine ax_lv cx [2, 3, 4, 1, 0] rfl ?_
  have J33 : G M 84 [(3, iV (t31))] [] := by
    refine ax_iload_n cx 0 dX6_wallBetween_84 rfl rfl ?_
    cases h
    exact ax_iret cx dX6_wallBetween_85 rfl ⟨rfl, rfl⟩
  exact L5 FU x1 x2 0 0 _ e32 J33
def fX6_wallsOfBubble_L5 : Nat → Mem → Int → Int → Int → Int → Option (Int)
  | 0, _, _, _, _, _ => none
  | n + 1, M, x1, x2, x3, x4 =>
    gd (inR (x4)) (
    if 8 ≤ x4 then (
      some (x3))
    else (
      Option.bind (fX6_wallBetween M x1 x4) (fun t3 =>
      gd (inR (x2)) (
      Option.bind (if x2 = 0 then (
        gd (inR (t3)) (
        if t3 ≤ 0 then (
          some (0))
        else (
          some (1))))
      else (
        some (t3))) (fun t9 =>
      fX6_wallsOfBubble_L5 n M x1 x2 (x3 + t9) (x4 + 1))))))
def fX6_wallsOfBubble (M : Mem) (x1 : Int) (x2 : Int) : Option (Int) :=
    Option.bind (fX6_wallsOfBubble_L5 FU M x1 x2 0 0) (fun t13 =>
    some (t13))
abbrev rmX6_wallsOfBubble : Room := { frames := 3, cells := 0, slots := 0, locals := 66 }
set_option maxRecDepth 100000 in
set_option maxHeartbeats 4000000 in
theorem kX6_wallsOfBubble (l : Launch) (ad : Nat → Nat) (M : Mem) (x1 : Int) (x2 : Int) (T : Int) (h : fX6_wallsOfBubble M x1 x2 = some T) : MX l yX6_wallsOfBubble wsX6_wallsOfBubble rmX6_wallsOfBubble wM ad [.ref (ad 14), iV (x1), iV (x2)] M (some (iV (T))) M := by
  refine MX.of (cc := cX6_wallsOfBubble) (nL := 6) (rt := (some .int)) (own := RX6) (by decide +kernel) rfl rfl (Nat.le_of_ble_eq_true rfl) wM_ok (fun G cx => ?_)
  show G M 0 [(0, .ref (ad 14)), (1, iV (x1)), (2, iV (x2))] []
  have L5 : ∀ (n : Nat) (x1 : Int) (x2 : Int) (x3 : Int) (x4 : Int) (T12 : Int), fX6_wallsOfBubble_L5 n M x1 x2 x3 x4 = some T12 → (G M 49 [(3, iV (T12))] []) → G M 5 [(0, .ref (ad 14)), (1, iV (x1)), (2, iV (x2)), (3, iV (x3)), (4, iV (x4))] [] := by
    intro n
    induction n with
    | zero =>
      intro x1 x2 x3 x4 T12 h
      exact absurd h (by simp [fX6_wallsOfBubble_L5])
    | succ n ih =>
      intro x1 x2 x3 x4 T12 h hJ
      rw [fX6_wallsOfBubble_L5] at h
      refine ax_iload cx 4 dX6_wallsOfBubble_5 rfl ?_
      refine ax_bipush (z := 8) cx dX6_wallsOfBubble_7 (by decide) ?_
      obtain ⟨g1, h⟩ := gd_some h
      refine ax_icmp_ge cx 49 dX6_wallsOfBubble_9 (by decide) g1 ⟨by decide, by decide⟩ (fun c2 => ?_) (fun c2 => ?_)
      · rw [if_pos c2] at h
        refine ax_lv cx [3] rfl ?_
        cases h
        exact hJ
      · rw [if_neg c2] at h
        refine ax_aload_n cx 0 dX6_wallsOfBubble_12 rfl rfl ?_
        refine ax_iload_n cx 1 dX6_wallsOfBubble_13 rfl rfl ?_
        refine ax_iload cx 4 dX6_wallsOfBubble_14 rfl ?_
        obtain ⟨t3, e4, h⟩ := ob h
        refine ax_callV (As := [iV (x1), iV (x4)]) (q := 14) (ci := 6) (n := 2) cx (kX6_wallBetween l ad M x1 x4 _ e4) gX6_wallsOfBubble_X6_wallBetween rfl ⟨by decide, by decide⟩ rfl rfl ⟨rfl, rfl⟩ (by decide +kernel) rfl ⟨by decide, by decide⟩ rfl (Nat.le_of_ble_eq_true rfl) dX6_wallsOfBubble_16 ?_
        refine ax_istore (lv' := [(5, iV (t3)), (0, .ref (ad 14)), (1, iV (x1)), (2, iV (x2)), (3, iV (x3)), (4, iV (x4))]) cx dX6_wallsOfBubble_19 (by decide) rfl ?_
        refine ax_iload_n cx 4 dX6_wallsOfBubble_21 rfl rfl ?_
        refine ax_iload_n cx 3 dX6_wallsOfBubble_22 rfl rfl ?_
        obtain ⟨g5, h⟩ := gd_some h
        obtain ⟨t9, e11, h⟩ := ob h
        have J10 : G M 41 [(0, .ref (ad 14)), (1, iV (x1)), (2, iV (x2)), (4, iV (x4))] [iV (t9), iV (x3)] := by
          refine ax_iadd cx dX6_wallsOfBubble_41 ?_
          refine ax_istore_n (lv' := [(3, iV (x3 + t9)), (0, .ref (ad 14)), (1, iV (x1)), (2, iV (x2)), (4, iV (x4))]) cx dX6_wallsOfBubble_42 rfl (by decide) rfl ?_
          refine ax_iinc (lv' := [(4, iV (x4 + 1)), (3, iV (x3 + t9)), (0, .ref (ad 14)), (1, iV (x1)), (2, iV (x2))]) cx 4 dX6_wallsOfBubble_43 rfl (by decide) rfl ?_
          refine ax_goto cx 5 dX6_wallsOfBubble_46 (by decide) ?_
          refine ax_lv cx [2, 3, 4, 1, 0] rfl ?_
          exact ih _ _ _ _ _ h hJ
        clear h
        have h := e11
        clear e11
        refine ax_if_eq cx 31 dX6_wallsOfBubble_23 (by decide) g5 (fun c6 => ?_) (fun c6 => ?_)
        · rw [if_pos c6] at h
          refine ax_iload cx 0 dX6_wallsOfBubble_31 rfl ?_
          obtain ⟨g7, h⟩ := gd_some h
          refine ax_if_le cx 40 dX6_wallsOfBubble_33 (by decide) g7 (fun c8 => ?_) (fun c8 => ?_)
          · rw [if_pos c8] at h
            refine ax_iconst cx dX6_wallsOfBubble_40 ?_
            refine ax_lv cx [1, 2, 3, 5] rfl ?_
            cases h
            exact J10
          · rw [if_neg c8] at h
            refine ax_iconst cx dX6_wallsOfBubble_36 ?_
            refine ax_goto cx 41 dX6_wallsOfBubble_37 (by decide) ?_
            refine ax_lv cx [1, 2, 3, 5] rfl ?_
            cases h
            exact J10
        · rw [if_neg c6] at h
          refine ax_iload cx 0 dX6_wallsOfBubble_26 rfl ?_
          refine ax_goto cx 41 dX6_wallsOfBubble_28 (by decide) ?_
          refine ax_lv cx [1, 2, 3, 5] rfl ?_
          cases h
          exact J10
  unfold fX6_wallsOfBubble at h
  refine ax_iconst cx dX6_wallsOfBubble_0 ?_
  refine ax_istore_n (lv' := [(3, iV (0)), (0, .ref (ad 14)), (1, iV (x1)), (2, iV (x2))]) cx dX6_wallsOfBubble_1 rfl (by decide) rfl ?_
  refine ax_iconst cx dX6_wallsOfBubble_2 ?_
  refine ax_istore (lv' := [(4, iV (0)), (3, iV (0)), (0, .ref (ad 14)), (1, iV (x1)), (2, iV (x2))]) cx dX6_wallsOfBubble_3 (by decide) rfl ?_
  obtain ⟨t13, e14, h⟩ := ob h
  refine ax_lv cx [2, 3, 4, 1, 0] rfl ?_
  have J15 : G M 49 [(3, iV (t13))] [] := by
    refine ax_iload_n cx 0 dX6_wallsOfBubble_49 rfl rfl ?_
    cases h
    exact ax_iret cx dX6_wallsOfBubble_50 rfl ⟨rfl, rfl⟩
  exact L5 FU x1 x2 0 0 _ e14 J15
def fX6_bubble (M : Mem) (x1 : Int) (x2 : Int) : Option (Int × Mem) :=
    Option.bind (fX6_isBubble M x1) (fun t1 =>
    gd (inR (t1)) (
    Option.bind (if t1 = 0 then (
      some (1))
    else (
      Option.bind (fX6_in M x2 0 4) (fun t5 =>
      gd (inR (t5)) (
      if t5 = 0 then (
        some (2))
      else (
        some (0)))))) (fun t9 =>
    Option.bind (fX6_refused M t9) (fun t12 =>
    gd (inR (t12.1)) (
    if t12.1 = 0 then (
      gd (inR (x2)) (
      if x2 = 0 then (
        Option.bind (fX6_nodesOf t12.2 x1) (fun t21 =>
        some (t21, t12.2)))
      else if x2 = 1 then (
        Option.bind (fX6_piecesOf t12.2 x1) (fun t23 =>
        some (t23.1, t23.2)))
      else if x2 = 2 then (
        Option.bind (fX6_wallsOfBubble t12.2 x1 1) (fun t25 =>
        some (t25, t12.2)))
      else if x2 = 3 then (
        Option.bind (fX6_wallsOfBubble t12.2 x1 0) (fun t27 =>
        some (t27, t12.2)))
      else (
        gd (inB (x1) 8) (
        gd (inR (t12.2 5 x1.toNat)) (
        Option.bind (if t12.2 5 x1.toNat = 0 then (
          some (0))
        else (
          some (1))) (fun t32 =>
        some (t32, t12.2)))))))
    else (
      some (0, t12.2)))))))
abbrev rmX6_bubble : Room := { frames := 4, cells := 0, slots := 0, locals := 91 }
theorem hl_X6_bubble_25 : Cond.fieldLink RX6 25 "PlateauBenchModel" "isHeld" "[Z" ∈ wsX6_bubble := by decide +kernel
theorem hi_X6_bubble_X6 : ∀ x ∈ u_ws RX6 TX6 19, x ∈ wsX6_bubble := by decide +kernel
set_option maxRecDepth 100000 in
set_option maxHeartbeats 4000000 in
theorem kX6_bubble (l : Launch) (ad : Nat → Nat) (M : Mem) (x1 : Int) (x2 : Int) (T : Int × Mem) (h : fX6_bubble M x1 x2 = some T) : MX l yX6_bubble wsX6_bubble rmX6_bubble wM ad [.ref (ad 14), iV (x1), iV (x2)] M (some (iV (T.1))) T.2 := by
  refine MX.of (cc := cX6_bubble) (nL := 3) (rt := (some .int)) (own := RX6) (by decide +kernel) rfl rfl (Nat.le_of_ble_eq_true rfl) wM_ok (fun G cx => ?_)
  show G M 0 [(0, .ref (ad 14)), (1, iV (x1)), (2, iV (x2))] []
  unfold fX6_bubble at h
  refine ax_aload_n cx 0 dX6_bubble_0 rfl rfl ?_
  refine ax_iload_n cx 1 dX6_bubble_1 rfl rfl ?_
  obtain ⟨t1, e2, h⟩ := ob h
  refine ax_callS (As := [iV (x1)]) (n := 1) cx (kX6_isBubble l ad M x1 _ e2) gX6_bubble_X6_isBubble rfl ⟨rfl, rfl⟩ (by decide +kernel) rfl ⟨by decide, by decide⟩ rfl (Nat.le_of_ble_eq_true rfl) dX6_bubble_2 ?_
  obtain ⟨g3, h⟩ := gd_some h
  obtain ⟨t9, e11, h⟩ := ob h
  have J10 : G M 26 [(0, .ref (ad 14)), (1, iV (x1)), (2, iV (x2))] [iV (t9), .ref (ad 14)] := by
    obtain ⟨t12, e13, h⟩ := ob h
    refine ax_callV (As := [iV (t9)]) (q := 14) (ci := 6) (n := 1) cx (kX6_refused l ad M t9 _ e13) gX6_bubble_X6_refused rfl ⟨by decide, by decide⟩ rfl rfl ⟨rfl, rfl⟩ (by decide +kernel) rfl ⟨by decide, by decide⟩ rfl (Nat.le_of_ble_eq_true rfl) dX6_bubble_26 ?_
    obtain ⟨g14, h⟩ := gd_some h
    refine ax_if_eq cx 34 dX6_bubble_29 (by decide) g14 (fun c15 => ?_) (fun c15 => ?_)
    · rw [if_pos c15] at h
      refine ax_iload_n cx 2 dX6_bubble_34 rfl rfl ?_
      obtain ⟨g16, h⟩ := gd_some h
      by_cases c17 : x2 = 0
      · rw [if_pos c17] at h
        refine ax_tableIn (off := 29) cx 64 dX6_bubble_35 g16 (by rw [c17]; decide) (by rw [c17]; decide) (by rw [c17]; rfl) (by decide) ?_
        refine ax_aload_n cx 0 dX6_bubble_64 rfl rfl ?_
        refine ax_iload_n cx 1 dX6_bubble_65 rfl rfl ?_
        obtain ⟨t21, e22, h⟩ := ob h
        refine ax_callV (As := [iV (x1)]) (q := 14) (ci := 6) (n := 1) cx (kX6_nodesOf l ad t12.2 x1 _ e22) gX6_bubble_X6_nodesOf rfl ⟨by decide, by decide⟩ rfl rfl ⟨rfl, rfl⟩ (by decide +kernel) rfl ⟨by decide, by decide⟩ rfl (Nat.le_of_ble_eq_true rfl) dX6_bubble_66 ?_
        cases h
        exact ax_iret cx dX6_bubble_69 rfl ⟨rfl, rfl⟩
      rw [if_neg c17] at h
      by_cases c18 : x2 = 1
      · rw [if_pos c18] at h
        refine ax_tableIn (off := 35) cx 70 dX6_bubble_35 g16 (by rw [c18]; decide) (by rw [c18]; decide) (by rw [c18]; rfl) (by decide) ?_
        refine ax_aload_n cx 0 dX6_bubble_70 rfl rfl ?_
        refine ax_iload_n cx 1 dX6_bubble_71 rfl rfl ?_
        obtain ⟨t23, e24, h⟩ := ob h
        refine ax_callV (As := [iV (x1)]) (q := 14) (ci := 6) (n := 1) cx (kX6_piecesOf l ad t12.2 x1 _ e24) gX6_bubble_X6_piecesOf rfl ⟨by decide, by decide⟩ rfl rfl ⟨rfl, rfl⟩ (by decide +kernel) rfl ⟨by decide, by decide⟩ rfl (Nat.le_of_ble_eq_true rfl) dX6_bubble_72 ?_
        cases h
        exact ax_iret cx dX6_bubble_75 rfl ⟨rfl, rfl⟩
      rw [if_neg c18] at h
      by_cases c19 : x2 = 2
      · rw [if_pos c19] at h
        refine ax_tableIn (off := 41) cx 76 dX6_bubble_35 g16 (by rw [c19]; decide) (by rw [c19]; decide) (by rw [c19]; rfl) (by decide) ?_
        refine ax_aload_n cx 0 dX6_bubble_76 rfl rfl ?_
        refine ax_iload_n cx 1 dX6_bubble_77 rfl rfl ?_
        refine ax_iconst cx dX6_bubble_78 ?_
        obtain ⟨t25, e26, h⟩ := ob h
        refine ax_callV (As := [iV (x1), iV (1)]) (q := 14) (ci := 6) (n := 2) cx (kX6_wallsOfBubble l ad t12.2 x1 1 _ e26) gX6_bubble_X6_wallsOfBubble rfl ⟨by decide, by decide⟩ rfl rfl ⟨rfl, rfl⟩ (by decide +kernel) rfl ⟨by decide, by decide⟩ rfl (Nat.le_of_ble_eq_true rfl) dX6_bubble_79 ?_
        cases h
        exact ax_iret cx dX6_bubble_82 rfl ⟨rfl, rfl⟩
      rw [if_neg c19] at h
      by_cases c20 : x2 = 3
      · rw [if_pos c20] at h
        refine ax_tableIn (off := 48) cx 83 dX6_bubble_35 g16 (by rw [c20]; decide) (by rw [c20]; decide) (by rw [c20]; rfl) (by decide) ?_
        refine ax_aload_n cx 0 dX6_bubble_83 rfl rfl ?_
        refine ax_iload_n cx 1 dX6_bubble_84 rfl rfl ?_
        refine ax_iconst cx dX6_bubble_85 ?_
        obtain ⟨t27, e28, h⟩ := ob h
        refine ax_callV (As := [iV (x1), iV (0)]) (q := 14) (ci := 6) (n := 2) cx (kX6_wallsOfBubble l ad t12.2 x1 0 _ e28) gX6_bubble_X6_wallsOfBubble rfl ⟨by decide, by decide⟩ rfl rfl ⟨rfl, rfl⟩ (by decide +kernel) rfl ⟨by decide, by decide⟩ rfl (Nat.le_of_ble_eq_true rfl) dX6_bubble_86 ?_
        cases h
        exact ax_iret cx dX6_bubble_89 rfl ⟨rfl, rfl⟩
      rw [if_neg c20] at h
      refine ax_tableOut cx 90 dX6_bubble_35 g16 (by omega) (by decide) ?_
      refine ax_aload_n cx 0 dX6_bubble_90 rfl rfl ?_
      refine ax_getf (q := 14) (ci := 6) (k := 7) (v := .ref (ad 5)) cx ⟨by decide, by decide⟩ rfl rfl hi_X6_bubble_X6 (by decide) hl_X6_bubble_25 rfl rfl dX6_bubble_91 ?_
      refine ax_iload_n cx 1 dX6_bubble_94 rfl rfl ?_
      obtain ⟨g29, h⟩ := gd_some h
      refine ax_zald (n := 8) cx (by decide) rfl rfl g29 dX6_bubble_95 ?_
      obtain ⟨g30, h⟩ := gd_some h
      obtain ⟨t32, e34, h⟩ := ob h
      have J33 : G t12.2 104 [] [iV (t32)] := by
        cases h
        exact ax_iret cx dX6_bubble_104 rfl ⟨rfl, rfl⟩
      clear h
      have h := e34
      clear e34
      refine ax_if_eq cx 103 dX6_bubble_96 (by decide) g30 (fun c31 => ?_) (fun c31 => ?_)
      · rw [if_pos c31] at h
        refine ax_iconst cx dX6_bubble_103 ?_
        refine ax_lv cx [] rfl ?_
        cases h
        exact J33
      · rw [if_neg c31] at h
        refine ax_iconst cx dX6_bubble_99 ?_
        refine ax_goto cx 104 dX6_bubble_100 (by decide) ?_
        refine ax_lv cx [] rfl ?_
        cases h
        exact J33
    · rw [if_neg c15] at h
      refine ax_iconst cx dX6_bubble_32 ?_
      cases h
      exact ax_iret cx dX6_bubble_33 rfl ⟨rfl, rfl⟩
  clear h
  have h := e11
  clear e11
  refine ax_if_ne cx 12 dX6_bubble_5 (by decide) g3 (fun c4 => ?_) (fun c4 => ?_)
  · rw [if_pos c4] at h
    refine ax_iconst cx dX6_bubble_8 ?_
    refine ax_goto cx 26 dX6_bubble_9 (by decide) ?_
    cases h
    exact J10
  · rw [if_neg c4] at h
    refine ax_iload_n cx 2 dX6_bubble_12 rfl rfl ?_
    refine ax_iconst cx dX6_bubble_13 ?_
    refine ax_iconst cx dX6_bubble_14 ?_
    obtain ⟨t5, e6, h⟩ := ob h
    refine ax_callS (As := [iV (x2), iV (0), iV (4)]) (n := 3) cx (kX6_in l ad M x2 0 4 _ e6) gX6_bubble_X6_in rfl ⟨rfl, rfl⟩ (by decide +kernel) rfl ⟨by decide, by decide⟩ rfl (Nat.le_of_ble_eq_true rfl) dX6_bubble_15 ?_
    obtain ⟨g7, h⟩ := gd_some h
    refine ax_if_eq cx 25 dX6_bubble_18 (by decide) g7 (fun c8 => ?_) (fun c8 => ?_)
    · rw [if_pos c8] at h
      refine ax_iconst cx dX6_bubble_25 ?_
      cases h
      exact J10
    · rw [if_neg c8] at h
      refine ax_iconst cx dX6_bubble_21 ?_
      refine ax_goto cx 26 dX6_bubble_22 (by decide) ?_
      cases h
      exact J10
def fX6_wall (M : Mem) (x1 : Int) (x2 : Int) : Option (Int × Mem) :=
    Option.bind (fX6_isBubble M x1) (fun t1 =>
    gd (inR (t1)) (
    Option.bind (if t1 = 0 then (
      some (1))
    else (
      Option.bind (fX6_isBubble M x2) (fun t5 =>
      gd (inR (t5)) (
      if t5 = 0 then (
        some (1))
      else (
        some (0)))))) (fun t9 =>
    Option.bind (fX6_refused M t9) (fun t12 =>
    gd (inR (t12.1)) (
    Option.bind (if t12.1 = 0 then (
      Option.bind (fX6_wallBetween t12.2 x1 x2) (fun t16 =>
      some (t16)))
    else (
      some (0))) (fun t18 =>
    some (t18, t12.2)))))))
abbrev rmX6_wall : Room := { frames := 3, cells := 0, slots := 0, locals := 66 }
set_option maxRecDepth 100000 in
set_option maxHeartbeats 4000000 in
theorem kX6_wall (l : Launch) (ad : Nat → Nat) (M : Mem) (x1 : Int) (x2 : Int) (T : Int × Mem) (h : fX6_wall M x1 x2 = some T) : MX l yX6_wall wsX6_wall rmX6_wall wM ad [.ref (ad 14), iV (x1), iV (x2)] M (some (iV (T.1))) T.2 := by
  refine MX.of (cc := cX6_wall) (nL := 3) (rt := (some .int)) (own := RX6) (by decide +kernel) rfl rfl (Nat.le_of_ble_eq_true rfl) wM_ok (fun G cx => ?_)
  show G M 0 [(0, .ref (ad 14)), (1, iV (x1)), (2, iV (x2))] []
  unfold fX6_wall at h
  refine ax_aload_n cx 0 dX6_wall_0 rfl rfl ?_
  refine ax_iload_n cx 1 dX6_wall_1 rfl rfl ?_
  obtain ⟨t1, e2, h⟩ := ob h
  refine ax_callS (As := [iV (x1)]) (n := 1) cx (kX6_isBubble l ad M x1 _ e2) gX6_wall_X6_isBubble rfl ⟨rfl, rfl⟩ (by decide +kernel) rfl ⟨by decide, by decide⟩ rfl (Nat.le_of_ble_eq_true rfl) dX6_wall_2 ?_
  obtain ⟨g3, h⟩ := gd_some h
  obtain ⟨t9, e11, h⟩ := ob h
  have J10 : G M 20 [(0, .ref (ad 14)), (1, iV (x1)), (2, iV (x2))] [iV (t9), .ref (ad 14)] := by
    obtain ⟨t12, e13, h⟩ := ob h
    refine ax_callV (As := [iV (t9)]) (q := 14) (ci := 6) (n := 1) cx (kX6_refused l ad M t9 _ e13) gX6_wall_X6_refused rfl ⟨by decide, by decide⟩ rfl rfl ⟨rfl, rfl⟩ (by decide +kernel) rfl ⟨by decide, by decide⟩ rfl (Nat.le_of_ble_eq_true rfl) dX6_wall_20 ?_
    obtain ⟨g14, h⟩ := gd_some h
    obtain ⟨t18, e20, h⟩ := ob h
    have J19 : G t12.2 36 [] [iV (t18)] := by
      cases h
      exact ax_iret cx dX6_wall_36 rfl ⟨rfl, rfl⟩
    clear h
    have h := e20
    clear e20
    refine ax_if_eq cx 30 dX6_wall_23 (by decide) g14 (fun c15 => ?_) (fun c15 => ?_)
    · rw [if_pos c15] at h
      refine ax_aload_n cx 0 dX6_wall_30 rfl rfl ?_
      refine ax_iload_n cx 1 dX6_wall_31 rfl rfl ?_
      refine ax_iload_n cx 2 dX6_wall_32 rfl rfl ?_
      obtain ⟨t16, e17, h⟩ := ob h
      refine ax_callV (As := [iV (x1), iV (x2)]) (q := 14) (ci := 6) (n := 2) cx (kX6_wallBetween l ad t12.2 x1 x2 _ e17) gX6_wall_X6_wallBetween rfl ⟨by decide, by decide⟩ rfl rfl ⟨rfl, rfl⟩ (by decide +kernel) rfl ⟨by decide, by decide⟩ rfl (Nat.le_of_ble_eq_true rfl) dX6_wall_33 ?_
      refine ax_lv cx [] rfl ?_
      cases h
      exact J19
    · rw [if_neg c15] at h
      refine ax_iconst cx dX6_wall_26 ?_
      refine ax_goto cx 36 dX6_wall_27 (by decide) ?_
      refine ax_lv cx [] rfl ?_
      cases h
      exact J19
  clear h
  have h := e11
  clear e11
  refine ax_if_eq cx 19 dX6_wall_5 (by decide) g3 (fun c4 => ?_) (fun c4 => ?_)
  · rw [if_pos c4] at h
    refine ax_iconst cx dX6_wall_19 ?_
    cases h
    exact J10
  · rw [if_neg c4] at h
    refine ax_iload_n cx 2 dX6_wall_8 rfl rfl ?_
    obtain ⟨t5, e6, h⟩ := ob h
    refine ax_callS (As := [iV (x2)]) (n := 1) cx (kX6_isBubble l ad M x2 _ e6) gX6_wall_X6_isBubble rfl ⟨rfl, rfl⟩ (by decide +kernel) rfl ⟨by decide, by decide⟩ rfl (Nat.le_of_ble_eq_true rfl) dX6_wall_9 ?_
    obtain ⟨g7, h⟩ := gd_some h
    refine ax_if_eq cx 19 dX6_wall_12 (by decide) g7 (fun c8 => ?_) (fun c8 => ?_)
    · rw [if_pos c8] at h
      refine ax_iconst cx dX6_wall_19 ?_
      cases h
      exact J10
    · rw [if_neg c8] at h
      refine ax_iconst cx dX6_wall_15 ?_
      refine ax_goto cx 20 dX6_wall_16 (by decide) ?_
      cases h
      exact J10
def fX6_kindsAt_L51 : Nat → Mem → Int → Int → Option (Int)
  | 0, _, _, _ => none
  | n + 1, M, x3, x4 =>
    gd (inR (x4)) (
    if x4 ≤ 0 then (
      some (x3))
    else (
      gd (0 ≤ x4 ∧ x4 < 2147483648) (
      gd (0 ≤ x4 ∧ x4 < 2147483648) (
      fX6_kindsAt_L51 n M (x3 + (x4 % 2)) (x4 / 2)))))
def fX6_kindsAt (M : Mem) (x1 : Int) : Option (Int) :=
    gd (inB (x1) 36) (
    gd (inB (x1 + 1) 36) (
    gd (inB (x1 + 6) 36) (
    gd (inB ((x1 + 6) + 1) 36) (
    Option.bind (fX6_kindsAt_L51 FU M 0 (zor (zor (zor (zshl 1 (M 4 x1.toNat)) (zshl 1 (M 4 (x1 + 1).toNat))) (zshl 1 (M 4 (x1 + 6).toNat))) (zshl 1 (M 4 ((x1 + 6) + 1).toNat)))) (fun t10 =>
    some (t10))))))
abbrev rmX6_kindsAt : Room := { frames := 0, cells := 0, slots := 0, locals := 0 }
theorem hl_X6_kindsAt_22 : Cond.fieldLink RX6 22 "PlateauBenchModel" "bubbles" "[I" ∈ wsX6_kindsAt := by decide +kernel
theorem hi_X6_kindsAt_X6 : ∀ x ∈ u_ws RX6 TX6 19, x ∈ wsX6_kindsAt := by decide +kernel
set_option maxRecDepth 100000 in
set_option maxHeartbeats 4000000 in
theorem kX6_kindsAt (l : Launch) (ad : Nat → Nat) (M : Mem) (x1 : Int) (T : Int) (h : fX6_kindsAt M x1 = some T) : MX l yX6_kindsAt wsX6_kindsAt rmX6_kindsAt wM ad [.ref (ad 14), iV (x1)] M (some (iV (T))) M := by
  refine MX.of (cc := cX6_kindsAt) (nL := 5) (rt := (some .int)) (own := RX6) (by decide +kernel) rfl rfl (Nat.le_of_ble_eq_true rfl) wM_ok (fun G cx => ?_)
  show G M 0 [(0, .ref (ad 14)), (1, iV (x1))] []
  have L51 : ∀ (n : Nat) (x3 : Int) (x4 : Int) (T9 : Int), fX6_kindsAt_L51 n M x3 x4 = some T9 → (G M 72 [(3, iV (T9))] []) → G M 51 [(3, iV (x3)), (4, iV (x4))] [] := by
    intro n
    induction n with
    | zero =>
      intro x3 x4 T9 h
      exact absurd h (by simp [fX6_kindsAt_L51])
    | succ n ih =>
      intro x3 x4 T9 h hJ
      rw [fX6_kindsAt_L51] at h
      refine ax_iload cx 1 dX6_kindsAt_51 rfl ?_
      obtain ⟨g5, h⟩ := gd_some h
      refine ax_if_le cx 72 dX6_kindsAt_53 (by decide) g5 (fun c6 => ?_) (fun c6 => ?_)
      · rw [if_pos c6] at h
        refine ax_lv cx [0] rfl ?_
        cases h
        exact hJ
      · rw [if_neg c6] at h
        refine ax_iload_n cx 0 dX6_kindsAt_56 rfl rfl ?_
        refine ax_iload cx 1 dX6_kindsAt_57 rfl ?_
        refine ax_iconst cx dX6_kindsAt_59 ?_
        obtain ⟨g7, h⟩ := gd_some h
        refine ax_irem cx dX6_kindsAt_60 ⟨g7, by decide, by decide⟩ ?_
        refine ax_iadd cx dX6_kindsAt_61 ?_
        refine ax_istore_n (lv' := [(3, iV (x3 + (x4 % 2))), (4, iV (x4))]) cx dX6_kindsAt_62 rfl (by decide) rfl ?_
        refine ax_iload cx 1 dX6_kindsAt_63 rfl ?_
        refine ax_iconst cx dX6_kindsAt_65 ?_
        obtain ⟨g8, h⟩ := gd_some h
        refine ax_idiv cx dX6_kindsAt_66 ⟨g8, by decide, by decide⟩ ?_
        refine ax_istore (lv' := [(4, iV (x4 / 2)), (3, iV (x3 + (x4 % 2)))]) cx dX6_kindsAt_67 (by decide) rfl ?_
        refine ax_goto cx 51 dX6_kindsAt_69 (by decide) ?_
        refine ax_lv cx [1, 0] rfl ?_
        exact ih _ _ _ h hJ
  unfold fX6_kindsAt at h
  refine ax_iconst cx dX6_kindsAt_0 ?_
  refine ax_aload_n cx 0 dX6_kindsAt_1 rfl rfl ?_
  refine ax_getf (q := 14) (ci := 6) (k := 6) (v := .ref (ad 4)) cx ⟨by decide, by decide⟩ rfl rfl hi_X6_kindsAt_X6 (by decide) hl_X6_kindsAt_22 rfl rfl dX6_kindsAt_2 ?_
  refine ax_iload_n cx 1 dX6_kindsAt_5 rfl rfl ?_
  obtain ⟨g1, h⟩ := gd_some h
  refine ax_iald (n := 36) cx (by decide) rfl rfl g1 dX6_kindsAt_6 ?_
  refine ax_ishl cx dX6_kindsAt_7 ?_
  refine ax_iconst cx dX6_kindsAt_8 ?_
  refine ax_aload_n cx 0 dX6_kindsAt_9 rfl rfl ?_
  refine ax_getf (q := 14) (ci := 6) (k := 6) (v := .ref (ad 4)) cx ⟨by decide, by decide⟩ rfl rfl hi_X6_kindsAt_X6 (by decide) hl_X6_kindsAt_22 rfl rfl dX6_kindsAt_10 ?_
  refine ax_iload_n cx 1 dX6_kindsAt_13 rfl rfl ?_
  refine ax_iconst cx dX6_kindsAt_14 ?_
  refine ax_iadd cx dX6_kindsAt_15 ?_
  obtain ⟨g2, h⟩ := gd_some h
  refine ax_iald (n := 36) cx (by decide) rfl rfl g2 dX6_kindsAt_16 ?_
  refine ax_ishl cx dX6_kindsAt_17 ?_
  refine ax_ior cx dX6_kindsAt_18 ?_
  refine ax_iconst cx dX6_kindsAt_19 ?_
  refine ax_aload_n cx 0 dX6_kindsAt_20 rfl rfl ?_
  refine ax_getf (q := 14) (ci := 6) (k := 6) (v := .ref (ad 4)) cx ⟨by decide, by decide⟩ rfl rfl hi_X6_kindsAt_X6 (by decide) hl_X6_kindsAt_22 rfl rfl dX6_kindsAt_21 ?_
  refine ax_iload_n cx 1 dX6_kindsAt_24 rfl rfl ?_
  refine ax_bipush (z := 6) cx dX6_kindsAt_25 (by decide) ?_
  refine ax_iadd cx dX6_kindsAt_27 ?_
  obtain ⟨g3, h⟩ := gd_some h
  refine ax_iald (n := 36) cx (by decide) rfl rfl g3 dX6_kindsAt_28 ?_
  refine ax_ishl cx dX6_kindsAt_29 ?_
  refine ax_ior cx dX6_kindsAt_30 ?_
  refine ax_iconst cx dX6_kindsAt_31 ?_
  refine ax_aload_n cx 0 dX6_kindsAt_32 rfl rfl ?_
  refine ax_getf (q := 14) (ci := 6) (k := 6) (v := .ref (ad 4)) cx ⟨by decide, by decide⟩ rfl rfl hi_X6_kindsAt_X6 (by decide) hl_X6_kindsAt_22 rfl rfl dX6_kindsAt_33 ?_
  refine ax_iload_n cx 1 dX6_kindsAt_36 rfl rfl ?_
  refine ax_bipush (z := 6) cx dX6_kindsAt_37 (by decide) ?_
  refine ax_iadd cx dX6_kindsAt_39 ?_
  refine ax_iconst cx dX6_kindsAt_40 ?_
  refine ax_iadd cx dX6_kindsAt_41 ?_
  obtain ⟨g4, h⟩ := gd_some h
  refine ax_iald (n := 36) cx (by decide) rfl rfl g4 dX6_kindsAt_42 ?_
  refine ax_ishl cx dX6_kindsAt_43 ?_
  refine ax_ior cx dX6_kindsAt_44 ?_
  refine ax_istore_n (lv' := [(2, iV (zor (zor (zor (zshl 1 (M 4 x1.toNat)) (zshl 1 (M 4 (x1 + 1).toNat))) (zshl 1 (M 4 (x1 + 6).toNat))) (zshl 1 (M 4 ((x1 + 6) + 1).toNat)))), (0, .ref (ad 14)), (1, iV (x1))]) cx dX6_kindsAt_45 rfl (by decide) rfl ?_
  refine ax_iconst cx dX6_kindsAt_46 ?_
  refine ax_istore_n (lv' := [(3, iV (0)), (2, iV (zor (zor (zor (zshl 1 (M 4 x1.toNat)) (zshl 1 (M 4 (x1 + 1).toNat))) (zshl 1 (M 4 (x1 + 6).toNat))) (zshl 1 (M 4 ((x1 + 6) + 1).toNat)))), (0, .ref (ad 14)), (1, iV (x1))]) cx dX6_kindsAt_47 rfl (by decide) rfl ?_
  refine ax_iload_n cx 1 dX6_kindsAt_48 rfl rfl ?_
  refine ax_istore (lv' := [(4, iV (zor (zor (zor (zshl 1 (M 4 x1.toNat)) (zshl 1 (M 4 (x1 + 1).toNat))) (zshl 1 (M 4 (x1 + 6).toNat))) (zshl 1 (M 4 ((x1 + 6) + 1).toNat)))), (3, iV (0)), (2, iV (zor (zor (zor (zshl 1 (M 4 x1.toNat)) (zshl 1 (M 4 (x1 + 1).toNat))) (zshl 1 (M 4 (x1 + 6).toNat))) (zshl 1 (M 4 ((x1 + 6) + 1).toNat)))), (0, .ref (ad 14)), (1, iV (x1))]) cx dX6_kindsAt_49 (by decide) rfl ?_
  obtain ⟨t10, e11, h⟩ := ob h
  refine ax_lv cx [1, 0] rfl ?_
  have J12 : G M 72 [(3, iV (t10))] [] := by
    refine ax_iload_n cx 0 dX6_kindsAt_72 rfl rfl ?_
    cases h
    exact ax_iret cx dX6_kindsAt_73 rfl ⟨rfl, rfl⟩
  exact L51 FU 0 (zor (zor (zor (zshl 1 (M 4 x1.toNat)) (zshl 1 (M 4 (x1 + 1).toNat))) (zshl 1 (M 4 (x1 + 6).toNat))) (zshl 1 (M 4 ((x1 + 6) + 1).toNat))) _ e11 J12
def fX6_corners_L27 : Nat → Mem → Int → Int → Int → Option (Int)
  | 0, _, _, _, _ => none
  | n + 1, M, x1, x2, x3 =>
    gd (inR (x3)) (
    if 25 ≤ x3 then (
      some (x2))
    else (
      gd (0 ≤ x3 ∧ x3 < 2147483648) (
      gd (0 ≤ x3 ∧ x3 < 2147483648) (
      Option.bind (fX6_kindsAt M ((6 * (x3 / 5)) + (x3 % 5))) (fun t16 =>
      gd (inR (t16)) (
      gd (inR (x1)) (
      Option.bind (if t16 = x1 then (
        some (1))
      else (
        some (0))) (fun t21 =>
      fX6_corners_L27 n M x1 (x2 + t21) (x3 + 1)))))))))
def fX6_corners (M : Mem) (x1 : Int) : Option (Int × Mem) :=
    Option.bind (fX6_in M x1 1 4) (fun t1 =>
    gd (inR (t1)) (
    Option.bind (if t1 = 0 then (
      some (1))
    else (
      some (0))) (fun t5 =>
    Option.bind (fX6_refused M t5) (fun t8 =>
    gd (inR (t8.1)) (
    if t8.1 = 0 then (
      Option.bind (fX6_corners_L27 FU t8.2 x1 0 0) (fun t25 =>
      some (t25, t8.2)))
    else (
      some (0, t8.2)))))))
abbrev rmX6_corners : Room := { frames := 1, cells := 0, slots := 0, locals := 24 }
set_option maxRecDepth 100000 in
set_option maxHeartbeats 4000000 in
theorem kX6_corners (l : Launch) (ad : Nat → Nat) (M : Mem) (x1 : Int) (T : Int × Mem) (h : fX6_corners M x1 = some T) : MX l yX6_corners wsX6_corners rmX6_corners wM ad [.ref (ad 14), iV (x1)] M (some (iV (T.1))) T.2 := by
  refine MX.of (cc := cX6_corners) (nL := 4) (rt := (some .int)) (own := RX6) (by decide +kernel) rfl rfl (Nat.le_of_ble_eq_true rfl) wM_ok (fun G cx => ?_)
  show G M 0 [(0, .ref (ad 14)), (1, iV (x1))] []
  have L27 : ∀ (n : Nat) (M : Mem) (x1 : Int) (x2 : Int) (x3 : Int) (T24 : Int), fX6_corners_L27 n M x1 x2 x3 = some T24 → (G M 65 [(2, iV (T24))] []) → G M 27 [(0, .ref (ad 14)), (1, iV (x1)), (2, iV (x2)), (3, iV (x3))] [] := by
    intro n
    induction n with
    | zero =>
      intro M x1 x2 x3 T24 h
      exact absurd h (by simp [fX6_corners_L27])
    | succ n ih =>
      intro M x1 x2 x3 T24 h hJ
      rw [fX6_corners_L27] at h
      refine ax_iload_n cx 3 dX6_corners_27 rfl rfl ?_
      refine ax_bipush (z := 25) cx dX6_corners_28 (by decide) ?_
      obtain ⟨g12, h⟩ := gd_some h
      refine ax_icmp_ge cx 65 dX6_corners_30 (by decide) g12 ⟨by decide, by decide⟩ (fun c13 => ?_) (fun c13 => ?_)
      · rw [if_pos c13] at h
        refine ax_lv cx [2] rfl ?_
        cases h
        exact hJ
      · rw [if_neg c13] at h
        refine ax_iload_n cx 2 dX6_corners_33 rfl rfl ?_
        refine ax_aload_n cx 0 dX6_corners_34 rfl rfl ?_
        refine ax_bipush (z := 6) cx dX6_corners_35 (by decide) ?_
        refine ax_iload_n cx 3 dX6_corners_37 rfl rfl ?_
        refine ax_iconst cx dX6_corners_38 ?_
        obtain ⟨g14, h⟩ := gd_some h
        refine ax_idiv cx dX6_corners_39 ⟨g14, by decide, by decide⟩ ?_
        refine ax_imul cx dX6_corners_40 ?_
        refine ax_iload_n cx 3 dX6_corners_41 rfl rfl ?_
        refine ax_iconst cx dX6_corners_42 ?_
        obtain ⟨g15, h⟩ := gd_some h
        refine ax_irem cx dX6_corners_43 ⟨g15, by decide, by decide⟩ ?_
        refine ax_iadd cx dX6_corners_44 ?_
        obtain ⟨t16, e17, h⟩ := ob h
        refine ax_callV (As := [iV ((6 * (x3 / 5)) + (x3 % 5))]) (q := 14) (ci := 6) (n := 1) cx (kX6_kindsAt l ad M ((6 * (x3 / 5)) + (x3 % 5)) _ e17) gX6_corners_X6_kindsAt rfl ⟨by decide, by decide⟩ rfl rfl ⟨rfl, rfl⟩ (by decide +kernel) rfl ⟨by decide, by decide⟩ rfl (Nat.le_of_ble_eq_true rfl) dX6_corners_45 ?_
        refine ax_iload_n cx 1 dX6_corners_48 rfl rfl ?_
        obtain ⟨g18, h⟩ := gd_some h
        obtain ⟨g19, h⟩ := gd_some h
        obtain ⟨t21, e23, h⟩ := ob h
        have J22 : G M 57 [(0, .ref (ad 14)), (1, iV (x1)), (3, iV (x3))] [iV (t21), iV (x2)] := by
          refine ax_iadd cx dX6_corners_57 ?_
          refine ax_istore_n (lv' := [(2, iV (x2 + t21)), (0, .ref (ad 14)), (1, iV (x1)), (3, iV (x3))]) cx dX6_corners_58 rfl (by decide) rfl ?_
          refine ax_iinc (lv' := [(3, iV (x3 + 1)), (2, iV (x2 + t21)), (0, .ref (ad 14)), (1, iV (x1))]) cx 3 dX6_corners_59 rfl (by decide) rfl ?_
          refine ax_goto cx 27 dX6_corners_62 (by decide) ?_
          refine ax_lv cx [2, 3, 1, 0] rfl ?_
          exact ih _ _ _ _ _ h hJ
        clear h
        have h := e23
        clear e23
        refine ax_icmp_ne cx 56 dX6_corners_49 (by decide) g18 g19 (fun c20 => ?_) (fun c20 => ?_)
        · rw [if_pos c20] at h
          refine ax_iconst cx dX6_corners_52 ?_
          refine ax_goto cx 57 dX6_corners_53 (by decide) ?_
          refine ax_lv cx [0, 1, 3] rfl ?_
          cases h
          exact J22
        · rw [if_neg c20] at h
          refine ax_iconst cx dX6_corners_56 ?_
          refine ax_lv cx [0, 1, 3] rfl ?_
          cases h
          exact J22
  unfold fX6_corners at h
  refine ax_aload_n cx 0 dX6_corners_0 rfl rfl ?_
  refine ax_iload_n cx 1 dX6_corners_1 rfl rfl ?_
  refine ax_iconst cx dX6_corners_2 ?_
  refine ax_iconst cx dX6_corners_3 ?_
  obtain ⟨t1, e2, h⟩ := ob h
  refine ax_callS (As := [iV (x1), iV (1), iV (4)]) (n := 3) cx (kX6_in l ad M x1 1 4 _ e2) gX6_corners_X6_in rfl ⟨rfl, rfl⟩ (by decide +kernel) rfl ⟨by decide, by decide⟩ rfl (Nat.le_of_ble_eq_true rfl) dX6_corners_4 ?_
  obtain ⟨g3, h⟩ := gd_some h
  obtain ⟨t5, e7, h⟩ := ob h
  have J6 : G M 15 [(0, .ref (ad 14)), (1, iV (x1))] [iV (t5), .ref (ad 14)] := by
    obtain ⟨t8, e9, h⟩ := ob h
    refine ax_callV (As := [iV (t5)]) (q := 14) (ci := 6) (n := 1) cx (kX6_refused l ad M t5 _ e9) gX6_corners_X6_refused rfl ⟨by decide, by decide⟩ rfl rfl ⟨rfl, rfl⟩ (by decide +kernel) rfl ⟨by decide, by decide⟩ rfl (Nat.le_of_ble_eq_true rfl) dX6_corners_15 ?_
    obtain ⟨g10, h⟩ := gd_some h
    refine ax_if_eq cx 23 dX6_corners_18 (by decide) g10 (fun c11 => ?_) (fun c11 => ?_)
    · rw [if_pos c11] at h
      refine ax_iconst cx dX6_corners_23 ?_
      refine ax_istore_n (lv' := [(2, iV (0)), (0, .ref (ad 14)), (1, iV (x1))]) cx dX6_corners_24 rfl (by decide) rfl ?_
      refine ax_iconst cx dX6_corners_25 ?_
      refine ax_istore_n (lv' := [(3, iV (0)), (2, iV (0)), (0, .ref (ad 14)), (1, iV (x1))]) cx dX6_corners_26 rfl (by decide) rfl ?_
      obtain ⟨t25, e26, h⟩ := ob h
      refine ax_lv cx [2, 3, 1, 0] rfl ?_
      have J27 : G t8.2 65 [(2, iV (t25))] [] := by
        refine ax_iload_n cx 0 dX6_corners_65 rfl rfl ?_
        cases h
        exact ax_iret cx dX6_corners_66 rfl ⟨rfl, rfl⟩
      exact L27 FU t8.2 x1 0 0 _ e26 J27
    · rw [if_neg c11] at h
      refine ax_iconst cx dX6_corners_21 ?_
      cases h
      exact ax_iret cx dX6_corners_22 rfl ⟨rfl, rfl⟩
  clear h
  have h := e7
  clear e7
  refine ax_if_eq cx 14 dX6_corners_7 (by decide) g3 (fun c4 => ?_) (fun c4 => ?_)
  · rw [if_pos c4] at h
    refine ax_iconst cx dX6_corners_14 ?_
    cases h
    exact J6
  · rw [if_neg c4] at h
    refine ax_iconst cx dX6_corners_10 ?_
    refine ax_goto cx 15 dX6_corners_11 (by decide) ?_
    cases h
    exact J6
def fX6_resting_L2 : Nat → Mem → Int → Int → Option (Mem)
  | 0, _, _, _ => none
  | n + 1, M, x1, x2 =>
    gd (inR (x2)) (
    if 36 ≤ x2 then (
      some (M))
    else (
      gd (inB (x2) 36) (
      gd (inB (x2) 36) (
      fX6_resting_L2 n (wr M 12 x2.toNat (M 4 x2.toNat)) x1 (x2 + 1)))))
def fX6_resting_L28 : Nat → Mem → Int → Int → Option (Int × Mem)
  | 0, _, _, _ => none
  | n + 1, M, x1, x2 =>
    Option.bind (fX6_breath M) (fun t9 =>
    gd (inR (t9.1)) (
    if t9.1 ≤ 0 then (
      some (x2, t9.2))
    else (
      fX6_resting_L28 n t9.2 x1 (x2 + 1))))
def fX6_resting_L49 : Nat → Mem → Int → Int → Int → Int → Option (Mem)
  | 0, _, _, _, _, _ => none
  | n + 1, M, x1, x2, x3, x4 =>
    gd (inR (x4)) (
    if 36 ≤ x4 then (
      some (M))
    else (
      gd (inB (x4) 36) (
      gd (inB (x4) 36) (
      fX6_resting_L49 n (wr M 4 x4.toNat (M 12 x4.toNat)) x1 x2 x3 (x4 + 1)))))
def fX6_resting (M : Mem) (x1 : Int) : Option (Int × Mem) :=
    Option.bind (fX6_resting_L2 FU M x1 0) (fun t6 =>
    Option.bind (fX6_resting_L28 FU t6 x1 0) (fun t14 =>
    Option.bind (fX6_energyNow t14.2) (fun t17 =>
    Option.bind (fX6_resting_L49 FU t14.2 x1 t14.1 t17 0) (fun t24 =>
    gd (inR (x1)) (
    Option.bind (if x1 = 0 then (
      some (t14.1))
    else (
      some (t17))) (fun t29 =>
    some (t29, t24)))))))
abbrev rmX6_resting : Room := { frames := 5, cells := 0, slots := 0, locals := 115 }
theorem hl_X6_resting_47 : Cond.fieldLink RX6 47 "PlateauBenchModel" "kept" "[I" ∈ wsX6_resting := by decide +kernel
theorem hl_X6_resting_22 : Cond.fieldLink RX6 22 "PlateauBenchModel" "bubbles" "[I" ∈ wsX6_resting := by decide +kernel
theorem hi_X6_resting_X6 : ∀ x ∈ u_ws RX6 TX6 19, x ∈ wsX6_resting := by decide +kernel
set_option maxRecDepth 100000 in
set_option maxHeartbeats 4000000 in
theorem kX6_resting (l : Launch) (ad : Nat → Nat) (M : Mem) (x1 : Int) (T : Int × Mem) (h : fX6_resting M x1 = some T) : MX l yX6_resting wsX6_resting rmX6_resting wM ad [.ref (ad 14), iV (x1)] M (some (iV (T.1))) T.2 := by
  refine MX.of (cc := cX6_resting) (nL := 5) (rt := (some .int)) (own := RX6) (by decide +kernel) rfl rfl (Nat.le_of_ble_eq_true rfl) wM_ok (fun G cx => ?_)
  show G M 0 [(0, .ref (ad 14)), (1, iV (x1))] []
  have L2 : ∀ (n : Nat) (M : Mem) (x1 : Int) (x2 : Int) (T5 : Mem), fX6_resting_L2 n M x1 x2 = some T5 → (G T5 26 [(0, .ref (ad 14)), (1, iV (x1))] []) → G M 2 [(0, .ref (ad 14)), (1, iV (x1)), (2, iV (x2))] [] := by
    intro n
    induction n with
    | zero =>
      intro M x1 x2 T5 h
      exact absurd h (by simp [fX6_resting_L2])
    | succ n ih =>
      intro M x1 x2 T5 h hJ
      rw [fX6_resting_L2] at h
      refine ax_iload_n cx 2 dX6_resting_2 rfl rfl ?_
      refine ax_bipush (z := 36) cx dX6_resting_3 (by decide) ?_
      obtain ⟨g1, h⟩ := gd_some h
      refine ax_icmp_ge cx 26 dX6_resting_5 (by decide) g1 ⟨by decide, by decide⟩ (fun c2 => ?_) (fun c2 => ?_)
      · rw [if_pos c2] at h
        refine ax_lv cx [0, 1] rfl ?_
        cases h
        exact hJ
      · rw [if_neg c2] at h
        refine ax_aload_n cx 0 dX6_resting_8 rfl rfl ?_
        refine ax_getf (q := 14) (ci := 6) (k := 16) (v := .ref (ad 12)) cx ⟨by decide, by decide⟩ rfl rfl hi_X6_resting_X6 (by decide) hl_X6_resting_47 rfl rfl dX6_resting_9 ?_
        refine ax_iload_n cx 2 dX6_resting_12 rfl rfl ?_
        refine ax_aload_n cx 0 dX6_resting_13 rfl rfl ?_
        refine ax_getf (q := 14) (ci := 6) (k := 6) (v := .ref (ad 4)) cx ⟨by decide, by decide⟩ rfl rfl hi_X6_resting_X6 (by decide) hl_X6_resting_22 rfl rfl dX6_resting_14 ?_
        refine ax_iload_n cx 2 dX6_resting_17 rfl rfl ?_
        obtain ⟨g3, h⟩ := gd_some h
        refine ax_iald (n := 36) cx (by decide) rfl rfl g3 dX6_resting_18 ?_
        obtain ⟨g4, h⟩ := gd_some h
        refine ax_iast (n := 36) cx (by decide) rfl rfl g4 dX6_resting_19 ?_
        refine ax_iinc (lv' := [(2, iV (x2 + 1)), (0, .ref (ad 14)), (1, iV (x1))]) cx 2 dX6_resting_20 rfl (by decide) rfl ?_
        refine ax_goto cx 2 dX6_resting_23 (by decide) ?_
        refine ax_lv cx [1, 2, 0] rfl ?_
        exact ih _ _ _ _ h hJ
  have L28 : ∀ (n : Nat) (M : Mem) (x1 : Int) (x2 : Int) (T13 : Int × Mem), fX6_resting_L28 n M x1 x2 = some T13 → (G T13.2 41 [(0, .ref (ad 14)), (1, iV (x1)), (2, iV (T13.1))] []) → G M 28 [(0, .ref (ad 14)), (1, iV (x1)), (2, iV (x2))] [] := by
    intro n
    induction n with
    | zero =>
      intro M x1 x2 T13 h
      exact absurd h (by simp [fX6_resting_L28])
    | succ n ih =>
      intro M x1 x2 T13 h hJ
      rw [fX6_resting_L28] at h
      refine ax_aload_n cx 0 dX6_resting_28 rfl rfl ?_
      obtain ⟨t9, e10, h⟩ := ob h
      refine ax_callV (As := []) (q := 14) (ci := 6) (n := 0) cx (kX6_breath l ad M  _ e10) gX6_resting_X6_breath rfl ⟨by decide, by decide⟩ rfl rfl ⟨rfl, rfl⟩ (by decide +kernel) rfl ⟨by decide, by decide⟩ rfl (Nat.le_of_ble_eq_true rfl) dX6_resting_29 ?_
      obtain ⟨g11, h⟩ := gd_some h
      refine ax_if_le cx 41 dX6_resting_32 (by decide) g11 (fun c12 => ?_) (fun c12 => ?_)
      · rw [if_pos c12] at h
        cases h
        exact hJ
      · rw [if_neg c12] at h
        refine ax_iinc (lv' := [(2, iV (x2 + 1)), (0, .ref (ad 14)), (1, iV (x1))]) cx 2 dX6_resting_35 rfl (by decide) rfl ?_
        refine ax_goto cx 28 dX6_resting_38 (by decide) ?_
        refine ax_lv cx [1, 2, 0] rfl ?_
        exact ih _ _ _ _ h hJ
  have L49 : ∀ (n : Nat) (M : Mem) (x1 : Int) (x2 : Int) (x3 : Int) (x4 : Int) (T23 : Mem), fX6_resting_L49 n M x1 x2 x3 x4 = some T23 → (G T23 76 [(1, iV (x1)), (2, iV (x2)), (3, iV (x3))] []) → G M 49 [(0, .ref (ad 14)), (1, iV (x1)), (2, iV (x2)), (3, iV (x3)), (4, iV (x4))] [] := by
    intro n
    induction n with
    | zero =>
      intro M x1 x2 x3 x4 T23 h
      exact absurd h (by simp [fX6_resting_L49])
    | succ n ih =>
      intro M x1 x2 x3 x4 T23 h hJ
      rw [fX6_resting_L49] at h
      refine ax_iload cx 4 dX6_resting_49 rfl ?_
      refine ax_bipush (z := 36) cx dX6_resting_51 (by decide) ?_
      obtain ⟨g19, h⟩ := gd_some h
      refine ax_icmp_ge cx 76 dX6_resting_53 (by decide) g19 ⟨by decide, by decide⟩ (fun c20 => ?_) (fun c20 => ?_)
      · rw [if_pos c20] at h
        refine ax_lv cx [1, 2, 3] rfl ?_
        cases h
        exact hJ
      · rw [if_neg c20] at h
        refine ax_aload_n cx 0 dX6_resting_56 rfl rfl ?_
        refine ax_getf (q := 14) (ci := 6) (k := 6) (v := .ref (ad 4)) cx ⟨by decide, by decide⟩ rfl rfl hi_X6_resting_X6 (by decide) hl_X6_resting_22 rfl rfl dX6_resting_57 ?_
        refine ax_iload cx 4 dX6_resting_60 rfl ?_
        refine ax_aload_n cx 0 dX6_resting_62 rfl rfl ?_
        refine ax_getf (q := 14) (ci := 6) (k := 16) (v := .ref (ad 12)) cx ⟨by decide, by decide⟩ rfl rfl hi_X6_resting_X6 (by decide) hl_X6_resting_47 rfl rfl dX6_resting_63 ?_
        refine ax_iload cx 4 dX6_resting_66 rfl ?_
        obtain ⟨g21, h⟩ := gd_some h
        refine ax_iald (n := 36) cx (by decide) rfl rfl g21 dX6_resting_68 ?_
        obtain ⟨g22, h⟩ := gd_some h
        refine ax_iast (n := 36) cx (by decide) rfl rfl g22 dX6_resting_69 ?_
        refine ax_iinc (lv' := [(4, iV (x4 + 1)), (0, .ref (ad 14)), (1, iV (x1)), (2, iV (x2)), (3, iV (x3))]) cx 4 dX6_resting_70 rfl (by decide) rfl ?_
        refine ax_goto cx 49 dX6_resting_73 (by decide) ?_
        refine ax_lv cx [1, 2, 3, 4, 0] rfl ?_
        exact ih _ _ _ _ _ _ h hJ
  unfold fX6_resting at h
  refine ax_iconst cx dX6_resting_0 ?_
  refine ax_istore_n (lv' := [(2, iV (0)), (0, .ref (ad 14)), (1, iV (x1))]) cx dX6_resting_1 rfl (by decide) rfl ?_
  obtain ⟨t6, e7, h⟩ := ob h
  refine ax_lv cx [1, 2, 0] rfl ?_
  have J8 : G t6 26 [(0, .ref (ad 14)), (1, iV (x1))] [] := by
    refine ax_iconst cx dX6_resting_26 ?_
    refine ax_istore_n (lv' := [(2, iV (0)), (0, .ref (ad 14)), (1, iV (x1))]) cx dX6_resting_27 rfl (by decide) rfl ?_
    obtain ⟨t14, e15, h⟩ := ob h
    refine ax_lv cx [1, 2, 0] rfl ?_
    have J16 : G t14.2 41 [(0, .ref (ad 14)), (1, iV (x1)), (2, iV (t14.1))] [] := by
      refine ax_aload_n cx 0 dX6_resting_41 rfl rfl ?_
      obtain ⟨t17, e18, h⟩ := ob h
      refine ax_callV (As := []) (q := 14) (ci := 6) (n := 0) cx (kX6_energyNow l ad t14.2  _ e18) gX6_resting_X6_energyNow rfl ⟨by decide, by decide⟩ rfl rfl ⟨rfl, rfl⟩ (by decide +kernel) rfl ⟨by decide, by decide⟩ rfl (Nat.le_of_ble_eq_true rfl) dX6_resting_42 ?_
      refine ax_istore_n (lv' := [(3, iV (t17)), (0, .ref (ad 14)), (1, iV (x1)), (2, iV (t14.1))]) cx dX6_resting_45 rfl (by decide) rfl ?_
      refine ax_iconst cx dX6_resting_46 ?_
      refine ax_istore (lv' := [(4, iV (0)), (3, iV (t17)), (0, .ref (ad 14)), (1, iV (x1)), (2, iV (t14.1))]) cx dX6_resting_47 (by decide) rfl ?_
      obtain ⟨t24, e25, h⟩ := ob h
      refine ax_lv cx [2, 3, 4, 1, 0] rfl ?_
      have J26 : G t24 76 [(1, iV (x1)), (2, iV (t14.1)), (3, iV (t17))] [] := by
        refine ax_iload_n cx 0 dX6_resting_76 rfl rfl ?_
        obtain ⟨g27, h⟩ := gd_some h
        obtain ⟨t29, e31, h⟩ := ob h
        have J30 : G t24 85 [] [iV (t29)] := by
          cases h
          exact ax_iret cx dX6_resting_85 rfl ⟨rfl, rfl⟩
        clear h
        have h := e31
        clear e31
        refine ax_if_eq cx 84 dX6_resting_77 (by decide) g27 (fun c28 => ?_) (fun c28 => ?_)
        · rw [if_pos c28] at h
          refine ax_iload_n cx 1 dX6_resting_84 rfl rfl ?_
          refine ax_lv cx [] rfl ?_
          cases h
          exact J30
        · rw [if_neg c28] at h
          refine ax_iload_n cx 2 dX6_resting_80 rfl rfl ?_
          refine ax_goto cx 85 dX6_resting_81 (by decide) ?_
          refine ax_lv cx [] rfl ?_
          cases h
          exact J30
      exact L49 FU t14.2 x1 t14.1 t17 0 _ e25 J26
    exact L28 FU t6 x1 0 _ e15 J16
  exact L2 FU M x1 0 _ e7 J8
def fX6_rests (M : Mem)  : Option (Int × Mem) :=
    Option.bind (fX6_resting (wr M 100 0 0) 0) (fun t1 =>
    some (t1.1, t1.2))
abbrev rmX6_rests : Room := { frames := 6, cells := 0, slots := 0, locals := 139 }
theorem hl_X6_rests_57 : Cond.fieldLink RX6 57 "PlateauBenchModel" "thrown" "I" ∈ wsX6_rests := by decide +kernel
theorem hi_X6_rests_X6 : ∀ x ∈ u_ws RX6 TX6 19, x ∈ wsX6_rests := by decide +kernel
set_option maxRecDepth 100000 in
set_option maxHeartbeats 4000000 in
theorem kX6_rests (l : Launch) (ad : Nat → Nat) (M : Mem)  (T : Int × Mem) (h : fX6_rests M  = some T) : MX l yX6_rests wsX6_rests rmX6_rests wM ad [.ref (ad 14)] M (some (iV (T.1))) T.2 := by
  refine MX.of (cc := cX6_rests) (nL := 1) (rt := (some .int)) (own := RX6) (by decide +kernel) rfl rfl (Nat.le_of_ble_eq_true rfl) wM_ok (fun G cx => ?_)
  show G M 0 [(0, .ref (ad 14))] []
  unfold fX6_rests at h
  refine ax_aload_n cx 0 dX6_rests_0 rfl rfl ?_
  refine ax_iconst cx dX6_rests_1 ?_
  refine ax_putf (q := 14) (ci := 6) (k := 0) (f := 100) (ty := .int) cx ⟨by decide, by decide⟩ rfl rfl hi_X6_rests_X6 tyX6 tyX6_ok nmX6 (by decide) hl_X6_rests_57 rfl (by decide +kernel) (by decide +kernel) rfl rfl (Nat.le_of_ble_eq_true rfl) (by decide) rfl (putM_100 ad _ _) dX6_rests_2 ?_
  refine ax_aload_n cx 0 dX6_rests_5 rfl rfl ?_
  refine ax_iconst cx dX6_rests_6 ?_
  obtain ⟨t1, e2, h⟩ := ob h
  refine ax_callV (As := [iV (0)]) (q := 14) (ci := 6) (n := 1) cx (kX6_resting l ad (wr M 100 0 0) 0 _ e2) gX6_rests_X6_resting rfl ⟨by decide, by decide⟩ rfl rfl ⟨rfl, rfl⟩ (by decide +kernel) rfl ⟨by decide, by decide⟩ rfl (Nat.le_of_ble_eq_true rfl) dX6_rests_7 ?_
  cases h
  exact ax_iret cx dX6_rests_10 rfl ⟨rfl, rfl⟩
def fX6_energy (M : Mem) (x1 : Int) : Option (Int × Mem) :=
    Option.bind (fX6_in M x1 0 4) (fun t1 =>
    gd (inR (t1)) (
    Option.bind (if t1 = 0 then (
      some (1))
    else (
      some (0))) (fun t5 =>
    Option.bind (fX6_refused M t5) (fun t8 =>
    gd (inR (t8.1)) (
    if t8.1 = 0 then (
      gd (inR (x1)) (
      if x1 = 0 then (
        Option.bind (fX6_energyNow t8.2) (fun t17 =>
        some (t17, t8.2)))
      else if x1 = 1 then (
        Option.bind (fX6_resting t8.2 1) (fun t19 =>
        some (t19.1, t19.2)))
      else if x1 = 2 then (
        some (t8.2 102 0, t8.2))
      else if x1 = 3 then (
        some (t8.2 103 0, t8.2))
      else (
        Option.bind (fX6_energyNow t8.2) (fun t21 =>
        some ((t21 + (t8.2 103 0)) - (t8.2 102 0), t8.2)))))
    else (
      some (0, t8.2)))))))
abbrev rmX6_energy : Room := { frames := 6, cells := 0, slots := 0, locals := 139 }
theorem hl_X6_energy_76 : Cond.fieldLink RX6 76 "PlateauBenchModel" "work" "I" ∈ wsX6_energy := by decide +kernel
theorem hl_X6_energy_162 : Cond.fieldLink RX6 162 "PlateauBenchModel" "lost" "I" ∈ wsX6_energy := by decide +kernel
theorem hi_X6_energy_X6 : ∀ x ∈ u_ws RX6 TX6 19, x ∈ wsX6_energy := by decide +kernel
set_option maxRecDepth 100000 in
set_option maxHeartbeats 4000000 in
theorem kX6_energy (l : Launch) (ad : Nat → Nat) (M : Mem) (x1 : Int) (T : Int × Mem) (h : fX6_energy M x1 = some T) : MX l yX6_energy wsX6_energy rmX6_energy wM ad [.ref (ad 14), iV (x1)] M (some (iV (T.1))) T.2 := by
  refine MX.of (cc := cX6_energy) (nL := 2) (rt := (some .int)) (own := RX6) (by decide +kernel) rfl rfl (Nat.le_of_ble_eq_true rfl) wM_ok (fun G cx => ?_)
  show G M 0 [(0, .ref (ad 14)), (1, iV (x1))] []
  unfold fX6_energy at h
  refine ax_aload_n cx 0 dX6_energy_0 rfl rfl ?_
  refine ax_iload_n cx 1 dX6_energy_1 rfl rfl ?_
  refine ax_iconst cx dX6_energy_2 ?_
  refine ax_iconst cx dX6_energy_3 ?_
  obtain ⟨t1, e2, h⟩ := ob h
  refine ax_callS (As := [iV (x1), iV (0), iV (4)]) (n := 3) cx (kX6_in l ad M x1 0 4 _ e2) gX6_energy_X6_in rfl ⟨rfl, rfl⟩ (by decide +kernel) rfl ⟨by decide, by decide⟩ rfl (Nat.le_of_ble_eq_true rfl) dX6_energy_4 ?_
  obtain ⟨g3, h⟩ := gd_some h
  obtain ⟨t5, e7, h⟩ := ob h
  have J6 : G M 15 [(0, .ref (ad 14)), (1, iV (x1))] [iV (t5), .ref (ad 14)] := by
    obtain ⟨t8, e9, h⟩ := ob h
    refine ax_callV (As := [iV (t5)]) (q := 14) (ci := 6) (n := 1) cx (kX6_refused l ad M t5 _ e9) gX6_energy_X6_refused rfl ⟨by decide, by decide⟩ rfl rfl ⟨rfl, rfl⟩ (by decide +kernel) rfl ⟨by decide, by decide⟩ rfl (Nat.le_of_ble_eq_true rfl) dX6_energy_15 ?_
    obtain ⟨g10, h⟩ := gd_some h
    refine ax_if_eq cx 23 dX6_energy_18 (by decide) g10 (fun c11 => ?_) (fun c11 => ?_)
    · rw [if_pos c11] at h
      refine ax_iload_n cx 1 dX6_energy_23 rfl rfl ?_
      obtain ⟨g12, h⟩ := gd_some h
      by_cases c13 : x1 = 0
      · rw [if_pos c13] at h
        refine ax_tableIn (off := 32) cx 56 dX6_energy_24 g12 (by rw [c13]; decide) (by rw [c13]; decide) (by rw [c13]; rfl) (by decide) ?_
        refine ax_aload_n cx 0 dX6_energy_56 rfl rfl ?_
        obtain ⟨t17, e18, h⟩ := ob h
        refine ax_callV (As := []) (q := 14) (ci := 6) (n := 0) cx (kX6_energyNow l ad t8.2  _ e18) gX6_energy_X6_energyNow rfl ⟨by decide, by decide⟩ rfl rfl ⟨rfl, rfl⟩ (by decide +kernel) rfl ⟨by decide, by decide⟩ rfl (Nat.le_of_ble_eq_true rfl) dX6_energy_57 ?_
        cases h
        exact ax_iret cx dX6_energy_60 rfl ⟨rfl, rfl⟩
      rw [if_neg c13] at h
      by_cases c14 : x1 = 1
      · rw [if_pos c14] at h
        refine ax_tableIn (off := 37) cx 61 dX6_energy_24 g12 (by rw [c14]; decide) (by rw [c14]; decide) (by rw [c14]; rfl) (by decide) ?_
        refine ax_aload_n cx 0 dX6_energy_61 rfl rfl ?_
        refine ax_iconst cx dX6_energy_62 ?_
        obtain ⟨t19, e20, h⟩ := ob h
        refine ax_callV (As := [iV (1)]) (q := 14) (ci := 6) (n := 1) cx (kX6_resting l ad t8.2 1 _ e20) gX6_energy_X6_resting rfl ⟨by decide, by decide⟩ rfl rfl ⟨rfl, rfl⟩ (by decide +kernel) rfl ⟨by decide, by decide⟩ rfl (Nat.le_of_ble_eq_true rfl) dX6_energy_63 ?_
        cases h
        exact ax_iret cx dX6_energy_66 rfl ⟨rfl, rfl⟩
      rw [if_neg c14] at h
      by_cases c15 : x1 = 2
      · rw [if_pos c15] at h
        refine ax_tableIn (off := 43) cx 67 dX6_energy_24 g12 (by rw [c15]; decide) (by rw [c15]; decide) (by rw [c15]; rfl) (by decide) ?_
        refine ax_aload_n cx 0 dX6_energy_67 rfl rfl ?_
        refine ax_getf (q := 14) (ci := 6) (k := 8) (v := iV (t8.2 102 0)) cx ⟨by decide, by decide⟩ rfl rfl hi_X6_energy_X6 (by decide) hl_X6_energy_76 rfl rfl dX6_energy_68 ?_
        cases h
        exact ax_iret cx dX6_energy_71 rfl ⟨rfl, rfl⟩
      rw [if_neg c15] at h
      by_cases c16 : x1 = 3
      · rw [if_pos c16] at h
        refine ax_tableIn (off := 48) cx 72 dX6_energy_24 g12 (by rw [c16]; decide) (by rw [c16]; decide) (by rw [c16]; rfl) (by decide) ?_
        refine ax_aload_n cx 0 dX6_energy_72 rfl rfl ?_
        refine ax_getf (q := 14) (ci := 6) (k := 9) (v := iV (t8.2 103 0)) cx ⟨by decide, by decide⟩ rfl rfl hi_X6_energy_X6 (by decide) hl_X6_energy_162 rfl rfl dX6_energy_73 ?_
        cases h
        exact ax_iret cx dX6_energy_76 rfl ⟨rfl, rfl⟩
      rw [if_neg c16] at h
      refine ax_tableOut cx 77 dX6_energy_24 g12 (by omega) (by decide) ?_
      refine ax_aload_n cx 0 dX6_energy_77 rfl rfl ?_
      obtain ⟨t21, e22, h⟩ := ob h
      refine ax_callV (As := []) (q := 14) (ci := 6) (n := 0) cx (kX6_energyNow l ad t8.2  _ e22) gX6_energy_X6_energyNow rfl ⟨by decide, by decide⟩ rfl rfl ⟨rfl, rfl⟩ (by decide +kernel) rfl ⟨by decide, by decide⟩ rfl (Nat.le_of_ble_eq_true rfl) dX6_energy_78 ?_
      refine ax_aload_n cx 0 dX6_energy_81 rfl rfl ?_
      refine ax_getf (q := 14) (ci := 6) (k := 9) (v := iV (t8.2 103 0)) cx ⟨by decide, by decide⟩ rfl rfl hi_X6_energy_X6 (by decide) hl_X6_energy_162 rfl rfl dX6_energy_82 ?_
      refine ax_iadd cx dX6_energy_85 ?_
      refine ax_aload_n cx 0 dX6_energy_86 rfl rfl ?_
      refine ax_getf (q := 14) (ci := 6) (k := 8) (v := iV (t8.2 102 0)) cx ⟨by decide, by decide⟩ rfl rfl hi_X6_energy_X6 (by decide) hl_X6_energy_76 rfl rfl dX6_energy_87 ?_
      refine ax_isub cx dX6_energy_90 ?_
      cases h
      exact ax_iret cx dX6_energy_91 rfl ⟨rfl, rfl⟩
    · rw [if_neg c11] at h
      refine ax_iconst cx dX6_energy_21 ?_
      cases h
      exact ax_iret cx dX6_energy_22 rfl ⟨rfl, rfl⟩
  clear h
  have h := e7
  clear e7
  refine ax_if_eq cx 14 dX6_energy_7 (by decide) g3 (fun c4 => ?_) (fun c4 => ?_)
  · rw [if_pos c4] at h
    refine ax_iconst cx dX6_energy_14 ?_
    cases h
    exact J6
  · rw [if_neg c4] at h
    refine ax_iconst cx dX6_energy_10 ?_
    refine ax_goto cx 15 dX6_energy_11 (by decide) ?_
    cases h
    exact J6
